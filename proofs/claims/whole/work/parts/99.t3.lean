/-! ===== what a choice costs, and the least ===== -/
/-- from i by the k posts of c to the end e -/
def cst (g : Nat → Nat → Nat) (e : Nat) : Nat → Nat → (Nat → Nat) → Nat
  | 0, i, _ => g i e
  | k + 1, i, c => g i (c 0) + cst g e k (c 0) (fun j => c (j + 1))
/-- behind i, going up, k of them, all before e -/
def Vi (e : Nat) : Nat → Nat → (Nat → Nat) → Prop
  | 0, _, _ => True
  | k + 1, i, c => i < c 0 ∧ c 0 + k < e ∧ Vi e k (c 0) (fun j => c (j + 1))
theorem cst_cong {g : Nat → Nat → Nat} {e : Nat} : ∀ {k i : Nat} {c d : Nat → Nat}, eqK k c d → cst g e k i c = cst g e k i d
  | 0, _, _, _, _ => rfl
  | k + 1, i, c, d, h => by
    show g i (c 0) + cst g e k (c 0) (fun j => c (j + 1)) = g i (d 0) + cst g e k (d 0) (fun j => d (j + 1))
    rw [h 0 (by omega), cst_cong (fun j hj => h (j + 1) (by omega))]
/-- first among the best: nothing that costs less, and nothing as good before it -/
def BestF (g : Nat → Nat → Nat) (e k i : Nat) (c : Nat → Nat) : Prop := Vi e k i c ∧ ∀ d, Vi e k i d → cst g e k i c ≤ cst g e k i d ∧ (cst g e k i d = cst g e k i c → ¬ lexL k d c)
theorem BestF_one {g : Nat → Nat → Nat} {e k i : Nat} {c d : Nat → Nat} (h : BestF g e k i c) (q : BestF g e k i d) : eqK k c d := by
  have a := (h.2 d q.1).1
  have b := (q.2 c h.1).1
  rcases lex3 c d k with w | w | w
  · exact absurd w ((q.2 c h.1).2 (by omega))
  · exact w
  · exact absurd w ((h.2 d q.1).2 (by omega))
/-- the first best: one step, and the first best behind it -/
theorem BestF_step {g : Nat → Nat → Nat} {e k i j : Nat} {L : Nat → Nat} {c : Nat → Nat} (hj : i < j ∧ j + k < e) (hL : ∀ x, i < x → x + k < e → (∃ d, BestF g e k x d) ∧ ∀ d, BestF g e k x d → cst g e k x d = L x) (h1 : ∀ x, i < x → x + k < e → g i j + L j ≤ g i x + L x) (h2 : ∀ x, i < x → x < j → ¬ g i x + L x = g i j + L j) (hc : BestF g e k j (fun a => c (a + 1))) (h0 : c 0 = j) : BestF g e (k + 1) i c := by
  have cL := (hL j hj.1 hj.2).2 _ hc
  refine ⟨⟨by rw [h0]; exact hj.1, by rw [h0]; exact hj.2, by rw [h0]; exact hc.1⟩, fun d hd => ?_⟩
  obtain ⟨d1, d2, d3⟩ := hd
  obtain ⟨⟨b, hb⟩, hb2⟩ := hL (d 0) d1 d2
  have eb := hb2 b hb
  have le := (hb.2 _ d3).1
  have x1 := h1 (d 0) d1 d2
  have eC : cst g e (k + 1) i c = g i j + L j := by
    show g i (c 0) + cst g e k (c 0) (fun a => c (a + 1)) = _
    rw [h0, cL]
  have eD : cst g e (k + 1) i d = g i (d 0) + cst g e k (d 0) (fun a => d (a + 1)) := rfl
  refine ⟨by omega, fun eq lx => ?_⟩
  obtain ⟨m, m1, m2, m3⟩ := lx
  have eqL : cst g e k (d 0) (fun a => d (a + 1)) = L (d 0) ∧ g i (d 0) + L (d 0) = g i j + L j := by omega
  rcases Nat.eq_zero_or_pos m with w | w
  · subst w
    exact h2 (d 0) d1 (by omega) eqL.2
  · have d0 : d 0 = j := (m2 0 w).trans h0
    rw [d0] at eqL d3
    refine (hc.2 _ d3).2 (by omega) ⟨m - 1, by omega, fun a ha => m2 (a + 1) (by omega), ?_⟩
    show d (m - 1 + 1) < c (m - 1 + 1)
    rw [show m - 1 + 1 = m by omega]
    exact m3
