/-! ===== the class's table ===== -/
section work
variable {x y z P : Nat} {tm : Nat → Nat} {at_ : Nat → Int32}
theorem lst_le (h1 : 1 ≤ x) (hz : z ≤ 20) (ht : ∀ k, k < P → tm k ≤ 400) : ∀ k i, i + k < P - 1 → lst (gp x y z tm) (P - 1) k i ≤ 420 * (k + 1)
  | 0, i, h => by
    have := gp_le (y := y) h1 hz ht (show i < P by omega) (show P - 1 < P by omega)
    show gp x y z tm i (P - 1) ≤ _
    omega
  | k + 1, i, h => by
    obtain ⟨a, b, _, _⟩ := nex_ok (gp x y z tm) (e := P - 1) (k := k) (i := i) (by omega)
    have r := lst_le h1 hz ht k (nex (gp x y z tm) (P - 1) k i) b
    have := gp_le (y := y) h1 hz ht (show i < P by omega) (show nex (gp x y z tm) (P - 1) k i < P by omega)
    show gp x y z tm i (nex (gp x y z tm) (P - 1) k i) + lst (gp x y z tm) (P - 1) k (nex (gp x y z tm) (P - 1) k i) ≤ _
    omega
/-- the rows of the table below K are laid -/
def TabR (g : Nat → Nat → Nat) (P K : Nat) (lea : Nat → Int32) : Prop := ∀ k j, k < K → j + k < P - 1 → lea (20 * k + j) = nI (lst g (P - 1) k j)
theorem work50_go (h1 : 1 ≤ x) (h2 : x ≤ y) (h3 : y ≤ 9) (hz : z ≤ 20) (hP : P ≤ 20) (ha : ∀ k, k < P → at_ k = nI (tm k) ∧ tm k ≤ 400) (a : Int32) {k : Nat} (hk : k ≤ 4) (hk2 : k + 1 ≤ P - 2) (k35 : Int32 → (Nat → Int32) → Option (Nat → Int32)) : ∀ (m i : Nat) (lea : Nat → Int32), i + m = P - 1 - (k + 1) → TabR (gp x y z tm) P (k + 1) lea → (∀ j, j < i → lea (20 * (k + 1) + j) = nI (lst (gp x y z tm) (P - 1) (k + 1) j)) → ∀ f, m < f → ∃ lea2 : Nat → Int32, fP_work_50 k35 a (nI (k + 1)) (nI P) (nI x) (nI y) (nI z) at_ f (nI i) lea = k35 (nI (k + 2)) lea2 ∧ TabR (gp x y z tm) P (k + 2) lea2 := by
  have hb : ∀ j, j + k < P - 1 → lst (gp x y z tm) (P - 1) k j < 2 ^ 20 := fun j hj => by have := lst_le (y := y) h1 hz (fun k hk => (ha k hk).2) k j hj; omega
  intro m
  induction m with
  | zero =>
    intro i lea hi hT hR f hf
    obtain ⟨f, rfl⟩ : ∃ f', f = f' + 1 := ⟨f - 1, by omega⟩
    refine ⟨lea, ?_, fun k' j h h' => ?_⟩
    · show fP_work_50_b _ _ a _ _ _ _ _ _ _ _ = _
      unfold fP_work_50_b
      rw [nI_add, show (1 : Int32) = nI 1 from rfl, pk_sub (by omega), if_pos (nI_le (by omega) (by omega)), nI_add]
    · by_cases e : k' = k + 1
      · subst e; exact hR j (by omega)
      · exact hT k' j (by omega) h'
  | succ m ih =>
    intro i lea hi hT hR f hf
    obtain ⟨f, rfl⟩ : ∃ f', f = f' + 1 := ⟨f - 1, by omega⟩
    obtain ⟨n1, n2, _, _⟩ := nex_ok (gp x y z tm) (e := P - 1) (k := k) (i := i) (by omega)
    have nP := nextP_eq h1 h2 h3 hz hP ha hk (show i + 1 + k < P - 1 by omega) (lea := lea) (fun j hj => hT k j (by omega) hj) hb
    have th := through_eq h1 h2 h3 hz hP ha hk (show i < P by omega) (show nex (gp x y z tm) (P - 1) k i < P by omega) (L := lst (gp x y z tm) (P - 1) k) (lea := lea) (hT k _ (by omega) n2)
    obtain ⟨lea2, r1, r2⟩ := ih (i + 1) (upd lea (20 * (k + 1) + i) (nI (lst (gp x y z tm) (P - 1) (k + 1) i))) (by omega) (fun k' j h h' => by rw [pk_un (by omega)]; exact hT k' j h h') (fun j hj => by
      by_cases e : j = i
      · subst e; exact pk_us
      · rw [pk_un (by omega)]; exact hR j (by omega)) f (by omega)
    refine ⟨lea2, ?_, r2⟩
    have ix : nI (k + 1) * 20 + nI i = nI (20 * (k + 1) + i) := by
      rw [show (20 : Int32) = nI 20 from rfl, pk_mul, nI_add, Nat.mul_comm]
    show fP_work_50_b _ _ a _ _ _ _ _ _ _ _ = _
    unfold fP_work_50_b
    rw [if_neg (show ¬ (nI P - 1) ≤ (nI i + nI (k + 1)) by rw [nI_add, show (1 : Int32) = nI 1 from rfl, pk_sub (by omega)]; exact nI_ge (by omega) (by omega)), nP, bd_some, th, bd_some, ix, ck_nI (by omega) (by decide), nI_clamp (by omega), nI_1]
    exact r1
end work
