/-! ===== the class's least doubt, and whom it chose ===== -/
section wk8
variable {x y z P : Nat} {tm : Nat → Nat} {at_ : Nat → Int32}
theorem work_ok (h1 : 1 ≤ x) (h2 : x ≤ y) (h3 : y ≤ 9) (hz : z ≤ 20) (hP0 : 0 < P) (hP : P ≤ 20) (ha : ∀ k, k < P → at_ k = nI (tm k) ∧ tm k ≤ 400) {a : Nat} (hA : a ≤ 5) (lea : Nat → Int32) : ∃ lea2 : Nat → Int32, fP_work (nI a) (nI P) (nI x) (nI y) (nI z) at_ lea = some lea2 ∧ (∀ k', k' ≤ a → k' = 0 ∨ k' + 2 ≤ P → TabR (gp x y z tm) P (k' + 1) lea2) ∧ lea2 0 = nI (gp x y z tm 0 (P - 1)) := by
  have go : ∀ (m i : Nat) (lea : Nat → Int32), i + m = P → (∀ j, j < i → lea j = nI (gp x y z tm j (P - 1))) → ∀ f, m < f → ∃ lea2 : Nat → Int32, fP_work_2 (nI a) (nI P) (nI x) (nI y) (nI z) at_ f (nI i) lea = some lea2 ∧ (∀ k', k' ≤ a → k' = 0 ∨ k' + 2 ≤ P → TabR (gp x y z tm) P (k' + 1) lea2) ∧ lea2 0 = nI (gp x y z tm 0 (P - 1)) := by
    intro m
    induction m with
    | zero =>
      intro i lea hi hR f hf
      obtain ⟨f, rfl⟩ : ∃ f', f = f' + 1 := ⟨f - 1, by omega⟩
      have hT : TabR (gp x y z tm) P (0 + 1) lea := fun k j hk hj => by
        have e : k = 0 := by omega
        subst e
        rw [show 20 * 0 + j = j by omega]
        exact hR j (by omega)
      obtain ⟨lea2, r1, r2, r3⟩ := work35_go h1 h2 h3 hz hP ha hA a 0 lea (by omega) hT FU (by rw [FU_eq]; omega)
      refine ⟨lea2, ?_, fun k' hk' q => r2 k' hk' (by omega), ?_⟩
      · show fP_work_2_b _ _ _ _ _ _ _ _ _ = _
        unfold fP_work_2_b
        rw [if_pos (nI_le (show P ≤ i by omega) (by omega))]
        exact r1
      · by_cases e : P = 1
        · rw [r3 e]; exact hR 0 (by omega)
        · exact r2 0 (by omega) (by omega) 0 0 (by omega) (by omega)
    | succ m ih =>
      intro i lea hi hR f hf
      obtain ⟨f, rfl⟩ : ∃ f', f = f' + 1 := ⟨f - 1, by omega⟩
      obtain ⟨lea2, r1, r2, r3⟩ := ih (i + 1) (upd lea i (nI (gp x y z tm i (P - 1)))) (by omega) (fun j hj => by
        by_cases e : j = i
        · subst e; exact pk_us
        · rw [pk_un e]; exact hR j (by omega)) f (by omega)
      refine ⟨lea2, ?_, r2, r3⟩
      show fP_work_2_b _ _ _ _ _ _ _ _ _ = _
      unfold fP_work_2_b
      have e1 : nI P - 1 = nI (P - 1) := pk_sub (b := 1) (by omega)
      rw [if_neg (nI_ge (show i < P by omega) (by omega)), e1, P_gap_eq h1 h2 h3 hz hP ha (show i < P by omega) (show P - 1 < P by omega), bd_some, ck_nI (by omega) (by decide), nI_clamp (by omega), nI_1]
      exact r1
  unfold fP_work
  exact go P 0 lea (by omega) (fun j hj => absurd hj (Nat.not_lt_zero j)) FU (by rw [FU_eq]; omega)
theorem leastD_eq {n : Nat} (hn : n ≤ 5) (lea : Nat → Int32) : fP_leastDoubt (nI n) lea = some (lea (20 * n)) := by
  unfold fP_leastDoubt
  have e : nI n * 20 = nI (20 * n) := by
    rw [show (20 : Int32) = nI 20 from rfl, pk_mul, Nat.mul_comm]
  rw [e, ck_nI (by omega) (by decide), nI_clamp (by omega)]
theorem chosen_ok (h1 : 1 ≤ x) (h2 : x ≤ y) (h3 : y ≤ 9) (hz : z ≤ 20) (hP : P ≤ 20) (ha : ∀ k, k < P → at_ k = nI (tm k) ∧ tm k ≤ 400) {n : Nat} (hn : n ≤ 5) (hn2 : n + 2 ≤ P) (who : Nat → Int32) {lea : Nat → Int32} (hT : TabR (gp x y z tm) P (n + 1) lea) {i : Nat} (hi : i < n) : fP_chosen (nI n) (nI i) (nI P) (nI x) (nI y) (nI z) who at_ lea = some (who (wlk (gp x y z tm) (P - 1) n 0 i)) ∧ wlk (gp x y z tm) (P - 1) n 0 i < P := by
  have go : ∀ (m s p : Nat), s + m = i → p + (n - s) < P - 1 → ∀ f, m + 1 < f → fP_chosen_5 (nI n) (nI i) (nI P) (nI x) (nI y) (nI z) who at_ lea f (nI p) (nI s) = some (who (wlk (gp x y z tm) (P - 1) (n - s) p m)) ∧ wlk (gp x y z tm) (P - 1) (n - s) p m < P := by
    intro m
    induction m with
    | zero =>
      intro s p hs hp f hf
      obtain ⟨f, rfl⟩ : ∃ f', f = f' + 1 := ⟨f - 1, by omega⟩
      obtain ⟨f, rfl⟩ : ∃ f', f = f' + 1 := ⟨f - 1, by omega⟩
      obtain ⟨k, hk⟩ : ∃ k, n - s = k + 1 := ⟨n - s - 1, by omega⟩
      obtain ⟨q1, q2, _, _⟩ := nex_ok (gp x y z tm) (e := P - 1) (k := k) (i := p) (by omega)
      have nP := nextP_eq h1 h2 h3 hz hP ha (show k ≤ 4 by omega) (show p + 1 + k < P - 1 by omega) (lea := lea) (fun j hj => hT k j (by omega) hj) (fun j hj => by have := lst_le (y := y) h1 hz (fun k hk => (ha k hk).2) k j hj; omega)
      have e2 : nI n - nI s = nI (k + 1) := by rw [pk_sub (by omega), hk]
      rw [hk]
      refine ⟨?_, ?_⟩
      · show fP_chosen_5_b _ _ _ _ _ _ _ _ _ _ _ _ = _
        unfold fP_chosen_5_b
        rw [if_neg (nI_nlt (show s ≤ i by omega) (by omega)), if_neg (nI_ge (show s < n by omega) (by omega)), e2, nP, bd_some, nI_1]
        show fP_chosen_5_b _ _ _ _ _ _ _ _ _ _ _ _ = _
        unfold fP_chosen_5_b fP_chosen_33
        rw [if_pos (nI_lt (show i < s + 1 by omega) (by omega)), ck_nI (by omega) (by decide), nI_clamp (by omega)]
        rfl
      · show nex (gp x y z tm) (P - 1) k p < P
        omega
    | succ m ih =>
      intro s p hs hp f hf
      obtain ⟨f, rfl⟩ : ∃ f', f = f' + 1 := ⟨f - 1, by omega⟩
      obtain ⟨k, hk⟩ : ∃ k, n - s = k + 1 := ⟨n - s - 1, by omega⟩
      obtain ⟨q1, q2, _, _⟩ := nex_ok (gp x y z tm) (e := P - 1) (k := k) (i := p) (by omega)
      have nP := nextP_eq h1 h2 h3 hz hP ha (show k ≤ 4 by omega) (show p + 1 + k < P - 1 by omega) (lea := lea) (fun j hj => hT k j (by omega) hj) (fun j hj => by have := lst_le (y := y) h1 hz (fun k hk => (ha k hk).2) k j hj; omega)
      have e2 : nI n - nI s = nI (k + 1) := by rw [pk_sub (by omega), hk]
      have e3 : n - (s + 1) = k := by omega
      have r := ih (s + 1) (nex (gp x y z tm) (P - 1) k p) (by omega) (by omega) f (by omega)
      rw [e3] at r
      rw [hk]
      refine ⟨?_, r.2⟩
      show fP_chosen_5_b _ _ _ _ _ _ _ _ _ _ _ _ = _
      unfold fP_chosen_5_b
      rw [if_neg (nI_nlt (show s ≤ i by omega) (by omega)), if_neg (nI_ge (show s < n by omega) (by omega)), e2, nP, bd_some, nI_1]
      exact r.1
  unfold fP_chosen
  exact go i 0 0 (by omega) (by omega) FU (by rw [FU_eq]; omega)
end wk8
