section pass2
variable {n sc mn : Nat} {hd sl rg kd lt : Nat → Nat}
theorem bI1' : nI (if (true : Bool) = true then 1 else 0) = 1 := by rw [if_pos rfl]; rfl
theorem bIn1 : ¬ nI (if (false : Bool) = true then 1 else 0) = 1 := by rw [if_neg (by decide)]; decide
/-- the reference passes on -/
theorem M_pass_go (hN : PeoN n sc mn hd sl rg kd lt) {K' L' C' H' R' M' : Nat → Int32} (hM : PeoM n sc mn hd rg kd lt K' L' C' H' R' M') {p τ j : Nat} (hp : p < n) (hτ : τ ≤ 430) (hj : j < 22) (pe sec : Nat → Nat → Nat) (hpe : ∀ t q, pe t q < 2 ^ 22) (hsec : ∀ t q, sec t q < 2 ^ 22) : ∀ (m q : Nat) (com : Nat → Int32), q + m = n → ComR n sec (passS hd sl p τ j q pe) com → ∀ f, m < f → ∃ com2 : Nat → Int32, fM_passes_3 (nI p) (nI τ) (nI (fr j)) (nI n) C' H' R' f (nI q) com = some com2 ∧ ComR n sec (passS hd sl p τ j n pe) com2 := by
  intro m
  induction m with
  | zero =>
    intro q com hq hC f hf
    obtain ⟨f, rfl⟩ : ∃ g, f = g + 1 := ⟨f - 1, by omega⟩
    have e : q = n := by omega
    subst e
    refine ⟨com, ?_, hC⟩
    show fM_passes_3_b _ _ _ _ _ _ _ _ _ _ = _
    unfold fM_passes_3_b
    rw [if_pos (nI_le (Nat.le_refl _) (by have := hN.1; omega))]
  | succ m ih =>
    intro q com hq hC f hf
    obtain ⟨f, rfl⟩ : ∃ g, f = g + 1 := ⟨f - 1, by omega⟩
    have n20 := hN.1
    have hb := hN.2.2.2.1 p hp
    have p20 : 2 ^ n ≤ 2 ^ 20 := Nat.pow_le_pow_right (by decide) n20
    have e20 : (2 : Nat) ^ 20 < 2 ^ 31 := by decide
    have hd31 : hd p < 2 ^ 31 := by omega
    have rg31 : rg p < 2 ^ 31 := by omega
    have skip : ¬ ((j < 2 ∨ q ≠ j - 2) ∧ (hd p).testBit q = true ∧ τ + (if (sl p).testBit q then 3 else 0) ≤ 400) → ∃ com2 : Nat → Int32, fM_passes_3 (nI p) (nI τ) (nI (fr j)) (nI n) C' H' R' f (nI (q + 1)) com = some com2 ∧ ComR n sec (passS hd sl p τ j n pe) com2 := by
      intro c
      exact ih (q + 1) com (by omega) (by rw [passS_no c]; exact hC) f (by omega)
    show ∃ com2 : Nat → Int32, fM_passes_3_b _ _ _ _ _ _ _ _ _ _ = _ ∧ _
    unfold fM_passes_3_b fM_passes_107
    rw [if_neg (nI_ge (show q < n by omega) (by omega)), ck_nI (show p < 20 by omega) (by decide), nI_clamp (show p < 2 ^ 31 by omega), hM.1 p hp, M_isIn_eq hd31 (by omega), bd_some, nI_1]
    cases t1 : (hd p).testBit q
    · rw [if_pos (show (if (false : Bool) = true then (1 : Int32) else 0) = 0 by rw [if_neg (by decide)])]
      exact skip (fun w => by rw [t1] at w; exact absurd w.2.1 (by decide))
    · rw [if_neg (show ¬ (if (true : Bool) = true then (1 : Int32) else 0) = 0 by rw [if_pos rfl]; decide)]
      by_cases c1 : nI q = nI (fr j)
      · rw [if_pos c1]
        exact skip (fun w => (frI_ne hj (by omega)).mp c1 w.1)
      · have c1' : j < 2 ∨ q ≠ j - 2 := by
          by_cases w : j < 2 ∨ q ≠ j - 2
          · exact w
          · exact absurd ((frI_ne hj (by omega)).mpr w) c1
        rw [if_neg c1]
        have rel := hN.2.2.2.2.2.1 p q hp t1
        obtain ⟨a, ha⟩ : ∃ a : Nat, a = τ + (if (sl p).testBit q then 3 else 0) := ⟨_, rfl⟩
        have a44 : ∀ w : Nat, w = max p q → fM_passes_44 (fM_passes_3 (nI p) (nI τ) (nI (fr j)) (nI n) C' H' R' f) (nI p) (nI τ) (nI (fr j)) (nI q) (nI w) (nI n) C' H' R' com = (if (400 : Int32) < nI a then fM_passes_3 (nI p) (nI τ) (nI (fr j)) (nI n) C' H' R' f (nI (q + 1)) com else ck 8020 ((20 : Int32) * nI a + nI q) (ck 8020 ((20 : Int32) * nI a + nI q) (fM_passes_3 (nI p) (nI τ) (nI (fr j)) (nI n) C' H' R' f (nI (q + 1)) (upd com ((20 : Int32) * nI a + nI q).toNatClampNeg (com ((20 : Int32) * nI a + nI q).toNatClampNeg ||| (1 <<< (nI p &&& 31))))))) := by
          intro w hw
          have wn : w < n := by omega
          have e0 : nI τ + 0 = nI τ := nI_add τ 0
          have e3 : nI τ + 3 = nI (τ + 3) := nI_add τ 3
          unfold fM_passes_44 fM_passes_76 fM_passes_77 fM_passes_107
          rw [ck_nI (show w < 20 by omega) (by decide), nI_clamp (show w < 2 ^ 31 by omega), (hM.2.2 w wn).2.2.1, ck_nI (show p < 20 by omega) (by decide), nI_clamp (show p < 2 ^ 31 by omega), hM.2.1 p hp, M_isIn_eq rg31 (by omega), bd_some, e0, e3, nI_1, ha, rel, ← hw]
          cases sc.testBit w
          · rw [if_neg bIn1]
            simp only [Bool.false_and, Bool.false_eq_true, if_false, Nat.add_zero]
          · rw [if_pos bI1']
            cases (rg p).testBit q
            · rw [if_pos (show (if (false : Bool) = true then (1 : Int32) else 0) = 0 by rw [if_neg (by decide)])]
              simp only [Bool.true_and, Bool.not_false, if_true]
            · rw [if_neg (show ¬ (if (true : Bool) = true then (1 : Int32) else 0) = 0 by rw [if_pos rfl]; decide)]
              simp only [Bool.true_and, Bool.not_true, Bool.false_eq_true, if_false, Nat.add_zero]
        have both : (if nI p ≤ nI q then fM_passes_44 (fM_passes_3 (nI p) (nI τ) (nI (fr j)) (nI n) C' H' R' f) (nI p) (nI τ) (nI (fr j)) (nI q) (nI q) (nI n) C' H' R' com else fM_passes_44 (fM_passes_3 (nI p) (nI τ) (nI (fr j)) (nI n) C' H' R' f) (nI p) (nI τ) (nI (fr j)) (nI q) (nI p) (nI n) C' H' R' com) = (if (400 : Int32) < nI a then fM_passes_3 (nI p) (nI τ) (nI (fr j)) (nI n) C' H' R' f (nI (q + 1)) com else ck 8020 ((20 : Int32) * nI a + nI q) (ck 8020 ((20 : Int32) * nI a + nI q) (fM_passes_3 (nI p) (nI τ) (nI (fr j)) (nI n) C' H' R' f (nI (q + 1)) (upd com ((20 : Int32) * nI a + nI q).toNatClampNeg (com ((20 : Int32) * nI a + nI q).toNatClampNeg ||| (1 <<< (nI p &&& 31))))))) := by
          rcases Nat.lt_or_ge q p with w | w
          · rw [if_neg (nI_ge w (by omega)), a44 p (by omega)]
          · rw [if_pos (nI_le w (by omega)), a44 q (by omega)]
        rw [both]
        have ab : a ≤ 433 := by
          rw [ha]
          split <;> omega
        rcases Nat.lt_or_ge 400 a with a4 | a4
        · rw [if_pos (show (400 : Int32) < nI a from nI_lt (a := 400) a4 (by omega))]
          exact skip (fun w => by have := w.2.2; omega)
        · have pl : passS hd sl p τ j q pe a q < 2 ^ 22 := passS_lt (by omega) (hpe a q)
          have pl2 : passS hd sl p τ j q pe a q ||| sec a q < 2 ^ 22 := or_lt pl (hsec a q)
          rw [if_neg (show ¬ (400 : Int32) < nI a from nI_nlt (a := 400) a4 (by decide)), comI, ck_nI (show 20 * a + q < 8020 by omega) (by decide), ck_nI (show 20 * a + q < 8020 by omega) (by decide), nI_clamp (show 20 * a + q < 2 ^ 31 by omega), hC a q a4 (by omega), orbit (show p < 32 by omega)]
          have ef : uc (passS hd sl p τ j q pe a q ||| sec a q) ||| 2 ^ p = uc ((passS hd sl p τ j q pe a q ||| 2 ^ (p + 2)) ||| sec a q) := by
            have f1 : fr (p + 2) = p := by unfold fr; rw [if_neg (by omega)]; omega
            have := uc_or pl2 (show p + 2 < 22 by omega)
            rw [f1] at this
            rw [← this]
            congr 1
            rw [Nat.or_assoc, Nat.or_comm (sec a q), ← Nat.or_assoc]
          rw [ef]
          refine ih (q + 1) _ (by omega) ?_ f (by omega)
          intro t' q' g1 g2
          rw [passS_yes c1' t1 ha a4]
          by_cases e : t' = a ∧ q' = q
          · rw [if_pos e, e.1, e.2, pk_us]
          · rw [if_neg e, pk_un (by omega)]
            exact hC t' q' g1 g2
theorem M_pass (hN : PeoN n sc mn hd sl rg kd lt) {K' L' C' H' R' M' : Nat → Int32} (hM : PeoM n sc mn hd rg kd lt K' L' C' H' R' M') {p τ j : Nat} (hp : p < n) (hτ : τ ≤ 430) (hj : j < 22) {pe sec : Nat → Nat → Nat} (hpe : ∀ t q, pe t q < 2 ^ 22) (hsec : ∀ t q, sec t q < 2 ^ 22) {com : Nat → Int32} (hC : ComR n sec pe com) : ∃ com2 : Nat → Int32, fM_passes (nI p) (nI τ) (nI (fr j)) (nI n) C' H' R' com = some com2 ∧ ComR n sec (passS hd sl p τ j n pe) com2 := by
  unfold fM_passes
  exact M_pass_go hN hM hp hτ hj pe sec hpe hsec n 0 com (by omega) (by rw [passS_0]; exact hC) FU (by rw [FU_eq]; have := hN.1; omega)
theorem C_pass (hN : PeoN n sc mn hd sl rg kd lt) {H S : Nat → Int32} (hH : ∀ p, p < n → H p = nI (hd p) ∧ S p = nI (sl p)) {p t τ j : Nat} (hp : p < n) (ht : t ≤ 400) (hτ : t < τ) (hτ2 : τ ≤ t + 18) (hj : j < 22) {pe : Nat → Nat → Nat} {ld : Nat} {due : Nat → Int32} (hl : ld ≤ 400) (htl : t ≤ ld) (hD : DueR t n pe due) (hL : ∀ t' q', t < t' → t' ≤ 400 → q' < n → pe t' q' ≠ 0 → t' ≤ ld) : ∃ (ld2 : Nat) (due2 : Nat → Int32), fS_passOn_T (nI p) (nI τ) (srcC j) (nI n) H S (nI ld) due = some (nI ld2, due2) ∧ ld2 ≤ 400 ∧ ld ≤ ld2 ∧ DueR t n (passS hd sl p τ j n pe) due2 ∧ (∀ t' q', t < t' → t' ≤ 400 → q' < n → passS hd sl p τ j n pe t' q' ≠ 0 → t' ≤ ld2) ∧ (∀ k, 20 * (t % 32) ≤ k → k < 20 * (t % 32) + 20 → due2 k = due k) := by
  unfold fS_passOn_T
  exact C_pass_go hN hH hp ht hτ hτ2 hj pe n 0 ld due (by omega) hl htl (by rw [passS_0]; exact hD) (by rw [passS_0]; exact hL) FU (by rw [FU_eq]; have := hN.1; omega)
end pass2
/-- the trial's passing is the other's -/
theorem passU_3 (a b c e : Int32) (H S : Nat → Int32) : ∀ f, fS_passOn_U_3 a b c e H S f = fS_passOn_T_3 a b c e H S f
  | 0 => rfl
  | f + 1 => by
    funext q l d
    show fS_passOn_U_3_b (fS_passOn_U_3 a b c e H S f) a b c e H S q l d = fS_passOn_T_3_b (fS_passOn_T_3 a b c e H S f) a b c e H S q l d
    rw [passU_3 a b c e H S f]
    rfl
theorem passU (a b c e : Int32) (H S : Nat → Int32) (l : Int32) (d : Nat → Int32) : fS_passOn_U a b c e H S l d = fS_passOn_T a b c e H S l d := by
  unfold fS_passOn_U fS_passOn_T
  rw [passU_3]
