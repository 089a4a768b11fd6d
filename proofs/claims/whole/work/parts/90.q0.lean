/-! ===== squeezes: bits in the order in which they are felt (0 FIRST's, 1 SECOND's, 2 on by numbers), and as the reference has them ===== -/
def fr (j : Nat) : Nat := if j < 2 then 20 + j else j - 2
def uc (b : Nat) : Nat := 2 ^ 20 * (b % 4) + b / 4
theorem uc_tb {b : Nat} (hb : b < 2 ^ 22) (i : Nat) : (uc b).testBit i = if i < 20 then b.testBit (i + 2) else (decide (i - 20 < 2) && b.testBit (i - 20)) := by
  unfold uc
  rw [Nat.testBit_two_pow_mul_add (i := 20) (b % 4) (show b / 4 < 2 ^ 20 by omega)]
  have e1 : (b / 4).testBit i = b.testBit (i + 2) := by
    rw [show (4 : Nat) = 2 ^ 2 from rfl, Nat.testBit_div_two_pow]
  have e2 : (b % 4).testBit (i - 20) = (decide (i - 20 < 2) && b.testBit (i - 20)) := by
    rw [show (4 : Nat) = 2 ^ 2 from rfl, Nat.testBit_mod_two_pow]
  rw [e1, e2]
theorem uc_lt {b : Nat} (hb : b < 2 ^ 22) : uc b < 2 ^ 22 := by unfold uc; omega
theorem uc_0 : uc 0 = 0 := rfl
theorem uc_eq0 {b : Nat} : uc b = 0 ↔ b = 0 := by unfold uc; omega
theorem fr_lt {j : Nat} (h : j < 22) : fr j < 22 := by unfold fr; split <;> omega
theorem uc_fr {b j : Nat} (hb : b < 2 ^ 22) (hj : j < 22) : (uc b).testBit (fr j) = b.testBit j := by
  rw [uc_tb hb]
  unfold fr
  by_cases h : j < 2
  · rw [if_pos h, if_neg (by omega), show 20 + j - 20 = j by omega]
    simp [h]
  · rw [if_neg h, if_pos (by omega), show j - 2 + 2 = j by omega]
theorem uc_or {b j : Nat} (hb : b < 2 ^ 22) (hj : j < 22) : uc (b ||| 2 ^ j) = uc b ||| 2 ^ fr j := by
  have hb2 : b ||| 2 ^ j < 2 ^ 22 := or_lt hb (Nat.pow_lt_pow_right (by decide) hj)
  apply Nat.eq_of_testBit_eq
  intro i
  rw [uc_tb hb2, tb_or (uc b), uc_tb hb, tb_or, tb_or]
  unfold fr
  by_cases h : i < 20
  · simp only [if_pos h]
    by_cases h2 : j < 2
    · rw [if_pos h2, decide_eq_false (show ¬ i + 2 = j by omega), decide_eq_false (show ¬ i = 20 + j by omega)]
    · rw [if_neg h2]
      congr 1
      exact decide_eq_decide.mpr (by omega)
  · simp only [if_neg h]
    by_cases h2 : j < 2
    · rw [if_pos h2]
      by_cases h3 : i - 20 < 2
      · rw [decide_eq_true h3, Bool.true_and, Bool.true_and]
        congr 1
        exact decide_eq_decide.mpr (by omega)
      · rw [decide_eq_false h3, Bool.false_and, Bool.false_and, decide_eq_false (show ¬ i = 20 + j by omega)]
        rfl
    · rw [if_neg h2, decide_eq_false (show ¬ i = j - 2 by omega), Bool.or_false]
      by_cases h3 : i - 20 < 2
      · rw [decide_eq_false (show ¬ i - 20 = j by omega), Bool.or_false]
      · rw [decide_eq_false h3, Bool.false_and, Bool.false_and]
/-- the bits of a number, counted in either order -/
theorem pc_uc {b : Nat} (hb : b < 2 ^ 22) : pcN (uc b) = pcN b := by
  unfold pcN
  have e1 : fb_ct (fun k => (uc b).testBit k) 22 = fb_ct (fun k => b.testBit (k + 2)) 20 + fb_ct (fun k => b.testBit k) 2 := by
    have s : fb_ct (fun k => (uc b).testBit k) 22 = fb_ct (fun k => (uc b).testBit k) (20 + 2) := rfl
    rw [s, fb_ct_split]
    congr 1
    · refine fb_ct_cong (fun k hk => ?_)
      show (uc b).testBit k = b.testBit (k + 2)
      rw [uc_tb hb, if_pos hk]
    · refine fb_ct_cong (fun k hk => ?_)
      show (uc b).testBit (20 + k) = b.testBit k
      rw [uc_tb hb, if_neg (by omega), show 20 + k - 20 = k by omega]
      simp [hk]
  have e2 : fb_ct (fun k => b.testBit k) 22 = fb_ct (fun k => b.testBit k) 2 + fb_ct (fun k => b.testBit (2 + k)) 20 := by
    have s : fb_ct (fun k => b.testBit k) 22 = fb_ct (fun k => b.testBit k) (2 + 20) := rfl
    rw [s, fb_ct_split]
  have e3 : fb_ct (fun k => b.testBit (2 + k)) 20 = fb_ct (fun k => b.testBit (k + 2)) 20 := fb_ct_cong (fun k _ => by show b.testBit (2 + k) = b.testBit (k + 2); rw [Nat.add_comm])
  omega
/-! ===== it is passed on ===== -/
/-- to whom, when: up to the m-th of the people -/
abbrev psC (hd sl : Nat → Nat) (p τ j m t q : Nat) : Prop := q < m ∧ (j < 2 ∨ q ≠ j - 2) ∧ (hd p).testBit q = true ∧ t = τ + (if (sl p).testBit q then 3 else 0) ∧ t ≤ 400
def passS (hd sl : Nat → Nat) (p τ j m : Nat) (pe : Nat → Nat → Nat) : Nat → Nat → Nat := fun t q => if psC hd sl p τ j m t q then pe t q ||| 2 ^ (p + 2) else pe t q
theorem passS_0 (hd sl : Nat → Nat) (p τ j : Nat) (pe : Nat → Nat → Nat) : passS hd sl p τ j 0 pe = pe := by
  funext t q
  unfold passS
  rw [if_neg (fun w => absurd w.1 (Nat.not_lt_zero q))]
/-- the next one gets nothing -/
theorem passS_no {hd sl : Nat → Nat} {p τ j m : Nat} {pe : Nat → Nat → Nat} (h : ¬ ((j < 2 ∨ m ≠ j - 2) ∧ (hd p).testBit m = true ∧ τ + (if (sl p).testBit m then 3 else 0) ≤ 400)) : passS hd sl p τ j (m + 1) pe = passS hd sl p τ j m pe := by
  funext t q
  unfold passS
  by_cases c : psC hd sl p τ j m t q
  · rw [if_pos c, if_pos ⟨by have := c.1; omega, c.2⟩]
  · rw [if_neg c, if_neg]
    rintro ⟨w1, w2, w3, w4, w5⟩
    by_cases e : q = m
    · subst e
      exact h ⟨w2, w3, by omega⟩
    · exact c ⟨by omega, w2, w3, w4, w5⟩
/-- the next one gets it, at a -/
theorem passS_yes {hd sl : Nat → Nat} {p τ j m a : Nat} {pe : Nat → Nat → Nat} (h1 : j < 2 ∨ m ≠ j - 2) (h2 : (hd p).testBit m = true) (h3 : a = τ + (if (sl p).testBit m then 3 else 0)) (h4 : a ≤ 400) (t q : Nat) : passS hd sl p τ j (m + 1) pe t q = if t = a ∧ q = m then passS hd sl p τ j m pe t q ||| 2 ^ (p + 2) else passS hd sl p τ j m pe t q := by
  unfold passS
  by_cases e : t = a ∧ q = m
  · obtain ⟨e1, e2⟩ := e
    subst e1; subst e2
    rw [if_pos ⟨Nat.lt_succ_self q, h1, h2, h3, h4⟩, if_pos ⟨rfl, rfl⟩, if_neg (fun w => absurd w.1 (Nat.lt_irrefl q))]
  · rw [if_neg e]
    by_cases c : psC hd sl p τ j m t q
    · rw [if_pos c, if_pos ⟨by have := c.1; omega, c.2⟩]
    · rw [if_neg c, if_neg]
      rintro ⟨w1, w2, w3, w4, w5⟩
      by_cases e2 : q = m
      · subst e2
        exact e ⟨by omega, rfl⟩
      · exact c ⟨by omega, w2, w3, w4, w5⟩
/-- bits only come to it -/
theorem passS_lt {hd sl : Nat → Nat} {p τ j m : Nat} {pe : Nat → Nat → Nat} (hp : p < 20) {t q : Nat} (h : pe t q < 2 ^ 22) : passS hd sl p τ j m pe t q < 2 ^ 22 := by
  unfold passS
  split
  · exact or_lt h (Nat.pow_lt_pow_right (by decide) (by omega))
  · exact h
theorem passS_early {hd sl : Nat → Nat} {p τ j m : Nat} {pe : Nat → Nat → Nat} {t q : Nat} (h : t < τ) : passS hd sl p τ j m pe t q = pe t q := by
  unfold passS
  rw [if_neg]
  rintro ⟨w1, w2, w3, w4, w5⟩
  have : τ ≤ t := by rw [w4]; exact Nat.le_add_right _ _
  omega
theorem passS_late {hd sl : Nat → Nat} {p τ j m : Nat} {pe : Nat → Nat → Nat} {t q : Nat} (h : τ + 3 < t) : passS hd sl p τ j m pe t q = pe t q := by
  unfold passS
  rw [if_neg]
  rintro ⟨w1, w2, w3, w4, w5⟩
  have : t ≤ τ + 3 := by rw [w4]; split <;> omega
  omega
/-- the class's wheel: what is due at the times behind t -/
def DueR (t n : Nat) (pe : Nat → Nat → Nat) (due : Nat → Int32) : Prop := ∀ t' q, t < t' → t' < t + 32 → q < n → due (20 * (t' % 32) + q) = nI (pe t' q)
/-- the reference's row of all times, SECOND's beside it -/
def ComR (n : Nat) (sec pe : Nat → Nat → Nat) (com : Nat → Int32) : Prop := ∀ t q, t ≤ 400 → q < n → com (20 * t + q) = nI (uc (pe t q ||| sec t q))
theorem slotI {a q : Nat} (ha : a ≤ 500) (hq : q < 20) : (nI a - nI a / 32 * 32) * 20 + nI q = nI (20 * (a % 32) + q) := by
  rw [show (32 : Int32) = nI 32 from rfl, pk_rem (by omega) (by decide) (by decide), show (20 : Int32) = nI 20 from rfl, pk_mul, nI_add, Nat.mul_comm]
theorem comI (t q : Nat) : (20 : Int32) * nI t + nI q = nI (20 * t + q) := by
  rw [show (20 : Int32) = nI 20 from rfl, pk_mul, nI_add]
/-- from whom, as the class has it and as the reference has it -/
def srcC (j : Nat) : Int32 := if j < 2 then -1 else nI (j - 2)
theorem srcC_ne {j q : Nat} (hj : j < 22) (hq : q < 20) : (nI q = srcC j) ↔ ¬ (j < 2 ∨ q ≠ j - 2) := by
  unfold srcC
  by_cases h : j < 2
  · rw [if_pos h]
    exact ⟨fun w => absurd w (nI_ne_m1 (by omega)), fun w => absurd (Or.inl h) w⟩
  · rw [if_neg h, nI_eq (by omega) (by omega)]
    omega
theorem frI_ne {j q : Nat} (hj : j < 22) (hq : q < 20) : (nI q = nI (fr j)) ↔ ¬ (j < 2 ∨ q ≠ j - 2) := by
  rw [nI_eq (by omega) (by have := fr_lt hj; omega)]
  unfold fr
  by_cases h : j < 2
  · rw [if_pos h]; omega
  · rw [if_neg h]; omega
section pass
variable {n sc mn : Nat} {hd sl rg kd lt : Nat → Nat}
theorem bI0 : nI (if (false : Bool) = true then 1 else 0) = 0 := by rw [if_neg (by decide)]; rfl
theorem bI1 : ¬ nI (if (true : Bool) = true then 1 else 0) = 0 := by rw [if_pos rfl]; exact nI_ne0 (by decide) (by decide)
/-- the class passes on -/
theorem C_pass_go (hN : PeoN n sc mn hd sl rg kd lt) {H S : Nat → Int32} (hH : ∀ p, p < n → H p = nI (hd p) ∧ S p = nI (sl p)) {p t τ j : Nat} (hp : p < n) (ht : t ≤ 400) (hτ : t < τ) (hτ2 : τ ≤ t + 18) (hj : j < 22) (pe : Nat → Nat → Nat) : ∀ (m q ld : Nat) (due : Nat → Int32), q + m = n → ld ≤ 400 → t ≤ ld → DueR t n (passS hd sl p τ j q pe) due → (∀ t' q', t < t' → t' ≤ 400 → q' < n → passS hd sl p τ j q pe t' q' ≠ 0 → t' ≤ ld) → ∀ f, m < f → ∃ (ld2 : Nat) (due2 : Nat → Int32), fS_passOn_T_3 (nI p) (nI τ) (srcC j) (nI n) H S f (nI q) (nI ld) due = some (nI ld2, due2) ∧ ld2 ≤ 400 ∧ ld ≤ ld2 ∧ DueR t n (passS hd sl p τ j n pe) due2 ∧ (∀ t' q', t < t' → t' ≤ 400 → q' < n → passS hd sl p τ j n pe t' q' ≠ 0 → t' ≤ ld2) ∧ (∀ k, 20 * (t % 32) ≤ k → k < 20 * (t % 32) + 20 → due2 k = due k) := by
  intro m
  induction m with
  | zero =>
    intro q ld due hq hl htl hD hL f hf
    obtain ⟨f, rfl⟩ : ∃ g, f = g + 1 := ⟨f - 1, by omega⟩
    have e : q = n := by omega
    subst e
    refine ⟨ld, due, ?_, hl, Nat.le_refl _, hD, hL, fun _ _ _ => rfl⟩
    show fS_passOn_T_3_b _ _ _ _ _ _ _ _ _ _ = _
    unfold fS_passOn_T_3_b
    rw [if_pos (nI_le (Nat.le_refl _) (by have := hN.1; omega))]
  | succ m ih =>
    intro q ld due hq hl htl hD hL f hf
    obtain ⟨f, rfl⟩ : ∃ g, f = g + 1 := ⟨f - 1, by omega⟩
    have n20 := hN.1
    have hb := hN.2.2.2.1 p hp
    have p20 : 2 ^ n ≤ 2 ^ 20 := Nat.pow_le_pow_right (by decide) n20
    have e20 : (2 : Nat) ^ 20 < 2 ^ 31 := by decide
    have hd31 : hd p < 2 ^ 31 := by omega
    have sl31 : sl p < 2 ^ 31 := by omega
    have skip : ¬ ((j < 2 ∨ q ≠ j - 2) ∧ (hd p).testBit q = true ∧ τ + (if (sl p).testBit q then 3 else 0) ≤ 400) → ∃ (ld2 : Nat) (due2 : Nat → Int32), fS_passOn_T_3 (nI p) (nI τ) (srcC j) (nI n) H S f (nI (q + 1)) (nI ld) due = some (nI ld2, due2) ∧ ld2 ≤ 400 ∧ ld ≤ ld2 ∧ DueR t n (passS hd sl p τ j n pe) due2 ∧ (∀ t' q', t < t' → t' ≤ 400 → q' < n → passS hd sl p τ j n pe t' q' ≠ 0 → t' ≤ ld2) ∧ (∀ k, 20 * (t % 32) ≤ k → k < 20 * (t % 32) + 20 → due2 k = due k) := by
      intro c
      exact ih (q + 1) ld due (by omega) hl htl (by rw [passS_no c]; exact hD) (by rw [passS_no c]; exact hL) f (by omega)
    show ∃ (ld2 : Nat) (due2 : Nat → Int32), fS_passOn_T_3_b _ _ _ _ _ _ _ _ _ _ = _ ∧ _
    unfold fS_passOn_T_3_b fS_passOn_T_121
    rw [if_neg (nI_ge (show q < n by omega) (by omega)), nI_1]
    by_cases c1 : nI q = srcC j
    · rw [if_pos c1]
      exact skip (fun w => (srcC_ne hj (by omega)).mp c1 w.1)
    · have c1' : j < 2 ∨ q ≠ j - 2 := by
        by_cases w : j < 2 ∨ q ≠ j - 2
        · exact w
        · exact absurd ((srcC_ne hj (by omega)).mpr w) c1
      rw [if_neg c1, ck_nI (show p < 20 by omega) (by decide), nI_clamp (show p < 2 ^ 31 by omega), (hH p hp).1, bitN hd31 (by omega)]
      cases t1 : (hd p).testBit q
      · rw [if_pos bI0]
        exact skip (fun w => by rw [t1] at w; exact absurd w.2.1 (by decide))
      · rw [if_neg bI1, ck_nI (show p < 20 by omega) (by decide), (hH p hp).2, bitN sl31 (by omega)]
        -- when
        obtain ⟨a, ha⟩ : ∃ a : Nat, a = τ + (if (sl p).testBit q then 3 else 0) := ⟨_, rfl⟩
        have ab : t < a ∧ a ≤ t + 21 := by
          rw [ha]
          split <;> omega
        have at1 : (if nI (if (sl p).testBit q then 1 else 0) = 0 then fS_passOn_T_65 (fS_passOn_T_3 (nI p) (nI τ) (srcC j) (nI n) H S f) (nI p) (nI τ) (srcC j) (nI q) (nI τ) (nI n) H S (nI ld) due else fS_passOn_T_65 (fS_passOn_T_3 (nI p) (nI τ) (srcC j) (nI n) H S f) (nI p) (nI τ) (srcC j) (nI q) (nI τ + 3) (nI n) H S (nI ld) due) = fS_passOn_T_65 (fS_passOn_T_3 (nI p) (nI τ) (srcC j) (nI n) H S f) (nI p) (nI τ) (srcC j) (nI q) (nI a) (nI n) H S (nI ld) due := by
          rw [ha]
          cases (sl p).testBit q
          · rw [if_pos bI0, if_neg (by decide), Nat.add_zero]
          · rw [if_neg bI1, if_pos rfl, ← nI_add]
            rfl
        rw [at1]
        unfold fS_passOn_T_65 fS_passOn_T_118 fS_passOn_T_121
        rcases Nat.lt_or_ge 400 a with a4 | a4
        · rw [if_pos (show (400 : Int32) < nI a from nI_lt (a := 400) a4 (by omega)), nI_1]
          exact skip (fun w => by have := w.2.2; omega)
        · have e2 : nI p + 2 = nI (p + 2) := nI_add p 2
          have ix := slotI (a := a) (q := q) (by omega) (by omega)
          rw [if_neg (show ¬ (400 : Int32) < nI a from nI_nlt (a := 400) a4 (by decide)), ix, ck_nI (show 20 * (a % 32) + q < 640 by omega) (by decide), ck_nI (show 20 * (a % 32) + q < 640 by omega) (by decide), nI_clamp (show 20 * (a % 32) + q < 2 ^ 31 by omega), e2, hD a q ab.1 (by omega) (by omega), orbit (show p + 2 < 32 by omega), nI_1]
          have step : ∀ t' q', passS hd sl p τ j (q + 1) pe t' q' = if t' = a ∧ q' = q then passS hd sl p τ j q pe t' q' ||| 2 ^ (p + 2) else passS hd sl p τ j q pe t' q' := passS_yes c1' t1 ha a4
          have hD2 : DueR t n (passS hd sl p τ j (q + 1) pe) (upd due (20 * (a % 32) + q) (nI (passS hd sl p τ j q pe a q ||| 2 ^ (p + 2)))) := by
            intro t' q' g1 g2 g3
            rw [step]
            by_cases e : t' = a ∧ q' = q
            · rw [if_pos e, e.1, e.2, pk_us]
            · rw [if_neg e, pk_un (by omega)]
              exact hD t' q' g1 g2 g3
          have slot : ∀ k, 20 * (t % 32) ≤ k → k < 20 * (t % 32) + 20 → upd due (20 * (a % 32) + q) (nI (passS hd sl p τ j q pe a q ||| 2 ^ (p + 2))) k = due k := by
            intro k k1 k2
            exact pk_un (by omega)
          have nz : ∀ t' q', t < t' → t' ≤ 400 → q' < n → passS hd sl p τ j (q + 1) pe t' q' ≠ 0 → t' ≤ ld ∨ t' = a := by
            intro t' q' g1 g2 g3 g4
            rw [step] at g4
            by_cases e : t' = a ∧ q' = q
            · exact Or.inr e.1
            · rw [if_neg e] at g4
              exact Or.inl (hL t' q' g1 g2 g3 g4)
          have go : ∀ l2 : Nat, ld ≤ l2 → a ≤ l2 → l2 ≤ 400 → ∃ (ld2 : Nat) (due2 : Nat → Int32), fS_passOn_T_3 (nI p) (nI τ) (srcC j) (nI n) H S f (nI (q + 1)) (nI l2) (upd due (20 * (a % 32) + q) (nI (passS hd sl p τ j q pe a q ||| 2 ^ (p + 2)))) = some (nI ld2, due2) ∧ ld2 ≤ 400 ∧ ld ≤ ld2 ∧ DueR t n (passS hd sl p τ j n pe) due2 ∧ (∀ t' q', t < t' → t' ≤ 400 → q' < n → passS hd sl p τ j n pe t' q' ≠ 0 → t' ≤ ld2) ∧ (∀ k, 20 * (t % 32) ≤ k → k < 20 * (t % 32) + 20 → due2 k = due k) := by
            intro l2 g1 g2 g3
            obtain ⟨x1, x2, x3, x4, x5, x6, x7, x8⟩ := ih (q + 1) l2 _ (by omega) g3 (by omega) hD2 (fun t' q' w1 w2 w3 w4 => by rcases nz t' q' w1 w2 w3 w4 with w | w <;> omega) f (by omega)
            exact ⟨x1, x2, x3, x4, by omega, x6, x7, fun k k1 k2 => (x8 k k1 k2).trans (slot k k1 k2)⟩
          rcases Nat.lt_or_ge ld a with q9 | q9
          · rw [if_neg (nI_ge q9 (by omega))]
            exact go a (by omega) (Nat.le_refl _) a4
          · rw [if_pos (nI_le q9 (by omega))]
            exact go ld (Nat.le_refl _) q9 hl
end pass
