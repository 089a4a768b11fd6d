/-! ===== all of a time ===== -/
def arr (sec : Nat → Nat → Nat) (t : Nat) (pt : Nat → Nat) (q : Nat) : Nat := pcN (pt q ||| sec t q)
theorem slot0 {t : Nat} (ht : t ≤ 400) : (nI t - nI t / 32 * 32) * 20 = nI (20 * (t % 32)) := by
  have := slotI (a := t) (q := 0) (by omega) (by decide)
  rw [show nI 0 = (0 : Int32) from rfl, Int32.add_zero] at this
  exact this

theorem pl_U {n sc mn fi : Nat} {hd sl rg kd lt : Nat → Nat} {K L H S K' L' C' H' R' M' : Nat → Int32} {sec : Nat → Nat → Nat} (hR : RowR n sc mn hd sl rg kd lt K L H S K' L' C' H' R' M') (hsec : ∀ t q, sec t q < 2 ^ 22) (slI : Int32) {t : Nat} (ht : t ≤ 400) (k133 : Int32 → run5) (pt : Nat → Nat) (hpt : ∀ q, pt q < 2 ^ 22) : ∀ (m p ld s : Nat) (E : Nat → Nat) (Fl : Nat → Bool) (fe lo pe : Nat → Nat → Nat) (bu : Nat → Nat) (unr : Int32) (due com busy felt lost first busyM feltM fB lB : Nat → Int32), p + m = n → t ≤ ld → SqA t n fi (440 * t + 22 * p) ld s hd sec pe E Fl fe lo bu unr due com busy felt lost first busyM feltM fB lB → (∀ q, pe t q = pt q) → (∀ q, p ≤ q → q < n → due (20 * (t % 32) + q) = nI (pt q ||| sec t q)) → (∀ q, q < p → due (20 * (t % 32) + q) = 0) → ∀ f g, m < f → m < g →
    ∃ (ld2 s2 : Nat) (E2 : Nat → Nat) (Fl2 : Nat → Bool) (fe2 lo2 pe2 : Nat → Nat → Nat) (bu2 : Nat → Nat) (unr2 : Int32) (due2 com2 busy2 felt2 lost2 first2 busyM2 feltM2 fB2 lB2 : Nat → Int32),
      fS_feelAll_U_2 (nI t) (nI (20 * (t % 32))) (nI n) K L H S slI f (nI p) (nI ld) unr due busy felt lost first = some (nI ld2, unr2, due2, busy2, felt2, lost2, first2) ∧
      fM_runs_144 k133 slI (nI t) (nI n) K' L' C' H' R' g (nI p) com busyM feltM fB lB = k133 (nI (t + 1)) com2 busyM2 feltM2 fB2 lB2 ∧
      SqA t n fi (440 * (t + 1)) ld2 s2 hd sec pe2 E2 Fl2 fe2 lo2 bu2 unr2 due2 com2 busy2 felt2 lost2 first2 busyM2 feltM2 fB2 lB2 ∧ ld ≤ ld2 ∧ (∀ q, q < n → due2 (20 * (t % 32) + q) = 0) ∧ Ext n s s2 E E2 Fl Fl2 ∧ s2 + fb_sm (arr sec t pt) p = s + fb_sm (arr sec t pt) n := by
  intro m
  have n20 := hR.1.1
  have t32 : t % 32 < 32 := Nat.mod_lt _ (by decide)
  induction m with
  | zero =>
    intro p ld s E Fl fe lo pe bu unr due com busy felt lost first busyM feltM fB lB hp htl h hpe hd1 hd0 f g hf hg
    obtain ⟨f, rfl⟩ : ∃ f', f = f' + 1 := ⟨f - 1, by omega⟩
    obtain ⟨g, rfl⟩ : ∃ g', g = g' + 1 := ⟨g - 1, by omega⟩
    have hp : p = n := by omega
    subst hp
    refine ⟨ld, s, E, Fl, fe, lo, pe, bu, unr, due, com, busy, felt, lost, first, busyM, feltM, fB, lB, ?_, ?_, ⟨h.1, SqN_mono h.2.1 (by omega), h.2.2⟩, Nat.le_refl _, hd0, Ext.rf _ _ _ _, rfl⟩
    · show fS_feelAll_U_2_b _ _ _ _ _ _ _ _ _ _ _ _ _ _ _ _ _  = _
      unfold fS_feelAll_U_2_b
      rw [if_pos (nI_le (Nat.le_refl p) (by omega))]
    · show fM_runs_144_b _ _ _ _ _ _ _ _ _ _ _ _ _ _ _ _ = _
      unfold fM_runs_144_b
      rw [if_pos (nI_le (Nat.le_refl p) (by omega)), nI_1]
  | succ m ih =>
    intro p ld s E Fl fe lo pe bu unr due com busy felt lost first busyM feltM fB lB hp htl h hpe hd1 hd0 f g hf hg
    obtain ⟨f, rfl⟩ : ∃ f', f = f' + 1 := ⟨f - 1, by omega⟩
    obtain ⟨g, rfl⟩ : ∃ g', g = g' + 1 := ⟨g - 1, by omega⟩
    have pn : p < n := by omega
    have b22 : pt p ||| sec t p < 2 ^ 22 := or_lt (hpt p) (hsec t p)
    obtain ⟨⟨pI, pD, pC, pl, pL⟩, hS, hC, hM, hbu⟩ := h
    have eC := pC t p ht pn
    rw [hpe p] at eC
    have sI : nI (20 * (t % 32)) + nI p = nI (20 * (t % 32) + p) := nI_add _ _
    have c1 : (nI (20 * (t % 32) + p)).toNatClampNeg = 20 * (t % 32) + p := nI_clamp (by omega)
    have dv := hd1 p (Nat.le_refl p) pn
    -- with that place empty
    have pD2 : DueR t n pe (upd due (20 * (t % 32) + p) 0) := fun t' q h1 h2 hq => by
      rw [pk_un (by omega)]
      exact pD t' q h1 h2 hq
    have F22 : 22 < FU := by rw [FU_eq]; decide
    have sm1 := fb_sm_succ (arr sec t pt) p
    have smn : fb_sm (arr sec t pt) (p + 1) ≤ fb_sm (arr sec t pt) n := by
      have := fb_sm_mono (arr sec t pt) (p + 1) m
      rw [show p + 1 + m = n by omega] at this
      exact this
    have ea : arr sec t pt p = pcN (pt p ||| sec t p) := rfl
    obtain ⟨ld1, s1', E1, Fl1, fe1, lo1, pe1, bu1, unr1, due1, com1, busy1, felt1, lost1, first1, busyM1, feltM1, fB1, lB1, q1, q2, q3, q4, q5, q6, q7, q8⟩ := in_U hR hsec slI pn ht b22 (nI (20 * (t % 32))) (fS_feelAll_U_2 (nI t) (nI (20 * (t % 32))) (nI n) K L H S slI f) k133 (fM_runs_144 k133 slI (nI t) (nI n) K' L' C' H' R' g) 22 0 ld s E Fl fe lo pe bu unr (upd due (20 * (t % 32) + p) 0) com busy felt lost first busyM feltM fB lB (by omega) htl ⟨⟨pI, pD2, pC, pl, pL⟩, hS, hC, hM, hbu⟩ FU FU F22 F22
    rw [Nat.pow_zero, Nat.div_one] at q1
    have z0 : fb_ct (fun k => (pt p ||| sec t p).testBit k) 0 = 0 := rfl
    have due1p : ∀ q, q < n → due1 (20 * (t % 32) + q) = upd due (20 * (t % 32) + p) 0 (20 * (t % 32) + q) := fun q hq => q5 _ (by omega) (by omega)
    obtain ⟨ld2, s2, E2, Fl2, fe2, lo2, pe2, bu2, unr2, due2, com2, busy2, felt2, lost2, first2, busyM2, feltM2, fB2, lB2, r1, r2, r3, r4, r5, r6, r7⟩ := ih (p + 1) ld1 s1' E1 Fl1 fe1 lo1 pe1 bu1 unr1 due1 com1 busy1 felt1 lost1 first1 busyM1 feltM1 fB1 lB1 (by omega) (by omega) q3 (fun q => (q6 q).trans (hpe q)) (fun q h1 h2 => by rw [due1p q h2, pk_un (by omega)]; exact hd1 q (by omega) h2) (fun q h1 => by
      rw [due1p q (by omega)]
      by_cases e : q = p
      · subst e; exact pk_us
      · rw [pk_un (by omega)]; exact hd0 q (by omega)) f g (by omega) (by omega)
    refine ⟨ld2, s2, E2, Fl2, fe2, lo2, pe2, bu2, unr2, due2, com2, busy2, felt2, lost2, first2, busyM2, feltM2, fB2, lB2, ?_, ?_, r3, by omega, r5, q7.tr r6, by omega⟩
    · show fS_feelAll_U_2_b _ _ _ _ _ _ _ _ _ _ _ _ _ _ _ _ _  = _
      unfold fS_feelAll_U_2_b
      rw [if_neg (nI_ge pn (by omega)), sI, ck_nI (by omega) (by decide), ck_nI (by omega) (by decide), c1, dv]
      exact q1.trans r1
    · show fM_runs_144_b _ _ _ _ _ _ _ _ _ _ _ _ _ _ _ _ = _
      unfold fM_runs_144_b
      rw [if_neg (nI_ge pn (by omega)), comI, ck_nI (by omega) (by decide), nI_clamp (by omega), eC, nm_eq]
      exact q2.trans r2

theorem pl_T {n sc mn fi : Nat} {hd sl rg kd lt : Nat → Nat} {K L H S K' L' C' H' R' M' : Nat → Int32} {sec : Nat → Nat → Nat} (hR : RowR n sc mn hd sl rg kd lt K L H S K' L' C' H' R' M') (hsec : ∀ t q, sec t q < 2 ^ 22) (slI : Int32) {t : Nat} {ne : Nat} (hne : ne < 2 ^ 31) (ht : t ≤ 400) (k133 : Int32 → run5) (pt : Nat → Nat) (hpt : ∀ q, pt q < 2 ^ 22) : ∀ (m p ld s : Nat) (E : Nat → Nat) (Fl : Nat → Bool) (fe lo pe : Nat → Nat → Nat) (bu : Nat → Nat) (unr : Int32) (due com busy felt lost first busyM feltM fB lB : Nat → Int32) (size : Int32) (ent : Nat → Int32), p + m = n → t ≤ ld → SqA t n fi (440 * t + 22 * p) ld s hd sec pe E Fl fe lo bu unr due com busy felt lost first busyM feltM fB lB → (∀ q, pe t q = pt q) → (∀ q, p ≤ q → q < n → due (20 * (t % 32) + q) = nI (pt q ||| sec t q)) → (∀ q, q < p → due (20 * (t % 32) + q) = 0) → DiR s E Fl size ent → s + fb_sm (arr sec t pt) n ≤ ne + fb_sm (arr sec t pt) p → ∀ f g, m < f → m < g →
    ∃ (ld2 s2 : Nat) (E2 : Nat → Nat) (Fl2 : Nat → Bool) (fe2 lo2 pe2 : Nat → Nat → Nat) (bu2 : Nat → Nat) (unr2 : Int32) (due2 com2 busy2 felt2 lost2 first2 busyM2 feltM2 fB2 lB2 : Nat → Int32) (size2 : Int32) (ent2 : Nat → Int32),
      fS_feelAll_T_2 (nI t) (nI (20 * (t % 32))) (nI n) K L H S slI ne f (nI p) (nI ld) unr due busy felt lost first size ent = some (nI ld2, unr2, due2, busy2, felt2, lost2, first2, size2, ent2) ∧
      fM_runs_144 k133 slI (nI t) (nI n) K' L' C' H' R' g (nI p) com busyM feltM fB lB = k133 (nI (t + 1)) com2 busyM2 feltM2 fB2 lB2 ∧
      SqA t n fi (440 * (t + 1)) ld2 s2 hd sec pe2 E2 Fl2 fe2 lo2 bu2 unr2 due2 com2 busy2 felt2 lost2 first2 busyM2 feltM2 fB2 lB2 ∧ ld ≤ ld2 ∧ (∀ q, q < n → due2 (20 * (t % 32) + q) = 0) ∧ Ext n s s2 E E2 Fl Fl2 ∧ s2 + fb_sm (arr sec t pt) p = s + fb_sm (arr sec t pt) n ∧ DiR s2 E2 Fl2 size2 ent2 := by
  intro m
  have n20 := hR.1.1
  have t32 : t % 32 < 32 := Nat.mod_lt _ (by decide)
  induction m with
  | zero =>
    intro p ld s E Fl fe lo pe bu unr due com busy felt lost first busyM feltM fB lB size ent hp htl h hpe hd1 hd0 hDi hcap f g hf hg
    obtain ⟨f, rfl⟩ : ∃ f', f = f' + 1 := ⟨f - 1, by omega⟩
    obtain ⟨g, rfl⟩ : ∃ g', g = g' + 1 := ⟨g - 1, by omega⟩
    have hp : p = n := by omega
    subst hp
    refine ⟨ld, s, E, Fl, fe, lo, pe, bu, unr, due, com, busy, felt, lost, first, busyM, feltM, fB, lB, size, ent, ?_, ?_, ⟨h.1, SqN_mono h.2.1 (by omega), h.2.2⟩, Nat.le_refl _, hd0, Ext.rf _ _ _ _, rfl, hDi⟩
    · show fS_feelAll_T_2_b _ _ _ _ _ _ _ _ _ _ _ _ _ _ _ _ _ _ _ _  = _
      unfold fS_feelAll_T_2_b
      rw [if_pos (nI_le (Nat.le_refl p) (by omega))]
    · show fM_runs_144_b _ _ _ _ _ _ _ _ _ _ _ _ _ _ _ _ = _
      unfold fM_runs_144_b
      rw [if_pos (nI_le (Nat.le_refl p) (by omega)), nI_1]
  | succ m ih =>
    intro p ld s E Fl fe lo pe bu unr due com busy felt lost first busyM feltM fB lB size ent hp htl h hpe hd1 hd0 hDi hcap f g hf hg
    obtain ⟨f, rfl⟩ : ∃ f', f = f' + 1 := ⟨f - 1, by omega⟩
    obtain ⟨g, rfl⟩ : ∃ g', g = g' + 1 := ⟨g - 1, by omega⟩
    have pn : p < n := by omega
    have b22 : pt p ||| sec t p < 2 ^ 22 := or_lt (hpt p) (hsec t p)
    obtain ⟨⟨pI, pD, pC, pl, pL⟩, hS, hC, hM, hbu⟩ := h
    have eC := pC t p ht pn
    rw [hpe p] at eC
    have sI : nI (20 * (t % 32)) + nI p = nI (20 * (t % 32) + p) := nI_add _ _
    have c1 : (nI (20 * (t % 32) + p)).toNatClampNeg = 20 * (t % 32) + p := nI_clamp (by omega)
    have dv := hd1 p (Nat.le_refl p) pn
    -- with that place empty
    have pD2 : DueR t n pe (upd due (20 * (t % 32) + p) 0) := fun t' q h1 h2 hq => by
      rw [pk_un (by omega)]
      exact pD t' q h1 h2 hq
    have F22 : 22 < FU := by rw [FU_eq]; decide
    have sm1 := fb_sm_succ (arr sec t pt) p
    have smn : fb_sm (arr sec t pt) (p + 1) ≤ fb_sm (arr sec t pt) n := by
      have := fb_sm_mono (arr sec t pt) (p + 1) m
      rw [show p + 1 + m = n by omega] at this
      exact this
    have ea : arr sec t pt p = pcN (pt p ||| sec t p) := rfl
    obtain ⟨ld1, s1', E1, Fl1, fe1, lo1, pe1, bu1, unr1, due1, com1, busy1, felt1, lost1, first1, busyM1, feltM1, fB1, lB1, size1, ent1, q1, q2, q3, q4, q5, q6, q7, q8, q9⟩ := in_T hR hsec slI hne pn ht b22 (nI (20 * (t % 32))) (fS_feelAll_T_2 (nI t) (nI (20 * (t % 32))) (nI n) K L H S slI ne f) k133 (fM_runs_144 k133 slI (nI t) (nI n) K' L' C' H' R' g) 22 0 ld s E Fl fe lo pe bu unr (upd due (20 * (t % 32) + p) 0) com busy felt lost first busyM feltM fB lB size ent (by omega) htl ⟨⟨pI, pD2, pC, pl, pL⟩, hS, hC, hM, hbu⟩ hDi (by rw [show fb_ct (fun k => (pt p ||| sec t p).testBit k) 0 = 0 from rfl]; omega) FU FU F22 F22
    rw [Nat.pow_zero, Nat.div_one] at q1
    have z0 : fb_ct (fun k => (pt p ||| sec t p).testBit k) 0 = 0 := rfl
    have due1p : ∀ q, q < n → due1 (20 * (t % 32) + q) = upd due (20 * (t % 32) + p) 0 (20 * (t % 32) + q) := fun q hq => q5 _ (by omega) (by omega)
    obtain ⟨ld2, s2, E2, Fl2, fe2, lo2, pe2, bu2, unr2, due2, com2, busy2, felt2, lost2, first2, busyM2, feltM2, fB2, lB2, size2, ent2, r1, r2, r3, r4, r5, r6, r7, r9⟩ := ih (p + 1) ld1 s1' E1 Fl1 fe1 lo1 pe1 bu1 unr1 due1 com1 busy1 felt1 lost1 first1 busyM1 feltM1 fB1 lB1 size1 ent1 (by omega) (by omega) q3 (fun q => (q6 q).trans (hpe q)) (fun q h1 h2 => by rw [due1p q h2, pk_un (by omega)]; exact hd1 q (by omega) h2) (fun q h1 => by
      rw [due1p q (by omega)]
      by_cases e : q = p
      · subst e; exact pk_us
      · rw [pk_un (by omega)]; exact hd0 q (by omega)) q9 (by omega) f g (by omega) (by omega)
    refine ⟨ld2, s2, E2, Fl2, fe2, lo2, pe2, bu2, unr2, due2, com2, busy2, felt2, lost2, first2, busyM2, feltM2, fB2, lB2, size2, ent2, ?_, ?_, r3, by omega, r5, q7.tr r6, by omega, r9⟩
    · show fS_feelAll_T_2_b _ _ _ _ _ _ _ _ _ _ _ _ _ _ _ _ _ _ _ _  = _
      unfold fS_feelAll_T_2_b
      rw [if_neg (nI_ge pn (by omega)), sI, ck_nI (by omega) (by decide), ck_nI (by omega) (by decide), c1, dv]
      exact q1.trans r1
    · show fM_runs_144_b _ _ _ _ _ _ _ _ _ _ _ _ _ _ _ _ = _
      unfold fM_runs_144_b
      rw [if_neg (nI_ge pn (by omega)), comI, ck_nI (by omega) (by decide), nI_clamp (by omega), eC, nm_eq]
      exact q2.trans r2
