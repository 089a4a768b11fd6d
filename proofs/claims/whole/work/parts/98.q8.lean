/-! ===== the run, from time to time ===== -/
theorem room64 {s ne : Nat} (ent : Nat → Int32) (h1 : s + 64 ≤ 32768) (h2 : s ≤ ne) (h3 : 64 ≤ ne) (h4 : ne ≤ 70000) : ∃ (ne2 : Nat) (ent2 : Nat → Int32), fD_makeRoom 64 (nI s) ne ent = some (ne2, ent2) ∧ ne ≤ ne2 ∧ s + 64 ≤ ne2 ∧ ne2 ≤ 70000 ∧ ∀ i, i < s → ent2 i = ent i := by
  unfold fD_makeRoom
  have e1 : nI s + 64 = nI (s + 64) := nI_add s 64
  have e2 : (2 : Int32) * Int32.ofNat ne = nI (2 * ne) := pk_mul 2 ne
  rw [e1, if_neg (show ¬ (32768 : Int32) < nI (s + 64) from nI_nlt (a := 32768) h1 (by decide)), nm_eq, e2]
  by_cases c : s + 64 ≤ ne
  · refine ⟨ne, ent, ?_, Nat.le_refl _, c, h4, fun _ _ => rfl⟩
    rw [if_pos (show nI (s + 64) ≤ Int32.ofNat ne from nI_le c (by omega))]
    exact mz_some (show ne ≤ ne from Nat.le_refl _)
  · rw [if_neg (show ¬ nI (s + 64) ≤ Int32.ofNat ne from nI_ge (by omega) (by omega))]
    have k : ∀ w : Nat, 2 * ne ≤ w → s + 64 ≤ w → w ≤ 70000 → ∃ (ne2 : Nat) (ent2 : Nat → Int32), mz ne (fun u => u.1) (cp ne (nI w) (some ((nI w).toNatClampNeg, va_cpy ent (fun _ => 0) 0 0 ne))) = some (ne2, ent2) ∧ ne ≤ ne2 ∧ s + 64 ≤ ne2 ∧ ne2 ≤ 70000 ∧ ∀ i, i < s → ent2 i = ent i := by
      intro w w1 w2 w3
      have cw : (nI w).toNatClampNeg = w := nI_clamp (by omega)
      refine ⟨w, va_cpy ent (fun _ => 0) 0 0 ne, ?_, by omega, w2, w3, fun i hi => ?_⟩
      · rw [cp_in ⟨nI_pos (by omega), by omega, by rw [cw]; exact w1, by rw [cw]; omega⟩, cw, mz_some (show ne ≤ w by omega)]
      · unfold va_cpy
        rw [if_pos ⟨Nat.zero_le _, by omega⟩]
        simp
    by_cases d : s + 64 < 2 * ne
    · rw [if_pos (show nI (s + 64) < nI (2 * ne) from nI_lt d (by omega))]
      exact k (2 * ne) (Nat.le_refl _) (by omega) (by omega)
    · rw [if_neg (show ¬ nI (s + 64) < nI (2 * ne) from nI_nlt (by omega) (by omega))]
      exact k (s + 64) (by omega) (Nat.le_refl _) (by omega)
theorem inj_eq {α : Type} (F : (Nat → Int32) → Option α) {an : Bool} {wh se t : Nat} {anI seI : Int32} (due : Nat → Int32) (h0 : an = false → anI = 0) (h1 : an = true → anI = 1 ∧ seI = nI se) (hs : se < 20) (ht : t ≤ 400) (hw : wh ≤ 400) : (if anI = 0 then F due else (if nI t = nI wh then ck 640 (((nI t - nI t / 32 * 32) * 20) + seI) (ck 640 (((nI t - nI t / 32 * 32) * 20) + seI) (F (upd due (((nI t - nI t / 32 * 32) * 20) + seI).toNatClampNeg ((due (((nI t - nI t / 32 * 32) * 20) + seI).toNatClampNeg) ||| 2)))) else F due)) = F (injD an wh se t due) := by
  unfold injD
  cases an
  · rw [h0 rfl, if_pos rfl, if_neg (fun w => by cases w.1)]
  · obtain ⟨e1, e2⟩ := h1 rfl
    have t32 : t % 32 < 32 := Nat.mod_lt _ (by decide)
    rw [e1, e2, if_neg (by decide)]
    by_cases c : t = wh
    · rw [if_pos (show nI t = nI wh by rw [c]), if_pos ⟨rfl, c⟩, slotI (by omega) hs, ck_nI (by omega) (by decide), ck_nI (by omega) (by decide), nI_clamp (by omega)]
    · rw [if_neg (neN c (by omega) (by omega)), if_neg (fun w => c w.2)]
section runs
variable {n sc mn fi wh se : Nat} {an : Bool} {anI seI : Int32} {hd sl rg kd lt : Nat → Nat} {K L H S K' L' C' H' R' M' : Nat → Int32}
theorem lp_T (hR : RowR n sc mn hd sl rg kd lt K L H S K' L' C' H' R' M') (h60 : fb_sm (fun p => pcN (hd p)) n ≤ 60) (hse : an = true → se < n) (hs20 : se < 20) (hw : wh ≤ 400) (h0 : an = false → anI = 0) (h1 : an = true → anI = 1 ∧ seI = nI se) (slI : Int32) : ∀ (m t ld s : Nat) (E : Nat → Nat) (Fl : Nat → Bool) (fe lo pe : Nat → Nat → Nat) (bu : Nat → Nat) (unr : Int32) (due com busy felt lost first busyM feltM fB lB : Nat → Int32) (size : Int32) (ne : Nat) (ent : Nat → Int32), t + m = 401 → SqH t n fi ld s hd (secN an wh se) pe E Fl fe lo bu unr due com busy felt lost first busyM feltM fB lB → DiR s E Fl size ent → EvN n s E → s ≤ 62 * t → s ≤ ne → 64 ≤ ne → ne ≤ 70000 → ∀ f g, m < f → m < g →
    ∃ (ld2 s2 : Nat) (E2 : Nat → Nat) (Fl2 : Nat → Bool) (fe2 lo2 : Nat → Nat → Nat) (bu2 : Nat → Nat) (unr2 : Int32) (due2 com2 busy2 felt2 lost2 first2 busyM2 feltM2 fB2 lB2 : Nat → Int32) (size2 : Int32) (ne2 : Nat) (ent2 : Nat → Int32),
      fS_run_T_72 seI (nI wh) anI (nI n) K L H S slI f (nI t) (nI ld) unr due busy felt lost first size ne ent = some (slI, nI ld2, unr2, due2, busy2, felt2, lost2, first2, size2, ne2, ent2) ∧
      fM_runs_133 slI (nI n) K' L' C' H' R' g (nI t) com busyM feltM fB lB = some (com2, busyM2, feltM2, fB2, lB2) ∧ SqN (440 * 401) s2 E2 Fl2 fe2 lo2 ∧ SqC n s2 E2 Fl2 bu2 unr2 busy2 felt2 lost2 first2 ∧ SqM n s2 E2 Fl2 bu2 fe2 lo2 busyM2 feltM2 fB2 lB2 ∧ DiR s2 E2 Fl2 size2 ent2 ∧ EvN n s2 E2 ∧ s2 ≤ ne2 ∧ ne ≤ ne2 ∧ ne2 ≤ 70000 := by
  intro m
  induction m with
  | zero =>
    intro t ld s E Fl fe lo pe bu unr due com busy felt lost first busyM feltM fB lB size ne ent ht h hDi hEv hs hsn hn1 hn2 f g hf hg
    obtain ⟨f, rfl⟩ : ∃ f', f = f' + 1 := ⟨f - 1, by omega⟩
    obtain ⟨g, rfl⟩ : ∃ g', g = g' + 1 := ⟨g - 1, by omega⟩
    refine ⟨ld, s, E, Fl, fe, lo, bu, unr, due, com, busy, felt, lost, first, busyM, feltM, fB, lB, size, ne, ent, ?_, ?_, SqN_mono h.2.1 (by omega), h.2.2.1, h.2.2.2.1, hDi, hEv, hsn, Nat.le_refl _, hn2⟩
    · show fS_run_T_72_b _ _ _ _ _ _ _ _ _ _ _ _ _ _ _ _ _ _ _ _ _ = _
      unfold fS_run_T_72_b
      rw [if_pos (show (400 : Int32) < nI t from nI_lt (a := 400) (by omega) (by omega))]
    · show fM_runs_133_b _ _ _ _ _ _ _ _ _ _ _ _ _ _ = _
      unfold fM_runs_133_b
      rw [if_pos (show (400 : Int32) < nI t from nI_lt (a := 400) (by omega) (by omega))]
  | succ m ih =>
    intro t ld s E Fl fe lo pe bu unr due com busy felt lost first busyM feltM fB lB size ne ent ht h hDi hEv hs hsn hn1 hn2 f g hf hg
    obtain ⟨f, rfl⟩ : ∃ f', f = f' + 1 := ⟨f - 1, by omega⟩
    have l400 : ld ≤ 400 := h.1.2.2.2.1
    rcases Nat.lt_or_ge ld t with c | c
    · refine ⟨ld, s, E, Fl, fe, lo, bu, unr, due, com, busy, felt, lost, first, busyM, feltM, fB, lB, size, ne, ent, ?_, idle_M slI hR.1.1 K' L' C' H' R' com busyM feltM fB lB (m + 1) t ht (idle_of h.1 c) g hg, SqN_mono h.2.1 (by omega), h.2.2.1, h.2.2.2.1, hDi, hEv, hsn, Nat.le_refl _, hn2⟩
      show fS_run_T_72_b _ _ _ _ _ _ _ _ _ _ _ _ _ _ _ _ _ _ _ _ _ = _
      unfold fS_run_T_72_b
      rw [if_neg (show ¬ (400 : Int32) < nI t from nI_nlt (a := 400) (b := t) (by omega) (by omega)), if_pos (show nI ld < nI t from nI_lt c (by omega))]
    · obtain ⟨g, rfl⟩ : ∃ g', g = g' + 1 := ⟨g - 1, by omega⟩
      obtain ⟨ne1, ent1, m1, m2, m3, m4, m5⟩ := room64 ent (show s + 64 ≤ 32768 by omega) hsn hn1 hn2
      have hDi1 : DiR s E Fl size ent1 := ⟨hDi.1, fun i hi => (m5 i hi).trans (hDi.2 i hi)⟩
      obtain ⟨ld2, s2, E2, Fl2, fe2, lo2, pe2, bu2, unr2, due2, com2, busy2, felt2, lost2, first2, busyM2, feltM2, fB2, lB2, size2, ent2, r1, r2, r3, r4, r5, r6, _, r7⟩ := st_T hR h60 hse hs20 slI (show ne1 < 2 ^ 31 by omega) (show t ≤ 400 by omega) c h hDi1 (show s + 62 ≤ ne1 by omega) (fM_runs_133 slI (nI n) K' L' C' H' R' g)
      obtain ⟨ld3, s3, E3, Fl3, fe3, lo3, bu3, unr3, due3, com3, busy3, felt3, lost3, first3, busyM3, feltM3, fB3, lB3, size3, ne3, ent3, w1, w2, w3, w4, w5, w6, wE, w7, w8, w9⟩ := ih (t + 1) ld2 s2 E2 Fl2 fe2 lo2 pe2 bu2 unr2 due2 com2 busy2 felt2 lost2 first2 busyM2 feltM2 fB2 lB2 size2 ne1 ent2 (by omega) r3 r7 (hEv.ext r5) (by omega) (by omega) (by omega) m4 f g (by omega) (by omega)
      refine ⟨ld3, s3, E3, Fl3, fe3, lo3, bu3, unr3, due3, com3, busy3, felt3, lost3, first3, busyM3, feltM3, fB3, lB3, size3, ne3, ent3, ?_, ?_, w3, w4, w5, w6, wE, w7, by omega, w9⟩
      · show fS_run_T_72_b _ _ _ _ _ _ _ _ _ _ _ _ _ _ _ _ _ _ _ _ _ = _
        unfold fS_run_T_72_b
        rw [if_neg (show ¬ (400 : Int32) < nI t from nI_nlt (a := 400) (b := t) (by omega) (by omega)), if_neg (show ¬ nI ld < nI t from nI_nlt c (by omega))]
        refine (inj_eq (fun d => fS_run_T_137 (fS_run_T_72 seI (nI wh) anI (nI n) K L H S slI f) seI (nI wh) anI (nI t) ((nI t - nI t / 32 * 32) * 20) (nI n) K L H S slI (nI ld) unr d busy felt lost first size ne ent) due h0 h1 hs20 (by omega) hw).trans ?_
        show fS_run_T_137 _ _ _ _ _ _ _ _ _ _ _ _ _ _ _ _ _ _ _ _ _ _ = _
        unfold fS_run_T_137
        rw [slot0 (by omega), hDi.1, m1]
        refine bm_some (x := (ne1, ent1)) ?_ m2 w8
        show bd (fS_feelAll_T (nI t) (nI (20 * (t % 32))) (nI n) K L H S slI (nI ld) unr (injD an wh se t due) busy felt lost first (nI s) ne1 ent1) _ = _
        rw [← hDi.1, r1, bd_some, nI_1]
        exact w1
      · show fM_runs_133_b _ _ _ _ _ _ _ _ _ _ _ _ _ _ = _
        unfold fM_runs_133_b
        rw [if_neg (show ¬ (400 : Int32) < nI t from nI_nlt (a := 400) (b := t) (by omega) (by omega))]
        exact r2.trans w2
theorem lp_U (hR : RowR n sc mn hd sl rg kd lt K L H S K' L' C' H' R' M') (h60 : fb_sm (fun p => pcN (hd p)) n ≤ 60) (hse : an = true → se < n) (hs20 : se < 20) (hw : wh ≤ 400) (h0 : an = false → anI = 0) (h1 : an = true → anI = 1 ∧ seI = nI se) (slI : Int32) : ∀ (m t ld s : Nat) (E : Nat → Nat) (Fl : Nat → Bool) (fe lo pe : Nat → Nat → Nat) (bu : Nat → Nat) (unr : Int32) (due com busy felt lost first busyM feltM fB lB : Nat → Int32), t + m = 401 → SqH t n fi ld s hd (secN an wh se) pe E Fl fe lo bu unr due com busy felt lost first busyM feltM fB lB → EvN n s E → ∀ f g, m < f → m < g →
    ∃ (ld2 s2 : Nat) (E2 : Nat → Nat) (Fl2 : Nat → Bool) (bu2 : Nat → Nat) (unr2 : Int32) (due2 busy2 felt2 lost2 first2 : Nat → Int32) (s3 : Nat) (E3 : Nat → Nat) (Fl3 : Nat → Bool) (fe3 lo3 : Nat → Nat → Nat) (bu3 : Nat → Nat) (com3 busyM3 feltM3 fB3 lB3 : Nat → Int32),
      fS_run_U_72 seI (nI wh) anI (nI n) K L H S slI f (nI t) (nI ld) unr due busy felt lost first = some (slI, nI ld2, unr2, due2, busy2, felt2, lost2, first2) ∧
      fM_runs_133 slI (nI n) K' L' C' H' R' g (nI t) com busyM feltM fB lB = some (com3, busyM3, feltM3, fB3, lB3) ∧ SqC n s2 E2 Fl2 bu2 unr2 busy2 felt2 lost2 first2 ∧ SqN (440 * 401) s3 E3 Fl3 fe3 lo3 ∧ SqM n s3 E3 Fl3 bu3 fe3 lo3 busyM3 feltM3 fB3 lB3 ∧ Ext n s2 s3 E2 E3 Fl2 Fl3 ∧ (s2 = s3 ∨ ∀ p, p < n → fb_ct (isF E2 Fl2 p) s2 ≠ 0) ∧ EvN n s2 E2 ∧ (0 < s2 → Fl2 0 = true) ∧ s ≤ s2 ∧ (t ≤ ld → fb_ct (fun p => decide (fb_ct (isF E Fl p) s = 0)) n ≠ 0 → 0 < fb_sm (arr (secN an wh se) t (fun q => pe t q)) n → s < s2) := by
  intro m
  induction m with
  | zero =>
    intro t ld s E Fl fe lo pe bu unr due com busy felt lost first busyM feltM fB lB ht h hEv f g hf hg
    obtain ⟨f, rfl⟩ : ∃ f', f = f' + 1 := ⟨f - 1, by omega⟩
    obtain ⟨g, rfl⟩ : ∃ g', g = g' + 1 := ⟨g - 1, by omega⟩
    refine ⟨ld, s, E, Fl, bu, unr, due, busy, felt, lost, first, s, E, Fl, fe, lo, bu, com, busyM, feltM, fB, lB, ?_, ?_, h.2.2.1, SqN_mono h.2.1 (by omega), h.2.2.2.1, Ext.rf _ _ _ _, Or.inl rfl, hEv, h.2.2.2.2.2.2, Nat.le_refl _, fun w => by have := h.1.2.2.2.1; omega⟩
    · show fS_run_U_72_b _ _ _ _ _ _ _ _ _ _ _ _ _ _ _ _ _ _ = _
      unfold fS_run_U_72_b
      rw [if_pos (show (400 : Int32) < nI t from nI_lt (a := 400) (by omega) (by omega))]
    · show fM_runs_133_b _ _ _ _ _ _ _ _ _ _ _ _ _ _ = _
      unfold fM_runs_133_b
      rw [if_pos (show (400 : Int32) < nI t from nI_lt (a := 400) (by omega) (by omega))]
  | succ m ih =>
    intro t ld s E Fl fe lo pe bu unr due com busy felt lost first busyM feltM fB lB ht h hEv f g hf hg
    obtain ⟨f, rfl⟩ : ∃ f', f = f' + 1 := ⟨f - 1, by omega⟩
    have l400 : ld ≤ 400 := h.1.2.2.2.1
    rcases Nat.lt_or_ge ld t with c | c
    · refine ⟨ld, s, E, Fl, bu, unr, due, busy, felt, lost, first, s, E, Fl, fe, lo, bu, com, busyM, feltM, fB, lB, ?_, idle_M slI hR.1.1 K' L' C' H' R' com busyM feltM fB lB (m + 1) t ht (idle_of h.1 c) g hg, h.2.2.1, SqN_mono h.2.1 (by omega), h.2.2.2.1, Ext.rf _ _ _ _, Or.inl rfl, hEv, h.2.2.2.2.2.2, Nat.le_refl _, fun w => by have := h.1.2.2.2.1; omega⟩
      show fS_run_U_72_b _ _ _ _ _ _ _ _ _ _ _ _ _ _ _ _ _ _ = _
      unfold fS_run_U_72_b
      rw [if_neg (show ¬ (400 : Int32) < nI t from nI_nlt (a := 400) (b := t) (by omega) (by omega)), if_pos (show nI ld < nI t from nI_lt c (by omega))]
    · have uN := h.2.2.1.2.2
      have uB : fb_ct (fun p => decide (fb_ct (isF E Fl p) s = 0)) n ≤ n := fb_ct_le _ _
      have n20 := hR.1.1
      rcases Nat.eq_zero_or_pos (fb_ct (fun p => decide (fb_ct (isF E Fl p) s = 0)) n) with z | z
      · obtain ⟨s3, E3, Fl3, fe3, lo3, bu3, com3, busyM3, feltM3, fB3, lB3, w1, w2, w3, w4⟩ := rest_M hR h60 hse hs20 slI (m + 1) t ld s E Fl fe lo pe bu unr due com busy felt lost first busyM feltM fB lB ht h g hg
        refine ⟨ld, s, E, Fl, bu, unr, due, busy, felt, lost, first, s3, E3, Fl3, fe3, lo3, bu3, com3, busyM3, feltM3, fB3, lB3, ?_, w1, h.2.2.1, w2, w3, w4, Or.inr (fun p hp w => ?_), hEv, h.2.2.2.2.2.2, Nat.le_refl _, fun _ w => absurd z w⟩
        · show fS_run_U_72_b _ _ _ _ _ _ _ _ _ _ _ _ _ _ _ _ _ _ = _
          unfold fS_run_U_72_b
          rw [if_neg (show ¬ (400 : Int32) < nI t from nI_nlt (a := 400) (b := t) (by omega) (by omega)), if_neg (show ¬ nI ld < nI t from nI_nlt c (by omega)), if_pos (show unr ≤ 0 by rw [uN, z]; exact nI_le (a := 0) (b := 0) (Nat.le_refl 0) (by decide))]
        · have := (fb_ct_zero.mp z) p hp
          rw [decide_eq_true w] at this
          cases this
      · obtain ⟨g, rfl⟩ : ∃ g', g = g' + 1 := ⟨g - 1, by omega⟩
        obtain ⟨ld2, s2, E2, Fl2, fe2, lo2, pe2, bu2, unr2, due2, com2, busy2, felt2, lost2, first2, busyM2, feltM2, fB2, lB2, r1, r2, r3, r4, r5, r6⟩ := st_U hR h60 hse hs20 slI (show t ≤ 400 by omega) c h (fM_runs_133 slI (nI n) K' L' C' H' R' g)
        obtain ⟨ld3, s3, E3, Fl3, bu3, unr3, due3, busy3, felt3, lost3, first3, s4, E4, Fl4, fe4, lo4, bu4, com4, busyM4, feltM4, fB4, lB4, w1, w2, w3, w4, w5, w6, w7, w8, w9, w10, w11⟩ := ih (t + 1) ld2 s2 E2 Fl2 fe2 lo2 pe2 bu2 unr2 due2 com2 busy2 felt2 lost2 first2 busyM2 feltM2 fB2 lB2 (by omega) r3 (hEv.ext r5) f g (by omega) (by omega)
        refine ⟨ld3, s3, E3, Fl3, bu3, unr3, due3, busy3, felt3, lost3, first3, s4, E4, Fl4, fe4, lo4, bu4, com4, busyM4, feltM4, fB4, lB4, ?_, ?_, w3, w4, w5, w6, w7, w8, w9, Nat.le_trans r5.1 w10, fun _ _ w => by have := r6.2; omega⟩
        · show fS_run_U_72_b _ _ _ _ _ _ _ _ _ _ _ _ _ _ _ _ _ _ = _
          unfold fS_run_U_72_b
          rw [if_neg (show ¬ (400 : Int32) < nI t from nI_nlt (a := 400) (b := t) (by omega) (by omega)), if_neg (show ¬ nI ld < nI t from nI_nlt c (by omega)), if_neg (show ¬ unr ≤ 0 by rw [uN]; exact nI_ge (a := 0) z (by omega))]
          refine (inj_eq (fun d => fS_run_U_137 (fS_run_U_72 seI (nI wh) anI (nI n) K L H S slI f) seI (nI wh) anI (nI t) ((nI t - nI t / 32 * 32) * 20) (nI n) K L H S slI (nI ld) unr d busy felt lost first) due h0 h1 hs20 (by omega) hw).trans ?_
          show fS_run_U_137 _ _ _ _ _ _ _ _ _ _ _ _ _ _ _ _ _ _ _ = _
          unfold fS_run_U_137
          rw [slot0 (by omega), r1, bd_some, nI_1]
          exact w1
        · show fM_runs_133_b _ _ _ _ _ _ _ _ _ _ _ _ _ _ = _
          unfold fM_runs_133_b
          rw [if_neg (show ¬ (400 : Int32) < nI t from nI_nlt (a := 400) (b := t) (by omega) (by omega))]
          exact r2.trans w2
end runs
