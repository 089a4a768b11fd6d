/-! ===== the run, both sides ===== -/
section runB
variable {n sc mn a wh se : Nat} {an : Bool} {seI : Int32} {hd sl rg kd lt : Nat → Nat} {K L H S K' L' C' H' R' M' : Nat → Int32}
theorem SqC_0 (n : Nat) (busy felt lost first : Nat → Int32) (hn : n ≤ 20) : SqC n 0 (fun _ => 0) (fun _ => false) (fun _ => 0) (nI n) (fun k => if k < 20 then 0 else busy k) (fun k => if k < 20 then 0 else felt k) (fun k => if k < 20 then 0 else lost k) (fun k => if k < 20 then -1 else first k) := by
  refine ⟨fun p hp => ?_, fun p h1 h2 => if_pos h2, ?_⟩
  · have h : p < 20 := by omega
    exact ⟨(if_pos h).trans rfl, (if_pos h).trans rfl, (if_pos h).trans rfl, Or.inl ⟨rfl, if_pos h⟩⟩
  · congr 1
    exact (fb_ct_all.mpr (fun k _ => decide_eq_true rfl)).symm
theorem SqH_0 {ld : Nat} (hn : n ≤ 20) (ha : a < 20) (hl : ld ≤ 400) (hls : an = true → ld = wh) (due busy felt lost first : Nat → Int32) {com0 busy0 felt0 fB0 lB0 : Nat → Int32} (h1 : ComR n (secN an wh se) (pe0 a) com0) (h2 : SqM n 0 (fun _ => 0) (fun _ => false) (fun _ => 0) (fun _ _ => 0) (fun _ _ => 0) busy0 felt0 fB0 lB0) : SqH 0 n a ld 0 hd (secN an wh se) (pe0 a) (fun _ => 0) (fun _ => false) (fun _ _ => 0) (fun _ _ => 0) (fun _ => 0) (nI n) (du0 n a due) com0 (fun k => if k < 20 then 0 else busy k) (fun k => if k < 20 then 0 else felt k) (fun k => if k < 20 then 0 else lost k) (fun k => if k < 20 then -1 else first k) busy0 felt0 fB0 lB0 := by
  refine ⟨⟨PeI_0 n a hd, fun t' q _ h hq => du0_at hn ha due (by omega) hq, h1, hl, fun t' q' x1 x2 x3 x4 => ?_, fun t' q' x => ?_⟩, ?_, SqC_0 n busy felt lost first hn, h2, ⟨fun q _ => Nat.zero_le 430, fun _ _ _ => rfl, fun w => absurd w (Nat.lt_irrefl 0)⟩⟩
  · unfold pe0 at x4
    by_cases c : t' = 0 ∧ q' = a
    · omega
    · rw [if_neg c] at x4
      exact absurd rfl x4
  · unfold secN at x
    by_cases c : an = true ∧ t' = wh ∧ q' = se
    · have := hls c.1; omega
    · rw [if_neg c] at x
      exact absurd rfl x
  · exact SqN_0
theorem DiR_0 (ent : Nat → Int32) : DiR 0 (fun _ => 0) (fun _ => false) 0 ent := ⟨rfl, fun i hi => absurd hi (Nat.not_lt_zero i)⟩
theorem idle_0 (hn : n ≤ 20) (hna : ¬ a < n) (hf : an = false) {com0 : Nat → Int32} (h1 : ComR n (secN an wh se) (pe0 a) com0) : ∀ t' q, 0 ≤ t' → t' ≤ 400 → q < n → com0 (20 * t' + q) = 0 := by
  intro t' q _ h2 hq
  rw [h1 t' q h2 hq]
  unfold pe0 secN
  rw [if_neg (show ¬ (t' = 0 ∧ q = a) by omega), if_neg (fun w => by rw [hf] at w; cases w.1)]
  rfl
theorem run_T (hR : RowR n sc mn hd sl rg kd lt K L H S K' L' C' H' R' M') (h60 : fb_sm (fun p => pcN (hd p)) n ≤ 60) (ha : a < 20) (hw : wh ≤ 99) (hS : SetR n an se seI) (slI s0 l0 u0 : Int32) (due busy felt lost first : Nat → Int32) (size : Int32) {ne : Nat} (ent : Nat → Int32) (hn1 : 64 ≤ ne) (hn2 : ne ≤ 70000) (com busyM feltM fB lB : Nat → Int32) :
    ∃ (ld2 : Int32) (s2 : Nat) (E2 : Nat → Nat) (Fl2 : Nat → Bool) (fe2 lo2 : Nat → Nat → Nat) (bu2 : Nat → Nat) (unr2 : Int32) (due2 com2 busy2 felt2 lost2 first2 busyM2 feltM2 fB2 lB2 : Nat → Int32) (size2 : Int32) (ne2 : Nat) (ent2 : Nat → Int32),
      fS_run_T (nI a) seI (nI wh) slI (nI n) K L H S s0 l0 u0 due busy felt lost first size ne ent = some (slI, ld2, unr2, due2, busy2, felt2, lost2, first2, size2, ne2, ent2) ∧
      fM_runs (nI a) seI (nI wh) slI (nI n) K' L' C' H' R' com busyM feltM fB lB = some (com2, busyM2, feltM2, fB2, lB2) ∧ SqN (440 * 401) s2 E2 Fl2 fe2 lo2 ∧ SqC n s2 E2 Fl2 bu2 unr2 busy2 felt2 lost2 first2 ∧ SqM n s2 E2 Fl2 bu2 fe2 lo2 busyM2 feltM2 fB2 lB2 ∧ DiR s2 E2 Fl2 size2 ent2 ∧ EvN n s2 E2 ∧ s2 ≤ ne2 ∧ ne ≤ ne2 ∧ ne2 ≤ 70000 := by
  have n20 := hR.1.1
  have F1 : 401 < FU := by rw [FU_eq]; decide
  obtain ⟨com0, busy0, felt0, fB0, lB0, m1, m2, m3⟩ := M_start n20 ha hw hS slI K' L' C' H' R' com busyM feltM fB lB
  have hse : an = true → se < n := fun e => by
    rcases hS.2 with g | g
    · exact g.2.2
    · rw [g.1] at e; cases e
  have h0 : an = false → (if an = true then (1 : Int32) else 0) = 0 := fun e => by rw [e]; rfl
  have h1 : an = true → (if an = true then (1 : Int32) else 0) = 1 ∧ seI = nI se := fun e => by
    rcases hS.2 with g | g
    · exact ⟨if_pos e, g.2.1⟩
    · rw [g.1] at e; cases e
  rw [C_startT n20 ha hS slI s0 l0 u0 K L H S due busy felt lost first size ne ent, m1]
  have go : ∀ ld : Nat, ld ≤ 400 → (an = true → ld = wh) → ld0 n a wh an = nI ld → ∃ (ld2 : Int32) (s2 : Nat) (E2 : Nat → Nat) (Fl2 : Nat → Bool) (fe2 lo2 : Nat → Nat → Nat) (bu2 : Nat → Nat) (unr2 : Int32) (due2 com2 busy2 felt2 lost2 first2 busyM2 feltM2 fB2 lB2 : Nat → Int32) (size2 : Int32) (ne2 : Nat) (ent2 : Nat → Int32),
      mz ne (fun u => u.2.2.2.2.2.2.2.2.2.1) (fS_run_T_72 seI (nI wh) (if an = true then 1 else 0) (nI n) K L H S slI FU (nI 0) (ld0 n a wh an) (nI n) (du0 n a due) (fun k => if k < 20 then 0 else busy k) (fun k => if k < 20 then 0 else felt k) (fun k => if k < 20 then 0 else lost k) (fun k => if k < 20 then -1 else first k) 0 ne ent) = some (slI, ld2, unr2, due2, busy2, felt2, lost2, first2, size2, ne2, ent2) ∧
      fM_runs_133 slI (nI n) K' L' C' H' R' FU (nI 0) com0 busy0 felt0 fB0 lB0 = some (com2, busyM2, feltM2, fB2, lB2) ∧ SqN (440 * 401) s2 E2 Fl2 fe2 lo2 ∧ SqC n s2 E2 Fl2 bu2 unr2 busy2 felt2 lost2 first2 ∧ SqM n s2 E2 Fl2 bu2 fe2 lo2 busyM2 feltM2 fB2 lB2 ∧ DiR s2 E2 Fl2 size2 ent2 ∧ EvN n s2 E2 ∧ s2 ≤ ne2 ∧ ne ≤ ne2 ∧ ne2 ≤ 70000 := by
    intro ld l1 l2 l3
    obtain ⟨ld2, s2, E2, Fl2, fe2, lo2, bu2, unr2, due2, com2, busy2, felt2, lost2, first2, busyM2, feltM2, fB2, lB2, size2, ne2, ent2, w1, w2, w3, w4, w5, w6, wE, w7, w8, w9⟩ := lp_T (wh := wh) hR h60 hse hS.1 (show wh ≤ 400 by omega) h0 h1 slI 401 0 ld 0 _ _ _ _ _ _ _ _ _ _ _ _ _ _ _ _ _ 0 ne ent (by omega) (SqH_0 n20 ha l1 l2 due busy felt lost first m2 m3) (DiR_0 ent) (fun i hi => absurd hi (Nat.not_lt_zero i)) (by omega) (by omega) hn1 hn2 FU FU F1 F1
    refine ⟨nI ld2, s2, E2, Fl2, fe2, lo2, bu2, unr2, due2, com2, busy2, felt2, lost2, first2, busyM2, feltM2, fB2, lB2, size2, ne2, ent2, ?_, w2, w3, w4, w5, w6, wE, w7, w8, w9⟩
    rw [l3, w1]
    exact mz_some w8
  cases e : an
  · by_cases c : a < n
    · have := go 0 (by omega) (fun w => by rw [e] at w; cases w) (by unfold ld0; rw [if_neg (by rw [e]; decide), if_pos c])
      rw [e] at this
      exact this
    · refine ⟨-1, 0, fun _ => 0, fun _ => false, fun _ _ => 0, fun _ _ => 0, fun _ => 0, nI n, du0 n a due, com0, (fun k => if k < 20 then 0 else busy k), (fun k => if k < 20 then 0 else felt k), (fun k => if k < 20 then 0 else lost k), (fun k => if k < 20 then -1 else first k), busy0, felt0, fB0, lB0, 0, ne, ent, ?_, idle_M slI n20 K' L' C' H' R' com0 busy0 felt0 fB0 lB0 401 0 (by omega) (idle_0 n20 c e m2) FU F1, SqN_mono SqN_0 (Nat.zero_le _), SqC_0 n busy felt lost first n20, m3, DiR_0 ent, fun i hi => absurd hi (Nat.not_lt_zero i), Nat.zero_le _, Nat.le_refl _, hn2⟩
      obtain ⟨f, hf⟩ : ∃ f, FU = f + 1 := ⟨999999, rfl⟩
      rw [hf]
      unfold ld0
      rw [if_neg (show ¬ (false : Bool) = true by decide), if_neg (show ¬ (false : Bool) = true by decide), if_neg c]
      show mz ne _ (fS_run_T_72_b _ _ _ _ _ _ _ _ _ _ _ _ _ _ _ _ _ _ _ _ _) = _
      unfold fS_run_T_72_b
      rw [if_neg (show ¬ (400 : Int32) < nI 0 from nI_nlt (a := 400) (b := 0) (by omega) (by omega)), if_pos (show (-1 : Int32) < nI 0 from m1_lt_nI (by decide))]
      exact mz_some (show ne ≤ ne from Nat.le_refl _)
  · have := go wh (by omega) (fun _ => rfl) (by unfold ld0; rw [if_pos e])
    rw [e] at this
    exact this
theorem run_U (hR : RowR n sc mn hd sl rg kd lt K L H S K' L' C' H' R' M') (h60 : fb_sm (fun p => pcN (hd p)) n ≤ 60) (ha : a < 20) (hw : wh ≤ 99) (hS : SetR n an se seI) (slI s0 l0 u0 : Int32) (due busy felt lost first : Nat → Int32) (com busyM feltM fB lB : Nat → Int32) :
    ∃ (ld2 : Int32) (s2 : Nat) (E2 : Nat → Nat) (Fl2 : Nat → Bool) (bu2 : Nat → Nat) (unr2 : Int32) (due2 busy2 felt2 lost2 first2 : Nat → Int32) (s3 : Nat) (E3 : Nat → Nat) (Fl3 : Nat → Bool) (fe3 lo3 : Nat → Nat → Nat) (bu3 : Nat → Nat) (com3 busyM3 feltM3 fB3 lB3 : Nat → Int32),
      fS_run_U (nI a) seI (nI wh) slI (nI n) K L H S s0 l0 u0 due busy felt lost first = some (slI, ld2, unr2, due2, busy2, felt2, lost2, first2) ∧
      fM_runs (nI a) seI (nI wh) slI (nI n) K' L' C' H' R' com busyM feltM fB lB = some (com3, busyM3, feltM3, fB3, lB3) ∧ SqC n s2 E2 Fl2 bu2 unr2 busy2 felt2 lost2 first2 ∧ SqN (440 * 401) s3 E3 Fl3 fe3 lo3 ∧ SqM n s3 E3 Fl3 bu3 fe3 lo3 busyM3 feltM3 fB3 lB3 ∧ Ext n s2 s3 E2 E3 Fl2 Fl3 ∧ (s2 = s3 ∨ ∀ p, p < n → fb_ct (isF E2 Fl2 p) s2 ≠ 0) ∧ (a < n → ∃ p, p < n ∧ fb_ct (isF E2 Fl2 p) s2 ≠ 0) := by
  have n20 := hR.1.1
  have F1 : 401 < FU := by rw [FU_eq]; decide
  obtain ⟨com0, busy0, felt0, fB0, lB0, m1, m2, m3⟩ := M_start n20 ha hw hS slI K' L' C' H' R' com busyM feltM fB lB
  have hse : an = true → se < n := fun e => by
    rcases hS.2 with g | g
    · exact g.2.2
    · rw [g.1] at e; cases e
  have h0 : an = false → (if an = true then (1 : Int32) else 0) = 0 := fun e => by rw [e]; rfl
  have h1 : an = true → (if an = true then (1 : Int32) else 0) = 1 ∧ seI = nI se := fun e => by
    rcases hS.2 with g | g
    · exact ⟨if_pos e, g.2.1⟩
    · rw [g.1] at e; cases e
  rw [C_startU n20 ha hS slI s0 l0 u0 K L H S due busy felt lost first, m1]
  have go : ∀ ld : Nat, ld ≤ 400 → (an = true → ld = wh) → ld0 n a wh an = nI ld → ∃ (ld2 : Int32) (s2 : Nat) (E2 : Nat → Nat) (Fl2 : Nat → Bool) (bu2 : Nat → Nat) (unr2 : Int32) (due2 busy2 felt2 lost2 first2 : Nat → Int32) (s3 : Nat) (E3 : Nat → Nat) (Fl3 : Nat → Bool) (fe3 lo3 : Nat → Nat → Nat) (bu3 : Nat → Nat) (com3 busyM3 feltM3 fB3 lB3 : Nat → Int32),
      fS_run_U_72 seI (nI wh) (if an = true then 1 else 0) (nI n) K L H S slI FU (nI 0) (ld0 n a wh an) (nI n) (du0 n a due) (fun k => if k < 20 then 0 else busy k) (fun k => if k < 20 then 0 else felt k) (fun k => if k < 20 then 0 else lost k) (fun k => if k < 20 then -1 else first k) = some (slI, ld2, unr2, due2, busy2, felt2, lost2, first2) ∧
      fM_runs_133 slI (nI n) K' L' C' H' R' FU (nI 0) com0 busy0 felt0 fB0 lB0 = some (com3, busyM3, feltM3, fB3, lB3) ∧ SqC n s2 E2 Fl2 bu2 unr2 busy2 felt2 lost2 first2 ∧ SqN (440 * 401) s3 E3 Fl3 fe3 lo3 ∧ SqM n s3 E3 Fl3 bu3 fe3 lo3 busyM3 feltM3 fB3 lB3 ∧ Ext n s2 s3 E2 E3 Fl2 Fl3 ∧ (s2 = s3 ∨ ∀ p, p < n → fb_ct (isF E2 Fl2 p) s2 ≠ 0) ∧ (a < n → ∃ p, p < n ∧ fb_ct (isF E2 Fl2 p) s2 ≠ 0) := by
    intro ld l1 l2 l3
    obtain ⟨ld2, s2, E2, Fl2, bu2, unr2, due2, busy2, felt2, lost2, first2, s3, E3, Fl3, fe3, lo3, bu3, com3, busyM3, feltM3, fB3, lB3, w1, w2, w3, w4, w5, w6, w7, w8, w9, w10, w11⟩ := lp_U (wh := wh) hR h60 hse hS.1 (show wh ≤ 400 by omega) h0 h1 slI 401 0 ld 0 _ _ _ _ _ _ _ _ _ _ _ _ _ _ _ _ _ (by omega) (SqH_0 n20 ha l1 l2 due busy felt lost first m2 m3) (fun i hi => absurd hi (Nat.not_lt_zero i)) FU FU F1 F1
    rw [l3]
    refine ⟨nI ld2, s2, E2, Fl2, bu2, unr2, due2, busy2, felt2, lost2, first2, s3, E3, Fl3, fe3, lo3, bu3, com3, busyM3, feltM3, fB3, lB3, w1, w2, w3, w4, w5, w6, w7, fun hn => ?_⟩
    have zz : fb_ct (fun p => decide (fb_ct (isF (fun _ => 0) (fun _ => false) p) 0 = 0)) n = n := fb_ct_all.mpr (fun k _ => decide_eq_true rfl)
    have ar : 0 < arr (secN an wh se) 0 (fun q => pe0 a 0 q) a := fb_ct_pos.mpr ⟨0, by decide, by rw [Nat.testBit_or, show (pe0 a 0 a).testBit 0 = true by unfold pe0; rw [if_pos ⟨rfl, rfl⟩]; rfl, Bool.true_or]⟩
    have as := fb_sm_part (arr (secN an wh se) 0 (fun q => pe0 a 0 q)) hn
    have pos : 0 < s2 := w11 (Nat.zero_le _) (by rw [zz]; omega) (by omega)
    refine ⟨E2 0 / 22 % 20, w8 0 pos, ?_⟩
    have := fb_ct_pos (p := isF E2 Fl2 (E2 0 / 22 % 20)) (n := s2) |>.mpr ⟨0, pos, by unfold isF; rw [w9 pos, decide_eq_true rfl]; rfl⟩
    omega
  cases e : an
  · by_cases c : a < n
    · have := go 0 (by omega) (fun w => by rw [e] at w; cases w) (by unfold ld0; rw [if_neg (by rw [e]; decide), if_pos c])
      rw [e] at this
      exact this
    · refine ⟨-1, 0, fun _ => 0, fun _ => false, fun _ => 0, nI n, du0 n a due, (fun k => if k < 20 then 0 else busy k), (fun k => if k < 20 then 0 else felt k), (fun k => if k < 20 then 0 else lost k), (fun k => if k < 20 then -1 else first k), 0, fun _ => 0, fun _ => false, fun _ _ => 0, fun _ _ => 0, fun _ => 0, com0, busy0, felt0, fB0, lB0, ?_, idle_M slI n20 K' L' C' H' R' com0 busy0 felt0 fB0 lB0 401 0 (by omega) (idle_0 n20 c e m2) FU F1, SqC_0 n busy felt lost first n20, SqN_mono SqN_0 (Nat.zero_le _), m3, Ext.rf _ _ _ _, Or.inl rfl, fun w => absurd w c⟩
      obtain ⟨f, hf⟩ : ∃ f, FU = f + 1 := ⟨999999, rfl⟩
      rw [hf]
      unfold ld0
      rw [if_neg (show ¬ (false : Bool) = true by decide), if_neg (show ¬ (false : Bool) = true by decide), if_neg c]
      show fS_run_U_72_b _ _ _ _ _ _ _ _ _ _ _ _ _ _ _ _ _ _ = _
      unfold fS_run_U_72_b
      rw [if_neg (show ¬ (400 : Int32) < nI 0 from nI_nlt (a := 400) (b := 0) (by omega) (by omega)), if_pos (show (-1 : Int32) < nI 0 from m1_lt_nI (by decide))]
  · have := go wh (by omega) (fun _ => rfl) (by unfold ld0; rw [if_pos e])
    rw [e] at this
    exact this
end runB
