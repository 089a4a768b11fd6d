/-! ===== the sleepers ===== -/
def SlpB (fi se wh people scarves main : Int32) (K L H S times : Nat → Int32) (n z : Nat) : Prop :=
  ∀ (K' L' C' H' R' M' com bt fm fb lb : Nat → Int32), ParR people scarves main K L H S K' L' C' H' R' M' → ∃ (com2 bt2 fm2 fb2 lb2 : Nat → Int32), fM_runs fi se wh (nI z) people K' L' C' H' R' com bt fm fb lb = some (com2, bt2, fm2, fb2, lb2) ∧ (∀ p, p < n → fM_feltBy (nI p) 0 fm2 fb2 = some (times (20 * z + p))) ∧ ∀ p, n ≤ p → p < 20 → times (20 * z + p) = -1
theorem z_go {fi se wh people scarves main : Int32} {K L H S : Nat → Int32} (hPar : ∃ K0 L0 C0 H0 R0 M0 : Nat → Int32, ParR people scarves main K L H S K0 L0 C0 H0 R0 M0) {set : Nat → Int32} (hS : RSet fi se wh set) {n : Nat} (hp : people = nI n) (hn : n ≤ 20) (known : Int32) : ∀ (m z : Nat) (sl ld unr : Int32) (due busy felt lost first times : Nat → Int32), z + m = n → (∀ z', z' < z → SlpB fi se wh people scarves main K L H S times n z') → ∀ f, m < f → ∃ (sl2 ld2 unr2 : Int32) (due2 busy2 felt2 lost2 first2 times2 : Nat → Int32), fZ_findOut_11 fi se wh people K L H S known f (nI z) sl ld unr due busy felt lost first times = some (sl2, ld2, unr2, due2, busy2, felt2, lost2, first2, 1, times2) ∧ ∀ z', z' < n → SlpB fi se wh people scarves main K L H S times2 n z' := by
  obtain ⟨s0, s1, s2, ⟨a, ha, hfi⟩, hse, ⟨w, hw, hwh⟩⟩ := hS
  intro m
  induction m with
  | zero =>
    intro z sl ld unr due busy felt lost first times hz hB f hf
    obtain ⟨f, rfl⟩ : ∃ f', f = f' + 1 := ⟨f - 1, by omega⟩
    have e : z = n := by omega
    subst e
    refine ⟨sl, ld, unr, due, busy, felt, lost, first, times, ?_, hB⟩
    show fZ_findOut_11_b _ _ _ _ _ _ _ _ _ known _ _ _ _ _ _ _ _ _ _ = _
    unfold fZ_findOut_11_b
    rw [hp, if_pos (nI_le (Nat.le_refl z) (by omega))]
  | succ m ih =>
    intro z sl ld unr due busy felt lost first times hz hB f hf
    obtain ⟨f, rfl⟩ : ∃ f', f = f' + 1 := ⟨f - 1, by omega⟩
    have zn : z < n := by omega
    obtain ⟨ld1, unr1, due1, busy1, felt1, lost1, first1, u1, u2, u3⟩ := U_ok hPar hp hn ha hw hse (nI z) sl ld unr due busy felt lost first
    have z20 : nI z * 20 = nI (20 * z) := by rw [show (20 : Int32) = nI 20 from rfl, pk_mul, Nat.mul_comm]
    have i0 : (0 : Int32).toNatClampNeg = 0 := by decide
    have i20 : (20 : Int32).toNatClampNeg = 20 := by decide
    have cz : (nI (20 * z)).toNatClampNeg = 20 * z := nI_clamp (by omega)
    have cpy : ∀ k, va_cpy first1 times 0 (20 * z) 20 k = if 20 * z ≤ k ∧ k < 20 * z + 20 then first1 (k - 20 * z) else times k := fun k => by
      unfold va_cpy
      rw [Nat.zero_add]
    obtain ⟨sl2, ld2, unr2, due2, busy2, felt2, lost2, first2, times2, r1, r2⟩ := ih (z + 1) (nI z) ld1 unr1 due1 busy1 felt1 lost1 first1 (va_cpy first1 times 0 (20 * z) 20) (by omega) (fun z' hz' K' L' C' H' R' M' com bt fm fb lb hq => by
      by_cases e : z' = z
      · subst e
        obtain ⟨com2, bt2, fm2, fb2, lb2, g1, g2, _⟩ := u3 K' L' C' H' R' M' com bt fm fb lb hq
        refine ⟨com2, bt2, fm2, fb2, lb2, ?_, fun p hp' => ?_, fun p p1 p2 => ?_⟩
        · rw [hfi, hwh, hp]; exact g1
        · rw [cpy, if_pos ⟨by omega, by omega⟩, Nat.add_sub_cancel_left]; exact g2 p hp'
        · rw [cpy, if_pos ⟨by omega, by omega⟩, Nat.add_sub_cancel_left]; exact u2 p p1 p2
      · obtain ⟨com2, bt2, fm2, fb2, lb2, g1, g2, g3⟩ := hB z' (by omega) K' L' C' H' R' M' com bt fm fb lb hq
        refine ⟨com2, bt2, fm2, fb2, lb2, g1, fun p hp' => ?_, fun p p1 p2 => ?_⟩
        · rw [cpy, if_neg (by omega)]; exact g2 p hp'
        · rw [cpy, if_neg (by omega)]; exact g3 p p1 p2) f (by omega)
    refine ⟨sl2, ld2, unr2, due2, busy2, felt2, lost2, first2, times2, ?_, r2⟩
    show fZ_findOut_11_b _ _ _ _ _ _ _ _ _ known _ _ _ _ _ _ _ _ _ _ = _
    unfold fZ_findOut_11_b
    rw [hp, if_neg (nI_ge zn (by omega)), hfi, hwh, u1, bd_some, z20, nI_1]
    dsimp only
    rw [i0, cz, i20, ac_in ⟨by decide, nI_pos (by omega), by decide, by rw [i0, i20]; decide, by rw [cz, i20]; omega⟩]
    rw [hfi, hwh, hp] at r1
    exact r1
/-- who may have slept, both sides -/
theorem sleep_C {n h : Nat} (hn : n ≤ 20) {sz mh : Int32} {who tm mw mt : Nat → Int32} (hH : RHear sz who tm mh mw mt) (h12 : h ≤ 12) (hs : sz = nI h) (ran tsl tld tun : Int32) (td tb tf tl tfi : Nat → Int32) (dsz : Int32) (ne : Nat) (ent : Nat → Int32) (sl ld unr : Int32) (due busy felt lost first : Nat → Int32) (kn : Int32) (times : Nat → Int32) : ∀ (m z : Nat), z + m = n → ∀ f, m < f → fC_asleep_64 ran (nI n) tsl tld tun td tb tf tl tfi dsz ne ent sl ld unr due busy felt lost first kn times sz who tm f (nI (rb (fun z => decide (unl (fun p => times (20 * z + p)) who tm h = 0)) z)) (nI z) = some (nI (rb (fun z => decide (unl (fun p => times (20 * z + p)) who tm h = 0)) n), ran, tsl, tld, tun, td, tb, tf, tl, tfi, dsz, ne, ent, sl, ld, unr, due, busy, felt, lost, first, kn, times) := by
  intro m
  induction m with
  | zero =>
    intro z hz f hf
    obtain ⟨f, rfl⟩ : ∃ f', f = f' + 1 := ⟨f - 1, by omega⟩
    have e : z = n := by omega
    subst e
    show fC_asleep_64_b _ _ _ _ _ _ _ _ _ _ _ _ _ _ _ _ _ _ _ _ _ _ _ _ _ _ _ _ _ = _
    unfold fC_asleep_64_b
    rw [if_pos (nI_le (Nat.le_refl z) (by omega))]
  | succ m ih =>
    intro z hz f hf
    obtain ⟨f, rfl⟩ : ∃ f', f = f' + 1 := ⟨f - 1, by omega⟩
    have zn : z < n := by omega
    have r := ih (z + 1) (by omega) f (by omega)
    have z20 : nI z * 20 = nI (20 * z) := by rw [show (20 : Int32) = nI 20 from rfl, pk_mul, Nat.mul_comm]
    have nx : rb (fun z => decide (unl (fun p => times (20 * z + p)) who tm h = 0)) (z + 1) = if unl (fun p => times (20 * z + p)) who tm h = 0 then rb (fun z => decide (unl (fun p => times (20 * z + p)) who tm h = 0)) z ||| 2 ^ z else rb (fun z => decide (unl (fun p => times (20 * z + p)) who tm h = 0)) z := by
      show (if decide (unl (fun p => times (20 * z + p)) who tm h = 0) = true then _ else _) = _
      by_cases w : unl (fun p => times (20 * z + p)) who tm h = 0
      · rw [if_pos (decide_eq_true w), if_pos w]
      · rw [if_neg (fun x => w (of_decide_eq_true x)), if_neg w]
    have ub : unl (fun p => times (20 * z + p)) who tm h ≤ h := fb_ct_le _ _
    show fC_asleep_64_b _ _ _ _ _ _ _ _ _ _ _ _ _ _ _ _ _ _ _ _ _ _ _ _ _ _ _ _ _ = _
    unfold fC_asleep_64_b fC_asleep_102
    rw [if_neg (nI_ge zn (by omega)), z20, unl_S hH times (by omega) h12 hs, bd_some, nI_1, orbit (by omega)]
    by_cases w : unl (fun p => times (20 * z + p)) who tm h = 0
    · rw [if_pos (show nI (unl (fun p => times (20 * z + p)) who tm h) = 0 by rw [w]; rfl)]
      rw [nx, if_pos w] at r
      exact r
    · rw [if_neg (nI_ne0 (by omega) (by omega))]
      rw [nx, if_neg w] at r
      exact r
theorem sleep_M {n : Nat} (hn : n ≤ 20) {fi se wh people scarves main : Int32} {K L H S times : Nat → Int32} (hp : people = nI n) {set : Nat → Int32} (hS : RSet fi se wh set) (hB : ∀ z, z < n → SlpB fi se wh people scarves main K L H S times n z) {sz mh : Int32} {who tm mw mt : Nat → Int32} (hH : RHear sz who tm mh mw mt) {h : Nat} (h12 : h ≤ 12) (hs : sz = nI h) {K' L' C' H' R' M' : Nat → Int32} (hq : ParR people scarves main K L H S K' L' C' H' R' M') (AO LI MI : Nat → Int32) : ∀ (m z : Nat) (com bt fm fb lb : Nat → Int32), z + m = n → ∀ f, m < f → ∃ w, fM_asleepOf_28 people mh K' L' C' H' R' M' AO LI MI set mw mt f (nI (rb (fun z => decide (unl (fun p => times (20 * z + p)) who tm h = 0)) z)) (nI z) com bt fm fb lb = some (nI (rb (fun z => decide (unl (fun p => times (20 * z + p)) who tm h = 0)) n), w) := by
  obtain ⟨s0, s1, s2, _⟩ := hS
  have i0 : (0 : Int32).toNatClampNeg = 0 := by decide
  have i1 : (1 : Int32).toNatClampNeg = 1 := by decide
  have i2 : (2 : Int32).toNatClampNeg = 2 := by decide
  intro m
  induction m with
  | zero =>
    intro z com bt fm fb lb hz f hf
    obtain ⟨f, rfl⟩ : ∃ f', f = f' + 1 := ⟨f - 1, by omega⟩
    have e : z = n := by omega
    subst e
    refine ⟨(people, K', L', C', H', R', M', AO, LI, MI, com, bt, fm, fb, lb), ?_⟩
    show fM_asleepOf_28_b _ _ _ _ _ _ _ _ _ _ _ _ _ _ _ _ _ _ _ _ _ _ = _
    unfold fM_asleepOf_28_b
    rw [hp, if_pos (nI_le (Nat.le_refl z) (by omega))]
  | succ m ih =>
    intro z com bt fm fb lb hz f hf
    obtain ⟨f, rfl⟩ : ∃ f', f = f' + 1 := ⟨f - 1, by omega⟩
    have zn : z < n := by omega
    obtain ⟨com2, bt2, fm2, fb2, lb2, g1, g2, g3⟩ := hB z zn K' L' C' H' R' M' com bt fm fb lb hq
    obtain ⟨h', k1, k2, k3⟩ := unl_M (val := fun p => times (20 * z + p)) hn g2 g3 hH
    have eh : h' = h := nIn (by omega) (by omega) (k2.symm.trans hs)
    subst eh
    obtain ⟨w, r⟩ := ih (z + 1) com2 bt2 fm2 fb2 lb2 (by omega) f (by omega)
    refine ⟨w, ?_⟩
    have nx : rb (fun z => decide (unl (fun p => times (20 * z + p)) who tm h' = 0)) (z + 1) = if unl (fun p => times (20 * z + p)) who tm h' = 0 then rb (fun z => decide (unl (fun p => times (20 * z + p)) who tm h' = 0)) z ||| 2 ^ z else rb (fun z => decide (unl (fun p => times (20 * z + p)) who tm h' = 0)) z := by
      show (if decide (unl (fun p => times (20 * z + p)) who tm h' = 0) = true then _ else _) = _
      by_cases w : unl (fun p => times (20 * z + p)) who tm h' = 0
      · rw [if_pos (decide_eq_true w), if_pos w]
      · rw [if_neg (fun x => w (of_decide_eq_true x)), if_neg w]
    have ub : unl (fun p => times (20 * z + p)) who tm h' ≤ h' := fb_ct_le _ _
    show fM_asleepOf_28_b _ _ _ _ _ _ _ _ _ _ _ _ _ _ _ _ _ _ _ _ _ _ = _
    unfold fM_asleepOf_28_b fM_asleepOf_77
    rw [if_neg (show ¬ people ≤ nI z by rw [hp]; exact nI_ge zn (by omega)), c30, c31, c32, i0, i1, i2, s0, s1, s2, g1, bd_some]
    dsimp only
    rw [hp, k3, bd_some, nI_1, orbit (by omega)]
    rw [hp] at r
    by_cases w : unl (fun p => times (20 * z + p)) who tm h' = 0
    · rw [if_pos (show nI (unl (fun p => times (20 * z + p)) who tm h') = 0 by rw [w]; rfl)]
      rw [nx, if_pos w] at r
      exact r
    · rw [if_neg (nI_ne0 (by omega) (by omega)), show (0 : Int32) = nI 0 from rfl, fa_or, Nat.or_zero]
      rw [nx, if_neg w] at r
      exact r
theorem pu_asleep (ci : Nat → Int32) (ca : Nat → Nat → Int32) (ne : Nat) (mi : Nat → Int32) (ma : Nat → Nat → Int32) (h : RelB ci ca ne mi ma) (a1 : Int32) : ∃ (u : Int32 × Int32 × Int32 × Int32 × Int32 × (Nat → Int32) × (Nat → Int32) × (Nat → Int32) × (Nat → Int32) × (Nat → Int32) × Int32 × Nat × (Nat → Int32) × Int32 × Int32 × Int32 × (Nat → Int32) × (Nat → Int32) × (Nat → Int32) × (Nat → Int32) × (Nat → Int32) × Int32 × (Nat → Int32)) (v : Int32 × Int32 × (Nat → Int32) × (Nat → Int32) × (Nat → Int32) × (Nat → Int32) × (Nat → Int32) × (Nat → Int32) × (Nat → Int32) × (Nat → Int32) × (Nat → Int32) × (Nat → Int32) × (Nat → Int32) × (Nat → Int32) × (Nat → Int32) × (Nat → Int32)), fC_asleep a1 (ci 0) (ci 1) (ci 2) (ci 3) (ci 6) (ca 1) (ca 2) (ca 3) (ca 4) (ci 10) (ci 11) (ci 12) (ca 7) (ca 8) (ca 9) (ca 10) (ca 11) (ci 13) ne (ca 12) (ci 14) (ci 15) (ci 16) (ca 13) (ca 14) (ca 15) (ca 16) (ca 17) (ci 21) (ca 18) (ci 26) (ca 22) (ca 23) = some u ∧ fM_asleep a1 (mi 0) (mi 1) (mi 3) (ma 0) (ma 1) (ma 2) (ma 3) (ma 4) (ma 5) (ma 6) (ma 7) (ma 8) (ma 9) (ma 10) (ma 12) (ma 13) (ma 14) (ma 15) (ma 16) (ma 21) (ma 22) = some v ∧ u.1 = v.1 ∧ ne ≤ u.2.2.2.2.2.2.2.2.2.2.2.1 ∧ RelB (lsI [(ci 0), (ci 1), (ci 2), u.2.1, (ci 4), (ci 5), (ci 6), (ci 7), (ci 8), (ci 9), u.2.2.1, u.2.2.2.1, u.2.2.2.2.1, u.2.2.2.2.2.2.2.2.2.2.1, u.2.2.2.2.2.2.2.2.2.2.2.2.2.1, u.2.2.2.2.2.2.2.2.2.2.2.2.2.2.1, u.2.2.2.2.2.2.2.2.2.2.2.2.2.2.2.1, (ci 17), (ci 18), (ci 19), (ci 20), u.2.2.2.2.2.2.2.2.2.2.2.2.2.2.2.2.2.2.2.2.2.1, (ci 22), (ci 23), (ci 24), (ci 25), (ci 26), (ci 27), (ci 28)]) (lsA [(ca 0), (ca 1), (ca 2), (ca 3), (ca 4), (ca 5), (ca 6), u.2.2.2.2.2.1, u.2.2.2.2.2.2.1, u.2.2.2.2.2.2.2.1, u.2.2.2.2.2.2.2.2.1, u.2.2.2.2.2.2.2.2.2.1, u.2.2.2.2.2.2.2.2.2.2.2.2.1, u.2.2.2.2.2.2.2.2.2.2.2.2.2.2.2.2.1, u.2.2.2.2.2.2.2.2.2.2.2.2.2.2.2.2.2.1, u.2.2.2.2.2.2.2.2.2.2.2.2.2.2.2.2.2.2.1, u.2.2.2.2.2.2.2.2.2.2.2.2.2.2.2.2.2.2.2.1, u.2.2.2.2.2.2.2.2.2.2.2.2.2.2.2.2.2.2.2.2.1, u.2.2.2.2.2.2.2.2.2.2.2.2.2.2.2.2.2.2.2.2.2.2, (ca 19), (ca 20), (ca 21), (ca 22), (ca 23), (ca 24), (ca 25), (ca 26), (ca 27), (ca 28), (ca 29), (ca 30)]) u.2.2.2.2.2.2.2.2.2.2.2.1 (lsI [(mi 0), v.2.1, (mi 2), (mi 3), (mi 4), (mi 5)]) (lsA [(ma 0), v.2.2.1, v.2.2.2.1, v.2.2.2.2.1, v.2.2.2.2.2.1, v.2.2.2.2.2.2.1, v.2.2.2.2.2.2.2.1, v.2.2.2.2.2.2.2.2.1, v.2.2.2.2.2.2.2.2.2.1, v.2.2.2.2.2.2.2.2.2.2.1, (ma 10), (ma 11), v.2.2.2.2.2.2.2.2.2.2.2.1, v.2.2.2.2.2.2.2.2.2.2.2.2.1, v.2.2.2.2.2.2.2.2.2.2.2.2.2.1, v.2.2.2.2.2.2.2.2.2.2.2.2.2.2.1, v.2.2.2.2.2.2.2.2.2.2.2.2.2.2.2, (ma 17), (ma 18), (ma 19), (ma 20), (ma 21), (ma 22), (ma 23), (ma 24), (ma 25), (ma 26), (ma 27), (ma 28), (ma 29), (ma 30)]) := by
  obtain ⟨hne, hH, hL, hS, hSh, hRg, hTx, hP, hT, hB, hZ⟩ := h
  have z1 : ¬ (1 : Int32) = 0 := by decide
  unfold fC_asleep fM_asleep
  rw [M_in_eq, bd_some]
  by_cases c : a1 < 0
  · rw [if_pos c, if_neg (show ¬ (0 ≤ a1 ∧ a1 ≤ 1) from fun w => o_ltn c w.1), if_pos rfl]
    exact ⟨_, _, mz_some (show ne ≤ ne from Nat.le_refl _), rfl, rfl, Nat.le_refl _, ⟨hne, hH, hL, hS, hSh, hRg, hTx, hP, hT, hB, hZ⟩⟩
  · rw [if_neg c]
    by_cases d : a1 ≤ 1
    · rw [if_pos d, if_pos (show 0 ≤ a1 ∧ a1 ≤ 1 from ⟨o_nlt c, d⟩), if_neg z1]
      unfold fM_asleepOf
      by_cases e : a1 = 1
      · rw [if_pos e, if_pos e]
        obtain ⟨sl, ld, unr2, due2, busy2, felt2, lost2, first2, size2, ne2, ent2, w1, w2, w3, w4⟩ := asTold_ok (len := (mi 0, ma 0)) (text := (mi 0, ma 0)) hP hS hT hne.1 hne.2 (ci 10) (ci 11) (ca 7)
        obtain ⟨K2, L2, C2, H2, R2, M2, AO2, LI2, MI2, com2, bt2, fm2, fb2, lb2, n, x1, x2, x3, x4, x5⟩ := w4 (mi 1) (ma 1) (ma 2) (ma 3) (ma 4) (ma 5) (ma 6) (ma 7) (ma 8) (ma 9) (ma 12) (ma 13) (ma 14) (ma 15) (ma 16)
        have x1' : fM_lays (mi 0) (mi 1) (ma 0) (ma 1) (ma 2) (ma 3) (ma 4) (ma 5) (ma 6) (ma 7) (ma 8) (ma 9) (ma 10) (ma 12) (ma 13) (ma 14) (ma 15) (ma 16) = some (nI n, K2, L2, C2, H2, R2, M2, AO2, LI2, MI2, com2, bt2, fm2, fb2, lb2) := x1
        obtain ⟨s, E, Fl, fe, lo, bu, q1, q2, q3, q4, q5, q6⟩ := x5
        obtain ⟨h, h1, h2, h3⟩ := unl_M (val := first2) x3 (fun p hp => first_eq x3 q1 q3 hp (q2.1 p hp).2.2.2) q2.2.1 hH
        have hF := unl_F hH first2 h1 h2
        have x2' : fM_unlikeNow (mi 0) (mi 1) (mi 3) (ma 0) (ma 1) (ma 2) (ma 3) (ma 4) (ma 5) (ma 6) (ma 7) (ma 8) (ma 9) (ma 10) (ma 12) (ma 13) (ma 14) (ma 15) (ma 16) (ma 21) (ma 22) = some (nI (unl first2 (ca 22) (ca 23) h), nI n, K2, L2, C2, H2, R2, M2, AO2, LI2, MI2, com2, bt2, fm2, fb2, lb2) := by
          unfold fM_unlikeNow
          rw [x1', bd_some]
          dsimp only
          rw [h3, bd_some]
        rw [w1, x2', bd_some]
        dsimp only
        by_cases z : nI (unl first2 (ca 22) (ca 23) h) = 0
        · rw [if_pos z, bd_some]
          refine ⟨(1, 1, sl, ld, unr2, due2, busy2, felt2, lost2, first2, size2, ne2, ent2, ci 14, ci 15, ci 16, ca 13, ca 14, ca 15, ca 16, ca 17, ci 21, ca 18), _, mz_bm (x := ((1 : Int32), sl, ld, unr2, due2, busy2, felt2, lost2, first2, size2, ne2, ent2)) ?_ w2 (Nat.le_refl _), rfl, rfl, w2, ⟨⟨Nat.le_trans hne.1 w2, w3⟩, hH, hL, hS, hSh, hRg, hTx, hP, Or.inr ⟨rfl, w4⟩, hB, hZ⟩⟩
          dsimp only
          rw [hF, bd_some, if_pos z]
        · rw [if_neg z, bd_some]
          refine ⟨(0, 1, sl, ld, unr2, due2, busy2, felt2, lost2, first2, size2, ne2, ent2, ci 14, ci 15, ci 16, ca 13, ca 14, ca 15, ca 16, ca 17, ci 21, ca 18), _, mz_bm (x := ((1 : Int32), sl, ld, unr2, due2, busy2, felt2, lost2, first2, size2, ne2, ent2)) ?_ w2 (Nat.le_refl _), rfl, rfl, w2, ⟨⟨Nat.le_trans hne.1 w2, w3⟩, hH, hL, hS, hSh, hRg, hTx, hP, Or.inr ⟨rfl, w4⟩, hB, hZ⟩⟩
          dsimp only
          rw [hF, bd_some, if_neg z]
      · rw [if_neg e, if_neg e]
        obtain ⟨K2, L2, C2, H2, R2, M2, AO2, LI2, MI2, p1, p2⟩ := hP (mi 1) (ma 1) (ma 2) (ma 3) (ma 4) (ma 5) (ma 6) (ma 7) (ma 8) (ma 9)
        obtain ⟨n, sc, mn, hd, sl, rg, kd, lt, r1, r2, r3, r4, r5⟩ := ParR_row p2
        -- the times of all sleepers
        obtain ⟨sl2, ld2, unr2, due2, busy2, felt2, lost2, first2, times2, f1, f2⟩ : ∃ (sl2 ld2 unr2 : Int32) (due2 busy2 felt2 lost2 first2 times2 : Nat → Int32), fZ_findOut (ci 0) (ci 1) (ci 2) (ci 6) (ca 1) (ca 2) (ca 3) (ca 4) (ci 14) (ci 15) (ci 16) (ca 13) (ca 14) (ca 15) (ca 16) (ca 17) (ci 21) (ca 18) = some (sl2, ld2, unr2, due2, busy2, felt2, lost2, first2, 1, times2) ∧ ∀ z', z' < n → SlpB (ci 0) (ci 1) (ci 2) (ci 6) (ci 7) (ci 8) (ca 1) (ca 2) (ca 3) (ca 4) times2 n z' := by
          unfold fZ_findOut
          rcases hZ with k | ⟨k, kz⟩
          · rw [if_pos k]
            exact z_go ⟨_, _, _, _, _, _, p2⟩ hS r1 r2 (ci 21) n 0 (ci 14) (ci 15) (ci 16) (ca 13) (ca 14) (ca 15) (ca 16) (ca 17) (ca 18) (by omega) (fun z' hz' => absurd hz' (Nat.not_lt_zero z')) FU (by rw [FU_eq]; omega)
          · rw [if_neg (by rw [k]; exact z1), k]
            exact ⟨_, _, _, _, _, _, _, _, _, rfl, fun z' hz' K' L' C' H' R' M' com bt fm fb lb hq => kz K' L' C' H' R' M' com bt fm fb lb n z' r1 r2 hz' hq⟩
        obtain ⟨h, h1, h2, h3, h4⟩ := hH
        have hH : RHear (ci 26) (ca 22) (ca 23) (mi 3) (ma 21) (ma 22) := ⟨h, h1, h2, h3, h4⟩
        obtain ⟨w, g1⟩ := sleep_M r2 r1 hS f2 hH h1 h2 p2 AO2 LI2 MI2 n 0 (ma 12) (ma 13) (ma 14) (ma 15) (ma 16) (by omega) FU (by rw [FU_eq]; omega)
        have g2 := sleep_C r2 hH h1 h2 (ci 3) (ci 10) (ci 11) (ci 12) (ca 7) (ca 8) (ca 9) (ca 10) (ca 11) (ci 13) ne (ca 12) sl2 ld2 unr2 due2 busy2 felt2 lost2 first2 1 times2 n 0 (by omega) FU (by rw [FU_eq]; omega)
        rw [← r1] at g2
        rw [f1, bd_some, p1, bd_some]
        dsimp only
        have g1' : fM_asleepOf_28 (ci 6) (mi 3) K2 L2 C2 H2 R2 M2 AO2 LI2 MI2 (ma 10) (ma 21) (ma 22) FU 0 0 (ma 12) (ma 13) (ma 14) (ma 15) (ma 16) = _ := g1
        have g2' : fC_asleep_64 (ci 3) (ci 6) (ci 10) (ci 11) (ci 12) (ca 7) (ca 8) (ca 9) (ca 10) (ca 11) (ci 13) ne (ca 12) sl2 ld2 unr2 due2 busy2 felt2 lost2 first2 1 times2 (ci 26) (ca 22) (ca 23) FU 0 0 = _ := g2
        rw [g1', g2', bd_some]
        exact ⟨_, _, mz_some (show ne ≤ ne from Nat.le_refl _), rfl, rfl, Nat.le_refl _, ⟨hne, hH, hL, hS, hSh, hRg, hTx, hP, hT, hB, Or.inr ⟨rfl, fun K' L' C' H' R' M' com bt fm fb lb n' z' e1 e2 e3 e4 => by have en := nIn e2 r2 (e1.symm.trans r1); subst en; exact f2 z' e3 K' L' C' H' R' M' com bt fm fb lb e4⟩⟩⟩
    · rw [if_neg d, if_neg (show ¬ (0 ≤ a1 ∧ a1 ≤ 1) from fun w => d w.2), if_pos rfl]
      exact ⟨_, _, mz_some (show ne ≤ ne from Nat.le_refl _), rfl, rfl, Nat.le_refl _, ⟨hne, hH, hL, hS, hSh, hRg, hTx, hP, hT, hB, hZ⟩⟩
