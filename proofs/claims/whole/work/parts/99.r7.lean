/-! ===== the answers, both sides ===== -/
section ans
variable {n : Nat} {unr : Int32} {busy felt lost first : Nat → Int32} {size : Int32} {ne : Nat} {ent : Nat → Int32} {bt fm fb lb : Nat → Int32}
theorem ans_time (hT : TolS n unr busy felt lost first size ne ent bt fm fb lb) (hne : ne ≤ 70000) (hn : n ≤ 20) {p k : Nat} (hp : p < n) (hk : k < 2 ^ 31) : ∃ a c : Int32, fS_timeOfFelt_T (nI p) (nI k) size ne ent = some a ∧ fM_feltBy (nI p) (nI k) fm fb = some a ∧ fM_feltBy (nI p) 0 fm fb = some (first p) ∧ fm p = c ∧ (nI k < c ↔ ¬ a = -1) ∧ (k = 1 → (2 ≤ c ↔ ¬ a = -1)) := by
  obtain ⟨s, E, Fl, fe, lo, bu, hS, hC, hM, hD, hE, hs⟩ := hT
  have b := SqN_s hS
  have cb := fb_ct_le (isF E Fl p) s
  obtain ⟨g1, g2⟩ := feltBy_eq hn hS hM hp hk
  have f0 := first_eq hn hS hM hp (hC.1 p hp).2.2.2
  have fc := (hM.1 p hp).2
  unfold fS_timeOfFelt_T
  rw [hD.1]
  rcases find_eq (p := p) (k := k) hS.1 hD.2 hs hne (by omega) hk with ⟨h1, h2⟩ | ⟨i, h1, h2, h3, h4⟩
  · refine ⟨-1, _, ?_, g1 h1, f0, fc, ⟨fun w => ?_, fun w => absurd rfl w⟩, fun e => ⟨fun w => ?_, fun w => absurd rfl w⟩⟩
    · rw [h2, bd_some, if_pos rfl]
    · exact absurd w (nI_nlt h1 hk)
    · exact absurd w (nI_ge (a := fb_ct (isF E Fl p) s) (b := 2) (by omega) (by decide))
  · have e := hS.1 i h1
    have cs := fb_ct_succ (isF E Fl p) i
    rw [h2, if_pos rfl] at cs
    have mo := fb_ct_mono (isF E Fl p) (show i + 1 ≤ s by omega)
    have en := (enc_parts true e).1
    have nm : ¬ nI (E i / 440) = -1 := nI_ne_m1 (by omega)
    refine ⟨nI (E i / 440), _, ?_, g2 i h1 h2 h3, f0, fc, ⟨fun _ => nm, fun _ => nI_lt (by omega) (by omega)⟩, fun e1 => ⟨fun _ => nm, fun _ => nI_le (a := 2) (by omega) (by omega)⟩⟩
    rw [h4, bd_some, if_neg (nI_ne_m1 (by omega)), D_timeOf_eq true e, bd_some]
theorem ans_many (hT : TolS n unr busy felt lost first size ne ent bt fm fb lb) (hne : ne ≤ 70000) (hn : n ≤ 20) {p τ : Nat} (hp : p < n) (ht : τ ≤ 400) : ∃ a : Int32, fS_feltUpTo_T (nI p) (nI τ) size ne ent = some a ∧ fM_manyBy (nI p) (nI τ) fb = some a := by
  obtain ⟨s, E, Fl, fe, lo, bu, hS, hC, hM, hD, hE, hs⟩ := hT
  unfold fS_feltUpTo_T
  rw [hD.1, tally_F hS.1 hS.2.1 hD.2 hs hne (by omega) ht, bd_some, manyBy_eq hn hS hM hp ht, ← hS.2.2.2.2.1 p τ (by omega)]
  exact ⟨_, rfl, rfl⟩
theorem ans_lost (hT : TolS n unr busy felt lost first size ne ent bt fm fb lb) (hne : ne ≤ 70000) (hn : n ≤ 20) {p τ : Nat} (hp : p < n) (ht : τ ≤ 400) : ∃ a : Int32, fS_lostUpTo_T (nI p) (nI τ) size ne ent = some a ∧ fM_lostBy (nI p) (nI τ) lb = some a := by
  obtain ⟨s, E, Fl, fe, lo, bu, hS, hC, hM, hD, hE, hs⟩ := hT
  unfold fS_lostUpTo_T
  rw [hD.1, tally_L hS.1 hS.2.1 hD.2 hs hne (by omega) ht, bd_some, lostBy_eq hn hS hM hp ht, ← hS.2.2.2.2.2.1 p τ (by omega)]
  exact ⟨_, rfl, rfl⟩
theorem ans_passed (hT : TolS n unr busy felt lost first size ne ent bt fm fb lb) (hne : ne ≤ 70000) (hn : n ≤ 20) {τ : Nat} (ht : τ ≤ 400) (K L C H R M AO LI MI com : Nat → Int32) : ∃ a : Int32, fS_allFeltUpTo_T (nI τ) size ne ent = some a ∧ fM_passedOf_8 (nI τ) (nI n) K L C H R M AO LI MI com bt fm fb lb FU 0 0 = some (a, nI n, K, L, C, H, R, M, AO, LI, MI, com, bt, fm, fb, lb) := by
  obtain ⟨s, E, Fl, fe, lo, bu, hS, hC, hM, hD, hE, hs⟩ := hT
  unfold fS_allFeltUpTo_T
  rw [hD.1, tallyAll_eq hS.1 hS.2.1 hD.2 hs hne ht, bd_some, passed_go hn hS hM hE ht]
  exact ⟨_, rfl, rfl⟩
theorem least_cong {c : Nat} {felt feltM : Nat → Int32} (hn : n ≤ 20) (h : ∀ p, p < n → feltM p = felt p) : ∀ (m p : Nat) (v : Int32), p + m = n → ∀ f, m < f → fM_reachedBy_4 (nI c) (nI n) feltM f v (nI p) = fM_reachedBy_4 (nI c) (nI n) felt f v (nI p) := by
  intro m
  induction m with
  | zero =>
    intro p v hp f hf
    obtain ⟨f, rfl⟩ : ∃ f', f = f' + 1 := ⟨f - 1, by omega⟩
    show fM_reachedBy_4_b _ _ _ _ _ _ = fM_reachedBy_4_b _ _ _ _ _ _
    unfold fM_reachedBy_4_b
    rw [if_pos (nI_le (show n ≤ p by omega) (by omega)), if_pos (nI_le (show n ≤ p by omega) (by omega))]
  | succ m ih =>
    intro p v hp f hf
    obtain ⟨f, rfl⟩ : ∃ f', f = f' + 1 := ⟨f - 1, by omega⟩
    show fM_reachedBy_4_b _ _ _ _ _ _ = fM_reachedBy_4_b _ _ _ _ _ _
    unfold fM_reachedBy_4_b fM_reachedBy_30
    rw [nI_clamp (by omega), h p (by omega), nI_1, ih (p + 1) _ (by omega) f (by omega), ih (p + 1) _ (by omega) f (by omega)]
theorem ans_least (hT : TolS n unr busy felt lost first size ne ent bt fm fb lb) (hn : n ≤ 20) {c : Nat} (hc : c < 2 ^ 31) : ∃ a : Int32, fS_feltAtLeast_T (nI c) (nI n) felt = some a ∧ fM_reachedBy (nI c) (nI n) fm = some a := by
  obtain ⟨s, E, Fl, fe, lo, bu, hS, hC, hM, hD, hE, hs⟩ := hT
  have b := SqN_s hS
  obtain ⟨g1, g2, g3⟩ := least_go (c := c) (felt := felt) (ct := fun p => fb_ct (isF E Fl p) s) hn hc (fun p => by have := fb_ct_le (isF E Fl p) s; omega) (fun p hp => (hC.1 p hp).2.1)
  refine ⟨_, g1, ?_⟩
  rw [← g2]
  exact least_cong hn (fun p hp => by rw [(hM.1 p hp).2, (hC.1 p hp).2.1]) n 0 0 (by omega) FU (by rw [FU_eq]; omega)
theorem ans_last (hT : TolS n unr busy felt lost first size ne ent bt fm fb lb) (hn : n ≤ 20) : ∃ a : Int32, fS_lastTime_T (nI n) first = some a ∧ fM_lastBy (nI n) fm fb = some a := by
  obtain ⟨s, E, Fl, fe, lo, bu, hS, hC, hM, hD, hE, hs⟩ := hT
  exact lastBy_eq hn hS hM (fun p hp => (hC.1 p hp).2.2.2)
theorem ans_from (hT : TolS n unr busy felt lost first size ne ent bt fm fb lb) (hne : ne ≤ 70000) (hn : n ≤ 20) {p k : Nat} (hp : p < n) (hk : k < 2 ^ 31) (pe : Int32) (K L C H R M AO LI MI com : Nat → Int32) : ∃ a : Int32, fS_sourceOfFelt_T (nI p) (nI k) size ne ent = some a ∧ bd (fM_feltBy (nI p) (nI k) fm fb) (fun u_12 => (if u_12 = (-1) then some (-1, pe, K, L, C, H, R, M, AO, LI, MI, com, bt, fm, fb, lb) else (if u_12 = 0 then fM_from_50 (nI p) u_12 (nI k) 0 pe K L C H R M AO LI MI com bt fm fb lb else bd (fM_manyBy (nI p) (u_12 - 1) fb) (fun u_15 => fM_from_50 (nI p) u_12 (nI k) u_15 pe K L C H R M AO LI MI com bt fm fb lb)))) = some (a, pe, K, L, C, H, R, M, AO, LI, MI, com, bt, fm, fb, lb) := by
  obtain ⟨s, E, Fl, fe, lo, bu, hS, hC, hM, hD, hE, hs⟩ := hT
  obtain ⟨g1, g2⟩ := feltBy_eq hn hS hM hp hk
  unfold fS_sourceOfFelt_T
  rw [hD.1]
  rcases find_eq (p := p) (k := k) hS.1 hD.2 hs hne (by omega) hk with ⟨h1, h2⟩ | ⟨i, h1, h2, h3, h4⟩
  · refine ⟨-1, ?_, ?_⟩
    · rw [h2, bd_some, if_pos rfl]
    · rw [g1 h1, bd_some, if_pos rfl]
  · have e := hS.1 i h1
    have en := (enc_parts true e).1
    obtain ⟨k1, k2, k3, k4, k5⟩ := kth_of hS h1 h2
    have go := from_go hn hS hM hp h1 h2 pe K L C H R M AO LI MI com (E i % 22) 0 (by omega) FU (by rw [FU_eq]; omega)
    rw [show fb_ct (fun k => (fe (E i / 440) p).testBit k) 0 = 0 from rfl, Nat.sub_zero] at go
    refine ⟨srcC (E i % 22), ?_, ?_⟩
    · rw [h4, bd_some, if_neg (nI_ne_m1 (by omega)), D_sourceOf_eq true e, bd_some]
    · rw [g2 i h1 h2 h3, bd_some, if_neg (nI_ne_m1 (by omega))]
      rw [h3] at k2
      have b := sm22 fe p (t := E i / 440)
      unfold fM_from_50
      by_cases c : E i / 440 = 0
      · rw [if_pos (show nI (E i / 440) = 0 by rw [c]; rfl)]
        rw [c, show fb_sm (fun t => pcN (fe t p)) 0 = 0 from rfl, Nat.zero_add] at k2
        rw [c] at go ⊢
        rw [← k2] at go
        rw [show (0 : Int32) = nI 0 from rfl, pk_sub (Nat.zero_le _), Nat.sub_zero]
        exact go
      · rw [if_neg (nI_ne0 (by omega) (by omega)), show (1 : Int32) = nI 1 from rfl, pk_sub (show 1 ≤ E i / 440 by omega), manyBy_eq hn hS hM hp (show E i / 440 - 1 ≤ 400 by omega), bd_some, show E i / 440 - 1 + 1 = E i / 440 by omega, pk_sub (by omega), show k - fb_sm (fun t => pcN (fe t p)) (E i / 440) = fb_ct (fun k => (fe (E i / 440) p).testBit k) (E i % 22) by omega]
        exact go
end ans
