/-! ===== from whom; how many of all; what the trial keeps ===== -/
section more
variable {n s : Nat} {E : Nat → Nat} {Fl : Nat → Bool} {fe lo : Nat → Nat → Nat} {bu : Nat → Nat} {busyM feltM fB lB : Nat → Int32}
theorem from_go (hn : n ≤ 20) (hS : SqN (440 * 401) s E Fl fe lo) (hM : SqM n s E Fl bu fe lo busyM feltM fB lB) {p i : Nat} (hp : p < n) (hi : i < s) (hf : isF E Fl p i = true) (pe : Int32) (K L C H R M AO LI MI com : Nat → Int32) : ∀ (m j : Nat), j + m = E i % 22 → ∀ f, m < f → fM_from_56 (nI p) (nI (E i / 440)) pe K L C H R M AO LI MI com busyM feltM fB lB f (nI (fb_ct (fun k => (fe (E i / 440) p).testBit k) (E i % 22) - fb_ct (fun k => (fe (E i / 440) p).testBit k) j)) (nI j) = some (srcC (E i % 22), pe, K, L, C, H, R, M, AO, LI, MI, com, busyM, feltM, fB, lB) := by
  obtain ⟨k1, k2, k3, k4, k5⟩ := kth_of hS hi hf
  have f22 := (hS.2.2.2.1 (E i / 440) p).1
  have ul := uc_lt f22
  intro m
  induction m with
  | zero =>
    intro j hj f hf
    obtain ⟨f, rfl⟩ : ∃ f', f = f' + 1 := ⟨f - 1, by omega⟩
    have e : j = E i % 22 := by omega
    subst e
    rw [Nat.sub_self]
    have key : ∀ fi : Int32, fi = nI (fr (E i % 22)) → fM_from_81 (fM_from_56 (nI p) (nI (E i / 440)) pe K L C H R M AO LI MI com busyM feltM fB lB f) (nI p) (nI (E i / 440)) (nI 0) (nI (E i % 22)) fi pe K L C H R M AO LI MI com busyM feltM fB lB = some (srcC (E i % 22), pe, K, L, C, H, R, M, AO, LI, MI, com, busyM, feltM, fB, lB) := by
      intro fi hfi
      unfold fM_from_81
      rw [comI, ck_nI (by omega) (by decide), nI_clamp (by omega), (hM.2 _ p k1 hp).1, hfi, M_isIn_eq (by omega) (by have := fr_lt k4; omega), uc_fr f22 k4, k3, bd_some, if_neg (show ¬ (if (true : Bool) = true then (1 : Int32) else 0) = 0 by rw [if_pos rfl]; decide), if_pos (show nI 0 = (0 : Int32) from rfl)]
      have fl := fr_lt k4
      unfold srcC
      by_cases c : E i % 22 < 2
      · rw [if_pos c, if_neg (show ¬ nI (fr (E i % 22)) ≤ 19 from nI_ge (a := 19) (by unfold fr; rw [if_pos c]; omega) (by omega))]
      · rw [if_neg c, if_pos (show nI (fr (E i % 22)) ≤ 19 from nI_le (b := 19) (by unfold fr; rw [if_neg c]; omega) (by decide)), show fr (E i % 22) = E i % 22 - 2 by unfold fr; rw [if_neg c]]
    show fM_from_56_b _ _ _ _ _ _ _ _ _ _ _ _ _ _ _ _ _ _ _ _ = _
    unfold fM_from_56_b
    rw [if_neg (show ¬ (22 : Int32) ≤ nI (E i % 22) from nI_ge (b := 22) k4 (by decide))]
    have f0 := frI k4
    by_cases c : (2 : Int32) ≤ nI (E i % 22)
    · rw [if_pos c] at f0 ⊢; exact key _ f0
    · rw [if_neg c] at f0 ⊢; exact key _ f0
  | succ m ih =>
    intro j hj f hf
    obtain ⟨f, rfl⟩ : ∃ f', f = f' + 1 := ⟨f - 1, by omega⟩
    have j22 : j < 22 := by omega
    have cs := fb_ct_succ (fun k => (fe (E i / 440) p).testBit k) j
    have cm := fb_ct_mono (fun k => (fe (E i / 440) p).testBit k) (show j + 1 ≤ E i % 22 by omega)
    have cl : fb_ct (fun k => (fe (E i / 440) p).testBit k) (E i % 22) ≤ E i % 22 := fb_ct_le _ _
    have r := ih (j + 1) (by omega) f (by omega)
    have key : ∀ fi : Int32, fi = nI (fr j) → fM_from_81 (fM_from_56 (nI p) (nI (E i / 440)) pe K L C H R M AO LI MI com busyM feltM fB lB f) (nI p) (nI (E i / 440)) (nI (fb_ct (fun k => (fe (E i / 440) p).testBit k) (E i % 22) - fb_ct (fun k => (fe (E i / 440) p).testBit k) j)) (nI j) fi pe K L C H R M AO LI MI com busyM feltM fB lB = some (srcC (E i % 22), pe, K, L, C, H, R, M, AO, LI, MI, com, busyM, feltM, fB, lB) := by
      intro fi hfi
      unfold fM_from_81 fM_from_124
      rw [comI, ck_nI (by omega) (by decide), nI_clamp (by omega), (hM.2 _ p k1 hp).1, hfi, M_isIn_eq (by omega) (by have := fr_lt j22; omega), uc_fr f22 j22, bd_some, nI_1]
      cases e : (fe (E i / 440) p).testBit j
      · rw [if_pos (show (if (false : Bool) = true then (1 : Int32) else 0) = 0 by rw [if_neg (by decide)])]
        rw [e, if_neg (by decide), Nat.add_zero] at cs
        rw [cs] at r
        exact r
      · rw [if_neg (show ¬ (if (true : Bool) = true then (1 : Int32) else 0) = 0 by rw [if_pos rfl]; decide)]
        rw [e, if_pos rfl] at cs
        rw [if_neg (show ¬ nI (_ - _) = (0 : Int32) from nI_ne0 (by omega) (by omega)), nI_m1' (by omega), Nat.sub_sub, ← cs]
        exact r
    show fM_from_56_b _ _ _ _ _ _ _ _ _ _ _ _ _ _ _ _ _ _ _ _ = _
    unfold fM_from_56_b
    rw [if_neg (show ¬ (22 : Int32) ≤ nI j from nI_ge (b := 22) j22 (by decide))]
    have f0 := frI j22
    by_cases c : (2 : Int32) ≤ nI j
    · rw [if_pos c] at f0 ⊢; exact key _ f0
    · rw [if_neg c] at f0 ⊢; exact key _ f0
theorem ct_one {x n : Nat} (h : x < n) : fb_ct (fun q => decide (x = q)) n = 1 := by
  have u := fb_ct_upd (fun _ => false) true h
  have z : fb_ct (fun _ => false) n = 0 := fb_ct_zero.mpr (fun _ _ => rfl)
  have e : fb_ct (fun k => if k = x then true else (fun _ => false) k) n = fb_ct (fun q => decide (x = q)) n := fb_ct_cong (fun k _ => by
    by_cases c : k = x
    · rw [if_pos c, decide_eq_true c.symm]
    · rw [if_neg c, decide_eq_false (fun w => c w.symm)])
  rw [e] at u
  simp only [Bool.false_eq_true, if_false, if_true] at u
  omega
theorem all_sum (hE : EvN n s E) (τ : Nat) : fb_sm (fun p => fb_ct (fun i => isF E Fl p i && decide (E i / 440 ≤ τ)) s) n = fb_ct (fun i => Fl i && decide (E i / 440 ≤ τ)) s := by
  rw [sm_swap (fun i p => isF E Fl p i && decide (E i / 440 ≤ τ)) n s, ← sm_ind]
  refine fb_sm_cong (fun i hi => ?_)
  show fb_ct (fun p => (Fl i && decide (E i / 22 % 20 = p)) && decide (E i / 440 ≤ τ)) n = _
  by_cases c : (Fl i && decide (E i / 440 ≤ τ)) = true
  · rw [if_pos c]
    rw [Bool.and_eq_true] at c
    rw [c.1, c.2]
    exact (fb_ct_cong (fun k _ => by rw [Bool.true_and, Bool.and_true])).trans (ct_one (hE i hi))
  · rw [if_neg c]
    refine fb_ct_zero.mpr (fun k _ => ?_)
    cases a : Fl i
    · rfl
    · cases b : decide (E i / 440 ≤ τ)
      · rw [Bool.and_false]
      · rw [a, b] at c; exact absurd rfl c
theorem tallyAll_eq {ne : Nat} {ent : Nat → Int32} (hE : ∀ i, i < s → E i < 440 * 401) (hI : ∀ i k, i < k → k < s → E i < E k) (hD : ∀ i, i < s → ent i = nI (enc (E i) (Fl i))) (hs : s ≤ ne) (hne : ne ≤ 70000) {τ : Nat} (ht : τ ≤ 400) : fD_tallyAllFelt (nI τ) (nI s) ne ent = some (nI (fb_ct (fun i => Fl i && decide (E i / 440 ≤ τ)) s)) := by
  have go : ∀ (m i : Nat), i + m = s → ∀ f, m < f → fD_tallyAllFelt_4 (nI τ) (nI s) ne ent f (nI (fb_ct (fun i => Fl i && decide (E i / 440 ≤ τ)) i)) (nI i) = some (nI (fb_ct (fun i => Fl i && decide (E i / 440 ≤ τ)) s)) := by
    intro m
    induction m with
    | zero =>
      intro i hi f hf
      obtain ⟨f, rfl⟩ : ∃ f', f = f' + 1 := ⟨f - 1, by omega⟩
      have e : i = s := by omega
      subst e
      show fD_tallyAllFelt_4_b _ _ _ _ _ _ _ = _
      unfold fD_tallyAllFelt_4_b
      rw [if_pos (nI_le (Nat.le_refl i) (by omega))]
    | succ m ih =>
      intro i hi f hf
      obtain ⟨f, rfl⟩ : ∃ f', f = f' + 1 := ⟨f - 1, by omega⟩
      have is : i < s := by omega
      have cs := fb_ct_succ (fun i => Fl i && decide (E i / 440 ≤ τ)) i
      have ei := hE i is
      obtain ⟨x1, x2, x3, x4, x5⟩ := enc_parts (Fl i) ei
      show fD_tallyAllFelt_4_b _ _ _ _ _ _ _ = _
      unfold fD_tallyAllFelt_4_b fD_tallyAllFelt_39
      rw [if_neg (nI_ge is (by omega)), ck_nI (by omega) (by omega), nI_clamp (by omega), hD i is, D_timeOf_eq (Fl i) ei, bd_some]
      by_cases c : τ < E i / 440
      · rw [if_pos (nI_lt c (by omega))]
        congr 2
        rw [show s = i + (s - i) by omega, fb_ct_split, (fb_ct_zero (n := s - i)).mpr (fun k hk => ?_), Nat.add_zero]
        have : E i ≤ E (i + k) := by
          rcases Nat.eq_zero_or_pos k with w | w
          · rw [w]; exact Nat.le_refl _
          · exact Nat.le_of_lt (hI i (i + k) (by omega) (by omega))
        have : E i / 440 ≤ E (i + k) / 440 := Nat.div_le_div_right this
        rw [decide_eq_false (by omega), Bool.and_false]
      · rw [if_neg (nI_nlt (show E i / 440 ≤ τ by omega) (by omega)), ck_nI (by omega) (by omega), and1N, x5, nI_1, nI_1]
        have d : decide (E i / 440 ≤ τ) = true := decide_eq_true (by omega)
        have r := ih (i + 1) (by omega) f (by omega)
        rw [cs, d, Bool.and_true] at r
        cases e : Fl i
        · rw [if_neg (show ¬ nI (if (false : Bool) = true then 0 else 1) = 0 by rw [if_neg (by decide)]; decide)]
          rw [e, if_neg (by decide), Nat.add_zero] at r
          exact r
        · rw [if_pos (show nI (if (true : Bool) = true then 0 else 1) = 0 by rw [if_pos rfl]; rfl)]
          rw [e, if_pos rfl] at r
          exact r
  exact go s 0 (by omega) FU (by rw [FU_eq]; omega)
theorem passed_go (hn : n ≤ 20) (hS : SqN (440 * 401) s E Fl fe lo) (hM : SqM n s E Fl bu fe lo busyM feltM fB lB) (hE : EvN n s E) {τ : Nat} (ht : τ ≤ 400) (K L C H R M AO LI MI com : Nat → Int32) : fM_passedOf_8 (nI τ) (nI n) K L C H R M AO LI MI com busyM feltM fB lB FU 0 0 = some (nI (fb_ct (fun i => Fl i && decide (E i / 440 ≤ τ)) s), nI n, K, L, C, H, R, M, AO, LI, MI, com, busyM, feltM, fB, lB) := by
  have go : ∀ (m p : Nat), p + m = n → ∀ f, m < f → fM_passedOf_8 (nI τ) (nI n) K L C H R M AO LI MI com busyM feltM fB lB f (nI (fb_sm (fun p => fb_ct (fun i => isF E Fl p i && decide (E i / 440 ≤ τ)) s) p)) (nI p) = some (nI (fb_sm (fun p => fb_ct (fun i => isF E Fl p i && decide (E i / 440 ≤ τ)) s) n), nI n, K, L, C, H, R, M, AO, LI, MI, com, busyM, feltM, fB, lB) := by
    intro m
    induction m with
    | zero =>
      intro p hp f hf
      obtain ⟨f, rfl⟩ : ∃ f', f = f' + 1 := ⟨f - 1, by omega⟩
      have e : p = n := by omega
      subst e
      show fM_passedOf_8_b _ _ _ _ _ _ _ _ _ _ _ _ _ _ _ _ _ _ _ = _
      unfold fM_passedOf_8_b
      rw [if_pos (nI_le (Nat.le_refl p) (by omega))]
    | succ m ih =>
      intro p hp f hf
      obtain ⟨f, rfl⟩ : ∃ f', f = f' + 1 := ⟨f - 1, by omega⟩
      have pn : p < n := by omega
      show fM_passedOf_8_b _ _ _ _ _ _ _ _ _ _ _ _ _ _ _ _ _ _ _ = _
      unfold fM_passedOf_8_b
      rw [if_neg (nI_ge pn (by omega)), manyBy_eq hn hS hM pn ht, bd_some, ← hS.2.2.2.2.1 p τ (by omega), nI_add, nI_1]
      exact ih (p + 1) (by omega) f (by omega)
  have r := go n 0 (by omega) FU (by rw [FU_eq]; omega)
  rw [all_sum hE τ] at r
  exact r
theorem firR_ext {s2 s3 : Nat} {E2 E3 : Nat → Nat} {Fl2 Fl3 : Nat → Bool} (hX : Ext n s2 s3 E2 E3 Fl2 Fl3) {p : Nat} {v : Int32} (h : s2 = s3 ∨ fb_ct (isF E2 Fl2 p) s2 ≠ 0) (hf : firR E2 Fl2 s2 p v) : firR E3 Fl3 s3 p v := by
  have same : ∀ i, i < s2 → isF E3 Fl3 p i = isF E2 Fl2 p i := fun i hi => by
    unfold isF
    rw [(hX.2.1 i hi).1, (hX.2.1 i hi).2]
  have cs : ∀ k, k ≤ s2 → fb_ct (isF E3 Fl3 p) k = fb_ct (isF E2 Fl2 p) k := fun k hk => fb_ct_cong (fun i hi => same i (by omega))
  rcases hf with ⟨h1, h2⟩ | ⟨i, h1, h2, h3, h4⟩
  · rcases h with e | e
    · left
      rw [← e, cs s2 (Nat.le_refl _)]
      exact ⟨h1, h2⟩
    · exact absurd h1 e
  · right
    have := hX.1
    refine ⟨i, by omega, ?_, ?_, ?_⟩
    · rw [same i h1]; exact h2
    · rw [cs i (by omega)]; exact h3
    · rw [(hX.2.1 i h1).1]; exact h4
theorem ct_ext {s2 s3 : Nat} {E2 E3 : Nat → Nat} {Fl2 Fl3 : Nat → Bool} (hX : Ext n s2 s3 E2 E3 Fl2 Fl3) {p : Nat} (h : s2 = s3 ∨ fb_ct (isF E2 Fl2 p) s2 ≠ 0) : (1 ≤ fb_ct (isF E2 Fl2 p) s2) ↔ (1 ≤ fb_ct (isF E3 Fl3 p) s3) := by
  have cs : fb_ct (isF E3 Fl3 p) s2 = fb_ct (isF E2 Fl2 p) s2 := fb_ct_cong (fun i hi => by
    unfold isF
    rw [(hX.2.1 i hi).1, (hX.2.1 i hi).2])
  have mo := fb_ct_mono (isF E3 Fl3 p) hX.1
  rcases h with e | e
  · rw [← e, cs]
  · omega
end more
