/-! ===== the counts ===== -/
def adN (j mn : Nat) (hd lc : Nat → Nat) (p : Nat) : Nat := if j = 2 then (if mn.testBit p then 1 else 0) else if j = 3 then pcN (hd p) else if j = 7 then lc p else 0
section cnt
variable {n mn : Nat} {hd lc B : Nat → Nat} {K L C H R M AO LI MI com bt fm fb lb bo : Nat → Int32}
theorem sum8_go (hn : n ≤ 20) (h1 : ∀ p, p < n → M p = nI (if mn.testBit p then 1 else 0)) (h2 : ∀ p, p < n → H p = nI (hd p) ∧ hd p < 2 ^ 22) (h3 : ∀ p, p < n → fM_lostBy (nI p) 400 lb = some (nI (lc p))) {j : Nat} (hj : j ≤ 8) : ∀ (m p : Nat), p + m = n → ∀ f, m < f → fM_sumOf_8 (nI j) (nI n) K L C H R M AO LI MI com bt fm fb lb bo f (nI (fb_sm (adN j mn hd lc) p)) (nI p) = fM_sumOf_76 (nI j) (nI n) K L C H R M AO LI MI com bt fm fb lb bo FU (nI (fb_sm (adN j mn hd lc) n)) 0 := by
  intro m
  induction m with
  | zero =>
    intro p hp f hf
    obtain ⟨f, rfl⟩ : ∃ f', f = f' + 1 := ⟨f - 1, by omega⟩
    have e : p = n := by omega
    subst e
    show fM_sumOf_8_b _ _ _ _ _ _ _ _ _ _ _ _ _ _ _ _ _ _ _ _ = _
    unfold fM_sumOf_8_b
    rw [if_pos (nI_le (Nat.le_refl p) (by omega))]
  | succ m ih =>
    intro p hp f hf
    obtain ⟨f, rfl⟩ : ∃ f', f = f' + 1 := ⟨f - 1, by omega⟩
    have pn : p < n := by omega
    have c20 : ∀ {α : Type} (x : Option α), ck 20 (nI p) x = x := fun x => ck_nI (by omega) (by decide)
    have clp : (nI p).toNatClampNeg = p := nI_clamp (by omega)
    have r := ih (p + 1) (by omega) f (by omega)
    rw [fb_sm_succ] at r
    show fM_sumOf_8_b _ _ _ _ _ _ _ _ _ _ _ _ _ _ _ _ _ _ _ _ = _
    unfold fM_sumOf_8_b fM_sumOf_66
    rw [if_neg (nI_ge pn (by omega)), nI_1]
    by_cases e2 : j = 2
    · rw [if_pos (show nI j = 2 by rw [e2]; rfl), c20, clp, h1 p pn, nI_add]
      rw [show adN j mn hd lc p = (if mn.testBit p then 1 else 0) from if_pos e2] at r
      exact r
    · rw [if_neg (show ¬ nI j = 2 from neN (b := 2) e2 (by omega) (by decide))]
      by_cases e3 : j = 3
      · rw [if_pos (show nI j = 3 by rw [e3]; rfl), c20, clp, (h2 p pn).1, M_ones_eq (by have := (h2 p pn).2; omega), bd_some, nI_add]
        rw [show adN j mn hd lc p = pcN (hd p) from (if_neg e2).trans (if_pos e3)] at r
        exact r
      · rw [if_neg (show ¬ nI j = 3 from neN (b := 3) e3 (by omega) (by decide))]
        by_cases e7 : j = 7
        · rw [if_pos (show nI j = 7 by rw [e7]; rfl), h3 p pn, bd_some, nI_add]
          rw [show adN j mn hd lc p = lc p from (if_neg e2).trans ((if_neg e3).trans (if_pos e7))] at r
          exact r
        · rw [if_neg (show ¬ nI j = 7 from neN (b := 7) e7 (by omega) (by decide)), show (0 : Int32) = nI 0 from rfl, nI_add]
          rw [show adN j mn hd lc p = 0 from (if_neg e2).trans ((if_neg e3).trans (if_neg e7))] at r
          exact r
theorem sum76_6 (h1 : ∀ k, k < 100 → bo k = nI (B k)) : fM_sumOf_76 (nI 6) (nI n) K L C H R M AO LI MI com bt fm fb lb bo FU (nI 0) 0 = some (nI (birN B 0 100), nI n, K, L, C, H, R, M, AO, LI, MI, com, bt, fm, fb, lb) := by
  have go : ∀ (m y : Nat), y + m = 100 → ∀ f, m < f → fM_sumOf_76 (nI 6) (nI n) K L C H R M AO LI MI com bt fm fb lb bo f (nI (birN B 0 y)) (nI y) = some (nI (birN B 0 100), nI n, K, L, C, H, R, M, AO, LI, MI, com, bt, fm, fb, lb) := by
    intro m
    induction m with
    | zero =>
      intro y hy f hf
      obtain ⟨f, rfl⟩ : ∃ f', f = f' + 1 := ⟨f - 1, by omega⟩
      have e : y = 100 := by omega
      subst e
      show fM_sumOf_76_b _ _ _ _ _ _ _ _ _ _ _ _ _ _ _ _ _ _ _ _ = _
      unfold fM_sumOf_76_b fM_sumOf_103
      rw [if_pos (show (100 : Int32) ≤ nI 100 from nI_le (a := 100) (Nat.le_refl _) (by decide)), if_neg (show ¬ nI 6 = (0 : Int32) by decide), if_neg (show ¬ nI 6 = (3 : Int32) by decide)]
    | succ m ih =>
      intro y hy f hf
      obtain ⟨f, rfl⟩ : ∃ f', f = f' + 1 := ⟨f - 1, by omega⟩
      show fM_sumOf_76_b _ _ _ _ _ _ _ _ _ _ _ _ _ _ _ _ _ _ _ _ = _
      unfold fM_sumOf_76_b
      rw [if_neg (show ¬ (100 : Int32) ≤ nI y from nI_ge (b := 100) (by omega) (by decide)), if_pos (show nI 6 = (6 : Int32) from rfl), ck_nI (by omega) (by decide), nI_clamp (by omega), h1 y (by omega), nI_add, ← birN_step B (Nat.zero_le y), nI_1]
      exact ih (y + 1) (by omega) f (by omega)
  have r := go 100 0 (by omega) FU (by rw [FU_eq]; decide)
  rw [birN_self] at r
  exact r
theorem sum76_no {j v : Nat} (hj : j ≤ 8) (h6 : j ≠ 6) : fM_sumOf_76 (nI j) (nI n) K L C H R M AO LI MI com bt fm fb lb bo FU (nI v) 0 = some ((if j = 0 then nI n else if j = 3 then nI v / 2 else nI v), nI n, K, L, C, H, R, M, AO, LI, MI, com, bt, fm, fb, lb) := by
  obtain ⟨f, hf⟩ : ∃ f, FU = f + 1 := ⟨999999, rfl⟩
  rw [hf]
  show fM_sumOf_76_b _ _ _ _ _ _ _ _ _ _ _ _ _ _ _ _ _ _ _ _ = _
  unfold fM_sumOf_76_b fM_sumOf_103
  rw [if_neg (show ¬ (100 : Int32) ≤ 0 by decide), if_neg (show ¬ nI j = 6 from neN (b := 6) h6 (by omega) (by decide))]
  by_cases e0 : j = 0
  · rw [if_pos (show nI j = 0 by rw [e0]; rfl), if_pos e0]
  · rw [if_neg (show ¬ nI j = 0 from nI_ne0 (by omega) (by omega)), if_neg e0]
    by_cases e3 : j = 3
    · rw [if_pos (show nI j = 3 by rw [e3]; rfl), if_pos e3]
    · rw [if_neg (show ¬ nI j = 3 from neN (b := 3) e3 (by omega) (by decide)), if_neg e3]
theorem pairs_eq (hn : n ≤ 20) {Hc : Nat → Int32} (h2 : ∀ p, p < n → Hc p = nI (hd p) ∧ hd p < 2 ^ 22) : fR_pairs (nI n) Hc = some (nI (fb_sm (fun p => pcN (hd p)) n) / 2) := by
  have go : ∀ (m p : Nat), p + m = n → ∀ f, m < f → fR_pairs_4 (nI n) Hc f (nI (fb_sm (fun p => pcN (hd p)) p)) (nI p) = some (nI (fb_sm (fun p => pcN (hd p)) n) / 2) := by
    intro m
    induction m with
    | zero =>
      intro p hp f hf
      obtain ⟨f, rfl⟩ : ∃ f', f = f' + 1 := ⟨f - 1, by omega⟩
      have e : p = n := by omega
      subst e
      show fR_pairs_4_b _ _ _ _ _ = _
      unfold fR_pairs_4_b
      rw [if_pos (nI_le (Nat.le_refl p) (by omega))]
    | succ m ih =>
      intro p hp f hf
      obtain ⟨f, rfl⟩ : ∃ f', f = f' + 1 := ⟨f - 1, by omega⟩
      have pn : p < n := by omega
      show fR_pairs_4_b _ _ _ _ _ = _
      unfold fR_pairs_4_b
      rw [if_neg (nI_ge pn (by omega)), ck_nI (by omega) (by decide), nI_clamp (by omega), (h2 p pn).1, J_bitCount_eq (h2 p pn).2, bd_some, nI_add, ← fb_sm_succ (fun p => pcN (hd p)) p, nI_1]
      exact ih (p + 1) (by omega) f (by omega)
  exact go n 0 (by omega) FU (by rw [FU_eq]; omega)
theorem allLost_eq (hn : n ≤ 20) {lost : Nat → Int32} (h2 : ∀ p, p < n → lost p = nI (lc p)) : fS_allLost_T (nI n) lost = some (nI (fb_sm lc n)) := by
  have go : ∀ (m p : Nat), p + m = n → ∀ f, m < f → fS_allLost_T_4 (nI n) lost f (nI (fb_sm lc p)) (nI p) = some (nI (fb_sm lc n)) := by
    intro m
    induction m with
    | zero =>
      intro p hp f hf
      obtain ⟨f, rfl⟩ : ∃ f', f = f' + 1 := ⟨f - 1, by omega⟩
      have e : p = n := by omega
      subst e
      show fS_allLost_T_4_b _ _ _ _ _ = _
      unfold fS_allLost_T_4_b
      rw [if_pos (nI_le (Nat.le_refl p) (by omega))]
    | succ m ih =>
      intro p hp f hf
      obtain ⟨f, rfl⟩ : ∃ f', f = f' + 1 := ⟨f - 1, by omega⟩
      have pn : p < n := by omega
      show fS_allLost_T_4_b _ _ _ _ _ = _
      unfold fS_allLost_T_4_b
      rw [if_neg (nI_ge pn (by omega)), ck_nI (by omega) (by decide), nI_clamp (by omega), h2 p pn, nI_add, ← fb_sm_succ lc p, nI_1]
      exact ih (p + 1) (by omega) f (by omega)
  exact go n 0 (by omega) FU (by rw [FU_eq]; omega)
end cnt
theorem lostAll {s : Nat} {E : Nat → Nat} {Fl : Nat → Bool} {fe lo : Nat → Nat → Nat} (hS : SqN (440 * 401) s E Fl fe lo) {p : Nat} (hp : p < 20) : fb_sm (fun t => pcN (lo t p)) (400 + 1) = fb_ct (isL E Fl p) s := by
  rw [← hS.2.2.2.2.2.1 p 400 hp]
  refine fb_ct_cong (fun i hi => ?_)
  have := hS.1 i hi
  rw [decide_eq_true (show E i / 440 ≤ 400 by omega), Bool.and_true]
/-- the reference lays, always -/
theorem lays_ok {typed : Int32} {text : Nat → Int32} {people scarves main fault : Int32} {K L H S : Nat → Int32} (hP : Parsed typed text people scarves main fault K L H S) {fi se wh : Int32} {set : Nat → Int32} (hS : RSet fi se wh set) (pe : Int32) (k l c h r m ao li mi com bt fm fb lb : Nat → Int32) : ∃ (K' L' C' H' R' M' AO LI MI com2 bt2 fm2 fb2 lb2 : Nat → Int32) (n : Nat) (unr : Int32) (busy felt lost first : Nat → Int32) (size : Int32) (ne : Nat) (ent : Nat → Int32), fM_lays typed pe text k l c h r m ao li mi set com bt fm fb lb = some (nI n, K', L', C', H', R', M', AO, LI, MI, com2, bt2, fm2, fb2, lb2) ∧ people = nI n ∧ n ≤ 20 ∧ ParR people scarves main K L H S K' L' C' H' R' M' ∧ TolS n unr busy felt lost first size ne ent bt2 fm2 fb2 lb2 := by
  have z : Nat → Int32 := fun _ => 0
  obtain ⟨sl, ld, unr2, due2, busy2, felt2, lost2, first2, size2, ne2, ent2, w1, w2, w3, w4⟩ := asTold_ok (len := (typed, text)) (text := (typed, text)) (ran := 0) (unr := 0) (busy := z) (felt := z) (lost := z) (first := z) (size := 0) (ne := 64) (ent := z) hP hS (Or.inl rfl) (by omega) (by omega) 0 0 z
  obtain ⟨K', L', C', H', R', M', AO, LI, MI, com2, bt2, fm2, fb2, lb2, n, x1, x2, x3, x4, x5⟩ := w4 pe k l c h r m ao li mi com bt fm fb lb
  exact ⟨K', L', C', H', R', M', AO, LI, MI, com2, bt2, fm2, fb2, lb2, n, _, _, _, _, _, _, _, _, x1, x2, x3, x4, x5⟩
theorem pu_count (ci : Nat → Int32) (ca : Nat → Nat → Int32) (ne : Nat) (mi : Nat → Int32) (ma : Nat → Nat → Int32) (h : RelB ci ca ne mi ma) (a1 : Int32) : ∃ (u : Int32 × Int32 × Int32 × Int32 × Int32 × (Nat → Int32) × (Nat → Int32) × (Nat → Int32) × (Nat → Int32) × (Nat → Int32) × Int32 × Nat × (Nat → Int32)) (v : Int32 × Int32 × (Nat → Int32) × (Nat → Int32) × (Nat → Int32) × (Nat → Int32) × (Nat → Int32) × (Nat → Int32) × (Nat → Int32) × (Nat → Int32) × (Nat → Int32) × (Nat → Int32) × (Nat → Int32) × (Nat → Int32) × (Nat → Int32) × (Nat → Int32)), fC_count a1 (ci 0) (ci 1) (ci 2) (ci 3) (ci 5) (ci 6) (ci 8) (ca 1) (ca 2) (ca 3) (ca 4) (ci 10) (ci 11) (ci 12) (ca 7) (ca 8) (ca 9) (ca 10) (ca 11) (ci 13) ne (ca 12) (ci 26) (ci 27) (ca 26) (ci 28) = some u ∧ fM_count a1 (mi 0) (mi 1) (mi 3) (mi 4) (mi 5) (ma 0) (ma 1) (ma 2) (ma 3) (ma 4) (ma 5) (ma 6) (ma 7) (ma 8) (ma 9) (ma 10) (ma 12) (ma 13) (ma 14) (ma 15) (ma 16) (ma 25) = some v ∧ u.1 = v.1 ∧ ne ≤ u.2.2.2.2.2.2.2.2.2.2.2.1 ∧ RelB (lsI [(ci 0), (ci 1), (ci 2), u.2.1, (ci 4), (ci 5), (ci 6), (ci 7), (ci 8), (ci 9), u.2.2.1, u.2.2.2.1, u.2.2.2.2.1, u.2.2.2.2.2.2.2.2.2.2.1, (ci 14), (ci 15), (ci 16), (ci 17), (ci 18), (ci 19), (ci 20), (ci 21), (ci 22), (ci 23), (ci 24), (ci 25), (ci 26), (ci 27), (ci 28)]) (lsA [(ca 0), (ca 1), (ca 2), (ca 3), (ca 4), (ca 5), (ca 6), u.2.2.2.2.2.1, u.2.2.2.2.2.2.1, u.2.2.2.2.2.2.2.1, u.2.2.2.2.2.2.2.2.1, u.2.2.2.2.2.2.2.2.2.1, u.2.2.2.2.2.2.2.2.2.2.2.2, (ca 13), (ca 14), (ca 15), (ca 16), (ca 17), (ca 18), (ca 19), (ca 20), (ca 21), (ca 22), (ca 23), (ca 24), (ca 25), (ca 26), (ca 27), (ca 28), (ca 29), (ca 30)]) u.2.2.2.2.2.2.2.2.2.2.2.1 (lsI [(mi 0), v.2.1, (mi 2), (mi 3), (mi 4), (mi 5)]) (lsA [(ma 0), v.2.2.1, v.2.2.2.1, v.2.2.2.2.1, v.2.2.2.2.2.1, v.2.2.2.2.2.2.1, v.2.2.2.2.2.2.2.1, v.2.2.2.2.2.2.2.2.1, v.2.2.2.2.2.2.2.2.2.1, v.2.2.2.2.2.2.2.2.2.2.1, (ma 10), (ma 11), v.2.2.2.2.2.2.2.2.2.2.2.1, v.2.2.2.2.2.2.2.2.2.2.2.2.1, v.2.2.2.2.2.2.2.2.2.2.2.2.2.1, v.2.2.2.2.2.2.2.2.2.2.2.2.2.2.1, v.2.2.2.2.2.2.2.2.2.2.2.2.2.2.2, (ma 17), (ma 18), (ma 19), (ma 20), (ma 21), (ma 22), (ma 23), (ma 24), (ma 25), (ma 26), (ma 27), (ma 28), (ma 29), (ma 30)]) := by
  obtain ⟨hne, hH, hL, hS, hSh, hRg, hTx, hP, hT, hB, hZ⟩ := h
  have z1 : ¬ (1 : Int32) = 0 := by decide
  obtain ⟨K2, L2, C2, H2, R2, M2, AO2, LI2, MI2, com2, bt2, fm2, fb2, lb2, n, unr2, busy2, felt2, lost2, first2, size2, ne2, ent2, x1, x2, x3, x4, x5⟩ := lays_ok hP hS (mi 1) (ma 1) (ma 2) (ma 3) (ma 4) (ma 5) (ma 6) (ma 7) (ma 8) (ma 9) (ma 12) (ma 13) (ma 14) (ma 15) (ma 16)
  obtain ⟨n', sc, mn, hd, sl, rg, kd, lt, p1, p2, p3, p4, p5, p6, p7⟩ := x4
  have en := nIn p4.1 x3 (p1.symm.trans x2)
  subst en
  obtain ⟨s, E, Fl, fe, lo, bu, q1, q2, q3, q4, q5, q6⟩ := x5
  obtain ⟨nr, Y, C, B, r1, r2, r3, r4, r5⟩ := hRg.nums
  have hb : ∀ p, p < n' → hd p < 2 ^ 22 := fun p hp => Nat.lt_of_lt_of_le (p4.2.2.2.1 p hp).2.2.2.1 (Nat.pow_le_pow_right (by decide) (by omega))
  have mn22 : mn < 2 ^ 22 := Nat.lt_of_lt_of_le p4.2.2.1 (Nat.pow_le_pow_right (by decide) (by omega))
  have so : ∀ j, j ≤ 8 → fM_sumOf (nI j) (mi 0) (mi 1) (ma 0) (ma 1) (ma 2) (ma 3) (ma 4) (ma 5) (ma 6) (ma 7) (ma 8) (ma 9) (ma 10) (ma 12) (ma 13) (ma 14) (ma 15) (ma 16) (ma 25) = fM_sumOf_76 (nI j) (nI n') K2 L2 C2 H2 R2 M2 AO2 LI2 MI2 com2 bt2 fm2 fb2 lb2 (ma 25) FU (nI (fb_sm (adN j mn hd (fun p => fb_ct (isL E Fl p) s)) n')) 0 := by
    intro j hj
    unfold fM_sumOf
    rw [x1, bd_some]
    exact sum8_go x3 (fun p hp => (p7.2.2 p hp).2.2.2) (fun p hp => ⟨p7.1 p hp, hb p hp⟩) (fun p hp => (lostBy_eq x3 q1 q3 hp (τ := 400) (by omega)).trans (by rw [lostAll q1 (by omega)])) hj n' 0 (by omega) FU (by rw [FU_eq]; omega)
  unfold fC_count fM_count
  by_cases e0 : a1 = 0
  · have s0 := (so 0 (by omega)).trans (sum76_no (by omega) (by omega))
    rw [if_pos rfl] at s0
    rw [if_pos e0, if_pos e0, e0, show (0 : Int32) = nI 0 from rfl, s0, bd_some, p1]
    exact ⟨_, _, mz_some (show ne ≤ ne from Nat.le_refl _), rfl, rfl, Nat.le_refl _, (by rw [← p1] ; exact ⟨hne, hH, hL, hS, hSh, hRg, hTx, hP, hT, hB, hZ⟩)⟩
  · rw [if_neg e0, if_neg e0]
    by_cases e1 : a1 = 1
    · rw [if_pos e1, if_pos e1]
      obtain ⟨len, l1, l2, l3, l4⟩ := hTx
      exact ⟨_, _, mz_some (show ne ≤ ne from Nat.le_refl _), rfl, l2.trans l3.symm, Nat.le_refl _, ⟨hne, hH, hL, hS, hSh, hRg, ⟨len, l1, l2, l3, l4⟩, hP, hT, hB, hZ⟩⟩
    · rw [if_neg e1, if_neg e1]
      by_cases e2 : a1 = 2
      · have s2 := (so 2 (by omega)).trans (sum76_no (by omega) (by omega))
        rw [if_neg (by omega), if_neg (by omega)] at s2
        have c2 : fb_sm (adN 2 mn hd (fun p => fb_ct (isL E Fl p) s)) n' = pcN mn := by
          rw [pc_low (b := mn) (j := n') (by omega) (fun k _ hk => tb_lt p4.2.2.1 hk), ← sm_ind]
          exact fb_sm_cong (fun k _ => if_pos rfl)
        rw [if_pos e2, if_pos e2, e2, show (2 : Int32) = nI 2 from rfl, s2, bd_some, p3, J_bitCount_eq mn22, bd_some, c2]
        exact ⟨_, _, mz_some (show ne ≤ ne from Nat.le_refl _), rfl, rfl, Nat.le_refl _, (by rw [← p3] ; exact ⟨hne, hH, hL, hS, hSh, hRg, hTx, hP, hT, hB, hZ⟩)⟩
      · rw [if_neg e2, if_neg e2]
        by_cases e3 : a1 = 3
        · have s3 := (so 3 (by omega)).trans (sum76_no (by omega) (by omega))
          rw [if_neg (by omega), if_pos rfl] at s3
          have c3 : fb_sm (adN 3 mn hd (fun p => fb_ct (isL E Fl p) s)) n' = fb_sm (fun p => pcN (hd p)) n' := fb_sm_cong (fun k _ => (if_neg (by omega)).trans (if_pos rfl))
          have pe := pairs_eq (Hc := ca 3) x3 (fun p hp => ⟨(p6 p hp).1, hb p hp⟩)
          rw [if_pos e3, if_pos e3, e3, show (3 : Int32) = nI 3 from rfl, s3, bd_some, p1, pe, bd_some, c3]
          exact ⟨_, _, mz_some (show ne ≤ ne from Nat.le_refl _), rfl, rfl, Nat.le_refl _, (by rw [← p1] ; exact ⟨hne, hH, hL, hS, hSh, hRg, hTx, hP, hT, hB, hZ⟩)⟩
        · rw [if_neg e3, if_neg e3]
          by_cases e4 : a1 = 4
          · rw [if_pos e4, if_pos e4]
            obtain ⟨k, k1, k2, k3, k4⟩ := hH
            exact ⟨_, _, mz_some (show ne ≤ ne from Nat.le_refl _), rfl, k2.trans k3.symm, Nat.le_refl _, ⟨hne, ⟨k, k1, k2, k3, k4⟩, hL, hS, hSh, hRg, hTx, hP, hT, hB, hZ⟩⟩
          · rw [if_neg e4, if_neg e4]
            by_cases e5 : a1 = 5
            · rw [if_pos e5, if_pos e5]
              exact ⟨_, _, mz_some (show ne ≤ ne from Nat.le_refl _), rfl, r2.trans r3.symm, Nat.le_refl _, ⟨hne, hH, hL, hS, hSh, hRg, hTx, hP, hT, hB, hZ⟩⟩
            · rw [if_neg e5, if_neg e5]
              by_cases e6 : a1 = 6
              · have z6 : fb_sm (adN 6 mn hd (fun p => fb_ct (isL E Fl p) s)) n' = 0 := (fb_sm_cong (fun k _ => (if_neg (by omega)).trans ((if_neg (by omega)).trans (if_neg (by omega))))).trans (fb_sm_const 0 n')
                have s6 := so 6 (by omega)
                rw [z6, sum76_6 (fun k hk => (r5.2 k hk).1)] at s6
                have b6 : fG_birthsOf 0 100 (ca 26) = some (nI (birN B 0 100)) := G_birthsOf_eq r4 (a := 0) (b := 100) (by omega) (by omega)
                rw [if_pos e6, if_pos e6, e6, show (6 : Int32) = nI 6 from rfl, s6, bd_some, b6, bd_some]
                exact ⟨_, _, mz_some (show ne ≤ ne from Nat.le_refl _), rfl, rfl, Nat.le_refl _, ⟨hne, hH, hL, hS, hSh, hRg, hTx, hP, hT, hB, hZ⟩⟩
              · rw [if_neg e6, if_neg e6]
                by_cases e7 : a1 = 7
                · rw [if_pos e7, if_pos e7]
                  obtain ⟨a, sl, ld, unr2, due2, busy2, felt2, lost2, first2, size2, ne2, ent2, w, x1, x2, x3, x4, x5⟩ := told_q hP hS hT hne (ci 10) (ci 11) (ca 7) (mi 1) (ma 1) (ma 2) (ma 3) (ma 4) (ma 5) (ma 6) (ma 7) (ma 8) (ma 9) (ma 12) (ma 13) (ma 14) (ma 15) (ma 16) (fun u => bd (fS_allLost_T (ci 6) u.2.2.2.2.2.2.2.1) (fun r => some (r, u))) (fun u => fM_sumOf_8 (nI 7) u.1 u.2.1 u.2.2.1 u.2.2.2.1 u.2.2.2.2.1 u.2.2.2.2.2.1 u.2.2.2.2.2.2.1 u.2.2.2.2.2.2.2.1 u.2.2.2.2.2.2.2.2.1 u.2.2.2.2.2.2.2.2.2.1 u.2.2.2.2.2.2.2.2.2.2.1 u.2.2.2.2.2.2.2.2.2.2.2.1 u.2.2.2.2.2.2.2.2.2.2.2.2.1 u.2.2.2.2.2.2.2.2.2.2.2.2.2.1 u.2.2.2.2.2.2.2.2.2.2.2.2.2.2 (ma 25) FU 0 0) (fun sl ld unrB due2 busy2 felt2 lost2 first2 sizeB ne2 ent2 nn K2 L2 C2 H2 R2 M2 AO2 LI2 MI2 com2 bt2 fm2 fb2 lb2 y1 y2 y3 y4 y5 => by
                    obtain ⟨n2', sc2, mn2, hd2, sl2, rg2, kd2, lt2, p1', p2', p3', p4', p5', p6', p7'⟩ := y4
                    have en := nIn p4'.1 y3 (p1'.symm.trans y2)
                    subst en
                    obtain ⟨s', E', Fl', fe', lo', bu', q1', q2', q3', q4', q5', q6'⟩ := y5
                    have hb' : ∀ p, p < n2' → hd2 p < 2 ^ 22 := fun p hp => Nat.lt_of_lt_of_le (p4'.2.2.2.1 p hp).2.2.2.1 (Nat.pow_le_pow_right (by decide) (by omega))
                    have c7 : fb_sm (adN 7 mn2 hd2 (fun p => fb_ct (isL E' Fl' p) s')) n2' = fb_sm (fun p => fb_ct (isL E' Fl' p) s') n2' := fb_sm_cong (fun k _ => (if_neg (by omega)).trans ((if_neg (by omega)).trans (if_pos rfl)))
                    refine ⟨nI (fb_sm (fun p => fb_ct (isL E' Fl' p) s') n2'), ?_, ?_⟩
                    · show bd (fS_allLost_T (ci 6) lost2) _ = _
                      rw [y2, allLost_eq y3 (fun p hp => (q2'.1 p hp).2.2.1), bd_some]
                    · refine (sum8_go (j := 7) y3 (fun p hp => (p7'.2.2 p hp).2.2.2) (fun p hp => ⟨p7'.1 p hp, hb' p hp⟩) (fun p hp => (lostBy_eq y3 q1' q3' hp (τ := 400) (by omega)).trans (by rw [lostAll q1' (by omega)])) (by omega) n2' 0 (by omega) FU (by rw [FU_eq]; omega)).trans ?_
                      rw [sum76_no (by omega) (by omega), if_neg (by omega), if_neg (by omega), c7])
                  have x2' : fM_sumOf (nI 7) (mi 0) (mi 1) (ma 0) (ma 1) (ma 2) (ma 3) (ma 4) (ma 5) (ma 6) (ma 7) (ma 8) (ma 9) (ma 10) (ma 12) (ma 13) (ma 14) (ma 15) (ma 16) (ma 25) = some (a, w) := x2
                  rw [e7, show (7 : Int32) = nI 7 from rfl, x2', bd_some]
                  exact ⟨_, _, x1, rfl, rfl, x3, ⟨⟨Nat.le_trans hne.1 x3, x4⟩, hH, hL, hS, hSh, hRg, hTx, hP, Or.inr ⟨rfl, x5⟩, hB, hZ⟩⟩
                · rw [if_neg e7, if_neg e7]
                  by_cases e8 : a1 = 8
                  · rw [if_pos e8, if_pos e8]
                    exact ⟨_, _, mz_some (show ne ≤ ne from Nat.le_refl _), rfl, hSh.1, Nat.le_refl _, ⟨hne, hH, hL, hS, hSh, hRg, hTx, hP, hT, hB, hZ⟩⟩
                  · rw [if_neg e8, if_neg e8]
                    exact ⟨_, _, mz_some (show ne ≤ ne from Nat.le_refl _), rfl, rfl, Nat.le_refl _, ⟨hne, hH, hL, hS, hSh, hRg, hTx, hP, hT, hB, hZ⟩⟩
