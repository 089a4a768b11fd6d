/-! ===== whom to begin with ===== -/
abbrev begK : Type := Int32 → Int32 → Int32 → Int32 → (Nat → Int32) → (Nat → Int32) → (Nat → Int32) → (Nat → Int32) → (Nat → Int32) → Option (Int32 × lays15)
theorem beg_76 (k : begK) (a b c d e f g pe : Int32) (K L C H R M AO LI MI com bt fm fb lb : Nat → Int32) : fM_beginOf_76 k a b c d e f g pe K L C H R M AO LI MI com bt fm fb lb = k e f g (e + 1) com bt fm fb lb := by
  unfold fM_beginOf_76 fM_beginOf_81 fM_beginOf_94 fM_beginOf_107 fM_beginOf_121
  simp only [show ¬ (1 : Int32) = 0 by decide, if_false]
theorem beg_80 (k : begK) (a b c d e f g pe : Int32) (K L C H R M AO LI MI com bt fm fb lb : Nat → Int32) : fM_beginOf_80 k a b c d e f g pe K L C H R M AO LI MI com bt fm fb lb = k b c d (e + 1) com bt fm fb lb := by
  unfold fM_beginOf_80 fM_beginOf_81 fM_beginOf_94 fM_beginOf_107 fM_beginOf_121
  simp only [if_true]
theorem b_go {people scarves main : Int32} {K L H S : Nat → Int32} (hPar : ∃ K0 L0 C0 H0 R0 M0 : Nat → Int32, ParR people scarves main K L H S K0 L0 C0 H0 R0 M0) {n : Nat} (hp : people = nI n) (hn : n ≤ 20) (known : Int32) : ∀ (m v : Nat) (sl ld unr : Int32) (due busy felt lost first : Nat → Int32) (who rea las : Int32), v + m = n → ((who = -1 ∧ rea = 0) ∨ ¬ who = -1) → ∀ f, m < f → ∃ (sl2 ld2 unr2 : Int32) (due2 busy2 felt2 lost2 first2 : Nat → Int32) (who2 rea2 las2 : Int32), fB_findOut_25 people K L H S known f (nI v) sl ld unr due busy felt lost first who rea las = some (sl2, ld2, unr2, due2, busy2, felt2, lost2, first2, who2, rea2, las2, 1) ∧ ∀ (K' L' C' H' R' M' AO LI MI com bt fm fb lb : Nat → Int32) (j g : Nat), ParR people scarves main K L H S K' L' C' H' R' M' → j ≤ 2 → m < g → ∃ w, fM_beginOf_16 (nI j) people K' L' C' H' R' M' AO LI MI g who rea las (nI v) com bt fm fb lb = some ((if j = 0 then who2 else if j = 1 then rea2 else las2), w) := by
  intro m
  induction m with
  | zero =>
    intro v sl ld unr due busy felt lost first who rea las hv hw f hf
    obtain ⟨f, rfl⟩ : ∃ f', f = f' + 1 := ⟨f - 1, by omega⟩
    have e : v = n := by omega
    subst e
    refine ⟨sl, ld, unr, due, busy, felt, lost, first, who, rea, las, ?_, fun K' L' C' H' R' M' AO LI MI com bt fm fb lb j g _ hj hg => ?_⟩
    · show fB_findOut_25_b _ _ _ _ _ _ known _ _ _ _ _ _ _ _ _ _ _ _ = _
      unfold fB_findOut_25_b
      rw [hp, if_pos (nI_le (Nat.le_refl v) (by omega))]
    · obtain ⟨g, rfl⟩ : ∃ g', g = g' + 1 := ⟨g - 1, by omega⟩
      refine ⟨(people, K', L', C', H', R', M', AO, LI, MI, com, bt, fm, fb, lb), ?_⟩
      show fM_beginOf_16_b _ _ _ _ _ _ _ _ _ _ _ _ _ _ _ _ _ _ _ _ _ = _
      unfold fM_beginOf_16_b
      rw [if_pos (show people ≤ nI v by rw [hp]; exact nI_le (Nat.le_refl v) (by omega))]
      rcases (show j = 0 ∨ j = 1 ∨ j = 2 by omega) with rfl | rfl | rfl
      · rw [if_pos (show nI 0 = (0 : Int32) from rfl), if_pos rfl]
      · rw [if_neg (show ¬ nI 1 = (0 : Int32) by decide), if_pos (show nI 1 = (1 : Int32) from rfl), if_neg (by omega), if_pos rfl]
      · rw [if_neg (show ¬ nI 2 = (0 : Int32) by decide), if_neg (show ¬ nI 2 = (1 : Int32) by decide), if_neg (by omega), if_neg (by omega)]
  | succ m ih =>
    intro v sl ld unr due busy felt lost first who rea las hv hw f hf
    obtain ⟨f, rfl⟩ : ∃ f', f = f' + 1 := ⟨f - 1, by omega⟩
    have vn : v < n := by omega
    obtain ⟨ld1, unr1, due1, busy1, felt1, lost1, first1, u1, u2, u3⟩ := U_ok hPar hp hn (show v < 20 by omega) (show 0 ≤ 99 by omega) (seI := -1) (Or.inl rfl) (-1) sl ld unr due busy felt lost first
    have z : Nat → Int32 := fun _ => 0
    obtain ⟨K0, L0, C0, H0, R0, M0, hq0⟩ := hPar
    obtain ⟨_, _, _, _, _, _, _, ⟨b, b1, b2, _, b4⟩, l, l1, _⟩ := u3 K0 L0 C0 H0 R0 M0 z z z z z hq0
    have c0 : 0 < pcN b := b4 vn
    have c22 := pcN_le b
    obtain ⟨who', rea', las', g1, g2, g3⟩ : ∃ who' rea' las' : Int32, fB_compare (nI v) (nI (pcN b)) l who rea las = some (who', rea', las') ∧ ((who' = -1 ∧ rea' = 0) ∨ ¬ who' = -1) ∧ ∀ (k : begK) (j pe : Int32) (K L C H R M AO LI MI com bt fm fb lb : Nat → Int32), (if who = (-1) then fM_beginOf_76 k j who rea las (nI v) (nI (pcN b)) l pe K L C H R M AO LI MI com bt fm fb lb else (if rea < nI (pcN b) then fM_beginOf_76 k j who rea las (nI v) (nI (pcN b)) l pe K L C H R M AO LI MI com bt fm fb lb else (if nI (pcN b) = rea then (if las ≤ l then fM_beginOf_80 k j who rea las (nI v) (nI (pcN b)) l pe K L C H R M AO LI MI com bt fm fb lb else fM_beginOf_76 k j who rea las (nI v) (nI (pcN b)) l pe K L C H R M AO LI MI com bt fm fb lb) else fM_beginOf_80 k j who rea las (nI v) (nI (pcN b)) l pe K L C H R M AO LI MI com bt fm fb lb))) = k who' rea' las' (nI (v + 1)) com bt fm fb lb := by
      unfold fB_compare fB_compare_24
      have nv : ¬ nI v = (-1 : Int32) := nI_ne_m1 (by omega)
      simp only [beg_76, beg_80, nI_1]
      by_cases x1 : rea < nI (pcN b)
      · refine ⟨nI v, nI (pcN b), l, by rw [if_pos x1], Or.inr nv, fun k j pe K L C H R M AO LI MI com bt fm fb lb => ?_⟩
        by_cases x0 : who = -1
        · rw [if_pos x0]
        · rw [if_neg x0, if_pos x1]
      · have x0 : ¬ who = -1 := fun e => by
          rcases hw with q | q
          · exact x1 (by rw [q.2]; exact nI_lt (a := 0) c0 (by omega))
          · exact q e
        by_cases x2 : nI (pcN b) = rea
        · by_cases x3 : las ≤ l
          · exact ⟨who, rea, las, by rw [if_neg x1, if_pos x2, if_pos x3], Or.inr x0, fun k j pe K L C H R M AO LI MI com bt fm fb lb => by rw [if_neg x0, if_neg x1, if_pos x2, if_pos x3]⟩
          · exact ⟨nI v, nI (pcN b), l, by rw [if_neg x1, if_pos x2, if_neg x3], Or.inr nv, fun k j pe K L C H R M AO LI MI com bt fm fb lb => by rw [if_neg x0, if_neg x1, if_pos x2, if_neg x3]⟩
        · exact ⟨who, rea, las, by rw [if_neg x1, if_neg x2], Or.inr x0, fun k j pe K L C H R M AO LI MI com bt fm fb lb => by rw [if_neg x0, if_neg x1, if_neg x2]⟩
    obtain ⟨sl2, ld2, unr2, due2, busy2, felt2, lost2, first2, who2, rea2, las2, r1, r2⟩ := ih (v + 1) (-1) ld1 unr1 due1 busy1 felt1 lost1 first1 who' rea' las' (by omega) g2 f (by omega)
    refine ⟨sl2, ld2, unr2, due2, busy2, felt2, lost2, first2, who2, rea2, las2, ?_, fun K' L' C' H' R' M' AO LI MI com bt fm fb lb j g hq hj hg => ?_⟩
    · show fB_findOut_25_b _ _ _ _ _ _ known _ _ _ _ _ _ _ _ _ _ _ _ = _
      unfold fB_findOut_25_b fS_reachedBits_U
      have u1' : fS_run_U (nI v) (-1) 0 (-1) people K L H S sl ld unr due busy felt lost first = some (-1, ld1, unr1, due1, busy1, felt1, lost1, first1) := by rw [hp]; exact u1
      rw [if_neg (show ¬ people ≤ nI v by rw [hp]; exact nI_ge vn (by omega)), u1', bd_some]
      dsimp only
      rw [hp, b2, bd_some, bd_some, J_bitCount_eq (by omega), bd_some, l1, bd_some, g1, bd_some, nI_1]
      rw [hp] at r1
      exact r1
    · obtain ⟨g, rfl⟩ : ∃ g', g = g' + 1 := ⟨g - 1, by omega⟩
      obtain ⟨com2, bt2, fm2, fb2, lb2, t1, _, ⟨b', d1, d2, d3, _⟩, l', e1, e2⟩ := u3 K' L' C' H' R' M' com bt fm fb lb hq
      have eb : b' = b := by
        have := d2.symm.trans b2
        simp only [Option.some.injEq] at this
        exact (nI_eq (by omega) (by omega)).mp this
      have el : l' = l := by
        have := e1.symm.trans l1
        simp only [Option.some.injEq] at this
        exact this
      subst eb el
      obtain ⟨w, r⟩ := r2 K' L' C' H' R' M' AO LI MI com2 bt2 fm2 fb2 lb2 j g hq hj (by omega)
      refine ⟨w, ?_⟩
      show fM_beginOf_16_b _ _ _ _ _ _ _ _ _ _ _ _ _ _ _ _ _ _ _ _ _ = _
      unfold fM_beginOf_16_b
      have t1' : fM_runs (nI v) (-1) 0 (-1) people K' L' C' H' R' com bt fm fb lb = some (com2, bt2, fm2, fb2, lb2) := by rw [hp]; exact t1
      have d3' : fM_reachedBy 1 people fm2 = some (nI b') := by rw [hp]; exact d3
      have e2' : fM_lastBy people fm2 fb2 = some l' := by rw [hp]; exact e2
      rw [if_neg (show ¬ people ≤ nI v by rw [hp]; exact nI_ge vn (by omega)), t1', bd_some]
      dsimp only
      rw [d3', bd_some, M_ones_eq (by omega), bd_some, e2', bd_some]
      exact (g3 _ _ _ _ _ _ _ _ _ _ _ _ _ _ _ _ _).trans r
theorem pu_begin (ci : Nat → Int32) (ca : Nat → Nat → Int32) (ne : Nat) (mi : Nat → Int32) (ma : Nat → Nat → Int32) (h : RelB ci ca ne mi ma) (a1 : Int32) : ∃ (u : Int32 × Int32 × Int32 × Int32 × (Nat → Int32) × (Nat → Int32) × (Nat → Int32) × (Nat → Int32) × (Nat → Int32) × Int32 × Int32 × Int32 × Int32) (v : Int32 × Int32 × (Nat → Int32) × (Nat → Int32) × (Nat → Int32) × (Nat → Int32) × (Nat → Int32) × (Nat → Int32) × (Nat → Int32) × (Nat → Int32) × (Nat → Int32) × (Nat → Int32) × (Nat → Int32) × (Nat → Int32) × (Nat → Int32) × (Nat → Int32)), fC_begin a1 (ci 6) (ca 1) (ca 2) (ca 3) (ca 4) (ci 14) (ci 15) (ci 16) (ca 13) (ca 14) (ca 15) (ca 16) (ca 17) (ci 17) (ci 18) (ci 19) (ci 20) = some u ∧ fM_begin a1 (mi 0) (mi 1) (ma 0) (ma 1) (ma 2) (ma 3) (ma 4) (ma 5) (ma 6) (ma 7) (ma 8) (ma 9) (ma 12) (ma 13) (ma 14) (ma 15) (ma 16) = some v ∧ u.1 = v.1 ∧ RelB (lsI [(ci 0), (ci 1), (ci 2), (ci 3), (ci 4), (ci 5), (ci 6), (ci 7), (ci 8), (ci 9), (ci 10), (ci 11), (ci 12), (ci 13), u.2.1, u.2.2.1, u.2.2.2.1, u.2.2.2.2.2.2.2.2.2.1, u.2.2.2.2.2.2.2.2.2.2.1, u.2.2.2.2.2.2.2.2.2.2.2.1, u.2.2.2.2.2.2.2.2.2.2.2.2, (ci 21), (ci 22), (ci 23), (ci 24), (ci 25), (ci 26), (ci 27), (ci 28)]) (lsA [(ca 0), (ca 1), (ca 2), (ca 3), (ca 4), (ca 5), (ca 6), (ca 7), (ca 8), (ca 9), (ca 10), (ca 11), (ca 12), u.2.2.2.2.1, u.2.2.2.2.2.1, u.2.2.2.2.2.2.1, u.2.2.2.2.2.2.2.1, u.2.2.2.2.2.2.2.2.1, (ca 18), (ca 19), (ca 20), (ca 21), (ca 22), (ca 23), (ca 24), (ca 25), (ca 26), (ca 27), (ca 28), (ca 29), (ca 30)]) ne (lsI [(mi 0), v.2.1, (mi 2), (mi 3), (mi 4), (mi 5)]) (lsA [(ma 0), v.2.2.1, v.2.2.2.1, v.2.2.2.2.1, v.2.2.2.2.2.1, v.2.2.2.2.2.2.1, v.2.2.2.2.2.2.2.1, v.2.2.2.2.2.2.2.2.1, v.2.2.2.2.2.2.2.2.2.1, v.2.2.2.2.2.2.2.2.2.2.1, (ma 10), (ma 11), v.2.2.2.2.2.2.2.2.2.2.2.1, v.2.2.2.2.2.2.2.2.2.2.2.2.1, v.2.2.2.2.2.2.2.2.2.2.2.2.2.1, v.2.2.2.2.2.2.2.2.2.2.2.2.2.2.1, v.2.2.2.2.2.2.2.2.2.2.2.2.2.2.2, (ma 17), (ma 18), (ma 19), (ma 20), (ma 21), (ma 22), (ma 23), (ma 24), (ma 25), (ma 26), (ma 27), (ma 28), (ma 29), (ma 30)]) := by
  obtain ⟨hne, hH, hL, hS, hSh, hRg, hTx, hP, hT, hB, hZ⟩ := h
  have z1 : ¬ (1 : Int32) = 0 := by decide
  unfold fC_begin fM_begin
  rw [M_in_eq, bd_some]
  by_cases c : a1 < 0
  · rw [if_pos c, if_neg (show ¬ (0 ≤ a1 ∧ a1 ≤ 2) from fun w => o_ltn c w.1), if_pos rfl]
    exact ⟨_, _, rfl, rfl, rfl, ⟨hne, hH, hL, hS, hSh, hRg, hTx, hP, hT, hB, hZ⟩⟩
  · rw [if_neg c]
    by_cases d : a1 ≤ 2
    · rw [if_pos d, if_pos (show 0 ≤ a1 ∧ a1 ≤ 2 from ⟨o_nlt c, d⟩), if_neg z1]
      obtain ⟨sl2, ld2, unr2, due2, busy2, felt2, lost2, first2, who2, rea2, las2, f1, f2⟩ : ∃ (sl2 ld2 unr2 : Int32) (due2 busy2 felt2 lost2 first2 : Nat → Int32) (who2 rea2 las2 : Int32), fB_findOut (ci 6) (ca 1) (ca 2) (ca 3) (ca 4) (ci 14) (ci 15) (ci 16) (ca 13) (ca 14) (ca 15) (ca 16) (ca 17) (ci 17) (ci 18) (ci 19) (ci 20) = some (sl2, ld2, unr2, due2, busy2, felt2, lost2, first2, who2, rea2, las2, 1) ∧ BegR (mi 0) (ma 0) who2 rea2 las2 := by
        unfold fB_findOut
        rcases hB with k | ⟨k, kb⟩
        · rw [if_pos k]
          obtain ⟨K2, L2, C2, H2, R2, M2, AO2, LI2, MI2, p1, p2⟩ := hP (mi 1) (ma 1) (ma 2) (ma 3) (ma 4) (ma 5) (ma 6) (ma 7) (ma 8) (ma 9)
          obtain ⟨n, sc, mn, hd, sl, rg, kd, lt, r1, r2, r3, r4, r5⟩ := ParR_row p2
          obtain ⟨sl2, ld2, unr2, due2, busy2, felt2, lost2, first2, who2, rea2, las2, g1, g2⟩ := b_go ⟨_, _, _, _, _, _, p2⟩ r1 r2 (ci 20) n 0 (ci 14) (ci 15) (ci 16) (ca 13) (ca 14) (ca 15) (ca 16) (ca 17) (-1) 0 (-1) (by omega) (Or.inl ⟨rfl, rfl⟩) FU (by rw [FU_eq]; omega)
          refine ⟨sl2, ld2, unr2, due2, busy2, felt2, lost2, first2, who2, rea2, las2, g1, fun j pe k l c h r m ao li mi com bt fm fb lb hj => ?_⟩
          obtain ⟨K3, L3, C3, H3, R3, M3, AO3, LI3, MI3, q1, q2⟩ := hP pe k l c h r m ao li mi
          obtain ⟨w, e⟩ := g2 K3 L3 C3 H3 R3 M3 AO3 LI3 MI3 com bt fm fb lb j FU q2 hj (by rw [FU_eq]; omega)
          refine ⟨w, ?_⟩
          unfold fM_beginOf
          rw [q1, bd_some]
          exact e
        · rw [if_neg (by rw [k]; exact z1), k]
          exact ⟨_, _, _, _, _, _, _, _, _, _, _, rfl, kb⟩
      obtain ⟨j, _, j2, j3⟩ := nI_mid (a := 0) (b := 2) (by decide) (o_nlt c) d (by decide)
      obtain ⟨w, e⟩ := f2 j (mi 1) (ma 1) (ma 2) (ma 3) (ma 4) (ma 5) (ma 6) (ma 7) (ma 8) (ma 9) (ma 12) (ma 13) (ma 14) (ma 15) (ma 16) j2
      subst j3
      rw [f1, bd_some, e, bd_some]
      dsimp only
      rcases (show j = 0 ∨ j = 1 ∨ j = 2 by omega) with rfl | rfl | rfl
      · rw [if_pos (show nI 0 = (0 : Int32) from rfl)]
        exact ⟨_, _, rfl, rfl, rfl, ⟨hne, hH, hL, hS, hSh, hRg, hTx, hP, hT, Or.inr ⟨rfl, f2⟩, hZ⟩⟩
      · rw [if_neg (show ¬ nI 1 = (0 : Int32) by decide), if_pos (show nI 1 = (1 : Int32) from rfl)]
        exact ⟨_, _, rfl, rfl, rfl, ⟨hne, hH, hL, hS, hSh, hRg, hTx, hP, hT, Or.inr ⟨rfl, f2⟩, hZ⟩⟩
      · rw [if_neg (show ¬ nI 2 = (0 : Int32) by decide), if_neg (show ¬ nI 2 = (1 : Int32) by decide)]
        exact ⟨_, _, rfl, rfl, rfl, ⟨hne, hH, hL, hS, hSh, hRg, hTx, hP, hT, Or.inr ⟨rfl, f2⟩, hZ⟩⟩
    · rw [if_neg d, if_neg (show ¬ (0 ≤ a1 ∧ a1 ≤ 2) from fun w => d w.2), if_pos rfl]
      exact ⟨_, _, rfl, rfl, rfl, ⟨hne, hH, hL, hS, hSh, hRg, hTx, hP, hT, hB, hZ⟩⟩
