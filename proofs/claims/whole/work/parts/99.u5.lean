/-! ===== doubt, posts ===== -/
theorem pu_doubt (ci : Nat → Int32) (ca : Nat → Nat → Int32) (ne : Nat) (mi : Nat → Int32) (ma : Nat → Nat → Int32) (h : RelB ci ca ne mi ma) (a1 : Int32) (a2 : Int32) : ∃ (u : Int32 × Int32 × Int32 × Int32 × Int32 × (Nat → Int32) × (Nat → Int32) × (Nat → Int32) × (Nat → Int32) × (Nat → Int32) × Int32 × Nat × (Nat → Int32) × Int32 × (Nat → Int32) × (Nat → Int32) × (Nat → Int32)) (v : Int32 × Int32 × Int32 × (Nat → Int32) × (Nat → Int32) × (Nat → Int32) × (Nat → Int32) × (Nat → Int32) × (Nat → Int32) × (Nat → Int32) × (Nat → Int32) × (Nat → Int32) × (Nat → Int32) × (Nat → Int32) × (Nat → Int32) × (Nat → Int32) × (Nat → Int32) × (Nat → Int32) × (Nat → Int32) × (Nat → Int32) × (Nat → Int32)), fC_doubt a1 a2 (ci 0) (ci 1) (ci 2) (ci 3) (ci 6) (ci 8) (ca 1) (ca 2) (ca 3) (ca 4) (ci 10) (ci 11) (ci 12) (ca 7) (ca 8) (ca 9) (ca 10) (ca 11) (ci 13) ne (ca 12) (ci 22) (ci 23) (ci 24) (ci 25) (ca 19) (ca 20) (ca 21) = some u ∧ fM_doubt a1 a2 (mi 0) (mi 1) (mi 2) (ma 0) (ma 1) (ma 2) (ma 3) (ma 4) (ma 5) (ma 6) (ma 7) (ma 8) (ma 9) (ma 10) (ma 11) (ma 12) (ma 13) (ma 14) (ma 15) (ma 16) (ma 17) (ma 18) (ma 19) (ma 20) = some v ∧ u.1 = v.1 ∧ ne ≤ u.2.2.2.2.2.2.2.2.2.2.2.1 ∧ RelB (lsI [(ci 0), (ci 1), (ci 2), u.2.1, (ci 4), (ci 5), (ci 6), (ci 7), (ci 8), (ci 9), u.2.2.1, u.2.2.2.1, u.2.2.2.2.1, u.2.2.2.2.2.2.2.2.2.2.1, (ci 14), (ci 15), (ci 16), (ci 17), (ci 18), (ci 19), (ci 20), (ci 21), u.2.2.2.2.2.2.2.2.2.2.2.2.2.1, (ci 23), (ci 24), (ci 25), (ci 26), (ci 27), (ci 28)]) (lsA [(ca 0), (ca 1), (ca 2), (ca 3), (ca 4), (ca 5), (ca 6), u.2.2.2.2.2.1, u.2.2.2.2.2.2.1, u.2.2.2.2.2.2.2.1, u.2.2.2.2.2.2.2.2.1, u.2.2.2.2.2.2.2.2.2.1, u.2.2.2.2.2.2.2.2.2.2.2.2.1, (ca 13), (ca 14), (ca 15), (ca 16), (ca 17), (ca 18), u.2.2.2.2.2.2.2.2.2.2.2.2.2.2.1, u.2.2.2.2.2.2.2.2.2.2.2.2.2.2.2.1, u.2.2.2.2.2.2.2.2.2.2.2.2.2.2.2.2, (ca 22), (ca 23), (ca 24), (ca 25), (ca 26), (ca 27), (ca 28), (ca 29), (ca 30)]) u.2.2.2.2.2.2.2.2.2.2.2.1 (lsI [(mi 0), v.2.1, v.2.2.1, (mi 3), (mi 4), (mi 5)]) (lsA [(ma 0), v.2.2.2.1, v.2.2.2.2.1, v.2.2.2.2.2.1, v.2.2.2.2.2.2.1, v.2.2.2.2.2.2.2.1, v.2.2.2.2.2.2.2.2.1, v.2.2.2.2.2.2.2.2.2.1, v.2.2.2.2.2.2.2.2.2.2.1, v.2.2.2.2.2.2.2.2.2.2.2.1, (ma 10), (ma 11), v.2.2.2.2.2.2.2.2.2.2.2.2.1, v.2.2.2.2.2.2.2.2.2.2.2.2.2.1, v.2.2.2.2.2.2.2.2.2.2.2.2.2.2.1, v.2.2.2.2.2.2.2.2.2.2.2.2.2.2.2.1, v.2.2.2.2.2.2.2.2.2.2.2.2.2.2.2.2.1, v.2.2.2.2.2.2.2.2.2.2.2.2.2.2.2.2.2.1, v.2.2.2.2.2.2.2.2.2.2.2.2.2.2.2.2.2.2.1, v.2.2.2.2.2.2.2.2.2.2.2.2.2.2.2.2.2.2.2.1, v.2.2.2.2.2.2.2.2.2.2.2.2.2.2.2.2.2.2.2.2, (ma 21), (ma 22), (ma 23), (ma 24), (ma 25), (ma 26), (ma 27), (ma 28), (ma 29), (ma 30)]) := by
  obtain ⟨hne, hH, hL, hS, hSh, hRg, hTx, hP, hT, hB, hZ⟩ := h
  have z1 : ¬ (1 : Int32) = 0 := by decide
  by_cases c : a1 < 0
  · unfold fC_doubt fM_doubt
    rw [if_pos c, M_in_eq, bd_some, if_neg (show ¬ (0 ≤ a1 ∧ a1 ≤ 5) from fun w => o_ltn c w.1), if_pos rfl]
    exact ⟨_, _, mz_some (show ne ≤ ne from Nat.le_refl _), rfl, rfl, Nat.le_refl _, ⟨hne, hH, hL, hS, hSh, hRg, hTx, hP, hT, hB, hZ⟩⟩
  · by_cases d : 5 < a1
    · unfold fC_doubt fM_doubt
      rw [if_neg c, if_pos d, M_in_eq, bd_some, if_neg (show ¬ (0 ≤ a1 ∧ a1 ≤ 5) from fun w => o_ltn d w.2), if_pos rfl]
      exact ⟨_, _, mz_some (show ne ≤ ne from Nat.le_refl _), rfl, rfl, Nat.le_refl _, ⟨hne, hH, hL, hS, hSh, hRg, hTx, hP, hT, hB, hZ⟩⟩
    · obtain ⟨kk, _, k2, k3⟩ := nI_mid (a := 0) (b := 5) (by decide) (o_nlt c) (o_nlt d) (by decide)
      subst k3
      have i1 : fM_in (nI kk) 0 5 = some 1 := by rw [M_in_eq, if_pos ⟨o_nlt c, o_nlt d⟩]
      have no : ¬ ((-1 : Int32) ≤ a2 ∧ a2 ≤ nI kk - 1) → (a2 < -1 ∨ ¬ a2 < nI kk) → ∃ u v, fC_doubt (nI kk) a2 (ci 0) (ci 1) (ci 2) (ci 3) (ci 6) (ci 8) (ca 1) (ca 2) (ca 3) (ca 4) (ci 10) (ci 11) (ci 12) (ca 7) (ca 8) (ca 9) (ca 10) (ca 11) (ci 13) ne (ca 12) (ci 22) (ci 23) (ci 24) (ci 25) (ca 19) (ca 20) (ca 21) = some u ∧ fM_doubt (nI kk) a2 (mi 0) (mi 1) (mi 2) (ma 0) (ma 1) (ma 2) (ma 3) (ma 4) (ma 5) (ma 6) (ma 7) (ma 8) (ma 9) (ma 10) (ma 11) (ma 12) (ma 13) (ma 14) (ma 15) (ma 16) (ma 17) (ma 18) (ma 19) (ma 20) = some v ∧ u = (-2, (ci 3), (ci 10), (ci 11), (ci 12), (ca 7), (ca 8), (ca 9), (ca 10), (ca 11), (ci 13), ne, (ca 12), (ci 22), (ca 19), (ca 20), (ca 21)) ∧ v = (-2, (mi 1), (mi 2), (ma 1), (ma 2), (ma 3), (ma 4), (ma 5), (ma 6), (ma 7), (ma 8), (ma 9), (ma 12), (ma 13), (ma 14), (ma 15), (ma 16), (ma 17), (ma 18), (ma 19), (ma 20)) := fun h1 h2 => by
        unfold fC_doubt fM_doubt
        rw [i1, bd_some, if_neg z1, M_in_eq, bd_some, if_neg h1, if_pos rfl, if_neg c, if_neg d]
        by_cases q : a2 < -1
        · rw [if_pos q]
          exact ⟨_, _, mz_some (show ne ≤ ne from Nat.le_refl _), rfl, rfl, rfl⟩
        · rw [if_neg q, if_neg (h2.resolve_left q)]
          exact ⟨_, _, mz_some (show ne ≤ ne from Nat.le_refl _), rfl, rfl, rfl⟩
      have yes : (a2 = -1 ∨ ∃ j : Nat, j < kk ∧ a2 = nI j) → _ := fun hi => of_doubt hP hS hL hT hne (ci 10) (ci 11) (ca 7) (ci 22) (ca 19) (ca 20) (ca 21) (mi 1) (mi 2) (ma 1) (ma 2) (ma 3) (ma 4) (ma 5) (ma 6) (ma 7) (ma 8) (ma 9) (ma 12) (ma 13) (ma 14) (ma 15) (ma 16) (ma 17) (ma 18) (ma 19) (ma 20) (kk := kk) k2 (i := a2) hi
      have iy : (a2 = -1 ∨ ∃ j : Nat, j < kk ∧ a2 = nI j) → fM_in a2 (-1) (nI kk - 1) = some 1 := fun hi => by
        rw [M_in_eq, if_pos]
        rcases hi with e | ⟨j, hj, e⟩
        · rw [e]
          refine ⟨by decide, ?_⟩
          by_cases q : kk = 0
          · rw [q]; decide
          · rw [show nI kk - 1 = nI (kk - 1) from pk_sub (b := 1) (by omega)]
            exact m1_le_nI (by omega)
        · rw [e, show nI kk - 1 = nI (kk - 1) from pk_sub (b := 1) (by omega)]
          exact ⟨m1_le_nI (by omega), nI_le (by omega) (by omega)⟩
      have fin : (a2 = -1 ∨ ∃ j : Nat, j < kk ∧ a2 = nI j) → (∃ (u : Int32 × Int32 × Int32 × Int32 × Int32 × (Nat → Int32) × (Nat → Int32) × (Nat → Int32) × (Nat → Int32) × (Nat → Int32) × Int32 × Nat × (Nat → Int32) × Int32 × (Nat → Int32) × (Nat → Int32) × (Nat → Int32)) (v : Int32 × Int32 × Int32 × (Nat → Int32) × (Nat → Int32) × (Nat → Int32) × (Nat → Int32) × (Nat → Int32) × (Nat → Int32) × (Nat → Int32) × (Nat → Int32) × (Nat → Int32) × (Nat → Int32) × (Nat → Int32) × (Nat → Int32) × (Nat → Int32) × (Nat → Int32) × (Nat → Int32) × (Nat → Int32) × (Nat → Int32) × (Nat → Int32)), fC_doubt (nI kk) a2 (ci 0) (ci 1) (ci 2) (ci 3) (ci 6) (ci 8) (ca 1) (ca 2) (ca 3) (ca 4) (ci 10) (ci 11) (ci 12) (ca 7) (ca 8) (ca 9) (ca 10) (ca 11) (ci 13) ne (ca 12) (ci 22) (ci 23) (ci 24) (ci 25) (ca 19) (ca 20) (ca 21) = some u ∧ fM_doubt (nI kk) a2 (mi 0) (mi 1) (mi 2) (ma 0) (ma 1) (ma 2) (ma 3) (ma 4) (ma 5) (ma 6) (ma 7) (ma 8) (ma 9) (ma 10) (ma 11) (ma 12) (ma 13) (ma 14) (ma 15) (ma 16) (ma 17) (ma 18) (ma 19) (ma 20) = some v ∧ u.1 = v.1 ∧ ne ≤ u.2.2.2.2.2.2.2.2.2.2.2.1 ∧ RelB (lsI [(ci 0), (ci 1), (ci 2), u.2.1, (ci 4), (ci 5), (ci 6), (ci 7), (ci 8), (ci 9), u.2.2.1, u.2.2.2.1, u.2.2.2.2.1, u.2.2.2.2.2.2.2.2.2.2.1, (ci 14), (ci 15), (ci 16), (ci 17), (ci 18), (ci 19), (ci 20), (ci 21), u.2.2.2.2.2.2.2.2.2.2.2.2.2.1, (ci 23), (ci 24), (ci 25), (ci 26), (ci 27), (ci 28)]) (lsA [(ca 0), (ca 1), (ca 2), (ca 3), (ca 4), (ca 5), (ca 6), u.2.2.2.2.2.1, u.2.2.2.2.2.2.1, u.2.2.2.2.2.2.2.1, u.2.2.2.2.2.2.2.2.1, u.2.2.2.2.2.2.2.2.2.1, u.2.2.2.2.2.2.2.2.2.2.2.2.1, (ca 13), (ca 14), (ca 15), (ca 16), (ca 17), (ca 18), u.2.2.2.2.2.2.2.2.2.2.2.2.2.2.1, u.2.2.2.2.2.2.2.2.2.2.2.2.2.2.2.1, u.2.2.2.2.2.2.2.2.2.2.2.2.2.2.2.2, (ca 22), (ca 23), (ca 24), (ca 25), (ca 26), (ca 27), (ca 28), (ca 29), (ca 30)]) u.2.2.2.2.2.2.2.2.2.2.2.1 (lsI [(mi 0), v.2.1, v.2.2.1, (mi 3), (mi 4), (mi 5)]) (lsA [(ma 0), v.2.2.2.1, v.2.2.2.2.1, v.2.2.2.2.2.1, v.2.2.2.2.2.2.1, v.2.2.2.2.2.2.2.1, v.2.2.2.2.2.2.2.2.1, v.2.2.2.2.2.2.2.2.2.1, v.2.2.2.2.2.2.2.2.2.2.1, v.2.2.2.2.2.2.2.2.2.2.2.1, (ma 10), (ma 11), v.2.2.2.2.2.2.2.2.2.2.2.2.1, v.2.2.2.2.2.2.2.2.2.2.2.2.2.1, v.2.2.2.2.2.2.2.2.2.2.2.2.2.2.1, v.2.2.2.2.2.2.2.2.2.2.2.2.2.2.2.1, v.2.2.2.2.2.2.2.2.2.2.2.2.2.2.2.2.1, v.2.2.2.2.2.2.2.2.2.2.2.2.2.2.2.2.2.1, v.2.2.2.2.2.2.2.2.2.2.2.2.2.2.2.2.2.2.1, v.2.2.2.2.2.2.2.2.2.2.2.2.2.2.2.2.2.2.2.1, v.2.2.2.2.2.2.2.2.2.2.2.2.2.2.2.2.2.2.2.2, (ma 21), (ma 22), (ma 23), (ma 24), (ma 25), (ma 26), (ma 27), (ma 28), (ma 29), (ma 30)])) := fun hi => by
        obtain ⟨a, sl, ld, unr2, due2, busy2, felt2, lost2, first2, size2, ne2, ent2, xs2, who2, at2, lea2, posted2, K2, L2, C2, H2, R2, M2, AO2, LI2, MI2, com2, bt2, fm2, fb2, lb2, pw2, pt2, pk2, bp2, e1, e2, w2, w3, w4, x4⟩ := yes hi
        have e3 : fM_doubt (nI kk) a2 (mi 0) (mi 1) (mi 2) (ma 0) (ma 1) (ma 2) (ma 3) (ma 4) (ma 5) (ma 6) (ma 7) (ma 8) (ma 9) (ma 10) (ma 11) (ma 12) (ma 13) (ma 14) (ma 15) (ma 16) (ma 17) (ma 18) (ma 19) (ma 20) = some (a, ci 6, posted2, K2, L2, C2, H2, R2, M2, AO2, LI2, MI2, com2, bt2, fm2, fb2, lb2, pw2, pt2, pk2, bp2) := by
          unfold fM_doubt
          rw [i1, bd_some, if_neg z1, iy hi, bd_some, if_neg z1, e2, bd_some]
        exact ⟨_, _, e1, e3, rfl, w2, ⟨⟨Nat.le_trans hne.1 w2, w3⟩, hH, hL, hS, hSh, hRg, hTx, hP, Or.inr ⟨rfl, w4⟩, hB, hZ⟩⟩
      rcases ix0 a2 kk (by omega) with e | e | ⟨j, hj, e⟩
      · by_cases q : a2 < -1
        · obtain ⟨u, v, n1, n2, n3, n4⟩ := no (fun w => o_ltn q w.1) (Or.inl q)
          subst n3 n4
          exact ⟨_, _, n1, n2, rfl, Nat.le_refl _, ⟨hne, hH, hL, hS, hSh, hRg, hTx, hP, hT, hB, hZ⟩⟩
        · refine fin (Or.inl ?_)
          have := Int32.lt_iff_toInt_lt.mp e
          have q' : ¬ a2.toInt < (-1 : Int32).toInt := fun w => q (Int32.lt_iff_toInt_lt.mpr w)
          have z0 : (0 : Int32).toInt = 0 := by decide
          have zm : (-1 : Int32).toInt = -1 := by decide
          exact Int32.toInt_inj.mp (by omega)
      · have nl : ¬ a2 < nI kk := fun w => o_ltn w e
        obtain ⟨u, v, n1, n2, n3, n4⟩ := no (fun w => by
          have t := o_tr e w.2
          by_cases q : kk = 0
          · rw [q] at t; exact absurd t (by decide)
          · rw [show nI kk - 1 = nI (kk - 1) from pk_sub (b := 1) (by omega)] at t
            exact absurd t (nI_ge (by omega) (by omega))) (Or.inr nl)
        subst n3 n4
        exact ⟨_, _, n1, n2, rfl, Nat.le_refl _, ⟨hne, hH, hL, hS, hSh, hRg, hTx, hP, hT, hB, hZ⟩⟩
      · exact fin (Or.inr ⟨j, hj, e⟩)

theorem pu_posts (ci : Nat → Int32) (ca : Nat → Nat → Int32) (ne : Nat) (mi : Nat → Int32) (ma : Nat → Nat → Int32) (h : RelB ci ca ne mi ma) (a1 : Int32) : ∃ (u : Int32 × Int32 × Int32 × Int32 × Int32 × (Nat → Int32) × (Nat → Int32) × (Nat → Int32) × (Nat → Int32) × (Nat → Int32) × Int32 × Nat × (Nat → Int32) × Int32 × (Nat → Int32) × (Nat → Int32) × (Nat → Int32)) (v : Int32 × Int32 × Int32 × (Nat → Int32) × (Nat → Int32) × (Nat → Int32) × (Nat → Int32) × (Nat → Int32) × (Nat → Int32) × (Nat → Int32) × (Nat → Int32) × (Nat → Int32) × (Nat → Int32) × (Nat → Int32) × (Nat → Int32) × (Nat → Int32) × (Nat → Int32) × (Nat → Int32) × (Nat → Int32) × (Nat → Int32) × (Nat → Int32)), fC_posts a1 (ci 0) (ci 1) (ci 2) (ci 3) (ci 6) (ci 8) (ca 1) (ca 2) (ca 3) (ca 4) (ci 10) (ci 11) (ci 12) (ca 7) (ca 8) (ca 9) (ca 10) (ca 11) (ci 13) ne (ca 12) (ci 22) (ci 23) (ci 24) (ci 25) (ca 19) (ca 20) (ca 21) = some u ∧ fM_posts a1 (mi 0) (mi 1) (mi 2) (ma 0) (ma 1) (ma 2) (ma 3) (ma 4) (ma 5) (ma 6) (ma 7) (ma 8) (ma 9) (ma 10) (ma 11) (ma 12) (ma 13) (ma 14) (ma 15) (ma 16) (ma 17) (ma 18) (ma 19) (ma 20) = some v ∧ u.1 = v.1 ∧ ne ≤ u.2.2.2.2.2.2.2.2.2.2.2.1 ∧ RelB (lsI [(ci 0), (ci 1), (ci 2), u.2.1, (ci 4), (ci 5), (ci 6), (ci 7), (ci 8), (ci 9), u.2.2.1, u.2.2.2.1, u.2.2.2.2.1, u.2.2.2.2.2.2.2.2.2.2.1, (ci 14), (ci 15), (ci 16), (ci 17), (ci 18), (ci 19), (ci 20), (ci 21), u.2.2.2.2.2.2.2.2.2.2.2.2.2.1, (ci 23), (ci 24), (ci 25), (ci 26), (ci 27), (ci 28)]) (lsA [(ca 0), (ca 1), (ca 2), (ca 3), (ca 4), (ca 5), (ca 6), u.2.2.2.2.2.1, u.2.2.2.2.2.2.1, u.2.2.2.2.2.2.2.1, u.2.2.2.2.2.2.2.2.1, u.2.2.2.2.2.2.2.2.2.1, u.2.2.2.2.2.2.2.2.2.2.2.2.1, (ca 13), (ca 14), (ca 15), (ca 16), (ca 17), (ca 18), u.2.2.2.2.2.2.2.2.2.2.2.2.2.2.1, u.2.2.2.2.2.2.2.2.2.2.2.2.2.2.2.1, u.2.2.2.2.2.2.2.2.2.2.2.2.2.2.2.2, (ca 22), (ca 23), (ca 24), (ca 25), (ca 26), (ca 27), (ca 28), (ca 29), (ca 30)]) u.2.2.2.2.2.2.2.2.2.2.2.1 (lsI [(mi 0), v.2.1, v.2.2.1, (mi 3), (mi 4), (mi 5)]) (lsA [(ma 0), v.2.2.2.1, v.2.2.2.2.1, v.2.2.2.2.2.1, v.2.2.2.2.2.2.1, v.2.2.2.2.2.2.2.1, v.2.2.2.2.2.2.2.2.1, v.2.2.2.2.2.2.2.2.2.1, v.2.2.2.2.2.2.2.2.2.2.1, v.2.2.2.2.2.2.2.2.2.2.2.1, (ma 10), (ma 11), v.2.2.2.2.2.2.2.2.2.2.2.2.1, v.2.2.2.2.2.2.2.2.2.2.2.2.2.1, v.2.2.2.2.2.2.2.2.2.2.2.2.2.2.1, v.2.2.2.2.2.2.2.2.2.2.2.2.2.2.2.1, v.2.2.2.2.2.2.2.2.2.2.2.2.2.2.2.2.1, v.2.2.2.2.2.2.2.2.2.2.2.2.2.2.2.2.2.1, v.2.2.2.2.2.2.2.2.2.2.2.2.2.2.2.2.2.2.1, v.2.2.2.2.2.2.2.2.2.2.2.2.2.2.2.2.2.2.2.1, v.2.2.2.2.2.2.2.2.2.2.2.2.2.2.2.2.2.2.2.2, (ma 21), (ma 22), (ma 23), (ma 24), (ma 25), (ma 26), (ma 27), (ma 28), (ma 29), (ma 30)]) := by
  obtain ⟨hne, hH, hL, hS, hSh, hRg, hTx, hP, hT, hB, hZ⟩ := h
  have z1 : ¬ (1 : Int32) = 0 := by decide
  by_cases c : a1 < 0
  · unfold fC_posts fM_posts
    rw [if_pos c, M_in_eq, bd_some, if_neg (show ¬ (0 ≤ a1 ∧ a1 ≤ 9999) from fun w => o_ltn c w.1), if_pos rfl]
    exact ⟨_, _, mz_some (show ne ≤ ne from Nat.le_refl _), rfl, rfl, Nat.le_refl _, ⟨hne, hH, hL, hS, hSh, hRg, hTx, hP, hT, hB, hZ⟩⟩
  · by_cases d : a1 ≤ 9999
    · obtain ⟨kk, _, k2, k3⟩ := nI_mid (a := 0) (b := 9999) (by decide) (o_nlt c) d (by decide)
      subst k3
      obtain ⟨a, sl, ld, unr2, due2, busy2, felt2, lost2, first2, size2, ne2, ent2, xs2, who2, at2, lea2, posted2, K2, L2, C2, H2, R2, M2, AO2, LI2, MI2, com2, bt2, fm2, fb2, lb2, pw2, pt2, pk2, bp2, e1, e2, w2, w3, w4, x4⟩ := of_posts hP hS hL hT hne (ci 10) (ci 11) (ca 7) (ci 22) (ca 19) (ca 20) (ca 21) (mi 1) (mi 2) (ma 1) (ma 2) (ma 3) (ma 4) (ma 5) (ma 6) (ma 7) (ma 8) (ma 9) (ma 12) (ma 13) (ma 14) (ma 15) (ma 16) (ma 17) (ma 18) (ma 19) (ma 20) (d := kk) k2
      have e3 : fM_posts (nI kk) (mi 0) (mi 1) (mi 2) (ma 0) (ma 1) (ma 2) (ma 3) (ma 4) (ma 5) (ma 6) (ma 7) (ma 8) (ma 9) (ma 10) (ma 11) (ma 12) (ma 13) (ma 14) (ma 15) (ma 16) (ma 17) (ma 18) (ma 19) (ma 20) = some (a, ci 6, posted2, K2, L2, C2, H2, R2, M2, AO2, LI2, MI2, com2, bt2, fm2, fb2, lb2, pw2, pt2, pk2, bp2) := by
        unfold fM_posts
        rw [M_in_eq, bd_some, if_pos (show 0 ≤ nI kk ∧ nI kk ≤ 9999 from ⟨o_nlt c, d⟩), if_neg z1, e2, bd_some]
      exact ⟨_, _, e1, e3, rfl, w2, ⟨⟨Nat.le_trans hne.1 w2, w3⟩, hH, hL, hS, hSh, hRg, hTx, hP, Or.inr ⟨rfl, w4⟩, hB, hZ⟩⟩
    · unfold fC_posts fM_posts
      rw [if_neg c, if_neg d, M_in_eq, bd_some, if_neg (show ¬ (0 ≤ a1 ∧ a1 ≤ 9999) from fun w => d w.2), if_pos rfl]
      exact ⟨_, _, mz_some (show ne ≤ ne from Nat.le_refl _), rfl, rfl, Nat.le_refl _, ⟨hne, hH, hL, hS, hSh, hRg, hTx, hP, hT, hB, hZ⟩⟩
