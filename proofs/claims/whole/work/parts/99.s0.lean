/-! ===== the methods: questions to the squeeze as told ===== -/
theorem C_isTime_eq (a : Int32) : fC_isTime a = some (if 0 ≤ a ∧ a ≤ 400 then 1 else 0) := by
  unfold fC_isTime
  by_cases c : a < 0
  · rw [if_pos c, if_neg (fun w => o_ltn c w.1)]
  · rw [if_neg c]
    by_cases d : 400 < a
    · rw [if_pos d, if_neg (fun w => o_ltn d w.2)]
    · rw [if_neg d, if_pos ⟨o_nlt c, o_nlt d⟩]
theorem nI_of_pos {a : Int32} (h : ¬ a < 0) : ∃ k : Nat, k < 2 ^ 31 ∧ a = nI k := by
  obtain ⟨k, _, k2, k3⟩ := nI_mid (x := a) (a := 0) (b := 2 ^ 31 - 1) (by decide) (o_nlt h) (by
    have := fb_rng a
    rw [Int32.le_iff_toInt_le]
    have e : (nI (2 ^ 31 - 1)).toInt = 2147483647 := by decide
    omega) (by decide)
  exact ⟨k, by omega, k3⟩
theorem pu_many (ci : Nat → Int32) (ca : Nat → Nat → Int32) (ne : Nat) (mi : Nat → Int32) (ma : Nat → Nat → Int32) (h : RelB ci ca ne mi ma) (a1 : Int32) (a2 : Int32) : ∃ (u : Int32 × Int32 × Int32 × Int32 × Int32 × (Nat → Int32) × (Nat → Int32) × (Nat → Int32) × (Nat → Int32) × (Nat → Int32) × Int32 × Nat × (Nat → Int32)) (v : Int32 × Int32 × (Nat → Int32) × (Nat → Int32) × (Nat → Int32) × (Nat → Int32) × (Nat → Int32) × (Nat → Int32) × (Nat → Int32) × (Nat → Int32) × (Nat → Int32) × (Nat → Int32) × (Nat → Int32) × (Nat → Int32) × (Nat → Int32) × (Nat → Int32)), fC_many a1 a2 (ci 0) (ci 1) (ci 2) (ci 3) (ci 6) (ca 1) (ca 2) (ca 3) (ca 4) (ci 10) (ci 11) (ci 12) (ca 7) (ca 8) (ca 9) (ca 10) (ca 11) (ci 13) ne (ca 12) = some u ∧ fM_many a1 a2 (mi 0) (mi 1) (ma 0) (ma 1) (ma 2) (ma 3) (ma 4) (ma 5) (ma 6) (ma 7) (ma 8) (ma 9) (ma 10) (ma 12) (ma 13) (ma 14) (ma 15) (ma 16) = some v ∧ u.1 = v.1 ∧ ne ≤ u.2.2.2.2.2.2.2.2.2.2.2.1 ∧ RelB (lsI [(ci 0), (ci 1), (ci 2), u.2.1, (ci 4), (ci 5), (ci 6), (ci 7), (ci 8), (ci 9), u.2.2.1, u.2.2.2.1, u.2.2.2.2.1, u.2.2.2.2.2.2.2.2.2.2.1, (ci 14), (ci 15), (ci 16), (ci 17), (ci 18), (ci 19), (ci 20), (ci 21), (ci 22), (ci 23), (ci 24), (ci 25), (ci 26), (ci 27), (ci 28)]) (lsA [(ca 0), (ca 1), (ca 2), (ca 3), (ca 4), (ca 5), (ca 6), u.2.2.2.2.2.1, u.2.2.2.2.2.2.1, u.2.2.2.2.2.2.2.1, u.2.2.2.2.2.2.2.2.1, u.2.2.2.2.2.2.2.2.2.1, u.2.2.2.2.2.2.2.2.2.2.2.2, (ca 13), (ca 14), (ca 15), (ca 16), (ca 17), (ca 18), (ca 19), (ca 20), (ca 21), (ca 22), (ca 23), (ca 24), (ca 25), (ca 26), (ca 27), (ca 28), (ca 29), (ca 30)]) u.2.2.2.2.2.2.2.2.2.2.2.1 (lsI [(mi 0), v.2.1, (mi 2), (mi 3), (mi 4), (mi 5)]) (lsA [(ma 0), v.2.2.1, v.2.2.2.1, v.2.2.2.2.1, v.2.2.2.2.2.1, v.2.2.2.2.2.2.1, v.2.2.2.2.2.2.2.1, v.2.2.2.2.2.2.2.2.1, v.2.2.2.2.2.2.2.2.2.1, v.2.2.2.2.2.2.2.2.2.2.1, (ma 10), (ma 11), v.2.2.2.2.2.2.2.2.2.2.2.1, v.2.2.2.2.2.2.2.2.2.2.2.2.1, v.2.2.2.2.2.2.2.2.2.2.2.2.2.1, v.2.2.2.2.2.2.2.2.2.2.2.2.2.2.1, v.2.2.2.2.2.2.2.2.2.2.2.2.2.2.2, (ma 17), (ma 18), (ma 19), (ma 20), (ma 21), (ma 22), (ma 23), (ma 24), (ma 25), (ma 26), (ma 27), (ma 28), (ma 29), (ma 30)]) := by
  obtain ⟨hne, hH, hL, hS, hSh, hRg, hTx, hP, hT, hB, hZ⟩ := h
  have z1 : ¬ (1 : Int32) = 0 := by decide
  obtain ⟨K1, L1, C1, H1, R1, M1, AO1, LI1, MI1, n, n1, n2, n3, cs⟩ := isP hP a1 (mi 1) (ma 1) (ma 2) (ma 3) (ma 4) (ma 5) (ma 6) (ma 7) (ma 8) (ma 9)
  unfold fC_many fM_many
  rcases cs with ⟨p, hp, ea, e1, e2⟩ | ⟨e1, e2⟩
  · rw [e1, e2, bd_some, bd_some]
    dsimp only
    rw [if_neg z1, if_neg z1]
    have tC : fC_isTime a2 = some (if 0 ≤ a2 ∧ a2 ≤ 400 then 1 else 0) := C_isTime_eq a2
    rw [tC, M_isTime_eq, bd_some, bd_some]
    by_cases c : 0 ≤ a2 ∧ a2 ≤ 400
    · rw [if_pos c, if_neg z1, if_neg z1]
      obtain ⟨τ, _, t2, t3⟩ := nI_mid (a := 0) (b := 400) (by decide) c.1 c.2 (by decide)
      obtain ⟨a, sl, ld, unr2, due2, busy2, felt2, lost2, first2, size2, ne2, ent2, w, x1, x2, x3, x4, x5⟩ := told_q hP hS hT hne (ci 10) (ci 11) (ca 7) (ci 6) K1 L1 C1 H1 R1 M1 AO1 LI1 MI1 (ma 12) (ma 13) (ma 14) (ma 15) (ma 16) (fun u => bd (fS_feltUpTo_T a1 a2 u.2.2.2.2.2.2.2.2.2.1 u.2.2.2.2.2.2.2.2.2.2.1 u.2.2.2.2.2.2.2.2.2.2.2) (fun r => some (r, u))) (fun u => bd (fM_manyBy a1 a2 u.2.2.2.2.2.2.2.2.2.2.2.2.2.1) (fun r => some (r, u))) (fun sl ld unr2 due2 busy2 felt2 lost2 first2 size2 ne2 ent2 nn K2 L2 C2 H2 R2 M2 AO2 LI2 MI2 com2 bt2 fm2 fb2 lb2 y1 y2 y3 y4 y5 => by
        have en := nIn y3 n2 (y2.symm.trans n1)
        subst en
        obtain ⟨a, b1, b2⟩ := ans_many y5 y1 y3 hp t2
        refine ⟨a, ?_, ?_⟩
        · show bd (fS_feltUpTo_T a1 a2 size2 ne2 ent2) _ = _
          rw [ea, t3, b1, bd_some]
        · show bd (fM_manyBy a1 a2 fb2) _ = _
          rw [ea, t3, b2, bd_some])
      have x2' : fM_manyOf a1 a2 (mi 0) (ci 6) (ma 0) K1 L1 C1 H1 R1 M1 AO1 LI1 MI1 (ma 10) (ma 12) (ma 13) (ma 14) (ma 15) (ma 16) = some (a, w) := x2
      rw [x2', bd_some]
      exact ⟨_, _, x1, rfl, rfl, x3, ⟨⟨Nat.le_trans hne.1 x3, x4⟩, hH, hL, hS, hSh, hRg, hTx, hP, Or.inr ⟨rfl, x5⟩, hB, hZ⟩⟩
    · rw [if_neg c, if_pos rfl, if_pos rfl]
      exact ⟨_, _, mz_some (show ne ≤ ne from Nat.le_refl _), rfl, rfl, Nat.le_refl _, ⟨hne, hH, hL, hS, hSh, hRg, hTx, hP, hT, hB, hZ⟩⟩
  · rw [e1, e2, bd_some, bd_some]
    dsimp only
    rw [if_pos rfl, if_pos rfl]
    exact ⟨_, _, mz_some (show ne ≤ ne from Nat.le_refl _), rfl, rfl, Nat.le_refl _, ⟨hne, hH, hL, hS, hSh, hRg, hTx, hP, hT, hB, hZ⟩⟩

theorem pu_lost (ci : Nat → Int32) (ca : Nat → Nat → Int32) (ne : Nat) (mi : Nat → Int32) (ma : Nat → Nat → Int32) (h : RelB ci ca ne mi ma) (a1 : Int32) (a2 : Int32) : ∃ (u : Int32 × Int32 × Int32 × Int32 × Int32 × (Nat → Int32) × (Nat → Int32) × (Nat → Int32) × (Nat → Int32) × (Nat → Int32) × Int32 × Nat × (Nat → Int32)) (v : Int32 × Int32 × (Nat → Int32) × (Nat → Int32) × (Nat → Int32) × (Nat → Int32) × (Nat → Int32) × (Nat → Int32) × (Nat → Int32) × (Nat → Int32) × (Nat → Int32) × (Nat → Int32) × (Nat → Int32) × (Nat → Int32) × (Nat → Int32) × (Nat → Int32)), fC_lost a1 a2 (ci 0) (ci 1) (ci 2) (ci 3) (ci 6) (ca 1) (ca 2) (ca 3) (ca 4) (ci 10) (ci 11) (ci 12) (ca 7) (ca 8) (ca 9) (ca 10) (ca 11) (ci 13) ne (ca 12) = some u ∧ fM_lost a1 a2 (mi 0) (mi 1) (ma 0) (ma 1) (ma 2) (ma 3) (ma 4) (ma 5) (ma 6) (ma 7) (ma 8) (ma 9) (ma 10) (ma 12) (ma 13) (ma 14) (ma 15) (ma 16) = some v ∧ u.1 = v.1 ∧ ne ≤ u.2.2.2.2.2.2.2.2.2.2.2.1 ∧ RelB (lsI [(ci 0), (ci 1), (ci 2), u.2.1, (ci 4), (ci 5), (ci 6), (ci 7), (ci 8), (ci 9), u.2.2.1, u.2.2.2.1, u.2.2.2.2.1, u.2.2.2.2.2.2.2.2.2.2.1, (ci 14), (ci 15), (ci 16), (ci 17), (ci 18), (ci 19), (ci 20), (ci 21), (ci 22), (ci 23), (ci 24), (ci 25), (ci 26), (ci 27), (ci 28)]) (lsA [(ca 0), (ca 1), (ca 2), (ca 3), (ca 4), (ca 5), (ca 6), u.2.2.2.2.2.1, u.2.2.2.2.2.2.1, u.2.2.2.2.2.2.2.1, u.2.2.2.2.2.2.2.2.1, u.2.2.2.2.2.2.2.2.2.1, u.2.2.2.2.2.2.2.2.2.2.2.2, (ca 13), (ca 14), (ca 15), (ca 16), (ca 17), (ca 18), (ca 19), (ca 20), (ca 21), (ca 22), (ca 23), (ca 24), (ca 25), (ca 26), (ca 27), (ca 28), (ca 29), (ca 30)]) u.2.2.2.2.2.2.2.2.2.2.2.1 (lsI [(mi 0), v.2.1, (mi 2), (mi 3), (mi 4), (mi 5)]) (lsA [(ma 0), v.2.2.1, v.2.2.2.1, v.2.2.2.2.1, v.2.2.2.2.2.1, v.2.2.2.2.2.2.1, v.2.2.2.2.2.2.2.1, v.2.2.2.2.2.2.2.2.1, v.2.2.2.2.2.2.2.2.2.1, v.2.2.2.2.2.2.2.2.2.2.1, (ma 10), (ma 11), v.2.2.2.2.2.2.2.2.2.2.2.1, v.2.2.2.2.2.2.2.2.2.2.2.2.1, v.2.2.2.2.2.2.2.2.2.2.2.2.2.1, v.2.2.2.2.2.2.2.2.2.2.2.2.2.2.1, v.2.2.2.2.2.2.2.2.2.2.2.2.2.2.2, (ma 17), (ma 18), (ma 19), (ma 20), (ma 21), (ma 22), (ma 23), (ma 24), (ma 25), (ma 26), (ma 27), (ma 28), (ma 29), (ma 30)]) := by
  obtain ⟨hne, hH, hL, hS, hSh, hRg, hTx, hP, hT, hB, hZ⟩ := h
  have z1 : ¬ (1 : Int32) = 0 := by decide
  obtain ⟨K1, L1, C1, H1, R1, M1, AO1, LI1, MI1, n, n1, n2, n3, cs⟩ := isP hP a1 (mi 1) (ma 1) (ma 2) (ma 3) (ma 4) (ma 5) (ma 6) (ma 7) (ma 8) (ma 9)
  unfold fC_lost fM_lost
  rcases cs with ⟨p, hp, ea, e1, e2⟩ | ⟨e1, e2⟩
  · rw [e1, e2, bd_some, bd_some]
    dsimp only
    rw [if_neg z1, if_neg z1]
    have tC : fC_isTime a2 = some (if 0 ≤ a2 ∧ a2 ≤ 400 then 1 else 0) := C_isTime_eq a2
    rw [tC, M_isTime_eq, bd_some, bd_some]
    by_cases c : 0 ≤ a2 ∧ a2 ≤ 400
    · rw [if_pos c, if_neg z1, if_neg z1]
      obtain ⟨τ, _, t2, t3⟩ := nI_mid (a := 0) (b := 400) (by decide) c.1 c.2 (by decide)
      obtain ⟨a, sl, ld, unr2, due2, busy2, felt2, lost2, first2, size2, ne2, ent2, w, x1, x2, x3, x4, x5⟩ := told_q hP hS hT hne (ci 10) (ci 11) (ca 7) (ci 6) K1 L1 C1 H1 R1 M1 AO1 LI1 MI1 (ma 12) (ma 13) (ma 14) (ma 15) (ma 16) (fun u => bd (fS_lostUpTo_T a1 a2 u.2.2.2.2.2.2.2.2.2.1 u.2.2.2.2.2.2.2.2.2.2.1 u.2.2.2.2.2.2.2.2.2.2.2) (fun r => some (r, u))) (fun u => bd (fM_lostBy a1 a2 u.2.2.2.2.2.2.2.2.2.2.2.2.2.2) (fun r => some (r, u))) (fun sl ld unr2 due2 busy2 felt2 lost2 first2 size2 ne2 ent2 nn K2 L2 C2 H2 R2 M2 AO2 LI2 MI2 com2 bt2 fm2 fb2 lb2 y1 y2 y3 y4 y5 => by
        have en := nIn y3 n2 (y2.symm.trans n1)
        subst en
        obtain ⟨a, b1, b2⟩ := ans_lost y5 y1 y3 hp t2
        refine ⟨a, ?_, ?_⟩
        · show bd (fS_lostUpTo_T a1 a2 size2 ne2 ent2) _ = _
          rw [ea, t3, b1, bd_some]
        · show bd (fM_lostBy a1 a2 lb2) _ = _
          rw [ea, t3, b2, bd_some])
      have x2' : fM_lostOf a1 a2 (mi 0) (ci 6) (ma 0) K1 L1 C1 H1 R1 M1 AO1 LI1 MI1 (ma 10) (ma 12) (ma 13) (ma 14) (ma 15) (ma 16) = some (a, w) := x2
      rw [x2', bd_some]
      exact ⟨_, _, x1, rfl, rfl, x3, ⟨⟨Nat.le_trans hne.1 x3, x4⟩, hH, hL, hS, hSh, hRg, hTx, hP, Or.inr ⟨rfl, x5⟩, hB, hZ⟩⟩
    · rw [if_neg c, if_pos rfl, if_pos rfl]
      exact ⟨_, _, mz_some (show ne ≤ ne from Nat.le_refl _), rfl, rfl, Nat.le_refl _, ⟨hne, hH, hL, hS, hSh, hRg, hTx, hP, hT, hB, hZ⟩⟩
  · rw [e1, e2, bd_some, bd_some]
    dsimp only
    rw [if_pos rfl, if_pos rfl]
    exact ⟨_, _, mz_some (show ne ≤ ne from Nat.le_refl _), rfl, rfl, Nat.le_refl _, ⟨hne, hH, hL, hS, hSh, hRg, hTx, hP, hT, hB, hZ⟩⟩

theorem pu_felt (ci : Nat → Int32) (ca : Nat → Nat → Int32) (ne : Nat) (mi : Nat → Int32) (ma : Nat → Nat → Int32) (h : RelB ci ca ne mi ma) (a1 : Int32) (a2 : Int32) : ∃ (u : Int32 × Int32 × Int32 × Int32 × Int32 × (Nat → Int32) × (Nat → Int32) × (Nat → Int32) × (Nat → Int32) × (Nat → Int32) × Int32 × Nat × (Nat → Int32)) (v : Int32 × Int32 × (Nat → Int32) × (Nat → Int32) × (Nat → Int32) × (Nat → Int32) × (Nat → Int32) × (Nat → Int32) × (Nat → Int32) × (Nat → Int32) × (Nat → Int32) × (Nat → Int32) × (Nat → Int32) × (Nat → Int32) × (Nat → Int32) × (Nat → Int32)), fC_felt a1 a2 (ci 0) (ci 1) (ci 2) (ci 3) (ci 6) (ca 1) (ca 2) (ca 3) (ca 4) (ci 10) (ci 11) (ci 12) (ca 7) (ca 8) (ca 9) (ca 10) (ca 11) (ci 13) ne (ca 12) = some u ∧ fM_felt a1 a2 (mi 0) (mi 1) (ma 0) (ma 1) (ma 2) (ma 3) (ma 4) (ma 5) (ma 6) (ma 7) (ma 8) (ma 9) (ma 10) (ma 12) (ma 13) (ma 14) (ma 15) (ma 16) = some v ∧ u.1 = v.1 ∧ ne ≤ u.2.2.2.2.2.2.2.2.2.2.2.1 ∧ RelB (lsI [(ci 0), (ci 1), (ci 2), u.2.1, (ci 4), (ci 5), (ci 6), (ci 7), (ci 8), (ci 9), u.2.2.1, u.2.2.2.1, u.2.2.2.2.1, u.2.2.2.2.2.2.2.2.2.2.1, (ci 14), (ci 15), (ci 16), (ci 17), (ci 18), (ci 19), (ci 20), (ci 21), (ci 22), (ci 23), (ci 24), (ci 25), (ci 26), (ci 27), (ci 28)]) (lsA [(ca 0), (ca 1), (ca 2), (ca 3), (ca 4), (ca 5), (ca 6), u.2.2.2.2.2.1, u.2.2.2.2.2.2.1, u.2.2.2.2.2.2.2.1, u.2.2.2.2.2.2.2.2.1, u.2.2.2.2.2.2.2.2.2.1, u.2.2.2.2.2.2.2.2.2.2.2.2, (ca 13), (ca 14), (ca 15), (ca 16), (ca 17), (ca 18), (ca 19), (ca 20), (ca 21), (ca 22), (ca 23), (ca 24), (ca 25), (ca 26), (ca 27), (ca 28), (ca 29), (ca 30)]) u.2.2.2.2.2.2.2.2.2.2.2.1 (lsI [(mi 0), v.2.1, (mi 2), (mi 3), (mi 4), (mi 5)]) (lsA [(ma 0), v.2.2.1, v.2.2.2.1, v.2.2.2.2.1, v.2.2.2.2.2.1, v.2.2.2.2.2.2.1, v.2.2.2.2.2.2.2.1, v.2.2.2.2.2.2.2.2.1, v.2.2.2.2.2.2.2.2.2.1, v.2.2.2.2.2.2.2.2.2.2.1, (ma 10), (ma 11), v.2.2.2.2.2.2.2.2.2.2.2.1, v.2.2.2.2.2.2.2.2.2.2.2.2.1, v.2.2.2.2.2.2.2.2.2.2.2.2.2.1, v.2.2.2.2.2.2.2.2.2.2.2.2.2.2.1, v.2.2.2.2.2.2.2.2.2.2.2.2.2.2.2, (ma 17), (ma 18), (ma 19), (ma 20), (ma 21), (ma 22), (ma 23), (ma 24), (ma 25), (ma 26), (ma 27), (ma 28), (ma 29), (ma 30)]) := by
  obtain ⟨hne, hH, hL, hS, hSh, hRg, hTx, hP, hT, hB, hZ⟩ := h
  have z1 : ¬ (1 : Int32) = 0 := by decide
  obtain ⟨K1, L1, C1, H1, R1, M1, AO1, LI1, MI1, n, n1, n2, n3, cs⟩ := isP hP a1 (mi 1) (ma 1) (ma 2) (ma 3) (ma 4) (ma 5) (ma 6) (ma 7) (ma 8) (ma 9)
  unfold fC_felt fM_felt
  rcases cs with ⟨p, hp, ea, e1, e2⟩ | ⟨e1, e2⟩
  · rw [e1, e2, bd_some, bd_some]
    dsimp only
    rw [if_neg z1, if_neg z1]
    by_cases c : a2 < 0
    · rw [if_neg (o_ltn c), if_pos c]
      exact ⟨_, _, mz_some (show ne ≤ ne from Nat.le_refl _), rfl, rfl, Nat.le_refl _, ⟨hne, hH, hL, hS, hSh, hRg, hTx, hP, hT, hB, hZ⟩⟩
    · rw [if_pos (o_nlt c), if_neg c]
      obtain ⟨k, k1, k2⟩ := nI_of_pos c
      obtain ⟨a, sl, ld, unr2, due2, busy2, felt2, lost2, first2, size2, ne2, ent2, w, x1, x2, x3, x4, x5⟩ := told_q hP hS hT hne (ci 10) (ci 11) (ca 7) (ci 6) K1 L1 C1 H1 R1 M1 AO1 LI1 MI1 (ma 12) (ma 13) (ma 14) (ma 15) (ma 16) (fun u => bd (fS_timeOfFelt_T a1 a2 u.2.2.2.2.2.2.2.2.2.1 u.2.2.2.2.2.2.2.2.2.2.1 u.2.2.2.2.2.2.2.2.2.2.2) (fun r => some (r, u))) (fun u => bd (fM_feltBy a1 a2 u.2.2.2.2.2.2.2.2.2.2.2.2.1 u.2.2.2.2.2.2.2.2.2.2.2.2.2.1) (fun r => some (r, u))) (fun sl ld unr2 due2 busy2 felt2 lost2 first2 size2 ne2 ent2 nn K2 L2 C2 H2 R2 M2 AO2 LI2 MI2 com2 bt2 fm2 fb2 lb2 y1 y2 y3 y4 y5 => by
        have en := nIn y3 n2 (y2.symm.trans n1)
        subst en
        obtain ⟨a, c, b1, b2, _⟩ := ans_time y5 y1 y3 hp k1
        refine ⟨a, ?_, ?_⟩
        · show bd (fS_timeOfFelt_T a1 a2 size2 ne2 ent2) _ = _
          rw [ea, k2, b1, bd_some]
        · show bd (fM_feltBy a1 a2 fm2 fb2) _ = _
          rw [ea, k2, b2, bd_some])
      have x2' : fM_feltOf a1 a2 (mi 0) (ci 6) (ma 0) K1 L1 C1 H1 R1 M1 AO1 LI1 MI1 (ma 10) (ma 12) (ma 13) (ma 14) (ma 15) (ma 16) = some (a, w) := x2
      rw [x2', bd_some]
      exact ⟨_, _, x1, rfl, rfl, x3, ⟨⟨Nat.le_trans hne.1 x3, x4⟩, hH, hL, hS, hSh, hRg, hTx, hP, Or.inr ⟨rfl, x5⟩, hB, hZ⟩⟩
  · rw [e1, e2, bd_some, bd_some]
    dsimp only
    rw [if_pos rfl, if_pos rfl]
    exact ⟨_, _, mz_some (show ne ≤ ne from Nat.le_refl _), rfl, rfl, Nat.le_refl _, ⟨hne, hH, hL, hS, hSh, hRg, hTx, hP, hT, hB, hZ⟩⟩

theorem pu_from (ci : Nat → Int32) (ca : Nat → Nat → Int32) (ne : Nat) (mi : Nat → Int32) (ma : Nat → Nat → Int32) (h : RelB ci ca ne mi ma) (a1 : Int32) (a2 : Int32) : ∃ (u : Int32 × Int32 × Int32 × Int32 × Int32 × (Nat → Int32) × (Nat → Int32) × (Nat → Int32) × (Nat → Int32) × (Nat → Int32) × Int32 × Nat × (Nat → Int32)) (v : Int32 × Int32 × (Nat → Int32) × (Nat → Int32) × (Nat → Int32) × (Nat → Int32) × (Nat → Int32) × (Nat → Int32) × (Nat → Int32) × (Nat → Int32) × (Nat → Int32) × (Nat → Int32) × (Nat → Int32) × (Nat → Int32) × (Nat → Int32) × (Nat → Int32)), fC_from a1 a2 (ci 0) (ci 1) (ci 2) (ci 3) (ci 6) (ca 1) (ca 2) (ca 3) (ca 4) (ci 10) (ci 11) (ci 12) (ca 7) (ca 8) (ca 9) (ca 10) (ca 11) (ci 13) ne (ca 12) = some u ∧ fM_from a1 a2 (mi 0) (mi 1) (ma 0) (ma 1) (ma 2) (ma 3) (ma 4) (ma 5) (ma 6) (ma 7) (ma 8) (ma 9) (ma 10) (ma 12) (ma 13) (ma 14) (ma 15) (ma 16) = some v ∧ u.1 = v.1 ∧ ne ≤ u.2.2.2.2.2.2.2.2.2.2.2.1 ∧ RelB (lsI [(ci 0), (ci 1), (ci 2), u.2.1, (ci 4), (ci 5), (ci 6), (ci 7), (ci 8), (ci 9), u.2.2.1, u.2.2.2.1, u.2.2.2.2.1, u.2.2.2.2.2.2.2.2.2.2.1, (ci 14), (ci 15), (ci 16), (ci 17), (ci 18), (ci 19), (ci 20), (ci 21), (ci 22), (ci 23), (ci 24), (ci 25), (ci 26), (ci 27), (ci 28)]) (lsA [(ca 0), (ca 1), (ca 2), (ca 3), (ca 4), (ca 5), (ca 6), u.2.2.2.2.2.1, u.2.2.2.2.2.2.1, u.2.2.2.2.2.2.2.1, u.2.2.2.2.2.2.2.2.1, u.2.2.2.2.2.2.2.2.2.1, u.2.2.2.2.2.2.2.2.2.2.2.2, (ca 13), (ca 14), (ca 15), (ca 16), (ca 17), (ca 18), (ca 19), (ca 20), (ca 21), (ca 22), (ca 23), (ca 24), (ca 25), (ca 26), (ca 27), (ca 28), (ca 29), (ca 30)]) u.2.2.2.2.2.2.2.2.2.2.2.1 (lsI [(mi 0), v.2.1, (mi 2), (mi 3), (mi 4), (mi 5)]) (lsA [(ma 0), v.2.2.1, v.2.2.2.1, v.2.2.2.2.1, v.2.2.2.2.2.1, v.2.2.2.2.2.2.1, v.2.2.2.2.2.2.2.1, v.2.2.2.2.2.2.2.2.1, v.2.2.2.2.2.2.2.2.2.1, v.2.2.2.2.2.2.2.2.2.2.1, (ma 10), (ma 11), v.2.2.2.2.2.2.2.2.2.2.2.1, v.2.2.2.2.2.2.2.2.2.2.2.2.1, v.2.2.2.2.2.2.2.2.2.2.2.2.2.1, v.2.2.2.2.2.2.2.2.2.2.2.2.2.2.1, v.2.2.2.2.2.2.2.2.2.2.2.2.2.2.2, (ma 17), (ma 18), (ma 19), (ma 20), (ma 21), (ma 22), (ma 23), (ma 24), (ma 25), (ma 26), (ma 27), (ma 28), (ma 29), (ma 30)]) := by
  obtain ⟨hne, hH, hL, hS, hSh, hRg, hTx, hP, hT, hB, hZ⟩ := h
  have z1 : ¬ (1 : Int32) = 0 := by decide
  obtain ⟨K1, L1, C1, H1, R1, M1, AO1, LI1, MI1, n, n1, n2, n3, cs⟩ := isP hP a1 (mi 1) (ma 1) (ma 2) (ma 3) (ma 4) (ma 5) (ma 6) (ma 7) (ma 8) (ma 9)
  unfold fC_from fM_from
  rcases cs with ⟨p, hp, ea, e1, e2⟩ | ⟨e1, e2⟩
  · rw [e1, e2, bd_some, bd_some]
    dsimp only
    rw [if_neg z1, if_neg z1]
    by_cases c : a2 < 0
    · rw [if_neg (o_ltn c), if_neg (o_ltn c)]
      exact ⟨_, _, mz_some (show ne ≤ ne from Nat.le_refl _), rfl, rfl, Nat.le_refl _, ⟨hne, hH, hL, hS, hSh, hRg, hTx, hP, hT, hB, hZ⟩⟩
    · rw [if_pos (o_nlt c), if_pos (o_nlt c)]
      obtain ⟨k, k1, k2⟩ := nI_of_pos c
      obtain ⟨a, sl, ld, unr2, due2, busy2, felt2, lost2, first2, size2, ne2, ent2, w, x1, x2, x3, x4, x5⟩ := told_q hP hS hT hne (ci 10) (ci 11) (ca 7) (ci 6) K1 L1 C1 H1 R1 M1 AO1 LI1 MI1 (ma 12) (ma 13) (ma 14) (ma 15) (ma 16) (fun u => bd (fS_sourceOfFelt_T a1 a2 u.2.2.2.2.2.2.2.2.2.1 u.2.2.2.2.2.2.2.2.2.2.1 u.2.2.2.2.2.2.2.2.2.2.2) (fun r => some (r, u))) (fun u => bd (fM_feltBy a1 a2 u.2.2.2.2.2.2.2.2.2.2.2.2.1 u.2.2.2.2.2.2.2.2.2.2.2.2.2.1) (fun u_12 => (if u_12 = (-1) then some (-1, u) else (if u_12 = 0 then fM_from_50 a1 u_12 a2 0 u.1 u.2.1 u.2.2.1 u.2.2.2.1 u.2.2.2.2.1 u.2.2.2.2.2.1 u.2.2.2.2.2.2.1 u.2.2.2.2.2.2.2.1 u.2.2.2.2.2.2.2.2.1 u.2.2.2.2.2.2.2.2.2.1 u.2.2.2.2.2.2.2.2.2.2.1 u.2.2.2.2.2.2.2.2.2.2.2.1 u.2.2.2.2.2.2.2.2.2.2.2.2.1 u.2.2.2.2.2.2.2.2.2.2.2.2.2.1 u.2.2.2.2.2.2.2.2.2.2.2.2.2.2 else bd (fM_manyBy a1 (u_12 - 1) u.2.2.2.2.2.2.2.2.2.2.2.2.2.1) (fun u_15 => fM_from_50 a1 u_12 a2 u_15 u.1 u.2.1 u.2.2.1 u.2.2.2.1 u.2.2.2.2.1 u.2.2.2.2.2.1 u.2.2.2.2.2.2.1 u.2.2.2.2.2.2.2.1 u.2.2.2.2.2.2.2.2.1 u.2.2.2.2.2.2.2.2.2.1 u.2.2.2.2.2.2.2.2.2.2.1 u.2.2.2.2.2.2.2.2.2.2.2.1 u.2.2.2.2.2.2.2.2.2.2.2.2.1 u.2.2.2.2.2.2.2.2.2.2.2.2.2.1 u.2.2.2.2.2.2.2.2.2.2.2.2.2.2))))) (fun sl ld unr2 due2 busy2 felt2 lost2 first2 size2 ne2 ent2 nn K2 L2 C2 H2 R2 M2 AO2 LI2 MI2 com2 bt2 fm2 fb2 lb2 y1 y2 y3 y4 y5 => by
        have en := nIn y3 n2 (y2.symm.trans n1)
        subst en
        obtain ⟨a, b1, b2⟩ := ans_from y5 y1 y3 hp k1 (nI nn) K2 L2 C2 H2 R2 M2 AO2 LI2 MI2 com2
        refine ⟨a, ?_, ?_⟩
        · show bd (fS_sourceOfFelt_T a1 a2 size2 ne2 ent2) _ = _
          rw [ea, k2, b1, bd_some]
        · rw [ea, k2]
          exact b2)
      exact ⟨_, _, x1, x2, rfl, x3, ⟨⟨Nat.le_trans hne.1 x3, x4⟩, hH, hL, hS, hSh, hRg, hTx, hP, Or.inr ⟨rfl, x5⟩, hB, hZ⟩⟩
  · rw [e1, e2, bd_some, bd_some]
    dsimp only
    rw [if_pos rfl, if_pos rfl]
    exact ⟨_, _, mz_some (show ne ≤ ne from Nat.le_refl _), rfl, rfl, Nat.le_refl _, ⟨hne, hH, hL, hS, hSh, hRg, hTx, hP, hT, hB, hZ⟩⟩

theorem pu_round (ci : Nat → Int32) (ca : Nat → Nat → Int32) (ne : Nat) (mi : Nat → Int32) (ma : Nat → Nat → Int32) (h : RelB ci ca ne mi ma) (a1 : Int32) : ∃ (u : Int32 × Int32 × Int32 × Int32 × Int32 × (Nat → Int32) × (Nat → Int32) × (Nat → Int32) × (Nat → Int32) × (Nat → Int32) × Int32 × Nat × (Nat → Int32)) (v : Int32 × Int32 × (Nat → Int32) × (Nat → Int32) × (Nat → Int32) × (Nat → Int32) × (Nat → Int32) × (Nat → Int32) × (Nat → Int32) × (Nat → Int32) × (Nat → Int32) × (Nat → Int32) × (Nat → Int32) × (Nat → Int32) × (Nat → Int32) × (Nat → Int32)), fC_round a1 (ci 0) (ci 1) (ci 2) (ci 3) (ci 6) (ca 1) (ca 2) (ca 3) (ca 4) (ci 10) (ci 11) (ci 12) (ca 7) (ca 8) (ca 9) (ca 10) (ca 11) (ci 13) ne (ca 12) = some u ∧ fM_round a1 (mi 0) (mi 1) (ma 0) (ma 1) (ma 2) (ma 3) (ma 4) (ma 5) (ma 6) (ma 7) (ma 8) (ma 9) (ma 10) (ma 12) (ma 13) (ma 14) (ma 15) (ma 16) = some v ∧ u.1 = v.1 ∧ ne ≤ u.2.2.2.2.2.2.2.2.2.2.2.1 ∧ RelB (lsI [(ci 0), (ci 1), (ci 2), u.2.1, (ci 4), (ci 5), (ci 6), (ci 7), (ci 8), (ci 9), u.2.2.1, u.2.2.2.1, u.2.2.2.2.1, u.2.2.2.2.2.2.2.2.2.2.1, (ci 14), (ci 15), (ci 16), (ci 17), (ci 18), (ci 19), (ci 20), (ci 21), (ci 22), (ci 23), (ci 24), (ci 25), (ci 26), (ci 27), (ci 28)]) (lsA [(ca 0), (ca 1), (ca 2), (ca 3), (ca 4), (ca 5), (ca 6), u.2.2.2.2.2.1, u.2.2.2.2.2.2.1, u.2.2.2.2.2.2.2.1, u.2.2.2.2.2.2.2.2.1, u.2.2.2.2.2.2.2.2.2.1, u.2.2.2.2.2.2.2.2.2.2.2.2, (ca 13), (ca 14), (ca 15), (ca 16), (ca 17), (ca 18), (ca 19), (ca 20), (ca 21), (ca 22), (ca 23), (ca 24), (ca 25), (ca 26), (ca 27), (ca 28), (ca 29), (ca 30)]) u.2.2.2.2.2.2.2.2.2.2.2.1 (lsI [(mi 0), v.2.1, (mi 2), (mi 3), (mi 4), (mi 5)]) (lsA [(ma 0), v.2.2.1, v.2.2.2.1, v.2.2.2.2.1, v.2.2.2.2.2.1, v.2.2.2.2.2.2.1, v.2.2.2.2.2.2.2.1, v.2.2.2.2.2.2.2.2.1, v.2.2.2.2.2.2.2.2.2.1, v.2.2.2.2.2.2.2.2.2.2.1, (ma 10), (ma 11), v.2.2.2.2.2.2.2.2.2.2.2.1, v.2.2.2.2.2.2.2.2.2.2.2.2.1, v.2.2.2.2.2.2.2.2.2.2.2.2.2.1, v.2.2.2.2.2.2.2.2.2.2.2.2.2.2.1, v.2.2.2.2.2.2.2.2.2.2.2.2.2.2.2, (ma 17), (ma 18), (ma 19), (ma 20), (ma 21), (ma 22), (ma 23), (ma 24), (ma 25), (ma 26), (ma 27), (ma 28), (ma 29), (ma 30)]) := by
  obtain ⟨hne, hH, hL, hS, hSh, hRg, hTx, hP, hT, hB, hZ⟩ := h
  have z1 : ¬ (1 : Int32) = 0 := by decide
  obtain ⟨K1, L1, C1, H1, R1, M1, AO1, LI1, MI1, n, n1, n2, n3, cs⟩ := isP hP a1 (mi 1) (ma 1) (ma 2) (ma 3) (ma 4) (ma 5) (ma 6) (ma 7) (ma 8) (ma 9)
  unfold fC_round fM_round
  rcases cs with ⟨p, hp, ea, e1, e2⟩ | ⟨e1, e2⟩
  · rw [e1, e2, bd_some, bd_some]
    dsimp only
    rw [if_neg z1, if_neg z1]
    obtain ⟨a, sl, ld, unr2, due2, busy2, felt2, lost2, first2, size2, ne2, ent2, w, x1, x2, x3, x4, x5⟩ := told_q hP hS hT hne (ci 10) (ci 11) (ca 7) (ci 6) K1 L1 C1 H1 R1 M1 AO1 LI1 MI1 (ma 12) (ma 13) (ma 14) (ma 15) (ma 16) (fun u => bd (fS_timeOfFelt_T a1 1 u.2.2.2.2.2.2.2.2.2.1 u.2.2.2.2.2.2.2.2.2.2.1 u.2.2.2.2.2.2.2.2.2.2.2) (fun r => if r = (-1) then some (-1, u) else ck 20 a1 (some (r - u.2.2.2.2.2.2.2.2.1 a1.toNatClampNeg, u)))) (fun u => ck 20 a1 (if 2 ≤ u.2.2.2.2.2.2.2.2.2.2.2.2.1 a1.toNatClampNeg then bd (fM_feltBy a1 1 u.2.2.2.2.2.2.2.2.2.2.2.2.1 u.2.2.2.2.2.2.2.2.2.2.2.2.2.1) (fun r => bd (fM_feltBy a1 0 u.2.2.2.2.2.2.2.2.2.2.2.2.1 u.2.2.2.2.2.2.2.2.2.2.2.2.2.1) (fun r2 => some (r - r2, u))) else some (-1, u))) (fun sl ld unr2 due2 busy2 felt2 lost2 first2 size2 ne2 ent2 nn K2 L2 C2 H2 R2 M2 AO2 LI2 MI2 com2 bt2 fm2 fb2 lb2 y1 y2 y3 y4 y5 => by
      have en := nIn y3 n2 (y2.symm.trans n1)
      subst en
      obtain ⟨a, c, b1, b2, b3, b4, b5, b6⟩ := ans_time y5 y1 y3 hp (k := 1) (by decide)
      have b1 : fS_timeOfFelt_T (nI p) 1 size2 ne2 ent2 = some a := b1
      have b2 : fM_feltBy (nI p) 1 fm2 fb2 = some a := b2
      have c20 : ∀ {α : Type} (x : Option α), ck 20 (nI p) x = x := fun x => ck_nI (by omega) (by decide)
      have clp : (nI p).toNatClampNeg = p := nI_clamp (by omega)
      by_cases d : a = -1
      · refine ⟨-1, ?_, ?_⟩
        · show bd (fS_timeOfFelt_T a1 1 size2 ne2 ent2) _ = _
          rw [ea, b1, bd_some, if_pos d]
        · show ck 20 a1 (if 2 ≤ fm2 a1.toNatClampNeg then _ else _) = _
          rw [ea, c20, clp, b4, if_neg (fun w => (b6 rfl).mp w d)]
      · refine ⟨a - first2 p, ?_, ?_⟩
        · show bd (fS_timeOfFelt_T a1 1 size2 ne2 ent2) _ = _
          rw [ea, b1, bd_some, if_neg d, c20, clp]
        · show ck 20 a1 (if 2 ≤ fm2 a1.toNatClampNeg then bd (fM_feltBy a1 1 fm2 fb2) (fun r => bd (fM_feltBy a1 0 fm2 fb2) _) else _) = _
          rw [ea, c20, clp, b4, if_pos ((b6 rfl).mpr d), b2, bd_some, b3, bd_some])
    have x2' : fM_roundOf a1 (mi 0) (ci 6) (ma 0) K1 L1 C1 H1 R1 M1 AO1 LI1 MI1 (ma 10) (ma 12) (ma 13) (ma 14) (ma 15) (ma 16) = some (a, w) := x2
    rw [x2', bd_some]
    exact ⟨_, _, x1, rfl, rfl, x3, ⟨⟨Nat.le_trans hne.1 x3, x4⟩, hH, hL, hS, hSh, hRg, hTx, hP, Or.inr ⟨rfl, x5⟩, hB, hZ⟩⟩
  · rw [e1, e2, bd_some, bd_some]
    dsimp only
    rw [if_pos rfl, if_pos rfl]
    exact ⟨_, _, mz_some (show ne ≤ ne from Nat.le_refl _), rfl, rfl, Nat.le_refl _, ⟨hne, hH, hL, hS, hSh, hRg, hTx, hP, hT, hB, hZ⟩⟩

theorem pu_passed (ci : Nat → Int32) (ca : Nat → Nat → Int32) (ne : Nat) (mi : Nat → Int32) (ma : Nat → Nat → Int32) (h : RelB ci ca ne mi ma) (a1 : Int32) : ∃ (u : Int32 × Int32 × Int32 × Int32 × Int32 × (Nat → Int32) × (Nat → Int32) × (Nat → Int32) × (Nat → Int32) × (Nat → Int32) × Int32 × Nat × (Nat → Int32)) (v : Int32 × Int32 × (Nat → Int32) × (Nat → Int32) × (Nat → Int32) × (Nat → Int32) × (Nat → Int32) × (Nat → Int32) × (Nat → Int32) × (Nat → Int32) × (Nat → Int32) × (Nat → Int32) × (Nat → Int32) × (Nat → Int32) × (Nat → Int32) × (Nat → Int32)), fC_passed a1 (ci 0) (ci 1) (ci 2) (ci 3) (ci 6) (ca 1) (ca 2) (ca 3) (ca 4) (ci 10) (ci 11) (ci 12) (ca 7) (ca 8) (ca 9) (ca 10) (ca 11) (ci 13) ne (ca 12) = some u ∧ fM_passed a1 (mi 0) (mi 1) (ma 0) (ma 1) (ma 2) (ma 3) (ma 4) (ma 5) (ma 6) (ma 7) (ma 8) (ma 9) (ma 10) (ma 12) (ma 13) (ma 14) (ma 15) (ma 16) = some v ∧ u.1 = v.1 ∧ ne ≤ u.2.2.2.2.2.2.2.2.2.2.2.1 ∧ RelB (lsI [(ci 0), (ci 1), (ci 2), u.2.1, (ci 4), (ci 5), (ci 6), (ci 7), (ci 8), (ci 9), u.2.2.1, u.2.2.2.1, u.2.2.2.2.1, u.2.2.2.2.2.2.2.2.2.2.1, (ci 14), (ci 15), (ci 16), (ci 17), (ci 18), (ci 19), (ci 20), (ci 21), (ci 22), (ci 23), (ci 24), (ci 25), (ci 26), (ci 27), (ci 28)]) (lsA [(ca 0), (ca 1), (ca 2), (ca 3), (ca 4), (ca 5), (ca 6), u.2.2.2.2.2.1, u.2.2.2.2.2.2.1, u.2.2.2.2.2.2.2.1, u.2.2.2.2.2.2.2.2.1, u.2.2.2.2.2.2.2.2.2.1, u.2.2.2.2.2.2.2.2.2.2.2.2, (ca 13), (ca 14), (ca 15), (ca 16), (ca 17), (ca 18), (ca 19), (ca 20), (ca 21), (ca 22), (ca 23), (ca 24), (ca 25), (ca 26), (ca 27), (ca 28), (ca 29), (ca 30)]) u.2.2.2.2.2.2.2.2.2.2.2.1 (lsI [(mi 0), v.2.1, (mi 2), (mi 3), (mi 4), (mi 5)]) (lsA [(ma 0), v.2.2.1, v.2.2.2.1, v.2.2.2.2.1, v.2.2.2.2.2.1, v.2.2.2.2.2.2.1, v.2.2.2.2.2.2.2.1, v.2.2.2.2.2.2.2.2.1, v.2.2.2.2.2.2.2.2.2.1, v.2.2.2.2.2.2.2.2.2.2.1, (ma 10), (ma 11), v.2.2.2.2.2.2.2.2.2.2.2.1, v.2.2.2.2.2.2.2.2.2.2.2.2.1, v.2.2.2.2.2.2.2.2.2.2.2.2.2.1, v.2.2.2.2.2.2.2.2.2.2.2.2.2.2.1, v.2.2.2.2.2.2.2.2.2.2.2.2.2.2.2, (ma 17), (ma 18), (ma 19), (ma 20), (ma 21), (ma 22), (ma 23), (ma 24), (ma 25), (ma 26), (ma 27), (ma 28), (ma 29), (ma 30)]) := by
  obtain ⟨hne, hH, hL, hS, hSh, hRg, hTx, hP, hT, hB, hZ⟩ := h
  have z1 : ¬ (1 : Int32) = 0 := by decide
  unfold fC_passed fM_passed
  rw [C_isTime_eq, M_isTime_eq, bd_some, bd_some]
  by_cases c : 0 ≤ a1 ∧ a1 ≤ 400
  · rw [if_pos c, if_neg z1, if_neg z1]
    obtain ⟨τ, _, t2, t3⟩ := nI_mid (a := 0) (b := 400) (by decide) c.1 c.2 (by decide)
    obtain ⟨a, sl, ld, unr2, due2, busy2, felt2, lost2, first2, size2, ne2, ent2, w, x1, x2, x3, x4, x5⟩ := told_q hP hS hT hne (ci 10) (ci 11) (ca 7) (mi 1) (ma 1) (ma 2) (ma 3) (ma 4) (ma 5) (ma 6) (ma 7) (ma 8) (ma 9) (ma 12) (ma 13) (ma 14) (ma 15) (ma 16) (fun u => bd (fS_allFeltUpTo_T a1 u.2.2.2.2.2.2.2.2.2.1 u.2.2.2.2.2.2.2.2.2.2.1 u.2.2.2.2.2.2.2.2.2.2.2) (fun r => some (r, u))) (fun u => fM_passedOf_8 a1 u.1 u.2.1 u.2.2.1 u.2.2.2.1 u.2.2.2.2.1 u.2.2.2.2.2.1 u.2.2.2.2.2.2.1 u.2.2.2.2.2.2.2.1 u.2.2.2.2.2.2.2.2.1 u.2.2.2.2.2.2.2.2.2.1 u.2.2.2.2.2.2.2.2.2.2.1 u.2.2.2.2.2.2.2.2.2.2.2.1 u.2.2.2.2.2.2.2.2.2.2.2.2.1 u.2.2.2.2.2.2.2.2.2.2.2.2.2.1 u.2.2.2.2.2.2.2.2.2.2.2.2.2.2 FU 0 0) (fun sl ld unr2 due2 busy2 felt2 lost2 first2 size2 ne2 ent2 nn K2 L2 C2 H2 R2 M2 AO2 LI2 MI2 com2 bt2 fm2 fb2 lb2 y1 y2 y3 y4 y5 => by
      obtain ⟨a, b1, b2⟩ := ans_passed y5 y1 y3 t2 K2 L2 C2 H2 R2 M2 AO2 LI2 MI2 com2
      refine ⟨a, ?_, ?_⟩
      · show bd (fS_allFeltUpTo_T a1 size2 ne2 ent2) _ = _
        rw [t3, b1, bd_some]
      · rw [t3]
        exact b2)
    have x2' : fM_passedOf a1 (mi 0) (mi 1) (ma 0) (ma 1) (ma 2) (ma 3) (ma 4) (ma 5) (ma 6) (ma 7) (ma 8) (ma 9) (ma 10) (ma 12) (ma 13) (ma 14) (ma 15) (ma 16) = some (a, w) := x2
    rw [x2', bd_some]
    exact ⟨_, _, x1, rfl, rfl, x3, ⟨⟨Nat.le_trans hne.1 x3, x4⟩, hH, hL, hS, hSh, hRg, hTx, hP, Or.inr ⟨rfl, x5⟩, hB, hZ⟩⟩
  · rw [if_neg c, if_pos rfl, if_pos rfl]
    exact ⟨_, _, mz_some (show ne ≤ ne from Nat.le_refl _), rfl, rfl, Nat.le_refl _, ⟨hne, hH, hL, hS, hSh, hRg, hTx, hP, hT, hB, hZ⟩⟩

theorem pu_reached (ci : Nat → Int32) (ca : Nat → Nat → Int32) (ne : Nat) (mi : Nat → Int32) (ma : Nat → Nat → Int32) (h : RelB ci ca ne mi ma) : ∃ (u : Int32 × Int32 × Int32 × Int32 × Int32 × (Nat → Int32) × (Nat → Int32) × (Nat → Int32) × (Nat → Int32) × (Nat → Int32) × Int32 × Nat × (Nat → Int32)) (v : Int32 × Int32 × (Nat → Int32) × (Nat → Int32) × (Nat → Int32) × (Nat → Int32) × (Nat → Int32) × (Nat → Int32) × (Nat → Int32) × (Nat → Int32) × (Nat → Int32) × (Nat → Int32) × (Nat → Int32) × (Nat → Int32) × (Nat → Int32) × (Nat → Int32)), fC_reached (ci 0) (ci 1) (ci 2) (ci 3) (ci 6) (ca 1) (ca 2) (ca 3) (ca 4) (ci 10) (ci 11) (ci 12) (ca 7) (ca 8) (ca 9) (ca 10) (ca 11) (ci 13) ne (ca 12) = some u ∧ fM_reached (mi 0) (mi 1) (ma 0) (ma 1) (ma 2) (ma 3) (ma 4) (ma 5) (ma 6) (ma 7) (ma 8) (ma 9) (ma 10) (ma 12) (ma 13) (ma 14) (ma 15) (ma 16) = some v ∧ u.1 = v.1 ∧ ne ≤ u.2.2.2.2.2.2.2.2.2.2.2.1 ∧ RelB (lsI [(ci 0), (ci 1), (ci 2), u.2.1, (ci 4), (ci 5), (ci 6), (ci 7), (ci 8), (ci 9), u.2.2.1, u.2.2.2.1, u.2.2.2.2.1, u.2.2.2.2.2.2.2.2.2.2.1, (ci 14), (ci 15), (ci 16), (ci 17), (ci 18), (ci 19), (ci 20), (ci 21), (ci 22), (ci 23), (ci 24), (ci 25), (ci 26), (ci 27), (ci 28)]) (lsA [(ca 0), (ca 1), (ca 2), (ca 3), (ca 4), (ca 5), (ca 6), u.2.2.2.2.2.1, u.2.2.2.2.2.2.1, u.2.2.2.2.2.2.2.1, u.2.2.2.2.2.2.2.2.1, u.2.2.2.2.2.2.2.2.2.1, u.2.2.2.2.2.2.2.2.2.2.2.2, (ca 13), (ca 14), (ca 15), (ca 16), (ca 17), (ca 18), (ca 19), (ca 20), (ca 21), (ca 22), (ca 23), (ca 24), (ca 25), (ca 26), (ca 27), (ca 28), (ca 29), (ca 30)]) u.2.2.2.2.2.2.2.2.2.2.2.1 (lsI [(mi 0), v.2.1, (mi 2), (mi 3), (mi 4), (mi 5)]) (lsA [(ma 0), v.2.2.1, v.2.2.2.1, v.2.2.2.2.1, v.2.2.2.2.2.1, v.2.2.2.2.2.2.1, v.2.2.2.2.2.2.2.1, v.2.2.2.2.2.2.2.2.1, v.2.2.2.2.2.2.2.2.2.1, v.2.2.2.2.2.2.2.2.2.2.1, (ma 10), (ma 11), v.2.2.2.2.2.2.2.2.2.2.2.1, v.2.2.2.2.2.2.2.2.2.2.2.2.1, v.2.2.2.2.2.2.2.2.2.2.2.2.2.1, v.2.2.2.2.2.2.2.2.2.2.2.2.2.2.1, v.2.2.2.2.2.2.2.2.2.2.2.2.2.2.2, (ma 17), (ma 18), (ma 19), (ma 20), (ma 21), (ma 22), (ma 23), (ma 24), (ma 25), (ma 26), (ma 27), (ma 28), (ma 29), (ma 30)]) := by
  obtain ⟨hne, hH, hL, hS, hSh, hRg, hTx, hP, hT, hB, hZ⟩ := h
  have z1 : ¬ (1 : Int32) = 0 := by decide
  unfold fC_reached fM_reached
  obtain ⟨a, sl, ld, unr2, due2, busy2, felt2, lost2, first2, size2, ne2, ent2, w, x1, x2, x3, x4, x5⟩ := told_q hP hS hT hne (ci 10) (ci 11) (ca 7) (mi 1) (ma 1) (ma 2) (ma 3) (ma 4) (ma 5) (ma 6) (ma 7) (ma 8) (ma 9) (ma 12) (ma 13) (ma 14) (ma 15) (ma 16) (fun u => bd (fS_reachedBits_T (ci 6) u.2.2.2.2.2.2.1) (fun r => some (r, u))) (fun u => bd (fM_reachedBy 1 u.1 u.2.2.2.2.2.2.2.2.2.2.2.2.1) (fun r => some (r, u))) (fun sl ld unr2 due2 busy2 felt2 lost2 first2 size2 ne2 ent2 nn K2 L2 C2 H2 R2 M2 AO2 LI2 MI2 com2 bt2 fm2 fb2 lb2 y1 y2 y3 y4 y5 => by
    obtain ⟨a, b1, b2⟩ := ans_least y5 y3 (c := 1) (by decide)
    refine ⟨a, ?_, ?_⟩
    · show bd (fS_reachedBits_T (ci 6) felt2) _ = _
      rw [y2]; unfold fS_reachedBits_T; rw [show (1 : Int32) = nI 1 from rfl, b1, bd_some, bd_some]
    · show bd (fM_reachedBy 1 (nI nn) fm2) _ = _
      rw [show (1 : Int32) = nI 1 from rfl, b2, bd_some])
  have x2' : fM_reachedNow 1 (mi 0) (mi 1) (ma 0) (ma 1) (ma 2) (ma 3) (ma 4) (ma 5) (ma 6) (ma 7) (ma 8) (ma 9) (ma 10) (ma 12) (ma 13) (ma 14) (ma 15) (ma 16) = some (a, w) := x2
  rw [x2', bd_some]
  exact ⟨_, _, x1, rfl, rfl, x3, ⟨⟨Nat.le_trans hne.1 x3, x4⟩, hH, hL, hS, hSh, hRg, hTx, hP, Or.inr ⟨rfl, x5⟩, hB, hZ⟩⟩

theorem pu_twice (ci : Nat → Int32) (ca : Nat → Nat → Int32) (ne : Nat) (mi : Nat → Int32) (ma : Nat → Nat → Int32) (h : RelB ci ca ne mi ma) : ∃ (u : Int32 × Int32 × Int32 × Int32 × Int32 × (Nat → Int32) × (Nat → Int32) × (Nat → Int32) × (Nat → Int32) × (Nat → Int32) × Int32 × Nat × (Nat → Int32)) (v : Int32 × Int32 × (Nat → Int32) × (Nat → Int32) × (Nat → Int32) × (Nat → Int32) × (Nat → Int32) × (Nat → Int32) × (Nat → Int32) × (Nat → Int32) × (Nat → Int32) × (Nat → Int32) × (Nat → Int32) × (Nat → Int32) × (Nat → Int32) × (Nat → Int32)), fC_twice (ci 0) (ci 1) (ci 2) (ci 3) (ci 6) (ca 1) (ca 2) (ca 3) (ca 4) (ci 10) (ci 11) (ci 12) (ca 7) (ca 8) (ca 9) (ca 10) (ca 11) (ci 13) ne (ca 12) = some u ∧ fM_twice (mi 0) (mi 1) (ma 0) (ma 1) (ma 2) (ma 3) (ma 4) (ma 5) (ma 6) (ma 7) (ma 8) (ma 9) (ma 10) (ma 12) (ma 13) (ma 14) (ma 15) (ma 16) = some v ∧ u.1 = v.1 ∧ ne ≤ u.2.2.2.2.2.2.2.2.2.2.2.1 ∧ RelB (lsI [(ci 0), (ci 1), (ci 2), u.2.1, (ci 4), (ci 5), (ci 6), (ci 7), (ci 8), (ci 9), u.2.2.1, u.2.2.2.1, u.2.2.2.2.1, u.2.2.2.2.2.2.2.2.2.2.1, (ci 14), (ci 15), (ci 16), (ci 17), (ci 18), (ci 19), (ci 20), (ci 21), (ci 22), (ci 23), (ci 24), (ci 25), (ci 26), (ci 27), (ci 28)]) (lsA [(ca 0), (ca 1), (ca 2), (ca 3), (ca 4), (ca 5), (ca 6), u.2.2.2.2.2.1, u.2.2.2.2.2.2.1, u.2.2.2.2.2.2.2.1, u.2.2.2.2.2.2.2.2.1, u.2.2.2.2.2.2.2.2.2.1, u.2.2.2.2.2.2.2.2.2.2.2.2, (ca 13), (ca 14), (ca 15), (ca 16), (ca 17), (ca 18), (ca 19), (ca 20), (ca 21), (ca 22), (ca 23), (ca 24), (ca 25), (ca 26), (ca 27), (ca 28), (ca 29), (ca 30)]) u.2.2.2.2.2.2.2.2.2.2.2.1 (lsI [(mi 0), v.2.1, (mi 2), (mi 3), (mi 4), (mi 5)]) (lsA [(ma 0), v.2.2.1, v.2.2.2.1, v.2.2.2.2.1, v.2.2.2.2.2.1, v.2.2.2.2.2.2.1, v.2.2.2.2.2.2.2.1, v.2.2.2.2.2.2.2.2.1, v.2.2.2.2.2.2.2.2.2.1, v.2.2.2.2.2.2.2.2.2.2.1, (ma 10), (ma 11), v.2.2.2.2.2.2.2.2.2.2.2.1, v.2.2.2.2.2.2.2.2.2.2.2.2.1, v.2.2.2.2.2.2.2.2.2.2.2.2.2.1, v.2.2.2.2.2.2.2.2.2.2.2.2.2.2.1, v.2.2.2.2.2.2.2.2.2.2.2.2.2.2.2, (ma 17), (ma 18), (ma 19), (ma 20), (ma 21), (ma 22), (ma 23), (ma 24), (ma 25), (ma 26), (ma 27), (ma 28), (ma 29), (ma 30)]) := by
  obtain ⟨hne, hH, hL, hS, hSh, hRg, hTx, hP, hT, hB, hZ⟩ := h
  have z1 : ¬ (1 : Int32) = 0 := by decide
  unfold fC_twice fM_twice
  obtain ⟨a, sl, ld, unr2, due2, busy2, felt2, lost2, first2, size2, ne2, ent2, w, x1, x2, x3, x4, x5⟩ := told_q hP hS hT hne (ci 10) (ci 11) (ca 7) (mi 1) (ma 1) (ma 2) (ma 3) (ma 4) (ma 5) (ma 6) (ma 7) (ma 8) (ma 9) (ma 12) (ma 13) (ma 14) (ma 15) (ma 16) (fun u => bd (fS_twiceBits_T (ci 6) u.2.2.2.2.2.2.1) (fun r => some (r, u))) (fun u => bd (fM_reachedBy 2 u.1 u.2.2.2.2.2.2.2.2.2.2.2.2.1) (fun r => some (r, u))) (fun sl ld unr2 due2 busy2 felt2 lost2 first2 size2 ne2 ent2 nn K2 L2 C2 H2 R2 M2 AO2 LI2 MI2 com2 bt2 fm2 fb2 lb2 y1 y2 y3 y4 y5 => by
    obtain ⟨a, b1, b2⟩ := ans_least y5 y3 (c := 2) (by decide)
    refine ⟨a, ?_, ?_⟩
    · show bd (fS_twiceBits_T (ci 6) felt2) _ = _
      rw [y2]; unfold fS_twiceBits_T; rw [show (2 : Int32) = nI 2 from rfl, b1, bd_some, bd_some]
    · show bd (fM_reachedBy 2 (nI nn) fm2) _ = _
      rw [show (2 : Int32) = nI 2 from rfl, b2, bd_some])
  have x2' : fM_reachedNow 2 (mi 0) (mi 1) (ma 0) (ma 1) (ma 2) (ma 3) (ma 4) (ma 5) (ma 6) (ma 7) (ma 8) (ma 9) (ma 10) (ma 12) (ma 13) (ma 14) (ma 15) (ma 16) = some (a, w) := x2
  rw [x2', bd_some]
  exact ⟨_, _, x1, rfl, rfl, x3, ⟨⟨Nat.le_trans hne.1 x3, x4⟩, hH, hL, hS, hSh, hRg, hTx, hP, Or.inr ⟨rfl, x5⟩, hB, hZ⟩⟩

theorem pu_last (ci : Nat → Int32) (ca : Nat → Nat → Int32) (ne : Nat) (mi : Nat → Int32) (ma : Nat → Nat → Int32) (h : RelB ci ca ne mi ma) : ∃ (u : Int32 × Int32 × Int32 × Int32 × Int32 × (Nat → Int32) × (Nat → Int32) × (Nat → Int32) × (Nat → Int32) × (Nat → Int32) × Int32 × Nat × (Nat → Int32)) (v : Int32 × Int32 × (Nat → Int32) × (Nat → Int32) × (Nat → Int32) × (Nat → Int32) × (Nat → Int32) × (Nat → Int32) × (Nat → Int32) × (Nat → Int32) × (Nat → Int32) × (Nat → Int32) × (Nat → Int32) × (Nat → Int32) × (Nat → Int32) × (Nat → Int32)), fC_last (ci 0) (ci 1) (ci 2) (ci 3) (ci 6) (ca 1) (ca 2) (ca 3) (ca 4) (ci 10) (ci 11) (ci 12) (ca 7) (ca 8) (ca 9) (ca 10) (ca 11) (ci 13) ne (ca 12) = some u ∧ fM_last (mi 0) (mi 1) (ma 0) (ma 1) (ma 2) (ma 3) (ma 4) (ma 5) (ma 6) (ma 7) (ma 8) (ma 9) (ma 10) (ma 12) (ma 13) (ma 14) (ma 15) (ma 16) = some v ∧ u.1 = v.1 ∧ ne ≤ u.2.2.2.2.2.2.2.2.2.2.2.1 ∧ RelB (lsI [(ci 0), (ci 1), (ci 2), u.2.1, (ci 4), (ci 5), (ci 6), (ci 7), (ci 8), (ci 9), u.2.2.1, u.2.2.2.1, u.2.2.2.2.1, u.2.2.2.2.2.2.2.2.2.2.1, (ci 14), (ci 15), (ci 16), (ci 17), (ci 18), (ci 19), (ci 20), (ci 21), (ci 22), (ci 23), (ci 24), (ci 25), (ci 26), (ci 27), (ci 28)]) (lsA [(ca 0), (ca 1), (ca 2), (ca 3), (ca 4), (ca 5), (ca 6), u.2.2.2.2.2.1, u.2.2.2.2.2.2.1, u.2.2.2.2.2.2.2.1, u.2.2.2.2.2.2.2.2.1, u.2.2.2.2.2.2.2.2.2.1, u.2.2.2.2.2.2.2.2.2.2.2.2, (ca 13), (ca 14), (ca 15), (ca 16), (ca 17), (ca 18), (ca 19), (ca 20), (ca 21), (ca 22), (ca 23), (ca 24), (ca 25), (ca 26), (ca 27), (ca 28), (ca 29), (ca 30)]) u.2.2.2.2.2.2.2.2.2.2.2.1 (lsI [(mi 0), v.2.1, (mi 2), (mi 3), (mi 4), (mi 5)]) (lsA [(ma 0), v.2.2.1, v.2.2.2.1, v.2.2.2.2.1, v.2.2.2.2.2.1, v.2.2.2.2.2.2.1, v.2.2.2.2.2.2.2.1, v.2.2.2.2.2.2.2.2.1, v.2.2.2.2.2.2.2.2.2.1, v.2.2.2.2.2.2.2.2.2.2.1, (ma 10), (ma 11), v.2.2.2.2.2.2.2.2.2.2.2.1, v.2.2.2.2.2.2.2.2.2.2.2.2.1, v.2.2.2.2.2.2.2.2.2.2.2.2.2.1, v.2.2.2.2.2.2.2.2.2.2.2.2.2.2.1, v.2.2.2.2.2.2.2.2.2.2.2.2.2.2.2, (ma 17), (ma 18), (ma 19), (ma 20), (ma 21), (ma 22), (ma 23), (ma 24), (ma 25), (ma 26), (ma 27), (ma 28), (ma 29), (ma 30)]) := by
  obtain ⟨hne, hH, hL, hS, hSh, hRg, hTx, hP, hT, hB, hZ⟩ := h
  have z1 : ¬ (1 : Int32) = 0 := by decide
  unfold fC_last fM_last
  obtain ⟨a, sl, ld, unr2, due2, busy2, felt2, lost2, first2, size2, ne2, ent2, w, x1, x2, x3, x4, x5⟩ := told_q hP hS hT hne (ci 10) (ci 11) (ca 7) (mi 1) (ma 1) (ma 2) (ma 3) (ma 4) (ma 5) (ma 6) (ma 7) (ma 8) (ma 9) (ma 12) (ma 13) (ma 14) (ma 15) (ma 16) (fun u => bd (fS_lastTime_T (ci 6) u.2.2.2.2.2.2.2.2.1) (fun r => some (r, u))) (fun u => bd (fM_lastBy u.1 u.2.2.2.2.2.2.2.2.2.2.2.2.1 u.2.2.2.2.2.2.2.2.2.2.2.2.2.1) (fun r => some (r, u))) (fun sl ld unr2 due2 busy2 felt2 lost2 first2 size2 ne2 ent2 nn K2 L2 C2 H2 R2 M2 AO2 LI2 MI2 com2 bt2 fm2 fb2 lb2 y1 y2 y3 y4 y5 => by
    obtain ⟨a, b1, b2⟩ := ans_last y5 y3
    refine ⟨a, ?_, ?_⟩
    · show bd (fS_lastTime_T (ci 6) first2) _ = _
      rw [y2, b1, bd_some]
    · show bd (fM_lastBy (nI nn) fm2 fb2) _ = _
      rw [b2, bd_some])
  have x2' : fM_lastNow (mi 0) (mi 1) (ma 0) (ma 1) (ma 2) (ma 3) (ma 4) (ma 5) (ma 6) (ma 7) (ma 8) (ma 9) (ma 10) (ma 12) (ma 13) (ma 14) (ma 15) (ma 16) = some (a, w) := x2
  rw [x2', bd_some]
  exact ⟨_, _, x1, rfl, rfl, x3, ⟨⟨Nat.le_trans hne.1 x3, x4⟩, hH, hL, hS, hSh, hRg, hTx, hP, Or.inr ⟨rfl, x5⟩, hB, hZ⟩⟩
