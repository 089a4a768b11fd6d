/-! ===== the digest ===== -/
theorem dg45 {n : Nat} (hn20 : n ≤ 20) : ∀ (m v : Nat) (ci : Nat → Int32) (ca : Nat → Nat → Int32) (ne : Nat) (mi : Nat → Int32) (ma : Nat → Nat → Int32) (hh : Int64) (f g : Nat), RelB ci ca ne mi ma → ci 6 = nI n → mi 1 = ci 6 → ParR (ci 6) (ci 7) (ci 8) (ca 1) (ca 2) (ca 3) (ca 4) (ma 1) (ma 2) (ma 3) (ma 4) (ma 5) (ma 6) → v + m = n → m < f → m < g → ∃ U V, fC_digest_45 (ci 0) (ci 1) (ci 2) (ci 6) (ci 7) (ci 8) (ca 1) (ca 2) (ca 3) (ca 4) (ci 14) (ci 15) (ci 16) (ca 13) (ca 14) (ca 15) (ca 16) (ca 17) (ci 17) (ci 18) (ci 19) (ci 20) (ci 21) (ca 18) (ci 22) (ci 23) (ci 24) (ci 25) (ca 19) (ca 20) (ca 21) (ci 26) (ca 22) (ca 23) (ci 27) (ca 24) (ca 25) (ca 26) (ca 27) f hh (nI v) (ci 3) (ci 10) (ci 11) (ci 12) (ca 7) (ca 8) (ca 9) (ca 10) (ca 11) (ci 13) ne (ca 12) = some U ∧ fM_digest_45 (mi 0) (mi 2) (mi 3) (mi 4) (ma 0) (ma 10) (ma 11) (ma 17) (ma 18) (ma 19) (ma 20) (ma 21) (ma 22) (ma 23) (ma 24) (ma 25) g hh (nI v) (mi 1) (ma 1) (ma 2) (ma 3) (ma 4) (ma 5) (ma 6) (ma 7) (ma 8) (ma 9) (ma 12) (ma 13) (ma 14) (ma 15) (ma 16) = some V ∧ ne ≤ U.2.2.2.2.2.2.2.2.2.2.2.1 ∧ QD ci ca mi ma U V := by
  intro m
  have z1 : ¬ (1 : Int32) = 0 := by decide
  induction m with
  | zero =>
    intro v ci ca ne mi ma hh f g h hn hpe hrow hj hf hg
    obtain ⟨f, rfl⟩ : ∃ f', f = f' + 1 := ⟨f - 1, by omega⟩
    obtain ⟨g, rfl⟩ : ∃ g', g = g' + 1 := ⟨g - 1, by omega⟩
    have e : v = n := by omega
    subst e
    have le : ci 6 ≤ nI v := by rw [hn]; exact nI_le (Nat.le_refl v) (by omega)
    have le2 : mi 1 ≤ nI v := by rw [hpe]; exact le
    obtain ⟨⟨a_1, xHC_ran_1, xST_sleeper_1, xST_lastDue_1, xST_unreached_1, gSTdue_1, gSTbusy_1, gSTfelt_1, gSTlost_1, gSTfirst_1, xDia_size_1, ne_1, gDent_1⟩, ⟨b_1, xM_people_1, gMkinds_1, gMlates_1, gMscarfs_1, gMhands_1, gMrings_1, gMmains_1, gMaheadOf_1, gMlastIn_1, gMmanyIn_1, gMcomes_1, gMbusyTo_1, gMfeltMany_1, gMfeltBits_1, gMlostBits_1⟩, hu_1, hv_1, he_1, hl_1, hR_1⟩ := pu_reached _ _ _ _ _ h 
    have he_1 : a_1 = b_1 := he_1
    subst he_1
    have hc_1 : fC_reached (ci 0) (ci 1) (ci 2) (ci 3) (ci 6) (ca 1) (ca 2) (ca 3) (ca 4) (ci 10) (ci 11) (ci 12) (ca 7) (ca 8) (ca 9) (ca 10) (ca 11) (ci 13) ne (ca 12) = some (a_1, xHC_ran_1, xST_sleeper_1, xST_lastDue_1, xST_unreached_1, gSTdue_1, gSTbusy_1, gSTfelt_1, gSTlost_1, gSTfirst_1, xDia_size_1, ne_1, gDent_1) := hu_1
    have hw_1 : fM_reached (mi 0) (mi 1) (ma 0) (ma 1) (ma 2) (ma 3) (ma 4) (ma 5) (ma 6) (ma 7) (ma 8) (ma 9) (ma 10) (ma 12) (ma 13) (ma 14) (ma 15) (ma 16) = some (a_1, xM_people_1, gMkinds_1, gMlates_1, gMscarfs_1, gMhands_1, gMrings_1, gMmains_1, gMaheadOf_1, gMlastIn_1, gMmanyIn_1, gMcomes_1, gMbusyTo_1, gMfeltMany_1, gMfeltBits_1, gMlostBits_1) := hv_1
    have hm_1 : fM_reachedNow 1 (mi 0) (mi 1) (ma 0) (ma 1) (ma 2) (ma 3) (ma 4) (ma 5) (ma 6) (ma 7) (ma 8) (ma 9) (ma 10) (ma 12) (ma 13) (ma 14) (ma 15) (ma 16) = some (a_1, xM_people_1, gMkinds_1, gMlates_1, gMscarfs_1, gMhands_1, gMrings_1, gMmains_1, gMaheadOf_1, gMlastIn_1, gMmanyIn_1, gMcomes_1, gMbusyTo_1, gMfeltMany_1, gMfeltBits_1, gMlostBits_1) := by
      unfold fM_reached at hw_1
      exact bd_id hw_1
    have hL_1 : ne ≤ ne_1 := hl_1
    have hS_1 : RelB (lsI [(ci 0), (ci 1), (ci 2), xHC_ran_1, (ci 4), (ci 5), (ci 6), (ci 7), (ci 8), (ci 9), xST_sleeper_1, xST_lastDue_1, xST_unreached_1, xDia_size_1, (ci 14), (ci 15), (ci 16), (ci 17), (ci 18), (ci 19), (ci 20), (ci 21), (ci 22), (ci 23), (ci 24), (ci 25), (ci 26), (ci 27), (ci 28)]) (lsA [(ca 0), (ca 1), (ca 2), (ca 3), (ca 4), (ca 5), (ca 6), gSTdue_1, gSTbusy_1, gSTfelt_1, gSTlost_1, gSTfirst_1, gDent_1, (ca 13), (ca 14), (ca 15), (ca 16), (ca 17), (ca 18), (ca 19), (ca 20), (ca 21), (ca 22), (ca 23), (ca 24), (ca 25), (ca 26), (ca 27), (ca 28), (ca 29), (ca 30)]) ne_1 (lsI [(mi 0), xM_people_1, (mi 2), (mi 3), (mi 4), (mi 5)]) (lsA [(ma 0), gMkinds_1, gMlates_1, gMscarfs_1, gMhands_1, gMrings_1, gMmains_1, gMaheadOf_1, gMlastIn_1, gMmanyIn_1, (ma 10), (ma 11), gMcomes_1, gMbusyTo_1, gMfeltMany_1, gMfeltBits_1, gMlostBits_1, (ma 17), (ma 18), (ma 19), (ma 20), (ma 21), (ma 22), (ma 23), (ma 24), (ma 25), (ma 26), (ma 27), (ma 28), (ma 29), (ma 30)]) := hR_1
    obtain ⟨⟨a_2, xHC_ran_2, xST_sleeper_2, xST_lastDue_2, xST_unreached_2, gSTdue_2, gSTbusy_2, gSTfelt_2, gSTlost_2, gSTfirst_2, xDia_size_2, ne_2, gDent_2⟩, ⟨b_2, xM_people_2, gMkinds_2, gMlates_2, gMscarfs_2, gMhands_2, gMrings_2, gMmains_2, gMaheadOf_2, gMlastIn_2, gMmanyIn_2, gMcomes_2, gMbusyTo_2, gMfeltMany_2, gMfeltBits_2, gMlostBits_2⟩, hu_2, hv_2, he_2, hl_2, hR_2⟩ := pu_last _ _ _ _ _ hS_1 
    have he_2 : a_2 = b_2 := he_2
    subst he_2
    have hc_2 : fC_last (ci 0) (ci 1) (ci 2) xHC_ran_1 (ci 6) (ca 1) (ca 2) (ca 3) (ca 4) xST_sleeper_1 xST_lastDue_1 xST_unreached_1 gSTdue_1 gSTbusy_1 gSTfelt_1 gSTlost_1 gSTfirst_1 xDia_size_1 ne_1 gDent_1 = some (a_2, xHC_ran_2, xST_sleeper_2, xST_lastDue_2, xST_unreached_2, gSTdue_2, gSTbusy_2, gSTfelt_2, gSTlost_2, gSTfirst_2, xDia_size_2, ne_2, gDent_2) := hu_2
    have hw_2 : fM_last (mi 0) xM_people_1 (ma 0) gMkinds_1 gMlates_1 gMscarfs_1 gMhands_1 gMrings_1 gMmains_1 gMaheadOf_1 gMlastIn_1 gMmanyIn_1 (ma 10) gMcomes_1 gMbusyTo_1 gMfeltMany_1 gMfeltBits_1 gMlostBits_1 = some (a_2, xM_people_2, gMkinds_2, gMlates_2, gMscarfs_2, gMhands_2, gMrings_2, gMmains_2, gMaheadOf_2, gMlastIn_2, gMmanyIn_2, gMcomes_2, gMbusyTo_2, gMfeltMany_2, gMfeltBits_2, gMlostBits_2) := hv_2
    have hm_2 : fM_lastNow (mi 0) xM_people_1 (ma 0) gMkinds_1 gMlates_1 gMscarfs_1 gMhands_1 gMrings_1 gMmains_1 gMaheadOf_1 gMlastIn_1 gMmanyIn_1 (ma 10) gMcomes_1 gMbusyTo_1 gMfeltMany_1 gMfeltBits_1 gMlostBits_1 = some (a_2, xM_people_2, gMkinds_2, gMlates_2, gMscarfs_2, gMhands_2, gMrings_2, gMmains_2, gMaheadOf_2, gMlastIn_2, gMmanyIn_2, gMcomes_2, gMbusyTo_2, gMfeltMany_2, gMfeltBits_2, gMlostBits_2) := by
      unfold fM_last at hw_2
      exact bd_id hw_2
    have hL_2 : ne_1 ≤ ne_2 := hl_2
    have hS_2 : RelB (lsI [(ci 0), (ci 1), (ci 2), xHC_ran_2, (ci 4), (ci 5), (ci 6), (ci 7), (ci 8), (ci 9), xST_sleeper_2, xST_lastDue_2, xST_unreached_2, xDia_size_2, (ci 14), (ci 15), (ci 16), (ci 17), (ci 18), (ci 19), (ci 20), (ci 21), (ci 22), (ci 23), (ci 24), (ci 25), (ci 26), (ci 27), (ci 28)]) (lsA [(ca 0), (ca 1), (ca 2), (ca 3), (ca 4), (ca 5), (ca 6), gSTdue_2, gSTbusy_2, gSTfelt_2, gSTlost_2, gSTfirst_2, gDent_2, (ca 13), (ca 14), (ca 15), (ca 16), (ca 17), (ca 18), (ca 19), (ca 20), (ca 21), (ca 22), (ca 23), (ca 24), (ca 25), (ca 26), (ca 27), (ca 28), (ca 29), (ca 30)]) ne_2 (lsI [(mi 0), xM_people_2, (mi 2), (mi 3), (mi 4), (mi 5)]) (lsA [(ma 0), gMkinds_2, gMlates_2, gMscarfs_2, gMhands_2, gMrings_2, gMmains_2, gMaheadOf_2, gMlastIn_2, gMmanyIn_2, (ma 10), (ma 11), gMcomes_2, gMbusyTo_2, gMfeltMany_2, gMfeltBits_2, gMlostBits_2, (ma 17), (ma 18), (ma 19), (ma 20), (ma 21), (ma 22), (ma 23), (ma 24), (ma 25), (ma 26), (ma 27), (ma 28), (ma 29), (ma 30)]) := hR_2
    obtain ⟨⟨a_3, xHC_ran_3, xST_sleeper_3, xST_lastDue_3, xST_unreached_3, gSTdue_3, gSTbusy_3, gSTfelt_3, gSTlost_3, gSTfirst_3, xDia_size_3, ne_3, gDent_3⟩, ⟨b_3, xM_people_3, gMkinds_3, gMlates_3, gMscarfs_3, gMhands_3, gMrings_3, gMmains_3, gMaheadOf_3, gMlastIn_3, gMmanyIn_3, gMcomes_3, gMbusyTo_3, gMfeltMany_3, gMfeltBits_3, gMlostBits_3⟩, hu_3, hv_3, he_3, hl_3, hR_3⟩ := pu_twice _ _ _ _ _ hS_2 
    have he_3 : a_3 = b_3 := he_3
    subst he_3
    have hc_3 : fC_twice (ci 0) (ci 1) (ci 2) xHC_ran_2 (ci 6) (ca 1) (ca 2) (ca 3) (ca 4) xST_sleeper_2 xST_lastDue_2 xST_unreached_2 gSTdue_2 gSTbusy_2 gSTfelt_2 gSTlost_2 gSTfirst_2 xDia_size_2 ne_2 gDent_2 = some (a_3, xHC_ran_3, xST_sleeper_3, xST_lastDue_3, xST_unreached_3, gSTdue_3, gSTbusy_3, gSTfelt_3, gSTlost_3, gSTfirst_3, xDia_size_3, ne_3, gDent_3) := hu_3
    have hw_3 : fM_twice (mi 0) xM_people_2 (ma 0) gMkinds_2 gMlates_2 gMscarfs_2 gMhands_2 gMrings_2 gMmains_2 gMaheadOf_2 gMlastIn_2 gMmanyIn_2 (ma 10) gMcomes_2 gMbusyTo_2 gMfeltMany_2 gMfeltBits_2 gMlostBits_2 = some (a_3, xM_people_3, gMkinds_3, gMlates_3, gMscarfs_3, gMhands_3, gMrings_3, gMmains_3, gMaheadOf_3, gMlastIn_3, gMmanyIn_3, gMcomes_3, gMbusyTo_3, gMfeltMany_3, gMfeltBits_3, gMlostBits_3) := hv_3
    have hm_3 : fM_reachedNow 2 (mi 0) xM_people_2 (ma 0) gMkinds_2 gMlates_2 gMscarfs_2 gMhands_2 gMrings_2 gMmains_2 gMaheadOf_2 gMlastIn_2 gMmanyIn_2 (ma 10) gMcomes_2 gMbusyTo_2 gMfeltMany_2 gMfeltBits_2 gMlostBits_2 = some (a_3, xM_people_3, gMkinds_3, gMlates_3, gMscarfs_3, gMhands_3, gMrings_3, gMmains_3, gMaheadOf_3, gMlastIn_3, gMmanyIn_3, gMcomes_3, gMbusyTo_3, gMfeltMany_3, gMfeltBits_3, gMlostBits_3) := by
      unfold fM_twice at hw_3
      exact bd_id hw_3
    have hL_3 : ne_2 ≤ ne_3 := hl_3
    have hS_3 : RelB (lsI [(ci 0), (ci 1), (ci 2), xHC_ran_3, (ci 4), (ci 5), (ci 6), (ci 7), (ci 8), (ci 9), xST_sleeper_3, xST_lastDue_3, xST_unreached_3, xDia_size_3, (ci 14), (ci 15), (ci 16), (ci 17), (ci 18), (ci 19), (ci 20), (ci 21), (ci 22), (ci 23), (ci 24), (ci 25), (ci 26), (ci 27), (ci 28)]) (lsA [(ca 0), (ca 1), (ca 2), (ca 3), (ca 4), (ca 5), (ca 6), gSTdue_3, gSTbusy_3, gSTfelt_3, gSTlost_3, gSTfirst_3, gDent_3, (ca 13), (ca 14), (ca 15), (ca 16), (ca 17), (ca 18), (ca 19), (ca 20), (ca 21), (ca 22), (ca 23), (ca 24), (ca 25), (ca 26), (ca 27), (ca 28), (ca 29), (ca 30)]) ne_3 (lsI [(mi 0), xM_people_3, (mi 2), (mi 3), (mi 4), (mi 5)]) (lsA [(ma 0), gMkinds_3, gMlates_3, gMscarfs_3, gMhands_3, gMrings_3, gMmains_3, gMaheadOf_3, gMlastIn_3, gMmanyIn_3, (ma 10), (ma 11), gMcomes_3, gMbusyTo_3, gMfeltMany_3, gMfeltBits_3, gMlostBits_3, (ma 17), (ma 18), (ma 19), (ma 20), (ma 21), (ma 22), (ma 23), (ma 24), (ma 25), (ma 26), (ma 27), (ma 28), (ma 29), (ma 30)]) := hR_3
    show ∃ U V, fC_digest_45_b _ _ _ _ _ _ _ _ _ _ _ _ _ _ _ _ _ _ _ _ _ _ _ _ _ _ _ _ _ _ _ _ _ _ _ _ _ _ _ _ _ _ _ _ _ _ _ _ _ _ _ _ _ _ = some U ∧ fM_digest_45_b _ _ _ _ _ _ _ _ _ _ _ _ _ _ _ _ _ _ _ _ _ _ _ _ _ _ _ _ _ _ _ _ _ _ = some V ∧ _ ∧ _
    unfold fC_digest_45_b fM_digest_45_b
    rw [if_pos le, if_pos le2]
    refine dg_bm hc_1 hm_1 hL_1 ?_
    dsimp only [nm]
    refine dg_bm hc_2 hm_2 hL_2 ?_
    dsimp only [nm]
    refine dg_bm hc_3 hm_3 hL_3 ?_
    dsimp only [nm]
    have t := fun hh : Int64 => dg202 3 0 _ _ _ _ _ hh FU FU hS_3 rfl (by rw [FU_eq]; omega) (by rw [FU_eq]; omega)
    exact t _
  | succ m ih =>
    intro v ci ca ne mi ma hh f g h hn hpe hrow hj hf hg
    obtain ⟨f, rfl⟩ : ∃ f', f = f' + 1 := ⟨f - 1, by omega⟩
    obtain ⟨g, rfl⟩ : ∃ g', g = g' + 1 := ⟨g - 1, by omega⟩
    have le : ¬ ci 6 ≤ nI v := by rw [hn]; exact nI_ge (by omega) (by omega)
    have le2 : ¬ mi 1 ≤ nI v := by rw [hpe]; exact le
    show ∃ U V, fC_digest_45_b _ _ _ _ _ _ _ _ _ _ _ _ _ _ _ _ _ _ _ _ _ _ _ _ _ _ _ _ _ _ _ _ _ _ _ _ _ _ _ _ _ _ _ _ _ _ _ _ _ _ _ _ _ _ = some U ∧ fM_digest_45_b _ _ _ _ _ _ _ _ _ _ _ _ _ _ _ _ _ _ _ _ _ _ _ _ _ _ _ _ _ _ _ _ _ _ = some V ∧ _ ∧ _
    unfold fC_digest_45_b fM_digest_45_b
    rw [if_neg le, if_neg le2]
    exact dg59 ci ca ne mi ma h hn hn20 (show v < n by omega) hrow _ _ (fun hh xHC_ran_9 xST_sleeper_9 xST_lastDue_9 xST_unreached_9 gSTdue_9 gSTbusy_9 gSTfelt_9 gSTlost_9 gSTfirst_9 xDia_size_9 ne_9 gDent_9 xM_people_9 gMkinds_9 gMlates_9 gMscarfs_9 gMhands_9 gMrings_9 gMmains_9 gMaheadOf_9 gMlastIn_9 gMmanyIn_9 gMcomes_9 gMbusyTo_9 gMfeltMany_9 gMfeltBits_9 gMlostBits_9 hR e1 e2 => ih (v + 1) _ _ _ _ _ hh f g hR hn e1 e2 (by omega) (by omega) (by omega)) 5 0 hh FU FU rfl (by rw [FU_eq]; omega) (by rw [FU_eq]; omega)
theorem dg6 : ∀ (m j : Nat) (ci : Nat → Int32) (ca : Nat → Nat → Int32) (ne : Nat) (mi : Nat → Int32) (ma : Nat → Nat → Int32) (hh : Int64) (f g : Nat), RelB ci ca ne mi ma → j + m = 8 → m < f → m < g → ∃ U V, fC_digest_6 (ci 0) (ci 1) (ci 2) (ci 5) (ci 6) (ci 7) (ci 8) (ci 9) (ca 1) (ca 2) (ca 3) (ca 4) (ci 14) (ci 15) (ci 16) (ca 13) (ca 14) (ca 15) (ca 16) (ca 17) (ci 17) (ci 18) (ci 19) (ci 20) (ci 21) (ca 18) (ci 22) (ci 23) (ci 24) (ci 25) (ca 19) (ca 20) (ca 21) (ci 26) (ca 22) (ca 23) (ci 27) (ca 24) (ca 25) (ca 26) (ca 27) (ci 28) f hh (nI j) (ci 3) (ci 10) (ci 11) (ci 12) (ca 7) (ca 8) (ca 9) (ca 10) (ca 11) (ci 13) ne (ca 12) = some U ∧ fM_digest_6 (mi 0) (mi 2) (mi 3) (mi 4) (mi 5) (ma 0) (ma 10) (ma 11) (ma 17) (ma 18) (ma 19) (ma 20) (ma 21) (ma 22) (ma 23) (ma 24) (ma 25) g hh (nI j) (mi 1) (ma 1) (ma 2) (ma 3) (ma 4) (ma 5) (ma 6) (ma 7) (ma 8) (ma 9) (ma 12) (ma 13) (ma 14) (ma 15) (ma 16) = some V ∧ ne ≤ U.2.2.2.2.2.2.2.2.2.2.2.1 ∧ QD ci ca mi ma U V := by
  intro m
  have z1 : ¬ (1 : Int32) = 0 := by decide
  induction m with
  | zero =>
    intro j ci ca ne mi ma hh f g h hj hf hg
    obtain ⟨f, rfl⟩ : ∃ f', f = f' + 1 := ⟨f - 1, by omega⟩
    obtain ⟨g, rfl⟩ : ∃ g', g = g' + 1 := ⟨g - 1, by omega⟩
    have e : j = 8 := by omega
    subst e
    have hkeep := h
    obtain ⟨hne, hH, hL, hS, hSh, hRg, hTx, hP, hT, hB, hZ⟩ := h
    obtain ⟨K2, L2, C2, H2, R2, M2, AO2, LI2, MI2, p1, p2⟩ := hP (mi 1) (ma 1) (ma 2) (ma 3) (ma 4) (ma 5) (ma 6) (ma 7) (ma 8) (ma 9)
    obtain ⟨n, sc, mn, hd, sl, rg, kd, lt, r1, r2, r3, r4, r5⟩ := ParR_row p2
    have hS2 : RelB (lsI [(ci 0), (ci 1), (ci 2), (ci 3), (ci 4), (ci 5), (ci 6), (ci 7), (ci 8), (ci 9), (ci 10), (ci 11), (ci 12), (ci 13), (ci 14), (ci 15), (ci 16), (ci 17), (ci 18), (ci 19), (ci 20), (ci 21), (ci 22), (ci 23), (ci 24), (ci 25), (ci 26), (ci 27), (ci 28)]) (lsA [(ca 0), (ca 1), (ca 2), (ca 3), (ca 4), (ca 5), (ca 6), (ca 7), (ca 8), (ca 9), (ca 10), (ca 11), (ca 12), (ca 13), (ca 14), (ca 15), (ca 16), (ca 17), (ca 18), (ca 19), (ca 20), (ca 21), (ca 22), (ca 23), (ca 24), (ca 25), (ca 26), (ca 27), (ca 28), (ca 29), (ca 30)]) ne (lsI [(mi 0), (ci 6), (mi 2), (mi 3), (mi 4), (mi 5)]) (lsA [(ma 0), K2, L2, C2, H2, R2, M2, AO2, LI2, MI2, (ma 10), (ma 11), (ma 12), (ma 13), (ma 14), (ma 15), (ma 16), (ma 17), (ma 18), (ma 19), (ma 20), (ma 21), (ma 22), (ma 23), (ma 24), (ma 25), (ma 26), (ma 27), (ma 28), (ma 29), (ma 30)]) := hkeep
    show ∃ U V, fC_digest_6_b _ _ _ _ _ _ _ _ _ _ _ _ _ _ _ _ _ _ _ _ _ _ _ _ _ _ _ _ _ _ _ _ _ _ _ _ _ _ _ _ _ _ _ _ _ _ _ _ _ _ _ _ _ _ _ _ _ = some U ∧ fM_digest_6_b _ _ _ _ _ _ _ _ _ _ _ _ _ _ _ _ _ _ _ _ _ _ _ _ _ _ _ _ _ _ _ _ _ _ _ = some V ∧ _ ∧ _
    unfold fC_digest_6_b fM_digest_6_b
    rw [if_pos (show (7 : Int32) < nI 8 by decide), if_pos (show (8 : Int32) ≤ nI 8 by decide)]
    refine dg_bd (show fC_fault (ci 9) = some (ci 9) from rfl) p1 ?_
    dsimp only
    rw [nm_eq]
    have t := fun hh : Int64 => dg45 r2 n 0 _ _ _ _ _ hh FU FU hS2 r1 rfl p2 (by omega) (by rw [FU_eq]; omega) (by rw [FU_eq]; omega)
    exact t _
  | succ m ih =>
    intro j ci ca ne mi ma hh f g h hj hf hg
    obtain ⟨f, rfl⟩ : ∃ f', f = f' + 1 := ⟨f - 1, by omega⟩
    obtain ⟨g, rfl⟩ : ∃ g', g = g' + 1 := ⟨g - 1, by omega⟩
    obtain ⟨⟨a_1, xHC_ran_1, xST_sleeper_1, xST_lastDue_1, xST_unreached_1, gSTdue_1, gSTbusy_1, gSTfelt_1, gSTlost_1, gSTfirst_1, xDia_size_1, ne_1, gDent_1⟩, ⟨b_1, xM_people_1, gMkinds_1, gMlates_1, gMscarfs_1, gMhands_1, gMrings_1, gMmains_1, gMaheadOf_1, gMlastIn_1, gMmanyIn_1, gMcomes_1, gMbusyTo_1, gMfeltMany_1, gMfeltBits_1, gMlostBits_1⟩, hu_1, hv_1, he_1, hl_1, hR_1⟩ := pu_count _ _ _ _ _ h (nI j)
    have he_1 : a_1 = b_1 := he_1
    subst he_1
    have hc_1 : fC_count (nI j) (ci 0) (ci 1) (ci 2) (ci 3) (ci 5) (ci 6) (ci 8) (ca 1) (ca 2) (ca 3) (ca 4) (ci 10) (ci 11) (ci 12) (ca 7) (ca 8) (ca 9) (ca 10) (ca 11) (ci 13) ne (ca 12) (ci 26) (ci 27) (ca 26) (ci 28) = some (a_1, xHC_ran_1, xST_sleeper_1, xST_lastDue_1, xST_unreached_1, gSTdue_1, gSTbusy_1, gSTfelt_1, gSTlost_1, gSTfirst_1, xDia_size_1, ne_1, gDent_1) := hu_1
    have hm_1 : fM_count (nI j) (mi 0) (mi 1) (mi 3) (mi 4) (mi 5) (ma 0) (ma 1) (ma 2) (ma 3) (ma 4) (ma 5) (ma 6) (ma 7) (ma 8) (ma 9) (ma 10) (ma 12) (ma 13) (ma 14) (ma 15) (ma 16) (ma 25) = some (a_1, xM_people_1, gMkinds_1, gMlates_1, gMscarfs_1, gMhands_1, gMrings_1, gMmains_1, gMaheadOf_1, gMlastIn_1, gMmanyIn_1, gMcomes_1, gMbusyTo_1, gMfeltMany_1, gMfeltBits_1, gMlostBits_1) := hv_1
    have hL_1 : ne ≤ ne_1 := hl_1
    have hS_1 : RelB (lsI [(ci 0), (ci 1), (ci 2), xHC_ran_1, (ci 4), (ci 5), (ci 6), (ci 7), (ci 8), (ci 9), xST_sleeper_1, xST_lastDue_1, xST_unreached_1, xDia_size_1, (ci 14), (ci 15), (ci 16), (ci 17), (ci 18), (ci 19), (ci 20), (ci 21), (ci 22), (ci 23), (ci 24), (ci 25), (ci 26), (ci 27), (ci 28)]) (lsA [(ca 0), (ca 1), (ca 2), (ca 3), (ca 4), (ca 5), (ca 6), gSTdue_1, gSTbusy_1, gSTfelt_1, gSTlost_1, gSTfirst_1, gDent_1, (ca 13), (ca 14), (ca 15), (ca 16), (ca 17), (ca 18), (ca 19), (ca 20), (ca 21), (ca 22), (ca 23), (ca 24), (ca 25), (ca 26), (ca 27), (ca 28), (ca 29), (ca 30)]) ne_1 (lsI [(mi 0), xM_people_1, (mi 2), (mi 3), (mi 4), (mi 5)]) (lsA [(ma 0), gMkinds_1, gMlates_1, gMscarfs_1, gMhands_1, gMrings_1, gMmains_1, gMaheadOf_1, gMlastIn_1, gMmanyIn_1, (ma 10), (ma 11), gMcomes_1, gMbusyTo_1, gMfeltMany_1, gMfeltBits_1, gMlostBits_1, (ma 17), (ma 18), (ma 19), (ma 20), (ma 21), (ma 22), (ma 23), (ma 24), (ma 25), (ma 26), (ma 27), (ma 28), (ma 29), (ma 30)]) := hR_1
    show ∃ U V, fC_digest_6_b _ _ _ _ _ _ _ _ _ _ _ _ _ _ _ _ _ _ _ _ _ _ _ _ _ _ _ _ _ _ _ _ _ _ _ _ _ _ _ _ _ _ _ _ _ _ _ _ _ _ _ _ _ _ _ _ _ = some U ∧ fM_digest_6_b _ _ _ _ _ _ _ _ _ _ _ _ _ _ _ _ _ _ _ _ _ _ _ _ _ _ _ _ _ _ _ _ _ _ _ = some V ∧ _ ∧ _
    unfold fC_digest_6_b fM_digest_6_b
    rw [if_neg (show ¬ (7 : Int32) < nI j from nI_nlt (a := 7) (by omega) (by omega)), if_neg (show ¬ (8 : Int32) ≤ nI j from nI_ge (b := 8) (by omega) (by decide))]
    refine dg_bm hc_1 hm_1 hL_1 ?_
    dsimp only
    rw [nm_eq, nm_eq, nI_1]
    exact ih (j + 1) _ _ _ _ _ _ f g hS_1 (by omega) (by omega) (by omega)
theorem pu_digest (ci : Nat → Int32) (ca : Nat → Nat → Int32) (ne : Nat) (mi : Nat → Int32) (ma : Nat → Nat → Int32) (h : RelB ci ca ne mi ma) : ∃ (u : Int64 × Int32 × Int32 × Int32 × Int32 × (Nat → Int32) × (Nat → Int32) × (Nat → Int32) × (Nat → Int32) × (Nat → Int32) × Int32 × Nat × (Nat → Int32) × Int32 × Int32 × Int32 × (Nat → Int32) × (Nat → Int32) × (Nat → Int32) × (Nat → Int32) × (Nat → Int32) × Int32 × Int32 × Int32 × Int32 × Int32 × (Nat → Int32) × Int32 × (Nat → Int32) × (Nat → Int32) × (Nat → Int32) × (Nat → Int32)) (v : Int64 × Int32 × Int32 × (Nat → Int32) × (Nat → Int32) × (Nat → Int32) × (Nat → Int32) × (Nat → Int32) × (Nat → Int32) × (Nat → Int32) × (Nat → Int32) × (Nat → Int32) × (Nat → Int32) × (Nat → Int32) × (Nat → Int32) × (Nat → Int32) × (Nat → Int32) × (Nat → Int32) × (Nat → Int32) × (Nat → Int32) × (Nat → Int32)), fC_digest (ci 0) (ci 1) (ci 2) (ci 3) (ci 5) (ci 6) (ci 7) (ci 8) (ci 9) (ca 1) (ca 2) (ca 3) (ca 4) (ci 10) (ci 11) (ci 12) (ca 7) (ca 8) (ca 9) (ca 10) (ca 11) (ci 13) ne (ca 12) (ci 14) (ci 15) (ci 16) (ca 13) (ca 14) (ca 15) (ca 16) (ca 17) (ci 17) (ci 18) (ci 19) (ci 20) (ci 21) (ca 18) (ci 22) (ci 23) (ci 24) (ci 25) (ca 19) (ca 20) (ca 21) (ci 26) (ca 22) (ca 23) (ci 27) (ca 24) (ca 25) (ca 26) (ca 27) (ci 28) = some u ∧ fM_digest (mi 0) (mi 1) (mi 2) (mi 3) (mi 4) (mi 5) (ma 0) (ma 1) (ma 2) (ma 3) (ma 4) (ma 5) (ma 6) (ma 7) (ma 8) (ma 9) (ma 10) (ma 11) (ma 12) (ma 13) (ma 14) (ma 15) (ma 16) (ma 17) (ma 18) (ma 19) (ma 20) (ma 21) (ma 22) (ma 23) (ma 24) (ma 25) = some v ∧ u.1 = v.1 ∧ ne ≤ u.2.2.2.2.2.2.2.2.2.2.2.1 ∧ RelB (lsI [(ci 0), (ci 1), (ci 2), u.2.1, (ci 4), (ci 5), (ci 6), (ci 7), (ci 8), (ci 9), u.2.2.1, u.2.2.2.1, u.2.2.2.2.1, u.2.2.2.2.2.2.2.2.2.2.1, u.2.2.2.2.2.2.2.2.2.2.2.2.2.1, u.2.2.2.2.2.2.2.2.2.2.2.2.2.2.1, u.2.2.2.2.2.2.2.2.2.2.2.2.2.2.2.1, u.2.2.2.2.2.2.2.2.2.2.2.2.2.2.2.2.2.2.2.2.2.1, u.2.2.2.2.2.2.2.2.2.2.2.2.2.2.2.2.2.2.2.2.2.2.1, u.2.2.2.2.2.2.2.2.2.2.2.2.2.2.2.2.2.2.2.2.2.2.2.1, u.2.2.2.2.2.2.2.2.2.2.2.2.2.2.2.2.2.2.2.2.2.2.2.2.1, u.2.2.2.2.2.2.2.2.2.2.2.2.2.2.2.2.2.2.2.2.2.2.2.2.2.1, u.2.2.2.2.2.2.2.2.2.2.2.2.2.2.2.2.2.2.2.2.2.2.2.2.2.2.2.1, (ci 23), (ci 24), (ci 25), (ci 26), (ci 27), (ci 28)]) (lsA [(ca 0), (ca 1), (ca 2), (ca 3), (ca 4), (ca 5), (ca 6), u.2.2.2.2.2.1, u.2.2.2.2.2.2.1, u.2.2.2.2.2.2.2.1, u.2.2.2.2.2.2.2.2.1, u.2.2.2.2.2.2.2.2.2.1, u.2.2.2.2.2.2.2.2.2.2.2.2.1, u.2.2.2.2.2.2.2.2.2.2.2.2.2.2.2.2.1, u.2.2.2.2.2.2.2.2.2.2.2.2.2.2.2.2.2.1, u.2.2.2.2.2.2.2.2.2.2.2.2.2.2.2.2.2.2.1, u.2.2.2.2.2.2.2.2.2.2.2.2.2.2.2.2.2.2.2.1, u.2.2.2.2.2.2.2.2.2.2.2.2.2.2.2.2.2.2.2.2.1, u.2.2.2.2.2.2.2.2.2.2.2.2.2.2.2.2.2.2.2.2.2.2.2.2.2.2.1, u.2.2.2.2.2.2.2.2.2.2.2.2.2.2.2.2.2.2.2.2.2.2.2.2.2.2.2.2.1, u.2.2.2.2.2.2.2.2.2.2.2.2.2.2.2.2.2.2.2.2.2.2.2.2.2.2.2.2.2.1, u.2.2.2.2.2.2.2.2.2.2.2.2.2.2.2.2.2.2.2.2.2.2.2.2.2.2.2.2.2.2.1, (ca 22), (ca 23), (ca 24), (ca 25), (ca 26), u.2.2.2.2.2.2.2.2.2.2.2.2.2.2.2.2.2.2.2.2.2.2.2.2.2.2.2.2.2.2.2, (ca 28), (ca 29), (ca 30)]) u.2.2.2.2.2.2.2.2.2.2.2.1 (lsI [(mi 0), v.2.1, v.2.2.1, (mi 3), (mi 4), (mi 5)]) (lsA [(ma 0), v.2.2.2.1, v.2.2.2.2.1, v.2.2.2.2.2.1, v.2.2.2.2.2.2.1, v.2.2.2.2.2.2.2.1, v.2.2.2.2.2.2.2.2.1, v.2.2.2.2.2.2.2.2.2.1, v.2.2.2.2.2.2.2.2.2.2.1, v.2.2.2.2.2.2.2.2.2.2.2.1, (ma 10), (ma 11), v.2.2.2.2.2.2.2.2.2.2.2.2.1, v.2.2.2.2.2.2.2.2.2.2.2.2.2.1, v.2.2.2.2.2.2.2.2.2.2.2.2.2.2.1, v.2.2.2.2.2.2.2.2.2.2.2.2.2.2.2.1, v.2.2.2.2.2.2.2.2.2.2.2.2.2.2.2.2.1, v.2.2.2.2.2.2.2.2.2.2.2.2.2.2.2.2.2.1, v.2.2.2.2.2.2.2.2.2.2.2.2.2.2.2.2.2.2.1, v.2.2.2.2.2.2.2.2.2.2.2.2.2.2.2.2.2.2.2.1, v.2.2.2.2.2.2.2.2.2.2.2.2.2.2.2.2.2.2.2.2, (ma 21), (ma 22), (ma 23), (ma 24), (ma 25), (ma 26), (ma 27), (ma 28), (ma 29), (ma 30)]) := by
  obtain ⟨U, V, e1, e2, e3, e4, e5⟩ := dg6 8 0 ci ca ne mi ma 17 FU FU h rfl (by rw [FU_eq]; omega) (by rw [FU_eq]; omega)
  refine ⟨U, V, ?_, e2, e4, e3, e5⟩
  unfold fC_digest
  have e1' : fC_digest_6 (ci 0) (ci 1) (ci 2) (ci 5) (ci 6) (ci 7) (ci 8) (ci 9) (ca 1) (ca 2) (ca 3) (ca 4) (ci 14) (ci 15) (ci 16) (ca 13) (ca 14) (ca 15) (ca 16) (ca 17) (ci 17) (ci 18) (ci 19) (ci 20) (ci 21) (ca 18) (ci 22) (ci 23) (ci 24) (ci 25) (ca 19) (ca 20) (ca 21) (ci 26) (ca 22) (ca 23) (ci 27) (ca 24) (ca 25) (ca 26) (ca 27) (ci 28) FU 17 0 (ci 3) (ci 10) (ci 11) (ci 12) (ca 7) (ca 8) (ca 9) (ca 10) (ca 11) (ci 13) ne (ca 12) = some U := e1
  rw [e1']
  exact mz_some e3
