/-! ===== the small methods ===== -/
theorem pu_spans (ci : Nat → Int32) (ca : Nat → Nat → Int32) (ne : Nat) (mi : Nat → Int32) (ma : Nat → Nat → Int32) (h : RelB ci ca ne mi ma) (a1 : Int32) (a2 : Int32) (a3 : Int32) (a4 : Int32) (a5 : Int32) : ∃ (u : Int32) (v : Int32), fC_spans a1 a2 a3 a4 a5 = some u ∧ fM_spans a1 a2 a3 a4 a5 = some v ∧ u = v ∧ RelB ci ca ne mi ma := by
  obtain ⟨hne, hH, hL, hS, hSh, hRg, hTx, hP, hT, hB, hZ⟩ := h
  obtain ⟨r, e1, e2⟩ := sq_spans a1 a2 a3 a4 a5
  exact ⟨r, r, e1, e2, rfl, ⟨hne, hH, hL, hS, hSh, hRg, hTx, hP, hT, hB, hZ⟩⟩

theorem pu_limits (ci : Nat → Int32) (ca : Nat → Nat → Int32) (ne : Nat) (mi : Nat → Int32) (ma : Nat → Nat → Int32) (h : RelB ci ca ne mi ma) (a1 : Int32) (a2 : Int32) (a3 : Int32) : ∃ (u : Int32 × Int32 × Int32 × Int32) (v : Int32 × (Nat → Int32)), fC_limits a1 a2 a3 (ci 23) (ci 24) (ci 25) = some u ∧ fM_limits a1 a2 a3 (ma 11) = some v ∧ u.1 = v.1 ∧ RelB (lsI [(ci 0), (ci 1), (ci 2), (ci 3), (ci 4), (ci 5), (ci 6), (ci 7), (ci 8), (ci 9), (ci 10), (ci 11), (ci 12), (ci 13), (ci 14), (ci 15), (ci 16), (ci 17), (ci 18), (ci 19), (ci 20), (ci 21), (ci 22), u.2.1, u.2.2.1, u.2.2.2, (ci 26), (ci 27), (ci 28)]) ca ne mi (lsA [(ma 0), (ma 1), (ma 2), (ma 3), (ma 4), (ma 5), (ma 6), (ma 7), (ma 8), (ma 9), (ma 10), v.2, (ma 12), (ma 13), (ma 14), (ma 15), (ma 16), (ma 17), (ma 18), (ma 19), (ma 20), (ma 21), (ma 22), (ma 23), (ma 24), (ma 25), (ma 26), (ma 27), (ma 28), (ma 29), (ma 30)]) := by
  obtain ⟨hne, hH, hL, hS, hSh, hRg, hTx, hP, hT, hB, hZ⟩ := h
  obtain ⟨r, s1, s2, s3, l2, e1, e2, e3⟩ := sq_limits hL a1 a2 a3
  exact ⟨_, _, e1, e2, rfl, ⟨hne, hH, e3, hS, hSh, hRg, hTx, hP, hT, hB, hZ⟩⟩

theorem pu_heard (ci : Nat → Int32) (ca : Nat → Nat → Int32) (ne : Nat) (mi : Nat → Int32) (ma : Nat → Nat → Int32) (h : RelB ci ca ne mi ma) (a1 : Int32) (a2 : Int32) : ∃ (u : Int32 × Int32 × (Nat → Int32) × (Nat → Int32)) (v : Int32 × Int32 × (Nat → Int32) × (Nat → Int32)), fC_heard a1 a2 (ci 26) (ca 22) (ca 23) = some u ∧ fM_heard a1 a2 (mi 3) (ma 21) (ma 22) = some v ∧ u.1 = v.1 ∧ RelB (lsI [(ci 0), (ci 1), (ci 2), (ci 3), (ci 4), (ci 5), (ci 6), (ci 7), (ci 8), (ci 9), (ci 10), (ci 11), (ci 12), (ci 13), (ci 14), (ci 15), (ci 16), (ci 17), (ci 18), (ci 19), (ci 20), (ci 21), (ci 22), (ci 23), (ci 24), (ci 25), u.2.1, (ci 27), (ci 28)]) (lsA [(ca 0), (ca 1), (ca 2), (ca 3), (ca 4), (ca 5), (ca 6), (ca 7), (ca 8), (ca 9), (ca 10), (ca 11), (ca 12), (ca 13), (ca 14), (ca 15), (ca 16), (ca 17), (ca 18), (ca 19), (ca 20), (ca 21), u.2.2.1, u.2.2.2, (ca 24), (ca 25), (ca 26), (ca 27), (ca 28), (ca 29), (ca 30)]) ne (lsI [(mi 0), (mi 1), (mi 2), v.2.1, (mi 4), (mi 5)]) (lsA [(ma 0), (ma 1), (ma 2), (ma 3), (ma 4), (ma 5), (ma 6), (ma 7), (ma 8), (ma 9), (ma 10), (ma 11), (ma 12), (ma 13), (ma 14), (ma 15), (ma 16), (ma 17), (ma 18), (ma 19), (ma 20), v.2.2.1, v.2.2.2, (ma 23), (ma 24), (ma 25), (ma 26), (ma 27), (ma 28), (ma 29), (ma 30)]) := by
  obtain ⟨hne, hH, hL, hS, hSh, hRg, hTx, hP, hT, hB, hZ⟩ := h
  obtain ⟨r, sz2, who2, tm2, mw2, mt2, e1, e2, e3, _⟩ := hear_take hH a1 a2
  refine ⟨(r, sz2, who2, tm2), (r, sz2, mw2, mt2), ?_, ?_, rfl, ⟨hne, e3, hL, hS, hSh, hRg, hTx, hP, hT, hB, hZ⟩⟩
  · unfold fC_heard
    rw [e1, bd_some]
  · unfold fM_heard
    rw [e2, bd_some]

theorem pu_forget (ci : Nat → Int32) (ca : Nat → Nat → Int32) (ne : Nat) (mi : Nat → Int32) (ma : Nat → Nat → Int32) (h : RelB ci ca ne mi ma) : ∃ (u : Int32 × Int32) (v : Int32 × Int32), fC_forget (ci 26) = some u ∧ fM_forget (mi 3) = some v ∧ u.1 = v.1 ∧ RelB (lsI [(ci 0), (ci 1), (ci 2), (ci 3), (ci 4), (ci 5), (ci 6), (ci 7), (ci 8), (ci 9), (ci 10), (ci 11), (ci 12), (ci 13), (ci 14), (ci 15), (ci 16), (ci 17), (ci 18), (ci 19), (ci 20), (ci 21), (ci 22), (ci 23), (ci 24), (ci 25), u.2, (ci 27), (ci 28)]) ca ne (lsI [(mi 0), (mi 1), (mi 2), v.2, (mi 4), (mi 5)]) ma := by
  obtain ⟨hne, hH, hL, hS, hSh, hRg, hTx, hP, hT, hB, hZ⟩ := h
  obtain ⟨n, h1, h2, h3, h4⟩ := hH
  refine ⟨(ci 26, 0), (mi 3, 0), rfl, rfl, ?_, ⟨hne, ⟨0, by omega, rfl, rfl, fun k hk => absurd hk (Nat.not_lt_zero k)⟩, hL, hS, hSh, hRg, hTx, hP, hT, hB, hZ⟩⟩
  show ci 26 = mi 3
  rw [h2, h3]

theorem pu_census (ci : Nat → Int32) (ca : Nat → Nat → Int32) (ne : Nat) (mi : Nat → Int32) (ma : Nat → Nat → Int32) (h : RelB ci ca ne mi ma) (a1 : Int32) (a2 : Int32) : ∃ (u : Int32 × Int32 × (Nat → Int32) × (Nat → Int32)) (v : Int32 × Int32 × (Nat → Int32) × (Nat → Int32)), fC_census a1 a2 (ci 27) (ca 24) (ca 25) = some u ∧ fM_census a1 a2 (mi 4) (ma 23) (ma 24) = some v ∧ u.1 = v.1 ∧ RelB (lsI [(ci 0), (ci 1), (ci 2), (ci 3), (ci 4), (ci 5), (ci 6), (ci 7), (ci 8), (ci 9), (ci 10), (ci 11), (ci 12), (ci 13), (ci 14), (ci 15), (ci 16), (ci 17), (ci 18), (ci 19), (ci 20), (ci 21), (ci 22), (ci 23), (ci 24), (ci 25), (ci 26), u.2.1, (ci 28)]) (lsA [(ca 0), (ca 1), (ca 2), (ca 3), (ca 4), (ca 5), (ca 6), (ca 7), (ca 8), (ca 9), (ca 10), (ca 11), (ca 12), (ca 13), (ca 14), (ca 15), (ca 16), (ca 17), (ca 18), (ca 19), (ca 20), (ca 21), (ca 22), (ca 23), u.2.2.1, u.2.2.2, (ca 26), (ca 27), (ca 28), (ca 29), (ca 30)]) ne (lsI [(mi 0), (mi 1), (mi 2), (mi 3), v.2.1, (mi 5)]) (lsA [(ma 0), (ma 1), (ma 2), (ma 3), (ma 4), (ma 5), (ma 6), (ma 7), (ma 8), (ma 9), (ma 10), (ma 11), (ma 12), (ma 13), (ma 14), (ma 15), (ma 16), (ma 17), (ma 18), (ma 19), (ma 20), (ma 21), (ma 22), v.2.2.1, v.2.2.2, (ma 25), (ma 26), (ma 27), (ma 28), (ma 29), (ma 30)]) := by
  obtain ⟨hne, hH, hL, hS, hSh, hRg, hTx, hP, hT, hB, hZ⟩ := h
  obtain ⟨r, z2, y2, c2, my2, mm2, e1, e2, e3⟩ := reg_census hRg a1 a2
  exact ⟨_, _, e1, e2, rfl, ⟨hne, hH, hL, hS, hSh, e3, hTx, hP, hT, hB, hZ⟩⟩

theorem pu_births (ci : Nat → Int32) (ca : Nat → Nat → Int32) (ne : Nat) (mi : Nat → Int32) (ma : Nat → Nat → Int32) (h : RelB ci ca ne mi ma) (a1 : Int32) (a2 : Int32) : ∃ (u : Int32 × (Nat → Int32)) (v : Int32 × (Nat → Int32)), fC_births a1 a2 (ca 26) = some u ∧ fM_births a1 a2 (ma 25) = some v ∧ u.1 = v.1 ∧ RelB ci (lsA [(ca 0), (ca 1), (ca 2), (ca 3), (ca 4), (ca 5), (ca 6), (ca 7), (ca 8), (ca 9), (ca 10), (ca 11), (ca 12), (ca 13), (ca 14), (ca 15), (ca 16), (ca 17), (ca 18), (ca 19), (ca 20), (ca 21), (ca 22), (ca 23), (ca 24), (ca 25), u.2, (ca 27), (ca 28), (ca 29), (ca 30)]) ne mi (lsA [(ma 0), (ma 1), (ma 2), (ma 3), (ma 4), (ma 5), (ma 6), (ma 7), (ma 8), (ma 9), (ma 10), (ma 11), (ma 12), (ma 13), (ma 14), (ma 15), (ma 16), (ma 17), (ma 18), (ma 19), (ma 20), (ma 21), (ma 22), (ma 23), (ma 24), v.2, (ma 26), (ma 27), (ma 28), (ma 29), (ma 30)]) := by
  obtain ⟨hne, hH, hL, hS, hSh, hRg, hTx, hP, hT, hB, hZ⟩ := h
  obtain ⟨r, b2, mb2, e1, e2, e3⟩ := reg_births hRg a1 a2
  exact ⟨_, _, e1, e2, rfl, ⟨hne, hH, hL, hS, hSh, e3, hTx, hP, hT, hB, hZ⟩⟩

theorem pu_cannot (ci : Nat → Int32) (ca : Nat → Nat → Int32) (ne : Nat) (mi : Nat → Int32) (ma : Nat → Nat → Int32) (h : RelB ci ca ne mi ma) (a1 : Int32) (a2 : Int32) : ∃ (u : Int32) (v : Int32), fC_cannot a1 a2 (ci 27) (ca 24) (ca 25) (ca 26) = some u ∧ fM_cannot a1 a2 (mi 4) (ma 23) (ma 24) (ma 25) = some v ∧ u = v ∧ RelB ci ca ne mi ma := by
  obtain ⟨hne, hH, hL, hS, hSh, hRg, hTx, hP, hT, hB, hZ⟩ := h
  obtain ⟨r, e1, e2⟩ := reg_cannot hRg a1 a2
  exact ⟨_, _, e1, e2, rfl, ⟨hne, hH, hL, hS, hSh, hRg, hTx, hP, hT, hB, hZ⟩⟩

theorem pu_leave (ci : Nat → Int32) (ca : Nat → Nat → Int32) (ne : Nat) (mi : Nat → Int32) (ma : Nat → Nat → Int32) (h : RelB ci ca ne mi ma) (a1 : Int32) : ∃ (u : Int32 × (Nat → Int32)) (v : Int32), fC_leave a1 (ci 27) (ca 24) (ca 25) (ca 26) (ca 27) = some u ∧ fM_leave a1 (mi 4) (ma 23) (ma 24) (ma 25) = some v ∧ u.1 = v ∧ RelB ci (lsA [(ca 0), (ca 1), (ca 2), (ca 3), (ca 4), (ca 5), (ca 6), (ca 7), (ca 8), (ca 9), (ca 10), (ca 11), (ca 12), (ca 13), (ca 14), (ca 15), (ca 16), (ca 17), (ca 18), (ca 19), (ca 20), (ca 21), (ca 22), (ca 23), (ca 24), (ca 25), (ca 26), u.2, (ca 28), (ca 29), (ca 30)]) ne mi ma := by
  obtain ⟨hne, hH, hL, hS, hSh, hRg, hTx, hP, hT, hB, hZ⟩ := h
  obtain ⟨r, c2, e1, e2⟩ := reg_leave hRg a1 (ca 27)
  exact ⟨_, _, e1, e2, rfl, ⟨hne, hH, hL, hS, hSh, hRg, hTx, hP, hT, hB, hZ⟩⟩

theorem pu_sheet (ci : Nat → Int32) (ca : Nat → Nat → Int32) (ne : Nat) (mi : Nat → Int32) (ma : Nat → Nat → Int32) (h : RelB ci ca ne mi ma) (a1 : Int32) (a2 : Int32) (a3 : Int32) : ∃ (u : Int32 × Int32 × (Nat → Int32) × (Nat → Int32) × (Nat → Int32)) (v : Int32 × Int32 × (Nat → Int32) × (Nat → Int32) × (Nat → Int32) × (Nat → Int32)), fC_sheet a1 a2 a3 (ci 28) (ca 28) (ca 29) (ca 30) = some u ∧ fM_sheet a1 a2 a3 (mi 5) (ma 26) (ma 27) (ma 28) (ma 29) = some v ∧ u.1 = v.1 ∧ RelB (lsI [(ci 0), (ci 1), (ci 2), (ci 3), (ci 4), (ci 5), (ci 6), (ci 7), (ci 8), (ci 9), (ci 10), (ci 11), (ci 12), (ci 13), (ci 14), (ci 15), (ci 16), (ci 17), (ci 18), (ci 19), (ci 20), (ci 21), (ci 22), (ci 23), (ci 24), (ci 25), (ci 26), (ci 27), u.2.1]) (lsA [(ca 0), (ca 1), (ca 2), (ca 3), (ca 4), (ca 5), (ca 6), (ca 7), (ca 8), (ca 9), (ca 10), (ca 11), (ca 12), (ca 13), (ca 14), (ca 15), (ca 16), (ca 17), (ca 18), (ca 19), (ca 20), (ca 21), (ca 22), (ca 23), (ca 24), (ca 25), (ca 26), (ca 27), u.2.2.1, u.2.2.2.1, u.2.2.2.2]) ne (lsI [(mi 0), (mi 1), (mi 2), (mi 3), (mi 4), v.2.1]) (lsA [(ma 0), (ma 1), (ma 2), (ma 3), (ma 4), (ma 5), (ma 6), (ma 7), (ma 8), (ma 9), (ma 10), (ma 11), (ma 12), (ma 13), (ma 14), (ma 15), (ma 16), (ma 17), (ma 18), (ma 19), (ma 20), (ma 21), (ma 22), (ma 23), (ma 24), (ma 25), v.2.2.1, v.2.2.2.1, v.2.2.2.2.1, v.2.2.2.2.2, (ma 30)]) := by
  obtain ⟨hne, hH, hL, hS, hSh, hRg, hTx, hP, hT, hB, hZ⟩ := h
  obtain ⟨r, l2, i2, f2, s2, t2, mf2, ms2, mi2, e1, e2, e3⟩ := she_sheet hSh a1 a2 a3
  exact ⟨_, _, e1, e2, rfl, ⟨hne, hH, hL, hS, e3, hRg, hTx, hP, hT, hB, hZ⟩⟩

theorem pu_lose (ci : Nat → Int32) (ca : Nat → Nat → Int32) (ne : Nat) (mi : Nat → Int32) (ma : Nat → Nat → Int32) (h : RelB ci ca ne mi ma) (a1 : Int32) : ∃ (u : Int32 × Int32 × (Nat → Int32)) (v : Int32 × Int32 × (Nat → Int32)), fC_lose a1 (ci 28) (ca 29) (ca 30) = some u ∧ fM_lose a1 (mi 5) (ma 26) (ma 28) = some v ∧ u.1 = v.1 ∧ RelB (lsI [(ci 0), (ci 1), (ci 2), (ci 3), (ci 4), (ci 5), (ci 6), (ci 7), (ci 8), (ci 9), (ci 10), (ci 11), (ci 12), (ci 13), (ci 14), (ci 15), (ci 16), (ci 17), (ci 18), (ci 19), (ci 20), (ci 21), (ci 22), (ci 23), (ci 24), (ci 25), (ci 26), (ci 27), u.2.1]) (lsA [(ca 0), (ca 1), (ca 2), (ca 3), (ca 4), (ca 5), (ca 6), (ca 7), (ca 8), (ca 9), (ca 10), (ca 11), (ca 12), (ca 13), (ca 14), (ca 15), (ca 16), (ca 17), (ca 18), (ca 19), (ca 20), (ca 21), (ca 22), (ca 23), (ca 24), (ca 25), (ca 26), (ca 27), (ca 28), u.2.2, (ca 30)]) ne (lsI [(mi 0), (mi 1), (mi 2), (mi 3), (mi 4), v.2.1]) (lsA [(ma 0), (ma 1), (ma 2), (ma 3), (ma 4), (ma 5), (ma 6), (ma 7), (ma 8), (ma 9), (ma 10), (ma 11), (ma 12), (ma 13), (ma 14), (ma 15), (ma 16), (ma 17), (ma 18), (ma 19), (ma 20), (ma 21), (ma 22), (ma 23), (ma 24), (ma 25), v.2.2, (ma 27), (ma 28), (ma 29), (ma 30)]) := by
  obtain ⟨hne, hH, hL, hS, hSh, hRg, hTx, hP, hT, hB, hZ⟩ := h
  obtain ⟨r, l2, f2, t2, e1, e2, e3⟩ := she_lose hSh a1
  exact ⟨_, _, e1, e2, rfl, ⟨hne, hH, hL, hS, e3, hRg, hTx, hP, hT, hB, hZ⟩⟩

theorem pu_put (ci : Nat → Int32) (ca : Nat → Nat → Int32) (ne : Nat) (mi : Nat → Int32) (ma : Nat → Nat → Int32) (h : RelB ci ca ne mi ma) (a1 : Int32) (a2 : Int32) (a3 : Int32) (a4 : Int32) : ∃ (u : Int32 × Int32 × (Nat → Int32)) (v : Int32 × Int32 × (Nat → Int32)), fC_put a1 a2 a3 a4 (ci 28) (ca 28) (ca 29) (ca 30) = some u ∧ fM_put a1 a2 a3 a4 (mi 5) (ma 26) (ma 27) (ma 28) (ma 29) = some v ∧ u.1 = v.1 ∧ RelB (lsI [(ci 0), (ci 1), (ci 2), (ci 3), (ci 4), (ci 5), (ci 6), (ci 7), (ci 8), (ci 9), (ci 10), (ci 11), (ci 12), (ci 13), (ci 14), (ci 15), (ci 16), (ci 17), (ci 18), (ci 19), (ci 20), (ci 21), (ci 22), (ci 23), (ci 24), (ci 25), (ci 26), (ci 27), u.2.1]) (lsA [(ca 0), (ca 1), (ca 2), (ca 3), (ca 4), (ca 5), (ca 6), (ca 7), (ca 8), (ca 9), (ca 10), (ca 11), (ca 12), (ca 13), (ca 14), (ca 15), (ca 16), (ca 17), (ca 18), (ca 19), (ca 20), (ca 21), (ca 22), (ca 23), (ca 24), (ca 25), (ca 26), (ca 27), u.2.2, (ca 29), (ca 30)]) ne (lsI [(mi 0), (mi 1), (mi 2), (mi 3), (mi 4), v.2.1]) (lsA [(ma 0), (ma 1), (ma 2), (ma 3), (ma 4), (ma 5), (ma 6), (ma 7), (ma 8), (ma 9), (ma 10), (ma 11), (ma 12), (ma 13), (ma 14), (ma 15), (ma 16), (ma 17), (ma 18), (ma 19), (ma 20), (ma 21), (ma 22), (ma 23), (ma 24), (ma 25), (ma 26), (ma 27), (ma 28), v.2.2, (ma 30)]) := by
  obtain ⟨hne, hH, hL, hS, hSh, hRg, hTx, hP, hT, hB, hZ⟩ := h
  obtain ⟨r, l2, i2, m2, e1, e2, e3⟩ := she_put hSh a1 a2 a3 a4
  exact ⟨_, _, e1, e2, rfl, ⟨hne, hH, hL, hS, e3, hRg, hTx, hP, hT, hB, hZ⟩⟩

theorem pu_get (ci : Nat → Int32) (ca : Nat → Nat → Int32) (ne : Nat) (mi : Nat → Int32) (ma : Nat → Nat → Int32) (h : RelB ci ca ne mi ma) (a1 : Int32) (a2 : Int32) (a3 : Int32) : ∃ (u : Int32 × Int32) (v : Int32 × Int32), fC_get a1 a2 a3 (ci 28) (ca 28) (ca 29) (ca 30) = some u ∧ fM_get a1 a2 a3 (mi 5) (ma 26) (ma 27) (ma 28) (ma 29) = some v ∧ u.1 = v.1 ∧ RelB (lsI [(ci 0), (ci 1), (ci 2), (ci 3), (ci 4), (ci 5), (ci 6), (ci 7), (ci 8), (ci 9), (ci 10), (ci 11), (ci 12), (ci 13), (ci 14), (ci 15), (ci 16), (ci 17), (ci 18), (ci 19), (ci 20), (ci 21), (ci 22), (ci 23), (ci 24), (ci 25), (ci 26), (ci 27), u.2]) ca ne (lsI [(mi 0), (mi 1), (mi 2), (mi 3), (mi 4), v.2]) ma := by
  obtain ⟨hne, hH, hL, hS, hSh, hRg, hTx, hP, hT, hB, hZ⟩ := h
  obtain ⟨r, l2, e1, e2, e3⟩ := she_get hSh a1 a2 a3
  exact ⟨_, _, e1, e2, rfl, ⟨hne, hH, hL, hS, e3, hRg, hTx, hP, hT, hB, hZ⟩⟩

theorem pu_copy (ci : Nat → Int32) (ca : Nat → Nat → Int32) (ne : Nat) (mi : Nat → Int32) (ma : Nat → Nat → Int32) (h : RelB ci ca ne mi ma) (a1 : Int32) (a2 : Int32) (a3 : Int32) (a4 : Int32) (a5 : Int32) : ∃ (u : Int32 × Int32 × (Nat → Int32)) (v : Int32 × Int32 × (Nat → Int32) × (Nat → Int32)), fC_copy a1 a2 a3 a4 a5 (ci 28) (ca 28) (ca 29) (ca 30) = some u ∧ fM_copy a1 a2 a3 a4 a5 (mi 5) (ma 26) (ma 27) (ma 28) (ma 29) (ma 30) = some v ∧ u.1 = v.1 ∧ RelB (lsI [(ci 0), (ci 1), (ci 2), (ci 3), (ci 4), (ci 5), (ci 6), (ci 7), (ci 8), (ci 9), (ci 10), (ci 11), (ci 12), (ci 13), (ci 14), (ci 15), (ci 16), (ci 17), (ci 18), (ci 19), (ci 20), (ci 21), (ci 22), (ci 23), (ci 24), (ci 25), (ci 26), (ci 27), u.2.1]) (lsA [(ca 0), (ca 1), (ca 2), (ca 3), (ca 4), (ca 5), (ca 6), (ca 7), (ca 8), (ca 9), (ca 10), (ca 11), (ca 12), (ca 13), (ca 14), (ca 15), (ca 16), (ca 17), (ca 18), (ca 19), (ca 20), (ca 21), (ca 22), (ca 23), (ca 24), (ca 25), (ca 26), (ca 27), u.2.2, (ca 29), (ca 30)]) ne (lsI [(mi 0), (mi 1), (mi 2), (mi 3), (mi 4), v.2.1]) (lsA [(ma 0), (ma 1), (ma 2), (ma 3), (ma 4), (ma 5), (ma 6), (ma 7), (ma 8), (ma 9), (ma 10), (ma 11), (ma 12), (ma 13), (ma 14), (ma 15), (ma 16), (ma 17), (ma 18), (ma 19), (ma 20), (ma 21), (ma 22), (ma 23), (ma 24), (ma 25), (ma 26), (ma 27), (ma 28), v.2.2.1, v.2.2.2]) := by
  obtain ⟨hne, hH, hL, hS, hSh, hRg, hTx, hP, hT, hB, hZ⟩ := h
  obtain ⟨r, l2, i2, m2, v2, e1, e2, e3⟩ := she_copy hSh a1 a2 a3 a4 a5 (ma 30)
  exact ⟨_, _, e1, e2, rfl, ⟨hne, hH, hL, hS, e3, hRg, hTx, hP, hT, hB, hZ⟩⟩

theorem pu_fault (ci : Nat → Int32) (ca : Nat → Nat → Int32) (ne : Nat) (mi : Nat → Int32) (ma : Nat → Nat → Int32) (h : RelB ci ca ne mi ma) : ∃ (u : Int32) (v : Int32 × Int32 × (Nat → Int32) × (Nat → Int32) × (Nat → Int32) × (Nat → Int32) × (Nat → Int32) × (Nat → Int32) × (Nat → Int32) × (Nat → Int32) × (Nat → Int32)), fC_fault (ci 9) = some u ∧ fM_fault (mi 0) (mi 1) (ma 0) (ma 1) (ma 2) (ma 3) (ma 4) (ma 5) (ma 6) (ma 7) (ma 8) (ma 9) = some v ∧ u = v.1 ∧ RelB ci ca ne (lsI [(mi 0), v.2.1, (mi 2), (mi 3), (mi 4), (mi 5)]) (lsA [(ma 0), v.2.2.1, v.2.2.2.1, v.2.2.2.2.1, v.2.2.2.2.2.1, v.2.2.2.2.2.2.1, v.2.2.2.2.2.2.2.1, v.2.2.2.2.2.2.2.2.1, v.2.2.2.2.2.2.2.2.2.1, v.2.2.2.2.2.2.2.2.2.2, (ma 10), (ma 11), (ma 12), (ma 13), (ma 14), (ma 15), (ma 16), (ma 17), (ma 18), (ma 19), (ma 20), (ma 21), (ma 22), (ma 23), (ma 24), (ma 25), (ma 26), (ma 27), (ma 28), (ma 29), (ma 30)]) := by
  obtain ⟨hne, hH, hL, hS, hSh, hRg, hTx, hP, hT, hB, hZ⟩ := h
  obtain ⟨K1, L1, C1, H1, R1, M1, AO1, LI1, MI1, p1, p2⟩ := hP (mi 1) (ma 1) (ma 2) (ma 3) (ma 4) (ma 5) (ma 6) (ma 7) (ma 8) (ma 9)
  refine ⟨ci 9, (ci 9, ci 6, K1, L1, C1, H1, R1, M1, AO1, LI1, MI1), rfl, ?_, rfl, ⟨hne, hH, hL, hS, hSh, hRg, hTx, hP, hT, hB, hZ⟩⟩
  unfold fM_fault
  rw [p1, bd_some]

theorem pu_person (ci : Nat → Int32) (ca : Nat → Nat → Int32) (ne : Nat) (mi : Nat → Int32) (ma : Nat → Nat → Int32) (h : RelB ci ca ne mi ma) (a1 : Int32) (a2 : Int32) : ∃ (u : Int32) (v : Int32 × Int32 × (Nat → Int32) × (Nat → Int32) × (Nat → Int32) × (Nat → Int32) × (Nat → Int32) × (Nat → Int32) × (Nat → Int32) × (Nat → Int32) × (Nat → Int32)), fC_person a1 a2 (ci 6) (ci 7) (ci 8) (ca 1) (ca 2) (ca 3) = some u ∧ fM_person a1 a2 (mi 0) (mi 1) (ma 0) (ma 1) (ma 2) (ma 3) (ma 4) (ma 5) (ma 6) (ma 7) (ma 8) (ma 9) = some v ∧ u = v.1 ∧ RelB ci ca ne (lsI [(mi 0), v.2.1, (mi 2), (mi 3), (mi 4), (mi 5)]) (lsA [(ma 0), v.2.2.1, v.2.2.2.1, v.2.2.2.2.1, v.2.2.2.2.2.1, v.2.2.2.2.2.2.1, v.2.2.2.2.2.2.2.1, v.2.2.2.2.2.2.2.2.1, v.2.2.2.2.2.2.2.2.2.1, v.2.2.2.2.2.2.2.2.2.2, (ma 10), (ma 11), (ma 12), (ma 13), (ma 14), (ma 15), (ma 16), (ma 17), (ma 18), (ma 19), (ma 20), (ma 21), (ma 22), (ma 23), (ma 24), (ma 25), (ma 26), (ma 27), (ma 28), (ma 29), (ma 30)]) := by
  obtain ⟨hne, hH, hL, hS, hSh, hRg, hTx, hP, hT, hB, hZ⟩ := h
  have z1 : ¬ (1 : Int32) = 0 := by decide
  obtain ⟨K1, L1, C1, H1, R1, M1, AO1, LI1, MI1, n, n1, n2, n3, cs⟩ := isP hP a1 (mi 1) (ma 1) (ma 2) (ma 3) (ma 4) (ma 5) (ma 6) (ma 7) (ma 8) (ma 9)
  unfold fC_person fM_person
  rcases cs with ⟨p, hp, ea, e1, e2⟩ | ⟨e1, e2⟩
  · rw [e1, e2, bd_some, bd_some]
    dsimp only
    rw [if_neg z1, if_neg z1, M_in_eq, bd_some]
    obtain ⟨n', sc, mn, hd, sl, rg, kd, lt, q1, q2, q3, q4, q5, q6, q7⟩ := n3
    have en := nIn q4.1 n2 (q1.symm.trans n1)
    subst en
    obtain ⟨r1, r2, r3, r4⟩ := q6 p hp
    obtain ⟨t1, t2, t3⟩ := q7
    obtain ⟨t4, t5, t6, t7⟩ := t3 p hp
    have c20 : ∀ {α : Type} (x : Option α), ck 20 (nI p) x = x := fun x => ck_nI (by omega) (by decide)
    have clp : (nI p).toNatClampNeg = p := nI_clamp (by omega)
    have scl : sc < 2 ^ 31 := Nat.lt_of_lt_of_le q4.2.1 (Nat.pow_le_pow_right (by decide) (by omega))
    have mnl : mn < 2 ^ 31 := Nat.lt_of_lt_of_le q4.2.2.1 (Nat.pow_le_pow_right (by decide) (by omega))
    have go : ∀ j : Nat, j ≤ 4 → a2 = nI j → ∃ r : Int32, (if a2 = 0 then ck 20 a1 (some (ca 1 a1.toNatClampNeg)) else (if a2 = 1 then ck 20 a1 (some (ca 2 a1.toNatClampNeg)) else (if a2 = 2 then some ((ci 7 >>> (a1 &&& 31)) &&& 1) else (if a2 = 3 then ck 20 a1 (some (ca 3 a1.toNatClampNeg)) else (if a2 = 4 then some ((ci 8 >>> (a1 &&& 31)) &&& 1) else some (-2)))))) = some r ∧ fM_personOf a1 a2 K1 L1 C1 H1 M1 = some r := by
      intro j hj ej
      rw [ea, ej, q2 (by omega), q3, bitN scl (by omega), bitN mnl (by omega)]
      unfold fM_personOf
      simp only [c20, clp, r1, r3, r4, t4, t5, t6, t7, t1 p hp]
      rcases (show j = 0 ∨ j = 1 ∨ j = 2 ∨ j = 3 ∨ j = 4 by omega) with rfl | rfl | rfl | rfl | rfl
      · exact ⟨_, if_pos rfl, if_pos rfl⟩
      · refine ⟨_, (if_neg (by decide)).trans (if_pos rfl), (if_neg (by decide)).trans (if_pos rfl)⟩
      · refine ⟨_, (if_neg (by decide)).trans ((if_neg (by decide)).trans (if_pos rfl)), (if_neg (by decide)).trans ((if_neg (by decide)).trans (if_pos rfl))⟩
      · refine ⟨_, (if_neg (by decide)).trans ((if_neg (by decide)).trans ((if_neg (by decide)).trans (if_pos rfl))), (if_neg (by decide)).trans ((if_neg (by decide)).trans ((if_neg (by decide)).trans (if_pos rfl)))⟩
      · refine ⟨_, (if_neg (by decide)).trans ((if_neg (by decide)).trans ((if_neg (by decide)).trans ((if_neg (by decide)).trans (if_pos rfl)))), (if_neg (by decide)).trans ((if_neg (by decide)).trans ((if_neg (by decide)).trans (if_neg (by decide))))⟩
    by_cases c : 0 ≤ a2 ∧ a2 ≤ 4
    · rw [if_pos c, if_neg z1]
      obtain ⟨j, _, j2, j3⟩ := nI_mid (a := 0) (b := 4) (by decide) c.1 c.2 (by decide)
      obtain ⟨r, g1, g2⟩ := go j j2 j3
      rw [g1, g2, bd_some]
      exact ⟨_, _, rfl, rfl, rfl, ⟨hne, hH, hL, hS, hSh, hRg, hTx, hP, hT, hB, hZ⟩⟩
    · rw [if_neg c, if_pos rfl]
      have no : ∀ j : Nat, j ≤ 4 → ¬ a2 = nI j := fun j hj e => c ⟨by rw [e]; exact nI_le (a := 0) (Nat.zero_le j) (by omega), by rw [e]; exact nI_le (b := 4) hj (by decide)⟩
      rw [if_neg (show ¬ a2 = 0 from no 0 (by omega)), if_neg (show ¬ a2 = 1 from no 1 (by omega)), if_neg (show ¬ a2 = 2 from no 2 (by omega)), if_neg (show ¬ a2 = 3 from no 3 (by omega)), if_neg (show ¬ a2 = 4 from no 4 (by omega))]
      exact ⟨_, _, rfl, rfl, rfl, ⟨hne, hH, hL, hS, hSh, hRg, hTx, hP, hT, hB, hZ⟩⟩
  · rw [e1, e2, bd_some, bd_some]
    dsimp only
    rw [if_pos rfl, if_pos rfl]
    exact ⟨_, _, rfl, rfl, rfl, ⟨hne, hH, hL, hS, hSh, hRg, hTx, hP, hT, hB, hZ⟩⟩
