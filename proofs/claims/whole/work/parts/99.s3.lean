/-! ===== reading a sheet ===== -/
theorem o_le {x y : Int32} (h : x < y) : x ≤ y := by rw [Int32.lt_iff_toInt_lt] at h; rw [Int32.le_iff_toInt_le]; omega
theorem read_go {s n : Nat} (hs : s < 4) (hn : n ≤ 60) {la mf : Int32} {it si msi mit : Nat → Int32} (h1 : si s = nI n) (h2 : msi s = nI n) (h3 : ∀ i, i < n → it (60 * s + i) = mit (60 * s + i)) : ∀ (m v : Nat) (sz : Int32) (who tm : Nat → Int32) (mh : Int32) (mw mt : Nat → Int32), v + m = 30 → RHear sz who tm mh mw mt → ∀ f g, m < f → m < g → ∃ (r sz2 : Int32) (who2 tm2 mw2 mt2 : Nat → Int32), fC_read_34 (nI s) la it si f (nI v) (nI v) sz who tm = some (r, sz2, who2, tm2, la) ∧ fM_read_27 (nI s) mf msi mit g (nI v) mh mw mt = some (r, sz2, mf, mw2, mt2) ∧ RHear sz2 who2 tm2 sz2 mw2 mt2 := by
  have c4 : ∀ {α : Type} (x : Option α), ck 4 (nI s) x = x := fun x => ck_nI hs (by decide)
  have cls : (nI s).toNatClampNeg = s := nI_clamp (by omega)
  have i2 : ∀ v : Nat, (2 : Int32) * nI v + 1 = nI (2 * v + 1) := fun v => by
    rw [show (2 : Int32) = nI 2 from rfl, pk_mul, nI_1]
  have i3 : ∀ v : Nat, (2 : Int32) * nI v = nI (2 * v) := fun v => pk_mul 2 v
  have i4 : ∀ v : Nat, (60 : Int32) * nI s + 2 * nI v = nI (60 * s + 2 * v) := fun v => by
    rw [i3, show (60 : Int32) = nI 60 from rfl, pk_mul, nI_add]
  intro m
  induction m with
  | zero =>
    intro v sz who tm mh mw mt hv hH f g hf hg
    obtain ⟨f, rfl⟩ : ∃ f', f = f' + 1 := ⟨f - 1, by omega⟩
    obtain ⟨g, rfl⟩ : ∃ g', g = g' + 1 := ⟨g - 1, by omega⟩
    obtain ⟨k, q1, q2, q3, q4⟩ := hH
    refine ⟨nI v, sz, who, tm, mw, mt, ?_, ?_, ⟨k, q1, q2, q2, q4⟩⟩
    · show fC_read_34_b _ _ _ _ _ _ _ _ _ _ = _
      unfold fC_read_34_b
      rw [c4, cls, h1, i2, if_pos (nI_le (show n ≤ 2 * v + 1 by omega) (by omega))]
    · show fM_read_27_b _ _ _ _ _ _ _ _ _ = _
      unfold fM_read_27_b
      rw [c4, cls, h2, i2, if_pos (nI_le (show n ≤ 2 * v + 1 by omega) (by omega)), q3, q2]
  | succ m ih =>
    intro v sz who tm mh mw mt hv hH f g hf hg
    obtain ⟨f, rfl⟩ : ∃ f', f = f' + 1 := ⟨f - 1, by omega⟩
    obtain ⟨g, rfl⟩ : ∃ g', g = g' + 1 := ⟨g - 1, by omega⟩
    by_cases c : n ≤ 2 * v + 1
    · obtain ⟨k, q1, q2, q3, q4⟩ := hH
      refine ⟨nI v, sz, who, tm, mw, mt, ?_, ?_, ⟨k, q1, q2, q2, q4⟩⟩
      · show fC_read_34_b _ _ _ _ _ _ _ _ _ _ = _
        unfold fC_read_34_b
        rw [c4, cls, h1, i2, if_pos (nI_le c (by omega))]
      · show fM_read_27_b _ _ _ _ _ _ _ _ _ = _
        unfold fM_read_27_b
        rw [c4, cls, h2, i2, if_pos (nI_le c (by omega)), q3, q2]
    · obtain ⟨r, sz2, who2, tm2, mw2, mt2, t1, t2, t3, t4⟩ := hear_take hH (it (60 * s + 2 * v)) (it (60 * s + (2 * v + 1)))
      have eM : fM_read_27 (nI s) mf msi mit (g + 1) (nI v) mh mw mt = (if r ≤ 0 then some (nI v, sz2, mf, mw2, mt2) else fM_read_27 (nI s) mf msi mit g (nI (v + 1)) sz2 mw2 mt2) := by
        show fM_read_27_b _ _ _ _ _ _ _ _ _ = _
        unfold fM_read_27_b
        rw [c4, cls, h2, i2, if_neg (nI_ge (show 2 * v + 1 < n by omega) (by omega)), i4, nI_1, nI_1, ck_nI (by omega) (by decide), ck_nI (by omega) (by decide), nI_clamp (by omega), nI_clamp (by omega), ← h3 (2 * v) (by omega), show 60 * s + 2 * v + 1 = 60 * s + (2 * v + 1) by omega, ← h3 (2 * v + 1) (by omega), t2, bd_some]
      have eC : fC_read_34 (nI s) la it si (f + 1) (nI v) (nI v) sz who tm = (if 0 ≤ r then fC_read_34 (nI s) la it si f (nI (v + 1)) (nI (v + 1)) sz2 who2 tm2 else some (nI v, sz2, who2, tm2, la)) := by
        show fC_read_34_b _ _ _ _ _ _ _ _ _ _ = _
        unfold fC_read_34_b
        rw [c4, cls, h1, i2, if_neg (nI_ge (show 2 * v + 1 < n by omega) (by omega)), i3, L_itemAt_eq hs (by omega), bd_some, L_itemAt_eq hs (by omega), bd_some, t1, bd_some, nI_1]
      rw [eC, eM]
      rcases t4 with t4 | t4
      · rw [if_neg (o_ltn t4), if_pos (o_le t4)]
        exact ⟨_, _, _, _, _, _, rfl, rfl, t3⟩
      · have r0 : 0 ≤ r := o_le t4
        rw [if_pos r0, if_neg (o_ltn t4)]
        exact ih (v + 1) sz2 who2 tm2 sz2 mw2 mt2 (by omega) t3 f g (by omega) (by omega)
theorem pu_read (ci : Nat → Int32) (ca : Nat → Nat → Int32) (ne : Nat) (mi : Nat → Int32) (ma : Nat → Nat → Int32) (h : RelB ci ca ne mi ma) (a1 : Int32) : ∃ (u : Int32 × Int32 × (Nat → Int32) × (Nat → Int32) × Int32) (v : Int32 × Int32 × Int32 × (Nat → Int32) × (Nat → Int32)), fC_read a1 (ci 26) (ca 22) (ca 23) (ci 28) (ca 28) (ca 29) (ca 30) = some u ∧ fM_read a1 (mi 3) (mi 5) (ma 21) (ma 22) (ma 26) (ma 28) (ma 29) = some v ∧ u.1 = v.1 ∧ RelB (lsI [(ci 0), (ci 1), (ci 2), (ci 3), (ci 4), (ci 5), (ci 6), (ci 7), (ci 8), (ci 9), (ci 10), (ci 11), (ci 12), (ci 13), (ci 14), (ci 15), (ci 16), (ci 17), (ci 18), (ci 19), (ci 20), (ci 21), (ci 22), (ci 23), (ci 24), (ci 25), u.2.1, (ci 27), u.2.2.2.2]) (lsA [(ca 0), (ca 1), (ca 2), (ca 3), (ca 4), (ca 5), (ca 6), (ca 7), (ca 8), (ca 9), (ca 10), (ca 11), (ca 12), (ca 13), (ca 14), (ca 15), (ca 16), (ca 17), (ca 18), (ca 19), (ca 20), (ca 21), u.2.2.1, u.2.2.2.1, (ca 24), (ca 25), (ca 26), (ca 27), (ca 28), (ca 29), (ca 30)]) ne (lsI [(mi 0), (mi 1), (mi 2), v.2.1, (mi 4), v.2.2.1]) (lsA [(ma 0), (ma 1), (ma 2), (ma 3), (ma 4), (ma 5), (ma 6), (ma 7), (ma 8), (ma 9), (ma 10), (ma 11), (ma 12), (ma 13), (ma 14), (ma 15), (ma 16), (ma 17), (ma 18), (ma 19), (ma 20), v.2.2.2.1, v.2.2.2.2, (ma 23), (ma 24), (ma 25), (ma 26), (ma 27), (ma 28), (ma 29), (ma 30)]) := by
  obtain ⟨hne, hH, hL, hS, hSh, hRg, hTx, hP, hT, hB, hZ⟩ := h
  have z1 : ¬ (1 : Int32) = 0 := by decide
  unfold fC_read fM_read
  rcases plc a1 with ⟨s, hs, rfl, e1, e2⟩ | ⟨e1, e2⟩
  · rw [e1, e2, bd_some, bd_some, if_neg z1, if_neg z1]
    obtain ⟨n, n1, n2, n3, cs⟩ := hSh.2 s hs
    have cls : (nI s).toNatClampNeg = s := nI_clamp (by omega)
    unfold fL_isLost
    rw [ck_nI hs (by decide), ck_nI hs (by decide), cls]
    rcases cs with ⟨f1, f2⟩ | ⟨f, f1, f2, f3, f4, f5⟩
    · rw [if_pos f1, bd_some, if_neg z1, L_finding_eq, bd_some, if_pos f2, M_meets_eq, bd_some]
      exact ⟨_, _, rfl, rfl, rfl, ⟨hne, hH, hL, hS, RShe_la hSh 1, hRg, hTx, hP, hT, hB, hZ⟩⟩
    · rw [f2, if_neg (nI_ne_m1 (by omega)), bd_some, if_pos rfl, if_neg (show ¬ ma 26 s = 0 by rw [f4]; exact z1)]
      obtain ⟨r, sz2, who2, tm2, mw2, mt2, t1, t2, t3⟩ := read_go (la := ci 28) (mf := mi 5) hs n1 n2 n3 f5 30 0 (ci 26) (ca 22) (ca 23) (mi 3) (ma 21) (ma 22) (by omega) hH FU FU (by rw [FU_eq]; decide) (by rw [FU_eq]; decide)
      exact ⟨_, _, t1, t2, rfl, ⟨hne, t3, hL, hS, hSh, hRg, hTx, hP, hT, hB, hZ⟩⟩
  · rw [e1, e2, bd_some, bd_some, if_pos rfl, if_pos rfl]
    exact ⟨_, _, rfl, rfl, rfl, ⟨hne, hH, hL, hS, hSh, hRg, hTx, hP, hT, hB, hZ⟩⟩
