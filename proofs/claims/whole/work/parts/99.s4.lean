/-! ===== writing a sheet ===== -/
theorem RShe.two {la : Int32} {it fo si : Nat → Int32} {mf : Int32} {th mfo msi mit : Nat → Int32} (h : RShe la it fo si mf th mfo msi mit) (s j : Nat) (x : Int32) : RShe la (upd it (60 * s + j) x) fo si mf th mfo msi (upd mit (60 * s + j) x) := by
  refine ⟨h.1, fun t ht => ?_⟩
  obtain ⟨n, n1, n2, n3, cs⟩ := h.2 t ht
  refine ⟨n, n1, n2, n3, ?_⟩
  rcases cs with c | ⟨f, f1, f2, f3, f4, f5⟩
  · exact Or.inl c
  · refine Or.inr ⟨f, f1, f2, f3, f4, fun i hi => ?_⟩
    by_cases e : 60 * t + i = 60 * s + j
    · rw [e, pk_us, pk_us]
    · rw [pk_un e, pk_un e]; exact f5 i hi
theorem write_go {s n z k : Nat} (hs : s < 4) (hz : z ≤ 60) (hn : n ≤ 20) (hk : k = if n < z then n else z) {la mf : Int32} {fo si th mfo msi first fm fb : Nat → Int32} (h2 : msi s = nI z) (hf : fo s = mfo s) (hF : ∀ p, p < n → fM_feltBy (nI p) 0 fm fb = some (first p)) (ran sl ld unr : Int32) (due busy felt lost : Nat → Int32) (size : Int32) (ne : Nat) (ent : Nat → Int32) (K L C H R M AO LI MI com bt lb : Nat → Int32) : ∀ (m v : Nat) (it mit : Nat → Int32), v + m = k → RShe la it fo si mf th mfo msi mit → ∀ f g, m < f → m < g → ∃ it2 mit2 : Nat → Int32, fC_write_61 (nI s) (nI k) ran sl ld unr due busy felt lost first size ne ent la fo f (nI v) it = some (nI k, ran, sl, ld, unr, due, busy, felt, lost, first, size, ne, ent, la, it2) ∧ fM_write_31 (nI s) (nI n) mf K L C H R M AO LI MI com bt fm fb lb mfo msi g (nI v) mit = some (nI k, nI n, mf, K, L, C, H, R, M, AO, LI, MI, com, bt, fm, fb, lb, mit2) ∧ RShe la it2 fo si mf th mfo msi mit2 := by
  have c4 : ∀ {α : Type} (x : Option α), ck 4 (nI s) x = x := fun x => ck_nI hs (by decide)
  have cls : (nI s).toNatClampNeg = s := nI_clamp (by omega)
  have kn : k ≤ n ∧ k ≤ z ∧ (k = n ∨ k = z) := by rw [hk]; split <;> omega
  intro m
  induction m with
  | zero =>
    intro v it mit hv hR f g hf hg
    obtain ⟨f, rfl⟩ : ∃ f', f = f' + 1 := ⟨f - 1, by omega⟩
    obtain ⟨g, rfl⟩ : ∃ g', g = g' + 1 := ⟨g - 1, by omega⟩
    have e : v = k := by omega
    subst e
    refine ⟨it, mit, ?_, ?_, hR⟩
    · show fC_write_61_b _ _ _ _ _ _ _ _ _ _ _ _ _ _ _ _ _ _ _ = _
      unfold fC_write_61_b
      rw [if_pos (nI_le (Nat.le_refl v) (by omega))]
    · show fM_write_31_b _ _ _ _ _ _ _ _ _ _ _ _ _ _ _ _ _ _ _ _ _ _ = _
      unfold fM_write_31_b
      rw [c4, cls, h2]
      rcases kn.2.2 with q | q
      · by_cases c : z ≤ v
        · rw [if_pos (nI_le c (by omega))]
        · rw [if_neg (nI_ge (by omega) (by omega)), if_pos (nI_le (show n ≤ v by omega) (by omega))]
      · rw [if_pos (nI_le (show z ≤ v by omega) (by omega))]
  | succ m ih =>
    intro v it mit hv hR f g hf' hg
    obtain ⟨f, rfl⟩ : ∃ f', f = f' + 1 := ⟨f - 1, by omega⟩
    obtain ⟨g, rfl⟩ : ∃ g', g = g' + 1 := ⟨g - 1, by omega⟩
    obtain ⟨it2, mit2, r1, r2, r3⟩ := ih (v + 1) _ _ (by omega) (hR.two s v (cutF (fo s) (first v))) f g (by omega) (by omega)
    refine ⟨it2, mit2, ?_, ?_, r3⟩
    · show fC_write_61_b _ _ _ _ _ _ _ _ _ _ _ _ _ _ _ _ _ _ _ = _
      unfold fC_write_61_b
      rw [if_neg (nI_ge (show v < k by omega) (by omega)), ck_nI (by omega) (by decide), nI_clamp (by omega), L_store_eq hs (by omega), bd_some, nI_1]
      exact r1
    · show fM_write_31_b _ _ _ _ _ _ _ _ _ _ _ _ _ _ _ _ _ _ _ _ _ _ = _
      unfold fM_write_31_b
      rw [c4, cls, h2, if_neg (nI_ge (show v < z by omega) (by omega)), if_neg (nI_ge (show v < n by omega) (by omega)), hF v (by omega), bd_some, M_keep_eq hs (by omega), bd_some, nI_1, ← hf]
      exact r2
theorem pu_write (ci : Nat → Int32) (ca : Nat → Nat → Int32) (ne : Nat) (mi : Nat → Int32) (ma : Nat → Nat → Int32) (h : RelB ci ca ne mi ma) (a1 : Int32) : ∃ (u : Int32 × Int32 × Int32 × Int32 × Int32 × (Nat → Int32) × (Nat → Int32) × (Nat → Int32) × (Nat → Int32) × (Nat → Int32) × Int32 × Nat × (Nat → Int32) × Int32 × (Nat → Int32)) (v : Int32 × Int32 × Int32 × (Nat → Int32) × (Nat → Int32) × (Nat → Int32) × (Nat → Int32) × (Nat → Int32) × (Nat → Int32) × (Nat → Int32) × (Nat → Int32) × (Nat → Int32) × (Nat → Int32) × (Nat → Int32) × (Nat → Int32) × (Nat → Int32) × (Nat → Int32) × (Nat → Int32)), fC_write a1 (ci 0) (ci 1) (ci 2) (ci 3) (ci 6) (ca 1) (ca 2) (ca 3) (ca 4) (ci 10) (ci 11) (ci 12) (ca 7) (ca 8) (ca 9) (ca 10) (ca 11) (ci 13) ne (ca 12) (ci 28) (ca 28) (ca 29) (ca 30) = some u ∧ fM_write a1 (mi 0) (mi 1) (mi 5) (ma 0) (ma 1) (ma 2) (ma 3) (ma 4) (ma 5) (ma 6) (ma 7) (ma 8) (ma 9) (ma 10) (ma 12) (ma 13) (ma 14) (ma 15) (ma 16) (ma 26) (ma 27) (ma 28) (ma 29) = some v ∧ u.1 = v.1 ∧ ne ≤ u.2.2.2.2.2.2.2.2.2.2.2.1 ∧ RelB (lsI [(ci 0), (ci 1), (ci 2), u.2.1, (ci 4), (ci 5), (ci 6), (ci 7), (ci 8), (ci 9), u.2.2.1, u.2.2.2.1, u.2.2.2.2.1, u.2.2.2.2.2.2.2.2.2.2.1, (ci 14), (ci 15), (ci 16), (ci 17), (ci 18), (ci 19), (ci 20), (ci 21), (ci 22), (ci 23), (ci 24), (ci 25), (ci 26), (ci 27), u.2.2.2.2.2.2.2.2.2.2.2.2.2.1]) (lsA [(ca 0), (ca 1), (ca 2), (ca 3), (ca 4), (ca 5), (ca 6), u.2.2.2.2.2.1, u.2.2.2.2.2.2.1, u.2.2.2.2.2.2.2.1, u.2.2.2.2.2.2.2.2.1, u.2.2.2.2.2.2.2.2.2.1, u.2.2.2.2.2.2.2.2.2.2.2.2.1, (ca 13), (ca 14), (ca 15), (ca 16), (ca 17), (ca 18), (ca 19), (ca 20), (ca 21), (ca 22), (ca 23), (ca 24), (ca 25), (ca 26), (ca 27), u.2.2.2.2.2.2.2.2.2.2.2.2.2.2, (ca 29), (ca 30)]) u.2.2.2.2.2.2.2.2.2.2.2.1 (lsI [(mi 0), v.2.1, (mi 2), (mi 3), (mi 4), v.2.2.1]) (lsA [(ma 0), v.2.2.2.1, v.2.2.2.2.1, v.2.2.2.2.2.1, v.2.2.2.2.2.2.1, v.2.2.2.2.2.2.2.1, v.2.2.2.2.2.2.2.2.1, v.2.2.2.2.2.2.2.2.2.1, v.2.2.2.2.2.2.2.2.2.2.1, v.2.2.2.2.2.2.2.2.2.2.2.1, (ma 10), (ma 11), v.2.2.2.2.2.2.2.2.2.2.2.2.1, v.2.2.2.2.2.2.2.2.2.2.2.2.2.1, v.2.2.2.2.2.2.2.2.2.2.2.2.2.2.1, v.2.2.2.2.2.2.2.2.2.2.2.2.2.2.2.1, v.2.2.2.2.2.2.2.2.2.2.2.2.2.2.2.2.1, (ma 17), (ma 18), (ma 19), (ma 20), (ma 21), (ma 22), (ma 23), (ma 24), (ma 25), (ma 26), (ma 27), (ma 28), v.2.2.2.2.2.2.2.2.2.2.2.2.2.2.2.2.2, (ma 30)]) := by
  obtain ⟨hne, hH, hL, hS, hSh, hRg, hTx, hP, hT, hB, hZ⟩ := h
  have z1 : ¬ (1 : Int32) = 0 := by decide
  unfold fC_write fM_write
  rcases plc a1 with ⟨s, hs, rfl, e1, e2⟩ | ⟨e1, e2⟩
  · rw [e1, e2, bd_some, bd_some, if_neg z1, if_neg z1]
    obtain ⟨z, n1, n2, n3, cs⟩ := hSh.2 s hs
    have cls : (nI s).toNatClampNeg = s := nI_clamp (by omega)
    unfold fL_isLost
    rw [ck_nI hs (by decide), ck_nI hs (by decide), ck_nI hs (by decide), cls]
    rcases cs with ⟨f1, f2⟩ | ⟨f, f1, f2, f3, f4, f5⟩
    · rw [if_pos f1, bd_some, if_neg z1, L_finding_eq, bd_some, if_pos f2, M_meets_eq, bd_some]
      exact ⟨_, _, mz_some (show ne ≤ ne from Nat.le_refl _), rfl, rfl, Nat.le_refl _, ⟨hne, hH, hL, hS, RShe_la hSh 1, hRg, hTx, hP, hT, hB, hZ⟩⟩
    · rw [f2, if_neg (nI_ne_m1 (by omega)), bd_some, if_pos rfl, if_neg (show ¬ ma 26 s = 0 by rw [f4]; exact z1), nm_eq]
      obtain ⟨sl, ld, unr2, due2, busy2, felt2, lost2, first2, size2, ne2, ent2, w1, w2, w3, w4⟩ := asTold_ok (len := (mi 0, ma 0)) (text := (mi 0, ma 0)) hP hS hT hne.1 hne.2 (ci 10) (ci 11) (ca 7)
      obtain ⟨K2, L2, C2, H2, R2, M2, AO2, LI2, MI2, com2, bt2, fm2, fb2, lb2, n, x1, x2, x3, x4, x5⟩ := w4 (mi 1) (ma 1) (ma 2) (ma 3) (ma 4) (ma 5) (ma 6) (ma 7) (ma 8) (ma 9) (ma 12) (ma 13) (ma 14) (ma 15) (ma 16)
      have x1' : fM_lays (mi 0) (mi 1) (ma 0) (ma 1) (ma 2) (ma 3) (ma 4) (ma 5) (ma 6) (ma 7) (ma 8) (ma 9) (ma 10) (ma 12) (ma 13) (ma 14) (ma 15) (ma 16) = some (nI n, K2, L2, C2, H2, R2, M2, AO2, LI2, MI2, com2, bt2, fm2, fb2, lb2) := x1
      obtain ⟨s', E, Fl, fe, lo, bu, q1, q2, q3, q4, q5, q6⟩ := x5
      have kI : (if ci 6 < ca 30 s then ci 6 else ca 30 s) = nI (if n < z then n else z) := by
        rw [x2, n2]
        by_cases c : n < z
        · rw [if_pos (nI_lt c (by omega)), if_pos c]
        · rw [if_neg (nI_nlt (by omega) (by omega)), if_neg c]
      obtain ⟨it2, mit2, g1, g2, g3⟩ := write_go (k := if n < z then n else z) hs n1 x3 rfl n3 (f2.trans f3.symm) (fun p hp => first_eq x3 q1 q3 hp (q2.1 p hp).2.2.2) 1 sl ld unr2 due2 busy2 felt2 lost2 size2 ne2 ent2 K2 L2 C2 H2 R2 M2 AO2 LI2 MI2 com2 bt2 lb2 (if n < z then n else z) 0 (ca 28) (ma 29) (by omega) hSh FU FU (by rw [FU_eq]; split <;> omega) (by rw [FU_eq]; split <;> omega)
      rw [kI, w1, x1', bd_some]
      refine ⟨_, _, mz_bm (x := ((1 : Int32), sl, ld, unr2, due2, busy2, felt2, lost2, first2, size2, ne2, ent2)) g1 w2 (Nat.le_refl _), g2, rfl, w2, ⟨⟨Nat.le_trans hne.1 w2, w3⟩, hH, hL, hS, g3, hRg, hTx, hP, Or.inr ⟨rfl, w4⟩, hB, hZ⟩⟩
  · rw [e1, e2, bd_some, bd_some, if_pos rfl, if_pos rfl]
    exact ⟨_, _, mz_some (show ne ≤ ne from Nat.le_refl _), rfl, rfl, Nat.le_refl _, ⟨hne, hH, hL, hS, hSh, hRg, hTx, hP, hT, hB, hZ⟩⟩
