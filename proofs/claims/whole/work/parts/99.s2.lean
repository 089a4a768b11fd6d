/-! ===== what was heard, against what is felt ===== -/
/-- so many of what was heard are not so -/
def unl (val : Nat → Int32) (who tm : Nat → Int32) (h : Nat) : Nat := fb_ct (fun k => !decide (val (who k).toNatClampNeg = tm k)) h
theorem unl_M {n : Nat} (hn : n ≤ 20) {val fm fb : Nat → Int32} (h1 : ∀ p, p < n → fM_feltBy (nI p) 0 fm fb = some (val p)) (h2 : ∀ p, n ≤ p → p < 20 → val p = -1) {sz mh : Int32} {who tm mw mt : Nat → Int32} (hH : RHear sz who tm mh mw mt) : ∃ h : Nat, h ≤ 12 ∧ sz = nI h ∧ fM_unlikeBy (nI n) mh fm fb mw mt = some (nI (unl val who tm h)) := by
  obtain ⟨h, q1, q2, q3, q4⟩ := hH
  refine ⟨h, q1, q2, ?_⟩
  subst q3
  have go : ∀ (m k : Nat), k + m = h → ∀ f, m < f → fM_unlikeBy_4 (nI n) (nI h) fm fb mw mt f (nI (unl val who tm k)) (nI k) = some (nI (unl val who tm h)) := by
    intro m
    induction m with
    | zero =>
      intro k hk f hf
      obtain ⟨f, rfl⟩ : ∃ f', f = f' + 1 := ⟨f - 1, by omega⟩
      have e : k = h := by omega
      subst e
      show fM_unlikeBy_4_b _ _ _ _ _ _ _ _ _ = _
      unfold fM_unlikeBy_4_b
      rw [if_pos (nI_le (Nat.le_refl k) (by omega))]
    | succ m ih =>
      intro k hk f hf
      obtain ⟨f, rfl⟩ : ∃ f', f = f' + 1 := ⟨f - 1, by omega⟩
      have kh : k < h := by omega
      obtain ⟨w1, w2, ⟨p, p1, p2⟩, w4⟩ := q4 k kh
      have c12 : ∀ {α : Type} (x : Option α), ck 12 (nI k) x = x := fun x => ck_nI (by omega) (by decide)
      have clk : (nI k).toNatClampNeg = k := nI_clamp (by omega)
      have r := ih (k + 1) (by omega) f (by omega)
      have cw : (who k).toNatClampNeg = p := by rw [p2]; exact nI_clamp (by omega)
      have nx : unl val who tm (k + 1) = unl val who tm k + (if val p = tm k then 0 else 1) := by
        unfold unl
        rw [fb_ct_succ, cw]
        by_cases c : val p = tm k
        · rw [decide_eq_true c, if_pos c]; rfl
        · rw [decide_eq_false c, if_neg c]; rfl
      have key : fM_unlikeBy_40 (fM_unlikeBy_4 (nI n) (nI h) fm fb mw mt f) (nI (unl val who tm k)) (nI k) (val p) (nI n) (nI h) fm fb mw mt = some (nI (unl val who tm h)) := by
        unfold fM_unlikeBy_40 fM_unlikeBy_57
        rw [c12, clk, ← w2, nI_1]
        by_cases c : val p = tm k
        · rw [if_pos c, show (0 : Int32) = nI 0 from rfl, nI_add]
          rw [nx, if_pos c] at r
          exact r
        · rw [if_neg c, show (1 : Int32) = nI 1 from rfl, nI_add]
          rw [nx, if_neg c] at r
          exact r
      show fM_unlikeBy_4_b _ _ _ _ _ _ _ _ _ = _
      unfold fM_unlikeBy_4_b
      rw [if_neg (nI_ge kh (by omega)), c12, clk, ← w1, p2]
      by_cases c : n ≤ p
      · rw [if_pos (nI_le c (by omega)), ← h2 p c p1]
        exact key
      · rw [if_neg (nI_ge (show p < n by omega) (by omega)), c12, h1 p (by omega), bd_some]
        exact key
  exact go h 0 (by omega) FU (by rw [FU_eq]; omega)
theorem unl_F {sz mh : Int32} {who tm mw mt : Nat → Int32} (hH : RHear sz who tm mh mw mt) (val : Nat → Int32) {h : Nat} (hh : h ≤ 12) (hs : sz = nI h) : fH_notSo_F 0 val sz who tm = some (nI (unl val who tm h)) := by
  obtain ⟨h', q1, q2, q3, q4⟩ := hH
  have e : h' = h := nIn (by omega) (by omega) (q2.symm.trans hs)
  subst e
  rw [hs]
  have go : ∀ (m k : Nat), k + m = h' → ∀ f, m < f → fH_notSo_F_5 0 val (nI h') who tm f (nI (unl val who tm k)) (nI k) = some (nI (unl val who tm h')) := by
    intro m
    induction m with
    | zero =>
      intro k hk f hf
      obtain ⟨f, rfl⟩ : ∃ f', f = f' + 1 := ⟨f - 1, by omega⟩
      have e : k = h' := by omega
      subst e
      show fH_notSo_F_5_b _ _ _ _ _ _ _ _ = _
      unfold fH_notSo_F_5_b
      rw [if_pos (nI_le (Nat.le_refl k) (by omega))]
    | succ m ih =>
      intro k hk f hf
      obtain ⟨f, rfl⟩ : ∃ f', f = f' + 1 := ⟨f - 1, by omega⟩
      have kh : k < h' := by omega
      obtain ⟨w1, w2, ⟨p, p1, p2⟩, w4⟩ := q4 k kh
      have c12 : ∀ {α : Type} (x : Option α), ck 12 (nI k) x = x := fun x => ck_nI (by omega) (by decide)
      have clk : (nI k).toNatClampNeg = k := nI_clamp (by omega)
      have r := ih (k + 1) (by omega) f (by omega)
      have cw : (who k).toNatClampNeg = p := by rw [p2]; exact nI_clamp (by omega)
      have nx : unl val who tm (k + 1) = unl val who tm k + (if val p = tm k then 0 else 1) := by
        unfold unl
        rw [fb_ct_succ, cw]
        by_cases c : val p = tm k
        · rw [decide_eq_true c, if_pos c]; rfl
        · rw [decide_eq_false c, if_neg c]; rfl
      have a0 : (0 : Int32) + nI p = nI p := by rw [show (0 : Int32) = nI 0 from rfl, nI_add, Nat.zero_add]
      show fH_notSo_F_5_b _ _ _ _ _ _ _ _ = _
      unfold fH_notSo_F_5_b fH_notSo_F_46 fH_notSo_F_49
      rw [if_neg (nI_ge kh (by omega)), c12, clk, p2, a0, if_neg (show ¬ (20 : Int32) ≤ nI p from nI_ge (b := 20) p1 (by decide)), ck_nI p1 (by decide), c12, nI_clamp (by omega), nI_1, nI_1]
      by_cases c : val p = tm k
      · rw [if_pos c]
        rw [nx, if_pos c, Nat.add_zero] at r
        exact r
      · rw [if_neg c]
        rw [nx, if_neg c] at r
        exact r
  exact go h' 0 (by omega) FU (by rw [FU_eq]; omega)
theorem unl_S {sz mh : Int32} {who tm mw mt : Nat → Int32} (hH : RHear sz who tm mh mw mt) (times : Nat → Int32) {h z : Nat} (hz : z < 20) (hh : h ≤ 12) (hs : sz = nI h) : fH_notSo_S (nI (20 * z)) times sz who tm = some (nI (unl (fun p => times (20 * z + p)) who tm h)) := by
  obtain ⟨h', q1, q2, q3, q4⟩ := hH
  have e : h' = h := nIn (by omega) (by omega) (q2.symm.trans hs)
  subst e
  rw [hs]
  have go : ∀ (m k : Nat), k + m = h' → ∀ f, m < f → fH_notSo_S_5 (nI (20 * z)) times (nI h') who tm f (nI (unl (fun p => times (20 * z + p)) who tm k)) (nI k) = some (nI (unl (fun p => times (20 * z + p)) who tm h')) := by
    intro m
    induction m with
    | zero =>
      intro k hk f hf
      obtain ⟨f, rfl⟩ : ∃ f', f = f' + 1 := ⟨f - 1, by omega⟩
      have e : k = h' := by omega
      subst e
      show fH_notSo_S_5_b _ _ _ _ _ _ _ _ = _
      unfold fH_notSo_S_5_b
      rw [if_pos (nI_le (Nat.le_refl k) (by omega))]
    | succ m ih =>
      intro k hk f hf
      obtain ⟨f, rfl⟩ : ∃ f', f = f' + 1 := ⟨f - 1, by omega⟩
      have kh : k < h' := by omega
      obtain ⟨w1, w2, ⟨p, p1, p2⟩, w4⟩ := q4 k kh
      have c12 : ∀ {α : Type} (x : Option α), ck 12 (nI k) x = x := fun x => ck_nI (by omega) (by decide)
      have clk : (nI k).toNatClampNeg = k := nI_clamp (by omega)
      have r := ih (k + 1) (by omega) f (by omega)
      have cw : (who k).toNatClampNeg = p := by rw [p2]; exact nI_clamp (by omega)
      have nx : unl (fun p => times (20 * z + p)) who tm (k + 1) = unl (fun p => times (20 * z + p)) who tm k + (if times (20 * z + p) = tm k then 0 else 1) := by
        unfold unl
        rw [fb_ct_succ, cw]
        by_cases c : times (20 * z + p) = tm k
        · rw [decide_eq_true c, if_pos c]; rfl
        · rw [decide_eq_false c, if_neg c]; rfl
      show fH_notSo_S_5_b _ _ _ _ _ _ _ _ = _
      unfold fH_notSo_S_5_b fH_notSo_S_46 fH_notSo_S_49
      rw [if_neg (nI_ge kh (by omega)), c12, clk, p2, nI_add, if_neg (show ¬ (400 : Int32) ≤ nI (20 * z + p) from nI_ge (b := 400) (by omega) (by decide)), ck_nI (by omega) (by decide), c12, nI_clamp (by omega), nI_1, nI_1]
      by_cases c : times (20 * z + p) = tm k
      · rw [if_pos c]
        rw [nx, if_pos c, Nat.add_zero] at r
        exact r
      · rw [if_neg c]
        rw [nx, if_neg c] at r
        exact r
  exact go h' 0 (by omega) FU (by rw [FU_eq]; omega)
theorem pu_type (ci : Nat → Int32) (ca : Nat → Nat → Int32) (ne : Nat) (mi : Nat → Int32) (ma : Nat → Nat → Int32) (h : RelB ci ca ne mi ma) (a1 : Int32) : ∃ (u : Int32 × Int32 × Int32 × Int32 × Int32 × Int32 × Int32 × Int32 × (Nat → Int32) × (Nat → Int32) × (Nat → Int32) × (Nat → Int32) × (Nat → Int32) × (Nat → Int32) × (Nat → Int32) × Int32 × Int32) (v : Int32 × Int32 × (Nat → Int32)), fC_type a1 (ci 3) (ci 4) (ci 5) (ci 6) (ci 7) (ci 8) (ci 9) (ca 0) (ca 1) (ca 2) (ca 3) (ca 4) (ca 5) (ca 6) (ci 20) (ci 21) = some u ∧ fM_type a1 (mi 0) (ma 0) = some v ∧ u.1 = v.1 ∧ RelB (lsI [(ci 0), (ci 1), (ci 2), u.2.1, u.2.2.1, u.2.2.2.1, u.2.2.2.2.1, u.2.2.2.2.2.1, u.2.2.2.2.2.2.1, u.2.2.2.2.2.2.2.1, (ci 10), (ci 11), (ci 12), (ci 13), (ci 14), (ci 15), (ci 16), (ci 17), (ci 18), (ci 19), u.2.2.2.2.2.2.2.2.2.2.2.2.2.2.2.1, u.2.2.2.2.2.2.2.2.2.2.2.2.2.2.2.2, (ci 22), (ci 23), (ci 24), (ci 25), (ci 26), (ci 27), (ci 28)]) (lsA [u.2.2.2.2.2.2.2.2.1, u.2.2.2.2.2.2.2.2.2.1, u.2.2.2.2.2.2.2.2.2.2.1, u.2.2.2.2.2.2.2.2.2.2.2.1, u.2.2.2.2.2.2.2.2.2.2.2.2.1, u.2.2.2.2.2.2.2.2.2.2.2.2.2.1, u.2.2.2.2.2.2.2.2.2.2.2.2.2.2.1, (ca 7), (ca 8), (ca 9), (ca 10), (ca 11), (ca 12), (ca 13), (ca 14), (ca 15), (ca 16), (ca 17), (ca 18), (ca 19), (ca 20), (ca 21), (ca 22), (ca 23), (ca 24), (ca 25), (ca 26), (ca 27), (ca 28), (ca 29), (ca 30)]) ne (lsI [v.2.1, (mi 1), (mi 2), (mi 3), (mi 4), (mi 5)]) (lsA [v.2.2, (ma 1), (ma 2), (ma 3), (ma 4), (ma 5), (ma 6), (ma 7), (ma 8), (ma 9), (ma 10), (ma 11), (ma 12), (ma 13), (ma 14), (ma 15), (ma 16), (ma 17), (ma 18), (ma 19), (ma 20), (ma 21), (ma 22), (ma 23), (ma 24), (ma 25), (ma 26), (ma 27), (ma 28), (ma 29), (ma 30)]) := by
  obtain ⟨hne, hH, hL, hS, hSh, hRg, hTx, hP, hT, hB, hZ⟩ := h
  have z1 : ¬ (1 : Int32) = 0 := by decide
  obtain ⟨len, l1, l2, l3, l4⟩ := hTx
  unfold fC_type fM_type
  rw [M_in_eq, bd_some]
  by_cases c : a1 < 0
  · rw [if_pos c, if_neg (show ¬ (0 ≤ a1 ∧ a1 ≤ 255) from fun w => o_ltn c w.1), if_pos rfl]
    exact ⟨_, _, rfl, rfl, rfl, ⟨hne, hH, hL, hS, hSh, hRg, ⟨len, l1, l2, l3, l4⟩, hP, hT, hB, hZ⟩⟩
  · rw [if_neg c]
    by_cases d : a1 ≤ 255
    · rw [if_pos d, if_pos (And.intro (o_nlt c) d), if_neg z1]
      unfold fR_append fC_rowChanged fC_squeezeChanged
      rcases Nat.lt_or_ge len 60 with e | e
      · obtain ⟨dd, pp, ss, mm, ff, K2, L2, H2, S2, A2, D2, r1, r2⟩ := R_readText_ok (len := len + 1) (by omega) (upd (ca 0) len a1) (ci 4) (ci 6) (ci 7) (ci 8) (ci 9) (ca 1) (ca 2) (ca 3) (ca 4) (ca 5) (ca 6)
        rw [l2, l3, if_pos (show nI len < 60 from nI_lt (b := 60) e (by decide)), ck_nI e (by decide), nI_clamp (by omega), nI_1, r1, bd_some, bd_some]
        dsimp only
        rw [if_neg z1, bd_some, bd_some, if_neg (show ¬ nI len = 60 from neN (b := 60) (by omega) (by omega) (by decide)), ck_nI e (by decide)]
        exact ⟨_, _, rfl, rfl, rfl, ⟨hne, hH, hL, hS, hSh, hRg, ⟨len + 1, by omega, rfl, rfl, by rw [← l4]; rfl⟩, (show Parsed (nI (len + 1)) (upd (ma 0) len a1) pp ss mm ff K2 L2 H2 S2 by rw [← l4]; exact r2), Or.inl rfl, Or.inl rfl, Or.inl rfl⟩⟩
      · have e60 : len = 60 := by omega
        rw [l2, l3, if_neg (show ¬ nI len < 60 from nI_nlt (b := 60) (by omega) (by omega)), bd_some]
        dsimp only
        rw [if_pos rfl, if_pos (show nI len = 60 by rw [e60]; rfl)]
        exact ⟨_, _, rfl, rfl, rfl, ⟨hne, hH, hL, hS, hSh, hRg, ⟨len, l1, rfl, rfl, l4⟩, (by rw [← l3]; exact hP), (by rw [← l3]; exact hT), (by rw [← l3]; exact hB), hZ⟩⟩
    · rw [if_neg d, if_neg (show ¬ (0 ≤ a1 ∧ a1 ≤ 255) from fun w => d w.2), if_pos rfl]
      exact ⟨_, _, rfl, rfl, rfl, ⟨hne, hH, hL, hS, hSh, hRg, ⟨len, l1, l2, l3, l4⟩, hP, hT, hB, hZ⟩⟩

theorem pu_wipe (ci : Nat → Int32) (ca : Nat → Nat → Int32) (ne : Nat) (mi : Nat → Int32) (ma : Nat → Nat → Int32) (h : RelB ci ca ne mi ma) : ∃ (u : Int32 × Int32 × Int32 × Int32 × Int32 × Int32 × Int32 × Int32 × (Nat → Int32) × (Nat → Int32) × (Nat → Int32) × (Nat → Int32) × (Nat → Int32) × (Nat → Int32) × Int32 × Int32) (v : Int32 × Int32), fC_wipe (ci 3) (ci 4) (ci 5) (ci 6) (ci 7) (ci 8) (ci 9) (ca 0) (ca 1) (ca 2) (ca 3) (ca 4) (ca 5) (ca 6) (ci 20) (ci 21) = some u ∧ fM_wipe (mi 0) = some v ∧ u.1 = v.1 ∧ RelB (lsI [(ci 0), (ci 1), (ci 2), u.2.1, u.2.2.1, u.2.2.2.1, u.2.2.2.2.1, u.2.2.2.2.2.1, u.2.2.2.2.2.2.1, u.2.2.2.2.2.2.2.1, (ci 10), (ci 11), (ci 12), (ci 13), (ci 14), (ci 15), (ci 16), (ci 17), (ci 18), (ci 19), u.2.2.2.2.2.2.2.2.2.2.2.2.2.2.1, u.2.2.2.2.2.2.2.2.2.2.2.2.2.2.2, (ci 22), (ci 23), (ci 24), (ci 25), (ci 26), (ci 27), (ci 28)]) (lsA [(ca 0), u.2.2.2.2.2.2.2.2.1, u.2.2.2.2.2.2.2.2.2.1, u.2.2.2.2.2.2.2.2.2.2.1, u.2.2.2.2.2.2.2.2.2.2.2.1, u.2.2.2.2.2.2.2.2.2.2.2.2.1, u.2.2.2.2.2.2.2.2.2.2.2.2.2.1, (ca 7), (ca 8), (ca 9), (ca 10), (ca 11), (ca 12), (ca 13), (ca 14), (ca 15), (ca 16), (ca 17), (ca 18), (ca 19), (ca 20), (ca 21), (ca 22), (ca 23), (ca 24), (ca 25), (ca 26), (ca 27), (ca 28), (ca 29), (ca 30)]) ne (lsI [v.2, (mi 1), (mi 2), (mi 3), (mi 4), (mi 5)]) ma := by
  obtain ⟨hne, hH, hL, hS, hSh, hRg, hTx, hP, hT, hB, hZ⟩ := h
  obtain ⟨len, l1, l2, l3, l4⟩ := hTx
  obtain ⟨dd, pp, ss, mm, ff, K2, L2, H2, S2, A2, D2, r1, r2⟩ := R_readText_ok (len := 0) (by omega) (ca 0) (ci 4) (ci 6) (ci 7) (ci 8) (ci 9) (ca 1) (ca 2) (ca 3) (ca 4) (ca 5) (ca 6)
  unfold fC_wipe fM_wipe fR_empty fC_rowChanged fC_squeezeChanged
  have r1' : fR_readText (ci 4) 0 (ci 6) (ci 7) (ci 8) (ci 9) (ca 0) (ca 1) (ca 2) (ca 3) (ca 4) (ca 5) (ca 6) = _ := r1
  rw [r1', bd_some, bd_some, bd_some, bd_some]
  refine ⟨_, _, rfl, rfl, ?_, ⟨hne, hH, hL, hS, hSh, hRg, ⟨0, by omega, rfl, rfl, l4⟩, (show Parsed (nI 0) (ma 0) pp ss mm ff K2 L2 H2 S2 by rw [← l4]; exact r2), Or.inl rfl, Or.inl rfl, Or.inl rfl⟩⟩
  show ci 5 = mi 0
  rw [l2, l3]

theorem pu_set (ci : Nat → Int32) (ca : Nat → Nat → Int32) (ne : Nat) (mi : Nat → Int32) (ma : Nat → Nat → Int32) (h : RelB ci ca ne mi ma) (a1 : Int32) (a2 : Int32) : ∃ (u : Int32 × Int32 × Int32 × Int32 × Int32 × Int32) (v : Int32 × (Nat → Int32)), fC_set a1 a2 (ci 0) (ci 1) (ci 2) (ci 3) (ci 21) = some u ∧ fM_set a1 a2 (ma 10) = some v ∧ u.1 = v.1 ∧ RelB (lsI [u.2.1, u.2.2.1, u.2.2.2.1, u.2.2.2.2.1, (ci 4), (ci 5), (ci 6), (ci 7), (ci 8), (ci 9), (ci 10), (ci 11), (ci 12), (ci 13), (ci 14), (ci 15), (ci 16), (ci 17), (ci 18), (ci 19), (ci 20), u.2.2.2.2.2, (ci 22), (ci 23), (ci 24), (ci 25), (ci 26), (ci 27), (ci 28)]) ca ne mi (lsA [(ma 0), (ma 1), (ma 2), (ma 3), (ma 4), (ma 5), (ma 6), (ma 7), (ma 8), (ma 9), v.2, (ma 11), (ma 12), (ma 13), (ma 14), (ma 15), (ma 16), (ma 17), (ma 18), (ma 19), (ma 20), (ma 21), (ma 22), (ma 23), (ma 24), (ma 25), (ma 26), (ma 27), (ma 28), (ma 29), (ma 30)]) := by
  obtain ⟨hne, hH, hL, hS, hSh, hRg, hTx, hP, hT, hB, hZ⟩ := h
  have z1 : ¬ (1 : Int32) = 0 := by decide
  obtain ⟨s0, s1, s2, s3, s4, s5⟩ := hS
  have i0 : (0 : Int32).toNatClampNeg = 0 := by decide
  have i1 : (1 : Int32).toNatClampNeg = 1 := by decide
  have i2 : (2 : Int32).toNatClampNeg = 2 := by decide
  unfold fC_set fM_set
  rw [M_in_eq, bd_some]
  by_cases c0 : a1 = 0
  · subst c0
    rw [if_pos rfl, if_pos (show (0 : Int32) ≤ 0 ∧ (0 : Int32) ≤ 2 by decide), if_neg z1, if_neg (show ¬ (0 : Int32) = 1 by decide)]
    unfold fM_set_20 fM_set_32
    rw [if_neg (show ¬ (0 : Int32) = 2 by decide), M_in_eq, bd_some]
    have bad : fC_set_27 0 a2 (ci 0) (ci 1) (ci 2) (ci 3) (ci 21) = some (-5, ci 0, ci 1, ci 2, ci 3, ci 21) := by
      unfold fC_set_27 fC_set_56
      rw [if_neg (show ¬ (0 : Int32) = 1 by decide), if_neg (show ¬ (0 : Int32) = 2 by decide)]
    rcases ix0 a2 20 (by decide) with e | e | ⟨j, hj, e⟩
    · rw [if_pos e, bad, if_neg (show ¬ (0 ≤ a2 ∧ a2 ≤ 19) from fun w => o_ltn e w.1), if_pos rfl]
      exact ⟨_, _, rfl, rfl, rfl, ⟨hne, hH, hL, ⟨s0, s1, s2, s3, s4, s5⟩, hSh, hRg, hTx, hP, hT, hB, hZ⟩⟩
    · rw [if_neg (fun w => o_ltn w (o_tr (show (0 : Int32) ≤ nI 20 from nI_le (a := 0) (by omega) (by decide)) e)), if_pos (show 20 ≤ a2 from e), bad, if_neg (show ¬ (0 ≤ a2 ∧ a2 ≤ 19) from fun w => absurd (o_tr e w.2) (by decide)), if_pos rfl]
      exact ⟨_, _, rfl, rfl, rfl, ⟨hne, hH, hL, ⟨s0, s1, s2, s3, s4, s5⟩, hSh, hRg, hTx, hP, hT, hB, hZ⟩⟩
    · subst e
      rw [if_neg (nI_pos (by omega)), if_neg (show ¬ (20 : Int32) ≤ nI j from nI_ge (b := 20) hj (by decide)), if_pos (show (0 : Int32) ≤ nI j ∧ nI j ≤ 19 from ⟨nI_le (a := 0) (by omega) (by omega), nI_le (b := 19) (by omega) (by decide)⟩), if_neg z1, c30, c30, i0]
      unfold fC_set_87 fC_squeezeChanged
      rw [bd_some]
      exact ⟨_, _, rfl, rfl, s0.symm, ⟨hne, hH, hL, ⟨rfl, s1, s2, ⟨j, hj, rfl⟩, s4, s5⟩, hSh, hRg, hTx, hP, Or.inl rfl, hB, Or.inl rfl⟩⟩
  · rw [if_neg c0]
    unfold fC_set_27
    by_cases c1 : a1 = 1
    · subst c1
      rw [if_pos rfl, if_pos (show (0 : Int32) ≤ 1 ∧ (1 : Int32) ≤ 2 by decide), if_neg z1, if_pos rfl]
      unfold fM_set_20 fM_set_32
      rw [if_neg (show ¬ (1 : Int32) = 2 by decide), M_in_eq, bd_some]
      have bad : fC_set_56 1 a2 (ci 0) (ci 1) (ci 2) (ci 3) (ci 21) = some (-5, ci 0, ci 1, ci 2, ci 3, ci 21) := by
        unfold fC_set_56
        rw [if_neg (show ¬ (1 : Int32) = 2 by decide)]
      have good : -1 ≤ a2 → a2 ≤ 19 → (a2 = -1 ∨ ∃ s : Nat, s < 20 ∧ a2 = nI s) → (∃ (u : Int32 × Int32 × Int32 × Int32 × Int32 × Int32) (v : Int32 × (Nat → Int32)), (if a2 < (-1) then fC_set_56 1 a2 (ci 0) (ci 1) (ci 2) (ci 3) (ci 21) else (if 20 ≤ a2 then fC_set_56 1 a2 (ci 0) (ci 1) (ci 2) (ci 3) (ci 21) else fC_set_87 (ci 1) (ci 0) a2 (ci 2) (ci 3) (ci 21))) = some u ∧ (if (if -1 ≤ a2 ∧ a2 ≤ 19 then (1 : Int32) else 0) = 0 then some ((-5), ma 10) else ck 3 1 (ck 3 1 (some ((ma 10 (1 : Int32).toNatClampNeg), (upd (ma 10) (1 : Int32).toNatClampNeg a2))))) = some v ∧ u.1 = v.1 ∧ RelB (lsI [u.2.1, u.2.2.1, u.2.2.2.1, u.2.2.2.2.1, (ci 4), (ci 5), (ci 6), (ci 7), (ci 8), (ci 9), (ci 10), (ci 11), (ci 12), (ci 13), (ci 14), (ci 15), (ci 16), (ci 17), (ci 18), (ci 19), (ci 20), u.2.2.2.2.2, (ci 22), (ci 23), (ci 24), (ci 25), (ci 26), (ci 27), (ci 28)]) ca ne mi (lsA [(ma 0), (ma 1), (ma 2), (ma 3), (ma 4), (ma 5), (ma 6), (ma 7), (ma 8), (ma 9), v.2, (ma 11), (ma 12), (ma 13), (ma 14), (ma 15), (ma 16), (ma 17), (ma 18), (ma 19), (ma 20), (ma 21), (ma 22), (ma 23), (ma 24), (ma 25), (ma 26), (ma 27), (ma 28), (ma 29), (ma 30)])) := by
        intro g1 g2 g3
        rw [if_neg (o_len g1), if_neg (show ¬ 20 ≤ a2 from fun w => absurd (o_tr w g2) (by decide)), if_pos (And.intro g1 g2), if_neg z1, c31, c31, i1]
        unfold fC_set_87 fC_squeezeChanged
        rw [bd_some]
        exact ⟨_, _, rfl, rfl, s1.symm, ⟨hne, hH, hL, ⟨s0, rfl, s2, s3, g3, s5⟩, hSh, hRg, hTx, hP, Or.inl rfl, hB, Or.inl rfl⟩⟩
      rcases ix1 a2 20 (by decide) with e | e | e | ⟨j, hj, e⟩
      · rw [if_pos e, bad, if_neg (show ¬ (-1 ≤ a2 ∧ a2 ≤ 19) from fun w => o_ltn e w.1), if_pos rfl]
        exact ⟨_, _, rfl, rfl, rfl, ⟨hne, hH, hL, ⟨s0, s1, s2, s3, s4, s5⟩, hSh, hRg, hTx, hP, hT, hB, hZ⟩⟩
      · rw [if_neg (fun w => absurd (o_tr1 w (o_tr (show (-1 : Int32) ≤ nI 20 by decide) e)) (fun q => by rw [Int32.lt_iff_toInt_lt] at q; omega)), if_pos (show 20 ≤ a2 from e), bad, if_neg (show ¬ (-1 ≤ a2 ∧ a2 ≤ 19) from fun w => absurd (o_tr e w.2) (by decide)), if_pos rfl]
        exact ⟨_, _, rfl, rfl, rfl, ⟨hne, hH, hL, ⟨s0, s1, s2, s3, s4, s5⟩, hSh, hRg, hTx, hP, hT, hB, hZ⟩⟩
      · exact good (by rw [e]; decide) (by rw [e]; decide) (Or.inl e)
      · exact good (by rw [e]; exact m1_le_nI (by omega)) (by rw [e]; exact nI_le (b := 19) (by omega) (by decide)) (Or.inr ⟨j, hj, e⟩)
    · rw [if_neg c1]
      unfold fC_set_56
      by_cases c2 : a1 = 2
      · subst c2
        rw [if_pos rfl, if_pos (show (0 : Int32) ≤ 2 ∧ (2 : Int32) ≤ 2 by decide), if_neg z1, if_neg (show ¬ (2 : Int32) = 1 by decide)]
        unfold fM_set_20 fM_set_32
        rw [if_pos rfl, M_in_eq, bd_some]
        rcases ix0 a2 100 (by decide) with e | e | ⟨j, hj, e⟩
        · rw [if_pos e, if_neg (show ¬ (0 ≤ a2 ∧ a2 ≤ 99) from fun w => o_ltn e w.1), if_pos rfl]
          exact ⟨_, _, rfl, rfl, rfl, ⟨hne, hH, hL, ⟨s0, s1, s2, s3, s4, s5⟩, hSh, hRg, hTx, hP, hT, hB, hZ⟩⟩
        · have g : 99 < a2 := o_tr1 (show (99 : Int32) < nI 100 by decide) e
          rw [if_neg (fun w => o_ltn w (o_tr (show (0 : Int32) ≤ nI 100 from nI_le (a := 0) (by omega) (by decide)) e)), if_pos g, if_neg (show ¬ (0 ≤ a2 ∧ a2 ≤ 99) from fun w => o_ltn g w.2), if_pos rfl]
          exact ⟨_, _, rfl, rfl, rfl, ⟨hne, hH, hL, ⟨s0, s1, s2, s3, s4, s5⟩, hSh, hRg, hTx, hP, hT, hB, hZ⟩⟩
        · subst e
          rw [if_neg (nI_pos (by omega)), if_neg (show ¬ (99 : Int32) < nI j from nI_nlt (a := 99) (b := j) (by omega) (by omega)), if_pos (show (0 : Int32) ≤ nI j ∧ nI j ≤ 99 from ⟨nI_le (a := 0) (by omega) (by omega), nI_le (b := 99) (by omega) (by decide)⟩), if_neg z1, c32, c32, i2]
          unfold fC_set_87 fC_squeezeChanged
          rw [bd_some]
          exact ⟨_, _, rfl, rfl, s2.symm, ⟨hne, hH, hL, ⟨s0, s1, rfl, s3, s4, ⟨j, by omega, rfl⟩⟩, hSh, hRg, hTx, hP, Or.inl rfl, hB, Or.inl rfl⟩⟩
      · rw [if_neg c2, if_neg (show ¬ (0 ≤ a1 ∧ a1 ≤ 2) from fun w => by
          obtain ⟨j, _, j2, j3⟩ := nI_mid (a := 0) (b := 2) (by decide) w.1 w.2 (by decide)
          rcases (show j = 0 ∨ j = 1 ∨ j = 2 by omega) with q | q | q
          · exact c0 (by rw [j3, q]; rfl)
          · exact c1 (by rw [j3, q]; rfl)
          · exact c2 (by rw [j3, q]; rfl)), if_pos rfl]
        exact ⟨_, _, rfl, rfl, rfl, ⟨hne, hH, hL, ⟨s0, s1, s2, s3, s4, s5⟩, hSh, hRg, hTx, hP, hT, hB, hZ⟩⟩

theorem pu_unlike (ci : Nat → Int32) (ca : Nat → Nat → Int32) (ne : Nat) (mi : Nat → Int32) (ma : Nat → Nat → Int32) (h : RelB ci ca ne mi ma) : ∃ (u : Int32 × Int32 × Int32 × Int32 × Int32 × (Nat → Int32) × (Nat → Int32) × (Nat → Int32) × (Nat → Int32) × (Nat → Int32) × Int32 × Nat × (Nat → Int32)) (v : Int32 × Int32 × (Nat → Int32) × (Nat → Int32) × (Nat → Int32) × (Nat → Int32) × (Nat → Int32) × (Nat → Int32) × (Nat → Int32) × (Nat → Int32) × (Nat → Int32) × (Nat → Int32) × (Nat → Int32) × (Nat → Int32) × (Nat → Int32) × (Nat → Int32)), fC_unlike (ci 0) (ci 1) (ci 2) (ci 3) (ci 6) (ca 1) (ca 2) (ca 3) (ca 4) (ci 10) (ci 11) (ci 12) (ca 7) (ca 8) (ca 9) (ca 10) (ca 11) (ci 13) ne (ca 12) (ci 26) (ca 22) (ca 23) = some u ∧ fM_unlike (mi 0) (mi 1) (mi 3) (ma 0) (ma 1) (ma 2) (ma 3) (ma 4) (ma 5) (ma 6) (ma 7) (ma 8) (ma 9) (ma 10) (ma 12) (ma 13) (ma 14) (ma 15) (ma 16) (ma 21) (ma 22) = some v ∧ u.1 = v.1 ∧ ne ≤ u.2.2.2.2.2.2.2.2.2.2.2.1 ∧ RelB (lsI [(ci 0), (ci 1), (ci 2), u.2.1, (ci 4), (ci 5), (ci 6), (ci 7), (ci 8), (ci 9), u.2.2.1, u.2.2.2.1, u.2.2.2.2.1, u.2.2.2.2.2.2.2.2.2.2.1, (ci 14), (ci 15), (ci 16), (ci 17), (ci 18), (ci 19), (ci 20), (ci 21), (ci 22), (ci 23), (ci 24), (ci 25), (ci 26), (ci 27), (ci 28)]) (lsA [(ca 0), (ca 1), (ca 2), (ca 3), (ca 4), (ca 5), (ca 6), u.2.2.2.2.2.1, u.2.2.2.2.2.2.1, u.2.2.2.2.2.2.2.1, u.2.2.2.2.2.2.2.2.1, u.2.2.2.2.2.2.2.2.2.1, u.2.2.2.2.2.2.2.2.2.2.2.2, (ca 13), (ca 14), (ca 15), (ca 16), (ca 17), (ca 18), (ca 19), (ca 20), (ca 21), (ca 22), (ca 23), (ca 24), (ca 25), (ca 26), (ca 27), (ca 28), (ca 29), (ca 30)]) u.2.2.2.2.2.2.2.2.2.2.2.1 (lsI [(mi 0), v.2.1, (mi 2), (mi 3), (mi 4), (mi 5)]) (lsA [(ma 0), v.2.2.1, v.2.2.2.1, v.2.2.2.2.1, v.2.2.2.2.2.1, v.2.2.2.2.2.2.1, v.2.2.2.2.2.2.2.1, v.2.2.2.2.2.2.2.2.1, v.2.2.2.2.2.2.2.2.2.1, v.2.2.2.2.2.2.2.2.2.2.1, (ma 10), (ma 11), v.2.2.2.2.2.2.2.2.2.2.2.1, v.2.2.2.2.2.2.2.2.2.2.2.2.1, v.2.2.2.2.2.2.2.2.2.2.2.2.2.1, v.2.2.2.2.2.2.2.2.2.2.2.2.2.2.1, v.2.2.2.2.2.2.2.2.2.2.2.2.2.2.2, (ma 17), (ma 18), (ma 19), (ma 20), (ma 21), (ma 22), (ma 23), (ma 24), (ma 25), (ma 26), (ma 27), (ma 28), (ma 29), (ma 30)]) := by
  obtain ⟨hne, hH, hL, hS, hSh, hRg, hTx, hP, hT, hB, hZ⟩ := h
  unfold fC_unlike fM_unlike
  obtain ⟨a, sl, ld, unr2, due2, busy2, felt2, lost2, first2, size2, ne2, ent2, w, x1, x2, x3, x4, x5⟩ := told_q hP hS hT hne (ci 10) (ci 11) (ca 7) (mi 1) (ma 1) (ma 2) (ma 3) (ma 4) (ma 5) (ma 6) (ma 7) (ma 8) (ma 9) (ma 12) (ma 13) (ma 14) (ma 15) (ma 16) (fun u => bd (fH_notSo_F 0 u.2.2.2.2.2.2.2.2.1 (ci 26) (ca 22) (ca 23)) (fun r => some (r, u))) (fun u => bd (fM_unlikeBy u.1 (mi 3) u.2.2.2.2.2.2.2.2.2.2.2.2.1 u.2.2.2.2.2.2.2.2.2.2.2.2.2.1 (ma 21) (ma 22)) (fun r => some (r, u))) (fun sl ld unr2 due2 busy2 felt2 lost2 first2 size2 ne2 ent2 nn K2 L2 C2 H2 R2 M2 AO2 LI2 MI2 com2 bt2 fm2 fb2 lb2 y1 y2 y3 y4 y5 => by
    obtain ⟨s, E, Fl, fe, lo, bu, q1, q2, q3, q4, q5, q6⟩ := y5
    obtain ⟨h, h1, h2, h3⟩ := unl_M (val := first2) y3 (fun p hp => first_eq y3 q1 q3 hp (q2.1 p hp).2.2.2) q2.2.1 hH
    refine ⟨nI (unl first2 (ca 22) (ca 23) h), ?_, ?_⟩
    · show bd (fH_notSo_F 0 first2 (ci 26) (ca 22) (ca 23)) _ = _
      rw [unl_F hH first2 h1 h2, bd_some]
    · show bd (fM_unlikeBy (nI nn) (mi 3) fm2 fb2 (ma 21) (ma 22)) _ = _
      rw [h3, bd_some])
  have x2' : fM_unlikeNow (mi 0) (mi 1) (mi 3) (ma 0) (ma 1) (ma 2) (ma 3) (ma 4) (ma 5) (ma 6) (ma 7) (ma 8) (ma 9) (ma 10) (ma 12) (ma 13) (ma 14) (ma 15) (ma 16) (ma 21) (ma 22) = some (a, w) := x2
  rw [x2', bd_some]
  exact ⟨_, _, x1, rfl, rfl, x3, ⟨⟨Nat.le_trans hne.1 x3, x4⟩, hH, hL, hS, hSh, hRg, hTx, hP, Or.inr ⟨rfl, x5⟩, hB, hZ⟩⟩
