/-! ===== fill ===== -/
theorem J_fill_go (a : Int32) (n : Nat) (g0 : Nat → Int32) (hn : n < 2 ^ 31) : ∀ (m j : Nat) (g : Nat → Int32), j + m = n → g = (fun k => if k < j then a else g0 k) → ∀ f, m < f → fJ_fill_5 a (nI n) n f (nI j) g = some (fun k => if k < n then a else g0 k)
  | 0, j, g, hj, hg, f, hf => by
    obtain ⟨f, rfl⟩ : ∃ g, f = g + 1 := ⟨f - 1, by omega⟩
    show fJ_fill_5_b _ _ _ _ _ _ = _
    unfold fJ_fill_5_b
    rw [if_pos (nI_le (show n ≤ j by omega) (by omega)), hg, show j = n by omega]
  | m + 1, j, g, hj, hg, f, hf => by
    obtain ⟨f, rfl⟩ : ∃ g, f = g + 1 := ⟨f - 1, by omega⟩
    show fJ_fill_5_b _ _ _ _ _ _ = _
    unfold fJ_fill_5_b
    rw [if_neg (nI_ge (show j < n by omega) hn), ck_nI (show j < n by omega) hn, nI_1, nI_clamp (by omega)]
    refine J_fill_go a n g0 hn m (j + 1) _ (by omega) ?_ f (by omega)
    funext k
    by_cases e : k = j
    · subst e
      rw [pk_us, if_pos (by omega)]
    · rw [pk_un e, hg]
      show (if k < j then a else g0 k) = (if k < j + 1 then a else g0 k)
      by_cases q : k < j
      · rw [if_pos q, if_pos (by omega)]
      · rw [if_neg q, if_neg (by omega)]
theorem J_fill_eq (a : Int32) (n : Nat) (g : Nat → Int32) (hn : n < 1000) : fJ_fill a n g = some (fun k => if k < n then a else g k) := by
  unfold fJ_fill
  refine J_fill_go a n g (by omega) n 0 g (by omega) ?_ FU (by rw [FU_eq]; omega)
  funext k
  rw [if_neg (by omega)]
/-! ===== settings ===== -/
def RSet (fi se wh : Int32) (st : Nat → Int32) : Prop :=
  st 0 = fi ∧ st 1 = se ∧ st 2 = wh ∧ (∃ f : Nat, f < 20 ∧ fi = nI f) ∧ (se = -1 ∨ ∃ s : Nat, s < 20 ∧ se = nI s) ∧ (∃ w : Nat, w ≤ 99 ∧ wh = nI w)
/-! ===== sheets ===== -/
/-- a form: bytes, shorts, ints -/
def cutF (form v : Int32) : Int32 := if form = 0 then v.toInt8.toInt32 else if form = 1 then v.toInt16.toInt32 else v
def RShe (la : Int32) (it fo si : Nat → Int32) (mf : Int32) (th mfo msi mit : Nat → Int32) : Prop :=
  la = mf ∧ ∀ s, s < 4 → (∃ n : Nat, n ≤ 60 ∧ si s = nI n ∧ msi s = nI n ∧ ((fo s = -1 ∧ th s = 0) ∨ (∃ f : Nat, f < 3 ∧ fo s = nI f ∧ mfo s = nI f ∧ th s = 1 ∧ ∀ i, i < n → it (60 * s + i) = mit (60 * s + i))))
theorem nar1 : vp_nar .boolean 1 = 1 := by decide
theorem nar0 : vp_nar .boolean 0 = 0 := by decide
theorem L_isPlace_eq (a : Int32) : fL_isPlace a = some (if 0 ≤ a ∧ a ≤ 3 then 1 else 0) := by
  unfold fL_isPlace
  rcases ix0 a 4 (by decide) with h | h | ⟨j, hj, rfl⟩
  · rw [if_pos h, if_neg (fun q : (0 : Int32) ≤ a ∧ a ≤ 3 => o_ltn h q.1)]
  · have h3 : ¬ a ≤ 3 := fun q => o_ltn (nI_lt (a := 3) (b := 4) (by decide) (by decide)) (o_tr h q)
    rw [if_neg (o_len (o_tr (nI_pos' (by decide)) h)), if_pos (show (4 : Int32) ≤ a from h), if_neg (fun q : (0 : Int32) ≤ a ∧ a ≤ 3 => h3 q.2)]
  · rw [if_neg (nI_pos (by omega)), if_neg ((show ¬ (4 : Int32) ≤ nI _ from nI_ge (b := 4) hj (by decide))), if_pos (And.intro (nI_pos' (by omega)) ((show nI _ ≤ (3 : Int32) from nI_le (b := 3) (by omega) (by decide))))]
theorem L_isForm_eq (a : Int32) : fL_isForm a = some (if 0 ≤ a ∧ a ≤ 2 then 1 else 0) := by
  unfold fL_isForm
  rcases ix0 a 3 (by decide) with h | h | ⟨j, hj, rfl⟩
  · rw [if_pos h, if_neg (fun q : (0 : Int32) ≤ a ∧ a ≤ 2 => o_ltn h q.1)]
  · have h3 : ¬ a ≤ 2 := fun q => o_ltn (nI_lt (a := 2) (b := 3) (by decide) (by decide)) (o_tr h q)
    rw [if_neg (o_len (o_tr (nI_pos' (by decide)) h)), if_pos (o_nle h3), if_neg (fun q : (0 : Int32) ≤ a ∧ a ≤ 2 => h3 q.2)]
  · rw [if_neg (nI_pos (by omega)), if_neg ((show ¬ (2 : Int32) < nI _ from nI_nlt (a := 2) (by omega) (by decide))), if_pos (And.intro (nI_pos' (by omega)) ((show nI _ ≤ (2 : Int32) from nI_le (b := 2) (by omega) (by decide))))]
/-- a sheet's number, or none -/
theorem plc (a : Int32) : (∃ j : Nat, j < 4 ∧ a = nI j ∧ fL_isPlace a = some 1 ∧ fM_isSheet a = some 1) ∨ (fL_isPlace a = some 0 ∧ fM_isSheet a = some 0) := by
  rw [L_isPlace_eq, M_isSheet_eq]
  by_cases c : (0 : Int32) ≤ a ∧ a ≤ 3
  · left
    obtain ⟨j, -, h2, rfl⟩ := nI_mid (a := 0) (b := 3) (by decide) c.1 c.2 (by decide)
    exact ⟨j, by omega, rfl, by rw [if_pos c], by rw [if_pos c]⟩
  · right
    rw [if_neg c]
    exact ⟨rfl, rfl⟩
theorem frm (a : Int32) : (∃ j : Nat, j < 3 ∧ a = nI j ∧ fL_isForm a = some 1 ∧ fM_in a 0 2 = some 1) ∨ (fL_isForm a = some 0 ∧ fM_in a 0 2 = some 0) := by
  rw [L_isForm_eq, M_in_eq]
  by_cases c : (0 : Int32) ≤ a ∧ a ≤ 2
  · left
    obtain ⟨j, -, h2, rfl⟩ := nI_mid (a := 0) (b := 2) (by decide) c.1 c.2 (by decide)
    exact ⟨j, by omega, rfl, by rw [if_pos c], by rw [if_pos c]⟩
  · right
    rw [if_neg c]
    exact ⟨rfl, rfl⟩
theorem ixC {s i : Nat} (hs : s < 4) (hi : i < 60) : nI s * 60 + nI i = nI (60 * s + i) := by
  rw [show (60 : Int32) = nI 60 from rfl, pk_mul, nI_add, Nat.mul_comm]
theorem ixM {s i : Nat} : (60 : Int32) * nI s + nI i = nI (60 * s + i) := by
  rw [show (60 : Int32) = nI 60 from rfl, pk_mul, nI_add]
theorem L_store_eq {s i : Nat} (hs : s < 4) (hi : i < 60) (v : Int32) (it fo : Nat → Int32) : fL_store (nI s) (nI i) v it fo = some (upd it (60 * s + i) (cutF (fo s) v)) := by
  unfold fL_store fL_store_33 cutF
  rw [ck_nI hs (by decide), ck_nI hs (by decide), nI_clamp (by omega), ixC hs hi, nI_clamp (by omega)]
  have c : ∀ (k : Option (Nat → Int32)), ck 240 (nI (60 * s + i)) k = k := fun k => ck_nI (by omega) (by decide)
  by_cases h0 : fo s = 0
  · rw [if_pos h0, if_pos h0, c]
  · rw [if_neg h0, if_neg h0]
    by_cases h1 : fo s = 1
    · rw [if_pos h1, if_pos h1, c]
    · rw [if_neg h1, if_neg h1, c]
theorem M_keep_eq {s i : Nat} (hs : s < 4) (hi : i < 60) (v : Int32) (it fo : Nat → Int32) : fM_keep (nI s) (nI i) v fo it = some (upd it (60 * s + i) (cutF (fo s) v)) := by
  unfold fM_keep fM_keep_40 cutF
  rw [ck_nI hs (by decide), ck_nI hs (by decide), nI_clamp (by omega), ixM, nI_clamp (by omega)]
  have c : ∀ (k : Option (Nat → Int32)), ck 240 (nI (60 * s + i)) k = k := fun k => ck_nI (by omega) (by decide)
  by_cases h0 : fo s = 0
  · rw [if_pos h0, if_pos h0, c]
  · rw [if_neg h0, if_neg h0]
    by_cases h1 : fo s = 1
    · rw [if_pos h1, if_pos h1, c]
    · rw [if_neg h1, if_neg h1, c]
theorem L_isLost_eq {s : Nat} (hs : s < 4) (fo : Nat → Int32) : fL_isLost (nI s) fo = some (if fo s = -1 then 1 else 0) := by
  unfold fL_isLost
  rw [ck_nI hs (by decide), nI_clamp (by omega)]
  split <;> rfl
/-- one item more, alike on both sides -/
theorem RShe_put {la : Int32} {it fo si : Nat → Int32} {mf : Int32} {th mfo msi mit : Nat → Int32} (h : RShe la it fo si mf th mfo msi mit) {s i : Nat} (hs : s < 4) (v : Int32) : RShe la (upd it (60 * s + i) (cutF (fo s) v)) fo si mf th mfo msi (upd mit (60 * s + i) (cutF (fo s) v)) := by
  obtain ⟨h1, h2⟩ := h
  refine ⟨h1, fun t ht => ?_⟩
  obtain ⟨n, hn, g1, g2, g3⟩ := h2 t ht
  refine ⟨n, hn, g1, g2, ?_⟩
  rcases g3 with g3 | ⟨f, hf, k1, k2, k3, k4⟩
  · exact Or.inl g3
  · refine Or.inr ⟨f, hf, k1, k2, k3, fun j hj => ?_⟩
    by_cases e : 60 * t + j = 60 * s + i
    · rw [e, pk_us, pk_us]
    · rw [pk_un e, pk_un e]
      exact k4 j hj
/-- what stands against an item -/
theorem she_find {la : Int32} {it fo si : Nat → Int32} {mf : Int32} {th mfo msi mit : Nat → Int32} (h : RShe la it fo si mf th mfo msi mit) {s f : Nat} (hs : s < 4) (hf : f < 3) (i : Int32) :
    (∃ r : Nat, 1 ≤ r ∧ r ≤ 3 ∧ fL_findingAt (nI s) (nI f) i fo si = some (nI r) ∧ fM_lacks (nI s) (nI f) i th mfo msi = some (nI r)) ∨ (∃ j n : Nat, j < n ∧ n ≤ 60 ∧ i = nI j ∧ si s = nI n ∧ fo s = nI f ∧ mfo s = nI f ∧ th s = 1 ∧ (∀ i, i < n → it (60 * s + i) = mit (60 * s + i)) ∧ fL_findingAt (nI s) (nI f) i fo si = some 0 ∧ fM_lacks (nI s) (nI f) i th mfo msi = some 0) := by
  have z1 : ¬ (1 : Int32) = 0 := by decide
  obtain ⟨-, h2⟩ := h
  obtain ⟨n, hn, g1, g2, g3⟩ := h2 s hs
  unfold fL_findingAt fM_lacks fL_findingAt_36
  rw [L_isLost_eq hs, bd_some, ck_nI hs (by decide), ck_nI hs (by decide), ck_nI hs (by decide), ck_nI hs (by decide), ck_nI hs (by decide), nI_clamp (by omega)]
  rcases g3 with ⟨q1, q2⟩ | ⟨f2, hf2, k1, k2, k3, k4⟩
  · left
    rw [if_pos q1, if_neg z1, if_pos q2]
    exact ⟨1, by omega, by omega, rfl, rfl⟩
  · rw [if_neg (show ¬ fo s = -1 by rw [k1]; exact nI_ne_m1 (by omega)), if_pos rfl, if_neg (show ¬ th s = 0 by rw [k3]; exact z1), k1, k2]
    by_cases e : f2 = f
    · subst e
      rw [if_pos rfl, if_pos rfl, M_in_eq, bd_some, g1, g2]
      rcases ix0 i n (by omega) with q | q | ⟨j, hj, rfl⟩
      · left
        rw [if_pos q, if_neg (fun w : (0 : Int32) ≤ i ∧ i ≤ nI n - 1 => o_ltn q w.1), if_pos rfl]
        exact ⟨2, by omega, by omega, rfl, rfl⟩
      · left
        have q0 : ¬ i < 0 := o_len (o_tr (nI_pos' (by omega)) q)
        have q3 : ¬ i ≤ nI n - 1 := by
          rw [Int32.le_iff_toInt_le, show (1 : Int32) = nI 1 from rfl, pk_sub_toInt (by omega) (by omega)]
          rw [Int32.le_iff_toInt_le, nI_toInt (by omega)] at q
          omega
        rw [if_neg q0, if_neg (o_len q), if_neg (fun w : (0 : Int32) ≤ i ∧ i ≤ nI n - 1 => q3 w.2), if_pos rfl]
        exact ⟨2, by omega, by omega, rfl, rfl⟩
      · right
        have q3 : nI j ≤ nI n - 1 := by
          rw [show (1 : Int32) = nI 1 from rfl, pk_sub (by omega)]
          exact nI_le (by omega) (by omega)
        rw [if_neg (nI_pos (by omega)), if_pos (nI_lt hj (by omega)), if_pos (And.intro (nI_pos' (by omega)) (q3)), if_neg z1]
        exact ⟨j, n, hj, hn, rfl, rfl, rfl, rfl, k3, k4, rfl, rfl⟩
    · left
      have ne : ¬ nI f2 = nI f := fun w => e ((nI_eq (by omega) (by omega)).mp w)
      rw [if_neg ne, if_neg ne]
      exact ⟨3, by omega, by omega, rfl, rfl⟩
theorem L_finding_eq (r la : Int32) : fL_finding r la = some (-10 - r, r) := rfl
theorem M_meets_eq (r mf : Int32) : fM_meets r mf = some (-10 - r, r) := rfl
theorem RShe_la {la : Int32} {it fo si : Nat → Int32} {mf : Int32} {th mfo msi mit : Nat → Int32} (h : RShe la it fo si mf th mfo msi mit) (r : Int32) : RShe r it fo si r th mfo msi mit := ⟨rfl, h.2⟩
theorem she_put {la : Int32} {it fo si : Nat → Int32} {mf : Int32} {th mfo msi mit : Nat → Int32} (h : RShe la it fo si mf th mfo msi mit) (a1 a2 a3 a4 : Int32) :
    ∃ (r la2 : Int32) (it2 mit2 : Nat → Int32), fC_put a1 a2 a3 a4 la it fo si = some (r, la2, it2) ∧ fM_put a1 a2 a3 a4 mf th mfo msi mit = some (r, la2, mit2) ∧ RShe la2 it2 fo si la2 th mfo msi mit2 := by
  have z1 : ¬ (1 : Int32) = 0 := by decide
  have hl : la = mf := h.1
  subst hl
  unfold fC_put fM_put
  rcases plc a1 with ⟨s, hs, rfl, e1, e2⟩ | ⟨e1, e2⟩
  · rw [e1, e2, bd_some, bd_some, if_neg z1, if_neg z1]
    rcases frm a2 with ⟨f, hf, rfl, e3, e4⟩ | ⟨e3, e4⟩
    · rw [e3, e4, bd_some, bd_some, if_neg z1, if_neg z1]
      rcases she_find h hs hf a3 with ⟨r, r1, r2, e5, e6⟩ | ⟨j, n, hj, hn, rfl, g1, k1, k2, k3, k4, e5, e6⟩
      · rw [e5, e6, bd_some, bd_some, if_neg (nI_ne0 r1 (by omega)), if_neg (nI_nle r1 (by omega)), L_finding_eq, M_meets_eq, bd_some, bd_some]
        exact ⟨_, _, _, _, rfl, rfl, RShe_la h _⟩
      · rw [e5, e6, bd_some, bd_some, if_pos rfl, if_pos (show (0 : Int32) ≤ 0 by decide), L_store_eq hs (by omega), M_keep_eq hs (by omega), bd_some, bd_some, k2, ← k1]
        exact ⟨_, _, _, _, rfl, rfl, RShe_put h hs a4⟩
    · rw [e3, e4, bd_some, bd_some, if_pos rfl, if_pos rfl]
      exact ⟨_, _, _, _, rfl, rfl, h⟩
  · rw [e1, e2, bd_some, bd_some, if_pos rfl, if_pos rfl]
    exact ⟨_, _, _, _, rfl, rfl, h⟩
theorem L_itemAt_eq {s i : Nat} (hs : s < 4) (hi : i < 60) (it : Nat → Int32) : fL_itemAt (nI s) (nI i) it = some (it (60 * s + i)) := by
  unfold fL_itemAt
  rw [ixC hs hi, ck_nI (by omega) (by decide), nI_clamp (by omega)]
theorem she_get {la : Int32} {it fo si : Nat → Int32} {mf : Int32} {th mfo msi mit : Nat → Int32} (h : RShe la it fo si mf th mfo msi mit) (a1 a2 a3 : Int32) :
    ∃ (r la2 : Int32), fC_get a1 a2 a3 la it fo si = some (r, la2) ∧ fM_get a1 a2 a3 mf th mfo msi mit = some (r, la2) ∧ RShe la2 it fo si la2 th mfo msi mit := by
  have z1 : ¬ (1 : Int32) = 0 := by decide
  have hl : la = mf := h.1
  subst hl
  unfold fC_get fM_get fC_get_14 fM_get_16
  rcases plc a1 with ⟨s, hs, rfl, e1, e2⟩ | ⟨e1, e2⟩
  · rw [e1, e2, bd_some, bd_some, if_neg z1, if_neg z1]
    rcases frm a2 with ⟨f, hf, rfl, e3, e4⟩ | ⟨e3, e4⟩
    · rw [e3, e4, bd_some, bd_some, if_neg z1, if_neg z1]
      rcases she_find h hs hf a3 with ⟨r, r1, r2, e5, e6⟩ | ⟨j, n, hj, hn, rfl, g1, k1, k2, k3, k4, e5, e6⟩
      · rw [e5, e6, bd_some, bd_some, if_neg (nI_ne0 r1 (by omega)), if_neg (nI_nle r1 (by omega)), L_finding_eq, bd_some]
        exact ⟨_, _, rfl, rfl, RShe_la h _⟩
      · rw [e5, e6, bd_some, bd_some, if_pos rfl, if_pos (show (0 : Int32) ≤ 0 by decide), L_itemAt_eq hs (by omega), bd_some, ixM, ck_nI (by omega) (by decide), nI_clamp (by omega), k4 j hj]
        exact ⟨_, _, rfl, rfl, h⟩
    · rw [e3, e4, bd_some, bd_some, if_pos rfl, if_pos rfl]
      exact ⟨_, _, rfl, rfl, h⟩
  · rw [e1, e2, bd_some, bd_some, if_pos rfl, if_pos rfl]
    exact ⟨_, _, rfl, rfl, h⟩
theorem she_lose {la : Int32} {it fo si : Nat → Int32} {mf : Int32} {th mfo msi mit : Nat → Int32} (h : RShe la it fo si mf th mfo msi mit) (a1 : Int32) :
    ∃ (r la2 : Int32) (fo2 th2 : Nat → Int32), fC_lose a1 la fo si = some (r, la2, fo2) ∧ fM_lose a1 mf th msi = some (r, la2, th2) ∧ RShe la2 it fo2 si la2 th2 mfo msi mit := by
  have z1 : ¬ (1 : Int32) = 0 := by decide
  have hl : la = mf := h.1
  subst hl
  unfold fC_lose fM_lose fL_takeAway
  rcases plc a1 with ⟨s, hs, rfl, e1, e2⟩ | ⟨e1, e2⟩
  · obtain ⟨n, hn, g1, g2, g3⟩ := h.2 s hs
    rw [e1, e2, bd_some, bd_some, if_neg z1, if_neg z1, L_isLost_eq hs, bd_some, ck_nI hs (by decide), ck_nI hs (by decide), ck_nI hs (by decide), ck_nI hs (by decide), ck_nI hs (by decide), nI_clamp (by omega)]
    rcases g3 with ⟨q1, q2⟩ | ⟨f2, hf2, k1, k2, k3, k4⟩
    · rw [if_pos q1, if_neg z1, if_pos q2, L_finding_eq, M_meets_eq, bd_some, bd_some]
      exact ⟨_, _, _, _, rfl, rfl, RShe_la h _⟩
    · rw [if_neg (show ¬ fo s = -1 by rw [k1]; exact nI_ne_m1 (by omega)), if_pos rfl, if_neg (show ¬ th s = 0 by rw [k3]; exact z1), g1, g2, nar0, bd_some]
      refine ⟨nI n, la, upd fo s (-1), upd th s 0, rfl, rfl, rfl, fun t ht => ?_⟩
      by_cases e : t = s
      · subst e
        exact ⟨n, hn, g1, g2, Or.inl ⟨pk_us, pk_us⟩⟩
      · obtain ⟨n', hn', g1', g2', g3'⟩ := h.2 t ht
        refine ⟨n', hn', g1', g2', ?_⟩
        rw [pk_un e, pk_un e]
        exact g3'
  · rw [e1, e2, bd_some, bd_some, if_pos rfl, if_pos rfl]
    exact ⟨_, _, _, _, rfl, rfl, h⟩
theorem cut0 (f : Int32) : cutF f 0 = 0 := by
  unfold cutF
  split
  · decide
  · split
    · decide
    · rfl
/-- a row of zeros in a row -/
def zr (g : Nat → Int32) (a j : Nat) : Nat → Int32 := fun k => if a ≤ k ∧ k < a + j then 0 else g k
theorem zr_succ (g : Nat → Int32) (a j : Nat) : upd (zr g a j) (a + j) 0 = zr g a (j + 1) := by
  funext k
  by_cases e : k = a + j
  · subst e
    rw [pk_us]
    show 0 = if a ≤ a + j ∧ a + j < a + (j + 1) then 0 else g (a + j)
    rw [if_pos (by omega)]
  · rw [pk_un e]
    show (if a ≤ k ∧ k < a + j then 0 else g k) = (if a ≤ k ∧ k < a + (j + 1) then 0 else g k)
    by_cases q : a ≤ k ∧ k < a + j
    · rw [if_pos q, if_pos (by omega)]
    · rw [if_neg q, if_neg (by omega)]
theorem zr_0 (g : Nat → Int32) (a : Nat) : zr g a 0 = g := by
  funext k
  show (if a ≤ k ∧ k < a + 0 then 0 else g k) = g k
  rw [if_neg (by omega)]
theorem L_layOut_go {s n : Nat} (hs : s < 4) (hn : n ≤ 60) (la : Int32) (fo si it : Nat → Int32) : ∀ (m j : Nat), j + m = n → ∀ f, m < f → fL_layOut_27 (nI s) (nI n) la fo si f (nI j) (zr it (60 * s) j) = some (nI n, la, zr it (60 * s) n, fo, si)
  | 0, j, hj, f, hf => by
    obtain ⟨f, rfl⟩ : ∃ g, f = g + 1 := ⟨f - 1, by omega⟩
    show fL_layOut_27_b _ _ _ _ _ _ _ _ = _
    unfold fL_layOut_27_b
    rw [if_pos (nI_le (show n ≤ j by omega) (by omega)), show j = n by omega]
  | m + 1, j, hj, f, hf => by
    obtain ⟨f, rfl⟩ : ∃ g, f = g + 1 := ⟨f - 1, by omega⟩
    show fL_layOut_27_b _ _ _ _ _ _ _ _ = _
    unfold fL_layOut_27_b
    rw [if_neg (nI_ge (show j < n by omega) (by omega)), L_store_eq hs (by omega), bd_some, cut0, nI_1, zr_succ]
    exact L_layOut_go hs hn la fo si it m (j + 1) (by omega) f (by omega)
theorem M_sheet_go {s : Nat} (hs : s < 4) (n mf : Int32) (th mfo msi it : Nat → Int32) : ∀ (m j : Nat), j + m = 60 → ∀ f, m < f → fM_sheet_59 (nI s) n mf th mfo msi f (nI j) (zr it (60 * s) j) = some (n, mf, th, mfo, msi, zr it (60 * s) 60)
  | 0, j, hj, f, hf => by
    obtain ⟨f, rfl⟩ : ∃ g, f = g + 1 := ⟨f - 1, by omega⟩
    show fM_sheet_59_b _ _ _ _ _ _ _ _ _ = _
    unfold fM_sheet_59_b
    rw [if_pos ((show (60 : Int32) ≤ nI _ from nI_le (a := 60) (show 60 ≤ j by omega) (by omega))), show j = 60 by omega]
  | m + 1, j, hj, f, hf => by
    obtain ⟨f, rfl⟩ : ∃ g, f = g + 1 := ⟨f - 1, by omega⟩
    show fM_sheet_59_b _ _ _ _ _ _ _ _ _ = _
    unfold fM_sheet_59_b
    rw [if_neg ((show ¬ (60 : Int32) ≤ nI _ from nI_ge (b := 60) (show j < 60 by omega) (by decide))), ixM, ck_nI (by omega) (by decide), nI_clamp (by omega), nI_1, zr_succ]
    exact M_sheet_go hs n mf th mfo msi it m (j + 1) (by omega) f (by omega)
theorem she_sheet {la : Int32} {it fo si : Nat → Int32} {mf : Int32} {th mfo msi mit : Nat → Int32} (h : RShe la it fo si mf th mfo msi mit) (a1 a2 a3 : Int32) :
    ∃ (r la2 : Int32) (it2 fo2 si2 th2 mfo2 msi2 mit2 : Nat → Int32), fC_sheet a1 a2 a3 la it fo si = some (r, la2, it2, fo2, si2) ∧ fM_sheet a1 a2 a3 mf th mfo msi mit = some (r, la2, th2, mfo2, msi2, mit2) ∧ RShe la2 it2 fo2 si2 la2 th2 mfo2 msi2 mit2 := by
  have z1 : ¬ (1 : Int32) = 0 := by decide
  have hl : la = mf := h.1
  subst hl
  unfold fC_sheet fM_sheet
  rcases plc a1 with ⟨s, hs, rfl, e1, e2⟩ | ⟨e1, e2⟩
  · rw [e1, e2, bd_some, bd_some, if_neg z1, if_neg z1]
    rcases frm a2 with ⟨f, hf, rfl, e3, e4⟩ | ⟨e3, e4⟩
    · rw [e3, e4, bd_some, bd_some, if_neg z1, if_neg z1]
      by_cases c : a3 ≤ 60
      · rw [if_pos c, if_pos c]
        unfold fL_layOut
        by_cases c0 : (0 : Int32) ≤ a3
        · obtain ⟨n, -, hn, rfl⟩ := nI_mid (a := 0) (b := 60) (by decide) c0 c (by decide)
          rw [if_pos c0, if_pos c0, ck_nI hs (by decide), ck_nI hs (by decide), ck_nI hs (by decide), ck_nI hs (by decide), ck_nI hs (by decide), nI_clamp (by omega), nar1]
          have k1 := L_layOut_go hs hn la (upd fo s (nI f)) (upd si s (nI n)) it n 0 (by omega) FU (by rw [FU_eq]; omega)
          have k2 := M_sheet_go hs (nI n) la (upd th s 1) (upd mfo s (nI f)) (upd msi s (nI n)) mit 60 0 (by omega) FU (by rw [FU_eq]; omega)
          rw [zr_0] at k1 k2
          rw [show (0 : Int32) = nI 0 from rfl, k1, k2, bd_some]
          refine ⟨nI n, la, zr it (60 * s) n, upd fo s (nI f), upd si s (nI n), upd th s 1, upd mfo s (nI f), upd msi s (nI n), zr mit (60 * s) 60, rfl, rfl, rfl, fun t ht => ?_⟩
          by_cases e : t = s
          · subst e
            rw [pk_us, pk_us, pk_us, pk_us, pk_us]
            refine ⟨n, hn, rfl, rfl, Or.inr ⟨f, hf, rfl, rfl, rfl, fun i hi => ?_⟩⟩
            show (if 60 * t ≤ 60 * t + i ∧ 60 * t + i < 60 * t + n then (0 : Int32) else it (60 * t + i)) = (if 60 * t ≤ 60 * t + i ∧ 60 * t + i < 60 * t + 60 then (0 : Int32) else mit (60 * t + i))
            rw [if_pos (by omega), if_pos (by omega)]
          · rw [pk_un e, pk_un e, pk_un e, pk_un e, pk_un e]
            obtain ⟨n', hn', g1, g2, g3⟩ := h.2 t ht
            refine ⟨n', hn', g1, g2, ?_⟩
            rcases g3 with g3 | ⟨f', hf', k1', k2', k3', k4'⟩
            · exact Or.inl g3
            · refine Or.inr ⟨f', hf', k1', k2', k3', fun i hi => ?_⟩
              show (if 60 * s ≤ 60 * t + i ∧ 60 * t + i < 60 * s + n then (0 : Int32) else it (60 * t + i)) = (if 60 * s ≤ 60 * t + i ∧ 60 * t + i < 60 * s + 60 then (0 : Int32) else mit (60 * t + i))
              rw [if_neg (by omega), if_neg (by omega)]
              exact k4' i hi
        · rw [if_neg c0, if_neg c0, L_finding_eq, M_meets_eq, bd_some, bd_some, bd_some]
          exact ⟨_, _, _, _, _, _, _, _, _, rfl, rfl, RShe_la h _⟩
      · rw [if_neg c, if_neg c]
        exact ⟨_, _, _, _, _, _, _, _, _, rfl, rfl, h⟩
    · rw [e3, e4, bd_some, bd_some, if_pos rfl, if_pos rfl]
      exact ⟨_, _, _, _, _, _, _, _, _, rfl, rfl, h⟩
  · rw [e1, e2, bd_some, bd_some, if_pos rfl, if_pos rfl]
    exact ⟨_, _, _, _, _, _, _, _, _, rfl, rfl, h⟩
/-! ===== copy ===== -/
theorem M_copy_157_go {t j n : Nat} (ht : t < 4) (hj : j + n ≤ 60) (mf : Int32) (mv it : Nat → Int32) : ∀ (m k : Nat), k + m = n → ∀ f, m < f → fM_copy_157 (nI t) (nI j) (nI n) mf mv f (nI k) (fb_put it mv (60 * t + j) k) = some (1, mf, fb_put it mv (60 * t + j) n, mv)
  | 0, k, hk, f, hf => by
    obtain ⟨f, rfl⟩ : ∃ g, f = g + 1 := ⟨f - 1, by omega⟩
    show fM_copy_157_b _ _ _ _ _ _ _ _ = _
    unfold fM_copy_157_b
    rw [if_pos (nI_le (show n ≤ k by omega) (by omega)), show k = n by omega]
  | m + 1, k, hk, f, hf => by
    obtain ⟨f, rfl⟩ : ∃ g, f = g + 1 := ⟨f - 1, by omega⟩
    show fM_copy_157_b _ _ _ _ _ _ _ _ = _
    unfold fM_copy_157_b
    rw [if_neg (nI_ge (show k < n by omega) (by omega)), ck_nI (show k < 60 by omega) (by decide), ixM, nI_add, ck_nI (by omega) (by decide), nI_clamp (by omega), nI_clamp (by omega), nI_1, fb_put_succ]
    exact M_copy_157_go ht hj mf mv it m (k + 1) (by omega) f (by omega)
theorem M_copy_120_go {s i t j n : Nat} (hs : s < 4) (hi : i + n ≤ 60) (ht : t < 4) (hj : j + n ≤ 60) (mf : Int32) (mv it : Nat → Int32) : ∀ (m k : Nat), k + m = n → ∀ f, m < f → fM_copy_120 (nI s) (nI i) (nI t) (nI j) (nI n) mf it f (nI k) (fb_put mv (fun q => it (60 * s + i + q)) 0 k) = some (1, mf, fb_put it (fb_put mv (fun q => it (60 * s + i + q)) 0 n) (60 * t + j) n, fb_put mv (fun q => it (60 * s + i + q)) 0 n)
  | 0, k, hk, f, hf => by
    obtain ⟨f, rfl⟩ : ∃ g, f = g + 1 := ⟨f - 1, by omega⟩
    show fM_copy_120_b _ _ _ _ _ _ _ _ _ _ = _
    unfold fM_copy_120_b
    rw [if_pos (nI_le (show n ≤ k by omega) (by omega)), show k = n by omega]
    have h := M_copy_157_go ht hj mf (fb_put mv (fun q => it (60 * s + i + q)) 0 n) it n 0 (by omega) FU (by rw [FU_eq]; omega)
    rw [fb_put_0] at h
    exact h
  | m + 1, k, hk, f, hf => by
    obtain ⟨f, rfl⟩ : ∃ g, f = g + 1 := ⟨f - 1, by omega⟩
    show fM_copy_120_b _ _ _ _ _ _ _ _ _ _ = _
    unfold fM_copy_120_b
    rw [if_neg (nI_ge (show k < n by omega) (by omega)), ixM, nI_add, ck_nI (by omega) (by decide), ck_nI (show k < 60 by omega) (by decide), nI_clamp (by omega), nI_clamp (by omega), nI_1]
    have e := fb_put_succ mv (fun q => it (60 * s + i + q)) 0 k
    rw [Nat.zero_add] at e
    rw [e]
    exact M_copy_120_go hs hi ht hj mf mv it m (k + 1) (by omega) f (by omega)
theorem she_copy {la : Int32} {it fo si : Nat → Int32} {mf : Int32} {th mfo msi mit : Nat → Int32} (h : RShe la it fo si mf th mfo msi mit) (a1 a2 a3 a4 a5 : Int32) (mv : Nat → Int32) :
    ∃ (r la2 : Int32) (it2 mit2 mv2 : Nat → Int32), fC_copy a1 a2 a3 a4 a5 la it fo si = some (r, la2, it2) ∧ fM_copy a1 a2 a3 a4 a5 mf th mfo msi mit mv = some (r, la2, mit2, mv2) ∧ RShe la2 it2 fo si la2 th mfo msi mit2 := by
  have z1 : ¬ (1 : Int32) = 0 := by decide
  have hl : la = mf := h.1
  subst hl
  unfold fC_copy fM_copy
  rcases plc a1 with ⟨s, hs, rfl, e1, e2⟩ | ⟨e1, e2⟩
  · rw [e1, e2, bd_some, bd_some, if_neg z1, if_neg z1]
    rcases plc a3 with ⟨t, ht, rfl, e3, e4⟩ | ⟨e3, e4⟩
    · rw [e3, e4, bd_some, bd_some, if_neg z1, if_neg z1]
      obtain ⟨n, hn, g1, g2, g3⟩ := h.2 s hs
      obtain ⟨n', hn', g1', g2', g3'⟩ := h.2 t ht
      have c1 : ∀ {α : Type} (k : Option α), ck 4 (nI s) k = k := fun k => ck_nI hs (by decide)
      have c2 : ∀ {α : Type} (k : Option α), ck 4 (nI t) k = k := fun k => ck_nI ht (by decide)
      unfold fL_copyItems fL_copyItems_16 fL_copyItems_66 fM_copy_35 fM_copy_111 fL_hasItems
      simp only [L_isLost_eq hs, L_isLost_eq ht, bd_some, c1, c2, L_finding_eq, M_meets_eq, nI_clamp (show s < 2 ^ 31 by omega), nI_clamp (show t < 2 ^ 31 by omega)]
      rcases g3 with ⟨q1, q2⟩ | ⟨f, hf, k1, k2, k3, k4⟩
      · rw [if_pos q1, if_neg z1, if_pos q2]
        exact ⟨_, _, _, _, _, rfl, rfl, RShe_la h _⟩
      · rw [if_neg (show ¬ fo s = -1 by rw [k1]; exact nI_ne_m1 (by omega)), if_pos rfl, if_neg (show ¬ th s = 0 by rw [k3]; exact z1)]
        rcases g3' with ⟨q1, q2⟩ | ⟨f', hf', k1', k2', k3', k4'⟩
        · rw [if_pos q1, if_neg z1, if_pos q2]
          exact ⟨_, _, _, _, _, rfl, rfl, RShe_la h _⟩
        · rw [if_neg (show ¬ fo t = -1 by rw [k1']; exact nI_ne_m1 (by omega)), if_pos rfl, if_neg (show ¬ th t = 0 by rw [k3']; exact z1), k1, k1', k2, k2']
          by_cases ef : nI f = nI f'
          · rw [if_pos ef, if_pos ef]
            by_cases b2 : a2 < 0
            · rw [if_pos b2, if_pos b2, bd_some, if_pos rfl]
              exact ⟨_, _, _, _, _, rfl, rfl, RShe_la h _⟩
            · rw [if_neg b2, if_neg b2]
              by_cases b5 : a5 < 0
              · rw [if_pos b5, if_pos b5, bd_some, if_pos rfl]
                by_cases b4 : a4 < 0
                · rw [if_pos b4]
                  exact ⟨_, _, _, _, _, rfl, rfl, RShe_la h _⟩
                · rw [if_neg b4, if_pos b5]
                  exact ⟨_, _, _, _, _, rfl, rfl, RShe_la h _⟩
              · rw [if_neg b5, if_neg b5, if_neg b5]
                obtain ⟨i, hi, rfl⟩ := nI_of b2
                obtain ⟨m, hm, rfl⟩ := nI_of b5
                rw [g1, g2, g1', g2', nI_l hi, nI_l hm, nI_l (show n < 2 ^ 31 by omega), nI_l (show n' < 2 ^ 31 by omega), lN_add]
                by_cases d1 : i + m ≤ n
                · rw [if_neg (show ¬ nI n < nI m from nI_nlt (by omega) (by omega)), pk_sub (show m ≤ n by omega), if_neg (show ¬ nI (n - m) < nI i from nI_nlt (by omega) (by omega)), bd_some, if_neg z1]
                  rw [if_neg (show ¬ 0 < lg_cmp (lN (i + m)) (lN n) by rw [lg_cmp_gt, pk_lLT (by omega) (by omega)]; omega)]
                  by_cases b4 : a4 < 0
                  · rw [if_pos b4, if_pos b4, bd_some, if_pos rfl]
                    exact ⟨_, _, _, _, _, rfl, rfl, RShe_la h _⟩
                  · rw [if_neg b4, if_neg b4]
                    obtain ⟨j, hj, rfl⟩ := nI_of b4
                    rw [nI_l hj, lN_add]
                    by_cases d2 : j + m ≤ n'
                    · rw [if_neg (show ¬ nI n' < nI m from nI_nlt (by omega) (by omega)), pk_sub (show m ≤ n' by omega), if_neg (show ¬ nI (n' - m) < nI j from nI_nlt (by omega) (by omega)), bd_some, if_neg z1]
                      rw [if_pos (show lg_cmp (lN (j + m)) (lN n') ≤ 0 by rw [lg_cmp_le, pk_lLE (by omega) (by omega)]; exact d2)]
                      rcases Nat.eq_zero_or_pos m with m0 | m0
                      · subst m0
                        have hk := M_copy_120_go (i := i) (j := j) (n := 0) hs (by omega) ht (by omega) la mv mit 0 0 (by omega) FU (by rw [FU_eq]; omega)
                        rw [fb_put_0] at hk
                        rw [show (0 : Int32) = nI 0 from rfl, hk, fb_put_0]
                        rw [show (60 : Int32) = nI 60 from rfl, pk_mul, nI_add, pk_mul, nI_add, ac_in (by
                          refine ⟨nI_pos (by omega), nI_pos (by omega), nI_pos (by omega), ?_, ?_⟩
                          · rw [nI_clamp (by omega), nI_clamp (by omega)]; omega
                          · rw [nI_clamp (by omega), nI_clamp (by omega)]; omega)]
                        refine ⟨_, _, _, _, _, rfl, rfl, ?_⟩
                        have ev : va_cpy it it (nI (s * 60 + i)).toNatClampNeg (nI (t * 60 + j)).toNatClampNeg (nI 0).toNatClampNeg = it := by
                          funext k
                          rw [nI_clamp (show 0 < 2 ^ 31 by decide)]
                          exact pk_cpy_out (by omega)
                        rw [ev]
                        exact h
                      · have hk := M_copy_120_go (i := i) (j := j) (n := m) hs (by omega) ht (by omega) la mv mit m 0 (by omega) FU (by rw [FU_eq]; omega)
                        rw [fb_put_0] at hk
                        rw [show (0 : Int32) = nI 0 from rfl, hk]
                        rw [show (60 : Int32) = nI 60 from rfl, pk_mul, nI_add, pk_mul, nI_add, ac_in (by
                          refine ⟨nI_pos (by omega), nI_pos (by omega), nI_pos (by omega), ?_, ?_⟩
                          · rw [nI_clamp (by omega), nI_clamp (by omega)]; omega
                          · rw [nI_clamp (by omega), nI_clamp (by omega)]; omega)]
                        rw [nI_clamp (show s * 60 + i < 2 ^ 31 by omega), nI_clamp (show t * 60 + j < 2 ^ 31 by omega), nI_clamp hm]
                        refine ⟨1, la, va_cpy it it (s * 60 + i) (t * 60 + j) m, fb_put mit (fb_put mv (fun q => mit (60 * s + i + q)) 0 m) (60 * t + j) m, fb_put mv (fun q => mit (60 * s + i + q)) 0 m, rfl, rfl, rfl, fun x hx => ?_⟩
                        obtain ⟨w, hw, y1, y2, y3⟩ := h.2 x hx
                        refine ⟨w, hw, y1, y2, ?_⟩
                        rcases y3 with y3 | ⟨f9, hf9, w1, w2, w3, w4⟩
                        · exact Or.inl y3
                        · refine Or.inr ⟨f9, hf9, w1, w2, w3, fun q hq => ?_⟩
                          by_cases r1 : 60 * t + j ≤ 60 * x + q ∧ 60 * x + q < 60 * t + j + m
                          · rw [pk_cpy_in (by omega) (by omega), fb_put_in r1.1 r1.2, fb_put_in (by omega) (by omega)]
                            have := k4 (i + (60 * x + q - (60 * t + j))) (by omega)
                            rw [show s * 60 + i + (60 * x + q - (t * 60 + j)) = 60 * s + (i + (60 * x + q - (60 * t + j))) by omega, this]
                            show mit _ = mit _
                            congr 1
                            omega
                          · rw [pk_cpy_out (by omega), fb_put_out (by omega)]
                            exact w4 q hq
                    · rw [if_neg (show ¬ lg_cmp (lN (j + m)) (lN n') ≤ 0 by rw [lg_cmp_le, pk_lLE (by omega) (by omega)]; exact d2)]
                      have key : (if nI n' < nI m then some (0 : Int32) else if nI n' - nI m < nI j then some 0 else some 1) = some 0 := by
                        by_cases d3 : n' < m
                        · rw [if_pos (nI_lt d3 (by omega))]
                        · rw [if_neg (nI_nlt (by omega) (by omega)), pk_sub (by omega), if_pos (nI_lt (by omega) (by omega))]
                      rw [key, bd_some, if_pos rfl]
                      exact ⟨_, _, _, _, _, rfl, rfl, RShe_la h _⟩
                · have key : (if nI n < nI m then some (0 : Int32) else if nI n - nI m < nI i then some 0 else some 1) = some 0 := by
                    by_cases d3 : n < m
                    · rw [if_pos (nI_lt d3 (by omega))]
                    · rw [if_neg (nI_nlt (by omega) (by omega)), pk_sub (by omega), if_pos (nI_lt (by omega) (by omega))]
                  rw [key, bd_some, if_pos rfl, if_pos (show 0 < lg_cmp (lN (i + m)) (lN n) by rw [lg_cmp_gt, pk_lLT (by omega) (by omega)]; omega)]
                  by_cases b4 : a4 < 0
                  · rw [if_pos b4]
                    exact ⟨_, _, _, _, _, rfl, rfl, RShe_la h _⟩
                  · rw [if_neg b4]
                    exact ⟨_, _, _, _, _, rfl, rfl, RShe_la h _⟩
          · rw [if_neg ef, if_neg ef]
            exact ⟨_, _, _, _, _, rfl, rfl, RShe_la h _⟩
    · rw [e3, e4, bd_some, bd_some, if_pos rfl, if_pos rfl]
      exact ⟨_, _, _, _, _, rfl, rfl, h⟩
  · rw [e1, e2, bd_some, bd_some, if_pos rfl, if_pos rfl]
    exact ⟨_, _, _, _, _, rfl, rfl, h⟩
