/-! ===== order of ints ===== -/
theorem o_ltn {x y : Int32} (h : x < y) : ¬ y ≤ x := by rw [Int32.lt_iff_toInt_lt] at h; rw [Int32.le_iff_toInt_le]; omega
theorem o_len {x y : Int32} (h : x ≤ y) : ¬ y < x := by rw [Int32.le_iff_toInt_le] at h; rw [Int32.lt_iff_toInt_lt]; omega
theorem o_nlt {x y : Int32} (h : ¬ x < y) : y ≤ x := by rw [Int32.lt_iff_toInt_lt] at h; rw [Int32.le_iff_toInt_le]; omega
theorem o_nle {x y : Int32} (h : ¬ x ≤ y) : y < x := by rw [Int32.le_iff_toInt_le] at h; rw [Int32.lt_iff_toInt_lt]; omega
theorem o_lne {x y : Int32} (h : x < y) : ¬ x = y := fun e => by rw [e, Int32.lt_iff_toInt_lt] at h; omega
theorem o_gne {x y : Int32} (h : y < x) : ¬ x = y := fun e => by rw [e, Int32.lt_iff_toInt_lt] at h; omega
theorem o_tr {x y z : Int32} (h : x ≤ y) (h2 : y ≤ z) : x ≤ z := by rw [Int32.le_iff_toInt_le] at *; omega
theorem o_tr1 {x y z : Int32} (h : x < y) (h2 : y ≤ z) : x < z := by rw [Int32.le_iff_toInt_le] at h2; rw [Int32.lt_iff_toInt_lt] at *; omega
theorem o_tr2 {x y z : Int32} (h : x ≤ y) (h2 : y < z) : x < z := by rw [Int32.le_iff_toInt_le] at h; rw [Int32.lt_iff_toInt_lt] at *; omega
/-- an int is below, from a on, or one of the numbers up to it -/
theorem ix0 (x : Int32) (n : Nat) (hn : n < 2 ^ 31) : x < 0 ∨ nI n ≤ x ∨ ∃ j : Nat, j < n ∧ x = nI j := pk_ix x hn
theorem ix1 (x : Int32) (n : Nat) (hn : n < 2 ^ 31) : x < -1 ∨ nI n ≤ x ∨ x = -1 ∨ ∃ j : Nat, j < n ∧ x = nI j := by
  rcases pk_ix x hn with h | h | h
  · rcases fa_three x (-1) with q | q | q
    · exact Or.inl q
    · exact Or.inr (Or.inr (Or.inl q))
    · rw [Int32.lt_iff_toInt_lt] at h q
      have e1 : ((-1 : Int32)).toInt = -1 := by decide
      have e2 : ((0 : Int32)).toInt = 0 := by decide
      omega
  · exact Or.inr (Or.inl h)
  · exact Or.inr (Or.inr (Or.inr h))
theorem neg_le_nI {x : Int32} (h : x < 0) (n : Nat) (hn : n < 2 ^ 31) : x < nI n := o_tr1 h (nI_pos' hn)
/-! ===== what was heard ===== -/
def RHear (sz : Int32) (who tm : Nat → Int32) (mh : Int32) (mw mt : Nat → Int32) : Prop :=
  ∃ n : Nat, n ≤ 12 ∧ sz = nI n ∧ mh = nI n ∧ ∀ k, k < n → who k = mw k ∧ tm k = mt k ∧ (∃ p : Nat, p < 20 ∧ who k = nI p) ∧ (tm k = -1 ∨ ∃ t : Nat, t ≤ 400 ∧ tm k = nI t)
theorem hear_take {sz : Int32} {who tm : Nat → Int32} {mh : Int32} {mw mt : Nat → Int32} (h : RHear sz who tm mh mw mt) (a1 a2 : Int32) :
    ∃ (r sz2 : Int32) (who2 tm2 mw2 mt2 : Nat → Int32), fH_take a1 a2 sz who tm = some (r, sz2, who2, tm2) ∧ fM_heardMore a1 a2 mh mw mt = some (r, sz2, mw2, mt2) ∧ RHear sz2 who2 tm2 sz2 mw2 mt2 ∧ (r < 0 ∨ 0 < r) := by
  obtain ⟨n, hn, rfl, rfl, hk⟩ := h
  have bad : ∃ (r sz2 : Int32) (who2 tm2 mw2 mt2 : Nat → Int32), some ((-2 : Int32), nI n, who, tm) = some (r, sz2, who2, tm2) ∧ some ((-2 : Int32), nI n, mw, mt) = some (r, sz2, mw2, mt2) ∧ RHear sz2 who2 tm2 sz2 mw2 mt2 ∧ (r < 0 ∨ 0 < r) := ⟨_, _, _, _, _, _, rfl, rfl, ⟨n, hn, rfl, rfl, hk⟩, Or.inl (by decide)⟩
  have z1 : ¬ (1 : Int32) = 0 := by decide
  unfold fH_take fM_heardMore
  rw [M_in_eq, bd_some]
  rcases ix0 a1 20 (by decide) with h1 | h1 | ⟨p, hp, rfl⟩
  · rw [if_pos h1, if_neg (fun q : (0 : Int32) ≤ a1 ∧ a1 ≤ 19 => o_ltn h1 q.1), if_pos rfl]
    exact bad
  · rw [if_neg (o_len (o_tr (nI_pos' (by decide)) h1)), if_pos (show (20 : Int32) ≤ a1 from h1), if_neg (fun q : (0 : Int32) ≤ a1 ∧ a1 ≤ 19 => o_ltn (nI_lt (a := 19) (b := 20) (by decide) (by decide)) (o_tr h1 q.2)), if_pos rfl]
    exact bad
  · rw [if_neg (nI_pos (by omega)), if_neg ((show ¬ (20 : Int32) ≤ nI _ from nI_ge (b := 20) hp (by decide))), if_pos (And.intro (nI_pos' (by omega)) ((show nI _ ≤ (19 : Int32) from nI_le (b := 19) (by omega) (by decide)))), if_neg z1, M_in_eq, bd_some]
    have go : ∀ a2 : Int32, (-1 : Int32) ≤ a2 → a2 ≤ 400 → (a2 = -1 ∨ ∃ t : Nat, t ≤ 400 ∧ a2 = nI t) → ∃ (r sz2 : Int32) (who2 tm2 mw2 mt2 : Nat → Int32), (if nI n < 12 then ck 12 (nI n) (ck 12 (nI n) (some ((nI n + 1), (nI n + 1), (upd who (nI n).toNatClampNeg (nI p)), (upd tm (nI n).toNatClampNeg a2)))) else some ((-4), nI n, who, tm)) = some (r, sz2, who2, tm2) ∧ (if nI n = 12 then some ((-4), nI n, mw, mt) else ck 12 (nI n) (ck 12 (nI n) (some ((nI n + 1), (nI n + 1), (upd mw (nI n).toNatClampNeg (nI p)), (upd mt (nI n).toNatClampNeg a2))))) = some (r, sz2, mw2, mt2) ∧ RHear sz2 who2 tm2 sz2 mw2 mt2 ∧ (r < 0 ∨ 0 < r) := by
      intro a2 q1 q2 q3
      rcases Nat.lt_or_ge n 12 with hl | hl
      · rw [if_pos ((show nI _ < (12 : Int32) from nI_lt (b := 12) hl (by decide))), if_neg (show ¬ nI n = (12 : Int32) from neN (b := 12) (by omega) (by omega) (by decide)), ck_nI hl (by decide), ck_nI hl (by decide), ck_nI hl (by decide), ck_nI hl (by decide), nI_1, nI_clamp (by omega)]
        refine ⟨_, _, _, _, _, _, rfl, rfl, ⟨n + 1, by omega, rfl, rfl, ?_⟩, Or.inr ((show (0 : Int32) < nI _ from nI_lt (a := 0) (by omega) (by omega)))⟩
        intro k hk2
        by_cases e : k = n
        · subst e
          rw [pk_us, pk_us, pk_us, pk_us]
          exact ⟨rfl, rfl, ⟨p, hp, rfl⟩, q3⟩
        · rw [pk_un e, pk_un e, pk_un e, pk_un e]
          exact hk k (by omega)
      · have e : n = 12 := by omega
        subst e
        rw [if_neg ((show ¬ nI _ < (12 : Int32) from nI_nlt (b := 12) (Nat.le_refl _) (by decide))), if_pos (show nI 12 = 12 from rfl)]
        exact ⟨_, _, _, _, _, _, rfl, rfl, ⟨12, hn, rfl, rfl, hk⟩, Or.inl (by decide)⟩
    rcases ix1 a2 401 (by decide) with h2 | h2 | rfl | ⟨t, ht, rfl⟩
    · rw [if_pos h2, if_neg (fun q : (-1 : Int32) ≤ a2 ∧ a2 ≤ 400 => o_ltn h2 q.1), if_pos rfl]
      exact bad
    · have h3 : ¬ a2 ≤ 400 := fun q => o_ltn (nI_lt (a := 400) (b := 401) (by decide) (by decide)) (o_tr h2 q)
      rw [if_neg (o_len (o_tr (m1_le_nI (n := 401) (by decide)) h2)), if_neg h3, if_neg (fun q : (-1 : Int32) ≤ a2 ∧ a2 ≤ 400 => h3 q.2), if_pos rfl]
      exact bad
    · rw [if_neg (show ¬ (-1 : Int32) < -1 by decide), if_pos (show (-1 : Int32) ≤ 400 by decide), if_pos (show (-1 : Int32) ≤ -1 ∧ (-1 : Int32) ≤ 400 by decide), if_neg z1]
      exact go _ (by decide) (by decide) (Or.inl rfl)
    · have q1 : (-1 : Int32) ≤ nI t := m1_le_nI (by omega)
      have q2 : nI t ≤ (400 : Int32) := (show nI _ ≤ (400 : Int32) from nI_le (b := 400) (by omega) (by decide))
      rw [if_neg (o_len q1), if_pos q2, if_pos (And.intro (q1) (q2)), if_neg z1]
      exact go _ q1 q2 (Or.inr ⟨t, by omega, rfl⟩)
/-! ===== limits ===== -/
def RLim (sh lo sl : Int32) (lim : Nat → Int32) : Prop :=
  ∃ a b e : Nat, 1 ≤ a ∧ a ≤ b ∧ b ≤ 9 ∧ e ≤ 20 ∧ sh = nI a ∧ lo = nI b ∧ sl = nI e ∧ lim 0 = nI a ∧ lim 1 = nI b ∧ lim 2 = nI e
/-- the limits as they may be, or not -/
theorem lim_cases (a b e : Int32) : (∃ x y z : Nat, 1 ≤ x ∧ x ≤ y ∧ y ≤ 9 ∧ z ≤ 20 ∧ a = nI x ∧ b = nI y ∧ e = nI z) ∨ (fC_areLimits a b e = some 0 ∧ fM_areLimits a b e = some 0) := by
  have z1 : ¬ (1 : Int32) = 0 := by decide
  unfold fC_areLimits fM_areLimits
  rw [M_in_eq, bd_some]
  rcases ix0 a 10 (by decide) with h1 | h1 | ⟨x, hx, rfl⟩
  · right
    have : a < 1 := o_tr1 h1 (by decide)
    rw [if_pos this, if_neg (fun q : (1 : Int32) ≤ a ∧ a ≤ 9 => o_ltn this q.1), if_pos rfl]
    exact ⟨rfl, rfl⟩
  · right
    have h9 : ¬ a ≤ 9 := fun q => o_ltn (nI_lt (a := 9) (b := 10) (by decide) (by decide)) (o_tr h1 q)
    have h1' : ¬ a < 1 := o_len (o_tr (by decide) h1)
    rw [if_neg h1', if_neg (fun q : (1 : Int32) ≤ a ∧ a ≤ 9 => h9 q.2), if_pos rfl]
    refine ⟨?_, rfl⟩
    by_cases c : b < a
    · rw [if_pos c]
    · rw [if_neg c, if_pos (o_tr1 (o_nle h9) (o_nlt c))]
  · rcases Nat.eq_zero_or_pos x with h0 | h0
    · right
      subst h0
      rw [if_pos (show nI 0 < 1 by decide), if_neg (show ¬ ((1 : Int32) ≤ nI 0 ∧ nI 0 ≤ 9) by decide), if_pos rfl]
      exact ⟨rfl, rfl⟩
    · rw [if_neg ((show ¬ nI _ < (1 : Int32) from nI_nlt (b := 1) (by omega) (by omega))), if_pos (And.intro ((show (1 : Int32) ≤ nI _ from nI_le (a := 1) (by omega) (by omega))) ((show nI _ ≤ (9 : Int32) from nI_le (b := 9) (by omega) (by decide)))), if_neg z1, M_in_eq, bd_some]
      by_cases c : b < nI x
      · right
        rw [if_pos c, if_neg (fun q : nI x ≤ b ∧ b ≤ 9 => o_ltn c q.1), if_pos rfl]
        exact ⟨rfl, rfl⟩
      · rw [if_neg c]
        by_cases c2 : (9 : Int32) < b
        · right
          rw [if_pos c2, if_neg (fun q : nI x ≤ b ∧ b ≤ 9 => o_ltn c2 q.2), if_pos rfl]
          exact ⟨rfl, rfl⟩
        · obtain ⟨y, y1, y2, rfl⟩ := nI_mid (b := 9) (by decide) (o_nlt c) (o_nlt c2) (by omega)
          rw [if_neg c2, if_pos (And.intro (o_nlt c) (o_nlt c2)), if_neg z1, M_in_eq, bd_some]
          by_cases c3 : e < 0
          · right
            rw [if_pos c3, if_neg (fun q : (0 : Int32) ≤ e ∧ e ≤ 20 => o_ltn c3 q.1), if_pos rfl]
            exact ⟨rfl, rfl⟩
          · rw [if_neg c3]
            by_cases c4 : (20 : Int32) < e
            · right
              rw [if_pos c4, if_neg (fun q : (0 : Int32) ≤ e ∧ e ≤ 20 => o_ltn c4 q.2), if_pos rfl]
              exact ⟨rfl, rfl⟩
            · left
              obtain ⟨z, -, z2, rfl⟩ := nI_mid (a := 0) (b := 20) (by decide) (o_nlt c3) (o_nlt c4) (by decide)
              exact ⟨x, y, z, h0, y1, y2, z2, rfl, rfl, rfl⟩
theorem lim_ok {x y z : Nat} (h1 : 1 ≤ x) (h2 : x ≤ y) (h3 : y ≤ 9) (h4 : z ≤ 20) : fC_areLimits (nI x) (nI y) (nI z) = some 1 ∧ fM_areLimits (nI x) (nI y) (nI z) = some 1 := by
  have z1 : ¬ (1 : Int32) = 0 := by decide
  unfold fC_areLimits fM_areLimits
  refine ⟨?_, ?_⟩
  · rw [if_neg ((show ¬ nI _ < (1 : Int32) from nI_nlt (b := 1) h1 (by omega))), if_neg (nI_nlt h2 (by omega)), if_neg ((show ¬ (9 : Int32) < nI _ from nI_nlt (a := 9) h3 (by decide))), if_neg (nI_pos (by omega)), if_neg ((show ¬ (20 : Int32) < nI _ from nI_nlt (a := 20) h4 (by decide)))]
  · rw [M_in_eq, bd_some, if_pos (And.intro ((show (1 : Int32) ≤ nI _ from nI_le (a := 1) h1 (by omega))) ((show nI _ ≤ (9 : Int32) from nI_le (b := 9) (by omega) (by decide)))), if_neg z1, M_in_eq, bd_some, if_pos (And.intro (nI_le h2 (by omega)) ((show nI _ ≤ (9 : Int32) from nI_le (b := 9) h3 (by decide)))), if_neg z1, M_in_eq, bd_some, if_pos (And.intro (nI_pos' (by omega)) ((show nI _ ≤ (20 : Int32) from nI_le (b := 20) h4 (by decide)))), if_neg z1]
/-! ===== how many a squeeze went through ===== -/
def fewN (t b e : Nat) : Nat := (t - e + b - 1) / b
theorem P_fewest_eq {t b e : Nat} (ht : t < 2 ^ 20) (h1 : 1 ≤ b) (hb : b ≤ 9) (he : e ≤ 20) : fP_fewest (nI t) (nI b) (nI e) = some (nI (fewN t b e)) := by
  unfold fP_fewest fewN
  rw [if_pos ((show (1 : Int32) ≤ nI _ from nI_le (a := 1) h1 (by omega))), dz_ne (nI_ne0 h1 (by omega))]
  congr 1
  have key : (if nI t - nI e < 0 then (0 : Int32) else nI t - nI e) = nI (t - e) := by
    rcases Nat.lt_or_ge t e with h | h
    · rw [if_pos (pk_sneg (by omega) h), show t - e = 0 by omega]; rfl
    · rw [pk_sub h, if_neg (nI_pos (by omega))]
  rw [key, nI_add, show (1 : Int32) = nI 1 from rfl, pk_sub (by omega), pk_div (by omega) h1 (by omega)]
theorem M_fewestBy_eq {t b e : Nat} (ht : t < 2 ^ 20) (h1 : 1 ≤ b) (hb : b ≤ 9) (he : e ≤ 20) : fM_fewestBy (nI t) (nI b) (nI e) = some (nI (fewN t b e)) := by
  unfold fM_fewestBy fewN
  rcases Nat.lt_or_ge e t with h | h
  · rw [if_pos (nI_lt h (by omega)), dz_ne (nI_ne0 h1 (by omega)), pk_sub (by omega), nI_add, show (1 : Int32) = nI 1 from rfl, pk_sub (by omega), pk_div (by omega) h1 (by omega)]
  · rw [if_neg (nI_nlt h (by omega)), show t - e + b - 1 = b - 1 by omega, Nat.div_eq_of_lt (by omega)]; rfl
theorem P_most_eq {t a e : Nat} (ht : t < 2 ^ 20) (h1 : 1 ≤ a) (ha : a ≤ 9) (he : e ≤ 20) : fP_most (nI t) (nI a) (nI e) = some (nI ((t + e) / a)) := by
  unfold fP_most
  rw [if_pos ((show (1 : Int32) ≤ nI _ from nI_le (a := 1) h1 (by omega))), dz_ne (nI_ne0 h1 (by omega)), nI_add, pk_div (by omega) h1 (by omega)]
theorem sq_spans (a1 a2 a3 a4 a5 : Int32) : ∃ r : Int32, fC_spans a1 a2 a3 a4 a5 = some r ∧ fM_spans a1 a2 a3 a4 a5 = some r := by
  have z1 : ¬ (1 : Int32) = 0 := by decide
  unfold fC_spans fM_spans fC_isTime
  rw [M_isTime_eq, bd_some]
  rcases ix0 a1 401 (by decide) with h1 | h1 | ⟨t, ht, rfl⟩
  · rw [if_pos h1, bd_some, if_pos rfl, if_neg (fun q : (0 : Int32) ≤ a1 ∧ a1 ≤ 400 => o_ltn h1 q.1), if_pos rfl]
    exact ⟨_, rfl, rfl⟩
  · have h3 : ¬ a1 ≤ 400 := fun q => o_ltn (nI_lt (a := 400) (b := 401) (by decide) (by decide)) (o_tr h1 q)
    rw [if_neg (o_len (o_tr (nI_pos' (by decide)) h1)), if_pos (o_nle h3), bd_some, if_pos rfl, if_neg (fun q : (0 : Int32) ≤ a1 ∧ a1 ≤ 400 => h3 q.2), if_pos rfl]
    exact ⟨_, rfl, rfl⟩
  · have q2 : nI t ≤ (400 : Int32) := (show nI _ ≤ (400 : Int32) from nI_le (b := 400) (by omega) (by decide))
    rw [if_neg (nI_pos (by omega)), if_neg (o_len q2), bd_some, if_neg z1, if_pos (And.intro (nI_pos' (by omega)) (q2)), if_neg z1]
    rcases lim_cases a2 a3 a4 with ⟨x, y, z, l1, l2, l3, l4, rfl, rfl, rfl⟩ | ⟨e1, e2⟩
    · rw [(lim_ok l1 l2 l3 l4).1, (lim_ok l1 l2 l3 l4).2, bd_some, bd_some, if_neg z1, if_neg z1, M_in_eq, bd_some]
      by_cases c : a5 < 0
      · rw [if_pos c, if_neg (fun q : (0 : Int32) ≤ a5 ∧ a5 ≤ 1 => o_ltn c q.1), if_pos rfl]
        exact ⟨_, rfl, rfl⟩
      · rw [if_neg c]
        by_cases c2 : a5 ≤ 1
        · rw [if_pos c2, if_pos (And.intro (o_nlt c) (c2)), if_neg z1, P_fewest_eq (by omega) (by omega) l3 l4, M_fewestBy_eq (by omega) (by omega) l3 l4, bd_some, bd_some, P_most_eq (by omega) l1 (by omega) l4, bd_some, dz_ne (nI_ne0 l1 (by omega)), nI_add, pk_div (by omega) l1 (by omega)]
          by_cases c3 : nI (fewN t y z) ≤ nI ((t + z) / x)
          · rw [if_pos c3]
            by_cases c4 : a5 = 0
            · rw [if_pos c4]; exact ⟨_, rfl, rfl⟩
            · rw [if_neg c4]; exact ⟨_, rfl, rfl⟩
          · rw [if_neg c3]; exact ⟨_, rfl, rfl⟩
        · rw [if_neg c2, if_neg (fun q : (0 : Int32) ≤ a5 ∧ a5 ≤ 1 => c2 q.2), if_pos rfl]
          exact ⟨_, rfl, rfl⟩
    · rw [e1, e2, bd_some, bd_some, if_pos rfl, if_pos rfl]
      exact ⟨_, rfl, rfl⟩
theorem sq_limits {sh lo sl : Int32} {lim : Nat → Int32} (h : RLim sh lo sl lim) (a1 a2 a3 : Int32) : ∃ (r s1 s2 s3 : Int32) (lim2 : Nat → Int32), fC_limits a1 a2 a3 sh lo sl = some (r, s1, s2, s3) ∧ fM_limits a1 a2 a3 lim = some (r, lim2) ∧ RLim s1 s2 s3 lim2 := by
  have z1 : ¬ (1 : Int32) = 0 := by decide
  unfold fC_limits fM_limits
  rcases lim_cases a1 a2 a3 with ⟨x, y, z, l1, l2, l3, l4, rfl, rfl, rfl⟩ | ⟨e1, e2⟩
  · obtain ⟨a, b, e, g1, g2, g3, g4, rfl, rfl, rfl, m0, m1, m2⟩ := h
    rw [(lim_ok l1 l2 l3 l4).1, (lim_ok l1 l2 l3 l4).2, bd_some, bd_some, if_neg z1, if_neg z1]
    have c0 : ∀ {α : Type} (k : Option α), ck 3 0 k = k := fun k => ck_nI (j := 0) (by decide) (by decide)
    have c1 : ∀ {α : Type} (k : Option α), ck 3 1 k = k := fun k => ck_nI (j := 1) (by decide) (by decide)
    have c2 : ∀ {α : Type} (k : Option α), ck 3 2 k = k := fun k => ck_nI (j := 2) (by decide) (by decide)
    rw [c0, c1, c2, c2]
    have i0 : (0 : Int32).toNatClampNeg = 0 := by decide
    have i1 : (1 : Int32).toNatClampNeg = 1 := by decide
    have i2 : (2 : Int32).toNatClampNeg = 2 := by decide
    unfold fP_limitsAsOne fP_setLimits fM_limits_53
    rw [bd_some, bd_some, c0, c1, c2, c0, c1, c2, i0, i1, i2, m0, m1, m2]
    have R : ∀ lim2 : Nat → Int32, RLim (nI x) (nI y) (nI z) (upd (upd (upd lim2 0 (nI x)) 1 (nI y)) 2 (nI z)) := fun lim2 => ⟨x, y, z, l1, l2, l3, l4, rfl, rfl, rfl, by rw [pk_un (by decide), pk_un (by decide), pk_us], by rw [pk_un (by decide), pk_us], pk_us⟩
    rcases Nat.lt_or_ge e 9 with q | q
    · rw [if_neg ((show ¬ (9 : Int32) < nI _ from nI_nlt (a := 9) (by omega) (by decide))), if_neg ((show ¬ (9 : Int32) ≤ nI _ from nI_ge (b := 9) q (by decide)))]
      exact ⟨_, _, _, _, _, rfl, rfl, R _⟩
    · rw [if_pos ((show (9 : Int32) ≤ nI _ from nI_le (a := 9) q (by omega)))]
      rcases Nat.lt_or_ge 9 e with q2 | q2
      · rw [if_pos ((show (9 : Int32) < nI _ from nI_lt (a := 9) q2 (by omega)))]
        exact ⟨_, _, _, _, _, rfl, rfl, R _⟩
      · have : e = 9 := by omega
        subst this
        rw [if_neg ((show ¬ (9 : Int32) < nI _ from nI_nlt (a := 9) (by omega) (by decide)))]
        exact ⟨_, _, _, _, _, rfl, rfl, R _⟩
  · rw [e1, e2, bd_some, bd_some, if_pos rfl, if_pos rfl]
    exact ⟨_, _, _, _, _, rfl, rfl, h⟩
