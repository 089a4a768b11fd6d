/-! ===== what cannot be ===== -/
/-- births of years from a on, up to the one ahead of b -/
def birN (B : Nat → Nat) (a b : Nat) : Nat := fb_sm (fun k => B (a + k)) (b - a)
theorem birN_self (B : Nat → Nat) (a : Nat) : birN B a a = 0 := by unfold birN; rw [Nat.sub_self]; rfl
theorem birN_step (B : Nat → Nat) {a b : Nat} (h : a ≤ b) : birN B a (b + 1) = birN B a b + B b := by
  unfold birN
  rw [show b + 1 - a = (b - a) + 1 by omega, fb_sm_succ, show a + (b - a) = b by omega]
theorem birN_le {B : Nat → Nat} (hB : ∀ k, k < 100 → B k ≤ 999) {a b : Nat} (hb : b ≤ 100) : birN B a b ≤ 99900 := by
  unfold birN
  have h : fb_sm (fun k => B (a + k)) (b - a) ≤ fb_sm (fun _ => 999) (b - a) := fb_sm_le (fun k hk => hB _ (by omega))
  rw [fb_sm_const] at h
  have : (b - a) * 999 ≤ 100 * 999 := Nat.mul_le_mul_right _ (by omega)
  omega
def canN (Y C B : Nat → Nat) (a b : Nat) : Bool :=
  if Y a = Y b then decide (C a ≠ C b) else if Y a < Y b then decide (C a + birN B (Y a) (Y b) < C b) else decide (C b + birN B (Y b) (Y a) < C a)
theorem canN_symm (Y C B : Nat → Nat) (a b : Nat) : canN Y C B a b = canN Y C B b a := by
  unfold canN
  by_cases h : Y a = Y b
  · rw [if_pos h, if_pos h.symm]
    by_cases e : C a = C b
    · simp [e]
    · have e2 : ¬ C b = C a := fun q => e q.symm
      simp [e, e2]
  · have h' : ¬ Y b = Y a := fun q => h q.symm
    rw [if_neg h, if_neg h']
    by_cases l : Y a < Y b
    · rw [if_pos l, if_neg (by omega)]
    · rw [if_neg l, if_pos (by omega)]
/-- the numbers of a register -/
def RegN (n : Nat) (yr ct bo : Nat → Int32) (Y C B : Nat → Nat) : Prop := (∀ k, k < n → yr k = nI (Y k) ∧ ct k = nI (C k) ∧ Y k < 100 ∧ C k ≤ 9999) ∧ ∀ k, k < 100 → bo k = nI (B k) ∧ B k ≤ 999
theorem RReg.nums {sz : Int32} {yr ct bo : Nat → Int32} {ms : Int32} {my mm mb : Nat → Int32} (h : RReg sz yr ct bo ms my mm mb) : ∃ (n : Nat) (Y C B : Nat → Nat), n ≤ 8 ∧ sz = nI n ∧ ms = nI n ∧ RegN n yr ct bo Y C B ∧ RegN n my mm mb Y C B := by
  obtain ⟨n, hn, h1, h2, hk, hb⟩ := h
  have A : RegN n yr ct bo (fun k => (yr k).toNatClampNeg) (fun k => (ct k).toNatClampNeg) (fun k => (bo k).toNatClampNeg) := by
    refine ⟨fun k hk2 => ?_, fun k hk2 => ?_⟩
    · obtain ⟨-, -, ⟨y, hy, e1⟩, ⟨c, hc, e2⟩⟩ := hk k hk2
      have f1 : (yr k).toNatClampNeg = y := by rw [e1]; exact nI_clamp (by omega)
      have f2 : (ct k).toNatClampNeg = c := by rw [e2]; exact nI_clamp (by omega)
      refine ⟨?_, ?_, ?_, ?_⟩
      · show yr k = nI (yr k).toNatClampNeg; rw [f1, e1]
      · show ct k = nI (ct k).toNatClampNeg; rw [f2, e2]
      · show (yr k).toNatClampNeg < 100; omega
      · show (ct k).toNatClampNeg ≤ 9999; omega
    · obtain ⟨-, b, hb2, e1⟩ := hb k hk2
      have f1 : (bo k).toNatClampNeg = b := by rw [e1]; exact nI_clamp (by omega)
      refine ⟨?_, ?_⟩
      · show bo k = nI (bo k).toNatClampNeg; rw [f1, e1]
      · show (bo k).toNatClampNeg ≤ 999; omega
  refine ⟨n, _, _, _, hn, h1, h2, A, fun k hk2 => ?_, fun k hk2 => ?_⟩
  · obtain ⟨q1, q2, q3, q4⟩ := A.1 k hk2
    obtain ⟨e1, e2, -⟩ := hk k hk2
    exact ⟨e1 ▸ q1, e2 ▸ q2, q3, q4⟩
  · obtain ⟨q1, q2⟩ := A.2 k hk2
    exact ⟨(hb k hk2).1 ▸ q1, q2⟩
theorem G_birthsOf_go {n : Nat} {yr ct bo : Nat → Int32} {Y C B : Nat → Nat} (h : RegN n yr ct bo Y C B) {a b : Nat} (hb : b ≤ 100) : ∀ (m y : Nat), y + m = b → a ≤ y → ∀ f, m < f → fG_birthsOf_5 (nI b) bo f (nI (birN B a y)) (nI y) = some (nI (birN B a b))
  | 0, y, hy, ha, f, hf => by
    obtain ⟨f, rfl⟩ : ∃ g, f = g + 1 := ⟨f - 1, by omega⟩
    show fG_birthsOf_5_b _ _ _ _ _ = _
    unfold fG_birthsOf_5_b
    rw [if_pos (nI_le (show b ≤ y by omega) (by omega)), show y = b by omega]
  | m + 1, y, hy, ha, f, hf => by
    obtain ⟨f, rfl⟩ : ∃ g, f = g + 1 := ⟨f - 1, by omega⟩
    show fG_birthsOf_5_b _ _ _ _ _ = _
    unfold fG_birthsOf_5_b
    rw [if_neg (nI_ge (show y < b by omega) (by omega)), if_neg ((show ¬ (100 : Int32) ≤ nI _ from nI_ge (b := 100) (show y < 100 by omega) (by decide))), ck_nI (show y < 100 by omega) (by decide), nI_clamp (by omega), (h.2 y (by omega)).1, nI_add, nI_1, ← birN_step B ha]
    exact G_birthsOf_go h hb m (y + 1) (by omega) (by omega) f (by omega)
theorem G_birthsOf_eq {n : Nat} {yr ct bo : Nat → Int32} {Y C B : Nat → Nat} (h : RegN n yr ct bo Y C B) {a b : Nat} (hab : a ≤ b) (hb : b ≤ 100) : fG_birthsOf (nI a) (nI b) bo = some (nI (birN B a b)) := by
  unfold fG_birthsOf
  have h1 := G_birthsOf_go h (a := a) hb (b - a) a (by omega) (Nat.le_refl a) FU (by rw [FU_eq]; omega)
  rw [birN_self] at h1
  exact h1
theorem G_cannotBoth_67_eq {n : Nat} {yr ct bo : Nat → Int32} {Y C B : Nat → Nat} (hn : n ≤ 8) (h : RegN n yr ct bo Y C B) {e l : Nat} (he : e < n) (hl : l < n) (hy : Y e ≤ Y l) : fG_cannotBoth_67 (nI e) (nI l) yr ct bo = some (if C e + birN B (Y e) (Y l) < C l then 1 else 0) := by
  unfold fG_cannotBoth_67
  obtain ⟨a1, a2, a3, a4⟩ := h.1 e he
  obtain ⟨b1, b2, b3, b4⟩ := h.1 l hl
  have hbn := birN_le (fun k hk => (h.2 k hk).2) (a := Y e) (show Y l ≤ 100 by omega)
  have c1 : ∀ {α : Type} (k : Option α), ck 8 (nI e) k = k := fun k => ck_nI (by omega) (by decide)
  have c2 : ∀ {α : Type} (k : Option α), ck 8 (nI l) k = k := fun k => ck_nI (by omega) (by decide)
  rw [c2, c1, c1, c2, nI_clamp (by omega), nI_clamp (by omega), a1, b1, G_birthsOf_eq h hy (by omega), bd_some, a2, b2, nI_add]
  by_cases q : C e + birN B (Y e) (Y l) < C l
  · rw [if_neg (nI_ge q (by omega)), if_pos q]
  · rw [if_pos (nI_le (by omega) (by omega)), if_neg q]
theorem G_cannotBoth_eq {n : Nat} {yr ct bo : Nat → Int32} {Y C B : Nat → Nat} (hn : n ≤ 8) (h : RegN n yr ct bo Y C B) {a b : Nat} (ha : a < n) (hb : b < n) (hab : a ≠ b) : fG_cannotBoth (nI a) (nI b) yr ct bo = some (if canN Y C B a b then 1 else 0) := by
  unfold fG_cannotBoth fG_cannotBoth_56
  obtain ⟨a1, a2, a3, a4⟩ := h.1 a ha
  obtain ⟨b1, b2, b3, b4⟩ := h.1 b hb
  have c1 : ∀ {α : Type} (k : Option α), ck 8 (nI a) k = k := fun k => ck_nI (by omega) (by decide)
  have c2 : ∀ {α : Type} (k : Option α), ck 8 (nI b) k = k := fun k => ck_nI (by omega) (by decide)
  simp only [c1, c2]
  rw [nI_clamp (by omega), nI_clamp (by omega), a1, b1, a2, b2]
  unfold canN
  by_cases e : Y a = Y b
  · rw [if_pos (by rw [e]), if_pos e]
    by_cases q : C a = C b
    · rw [if_pos (by rw [q])]
      simp [q]
    · rw [if_neg (fun w => q ((nI_eq (by omega) (by omega)).mp w))]
      simp [q]
  · rw [if_neg (fun w => e ((nI_eq (by omega) (by omega)).mp w)), if_neg e]
    by_cases l : Y a < Y b
    · rw [if_neg (nI_ge l (by omega)), if_pos trivial, if_pos l, G_cannotBoth_67_eq hn h ha hb (by omega)]
      simp
    · rw [if_pos (nI_le (by omega) (by omega)), if_neg (fun w : nI b = nI a => hab ((nI_eq (by omega) (by omega)).mp w).symm), if_neg l, G_cannotBoth_67_eq hn h hb ha (by omega)]
      simp
theorem M_isCannot_49_go {n : Nat} {yr ct bo : Nat → Int32} {Y C B : Nat → Nat} (hn : n ≤ 8) (h : RegN n yr ct bo Y C B) {a b e l : Nat} (ha : a < n) (hb : b < n) (he : e < n) (hl : l < n) : ∀ (m y : Nat), y + m = Y l → Y e ≤ y → ∀ f, m < f → fM_isCannot_49 (nI a) (nI b) (nI l) yr ct bo f (nI (C e + birN B (Y e) y)) (nI y) = some (if C e + birN B (Y e) (Y l) < C l ∨ (Y a = Y b ∧ C a ≠ C b) then 1 else 0)
  | 0, y, hy, hey, f, hf => by
    obtain ⟨f, rfl⟩ : ∃ g, f = g + 1 := ⟨f - 1, by omega⟩
    show fM_isCannot_49_b _ _ _ _ _ _ _ _ _ = _
    obtain ⟨a1, a2, a3, a4⟩ := h.1 a ha
    obtain ⟨b1, b2, b3, b4⟩ := h.1 b hb
    obtain ⟨l1, l2, l3, l4⟩ := h.1 l hl
    obtain ⟨e1, e2, e3, e4⟩ := h.1 e he
    have hbn := birN_le (fun k hk => (h.2 k hk).2) (a := Y e) (show Y l ≤ 100 by omega)
    have ey : y = Y l := by omega
    subst ey
    unfold fM_isCannot_49_b fM_isCannot_121
    have c1 : ∀ {α : Type} (k : Option α), ck 8 (nI a) k = k := fun k => ck_nI (by omega) (by decide)
    have c2 : ∀ {α : Type} (k : Option α), ck 8 (nI b) k = k := fun k => ck_nI (by omega) (by decide)
    have c3 : ∀ {α : Type} (k : Option α), ck 8 (nI l) k = k := fun k => ck_nI (by omega) (by decide)
    simp only [c1, c2, c3]
    rw [nI_clamp (show l < 2 ^ 31 by omega), nI_clamp (show a < 2 ^ 31 by omega), nI_clamp (show b < 2 ^ 31 by omega), l1, l2, a1, a2, b1, b2, if_pos (nI_le (Nat.le_refl _) (by omega))]
    by_cases q : C e + birN B (Y e) (Y l) < C l
    · rw [if_pos (nI_lt q (by omega)), if_pos (Or.inl q)]
    · rw [if_neg (nI_nlt (by omega) (by omega))]
      by_cases q2 : Y a = Y b
      · rw [if_pos (by rw [q2])]
        by_cases q3 : C a = C b
        · rw [if_pos (by rw [q3]), if_neg (by rintro (w | ⟨-, w⟩); exact q w; exact w q3)]
        · rw [if_neg (fun w => q3 ((nI_eq (by omega) (by omega)).mp w)), if_pos (Or.inr ⟨q2, q3⟩)]
      · rw [if_neg (fun w => q2 ((nI_eq (by omega) (by omega)).mp w)), if_neg (by rintro (w | ⟨w, -⟩); exact q w; exact q2 w)]
  | m + 1, y, hy, hey, f, hf => by
    obtain ⟨f, rfl⟩ : ∃ g, f = g + 1 := ⟨f - 1, by omega⟩
    show fM_isCannot_49_b _ _ _ _ _ _ _ _ _ = _
    obtain ⟨l1, l2, l3, l4⟩ := h.1 l hl
    unfold fM_isCannot_49_b
    rw [ck_nI (show l < 8 by omega) (by decide), nI_clamp (show l < 2 ^ 31 by omega), l1, if_neg (nI_ge (show y < Y l by omega) (by omega)), ck_nI (show y < 100 by omega) (by decide), nI_clamp (show y < 2 ^ 31 by omega), (h.2 y (by omega)).1, nI_add, nI_1, Nat.add_assoc, ← birN_step B hey]
    exact M_isCannot_49_go hn h ha hb he hl m (y + 1) (by omega) (by omega) f (by omega)
theorem M_isCannot_31_eq {n : Nat} {yr ct bo : Nat → Int32} {Y C B : Nat → Nat} (hn : n ≤ 8) (h : RegN n yr ct bo Y C B) {a b e l : Nat} (ha : a < n) (hb : b < n) (he : e < n) (hl : l < n) (hy : Y e ≤ Y l) : fM_isCannot_31 (nI a) (nI b) (nI e) (nI l) yr ct bo = some (if C e + birN B (Y e) (Y l) < C l ∨ (Y a = Y b ∧ C a ≠ C b) then 1 else 0) := by
  unfold fM_isCannot_31
  obtain ⟨e1, e2, e3, e4⟩ := h.1 e he
  have h1 := M_isCannot_49_go hn h ha hb he hl (Y l - Y e) (Y e) (by omega) (Nat.le_refl _) FU (by obtain ⟨-, -, l3, -⟩ := h.1 l hl; rw [FU_eq]; omega)
  rw [birN_self, Nat.add_zero] at h1
  rw [ck_nI (show e < 8 by omega) (by decide), ck_nI (show e < 8 by omega) (by decide), nI_clamp (by omega), e1, e2]
  exact h1
theorem M_isCannot_eq {n : Nat} {yr ct bo : Nat → Int32} {Y C B : Nat → Nat} (hn : n ≤ 8) (h : RegN n yr ct bo Y C B) {a b : Nat} (ha : a < n) (hb : b < n) (hab : a ≠ b) : fM_isCannot (nI a) (nI b) yr ct bo = some (if canN Y C B a b then 1 else 0) := by
  unfold fM_isCannot fM_isCannot_20
  obtain ⟨a1, a2, a3, a4⟩ := h.1 a ha
  obtain ⟨b1, b2, b3, b4⟩ := h.1 b hb
  rw [ck_nI (show a < 8 by omega) (by decide), ck_nI (show b < 8 by omega) (by decide), nI_clamp (show a < 2 ^ 31 by omega), nI_clamp (show b < 2 ^ 31 by omega), a1, b1]
  unfold canN
  by_cases l : Y b < Y a
  · rw [if_pos (nI_lt l (by omega)), if_neg (fun w : nI b = nI a => hab ((nI_eq (by omega) (by omega)).mp w).symm), M_isCannot_31_eq hn h ha hb hb ha (by omega), if_neg (show ¬ Y a = Y b by omega), if_neg (show ¬ Y a < Y b by omega)]
    have e : ¬ (Y a = Y b ∧ C a ≠ C b) := fun w => by omega
    simp [e]
  · rw [if_neg (nI_nlt (by omega) (by omega)), if_pos rfl, M_isCannot_31_eq hn h ha hb ha hb (by omega)]
    by_cases e : Y a = Y b
    · rw [if_pos e, e, birN_self, Nat.add_zero]
      by_cases q : C a = C b
      · simp [q]
      · simp [q]
    · rw [if_neg e, if_pos (show Y a < Y b by omega)]
      have e2 : ¬ (Y a = Y b ∧ C a ≠ C b) := fun w => e w.1
      simp [e2]
theorem isC_cases {n : Nat} (hn : n ≤ 8) (a : Int32) : (∃ j : Nat, j < n ∧ a = nI j ∧ fG_isCensus a (nI n) = some 1 ∧ fM_isCensus a (nI n) = some 1) ∨ (fG_isCensus a (nI n) = some 0 ∧ fM_isCensus a (nI n) = some 0) := by
  unfold fG_isCensus fM_isCensus
  rw [M_in_eq, bd_some]
  rcases ix0 a n (by omega) with q | q | ⟨j, hj, rfl⟩
  · right
    rw [if_pos q, if_neg (fun w : (0 : Int32) ≤ a ∧ a ≤ nI n - 1 => o_ltn q w.1)]
    exact ⟨rfl, rfl⟩
  · right
    have q0 : ¬ a < 0 := o_len (o_tr (nI_pos' (by omega)) q)
    have q3 : ¬ a ≤ nI n - 1 := by
      rw [Int32.le_iff_toInt_le, show (1 : Int32) = nI 1 from rfl, pk_sub_toInt (by omega) (by omega)]
      rw [Int32.le_iff_toInt_le, nI_toInt (by omega)] at q
      omega
    rw [if_neg q0, if_pos q, if_neg (fun w : (0 : Int32) ≤ a ∧ a ≤ nI n - 1 => q3 w.2)]
    exact ⟨rfl, rfl⟩
  · left
    have q3 : nI j ≤ nI n - 1 := by
      rw [show (1 : Int32) = nI 1 from rfl, pk_sub (by omega)]
      exact nI_le (by omega) (by omega)
    refine ⟨j, hj, rfl, ?_, ?_⟩
    · rw [if_neg (nI_pos (by omega)), if_neg (nI_ge hj (by omega))]
    · rw [if_pos (And.intro (nI_pos' (by omega)) (q3))]
      rfl
theorem reg_cannot {sz : Int32} {yr ct bo : Nat → Int32} {ms : Int32} {my mm mb : Nat → Int32} (h : RReg sz yr ct bo ms my mm mb) (a1 a2 : Int32) : ∃ r : Int32, fC_cannot a1 a2 sz yr ct bo = some r ∧ fM_cannot a1 a2 ms my mm mb = some r := by
  have z1 : ¬ (1 : Int32) = 0 := by decide
  obtain ⟨n, Y, C, B, hn, rfl, rfl, h1, h2⟩ := h.nums
  unfold fC_cannot fM_cannot fM_cannot_21
  rcases isC_cases hn a1 with ⟨a, ha, rfl, e1, e2⟩ | ⟨e1, e2⟩
  · rw [e1, e2, bd_some, bd_some, if_neg z1, if_neg z1]
    rcases isC_cases hn a2 with ⟨b, hb, rfl, e3, e4⟩ | ⟨e3, e4⟩
    · rw [e3, e4, bd_some, bd_some, if_neg z1, if_neg z1]
      by_cases e : nI a = nI b
      · rw [if_pos e, if_pos e]
        exact ⟨_, rfl, rfl⟩
      · have e' : a ≠ b := fun w => e (by rw [w])
        rw [if_neg e, if_neg e, G_cannotBoth_eq hn h1 ha hb e', M_isCannot_eq hn h2 ha hb e', bd_some]
        split <;> exact ⟨_, rfl, rfl⟩
    · rw [e3, e4, bd_some, bd_some, if_pos rfl, if_pos rfl]
      exact ⟨_, rfl, rfl⟩
  · rw [e1, e2, bd_some, bd_some, if_pos rfl, if_pos rfl]
    exact ⟨_, rfl, rfl⟩
