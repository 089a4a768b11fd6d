/-! ===== which to leave ===== -/
theorem pcN_set {n j : Nat} (hj : j < 22) (h : n.testBit j = false) : pcN (n ||| 2 ^ j) = pcN n + 1 := by
  unfold pcN
  have h1 := fb_ct_upd (fun k => n.testBit k) true (i := j) (n := 22) hj
  have e : fb_ct (fun k => if k = j then true else n.testBit k) 22 = fb_ct (fun k => (n ||| 2 ^ j).testBit k) 22 := fb_ct_cong (fun k _ => by
    show (if k = j then true else n.testBit k) = (n ||| 2 ^ j).testBit k
    rw [tb_or]
    by_cases hk : k = j <;> simp [hk])
  rw [← e]
  simp only [h, if_true, Bool.false_eq_true, if_false, Nat.add_zero] at h1
  exact h1
def cntN (can : Nat → Nat → Bool) (a b : Nat) : Nat := fb_sm (fun x => fb_ct (can x) x) a + fb_ct (can a) b
def doneP (a b x y : Nat) : Prop := x < a ∨ (x = a ∧ y < b)
def ConfI (can : Nat → Nat → Bool) (a b : Nat) (conf : Nat → Int32) : Prop :=
  ∃ cf : Nat → Nat, (∀ k, k < 8 → conf k = nI (cf k) ∧ cf k < 2 ^ 8) ∧ (∀ x y, x < 8 → ((cf x).testBit y = true ↔ (y < x ∧ doneP a b x y ∧ can x y = true) ∨ (x < y ∧ doneP a b y x ∧ can y x = true))) ∧ fb_sm (fun k => pcN (cf k)) 8 = 2 * cntN can a b
theorem ConfI_0 (can : Nat → Nat → Bool) (conf : Nat → Int32) : ConfI can 0 0 (fun k => if k < 8 then 0 else conf k) := by
  refine ⟨fun _ => 0, fun k hk => ⟨if_pos hk, (show (0 : Nat) < 2 ^ 8 by decide)⟩, fun x y hx => ?_, ?_⟩
  · rw [Nat.zero_testBit]
    refine ⟨fun h => (by cases h), fun h => ?_⟩
    unfold doneP at h
    omega
  · show fb_sm (fun _ => pcN 0) 8 = 2 * cntN can 0 0
    rw [pcN_0, fb_sm_const]
    rfl
theorem ConfI_row {can : Nat → Nat → Bool} {a : Nat} {conf : Nat → Int32} (h : ConfI can a a conf) : ConfI can (a + 1) 0 conf := by
  obtain ⟨cf, h1, h2, h3⟩ := h
  refine ⟨cf, h1, fun x y hx => ?_, ?_⟩
  · rw [h2 x y hx]
    unfold doneP
    constructor
    · rintro (⟨q1, q2, q3⟩ | ⟨q1, q2, q3⟩)
      · exact Or.inl ⟨q1, by omega, q3⟩
      · exact Or.inr ⟨q1, by omega, q3⟩
    · rintro (⟨q1, q2, q3⟩ | ⟨q1, q2, q3⟩)
      · exact Or.inl ⟨q1, by omega, q3⟩
      · exact Or.inr ⟨q1, by omega, q3⟩
  · rw [h3]
    show 2 * (fb_sm (fun x => fb_ct (can x) x) a + fb_ct (can a) a) = 2 * (fb_sm (fun x => fb_ct (can x) x) (a + 1) + fb_ct (can (a + 1)) 0)
    rw [fb_sm_succ]
    rfl
theorem ConfI_no {can : Nat → Nat → Bool} {a b : Nat} {conf : Nat → Int32} (h : ConfI can a b conf) (hc : can a b = false) : ConfI can a (b + 1) conf := by
  obtain ⟨cf, h1, h2, h3⟩ := h
  refine ⟨cf, h1, fun x y hx => ?_, ?_⟩
  · rw [h2 x y hx]
    unfold doneP
    constructor
    · rintro (⟨q1, q2, q3⟩ | ⟨q1, q2, q3⟩)
      · exact Or.inl ⟨q1, by omega, q3⟩
      · exact Or.inr ⟨q1, by omega, q3⟩
    · rintro (⟨q1, q2, q3⟩ | ⟨q1, q2, q3⟩)
      · refine Or.inl ⟨q1, ?_, q3⟩
        rcases q2 with q2 | ⟨q2, q4⟩
        · exact Or.inl q2
        · by_cases e : y = b
          · subst e; subst q2; rw [hc] at q3; cases q3
          · exact Or.inr ⟨q2, by omega⟩
      · refine Or.inr ⟨q1, ?_, q3⟩
        rcases q2 with q2 | ⟨q2, q4⟩
        · exact Or.inl q2
        · by_cases e : x = b
          · subst e; subst q2; rw [hc] at q3; cases q3
          · exact Or.inr ⟨q2, by omega⟩
  · rw [h3]
    unfold cntN
    rw [fb_ct_succ, hc]
    simp
theorem ConfI_yes {can : Nat → Nat → Bool} {a b : Nat} {conf : Nat → Int32} (h : ConfI can a b conf) (ha : a < 8) (hb : b < a) (hc : can a b = true) : ConfI can a (b + 1) (upd (upd conf a (conf a ||| (1 <<< (nI b &&& 31)))) b ((upd conf a (conf a ||| (1 <<< (nI b &&& 31)))) b ||| (1 <<< (nI a &&& 31)))) := by
  obtain ⟨cf, h1, h2, h3⟩ := h
  have nab : b ≠ a := by omega
  have ca := h1 a ha
  have cb := h1 b (by omega)
  have ea : conf a ||| ((1 : Int32) <<< (nI b &&& 31)) = nI (cf a ||| 2 ^ b) := by rw [ca.1, orbit (by omega)]
  have eb : (upd conf a (conf a ||| ((1 : Int32) <<< (nI b &&& 31)))) b ||| ((1 : Int32) <<< (nI a &&& 31)) = nI (cf b ||| 2 ^ a) := by rw [pk_un nab, cb.1, orbit (by omega)]
  rw [eb, ea]
  have ta : (cf a).testBit b = false := by
    cases q : (cf a).testBit b
    · rfl
    · rcases (h2 a b ha).mp q with ⟨_, w, _⟩ | ⟨w, _⟩
      · unfold doneP at w; omega
      · omega
  have tb : (cf b).testBit a = false := by
    cases q : (cf b).testBit a
    · rfl
    · rcases (h2 b a (by omega)).mp q with ⟨w, _⟩ | ⟨_, w, _⟩
      · omega
      · unfold doneP at w; omega
  refine ⟨fun k => if k = b then cf b ||| 2 ^ a else if k = a then cf a ||| 2 ^ b else cf k, fun k hk => ?_, fun x y hx => ?_, ?_⟩
  · show _ = nI (if k = b then cf b ||| 2 ^ a else if k = a then cf a ||| 2 ^ b else cf k) ∧ (if k = b then cf b ||| 2 ^ a else if k = a then cf a ||| 2 ^ b else cf k) < 2 ^ 8
    by_cases e : k = b
    · subst e
      rw [pk_us, if_pos rfl]
      exact ⟨rfl, or_lt cb.2 (Nat.pow_lt_pow_right (by decide) ha)⟩
    · rw [pk_un e, if_neg e]
      by_cases e2 : k = a
      · subst e2
        rw [pk_us, if_pos rfl]
        exact ⟨rfl, or_lt ca.2 (Nat.pow_lt_pow_right (by decide) (by omega))⟩
      · rw [pk_un e2, if_neg e2]
        exact h1 k hk
  · show ((if x = b then cf b ||| 2 ^ a else if x = a then cf a ||| 2 ^ b else cf x).testBit y = true) ↔ _
    by_cases e : x = b
    · subst e
      rw [if_pos rfl, tb_or, Bool.or_eq_true, h2 x y hx, decide_eq_true_eq]
      unfold doneP
      constructor
      · rintro ((⟨q1, q2, q3⟩ | ⟨q1, q2, q3⟩) | q)
        · exact Or.inl ⟨q1, by omega, q3⟩
        · exact Or.inr ⟨q1, by omega, q3⟩
        · subst q; exact Or.inr ⟨hb, by omega, hc⟩
      · rintro (⟨q1, q2, q3⟩ | ⟨q1, q2, q3⟩)
        · exact Or.inl (Or.inl ⟨q1, by omega, q3⟩)
        · by_cases w : y = a
          · exact Or.inr w
          · exact Or.inl (Or.inr ⟨q1, by omega, q3⟩)
    · rw [if_neg e]
      by_cases e2 : x = a
      · subst e2
        rw [if_pos rfl, tb_or, Bool.or_eq_true, h2 x y hx, decide_eq_true_eq]
        unfold doneP
        constructor
        · rintro ((⟨q1, q2, q3⟩ | ⟨q1, q2, q3⟩) | q)
          · exact Or.inl ⟨q1, by omega, q3⟩
          · exact Or.inr ⟨q1, by omega, q3⟩
          · subst q; exact Or.inl ⟨hb, by omega, hc⟩
        · rintro (⟨q1, q2, q3⟩ | ⟨q1, q2, q3⟩)
          · by_cases w : y = b
            · exact Or.inr w
            · exact Or.inl (Or.inl ⟨q1, by omega, q3⟩)
          · exact Or.inl (Or.inr ⟨q1, by omega, q3⟩)
      · rw [if_neg e2, h2 x y hx]
        unfold doneP
        constructor
        · rintro (⟨q1, q2, q3⟩ | ⟨q1, q2, q3⟩)
          · exact Or.inl ⟨q1, by omega, q3⟩
          · exact Or.inr ⟨q1, by omega, q3⟩
        · rintro (⟨q1, q2, q3⟩ | ⟨q1, q2, q3⟩)
          · exact Or.inl ⟨q1, by omega, q3⟩
          · exact Or.inr ⟨q1, by omega, q3⟩
  · have s1 := fb_sm_upd (fun k => pcN (cf k)) (pcN (cf a ||| 2 ^ b)) (i := a) (n := 8) ha
    have s2 := fb_sm_upd (fun k => if k = a then pcN (cf a ||| 2 ^ b) else pcN (cf k)) (pcN (cf b ||| 2 ^ a)) (i := b) (n := 8) (by omega)
    have e : fb_sm (fun k => pcN (if k = b then cf b ||| 2 ^ a else if k = a then cf a ||| 2 ^ b else cf k)) 8 = fb_sm (fun k => if k = b then pcN (cf b ||| 2 ^ a) else if k = a then pcN (cf a ||| 2 ^ b) else pcN (cf k)) 8 := fb_sm_cong (fun k _ => by
      show pcN (if k = b then cf b ||| 2 ^ a else if k = a then cf a ||| 2 ^ b else cf k) = _
      by_cases w : k = b
      · rw [if_pos w, if_pos w]
      · rw [if_neg w, if_neg w]
        by_cases w2 : k = a
        · rw [if_pos w2, if_pos w2]
        · rw [if_neg w2, if_neg w2])
    rw [e]
    simp only [if_neg nab] at s2
    rw [pcN_set (by omega) ta] at s1 s2
    rw [pcN_set (by omega) tb] at s2 ⊢
    have c1 : cntN can a (b + 1) = cntN can a b + 1 := by
      unfold cntN
      rw [fb_ct_succ, hc]
      simp [Nat.add_assoc]
    rw [c1]
    rw [pcN_set (by omega) ta]
    omega
theorem G_find_20_go {n : Nat} {yr ct bo : Nat → Int32} {Y C B : Nat → Nat} (hn : n ≤ 8) (h : RegN n yr ct bo Y C B) (k : Int32 → (Nat → Int32) → Option (Nat → Int32)) {a : Nat} (ha : a < n) : ∀ (m b : Nat) (conf : Nat → Int32), b + m = a → ConfI (canN Y C B) a b conf → ∀ f, m < f → ∃ conf2, fG_findConflicts_20 k (nI a) (nI n) yr ct bo f (nI b) conf = k (nI (a + 1)) conf2 ∧ ConfI (canN Y C B) (a + 1) 0 conf2
  | 0, b, conf, hb, hI, f, hf => by
    obtain ⟨f, rfl⟩ : ∃ g, f = g + 1 := ⟨f - 1, by omega⟩
    have e : b = a := by omega
    subst e
    refine ⟨conf, ?_, ConfI_row hI⟩
    show fG_findConflicts_20_b _ _ _ _ _ _ _ _ _ = _
    unfold fG_findConflicts_20_b
    rw [if_pos (nI_le (Nat.le_refl _) (by omega)), nI_1]
  | m + 1, b, conf, hb, hI, f, hf => by
    obtain ⟨f, rfl⟩ : ∃ g, f = g + 1 := ⟨f - 1, by omega⟩
    have ab : a ≠ b := by omega
    have body : ∀ c2, ConfI (canN Y C B) a (b + 1) c2 → ∃ conf2, fG_findConflicts_20 k (nI a) (nI n) yr ct bo f (nI (b + 1)) c2 = k (nI (a + 1)) conf2 ∧ ConfI (canN Y C B) (a + 1) 0 conf2 := fun c2 hc2 => G_find_20_go hn h k ha m (b + 1) c2 (by omega) hc2 f (by omega)
    show ∃ conf2, fG_findConflicts_20_b _ _ _ _ _ _ _ _ _ = _ ∧ _
    unfold fG_findConflicts_20_b fG_findConflicts_58
    rw [if_neg (nI_ge (show b < a by omega) (by omega)), G_cannotBoth_eq hn h ha (by omega) ab, bd_some, nI_1]
    cases hc : canN Y C B a b
    · rw [if_pos (by simp)]
      exact body conf (ConfI_no hI hc)
    · rw [if_neg (by simp), ck_nI (show a < 8 by omega) (by decide), ck_nI (show a < 8 by omega) (by decide), ck_nI (show b < 8 by omega) (by decide), ck_nI (show b < 8 by omega) (by decide), nI_clamp (show a < 2 ^ 31 by omega), nI_clamp (show b < 2 ^ 31 by omega)]
      exact body _ (ConfI_yes hI (by omega) (by omega) hc)
theorem G_find_10_go {n : Nat} {yr ct bo : Nat → Int32} {Y C B : Nat → Nat} (hn : n ≤ 8) (h : RegN n yr ct bo Y C B) : ∀ (m a : Nat) (conf : Nat → Int32), a + m = n → ConfI (canN Y C B) a 0 conf → ∀ f, m < f → ∃ conf2, fG_findConflicts_10 (nI n) yr ct bo f (nI a) conf = some conf2 ∧ ConfI (canN Y C B) n 0 conf2
  | 0, a, conf, ha, hI, f, hf => by
    obtain ⟨f, rfl⟩ : ∃ g, f = g + 1 := ⟨f - 1, by omega⟩
    have e : a = n := by omega
    subst e
    refine ⟨conf, ?_, hI⟩
    show fG_findConflicts_10_b _ _ _ _ _ _ _ = _
    unfold fG_findConflicts_10_b
    rw [if_pos (nI_le (Nat.le_refl _) (by omega))]
  | m + 1, a, conf, ha, hI, f, hf => by
    obtain ⟨f, rfl⟩ : ∃ g, f = g + 1 := ⟨f - 1, by omega⟩
    obtain ⟨c2, e2, h2⟩ := G_find_20_go hn h (fG_findConflicts_10 (nI n) yr ct bo f) (show a < n by omega) a 0 conf (by omega) hI FU (by rw [FU_eq]; omega)
    obtain ⟨c3, e3, h3⟩ := G_find_10_go hn h m (a + 1) c2 (by omega) h2 f (by omega)
    refine ⟨c3, ?_, h3⟩
    show fG_findConflicts_10_b _ _ _ _ _ _ _ = _
    unfold fG_findConflicts_10_b
    rw [if_neg (nI_ge (show a < n by omega) (by omega)), show (0 : Int32) = nI 0 from rfl, e2, e3]
theorem G_find_eq {n : Nat} {yr ct bo : Nat → Int32} {Y C B : Nat → Nat} (hn : n ≤ 8) (h : RegN n yr ct bo Y C B) (conf : Nat → Int32) : ∃ conf2, fG_findConflicts (nI n) yr ct bo conf = some conf2 ∧ ConfI (canN Y C B) n 0 conf2 := by
  unfold fG_findConflicts
  rw [J_fill_eq _ _ _ (by decide), bd_some]
  exact G_find_10_go hn h n 0 _ (by omega) (ConfI_0 _ _) FU (by rw [FU_eq]; omega)
/-- no bits beyond -/
theorem ConfI.beyond {can : Nat → Nat → Bool} {n : Nat} {cf : Nat → Nat} (h2 : ∀ x y, x < 8 → ((cf x).testBit y = true ↔ (y < x ∧ doneP n 0 x y ∧ can x y = true) ∨ (x < y ∧ doneP n 0 y x ∧ can y x = true))) {x : Nat} (hx : x < 8) (hn : n ≤ x) : pcN (cf x) = 0 := by
  unfold pcN
  refine fb_ct_zero.mpr (fun k _ => ?_)
  cases q : (cf x).testBit k
  · rfl
  · rcases (h2 x k hx).mp q with ⟨w1, w2, _⟩ | ⟨w1, w2, _⟩
    · unfold doneP at w2; omega
    · unfold doneP at w2; omega
theorem G_pairs_go {n : Nat} (hn : n ≤ 8) {conf : Nat → Int32} {cf : Nat → Nat} (h1 : ∀ k, k < 8 → conf k = nI (cf k) ∧ cf k < 2 ^ 8) : ∀ (m a : Nat), a + m = n → ∀ f, m < f → fG_pairs_4 (nI n) conf f (nI (fb_sm (fun k => pcN (cf k)) a)) (nI a) = some (nI (fb_sm (fun k => pcN (cf k)) n / 2))
  | 0, a, ha, f, hf => by
    obtain ⟨f, rfl⟩ : ∃ g, f = g + 1 := ⟨f - 1, by omega⟩
    have hb : fb_sm (fun k => pcN (cf k)) a ≤ a * 22 := by
      have := fb_sm_le (f := fun k => pcN (cf k)) (g := fun _ => 22) (n := a) (fun k _ => pcN_le _)
      rw [fb_sm_const] at this
      exact this
    show fG_pairs_4_b _ _ _ _ _ = _
    unfold fG_pairs_4_b
    rw [if_pos (nI_le (show n ≤ a by omega) (by omega)), show (2 : Int32) = nI 2 from rfl, pk_div (by omega) (by decide) (by decide), show a = n by omega]
  | m + 1, a, ha, f, hf => by
    obtain ⟨f, rfl⟩ : ∃ g, f = g + 1 := ⟨f - 1, by omega⟩
    show fG_pairs_4_b _ _ _ _ _ = _
    unfold fG_pairs_4_b
    rw [if_neg (nI_ge (show a < n by omega) (by omega)), ck_nI (show a < 8 by omega) (by decide), nI_clamp (by omega), (h1 a (by omega)).1, J_bitCount_eq (Nat.lt_of_lt_of_le (h1 a (by omega)).2 (by decide)), bd_some, nI_add, nI_1]
    have := G_pairs_go hn h1 m (a + 1) (by omega) f (by omega)
    rw [fb_sm_succ] at this
    exact this
theorem G_pairs_eq {can : Nat → Nat → Bool} {n : Nat} (hn : n ≤ 8) {conf : Nat → Int32} (h : ConfI can n 0 conf) : fG_pairs (nI n) conf = some (nI (cntN can n 0)) := by
  obtain ⟨cf, h1, h2, h3⟩ := h
  unfold fG_pairs
  have k := G_pairs_go hn h1 n 0 (by omega) FU (by rw [FU_eq]; omega)
  have e : fb_sm (fun k => pcN (cf k)) 8 = fb_sm (fun k => pcN (cf k)) n := by
    have e1 : fb_sm (fun k => pcN (cf k)) 8 = fb_sm (fun k => pcN (cf k)) (n + (8 - n)) := by rw [show n + (8 - n) = 8 by omega]
    rw [e1, fb_sm_split]
    have z : fb_sm (fun k => pcN (cf (n + k))) (8 - n) = fb_sm (fun _ => 0) (8 - n) := fb_sm_cong (fun k hk => ConfI.beyond h2 (by omega) (by omega))
    rw [z, fb_sm_const]
    omega
  rw [← e, h3, Nat.mul_div_cancel_left _ (by decide)] at k
  exact k
/-! the reference's pairs -/
def cntW (can : Nat → Nat → Bool) (w n : Nat) : Nat := fb_sm (fun a => fb_ct (fun b => !w.testBit a && !w.testBit b && can a b) a) n
theorem cntW_le (can : Nat → Nat → Bool) (w n : Nat) : cntW can w n ≤ n * n := by
  unfold cntW
  have : fb_sm (fun a => fb_ct (fun b => !w.testBit a && !w.testBit b && can a b) a) n ≤ fb_sm (fun _ => n) n := fb_sm_le (fun a ha => Nat.le_trans (fb_ct_le _ _) (by omega))
  rw [fb_sm_const] at this
  exact this
theorem M_pairs_15_go {n : Nat} {yr ct bo : Nat → Int32} {Y C B : Nat → Nat} (hn : n ≤ 8) (h : RegN n yr ct bo Y C B) {w : Nat} (hw : w < 2 ^ 8) (k : Int32 → Int32 → Option Int32) {a : Nat} (ha : a < n) (s : Nat) : ∀ (m b : Nat), b + m = a → ∀ f, m < f → fM_pairsBy_15 k (nI w) (nI a) (nI n) yr ct bo f (nI (s + fb_ct (fun b => !w.testBit a && !w.testBit b && canN Y C B a b) b)) (nI b) = k (nI (s + fb_ct (fun b => !w.testBit a && !w.testBit b && canN Y C B a b) a)) (nI (a + 1))
  | 0, b, hb, f, hf => by
    obtain ⟨f, rfl⟩ : ∃ g, f = g + 1 := ⟨f - 1, by omega⟩
    have e : b = a := by omega
    subst e
    show fM_pairsBy_15_b _ _ _ _ _ _ _ _ _ _ = _
    unfold fM_pairsBy_15_b
    rw [if_pos (nI_le (Nat.le_refl _) (by omega)), nI_1]
  | m + 1, b, hb, f, hf => by
    obtain ⟨f, rfl⟩ : ∃ g, f = g + 1 := ⟨f - 1, by omega⟩
    have ih := M_pairs_15_go hn h hw k ha s m (b + 1) (by omega) f (by omega)
    rw [fb_ct_succ] at ih
    show fM_pairsBy_15_b _ _ _ _ _ _ _ _ _ _ = _
    unfold fM_pairsBy_15_b fM_pairsBy_53 fM_pairsBy_54
    rw [if_neg (nI_ge (show b < a by omega) (by omega)), M_isIn_eq (by omega) (by omega), bd_some]
    cases t1 : w.testBit a
    · rw [if_pos (by simp), M_isIn_eq (by omega) (by omega), bd_some]
      cases t2 : w.testBit b
      · rw [if_pos (by simp), M_isCannot_eq hn h ha (by omega) (by omega), bd_some]
        cases t3 : canN Y C B a b
        · rw [if_pos (by simp), show (0 : Int32) = nI 0 from rfl, nI_add, nI_1]
          simp only [t1, t2, t3] at ih
          exact ih
        · rw [if_neg (by simp), show (1 : Int32) = nI 1 from rfl, nI_add, nI_add]
          simp only [t1, t2, t3] at ih
          exact ih
      · rw [if_neg (by simp), show (0 : Int32) = nI 0 from rfl, nI_add, nI_1]
        simp only [t1, t2] at ih
        exact ih
    · rw [if_neg (by simp), show (0 : Int32) = nI 0 from rfl, nI_add, nI_1]
      simp only [t1] at ih
      exact ih
theorem M_pairs_4_go {n : Nat} {yr ct bo : Nat → Int32} {Y C B : Nat → Nat} (hn : n ≤ 8) (h : RegN n yr ct bo Y C B) {w : Nat} (hw : w < 2 ^ 8) : ∀ (m a : Nat), a + m = n → ∀ f, m < f → fM_pairsBy_4 (nI w) (nI n) yr ct bo f (nI (cntW (canN Y C B) w a)) (nI a) = some (nI (cntW (canN Y C B) w n))
  | 0, a, ha, f, hf => by
    obtain ⟨f, rfl⟩ : ∃ g, f = g + 1 := ⟨f - 1, by omega⟩
    have e : a = n := by omega
    subst e
    show fM_pairsBy_4_b _ _ _ _ _ _ _ _ = _
    unfold fM_pairsBy_4_b
    rw [if_pos (nI_le (Nat.le_refl _) (by omega))]
  | m + 1, a, ha, f, hf => by
    obtain ⟨f, rfl⟩ : ∃ g, f = g + 1 := ⟨f - 1, by omega⟩
    have ih := M_pairs_4_go hn h hw m (a + 1) (by omega) f (by omega)
    have k := M_pairs_15_go hn h hw (fM_pairsBy_4 (nI w) (nI n) yr ct bo f) (show a < n by omega) (cntW (canN Y C B) w a) a 0 (by omega) FU (by rw [FU_eq]; omega)
    show fM_pairsBy_4_b _ _ _ _ _ _ _ _ = _
    unfold fM_pairsBy_4_b
    rw [if_neg (nI_ge (show a < n by omega) (by omega))]
    exact k.trans ih
theorem M_pairsBy_eq {n : Nat} {yr ct bo : Nat → Int32} {Y C B : Nat → Nat} (hn : n ≤ 8) (h : RegN n yr ct bo Y C B) {w : Nat} (hw : w < 2 ^ 8) : fM_pairsBy (nI w) (nI n) yr ct bo = some (nI (cntW (canN Y C B) w n)) := by
  unfold fM_pairsBy
  exact M_pairs_4_go hn h hw n 0 (by omega) FU (by rw [FU_eq]; omega)
theorem cntW_0 (can : Nat → Nat → Bool) (n : Nat) : cntW can 0 n = cntN can n 0 := by
  unfold cntW cntN
  show fb_sm (fun a => fb_ct (fun b => !(0 : Nat).testBit a && !(0 : Nat).testBit b && can a b) a) n = fb_sm (fun x => fb_ct (can x) x) n + 0
  rw [Nat.add_zero]
  refine fb_sm_cong (fun a _ => fb_ct_cong (fun b _ => ?_))
  show (!(0 : Nat).testBit a && !(0 : Nat).testBit b && can a b) = can a b
  rw [Nat.zero_testBit, Nat.zero_testBit]
  simp
theorem cntW_zero {can : Nat → Nat → Bool} {w n : Nat} : cntW can w n = 0 ↔ ∀ a b, a < n → b < a → can a b = true → w.testBit a = true ∨ w.testBit b = true := by
  unfold cntW
  constructor
  · intro h a b ha hb hc
    have h1 := fb_sm_zero h a ha
    have h2 := fb_ct_zero.mp h1 b hb
    simp only [hc, Bool.and_true, Bool.and_eq_false_imp] at h2
    cases t : w.testBit a
    · rw [t] at h2
      simp at h2
      exact Or.inr h2
    · exact Or.inl rfl
  · intro h
    have e : fb_sm (fun a => fb_ct (fun b => !w.testBit a && !w.testBit b && can a b) a) n = fb_sm (fun _ => 0) n := fb_sm_cong (fun a ha => fb_ct_zero.mpr (fun b hb => by
      show (!w.testBit a && !w.testBit b && can a b) = false
      cases hc : can a b
      · simp
      · rcases h a b ha hb hc with q | q <;> simp [q]))
    rw [e, fb_sm_const]
    omega
theorem andnot0 (x o : Nat) : (nI x &&& (nI o ^^^ (-1)) = 0) ↔ ∀ i, i < 32 → x.testBit i = true → o.testBit i = true := by
  rw [← Int32.toBitVec_inj]
  show BitVec.ofNat 32 x &&& (BitVec.ofNat 32 o ^^^ BitVec.allOnes 32) = 0#32 ↔ _
  have bit : ∀ i, i < 32 → (BitVec.ofNat 32 x &&& (BitVec.ofNat 32 o ^^^ BitVec.allOnes 32)).getLsbD i = (x.testBit i && !o.testBit i) := by
    intro i hi
    rw [BitVec.getLsbD_and, BitVec.getLsbD_xor, BitVec.getLsbD_ofNat, BitVec.getLsbD_ofNat, BitVec.getLsbD_allOnes]
    simp [hi]
  constructor
  · intro h i hi hx
    have h1 := bit i hi
    rw [h, BitVec.getLsbD_zero, hx] at h1
    cases t : o.testBit i
    · rw [t] at h1; cases h1
    · rfl
  · intro h
    apply BitVec.eq_of_getLsbD_eq
    intro i hi
    rw [bit i hi, BitVec.getLsbD_zero]
    cases t : x.testBit i
    · rfl
    · rw [h i hi t]; rfl
def restP (n : Nat) (cf : Nat → Nat) (o : Nat) : Prop := ∀ a, a < n → o.testBit a = false → ∀ i, i < 32 → (cf a).testBit i = true → o.testBit i = true
theorem G_rest_go {n : Nat} (hn : n ≤ 8) {conf : Nat → Int32} {cf : Nat → Nat} (h1 : ∀ k, k < 8 → conf k = nI (cf k) ∧ cf k < 2 ^ 8) {o : Nat} (ho : o < 2 ^ 8) (gb : Bool) (hg : gb = true ↔ restP n cf o) : ∀ (m a : Nat), a + m = n → (∀ x, x < a → o.testBit x = false → ∀ i, i < 32 → (cf x).testBit i = true → o.testBit i = true) → ∀ f, m < f → fG_restCanBe_2 (nI o) (nI n) conf f (nI a) = some (if gb then 1 else 0)
  | 0, a, ha, hp, f, hf => by
    obtain ⟨f, rfl⟩ : ∃ g, f = g + 1 := ⟨f - 1, by omega⟩
    have e : a = n := by omega
    subst e
    show fG_restCanBe_2_b _ _ _ _ _ = _
    unfold fG_restCanBe_2_b
    rw [if_pos (nI_le (Nat.le_refl _) (by omega)), hg.mpr hp]
    rfl
  | m + 1, a, ha, hp, f, hf => by
    obtain ⟨f, rfl⟩ : ∃ g, f = g + 1 := ⟨f - 1, by omega⟩
    show fG_restCanBe_2_b _ _ _ _ _ = _
    unfold fG_restCanBe_2_b fG_restCanBe_33
    rw [if_neg (nI_ge (show a < n by omega) (by omega)), bitN (by omega) (by omega), nI_1]
    cases t : o.testBit a
    · rw [if_pos (by decide), ck_nI (show a < 8 by omega) (by decide), nI_clamp (by omega), (h1 a (by omega)).1]
      by_cases q : nI (cf a) &&& (nI o ^^^ (-1)) = 0
      · rw [if_pos q]
        refine G_rest_go hn h1 ho gb hg m (a + 1) (by omega) (fun x hx => ?_) f (by omega)
        by_cases e : x = a
        · subst e; exact fun _ => (andnot0 _ _).mp q
        · exact hp x (by omega)
      · rw [if_neg q]
        cases g : gb
        · rfl
        · exact absurd ((andnot0 _ _).mpr (hg.mp g a (by omega) t)) q
    · rw [if_neg (by decide)]
      refine G_rest_go hn h1 ho gb hg m (a + 1) (by omega) (fun x hx hxt => ?_) f (by omega)
      by_cases e : x = a
      · subst e; rw [t] at hxt; cases hxt
      · exact hp x (by omega) hxt
/-- both sides' word on a set: the rest can be -/
theorem rest_iff {can : Nat → Nat → Bool} {n : Nat} (hn : n ≤ 8) {cf : Nat → Nat} (h1 : ∀ k, k < 8 → cf k < 2 ^ 8) (h2 : ∀ x y, x < 8 → ((cf x).testBit y = true ↔ (y < x ∧ doneP n 0 x y ∧ can x y = true) ∨ (x < y ∧ doneP n 0 y x ∧ can y x = true))) (o : Nat) : restP n cf o ↔ cntW can o n = 0 := by
  rw [cntW_zero]
  constructor
  · intro h a b ha hb hc
    cases t : o.testBit a
    · right
      exact h a ha t b (by omega) ((h2 a b (by omega)).mpr (Or.inl ⟨hb, Or.inl ha, hc⟩))
    · exact Or.inl rfl
  · intro h a ha t i hi hb
    rcases (h2 a i (by omega)).mp hb with ⟨w1, w2, w3⟩ | ⟨w1, w2, w3⟩
    · rcases h a i ha w1 w3 with q | q
      · rw [t] at q; cases q
      · exact q
    · have : i < n := by unfold doneP at w2; omega
      rcases h i a this w1 w3 with q | q
      · exact q
      · rw [t] at q; cases q
/-- the first of the least, of those that will do -/
def bst (g : Nat → Bool) : Nat → Option Nat
  | 0 => none
  | k + 1 => match bst g k with
    | none => if g k then some k else none
    | some b => if pcN k < pcN b then (if g k then some k else some b) else some b
theorem bst_succ (g : Nat → Bool) (k : Nat) : bst g (k + 1) = (match bst g k with | none => (if g k then some k else none) | some b => if pcN k < pcN b then (if g k then some k else some b) else some b) := rfl
theorem bst_lt (g : Nat → Bool) : ∀ k b, bst g k = some b → b < k
  | 0, b, h => by cases h
  | k + 1, b, h => by
    unfold bst at h
    cases e : bst g k with
    | none =>
      rw [e] at h
      simp only at h
      split at h
      · cases h; omega
      · cases h
    | some c =>
      have hc := bst_lt g k c e
      rw [e] at h
      simp only at h
      split at h
      · split at h
        · cases h; omega
        · cases h; omega
      · cases h; omega
theorem bst_some (g : Nat → Bool) {k : Nat} (h : g k = true) : ∃ b, bst g (k + 1) = some b := by
  rw [bst_succ]
  cases bst g k with
  | none => exact ⟨k, by simp [h]⟩
  | some c =>
    by_cases q : pcN k < pcN c
    · exact ⟨k, by simp [q, h]⟩
    · exact ⟨c, by simp [q]⟩
theorem pc_full : ∀ n : Fin 9, ∀ o : Fin 256, o.val + 1 < 2 ^ n.val → pcN o.val < n.val := by decide +kernel
theorem pc_fullN : ∀ n : Fin 9, pcN (2 ^ n.val - 1) = n.val := by decide +kernel
def bC (n : Nat) : Option Nat → Nat
  | none => 2 ^ n - 1
  | some b => b
def bM : Option Nat → Int32
  | none => -1
  | some b => nI b
theorem pw8 {n : Nat} (hn : n ≤ 8) : 2 ^ n ≤ 256 := Nat.pow_le_pow_right (by decide) hn
theorem G_least_go {n : Nat} (hn : n ≤ 8) {conf : Nat → Int32} (g : Nat → Bool) (hg : ∀ o, o < 2 ^ 8 → fG_restCanBe (nI o) (nI n) conf = some (if g o then 1 else 0)) : ∀ (m k : Nat), k + m = 2 ^ n → ∀ f, m < f → fG_leastOut_11 (nI n) conf f (nI (bC n (bst g k))) (nI k) = some (nI (bC n (bst g (2 ^ n))))
  | 0, k, hk, f, hf => by
    obtain ⟨f, rfl⟩ : ∃ g, f = g + 1 := ⟨f - 1, by omega⟩
    have := pw8 hn
    show fG_leastOut_11_b _ _ _ _ _ = _
    unfold fG_leastOut_11_b
    rw [shl1 (by omega), if_pos (nI_le (by omega) (by omega)), show k = 2 ^ n by omega]
  | m + 1, k, hk, f, hf => by
    obtain ⟨f, rfl⟩ : ∃ g, f = g + 1 := ⟨f - 1, by omega⟩
    have p8 := pw8 hn
    have pp : 0 < 2 ^ n := Nat.pow_pos (by decide)
    have hb : bC n (bst g k) < 2 ^ 8 := by
      cases e : bst g k with
      | none => show 2 ^ n - 1 < 2 ^ 8; omega
      | some b => have := bst_lt g k b e; show b < 2 ^ 8; omega
    have ih := G_least_go hn g hg m (k + 1) (by omega) f (by omega)
    show fG_leastOut_11_b _ _ _ _ _ = _
    unfold fG_leastOut_11_b fG_leastOut_42
    rw [shl1 (by omega), if_neg (nI_ge (by omega) (by omega)), J_bitCount_eq (by omega), bd_some, J_bitCount_eq (by omega), bd_some, nI_1]
    have pl := pcN_le k
    have pl2 := pcN_le (bC n (bst g k))
    by_cases q : pcN k < pcN (bC n (bst g k))
    · rw [if_neg (nI_ge q (by omega)), hg k (by omega), bd_some]
      cases t : g k
      · rw [if_pos (by simp)]
        have e : bC n (bst g (k + 1)) = bC n (bst g k) := by
          rw [bst_succ]
          cases bst g k with
          | none => simp [t]
          | some b => simp [t]
        rw [e] at ih
        exact ih
      · rw [if_neg (by simp)]
        have e : bC n (bst g (k + 1)) = k := by
          rw [bst_succ]
          cases eb : bst g k with
          | none => simp [t]; rfl
          | some b => rw [eb] at q; simp [t, show pcN k < pcN b from q]; rfl
        rw [e] at ih
        exact ih
    · rw [if_pos (nI_le (by omega) (by omega))]
      have e : bC n (bst g (k + 1)) = bC n (bst g k) := by
        rw [bst_succ]
        cases eb : bst g k with
        | none =>
          rw [eb] at q
          by_cases kf : k + 1 < 2 ^ n
          · exfalso
            apply q
            show pcN k < pcN (2 ^ n - 1)
            have e1 := pc_fullN ⟨n, by omega⟩
            have e2 := pc_full ⟨n, by omega⟩ ⟨k, by omega⟩ kf
            simp only at e1 e2
            omega
          · have ek : k = 2 ^ n - 1 := by omega
            cases t : g k
            · simp
            · simp only [if_true]
              show k = 2 ^ n - 1
              exact ek
        | some b => rw [eb] at q; simp [show ¬ pcN k < pcN b from q]
      rw [e] at ih
      exact ih
theorem M_leave_go {n : Nat} {yr ct bo : Nat → Int32} {Y C B : Nat → Nat} (hn : n ≤ 8) (h : RegN n yr ct bo Y C B) (what : Int32) (g : Nat → Bool) (hg : ∀ o, g o = true ↔ cntW (canN Y C B) o n = 0) : ∀ (m k : Nat), k + m = 2 ^ n → ∀ f, m < f → fM_leaveOf_14 what (nI n) yr ct bo f (bM (bst g k)) (nI k) = (if what = 1 then bd (fM_ones (bM (bst g (2 ^ n)))) (fun u_6 => some u_6) else some (bM (bst g (2 ^ n))))
  | 0, k, hk, f, hf => by
    obtain ⟨f, rfl⟩ : ∃ g, f = g + 1 := ⟨f - 1, by omega⟩
    have := pw8 hn
    show fM_leaveOf_14_b _ _ _ _ _ _ _ _ = _
    unfold fM_leaveOf_14_b
    rw [shl1 (by omega), if_pos (nI_le (by omega) (by omega)), show k = 2 ^ n by omega]
  | m + 1, k, hk, f, hf => by
    obtain ⟨f, rfl⟩ : ∃ g, f = g + 1 := ⟨f - 1, by omega⟩
    have p8 := pw8 hn
    have z1 : ¬ (1 : Int32) = 0 := by decide
    have ih := M_leave_go hn h what g hg m (k + 1) (by omega) f (by omega)
    have cl := cntW_le (canN Y C B) k n
    have c64 : n * n ≤ 64 := Nat.mul_le_mul hn hn
    show fM_leaveOf_14_b _ _ _ _ _ _ _ _ = _
    unfold fM_leaveOf_14_b fM_leaveOf_40 fM_leaveOf_45 fM_leaveOf_64 fM_leaveOf_65
    rw [shl1 (by omega), if_neg (nI_ge (by omega) (by omega)), nI_1]
    have gk : (nI (cntW (canN Y C B) k n) = 0) ↔ g k = true := by
      rw [hg k]
      exact ⟨fun w => (nI_eq (by omega) (by decide)).mp (show nI (cntW (canN Y C B) k n) = nI 0 from w), fun w => by rw [w]; rfl⟩
    cases eb : bst g k with
    | none =>
      rw [if_pos (show bM none = -1 from rfl), if_neg z1, M_pairsBy_eq hn h (by omega), bd_some]
      cases t : g k
      · rw [if_neg (fun w => by rw [gk.mp w] at t; cases t)]
        have e : bst g (k + 1) = none := by rw [bst_succ, eb]; simp [t]
        rw [e] at ih
        exact ih
      · rw [if_pos (gk.mpr t)]
        have e : bst g (k + 1) = some k := by rw [bst_succ, eb]; simp [t]
        rw [e] at ih
        exact ih
    | some b =>
      have hb := bst_lt g k b eb
      have pl := pcN_le k
      have pl2 := pcN_le b
      rw [if_neg (show ¬ bM (some b) = -1 from nI_ne_m1 (by omega)), M_ones_eq (by omega), bd_some, show bM (some b) = nI b from rfl, M_ones_eq (by omega), bd_some]
      by_cases q : pcN k < pcN b
      · rw [if_neg (nI_ge q (by omega)), if_neg z1, M_pairsBy_eq hn h (by omega), bd_some]
        cases t : g k
        · rw [if_neg (fun w => by rw [gk.mp w] at t; cases t)]
          have e : bst g (k + 1) = some b := by rw [bst_succ, eb]; simp [t]
          rw [e] at ih
          exact ih
        · rw [if_pos (gk.mpr t)]
          have e : bst g (k + 1) = some k := by rw [bst_succ, eb]; simp [t, q]
          rw [e] at ih
          exact ih
      · rw [if_pos (nI_le (by omega) (by omega)), if_pos rfl]
        have e : bst g (k + 1) = some b := by rw [bst_succ, eb]; simp [q]
        rw [e] at ih
        exact ih
theorem reg_leave {sz : Int32} {yr ct bo : Nat → Int32} {ms : Int32} {my mm mb : Nat → Int32} (h : RReg sz yr ct bo ms my mm mb) (a1 : Int32) (conf : Nat → Int32) : ∃ (r : Int32) (conf2 : Nat → Int32), fC_leave a1 sz yr ct bo conf = some (r, conf2) ∧ fM_leave a1 ms my mm mb = some r := by
  have z1 : ¬ (1 : Int32) = 0 := by decide
  obtain ⟨n, Y, C, B, hn, rfl, rfl, h1, h2⟩ := h.nums
  have p8 := pw8 hn
  have pp : 0 < 2 ^ n := Nat.pow_pos (by decide)
  unfold fC_leave fM_leave
  rw [M_in_eq, bd_some]
  by_cases c : a1 < 0
  · rw [if_pos c, if_neg (fun q : (0 : Int32) ≤ a1 ∧ a1 ≤ 2 => o_ltn c q.1), if_pos rfl]
    exact ⟨_, _, rfl, rfl⟩
  · rw [if_neg c]
    by_cases c2 : a1 ≤ 2
    · rw [if_pos c2, if_pos (And.intro (o_nlt c) (c2)), if_neg z1]
      obtain ⟨cf2, e1, hI⟩ := G_find_eq hn h1 conf
      rw [e1, bd_some]
      unfold fM_leaveOf
      by_cases c3 : a1 = 0
      · rw [if_pos c3, if_pos c3, G_pairs_eq hn hI, bd_some, show (0 : Int32) = nI 0 from rfl, M_pairsBy_eq hn h2 (by decide), bd_some, bd_some, cntW_0]
        exact ⟨_, _, rfl, rfl⟩
      · rw [if_neg c3, if_neg c3]
        obtain ⟨cf, g1, g2, g3⟩ := hI
        have hgm : ∀ o, (decide (cntW (canN Y C B) o n = 0)) = true ↔ cntW (canN Y C B) o n = 0 := fun o => decide_eq_true_iff
        have hgc : ∀ o, o < 2 ^ 8 → fG_restCanBe (nI o) (nI n) cf2 = some (if decide (cntW (canN Y C B) o n = 0) then 1 else 0) := by
          intro o ho
          unfold fG_restCanBe
          exact G_rest_go hn g1 ho (decide (cntW (canN Y C B) o n = 0)) ((hgm o).trans (rest_iff hn (fun k hk => (g1 k hk).2) g2 o).symm) n 0 (by omega) (fun x hx => absurd hx (Nat.not_lt_zero x)) FU (by rw [FU_eq]; omega)
        have kc := G_least_go hn (fun o => decide (cntW (canN Y C B) o n = 0)) hgc (2 ^ n) 0 (by omega) FU (by rw [FU_eq]; omega)
        have km := M_leave_go hn h2 a1 (fun o => decide (cntW (canN Y C B) o n = 0)) hgm (2 ^ n) 0 (by omega) FU (by rw [FU_eq]; omega)
        have full : (decide (cntW (canN Y C B) (2 ^ n - 1) n = 0)) = true := by
          rw [hgm, cntW_zero]
          intro a b ha hb hc
          left
          rw [Nat.testBit_two_pow_sub_one]
          exact decide_eq_true ha
        obtain ⟨b, eb⟩ := bst_some (fun o => decide (cntW (canN Y C B) o n = 0)) (k := 2 ^ n - 1) full
        rw [show 2 ^ n - 1 + 1 = 2 ^ n by omega] at eb
        have hb := bst_lt _ _ _ eb
        rw [eb] at kc km
        unfold fG_leastOut
        have kc' : fG_leastOut_11 (nI n) cf2 FU (nI (2 ^ n - 1)) (nI 0) = some (nI b) := kc
        have km' : fM_leaveOf_14 a1 (nI n) my mm mb FU (-1) (nI 0) = (if a1 = 1 then bd (fM_ones (nI b)) (fun u_6 => some u_6) else some (nI b)) := km
        have e9 : nI (2 ^ n) - 1 = nI (2 ^ n - 1) := pk_sub (b := 1) (by omega)
        rw [shl1 (by omega), e9, show (0 : Int32) = nI 0 from rfl, kc', km', bd_some]
        by_cases c4 : a1 = 1
        · rw [if_pos c4, if_pos c4, J_bitCount_eq (by omega), M_ones_eq (by omega), bd_some, bd_some, bd_some]
          exact ⟨_, _, rfl, rfl⟩
        · rw [if_neg c4, if_neg c4, bd_some]
          exact ⟨_, _, rfl, rfl⟩
    · rw [if_neg c2, if_neg (fun q : (0 : Int32) ≤ a1 ∧ a1 ≤ 2 => c2 q.2), if_pos rfl]
      exact ⟨_, _, rfl, rfl⟩
