/-! ===== the reference's choices: all of them ===== -/
def rnk (B : Nat) (c : Nat → Nat) : Nat → Nat
  | 0 => 0
  | m + 1 => rnk B c m * B + (c m - (m + 1))
theorem rnk_lt {B k : Nat} {c : Nat → Nat} (hd : ∀ i, i < k → c i - (i + 1) < B) : ∀ m, m ≤ k → rnk B c m < B ^ m
  | 0, _ => by show 0 < 1; omega
  | m + 1, h => by
    have a := rnk_lt hd m (by omega)
    have b := hd m (by omega)
    have e : (rnk B c m + 1) * B = rnk B c m * B + B := by rw [Nat.add_mul, Nat.one_mul]
    have le : (rnk B c m + 1) * B ≤ B ^ m * B := Nat.mul_le_mul_right B a
    show rnk B c m * B + (c m - (m + 1)) < B ^ (m + 1)
    rw [Nat.pow_succ]
    omega
theorem rnk_same {B i : Nat} {c : Nat → Nat} : ∀ m, m ≤ i → rnk B (nxt c i) m = rnk B c m
  | 0, _ => rfl
  | m + 1, h => by
    show rnk B (nxt c i) m * B + (nxt c i m - (m + 1)) = rnk B c m * B + (c m - (m + 1))
    rw [rnk_same m (by omega)]
    unfold nxt
    rw [if_pos (by omega)]
theorem rnk_up {B k i : Nat} {c : Nat → Nat} (hd : ∀ i, i < k → c i - (i + 1) < B) (h1 : i + 1 ≤ c i) : ∀ m, i + 1 ≤ m → m ≤ k → rnk B c m < rnk B (nxt c i) m
  | 0, h, _ => absurd h (by omega)
  | m + 1, h, hm => by
    show rnk B c m * B + (c m - (m + 1)) < rnk B (nxt c i) m * B + (nxt c i m - (m + 1))
    by_cases e : m = i
    · subst e
      rw [rnk_same m (Nat.le_refl m)]
      unfold nxt
      rw [if_neg (by omega)]
      omega
    · have a := rnk_up hd h1 m (by omega) (by omega)
      have b := hd m (by omega)
      have e : (rnk B c m + 1) * B = rnk B c m * B + B := by rw [Nat.add_mul, Nat.one_mul]
      have le : (rnk B c m + 1) * B ≤ rnk B (nxt c i) m * B := Nat.mul_le_mul_right B a
      omega
theorem Vi_Vd {e : Nat} : ∀ {k b : Nat} {c : Nat → Nat}, Vi e k b c ↔ (∀ i, i < k → b + i + 1 ≤ c i ∧ c i + k ≤ e + i) ∧ ∀ i j, i < j → j < k → c i + (j - i) ≤ c j
  | 0, b, c => ⟨fun _ => ⟨fun i h => absurd h (Nat.not_lt_zero i), fun i j _ h => absurd h (Nat.not_lt_zero j)⟩, fun _ => trivial⟩
  | k + 1, b, c => by
    constructor
    · intro ⟨a1, a2, a3⟩
      obtain ⟨q1, q2⟩ := Vi_Vd.mp a3
      refine ⟨fun i hi => ?_, fun i j hij hj => ?_⟩
      · rcases Nat.eq_zero_or_pos i with w | w
        · subst w; omega
        · have r : c 0 + (i - 1) + 1 ≤ c (i - 1 + 1) ∧ c (i - 1 + 1) + k ≤ e + (i - 1) := q1 (i - 1) (by omega)
          rw [show i - 1 + 1 = i by omega] at r
          omega
      · rcases Nat.eq_zero_or_pos i with w | w
        · subst w
          have r : c 0 + (j - 1) + 1 ≤ c (j - 1 + 1) ∧ c (j - 1 + 1) + k ≤ e + (j - 1) := q1 (j - 1) (by omega)
          rw [show j - 1 + 1 = j by omega] at r
          omega
        · have r : c (i - 1 + 1) + (j - 1 - (i - 1)) ≤ c (j - 1 + 1) := q2 (i - 1) (j - 1) (by omega) (by omega)
          rw [show i - 1 + 1 = i by omega, show j - 1 + 1 = j by omega] at r
          omega
    · intro ⟨q1, q2⟩
      have q0 := q1 0 (by omega)
      refine ⟨by omega, by omega, Vi_Vd.mpr ⟨fun i hi => ?_, fun i j hij hj => ?_⟩⟩
      · have r := q2 0 (i + 1) (by omega) (by omega)
        have s := q1 (i + 1) (by omega)
        show c 0 + i + 1 ≤ c (i + 1) ∧ c (i + 1) + k ≤ e + i
        omega
      · have r := q2 (i + 1) (j + 1) (by omega) (by omega)
        show c (i + 1) + (j - i) ≤ c (j + 1)
        omega
theorem Vi0 {P k : Nat} {c : Nat → Nat} : Vi (P - 1) k 0 c ↔ Vd P k c := by
  rw [Vi_Vd]
  unfold Vd
  constructor
  · intro ⟨a, b⟩
    exact ⟨fun i hi => by have := a i hi; omega, b⟩
  · intro ⟨a, b⟩
    exact ⟨fun i hi => by have := a i hi; omega, b⟩
theorem lex_eq {k : Nat} {b c d : Nat → Nat} (h : lexL k b c) (g : eqK k d c) : lexL k b d := by
  obtain ⟨m, h1, h2, h3⟩ := h
  exact ⟨m, h1, fun i hi => (h2 i hi).trans (g i (by omega)).symm, by rw [g m h1]; exact h3⟩
theorem eq_lex {k : Nat} {b c d : Nat → Nat} (g : eqK k b c) (h : lexL k c d) : lexL k b d := by
  obtain ⟨m, h1, h2, h3⟩ := h
  exact ⟨m, h1, fun i hi => (g i (by omega)).trans (h2 i hi), by rw [g m h1]; exact h3⟩
section db
variable {x y z P k : Nat} {tm : Nat → Nat} {lim mt : Nat → Int32}
theorem cst_le (h1 : 1 ≤ x) (hz : z ≤ 20) (ht : ∀ k, k < P → tm k ≤ 400) : ∀ (k i : Nat) (c : Nat → Nat), i < P → (∀ t, t < k → c t < P) → cst (gp x y z tm) (P - 1) k i c ≤ 420 * (k + 1)
  | 0, i, c, hi, _ => by
    have := gp_le (y := y) h1 hz ht hi (show P - 1 < P by omega)
    show gp x y z tm i (P - 1) ≤ _
    omega
  | k + 1, i, c, hi, hc => by
    have a := gp_le (y := y) h1 hz ht hi (hc 0 (by omega))
    have b := cst_le h1 hz ht k (c 0) (fun j => c (j + 1)) (hc 0 (by omega)) (fun t h => hc (t + 1) (by omega))
    show gp x y z tm i (c 0) + cst (gp x y z tm) (P - 1) k (c 0) (fun j => c (j + 1)) ≤ _
    omega
/-- the first best among those up to here -/
def UpTo (g : Nat → Nat → Nat) (P k : Nat) (c b : Nat → Nat) (R : (Nat → Nat) → Prop) : Prop := Vd P k b ∧ R b ∧ ∀ d, Vd P k d → R d → cst g (P - 1) k 0 b ≤ cst g (P - 1) k 0 d ∧ (cst g (P - 1) k 0 d = cst g (P - 1) k 0 b → ¬ lexL k d b)
def InvD (g : Nat → Nat → Nat) (P k : Nat) (c : Nat → Nat) (best : Int32) (bp : Nat → Int32) : Prop := (best = -1 ∧ ∀ d, Vd P k d → ¬ lexL k d c) ∨ ∃ b, best = nI (cst g (P - 1) k 0 b) ∧ (∀ t, t < k → bp t = nI (b t)) ∧ UpTo g P k c b (fun d => lexL k d c)
theorem Vd_lt {c : Nat → Nat} (h : Vd P k c) : ∀ t, t < k → c t < P := fun t ht => by have := h.1 t ht; omega
theorem db_step (h1 : 1 ≤ x) (h2 : x ≤ y) (h3 : y ≤ 9) (hz : z ≤ 20) (hP0 : 0 < P) (hP : P ≤ 20) (l0 : lim 0 = nI x) (l1 : lim 1 = nI y) (l2 : lim 2 = nI z) (ha : ∀ k, k < P → mt k = nI (tm k) ∧ tm k ≤ 400) (k50 : dbK) (best : Int32) (pk bp : Nat → Int32) (hk : k ≤ 5) {c : Nat → Nat} (hc : ∀ t, t < k → pk t = nI (c t)) (hV : Vd P k c) (hI : InvD (gp x y z tm) P k c best bp) : ∃ (b : Nat → Nat) (bp2 : Nat → Int32), fM_doubtBy_63 k50 (nI k) best (nI P) lim mt pk bp FU 0 0 0 = fM_doubtBy_162 k50 (nI k) (nI (cst (gp x y z tm) (P - 1) k 0 b)) (nI P) lim mt pk bp2 ∧ (∀ t, t < k → bp2 t = nI (b t)) ∧ UpTo (gp x y z tm) P k c b (fun d => lexL k d c ∨ eqK k d c) := by
  have e0 : (fun t => c (0 + t)) = c := funext fun t => by rw [Nat.zero_add]
  have s := db63 h1 h2 h3 hz hP0 hP l0 l1 l2 ha k50 best pk bp hk hc (Vd_lt hV) k 0 0 0 (by omega) hP0 FU (by rw [FU_eq]; omega)
  rw [e0, Nat.zero_add] at s
  have s' : fM_doubtBy_63 k50 (nI k) best (nI P) lim mt pk bp FU 0 0 0 = _ := s
  rw [s']
  have bc := cst_le (y := y) h1 hz (fun k hk => (ha k hk).2) k 0 c hP0 (Vd_lt hV)
  obtain ⟨bp3, w1, w2⟩ := db136 (lim := lim) (mt := mt) k50 (nI (cst (gp x y z tm) (P - 1) k 0 c)) (nI P) pk hk hc k 0 bp (by omega) (fun t ht => absurd ht (Nat.not_lt_zero t)) FU (by rw [FU_eq]; omega)
  have w1' : fM_doubtBy_130 k50 (nI k) (nI (cst (gp x y z tm) (P - 1) k 0 c)) (nI P) lim mt pk bp = fM_doubtBy_162 k50 (nI k) (nI (cst (gp x y z tm) (P - 1) k 0 c)) (nI P) lim mt pk bp3 := w1
  rcases hI with ⟨i1, i2⟩ | ⟨b, i1, i2, i3, i4, i5⟩
  · refine ⟨c, bp3, ?_, w2, hV, Or.inr (fun i _ => rfl), fun d hd hr => ?_⟩
    · rw [if_pos i1, w1']
    · rcases hr with q | q
      · exact absurd q (i2 d hd)
      · rw [cst_cong q]
        exact ⟨Nat.le_refl _, fun _ w => lex_ne w q⟩
  · have bb := cst_le (y := y) h1 hz (fun k hk => (ha k hk).2) k 0 b hP0 (Vd_lt i3)
    have nb : ¬ best = -1 := by rw [i1]; exact nI_ne_m1 (by omega)
    rw [if_neg nb]
    by_cases w : cst (gp x y z tm) (P - 1) k 0 b ≤ cst (gp x y z tm) (P - 1) k 0 c
    · refine ⟨b, bp, ?_, i2, i3, Or.inl i4, fun d hd hr => ?_⟩
      · rw [i1, if_pos (nI_le w (by omega))]
      · rcases hr with q | q
        · exact i5 d hd q
        · rw [cst_cong q]
          exact ⟨w, fun _ v => lex_irr v (lex_eq i4 q)⟩
    · refine ⟨c, bp3, ?_, w2, hV, Or.inr (fun i _ => rfl), fun d hd hr => ?_⟩
      · rw [i1, if_neg (nI_ge (by omega) (by omega)), w1']
      · rcases hr with q | q
        · have := (i5 d hd q).1
          exact ⟨by omega, fun e => by omega⟩
        · rw [cst_cong q]
          exact ⟨Nat.le_refl _, fun _ v => lex_ne v q⟩
theorem db50 (h1 : 1 ≤ x) (h2 : x ≤ y) (h3 : y ≤ 9) (hz : z ≤ 20) (hP0 : 0 < P) (hP : P ≤ 20) (l0 : lim 0 = nI x) (l1 : lim 1 = nI y) (l2 : lim 2 = nI z) (ha : ∀ k, k < P → mt k = nI (tm k) ∧ tm k ≤ 400) (hk : k ≤ 5) (hkP : k = 0 ∨ k + 2 ≤ P) : ∀ (N : Nat) (c : Nat → Nat) (best : Int32) (pk bp : Nat → Int32), Vd P k c → (∀ t, t < k → pk t = nI (c t)) → InvD (gp x y z tm) P k c best bp → (P - 1 - k) ^ k - rnk (P - 1 - k) c k ≤ N → ∀ f, N + 1 < f → ∃ (b : Nat → Nat) (pk2 bp2 : Nat → Int32), fM_doubtBy_50 (nI k) (nI P) lim mt f best 1 pk bp = some (nI (cst (gp x y z tm) (P - 1) k 0 b), pk2, bp2) ∧ (∀ t, t < k → bp2 t = nI (b t)) ∧ UpTo (gp x y z tm) P k c b (fun _ => True) := by
  intro N
  induction N with
  | zero =>
    intro c best pk bp hV hc hI hN f hf
    have := rnk_lt (B := P - 1 - k) (k := k) (c := c) (fun i hi => by have := hV.1 i hi; omega) k (Nat.le_refl k)
    omega
  | succ N ih =>
    intro c best pk bp hV hc hI hN f hf
    obtain ⟨f, rfl⟩ : ∃ f', f = f' + 1 := ⟨f - 1, by omega⟩
    have dg : ∀ i, i < k → c i - (i + 1) < P - 1 - k := fun i hi => by have := hV.1 i hi; omega
    obtain ⟨b, bp2, s1, s2, s3, s4, s5⟩ := db_step h1 h2 h3 hz hP0 hP l0 l1 l2 ha (fM_doubtBy_50 (nI k) (nI P) lim mt f) best pk bp hk hc hV hI
    have st : fM_doubtBy_50 (nI k) (nI P) lim mt (f + 1) best 1 pk bp = fM_doubtBy_162 (fM_doubtBy_50 (nI k) (nI P) lim mt f) (nI k) (nI (cst (gp x y z tm) (P - 1) k 0 b)) (nI P) lim mt pk bp2 := by
      show fM_doubtBy_50_b _ _ _ _ _ _ _ _ _ = _
      unfold fM_doubtBy_50_b
      rw [if_neg (by decide)]
      exact s1
    rw [st]
    unfold fM_doubtBy_162
    have e1 : nI k - 1 = nI k - 1 := rfl
    rcases db167 (lim := lim) (mt := mt) (fM_doubtBy_50 (nI k) (nI P) lim mt f) (nI (cst (gp x y z tm) (P - 1) k 0 b)) pk bp2 hk hP (by omega) hc hV k (Nat.le_refl k) (fun j a1 a2 => by omega) FU (by rw [FU_eq]; omega) with ⟨q1, q2⟩ | ⟨i, pk2, q1, q2, q3, q4, q5⟩
    · refine ⟨b, pk, bp2, ?_, s2, s3, trivial, fun d hd _ => s5 d hd (last_no q1 hd)⟩
      obtain ⟨f, rfl⟩ : ∃ f', f = f' + 1 := ⟨f - 1, by omega⟩
      rw [q2]
      show fM_doubtBy_50_b _ _ _ _ _ _ _ _ _ = _
      unfold fM_doubtBy_50_b
      rw [if_pos rfl]
    · have up := rnk_up dg (hV.1 i q1).1 k (by omega) (Nat.le_refl k)
      have nV := nxt_V hV q1 q2
      obtain ⟨b3, pk3, bp3, r1, r2, r3, r4, r5⟩ := ih (nxt c i) _ pk2 bp2 nV q4 (Or.inr ⟨b, rfl, s2, s3, by
        rcases s4 with w | w
        · exact lex_tr w (nxt_lex c q1)
        · exact eq_lex w (nxt_lex c q1), fun d hd hl => s5 d hd (nxt_no q1 q3 hd hl)⟩) (by omega) f (by omega)
      refine ⟨b3, pk3, bp3, ?_, r2, r3, r4, r5⟩
      rw [q5]
      exact r1
theorem db_fuel (hk : k ≤ 5) (hP : P ≤ 20) : (P - 1 - k) ^ k + 2 < FU := by
  rw [FU_eq]
  have a : (P - 1 - k) ^ k ≤ (19 - k) ^ k := Nat.pow_le_pow_left (by omega) k
  rcases (show k = 0 ∨ k = 1 ∨ k = 2 ∨ k = 3 ∨ k = 4 ∨ k = 5 by omega) with e | e | e | e | e | e <;> subst e <;> revert a
  · intro a; have : (19 - 0) ^ 0 = 1 := by decide
    omega
  · intro a; have : (19 - 1) ^ 1 = 18 := by decide
    omega
  · intro a; have : (19 - 2) ^ 2 = 289 := by decide
    omega
  · intro a; have : (19 - 3) ^ 3 = 4096 := by decide
    omega
  · intro a; have : (19 - 4) ^ 4 = 50625 := by decide
    omega
  · intro a; have : (19 - 5) ^ 5 = 537824 := by decide
    omega
theorem doubtBy_ok (h1 : 1 ≤ x) (h2 : x ≤ y) (h3 : y ≤ 9) (hz : z ≤ 20) (hP0 : 0 < P) (hP : P ≤ 20) (l0 : lim 0 = nI x) (l1 : lim 1 = nI y) (l2 : lim 2 = nI z) (ha : ∀ k, k < P → mt k = nI (tm k) ∧ tm k ≤ 400) (hk : k ≤ 5) (hkP : k = 0 ∨ k + 2 ≤ P) (pk bp : Nat → Int32) : ∃ (b : Nat → Nat) (pk2 bp2 : Nat → Int32), fM_doubtBy (nI k) (nI P) lim mt pk bp = some (nI (cst (gp x y z tm) (P - 1) k 0 b), pk2, bp2) ∧ (∀ t, t < k → bp2 t = nI (b t)) ∧ Vd P k b ∧ BestF (gp x y z tm) (P - 1) k 0 b := by
  have go : ∀ (m j : Nat) (pk : Nat → Int32), j + m = k → (∀ t, t < j → pk t = nI (t + 1)) → ∀ f, m < f → ∃ pk2 : Nat → Int32, fM_doubtBy_26 (nI k) (nI P) lim mt bp f (nI j) pk = fM_doubtBy_50 (nI k) (nI P) lim mt FU (-1) 1 pk2 bp ∧ ∀ t, t < k → pk2 t = nI (t + 1) := by
    intro m
    induction m with
    | zero =>
      intro j pk hj hp f hf
      obtain ⟨f, rfl⟩ : ∃ f', f = f' + 1 := ⟨f - 1, by omega⟩
      refine ⟨pk, ?_, fun t ht => hp t (by omega)⟩
      show fM_doubtBy_26_b _ _ _ _ _ _ _ _ = _
      unfold fM_doubtBy_26_b
      rw [if_pos (nI_le (show k ≤ j by omega) (by omega))]
    | succ m ih =>
      intro j pk hj hp f hf
      obtain ⟨f, rfl⟩ : ∃ f', f = f' + 1 := ⟨f - 1, by omega⟩
      obtain ⟨pk2, r1, r2⟩ := ih (j + 1) (upd pk j (nI (j + 1))) (by omega) (fun t ht => by
        by_cases e : t = j
        · subst e; exact pk_us
        · rw [pk_un e]; exact hp t (by omega)) f (by omega)
      refine ⟨pk2, ?_, r2⟩
      show fM_doubtBy_26_b _ _ _ _ _ _ _ _ = _
      unfold fM_doubtBy_26_b
      rw [if_neg (nI_ge (show j < k by omega) (by omega)), ck_nI (by omega) (by decide), nI_clamp (by omega), nI_1]
      exact r1
  obtain ⟨pk1, g1, g2⟩ := go k 0 pk (by omega) (fun t ht => absurd ht (Nat.not_lt_zero t)) FU (by rw [FU_eq]; omega)
  have hV : Vd P k (fun t => t + 1) := ⟨fun i hi => by show i + 1 ≤ i + 1 ∧ i + 1 + k ≤ P - 1 + i; omega, fun i j hij hj => by show i + 1 + (j - i) ≤ j + 1; omega⟩
  have fu := db_fuel (P := P) hk hP
  obtain ⟨b, pk2, bp2, r1, r2, r3, r4, r5⟩ := db50 h1 h2 h3 hz hP0 hP l0 l1 l2 ha hk hkP ((P - 1 - k) ^ k) (fun t => t + 1) (-1) pk1 bp hV g2 (Or.inl ⟨rfl, fun d hd hl => by
    obtain ⟨m, m1, m2, m3⟩ := hl
    have := (hd.1 m m1).1
    have m3' : d m < m + 1 := m3
    omega⟩) (Nat.sub_le _ _) FU (by omega)
  refine ⟨b, pk2, bp2, ?_, r2, r3, Vi0.mpr r3, fun d hd => r5 d (Vi0.mp hd) trivial⟩
  have q : fM_doubtBy_24 (nI k) (nI P) lim mt pk bp = some (nI (cst (gp x y z tm) (P - 1) k 0 b), pk2, bp2) := g1.trans r1
  unfold fM_doubtBy
  rw [if_neg (show ¬ nI P = 0 from nI_ne0 hP0 (by omega))]
  by_cases e : k = 0
  · rw [if_pos (show nI k ≤ 0 by rw [e]; decide)]
    exact q
  · rw [if_neg (show ¬ nI k ≤ 0 from nI_ge (a := 0) (by omega) (by omega)), if_pos (show nI k ≤ nI P - 2 by rw [show (2 : Int32) = nI 2 from rfl, pk_sub (by omega)]; exact nI_le (by omega) (by omega))]
    exact q
theorem doubtBy_no (hP : P ≤ 20) (hk : k ≤ 5) (hn : P = 0 ∨ (0 < k ∧ P < k + 2)) (lim mt pk bp : Nat → Int32) : fM_doubtBy (nI k) (nI P) lim mt pk bp = some (-3, pk, bp) := by
  unfold fM_doubtBy
  by_cases e : P = 0
  · rw [if_pos (show nI P = 0 by rw [e]; rfl)]
  · rw [if_neg (show ¬ nI P = 0 from nI_ne0 (by omega) (by omega)), if_neg (show ¬ nI k ≤ 0 from nI_ge (a := 0) (by omega) (by omega)), if_neg]
    intro w
    by_cases q : P = 1
    · subst q
      exact absurd (o_tr (nI_pos' (show k < 2 ^ 31 by omega)) w) (by decide)
    · rw [show (2 : Int32) = nI 2 from rfl, pk_sub (by omega)] at w
      exact absurd w (nI_ge (by omega) (by omega))
end db
