/-! ===== what the reference reads out of its bits ===== -/
section bits
variable {n s : Nat} {E : Nat → Nat} {Fl : Nat → Bool} {fe lo : Nat → Nat → Nat} {bu : Nat → Nat} {busyM feltM fB lB : Nat → Int32}
theorem kth_of (hS : SqN (440 * 401) s E Fl fe lo) {p i : Nat} (hi : i < s) (hf : isF E Fl p i = true) : E i / 440 ≤ 400 ∧ fb_ct (isF E Fl p) i = fb_sm (fun t => pcN (fe t p)) (E i / 440) + fb_ct (fun k => (fe (E i / 440) p).testBit k) (E i % 22) ∧ (fe (E i / 440) p).testBit (E i % 22) = true ∧ E i % 22 < 22 ∧ fb_ct (fun k => (fe (E i / 440) p).testBit k) (E i % 22) < pcN (fe (E i / 440) p) := by
  have e := hS.1 i hi
  unfold isF at hf
  rw [Bool.and_eq_true] at hf
  have ep := of_decide_eq_true hf.2
  obtain ⟨g1, g2⟩ := hS.2.2.2.2.2.2 i hi hf.1
  rw [ep] at g1 g2
  have j22 : E i % 22 < 22 := Nat.mod_lt _ (by decide)
  refine ⟨by omega, g2, g1, j22, ?_⟩
  have c1 := fb_ct_succ (fun k => (fe (E i / 440) p).testBit k) (E i % 22)
  rw [g1, if_pos rfl] at c1
  have c2 : fb_ct (fun k => (fe (E i / 440) p).testBit k) (E i % 22 + 1) ≤ pcN (fe (E i / 440) p) := fb_ct_mono _ (by omega)
  omega
theorem sm22 (f : Nat → Nat → Nat) (p : Nat) {t : Nat} : fb_sm (fun t => pcN (f t p)) t ≤ t * 22 := fb_sm_bound (fun k _ => pcN_le _)
theorem feltBy_eq (hn : n ≤ 20) (hS : SqN (440 * 401) s E Fl fe lo) (hM : SqM n s E Fl bu fe lo busyM feltM fB lB) {p k : Nat} (hp : p < n) (hk : k < 2 ^ 31) :
    (fb_ct (isF E Fl p) s ≤ k → fM_feltBy (nI p) (nI k) feltM fB = some (-1)) ∧ (∀ i, i < s → isF E Fl p i = true → fb_ct (isF E Fl p) i = k → fM_feltBy (nI p) (nI k) feltM fB = some (nI (E i / 440))) := by
  have hs := SqN_s hS
  have cs := fb_ct_le (isF E Fl p) s
  have eF := (hM.1 p hp).2
  have c20 : ∀ {α : Type} (x : Option α), ck 20 (nI p) x = x := fun x => ck_nI (by omega) (by decide)
  have clp : (nI p).toNatClampNeg = p := nI_clamp (by omega)
  refine ⟨fun h => ?_, fun i hi hf hc => ?_⟩
  · show fM_feltBy_5 (nI p) (nI k) feltM fB FU (nI 0) (nI 0) = _
    obtain ⟨f, hf⟩ : ∃ f, FU = f + 1 := ⟨999999, rfl⟩
    rw [hf]
    show fM_feltBy_5_b _ _ _ _ _ _ _ = _
    unfold fM_feltBy_5_b
    rw [if_neg (show ¬ (400 : Int32) < nI 0 from nI_nlt (a := 400) (b := 0) (by omega) (by omega)), c20, clp, eF, if_pos (nI_le h hk)]
  · obtain ⟨k1, k2, k3, k4, k5⟩ := kth_of hS hi hf
    have lt := fb_ct_succ (isF E Fl p) i
    rw [hf, if_pos rfl] at lt
    have mo := fb_ct_mono (isF E Fl p) (show i + 1 ≤ s by omega)
    have go : ∀ (m t : Nat), t + m = E i / 440 → ∀ f, m < f → fM_feltBy_5 (nI p) (nI k) feltM fB f (nI (fb_sm (fun t => pcN (fe t p)) t)) (nI t) = some (nI (E i / 440)) := by
      intro m
      induction m with
      | zero =>
        intro t ht f hf
        obtain ⟨f, rfl⟩ : ∃ f', f = f' + 1 := ⟨f - 1, by omega⟩
        have e : t = E i / 440 := by omega
        subst e
        have b := sm22 fe p (t := E i / 440)
        show fM_feltBy_5_b _ _ _ _ _ _ _ = _
        unfold fM_feltBy_5_b
        rw [if_neg (show ¬ (400 : Int32) < nI _ from nI_nlt (a := 400) (by omega) (by omega)), c20, clp, eF, if_neg (nI_ge (by omega) (by omega)), comI, ck_nI (by omega) (by decide), nI_clamp (by omega), (hM.2 _ p k1 hp).1, M_ones_eq (by have := uc_lt (hS.2.2.2.1 (E i / 440) p).1; omega), pc_uc (hS.2.2.2.1 _ p).1, bd_some, nI_add, if_neg (nI_ge (by omega) (by have := pcN_le (fe (E i / 440) p); omega))]
      | succ m ih =>
        intro t ht f hf
        obtain ⟨f, rfl⟩ : ∃ f', f = f' + 1 := ⟨f - 1, by omega⟩
        have b := sm22 fe p (t := t)
        have st := fb_sm_succ (fun t => pcN (fe t p)) t
        have le : fb_sm (fun t => pcN (fe t p)) (t + 1) ≤ fb_sm (fun t => pcN (fe t p)) (E i / 440) := by
          have := fb_sm_mono (fun t => pcN (fe t p)) (t + 1) m
          rw [show t + 1 + m = E i / 440 by omega] at this
          exact this
        show fM_feltBy_5_b _ _ _ _ _ _ _ = _
        unfold fM_feltBy_5_b
        rw [if_neg (show ¬ (400 : Int32) < nI _ from nI_nlt (a := 400) (by omega) (by omega)), c20, clp, eF, if_neg (nI_ge (by omega) (by omega)), comI, ck_nI (by omega) (by decide), nI_clamp (by omega), (hM.2 t p (by omega) hp).1, M_ones_eq (by have := uc_lt (hS.2.2.2.1 t p).1; omega), pc_uc (hS.2.2.2.1 t p).1, bd_some, nI_add, ← st, if_pos (nI_le (by omega) hk), nI_1]
        exact ih (t + 1) (by omega) f (by omega)
    exact go (E i / 440) 0 (by omega) FU (by rw [FU_eq]; omega)
theorem manyBy_eq (hn : n ≤ 20) (hS : SqN (440 * 401) s E Fl fe lo) (hM : SqM n s E Fl bu fe lo busyM feltM fB lB) {p τ : Nat} (hp : p < n) (ht : τ ≤ 400) : fM_manyBy (nI p) (nI τ) fB = some (nI (fb_sm (fun t => pcN (fe t p)) (τ + 1))) := by
  have go : ∀ (m t : Nat), t + m = τ + 1 → ∀ f, m < f → fM_manyBy_5 (nI p) (nI τ) fB f (nI (fb_sm (fun t => pcN (fe t p)) t)) (nI t) = some (nI (fb_sm (fun t => pcN (fe t p)) (τ + 1))) := by
    intro m
    induction m with
    | zero =>
      intro t h f hf
      obtain ⟨f, rfl⟩ : ∃ f', f = f' + 1 := ⟨f - 1, by omega⟩
      have e : t = τ + 1 := by omega
      subst e
      show fM_manyBy_5_b _ _ _ _ _ _ = _
      unfold fM_manyBy_5_b
      rw [if_pos (nI_lt (by omega) (by omega))]
    | succ m ih =>
      intro t h f hf
      obtain ⟨f, rfl⟩ : ∃ f', f = f' + 1 := ⟨f - 1, by omega⟩
      show fM_manyBy_5_b _ _ _ _ _ _ = _
      unfold fM_manyBy_5_b
      rw [if_neg (nI_nlt (show t ≤ τ by omega) (by omega)), comI, ck_nI (by omega) (by decide), nI_clamp (by omega), (hM.2 t p (by omega) hp).1, M_ones_eq (by have := uc_lt (hS.2.2.2.1 t p).1; omega), pc_uc (hS.2.2.2.1 t p).1, bd_some, nI_add, ← fb_sm_succ (fun t => pcN (fe t p)) t, nI_1]
      exact ih (t + 1) (by omega) f (by omega)
  exact go (τ + 1) 0 (by omega) FU (by rw [FU_eq]; omega)
theorem lostBy_eq (hn : n ≤ 20) (hS : SqN (440 * 401) s E Fl fe lo) (hM : SqM n s E Fl bu fe lo busyM feltM fB lB) {p τ : Nat} (hp : p < n) (ht : τ ≤ 400) : fM_lostBy (nI p) (nI τ) lB = some (nI (fb_sm (fun t => pcN (lo t p)) (τ + 1))) := by
  have go : ∀ (m t : Nat), t + m = τ + 1 → ∀ f, m < f → fM_lostBy_5 (nI p) (nI τ) lB f (nI (fb_sm (fun t => pcN (lo t p)) t)) (nI t) = some (nI (fb_sm (fun t => pcN (lo t p)) (τ + 1))) := by
    intro m
    induction m with
    | zero =>
      intro t h f hf
      obtain ⟨f, rfl⟩ : ∃ f', f = f' + 1 := ⟨f - 1, by omega⟩
      have e : t = τ + 1 := by omega
      subst e
      show fM_lostBy_5_b _ _ _ _ _ _ = _
      unfold fM_lostBy_5_b
      rw [if_pos (nI_lt (by omega) (by omega))]
    | succ m ih =>
      intro t h f hf
      obtain ⟨f, rfl⟩ : ∃ f', f = f' + 1 := ⟨f - 1, by omega⟩
      show fM_lostBy_5_b _ _ _ _ _ _ = _
      unfold fM_lostBy_5_b
      rw [if_neg (nI_nlt (show t ≤ τ by omega) (by omega)), comI, ck_nI (by omega) (by decide), nI_clamp (by omega), (hM.2 t p (by omega) hp).2, M_ones_eq (by have := uc_lt (hS.2.2.2.1 t p).2; omega), pc_uc (hS.2.2.2.1 t p).2, bd_some, nI_add, ← fb_sm_succ (fun t => pcN (lo t p)) t, nI_1]
      exact ih (t + 1) (by omega) f (by omega)
  exact go (τ + 1) 0 (by omega) FU (by rw [FU_eq]; omega)
theorem first_eq (hn : n ≤ 20) (hS : SqN (440 * 401) s E Fl fe lo) (hM : SqM n s E Fl bu fe lo busyM feltM fB lB) {p : Nat} {v : Int32} (hp : p < n) (hv : firR E Fl s p v) : fM_feltBy (nI p) 0 feltM fB = some v := by
  obtain ⟨g1, g2⟩ := feltBy_eq hn hS hM hp (show 0 < 2 ^ 31 by decide)
  rcases hv with ⟨h1, h2⟩ | ⟨i, h1, h2, h3, h4⟩
  · rw [h2]; exact g1 (by omega)
  · rw [h4]; exact g2 i h1 h2 h3
theorem lastBy_eq (hn : n ≤ 20) (hS : SqN (440 * 401) s E Fl fe lo) (hM : SqM n s E Fl bu fe lo busyM feltM fB lB) {first : Nat → Int32} (hF : ∀ p, p < n → firR E Fl s p (first p)) : ∃ v : Int32, fS_lastTime_T (nI n) first = some v ∧ fM_lastBy (nI n) feltM fB = some v := by
  have go : ∀ (m p : Nat) (v : Int32), p + m = n → ∀ f g, m < f → m < g → ∃ w : Int32, fS_lastTime_T_4 (nI n) first f v (nI p) = some w ∧ fM_lastBy_4 (nI n) feltM fB g v (nI p) = some w := by
    intro m
    induction m with
    | zero =>
      intro p v h f g hf hg
      obtain ⟨f, rfl⟩ : ∃ f', f = f' + 1 := ⟨f - 1, by omega⟩
      obtain ⟨g, rfl⟩ : ∃ f', g = f' + 1 := ⟨g - 1, by omega⟩
      refine ⟨v, ?_, ?_⟩
      · show fS_lastTime_T_4_b _ _ _ _ _ = _
        unfold fS_lastTime_T_4_b
        rw [if_pos (nI_le (show n ≤ p by omega) (by omega))]
      · show fM_lastBy_4_b _ _ _ _ _ _ = _
        unfold fM_lastBy_4_b
        rw [if_pos (nI_le (show n ≤ p by omega) (by omega))]
    | succ m ih =>
      intro p v h f g hf hg
      obtain ⟨f, rfl⟩ : ∃ f', f = f' + 1 := ⟨f - 1, by omega⟩
      obtain ⟨g, rfl⟩ : ∃ f', g = f' + 1 := ⟨g - 1, by omega⟩
      have pn : p < n := by omega
      obtain ⟨w, w1, w2⟩ := ih (p + 1) (if v < first p then first p else v) (by omega) f g (by omega) (by omega)
      refine ⟨w, ?_, ?_⟩
      · show fS_lastTime_T_4_b _ _ _ _ _ = _
        unfold fS_lastTime_T_4_b
        rw [if_neg (nI_ge pn (by omega)), ck_nI (by omega) (by decide), nI_clamp (by omega), nm_eq, nI_1]
        exact w1
      · show fM_lastBy_4_b _ _ _ _ _ _ = _
        unfold fM_lastBy_4_b fM_lastBy_32
        rw [if_neg (nI_ge pn (by omega)), first_eq hn hS hM pn (hF p pn), bd_some, bd_some, nI_1]
        by_cases c : v < first p
        · rw [if_neg (o_ltn c)]
          rw [if_pos c] at w2
          exact w2
        · rw [if_pos (o_nlt c)]
          rw [if_neg c] at w2
          exact w2
  exact go n 0 (-1) (by omega) FU FU (by rw [FU_eq]; omega) (by rw [FU_eq]; omega)
/-- those for whom it holds, as bits -/
def rb (P : Nat → Bool) : Nat → Nat
  | 0 => 0
  | n + 1 => if P n then rb P n ||| 2 ^ n else rb P n
theorem rb_tb (P : Nat → Bool) : ∀ n i, (rb P n).testBit i = (decide (i < n) && P i)
  | 0, i => by
    show (0 : Nat).testBit i = _
    rw [Nat.zero_testBit, decide_eq_false (Nat.not_lt_zero i), Bool.false_and]
  | n + 1, i => by
    show (if P n then rb P n ||| 2 ^ n else rb P n).testBit i = _
    cases e : P n
    · rw [if_neg (by decide), rb_tb P n i]
      by_cases c : i = n
      · rw [c, e, Bool.and_false, Bool.and_false]
      · rw [show decide (i < n) = decide (i < n + 1) from decide_eq_decide.mpr (by omega)]
    · rw [if_pos rfl, tb_or, rb_tb P n i]
      by_cases c : i = n
      · rw [c, decide_eq_true rfl, Bool.or_true, decide_eq_true (by omega), e]; rfl
      · rw [decide_eq_false c, Bool.or_false, show decide (i < n) = decide (i < n + 1) from decide_eq_decide.mpr (by omega)]
theorem rb_lt (P : Nat → Bool) : ∀ n, rb P n < 2 ^ n
  | 0 => Nat.zero_lt_one
  | n + 1 => by
    show (if P n then rb P n ||| 2 ^ n else rb P n) < _
    have h := rb_lt P n
    have q : (2 : Nat) ^ n < 2 ^ (n + 1) := Nat.pow_lt_pow_right (by decide) (by omega)
    split
    · exact or_lt (by omega) q
    · omega
theorem rb_pc (P : Nat → Bool) {n : Nat} (hn : n ≤ 20) : pcN (rb P n) = fb_ct P n := by
  rw [pc_low (j := n) (by omega) (fun k _ hk => by rw [rb_tb, decide_eq_false (by omega), Bool.false_and])]
  exact fb_ct_cong (fun k hk => by rw [rb_tb, decide_eq_true hk, Bool.true_and])
theorem least_go (hn : n ≤ 20) {c : Nat} {felt : Nat → Int32} {ct : Nat → Nat} (hc : c < 2 ^ 31) (hb : ∀ p, ct p < 2 ^ 31) (h : ∀ p, p < n → felt p = nI (ct p)) : fS_feltAtLeast_T (nI c) (nI n) felt = some (nI (rb (fun p => decide (c ≤ ct p)) n)) ∧ fM_reachedBy (nI c) (nI n) felt = some (nI (rb (fun p => decide (c ≤ ct p)) n)) ∧ fS_feltAtLeast_U (nI c) (nI n) felt = some (nI (rb (fun p => decide (c ≤ ct p)) n)) := by
  have go : ∀ (m p : Nat), p + m = n → ∀ f, m < f → fS_feltAtLeast_T_4 (nI c) (nI n) felt f (nI (rb (fun p => decide (c ≤ ct p)) p)) (nI p) = some (nI (rb (fun p => decide (c ≤ ct p)) n)) ∧ fM_reachedBy_4 (nI c) (nI n) felt f (nI (rb (fun p => decide (c ≤ ct p)) p)) (nI p) = some (nI (rb (fun p => decide (c ≤ ct p)) n)) ∧ fS_feltAtLeast_U_4 (nI c) (nI n) felt f (nI (rb (fun p => decide (c ≤ ct p)) p)) (nI p) = some (nI (rb (fun p => decide (c ≤ ct p)) n)) := by
    intro m
    induction m with
    | zero =>
      intro p h0 f hf
      obtain ⟨f, rfl⟩ : ∃ f', f = f' + 1 := ⟨f - 1, by omega⟩
      have e : p = n := by omega
      subst e
      refine ⟨?_, ?_, ?_⟩
      · show fS_feltAtLeast_T_4_b _ _ _ _ _ _ = _
        unfold fS_feltAtLeast_T_4_b
        rw [if_pos (nI_le (Nat.le_refl p) (by omega))]
      · show fM_reachedBy_4_b _ _ _ _ _ _ = _
        unfold fM_reachedBy_4_b
        rw [if_pos (nI_le (Nat.le_refl p) (by omega))]
      · show fS_feltAtLeast_U_4_b _ _ _ _ _ _ = _
        unfold fS_feltAtLeast_U_4_b
        rw [if_pos (nI_le (Nat.le_refl p) (by omega))]
    | succ m ih =>
      intro p h0 f hf
      obtain ⟨f, rfl⟩ : ∃ f', f = f' + 1 := ⟨f - 1, by omega⟩
      have pn : p < n := by omega
      have c20 : ∀ {α : Type} (x : Option α), ck 20 (nI p) x = x := fun x => ck_nI (by omega) (by decide)
      have clp : (nI p).toNatClampNeg = p := nI_clamp (by omega)
      have r := ih (p + 1) (by omega) f (by omega)
      have nx : rb (fun p => decide (c ≤ ct p)) (p + 1) = if c ≤ ct p then rb (fun p => decide (c ≤ ct p)) p ||| 2 ^ p else rb (fun p => decide (c ≤ ct p)) p := by
        show (if decide (c ≤ ct p) = true then _ else _) = _
        by_cases w : c ≤ ct p
        · rw [if_pos (decide_eq_true w), if_pos w]
        · rw [if_neg (fun x => w (of_decide_eq_true x)), if_neg w]
      by_cases w : c ≤ ct p
      · rw [nx, if_pos w, ← orbit (show p < 32 by omega)] at r
        have nl : ¬ nI (ct p) < nI c := nI_nlt w (hb p)
        refine ⟨?_, ?_, ?_⟩
        · show fS_feltAtLeast_T_4_b _ _ _ _ _ _ = _
          unfold fS_feltAtLeast_T_4_b fS_feltAtLeast_T_31
          rw [if_neg (nI_ge pn (by omega)), c20, clp, h p pn, if_neg nl, nI_1]
          exact r.1
        · show fM_reachedBy_4_b _ _ _ _ _ _ = _
          unfold fM_reachedBy_4_b fM_reachedBy_30
          rw [if_neg (nI_ge pn (by omega)), c20, clp, h p pn, if_neg nl, nI_1]
          exact r.2.1
        · show fS_feltAtLeast_U_4_b _ _ _ _ _ _ = _
          unfold fS_feltAtLeast_U_4_b fS_feltAtLeast_U_31
          rw [if_neg (nI_ge pn (by omega)), c20, clp, h p pn, if_neg nl, nI_1]
          exact r.2.2
      · rw [nx, if_neg w] at r
        have nl : nI (ct p) < nI c := nI_lt (by omega) hc
        refine ⟨?_, ?_, ?_⟩
        · show fS_feltAtLeast_T_4_b _ _ _ _ _ _ = _
          unfold fS_feltAtLeast_T_4_b fS_feltAtLeast_T_31
          rw [if_neg (nI_ge pn (by omega)), c20, clp, h p pn, if_pos nl, nI_1]
          exact r.1
        · show fM_reachedBy_4_b _ _ _ _ _ _ = _
          unfold fM_reachedBy_4_b fM_reachedBy_30
          rw [if_neg (nI_ge pn (by omega)), c20, clp, h p pn, if_pos nl, nI_1, show (0 : Int32) = nI 0 from rfl, fa_or, Nat.or_zero]
          exact r.2.1
        · show fS_feltAtLeast_U_4_b _ _ _ _ _ _ = _
          unfold fS_feltAtLeast_U_4_b fS_feltAtLeast_U_31
          rw [if_neg (nI_ge pn (by omega)), c20, clp, h p pn, if_pos nl, nI_1]
          exact r.2.2
  exact go n 0 (by omega) FU (by rw [FU_eq]; omega)
end bits
