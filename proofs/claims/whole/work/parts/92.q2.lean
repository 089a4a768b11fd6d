/-! ===== what was felt and lost, one behind another: the i-th at E i = 440 times the time, and 22 times the one, and its order there ===== -/
def isF (E : Nat → Nat) (Fl : Nat → Bool) (p i : Nat) : Bool := Fl i && decide (E i / 22 % 20 = p)
def isL (E : Nat → Nat) (Fl : Nat → Bool) (p i : Nat) : Bool := !Fl i && decide (E i / 22 % 20 = p)
def up2 (f : Nat → Nat → Nat) (t p v : Nat) : Nat → Nat → Nat := fun t' p' => if t' = t ∧ p' = p then v else f t' p'
theorem up2_s (f : Nat → Nat → Nat) (t p v : Nat) : up2 f t p v t p = v := if_pos ⟨rfl, rfl⟩
theorem up2_n (f : Nat → Nat → Nat) {t p v t' p' : Nat} (h : ¬ (t' = t ∧ p' = p)) : up2 f t p v t' p' = f t' p' := if_neg h
def SqN (X s : Nat) (E : Nat → Nat) (Fl : Nat → Bool) (fe lo : Nat → Nat → Nat) : Prop :=
  (∀ i, i < s → E i < X) ∧ (∀ i k, i < k → k < s → E i < E k) ∧
  (∀ t p k, p < 20 → k < 22 → X ≤ 440 * t + 22 * p + k → (fe t p).testBit k = false ∧ (lo t p).testBit k = false) ∧
  (∀ t p, fe t p < 2 ^ 22 ∧ lo t p < 2 ^ 22) ∧
  (∀ p τ, p < 20 → fb_ct (fun i => isF E Fl p i && decide (E i / 440 ≤ τ)) s = fb_sm (fun t => pcN (fe t p)) (τ + 1)) ∧
  (∀ p τ, p < 20 → fb_ct (fun i => isL E Fl p i && decide (E i / 440 ≤ τ)) s = fb_sm (fun t => pcN (lo t p)) (τ + 1)) ∧
  ∀ i, i < s → Fl i = true → (fe (E i / 440) (E i / 22 % 20)).testBit (E i % 22) = true ∧ fb_ct (isF E Fl (E i / 22 % 20)) i = fb_sm (fun t => pcN (fe t (E i / 22 % 20))) (E i / 440) + fb_ct (fun k => (fe (E i / 440) (E i / 22 % 20)).testBit k) (E i % 22)
theorem SqN_mono {X X' s : Nat} {E : Nat → Nat} {Fl : Nat → Bool} {fe lo : Nat → Nat → Nat} (h : SqN X s E Fl fe lo) (hX : X ≤ X') : SqN X' s E Fl fe lo :=
  ⟨fun i hi => Nat.lt_of_lt_of_le (h.1 i hi) hX, h.2.1, fun t p k hp hk hx => h.2.2.1 t p k hp hk (Nat.le_trans hX hx), h.2.2.2⟩
theorem SqN_0 : SqN 0 0 (fun _ => 0) (fun _ => false) (fun _ _ => 0) (fun _ _ => 0) := by
  have z : ∀ τ, fb_sm (fun _ => pcN 0) (τ + 1) = 0 := fun τ => by rw [pcN_0, fb_sm_const]; omega
  exact ⟨fun i hi => absurd hi (Nat.not_lt_zero i), fun i k _ hk => absurd hk (Nat.not_lt_zero k), fun t p k _ _ _ => ⟨Nat.zero_testBit k, Nat.zero_testBit k⟩, fun _ _ => ⟨(show (0 : Nat) < 2 ^ 22 by decide), (show (0 : Nat) < 2 ^ 22 by decide)⟩, fun p τ _ => (z τ).symm, fun p τ _ => (z τ).symm, fun i hi => absurd hi (Nat.not_lt_zero i)⟩
theorem lin {t p j : Nat} (hp : p < 20) (hj : j < 22) : (440 * t + 22 * p + j) / 440 = t ∧ (440 * t + 22 * p + j) / 22 % 20 = p ∧ (440 * t + 22 * p + j) % 22 = j := by
  refine ⟨by omega, by omega, by omega⟩
/-- a number whose bits end: all of them counted -/
theorem pc_low {b j : Nat} (hj : j ≤ 22) (h : ∀ k, k < 22 → j ≤ k → b.testBit k = false) : pcN b = fb_ct (fun k => b.testBit k) j := by
  unfold pcN
  have e : fb_ct (fun k => b.testBit k) 22 = fb_ct (fun k => b.testBit k) (j + (22 - j)) := by rw [show j + (22 - j) = 22 by omega]
  rw [e, fb_ct_split, fb_ct_zero.mpr (fun k hk => h (j + k) (by omega) (by omega)), Nat.add_zero]
/-- one sum, with one number one more -/
theorem sm_up2 (f : Nat → Nat → Nat) {t p v τ q : Nat} (hv : pcN v = pcN (f t p) + 1) : fb_sm (fun t' => pcN (up2 f t p v t' q)) (τ + 1) = fb_sm (fun t' => pcN (f t' q)) (τ + 1) + (if q = p ∧ t ≤ τ then 1 else 0) := by
  by_cases e : q = p
  · subst e
    by_cases w : t ≤ τ
    · rw [if_pos ⟨rfl, w⟩]
      have u := fb_sm_upd (fun t' => pcN (f t' q)) (pcN v) (i := t) (n := τ + 1) (by omega)
      have c : fb_sm (fun t' => pcN (up2 f t q v t' q)) (τ + 1) = fb_sm (fun t' => if t' = t then pcN v else pcN (f t' q)) (τ + 1) := fb_sm_cong (fun t' _ => by
        show pcN (up2 f t q v t' q) = _
        by_cases x : t' = t
        · subst x; rw [up2_s, if_pos rfl]
        · rw [up2_n _ (fun y => x y.1), if_neg x])
      rw [c]
      omega
    · rw [if_neg (fun x => w x.2), Nat.add_zero]
      refine fb_sm_cong (fun t' ht' => ?_)
      show pcN (up2 f t q v t' q) = _
      rw [up2_n _ (by omega)]
  · rw [if_neg (fun x => e x.1), Nat.add_zero]
    refine fb_sm_cong (fun t' ht' => ?_)
    show pcN (up2 f t p v t' q) = _
    rw [up2_n _ (fun y => e y.2)]
theorem upB_s (Fl : Nat → Bool) (s : Nat) (b : Bool) : (fun i => if i = s then b else Fl i) s = b := if_pos rfl
/-- one event more -/
theorem SqN_add {s t p j : Nat} {E : Nat → Nat} {Fl : Nat → Bool} {fe lo : Nat → Nat → Nat} (h : SqN (440 * t + 22 * p + j) s E Fl fe lo) (hp : p < 20) (hj : j < 22) (b : Bool) :
    SqN (440 * t + 22 * p + j + 1) (s + 1) (fun i => if i = s then 440 * t + 22 * p + j else E i) (fun i => if i = s then b else Fl i) (if b then up2 fe t p (fe t p ||| 2 ^ j) else fe) (if b then lo else up2 lo t p (lo t p ||| 2 ^ j)) := by
  obtain ⟨h1, h2, h3, h4, h5, h6, h7⟩ := h
  obtain ⟨l1, l2, l3⟩ := lin (t := t) hp hj
  have z := h3 t p j hp hj (Nat.le_refl _)
  have pf : pcN (fe t p ||| 2 ^ j) = pcN (fe t p) + 1 := pcN_set hj z.1
  have pl : pcN (lo t p ||| 2 ^ j) = pcN (lo t p) + 1 := pcN_set hj z.2
  have oldF : ∀ q τ, fb_ct (fun i => isF (fun i => if i = s then 440 * t + 22 * p + j else E i) (fun i => if i = s then b else Fl i) q i && decide ((if i = s then 440 * t + 22 * p + j else E i) / 440 ≤ τ)) s = fb_ct (fun i => isF E Fl q i && decide (E i / 440 ≤ τ)) s := fun q τ => fb_ct_cong (fun i hi => by
    show (isF (fun i => if i = s then 440 * t + 22 * p + j else E i) (fun i => if i = s then b else Fl i) q i && decide ((if i = s then 440 * t + 22 * p + j else E i) / 440 ≤ τ)) = _
    unfold isF
    simp only [if_neg (show ¬ i = s by omega)])
  have oldL : ∀ q τ, fb_ct (fun i => isL (fun i => if i = s then 440 * t + 22 * p + j else E i) (fun i => if i = s then b else Fl i) q i && decide ((if i = s then 440 * t + 22 * p + j else E i) / 440 ≤ τ)) s = fb_ct (fun i => isL E Fl q i && decide (E i / 440 ≤ τ)) s := fun q τ => fb_ct_cong (fun i hi => by
    show (isL (fun i => if i = s then 440 * t + 22 * p + j else E i) (fun i => if i = s then b else Fl i) q i && decide ((if i = s then 440 * t + 22 * p + j else E i) / 440 ≤ τ)) = _
    unfold isL
    simp only [if_neg (show ¬ i = s by omega)])
  have newF : ∀ q τ, (isF (fun i => if i = s then 440 * t + 22 * p + j else E i) (fun i => if i = s then b else Fl i) q s && decide ((if s = s then 440 * t + 22 * p + j else E s) / 440 ≤ τ)) = (b && decide (q = p ∧ t ≤ τ)) := by
    intro q τ
    unfold isF
    simp only [if_true, l1, l2]
    cases b
    · simp
    · by_cases e : p = q
      · subst e; simp
      · have e' : ¬ q = p := fun w => e w.symm
        simp [e, e']
  have newL : ∀ q τ, (isL (fun i => if i = s then 440 * t + 22 * p + j else E i) (fun i => if i = s then b else Fl i) q s && decide ((if s = s then 440 * t + 22 * p + j else E s) / 440 ≤ τ)) = (!b && decide (q = p ∧ t ≤ τ)) := by
    intro q τ
    unfold isL
    simp only [if_true, l1, l2]
    cases b
    · by_cases e : p = q
      · subst e; simp
      · have e' : ¬ q = p := fun w => e w.symm
        simp [e, e']
    · simp
  refine ⟨fun i hi => ?_, fun i k hik hk => ?_, fun t' p' k hp' hk hx => ?_, fun t' p' => ?_, fun q τ hq => ?_, fun q τ hq => ?_, fun i hi hF => ?_⟩
  · show (if i = s then _ else E i) < _
    by_cases e : i = s
    · rw [if_pos e]; omega
    · rw [if_neg e]; have := h1 i (by omega); omega
  · show (if i = s then _ else E i) < (if k = s then _ else E k)
    rw [if_neg (show ¬ i = s by omega)]
    by_cases e : k = s
    · rw [if_pos e]; exact h1 i (by omega)
    · rw [if_neg e]; exact h2 i k hik (by omega)
  · have old := h3 t' p' k hp' hk (by omega)
    have ne : ¬ (t' = t ∧ p' = p ∧ k = j) := by omega
    cases b
    · refine ⟨old.1, ?_⟩
      show (up2 lo t p (lo t p ||| 2 ^ j) t' p').testBit k = false
      by_cases e : t' = t ∧ p' = p
      · rw [e.1, e.2, up2_s, tb_or, ← e.1, ← e.2, old.2, decide_eq_false (by omega)]; rfl
      · rw [up2_n _ e]; exact old.2
    · refine ⟨?_, old.2⟩
      show (up2 fe t p (fe t p ||| 2 ^ j) t' p').testBit k = false
      by_cases e : t' = t ∧ p' = p
      · rw [e.1, e.2, up2_s, tb_or, ← e.1, ← e.2, old.1, decide_eq_false (by omega)]; rfl
      · rw [up2_n _ e]; exact old.1
  · have o := h4 t' p'
    have pj : (2 : Nat) ^ j < 2 ^ 22 := Nat.pow_lt_pow_right (by decide) hj
    cases b
    · refine ⟨o.1, ?_⟩
      show up2 lo t p (lo t p ||| 2 ^ j) t' p' < 2 ^ 22
      by_cases e : t' = t ∧ p' = p
      · rw [e.1, e.2, up2_s]; exact or_lt (h4 t p).2 pj
      · rw [up2_n _ e]; exact o.2
    · refine ⟨?_, o.2⟩
      show up2 fe t p (fe t p ||| 2 ^ j) t' p' < 2 ^ 22
      by_cases e : t' = t ∧ p' = p
      · rw [e.1, e.2, up2_s]; exact or_lt (h4 t p).1 pj
      · rw [up2_n _ e]; exact o.1
  · rw [fb_ct_succ, oldF, newF, h5 q τ hq]
    cases b
    · simp
    · show _ = fb_sm (fun t' => pcN (up2 fe t p (fe t p ||| 2 ^ j) t' q)) (τ + 1)
      rw [sm_up2 fe pf]
      simp
  · rw [fb_ct_succ, oldL, newL, h6 q τ hq]
    cases b
    · show _ = fb_sm (fun t' => pcN (up2 lo t p (lo t p ||| 2 ^ j) t' q)) (τ + 1)
      rw [sm_up2 lo pl]
      simp
    · simp
  · have cnt : ∀ q, fb_ct (isF (fun i => if i = s then 440 * t + 22 * p + j else E i) (fun i => if i = s then b else Fl i) q) i = fb_ct (isF E Fl q) i := fun q => fb_ct_cong (fun k hk => by
      unfold isF
      simp only [if_neg (show ¬ k = s by omega)])
    by_cases e : i = s
    · subst e
      simp only [if_true] at hF
      subst hF
      simp only [if_true, l1, l2, l3]
      rw [cnt]
      refine ⟨by rw [up2_s, tb_or, decide_eq_true rfl, Bool.or_true], ?_⟩
      have c1 := h5 p t hp
      have c2 : fb_ct (fun k => isF E Fl p k && decide (E k / 440 ≤ t)) i = fb_ct (isF E Fl p) i := fb_ct_cong (fun k hk => by
        have := h1 k hk
        rw [decide_eq_true (show E k / 440 ≤ t by omega), Bool.and_true])
      rw [← c2, c1, fb_sm_succ]
      have c3 : fb_sm (fun t' => pcN (up2 fe t p (fe t p ||| 2 ^ j) t' p)) t = fb_sm (fun t' => pcN (fe t' p)) t := fb_sm_cong (fun t' ht' => by
        show pcN (up2 fe t p (fe t p ||| 2 ^ j) t' p) = _
        rw [up2_n _ (by omega)])
      rw [c3, pc_low (Nat.le_of_lt hj) (fun k hk hjk => (h3 t p k hp hk (by omega)).1)]
      congr 1
      refine fb_ct_cong (fun k hk => ?_)
      show (fe t p).testBit k = (up2 fe t p (fe t p ||| 2 ^ j) t p).testBit k
      rw [up2_s, tb_or, decide_eq_false (by omega), Bool.or_false]
    · have hF' : Fl i = true := by simpa only [if_neg e] using hF
      obtain ⟨g1, g2⟩ := h7 i (by omega) hF'
      have ei := h1 i (by omega)
      simp only [if_neg e]
      rw [cnt]
      cases b
      · exact ⟨g1, g2⟩
      · simp only [if_true]
        refine ⟨?_, ?_⟩
        · by_cases w : E i / 440 = t ∧ E i / 22 % 20 = p
          · rw [w.1, w.2, up2_s, tb_or, ← w.1, ← w.2, g1, Bool.true_or]
          · rw [up2_n _ w]; exact g1
        · rw [g2]
          congr 1
          · refine fb_sm_cong (fun t' ht' => ?_)
            show pcN (fe t' (E i / 22 % 20)) = pcN (up2 fe t p (fe t p ||| 2 ^ j) t' (E i / 22 % 20))
            rw [up2_n _ (by omega)]
          · refine fb_ct_cong (fun k hk => ?_)
            show (fe (E i / 440) (E i / 22 % 20)).testBit k = (up2 fe t p (fe t p ||| 2 ^ j) (E i / 440) (E i / 22 % 20)).testBit k
            by_cases w : E i / 440 = t ∧ E i / 22 % 20 = p
            · rw [w.1, w.2, up2_s, tb_or, decide_eq_false (by omega), Bool.or_false]
            · rw [up2_n _ w]
