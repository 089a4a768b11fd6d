/-! ===== the state of a squeeze, both sides ===== -/
/-- what is still to come, behind t -/
def PeI (t n fi : Nat) (hd : Nat → Nat) (pe : Nat → Nat → Nat) : Prop :=
  (∀ t' q, pe t' q < 2 ^ 22) ∧ (∀ t' q, t + 31 < t' → pe t' q = 0) ∧ (∀ t' q, 400 < t' → pe t' q = 0) ∧ (∀ t' q k, (pe t' q).testBit (k + 2) = true → k < n ∧ (hd k).testBit q = true) ∧ (∀ t' q, (pe t' q).testBit 1 = false) ∧ (∀ t' q, (pe t' q).testBit 0 = true → t' = 0 ∧ q = fi)
theorem PeI_pass {t n fi p τ j m : Nat} {hd sl : Nat → Nat} {pe : Nat → Nat → Nat} (h : PeI t n fi hd pe) (hp : p < n) (hn : n ≤ 20) (hτ : τ ≤ t + 18) : PeI t n fi hd (passS hd sl p τ j m pe) := by
  obtain ⟨h1, h2, h3, h4, h5, h6⟩ := h
  refine ⟨fun t' q => passS_lt (by omega) (h1 t' q), fun t' q ht => ?_, fun t' q ht => ?_, fun t' q k hk => ?_, fun t' q => ?_, fun t' q hb => ?_⟩
  · rw [passS_late (by omega)]; exact h2 t' q ht
  · unfold passS
    rw [if_neg (fun w => by have := w.2.2.2.2; omega)]
    exact h3 t' q ht
  · unfold passS at hk
    by_cases c : psC hd sl p τ j m t' q
    · rw [if_pos c, tb_or, Bool.or_eq_true] at hk
      rcases hk with hk | hk
      · exact h4 t' q k hk
      · have : k = p := by have := of_decide_eq_true hk; omega
        subst this
        exact ⟨hp, c.2.2.1⟩
    · rw [if_neg c] at hk
      exact h4 t' q k hk
  · unfold passS
    by_cases c : psC hd sl p τ j m t' q
    · rw [if_pos c, tb_or, h5, decide_eq_false (by omega)]; rfl
    · rw [if_neg c]; exact h5 t' q
  · unfold passS at hb
    by_cases c : psC hd sl p τ j m t' q
    · rw [if_pos c, tb_or, decide_eq_false (by omega), Bool.or_false] at hb
      exact h6 t' q hb
    · rw [if_neg c] at hb
      exact h6 t' q hb
/-- when one felt it first -/
def firR (E : Nat → Nat) (Fl : Nat → Bool) (s p : Nat) (v : Int32) : Prop := (fb_ct (isF E Fl p) s = 0 ∧ v = -1) ∨ (∃ i, i < s ∧ isF E Fl p i = true ∧ fb_ct (isF E Fl p) i = 0 ∧ v = nI (E i / 440))
def SqC (n s : Nat) (E : Nat → Nat) (Fl : Nat → Bool) (bu : Nat → Nat) (unr : Int32) (busy felt lost first : Nat → Int32) : Prop :=
  (∀ p, p < n → busy p = nI (bu p) ∧ felt p = nI (fb_ct (isF E Fl p) s) ∧ lost p = nI (fb_ct (isL E Fl p) s) ∧ firR E Fl s p (first p)) ∧ (∀ p, n ≤ p → p < 20 → first p = -1) ∧ unr = nI (fb_ct (fun p => decide (fb_ct (isF E Fl p) s = 0)) n)
def SqM (n s : Nat) (E : Nat → Nat) (Fl : Nat → Bool) (bu : Nat → Nat) (fe lo : Nat → Nat → Nat) (busyM feltM fB lB : Nat → Int32) : Prop :=
  (∀ p, p < n → busyM p = nI (bu p) ∧ feltM p = nI (fb_ct (isF E Fl p) s)) ∧ ∀ t p, t ≤ 400 → p < n → fB (20 * t + p) = nI (uc (fe t p)) ∧ lB (20 * t + p) = nI (uc (lo t p))
/-- the events go up: so many there are at most -/
theorem SqN_s {X s : Nat} {E : Nat → Nat} {Fl : Nat → Bool} {fe lo : Nat → Nat → Nat} (h : SqN X s E Fl fe lo) : s ≤ X := by
  have g : ∀ i, i < s → i ≤ E i := by
    intro i
    induction i with
    | zero => intro _; exact Nat.zero_le _
    | succ i ih => intro hi; have := ih (by omega); have := h.2.1 i (i + 1) (by omega) hi; omega
  rcases Nat.eq_zero_or_pos s with e | e
  · omega
  · have := g (s - 1) (by omega)
    have := h.1 (s - 1) (by omega)
    omega
/-- the counts, with one event more -/
theorem ctF_add (E : Nat → Nat) (Fl : Nat → Bool) {s t p j : Nat} (hp : p < 20) (hj : j < 22) (b : Bool) (q : Nat) : fb_ct (isF (fun i => if i = s then 440 * t + 22 * p + j else E i) (fun i => if i = s then b else Fl i) q) (s + 1) = fb_ct (isF E Fl q) s + (if b = true ∧ q = p then 1 else 0) := by
  obtain ⟨l1, l2, l3⟩ := lin (t := t) hp hj
  rw [fb_ct_succ]
  congr 1
  · exact fb_ct_cong (fun i hi => by unfold isF; simp only [if_neg (show ¬ i = s by omega)])
  · have e : isF (fun i => if i = s then 440 * t + 22 * p + j else E i) (fun i => if i = s then b else Fl i) q s = (b && decide (p = q)) := by
      unfold isF
      simp only [if_true, l2]
    rw [e]
    cases b
    · simp
    · by_cases w : p = q
      · subst w; simp
      · have w' : ¬ q = p := fun x => w x.symm
        simp [w, w']
theorem ctL_add (E : Nat → Nat) (Fl : Nat → Bool) {s t p j : Nat} (hp : p < 20) (hj : j < 22) (b : Bool) (q : Nat) : fb_ct (isL (fun i => if i = s then 440 * t + 22 * p + j else E i) (fun i => if i = s then b else Fl i) q) (s + 1) = fb_ct (isL E Fl q) s + (if b = false ∧ q = p then 1 else 0) := by
  obtain ⟨l1, l2, l3⟩ := lin (t := t) hp hj
  rw [fb_ct_succ]
  congr 1
  · exact fb_ct_cong (fun i hi => by unfold isL; simp only [if_neg (show ¬ i = s by omega)])
  · have e : isL (fun i => if i = s then 440 * t + 22 * p + j else E i) (fun i => if i = s then b else Fl i) q s = (!b && decide (p = q)) := by
      unfold isL
      simp only [if_true, l2]
    rw [e]
    cases b
    · by_cases w : p = q
      · subst w; simp
      · have w' : ¬ q = p := fun x => w x.symm
        simp [w, w']
    · simp
/-- who felt it first, with one event more of another, or one that isn't the first -/
theorem firR_keep {E : Nat → Nat} {Fl : Nat → Bool} {s t p j q : Nat} {v : Int32} (hp : p < 20) (hj : j < 22) (b : Bool) (h : firR E Fl s q v) (hk : ¬ (b = true ∧ q = p) ∨ 0 < fb_ct (isF E Fl q) s) : firR (fun i => if i = s then 440 * t + 22 * p + j else E i) (fun i => if i = s then b else Fl i) (s + 1) q v := by
  rcases h with ⟨h1, h2⟩ | ⟨i, h1, h2, h3, h4⟩
  · left
    rcases hk with hk | hk
    · rw [ctF_add E Fl hp hj b q, if_neg hk, Nat.add_zero]
      exact ⟨h1, h2⟩
    · omega
  · right
    refine ⟨i, by omega, ?_, ?_, ?_⟩
    · unfold isF at h2 ⊢
      simp only [if_neg (show ¬ i = s by omega)]
      exact h2
    · rw [← h3]
      exact fb_ct_cong (fun k hk2 => by unfold isF; simp only [if_neg (show ¬ k = s by omega)])
    · simp only [if_neg (show ¬ i = s by omega)]
      exact h4
theorem firR_new {E : Nat → Nat} {Fl : Nat → Bool} {s t p j : Nat} (hp : p < 20) (hj : j < 22) (h : fb_ct (isF E Fl p) s = 0) : firR (fun i => if i = s then 440 * t + 22 * p + j else E i) (fun i => if i = s then true else Fl i) (s + 1) p (nI t) := by
  obtain ⟨l1, l2, l3⟩ := lin (t := t) hp hj
  right
  refine ⟨s, by omega, ?_, ?_, ?_⟩
  · unfold isF
    simp only [if_true, l2, decide_true, Bool.true_and]
  · rw [← h]
    exact fb_ct_cong (fun k hk2 => by unfold isF; simp only [if_neg (show ¬ k = s by omega)])
  · simp only [if_true, l1]
theorem firR_m1 {E : Nat → Nat} {Fl : Nat → Bool} {s p X : Nat} {v : Int32} (hE : ∀ i, i < s → E i < X) (hX : X < 2 ^ 30) (h : firR E Fl s p v) : (v = -1) ↔ fb_ct (isF E Fl p) s = 0 := by
  rcases h with ⟨h1, h2⟩ | ⟨i, h1, h2, h3, h4⟩
  · exact ⟨fun _ => h1, fun _ => h2⟩
  · have := hE i h1
    refine ⟨fun w => absurd (h4.symm.trans w) (nI_ne_m1 (by omega)), fun w => ?_⟩
    exfalso
    have := fb_ct_pos.mpr ⟨i, h1, h2⟩
    omega
/-- those that are not reached, one less -/
theorem unr_less {f g : Nat → Nat} {n p : Nat} (hp : p < n) (h0 : f p = 0) (h1 : g p ≠ 0) (hk : ∀ q, q ≠ p → g q = f q) : fb_ct (fun q => decide (f q = 0)) n = fb_ct (fun q => decide (g q = 0)) n + 1 := by
  have u := fb_ct_upd (fun q => decide (f q = 0)) false (i := p) (n := n) hp
  have e : fb_ct (fun k => if k = p then false else decide (f k = 0)) n = fb_ct (fun q => decide (g q = 0)) n := fb_ct_cong (fun k _ => by
    show (if k = p then false else decide (f k = 0)) = decide (g k = 0)
    by_cases w : k = p
    · subst w; rw [if_pos rfl, decide_eq_false h1]
    · rw [if_neg w, hk k w])
  rw [e] at u
  simp only [h0, decide_true, if_true, Bool.false_eq_true, if_false] at u
  omega
theorem unr_same {f g : Nat → Nat} {n : Nat} (hk : ∀ q, q < n → (g q = 0 ↔ f q = 0)) : fb_ct (fun q => decide (f q = 0)) n = fb_ct (fun q => decide (g q = 0)) n := fb_ct_cong (fun q hq => decide_eq_decide.mpr (hk q hq).symm)
