/-! ===== the class's search for the next post ===== -/
def scn (f : Nat → Nat) : Nat → Nat → Nat → Nat
  | 0, b, _ => b
  | m + 1, b, x => scn f m (if f x < f b then x else b) (x + 1)
theorem scn_ok (f : Nat → Nat) : ∀ (m b x i : Nat), i < b → b < x → (∀ y, i < y → y < x → f b ≤ f y) → (∀ y, i < y → y < b → f b < f y) → i < scn f m b x ∧ scn f m b x < x + m ∧ (∀ y, i < y → y < x + m → f (scn f m b x) ≤ f y) ∧ ∀ y, i < y → y < scn f m b x → f (scn f m b x) < f y
  | 0, b, x, i, h1, h2, h3, h4 => ⟨h1, by show b < x + 0; omega, h3, h4⟩
  | m + 1, b, x, i, h1, h2, h3, h4 => by
    show i < scn f m (if f x < f b then x else b) (x + 1) ∧ scn f m (if f x < f b then x else b) (x + 1) < x + (m + 1) ∧ (∀ y, i < y → y < x + (m + 1) → f (scn f m (if f x < f b then x else b) (x + 1)) ≤ f y) ∧ ∀ y, i < y → y < scn f m (if f x < f b then x else b) (x + 1) → f (scn f m (if f x < f b then x else b) (x + 1)) < f y
    rw [show x + (m + 1) = x + 1 + m by omega]
    by_cases c : f x < f b
    · rw [if_pos c]
      refine scn_ok f m x (x + 1) i (by omega) (by omega) (fun y y1 y2 => ?_) (fun y y1 y2 => ?_)
      · by_cases e : y = x
        · rw [e]; exact Nat.le_refl _
        · have := h3 y y1 (by omega); omega
      · have := h3 y y1 y2; omega
    · rw [if_neg c]
      refine scn_ok f m b (x + 1) i h1 (by omega) (fun y y1 y2 => ?_) h4
      by_cases e : y = x
      · rw [e]; omega
      · exact h3 y y1 (by omega)
/-- the least doubt from i by k posts, and the next post there -/
def lst (g : Nat → Nat → Nat) (e : Nat) : Nat → Nat → Nat
  | 0, i => g i e
  | k + 1, i => g i (scn (fun x => g i x + lst g e k x) (e - k - (i + 2)) (i + 1) (i + 2)) + lst g e k (scn (fun x => g i x + lst g e k x) (e - k - (i + 2)) (i + 1) (i + 2))
def nex (g : Nat → Nat → Nat) (e k i : Nat) : Nat := scn (fun x => g i x + lst g e k x) (e - k - (i + 2)) (i + 1) (i + 2)
theorem nex_ok (g : Nat → Nat → Nat) {e k i : Nat} (h : i + 1 + k < e) : i < nex g e k i ∧ nex g e k i + k < e ∧ (∀ y, i < y → y + k < e → g i (nex g e k i) + lst g e k (nex g e k i) ≤ g i y + lst g e k y) ∧ ∀ y, i < y → y < nex g e k i → ¬ g i y + lst g e k y = g i (nex g e k i) + lst g e k (nex g e k i) := by
  obtain ⟨a, b, c, d⟩ := scn_ok (fun x => g i x + lst g e k x) (e - k - (i + 2)) (i + 1) (i + 2) i (by omega) (by omega) (fun y y1 y2 => by rw [show y = i + 1 by omega]; exact Nat.le_refl _) (fun y y1 y2 => by omega)
  refine ⟨a, ?_, fun y y1 y2 => c y y1 (by omega), fun y y1 y2 => ?_⟩
  · have : nex g e k i < i + 2 + (e - k - (i + 2)) := b
    omega
  · have q : g i (nex g e k i) + lst g e k (nex g e k i) < g i y + lst g e k y := d y y1 y2
    omega
/-- the choice that the class walks -/
def wlk (g : Nat → Nat → Nat) (e : Nat) : Nat → Nat → Nat → Nat
  | 0, _, _ => 0
  | k + 1, i, 0 => nex g e k i
  | k + 1, i, j + 1 => wlk g e k (nex g e k i) j
theorem wlk_best (g : Nat → Nat → Nat) (e : Nat) : ∀ k i, i + k < e → BestF g e k i (wlk g e k i) ∧ cst g e k i (wlk g e k i) = lst g e k i
  | 0, i, _ => ⟨⟨trivial, fun d _ => ⟨Nat.le_refl _, fun _ w => by obtain ⟨m, m1, _⟩ := w; exact absurd m1 (Nat.not_lt_zero m)⟩⟩, rfl⟩
  | k + 1, i, h => by
    obtain ⟨a, b, c, d⟩ := nex_ok g (e := e) (k := k) (i := i) (by omega)
    have ih := wlk_best g e k (nex g e k i) b
    have bf : BestF g e (k + 1) i (wlk g e (k + 1) i) := BestF_step (j := nex g e k i) (L := lst g e k) ⟨a, b⟩ (fun x _ x2 => ⟨⟨_, (wlk_best g e k x x2).1⟩, fun dd hd => by
      have q := BestF_one hd (wlk_best g e k x x2).1
      rw [cst_cong q]
      exact (wlk_best g e k x x2).2⟩) c d ih.1 rfl
    refine ⟨bf, ?_⟩
    show g i (nex g e k i) + cst g e k (nex g e k i) (wlk g e k (nex g e k i)) = _
    rw [ih.2]
    rfl
