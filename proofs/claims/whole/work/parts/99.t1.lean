/-! ===== choices of posts, in their order ===== -/
def Vd (P k : Nat) (c : Nat → Nat) : Prop := (∀ i, i < k → i + 1 ≤ c i ∧ c i + k ≤ P - 1 + i) ∧ ∀ i j, i < j → j < k → c i + (j - i) ≤ c j
def lexL (k : Nat) (c d : Nat → Nat) : Prop := ∃ m, m < k ∧ (∀ i, i < m → c i = d i) ∧ c m < d m
def eqK (k : Nat) (c d : Nat → Nat) : Prop := ∀ i, i < k → c i = d i
theorem lex3 (c d : Nat → Nat) : ∀ k, lexL k c d ∨ eqK k c d ∨ lexL k d c
  | 0 => Or.inr (Or.inl (fun i hi => absurd hi (Nat.not_lt_zero i)))
  | k + 1 => by
    rcases lex3 c d k with ⟨m, h1, h2, h3⟩ | h | ⟨m, h1, h2, h3⟩
    · exact Or.inl ⟨m, by omega, h2, h3⟩
    · rcases Nat.lt_trichotomy (c k) (d k) with q | q | q
      · exact Or.inl ⟨k, by omega, h, q⟩
      · refine Or.inr (Or.inl (fun i hi => ?_))
        by_cases e : i = k
        · rw [e]; exact q
        · exact h i (by omega)
      · exact Or.inr (Or.inr ⟨k, by omega, fun i hi => (h i hi).symm, q⟩)
    · exact Or.inr (Or.inr ⟨m, by omega, h2, h3⟩)
theorem lex_irr {k : Nat} {c d : Nat → Nat} (h : lexL k c d) (g : lexL k d c) : False := by
  obtain ⟨m, h1, h2, h3⟩ := h
  obtain ⟨m', g1, g2, g3⟩ := g
  rcases Nat.lt_trichotomy m m' with q | q | q
  · have := g2 m q; omega
  · subst q; omega
  · have := h2 m' q; omega
theorem lex_ne {k : Nat} {c d : Nat → Nat} (h : lexL k c d) (g : eqK k c d) : False := by
  obtain ⟨m, h1, h2, h3⟩ := h
  have := g m h1
  omega
theorem lex_tr {k : Nat} {c d e : Nat → Nat} (h : lexL k c d) (g : lexL k d e) : lexL k c e := by
  obtain ⟨m, h1, h2, h3⟩ := h
  obtain ⟨m', g1, g2, g3⟩ := g
  rcases Nat.lt_trichotomy m m' with q | q | q
  · exact ⟨m, h1, fun i hi => (h2 i hi).trans (g2 i (by omega)), by rw [← g2 m q]; exact h3⟩
  · subst q; exact ⟨m, h1, fun i hi => (h2 i hi).trans (g2 i hi), by omega⟩
  · exact ⟨m', g1, fun i hi => (h2 i (by omega)).trans (g2 i hi), by rw [h2 m' q]; exact g3⟩
/-- the next choice: one more at i, and the rest as near as can be -/
def nxt (c : Nat → Nat) (i : Nat) : Nat → Nat := fun j => if j < i then c j else c i + 1 + (j - i)
theorem nxt_V {P k i : Nat} {c : Nat → Nat} (h : Vd P k c) (hi : i < k) (h1 : c i + k < P - 1 + i) : Vd P k (nxt c i) := by
  obtain ⟨a, b⟩ := h
  refine ⟨fun j hj => ?_, fun j l hjl hl => ?_⟩
  · unfold nxt
    by_cases e : j < i
    · rw [if_pos e]; exact a j hj
    · rw [if_neg e]
      have := a i hi
      omega
  · unfold nxt
    by_cases e : j < i
    · rw [if_pos e]
      by_cases e2 : l < i
      · rw [if_pos e2]; exact b j l hjl hl
      · rw [if_neg e2]
        have := b j i e hi
        omega
    · rw [if_neg e, if_neg (by omega)]
      omega
theorem nxt_lex {k i : Nat} (c : Nat → Nat) (hi : i < k) : lexL k c (nxt c i) := by
  refine ⟨i, hi, fun j hj => ?_, ?_⟩
  · unfold nxt; rw [if_pos hj]
  · unfold nxt; rw [if_neg (by omega)]; omega
/-- nothing lies between -/
theorem nxt_no {P k i : Nat} {c d : Nat → Nat} (hi : i < k) (h2 : ∀ j, i < j → j < k → c j + k = P - 1 + j) (hd : Vd P k d) (hl : lexL k d (nxt c i)) : lexL k d c ∨ eqK k d c := by
  rcases lex3 d c k with q | q | q
  · exact Or.inl q
  · exact Or.inr q
  · exfalso
    obtain ⟨m, m1, m2, m3⟩ := q
    have mi : m ≤ i := by
      rcases Nat.lt_or_ge i m with w | w
      · have a := h2 m w m1
        have b := (hd.1 m m1).2
        omega
      · exact w
    rcases Nat.eq_or_lt_of_le mi with e | e
    · subst e
      -- at i itself
      obtain ⟨l, l1, l2, l3⟩ := hl
      unfold nxt at l2 l3
      rcases Nat.lt_trichotomy l m with w | w | w
      · have := m2 l w; rw [if_pos w] at l3; omega
      · subst w; rw [if_neg (by omega)] at l3; omega
      · have a := l2 m w
        rw [if_neg (by omega)] at a l3
        have b := hd.2 m l w l1
        omega
    · refine lex_irr hl ⟨m, m1, fun j hj => ?_, ?_⟩
      · unfold nxt; rw [if_pos (by omega)]; exact m2 j hj
      · unfold nxt; rw [if_pos e]; exact m3
/-- the last choice -/
theorem last_no {P k : Nat} {c d : Nat → Nat} (h2 : ∀ j, j < k → c j + k = P - 1 + j) (hd : Vd P k d) : lexL k d c ∨ eqK k d c := by
  rcases lex3 d c k with q | q | q
  · exact Or.inl q
  · exact Or.inr q
  · exfalso
    obtain ⟨m, m1, m2, m3⟩ := q
    have a := h2 m m1
    have b := (hd.1 m m1).2
    omega
