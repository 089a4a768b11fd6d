/-! ===== one more of the people ===== -/
theorem pw_lt {n m : Nat} (h : n ≤ m) {x : Nat} (hx : x < 2 ^ n) : x < 2 ^ m := Nat.lt_of_lt_of_le hx (Nat.pow_le_pow_right (by decide) h)
theorem bit_lt {x n i : Nat} (hx : x < 2 ^ n) (h : x.testBit i = true) : i < n := by
  rcases Nat.lt_or_ge i n with q | q
  · exact q
  · rw [tb_lt hx q] at h; cases h
def scN (sc n : Nat) (sf : Bool) : Nat := if sf then sc ||| 2 ^ n else sc
theorem scN_bit (sc n : Nat) (sf : Bool) (i : Nat) : (scN sc n sf).testBit i = (sc.testBit i || (sf && decide (i = n))) := by
  unfold scN
  cases sf
  · simp
  · rw [if_pos rfl, tb_or]; simp
theorem scN_lt {sc n : Nat} (h : sc < 2 ^ n) (sf : Bool) : scN sc n sf < 2 ^ (n + 1) := by
  unfold scN
  split
  · exact or_lt (pw_lt (by omega) h) (Nat.pow_lt_pow_right (by decide) (by omega))
  · exact pw_lt (by omega) h
def upN (f : Nat → Nat) (n v : Nat) : Nat → Nat := fun k => if k = n then v else f k
theorem upN_s (f : Nat → Nat) (n v : Nat) : upN f n v n = v := if_pos rfl
theorem upN_n (f : Nat → Nat) {n v k : Nat} (h : k ≠ n) : upN f n v k = f k := if_neg h
/-- behind nobody -/
theorem PeoN_add0 {n sc mn : Nat} {hd sl rg kd lt : Nat → Nat} (h : PeoN n sc mn hd sl rg kd lt) (hn : n < 20) {k l : Nat} (hk : k < 4) (h1 : 1 ≤ l) (h9 : l ≤ 9) (sf mf : Bool) : PeoN (n + 1) (scN sc n sf) (scN mn n mf) hd sl (upN rg n 0) (upN kd n k) (upN lt n l) := by
  obtain ⟨w1, w2, w3, w4, w5, w6, w7⟩ := h
  have z := w7 n (Nat.le_refl n)
  refine ⟨hn, scN_lt w2 sf, scN_lt w3 mf, fun p hp => ?_, fun p q hp hs => ?_, fun p q hp hs => ?_, fun p hp => w7 p (by omega)⟩
  · by_cases e : p = n
    · subst e
      rw [upN_s, upN_s, upN_s, z.1, z.2]
      exact ⟨hk, h1, h9, Nat.pow_pos (by decide), Nat.pow_pos (by decide), Nat.pow_pos (by decide)⟩
    · rw [upN_n _ e, upN_n _ e, upN_n _ e]
      obtain ⟨x1, x2, x3, x4, x5, x6⟩ := w4 p (by omega)
      exact ⟨x1, x2, x3, pw_lt (by omega) x4, pw_lt (by omega) x5, pw_lt (by omega) x6⟩
  · by_cases e : p = n
    · subst e; rw [z.2, Nat.zero_testBit] at hs; cases hs
    · exact w5 p q (by omega) hs
  · by_cases e : p = n
    · subst e; rw [z.1, Nat.zero_testBit] at hs; cases hs
    · have hq := bit_lt (w4 p (by omega)).2.2.2.1 hs
      rw [w6 p q (by omega) hs, scN_bit, upN_n _ e]
      have : ¬ max p q = n := by omega
      simp [this]
/-- behind q -/
theorem PeoN_add {n sc mn : Nat} {hd sl rg kd lt : Nat → Nat} (h : PeoN n sc mn hd sl rg kd lt) (hn : n < 20) {k l q0 : Nat} (hq0 : q0 < n) (hk : k < 4) (h1 : 1 ≤ l) (h9 : l ≤ 9) (sf mf : Bool) : PeoN (n + 1) (scN sc n sf) (scN mn n mf) (set2 hd n q0) (if sf then set2 sl n q0 else sl) (upN rg n 0) (upN kd n k) (upN lt n l) := by
  obtain ⟨w1, w2, w3, w4, w5, w6, w7⟩ := h
  have z := w7 n (Nat.le_refl n)
  have ne : n ≠ q0 := by omega
  have hlt : ∀ k, k < n + 1 → hd k < 2 ^ (n + 1) := fun k hk2 => by
    by_cases e : k = n
    · subst e; rw [z.1]; exact Nat.pow_pos (by decide)
    · exact pw_lt (by omega) (w4 k (by omega)).2.2.2.1
  have slt : ∀ k, k < n + 1 → sl k < 2 ^ (n + 1) := fun k hk2 => by
    by_cases e : k = n
    · subst e; rw [z.2]; exact Nat.pow_pos (by decide)
    · exact pw_lt (by omega) (w4 k (by omega)).2.2.2.2.1
  have sbit : ∀ p q, ((if sf then set2 sl n q0 else sl) p).testBit q = ((sl p).testBit q || (sf && decide ((p = n ∧ q = q0) ∨ (p = q0 ∧ q = n)))) := by
    intro p q
    cases sf
    · simp
    · rw [if_pos rfl, set2_bit sl ne]; simp
  refine ⟨hn, scN_lt w2 sf, scN_lt w3 mf, fun p hp => ?_, fun p q hp hs => ?_, fun p q hp hs => ?_, fun p hp => ?_⟩
  · have A1 : set2 hd n q0 p < 2 ^ (n + 1) := set2_lt (by omega) (by omega) hp hlt
    have A2 : (if sf then set2 sl n q0 else sl) p < 2 ^ (n + 1) := by
      cases sf
      · exact slt p hp
      · exact set2_lt (by omega) (by omega) hp slt
    by_cases e : p = n
    · subst e
      rw [upN_s, upN_s, upN_s]
      exact ⟨hk, h1, h9, A1, A2, Nat.pow_pos (by decide)⟩
    · rw [upN_n _ e, upN_n _ e, upN_n _ e]
      obtain ⟨x1, x2, x3, x4, x5, x6⟩ := w4 p (by omega)
      exact ⟨x1, x2, x3, A1, A2, pw_lt (by omega) x6⟩
  · rw [sbit] at hs
    rw [set2_bit hd ne]
    rw [Bool.or_eq_true] at hs
    rcases hs with hs | hs
    · by_cases e : p = n
      · subst e; rw [z.2, Nat.zero_testBit] at hs; cases hs
      · rw [w5 p q (by omega) hs, Bool.true_or]
    · rw [Bool.and_eq_true] at hs
      rw [hs.2, Bool.or_true]
  · rw [set2_bit hd ne] at hs
    rw [sbit, scN_bit]
    by_cases e : (p = n ∧ q = q0) ∨ (p = q0 ∧ q = n)
    · have s0 : (sl p).testBit q = false := by
        rcases e with ⟨e1, e2⟩ | ⟨e1, e2⟩
        · rw [e1, z.2, Nat.zero_testBit]
        · rw [e2]; exact tb_lt (w4 p (by omega)).2.2.2.2.1 (Nat.le_refl n)
      have r0 : (upN rg n 0 p).testBit q = false := by
        rcases e with ⟨e1, e2⟩ | ⟨e1, e2⟩
        · rw [e1, upN_s, Nat.zero_testBit]
        · rw [upN_n _ (by omega), e2]; exact tb_lt (w4 p (by omega)).2.2.2.2.2 (Nat.le_refl n)
      have mx : max p q = n := by omega
      have c0 : sc.testBit n = false := tb_lt w2 (Nat.le_refl n)
      rw [s0, r0, mx, c0, decide_eq_true e]
      simp
    · rw [decide_eq_false e, Bool.or_false] at hs
      rw [decide_eq_false e, Bool.and_false, Bool.or_false]
      have pn : p ≠ n := by
        intro w
        rw [w, z.1, Nat.zero_testBit] at hs
        cases hs
      have hq := bit_lt (w4 p (by omega)).2.2.2.1 hs
      have mx : ¬ max p q = n := by omega
      rw [w6 p q (by omega) hs, upN_n _ pn, decide_eq_false mx, Bool.and_false, Bool.or_false]
  · have t := w7 p (by omega)
    refine ⟨?_, ?_⟩
    · unfold set2
      rw [if_neg (by omega), if_neg (by omega)]
      exact t.1
    · cases sf
      · exact t.2
      · show set2 sl n q0 p = 0
        unfold set2
        rw [if_neg (by omega), if_neg (by omega)]
        exact t.2
/-- the levels, with one more in the deepest -/
theorem LevN_add {n d : Nat} {hd la au cnt : Nat → Nat} (h : LevN n d hd la au cnt) (hd2 : Nat → Nat) (keep : ∀ k i, k < n → i < n → (hd2 k).testBit i = (hd k).testBit i) (new : 1 ≤ cnt d → 1 ≤ d → (hd2 n).testBit (au d) = false ∧ (hd2 (au d)).testBit n = false) : LevN (n + 1) d hd2 (upN la d n) au (upN cnt d (cnt d + 1)) := by
  obtain ⟨h0, h1, h2⟩ := h
  refine ⟨h0, fun j hj => ?_, fun j q1 q2 => ?_⟩
  · by_cases e : j = d
    · subst e
      rw [upN_s, upN_s]
      exact ⟨by have := (h1 j hj).1; omega, fun _ => by omega⟩
    · rw [upN_n _ e, upN_n _ e]
      have := h1 j hj
      exact ⟨by omega, fun w => by have := this.2 w; omega⟩
  · obtain ⟨k1, k2, k3, k4⟩ := h2 j q1 q2
    rw [upN_n la (show j - 1 ≠ d by omega), upN_n cnt (show j - 1 ≠ d by omega)]
    have ln : la (j - 1) < n := (h1 (j - 1) (by omega)).2 k1
    by_cases e : j = d
    · subst e
      rw [upN_s, upN_s]
      exact ⟨k1, k2, fun _ => by omega, fun w => new (by omega) q1⟩
    · rw [upN_n _ e, upN_n _ e]
      refine ⟨k1, k2, k3, fun w => ?_⟩
      have l2 := (h1 j q2).2 (by omega)
      rw [keep _ _ l2 (by omega), keep _ _ (by omega) l2]
      exact k4 w
theorem LevC_add {n d : Nat} {la cnt : Nat → Nat} {A D : Nat → Int32} (h : LevC d la cnt A D) : LevC d (upN la d n) (upN cnt d (cnt d + 1)) (upd A d (nI n)) (upd D d (nI (cnt d) + 1)) := by
  intro j hj
  by_cases e : j = d
  · subst e
    rw [pk_us, pk_us, upN_s, upN_s, if_pos (by omega), nI_1]
    exact ⟨rfl, rfl⟩
  · rw [pk_un e, pk_un e, upN_n _ e, upN_n _ e, upN_n la (show j - 1 ≠ d by omega)]
    exact h j hj
theorem LevM_add {n d : Nat} {la au cnt : Nat → Nat} {AO LI MI : Nat → Int32} (h : LevM d la au cnt AO LI MI) : LevM d (upN la d n) au (upN cnt d (cnt d + 1)) AO (upd LI d (nI n)) (upd MI d (nI (cnt d) + 1)) := by
  intro j hj
  by_cases e : j = d
  · subst e
    rw [pk_us, pk_us, upN_s, upN_s, if_pos (by omega), nI_1]
    exact ⟨rfl, rfl, (h j hj).2.2⟩
  · rw [pk_un e, pk_un e, upN_n _ e, upN_n _ e]
    exact h j hj
/-! the bytes of one -/
theorem kind_cases (b : Int32) : (∃ k : Nat, k < 4 ∧ fR_kindOf b = some (nI k) ∧ fM_kindOf b = some (nI k)) ∨ (fR_kindOf b = some (-1) ∧ fM_kindOf b = some (-1)) := by
  unfold fR_kindOf fM_kindOf
  by_cases e1 : b = 99
  · subst e1; left; exact ⟨2, by decide, by decide, by decide⟩
  · by_cases e2 : b = 100
    · subst e2; left; exact ⟨3, by decide, by decide, by decide⟩
    · by_cases e3 : b = 112
      · subst e3; left; exact ⟨0, by decide, by decide, by decide⟩
      · by_cases e4 : b = 116
        · subst e4; left; exact ⟨1, by decide, by decide, by decide⟩
        · right
          simp [e1, e2, e3, e4]
theorem late_cases (x : Int32) : (∃ l : Nat, 1 ≤ l ∧ l ≤ 9 ∧ x = nI (48 + l) ∧ x - 48 = nI l) ∨ (¬ ((49 : Int32) ≤ x ∧ x ≤ 57) ∧ (x - 48 < 1 ∨ ¬ x - 48 ≤ 9)) := by
  by_cases c : (49 : Int32) ≤ x ∧ x ≤ 57
  · left
    obtain ⟨j, h1, h2, rfl⟩ := nI_mid (a := 49) (b := 57) (by decide) c.1 c.2 (by decide)
    refine ⟨j - 48, by omega, by omega, by rw [show 48 + (j - 48) = j by omega], ?_⟩
    rw [show (48 : Int32) = nI 48 from rfl, pk_sub (by omega)]
  · right
    refine ⟨c, ?_⟩
    by_cases c1 : x - 48 < 1
    · exact Or.inl c1
    · right
      intro c2
      apply c
      obtain ⟨l, h1, h2, e⟩ := nI_mid (a := 1) (b := 9) (by decide) (o_nlt c1) c2 (by decide)
      have ex : x = nI (48 + l) := by
        have : x = (x - 48) + 48 := (Int32.sub_add_cancel x 48).symm
        rw [this, e, show (48 : Int32) = nI 48 from rfl, nI_add, Nat.add_comm]
      rw [ex]
      exact ⟨(show (49 : Int32) ≤ nI _ from nI_le (a := 49) (by omega) (by omega)), (show nI _ ≤ (57 : Int32) from nI_le (b := 57) (by omega) (by decide))⟩
theorem M_byteAt_in {len k : Nat} (text : Nat → Int32) (hl : len ≤ 60) (hk : k < len) : fM_byteAt (nI k) (nI len) text = some (text k) := by
  unfold fM_byteAt
  rw [if_neg (nI_ge hk (by omega)), ck_nI (show k < 60 by omega) (by decide), nI_clamp (by omega)]
theorem M_byteAt_out {len k : Nat} (text : Nat → Int32) (hl : len ≤ 60) (hk : len ≤ k) (h2 : k < 1000) : fM_byteAt (nI k) (nI len) text = some (-1) := by
  unfold fM_byteAt
  rw [if_pos (nI_le hk (by omega))]
