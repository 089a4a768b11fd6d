/-! ===== Integer.bitCount, as the JDK has it ===== -/
theorem and_split (a b c d k : Nat) (hb : b < 2 ^ k) (hd : d < 2 ^ k) : (2 ^ k * a + b) &&& (2 ^ k * c + d) = 2 ^ k * (a &&& c) + (b &&& d) := by
  have hbd : b &&& d < 2 ^ k := Nat.and_lt_two_pow b hd
  apply Nat.eq_of_testBit_eq
  intro j
  rw [Nat.testBit_and, Nat.testBit_two_pow_mul_add a hb, Nat.testBit_two_pow_mul_add c hd, Nat.testBit_two_pow_mul_add (a &&& c) hbd]
  by_cases h : j < k
  · simp only [if_pos h, Nat.testBit_and]
  · simp only [if_neg h, Nat.testBit_and]
def sw1 (b : Nat) : Nat := b - (b / 2 &&& 85)
def sw2 (b : Nat) : Nat := (b &&& 51) + (b / 4 &&& 51)
def sw3 (b : Nat) : Nat := (b + b / 16) % 16
theorem sw_1 : ∀ b : Fin 256, ∀ h : Fin 2, (b.val / 2 + 128 * h.val) &&& 85 = b.val / 2 &&& 85 := by decide +kernel
theorem sw_2 : ∀ b : Fin 256, ∀ h : Fin 4, (b.val / 4 + 64 * h.val) &&& 51 = b.val / 4 &&& 51 := by decide +kernel
theorem sw_all : ∀ b : Fin 256, b.val / 2 &&& 85 ≤ b.val ∧ sw1 b.val < 256 ∧ (sw2 (sw1 b.val) ≤ 68 ∧ sw2 (sw1 b.val) % 16 ≤ 4) ∧ sw3 (sw2 (sw1 b.val)) = fb_ct (fun k => b.val.testBit k) 8 ∧ fb_ct (fun k => b.val.testBit k) 8 ≤ 8 := by decide +kernel
theorem sw_and15 : ∀ b : Fin 256, b.val &&& 15 = b.val % 16 := by decide +kernel
/-- the bits of three bytes -/
theorem pc_bytes {b0 b1 b2 : Nat} (h0 : b0 < 256) (h1 : b1 < 256) (h2 : b2 < 64) : pcN (65536 * b2 + (256 * b1 + b0)) = fb_ct (fun k => b0.testBit k) 8 + fb_ct (fun k => b1.testBit k) 8 + fb_ct (fun k => b2.testBit k) 8 := by
  unfold pcN
  have e1 : fb_ct (fun k => (65536 * b2 + (256 * b1 + b0)).testBit k) 22 = fb_ct (fun k => (65536 * b2 + (256 * b1 + b0)).testBit k) (8 + (8 + 6)) := rfl
  rw [e1, fb_ct_split, fb_ct_split]
  have t : ∀ j, (65536 * b2 + (256 * b1 + b0)).testBit j = if j < 16 then (256 * b1 + b0).testBit j else b2.testBit (j - 16) := fun j => Nat.testBit_two_pow_mul_add (i := 16) b2 (show 256 * b1 + b0 < 2 ^ 16 by omega) j
  have t2 : ∀ j, (256 * b1 + b0).testBit j = if j < 8 then b0.testBit j else b1.testBit (j - 8) := fun j => Nat.testBit_two_pow_mul_add (i := 8) b1 (show b0 < 2 ^ 8 by omega) j
  have c0 : fb_ct (fun k => (65536 * b2 + (256 * b1 + b0)).testBit k) 8 = fb_ct (fun k => b0.testBit k) 8 := fb_ct_cong (fun k hk => by
    show (65536 * b2 + (256 * b1 + b0)).testBit k = b0.testBit k
    rw [t, if_pos (by omega), t2, if_pos hk])
  have c1 : fb_ct (fun k => (65536 * b2 + (256 * b1 + b0)).testBit (8 + k)) 8 = fb_ct (fun k => b1.testBit k) 8 := fb_ct_cong (fun k hk => by
    show (65536 * b2 + (256 * b1 + b0)).testBit (8 + k) = b1.testBit k
    rw [t, if_pos (by omega), t2, if_neg (by omega), show 8 + k - 8 = k by omega])
  have c2 : fb_ct (fun k => (65536 * b2 + (256 * b1 + b0)).testBit (8 + (8 + k))) 6 = fb_ct (fun k => b2.testBit k) 6 := fb_ct_cong (fun k hk => by
    show (65536 * b2 + (256 * b1 + b0)).testBit (8 + (8 + k)) = b2.testBit k
    rw [t, if_neg (by omega), show 8 + (8 + k) - 16 = k by omega])
  have c3 : fb_ct (fun k => b2.testBit k) 8 = fb_ct (fun k => b2.testBit k) 6 := by
    have e2 : fb_ct (fun k => b2.testBit k) 8 = fb_ct (fun k => b2.testBit k) (6 + 2) := rfl
    rw [e2, fb_ct_split]
    have z : fb_ct (fun k => b2.testBit (6 + k)) 2 = 0 := fb_ct_zero.mpr (fun k _ => Nat.testBit_lt_two_pow (Nat.lt_of_lt_of_le (show b2 < 2 ^ 6 by omega) (Nat.pow_le_pow_right (by decide) (by omega))))
    rw [z, Nat.add_zero]
  rw [c0, c1, c2, c3, Nat.add_assoc]
theorem swar_end {p0 p1 p2 : Nat} (h0 : p0 ≤ 8) (h1 : p1 ≤ 8) (h2 : p2 ≤ 8) : ((65536 * p2 + (256 * p1 + p0)) + (65536 * p2 + (256 * p1 + p0)) / 256 + ((65536 * p2 + (256 * p1 + p0)) + (65536 * p2 + (256 * p1 + p0)) / 256) / 65536) % 64 = p0 + p1 + p2 := by
  have e1 : (65536 * p2 + (256 * p1 + p0)) / 256 = 256 * p2 + p1 := by omega
  rw [e1]
  have e2 : ((65536 * p2 + (256 * p1 + p0)) + (256 * p2 + p1)) / 65536 = p2 := by omega
  rw [e2]
  omega
theorem swar {x : Nat} (hx : x < 2 ^ 22) : ∃ y1 y2 y3 : Nat, y1 = x - (x / 2 &&& 1431655765) ∧ x / 2 &&& 1431655765 ≤ x ∧ y1 < 2 ^ 24 ∧ y2 = (y1 &&& 858993459) + (y1 / 4 &&& 858993459) ∧ y2 < 2 ^ 24 ∧ y3 = (y2 + y2 / 16) &&& 252645135 ∧ y3 < 2 ^ 24 ∧ ((y3 + y3 / 256) + (y3 + y3 / 256) / 65536) % 64 = pcN x := by
  obtain ⟨b0, b1, b2, h0, h1, h2, rfl⟩ : ∃ b0 b1 b2 : Nat, b0 < 256 ∧ b1 < 256 ∧ b2 < 64 ∧ x = 65536 * b2 + (256 * b1 + b0) := ⟨x % 256, x / 256 % 256, x / 65536, by omega, by omega, by omega, by omega⟩
  obtain ⟨l0, l1, l2, l3, l4⟩ := sw_all ⟨b0, h0⟩
  obtain ⟨m0, m1, m2, m3, m4⟩ := sw_all ⟨b1, h1⟩
  obtain ⟨n0, n1, n2, n3, n4⟩ := sw_all ⟨b2, by omega⟩
  simp only at l0 l1 l2 l3 l4 m0 m1 m2 m3 m4 n0 n1 n2 n3 n4
  have a1 : (65536 * b2 + (256 * b1 + b0)) / 2 &&& 1431655765 = 65536 * (b2 / 2 &&& 85) + (256 * (b1 / 2 &&& 85) + (b0 / 2 &&& 85)) := by
    have e : (65536 * b2 + (256 * b1 + b0)) / 2 = 2 ^ 16 * (b2 / 2) + (2 ^ 8 * (b1 / 2 + 128 * (b2 % 2)) + (b0 / 2 + 128 * (b1 % 2))) := by omega
    have e2 : (1431655765 : Nat) = 2 ^ 16 * 21845 + (2 ^ 8 * 85 + 85) := by decide
    rw [e, e2, and_split _ _ _ _ 16 (by omega) (by decide), and_split _ _ _ _ 8 (by omega) (by decide)]
    have f1 := sw_1 ⟨b1, h1⟩ ⟨b2 % 2, by omega⟩
    have f0 := sw_1 ⟨b0, h0⟩ ⟨b1 % 2, by omega⟩
    simp only at f0 f1
    rw [f0, f1]
    have f2 : b2 / 2 &&& 21845 = b2 / 2 &&& 85 := by
      have : ∀ b : Fin 64, b.val / 2 &&& 21845 = b.val / 2 &&& 85 := by decide +kernel
      exact this ⟨b2, h2⟩
    rw [f2]
  have y1e : 65536 * b2 + (256 * b1 + b0) - (65536 * (b2 / 2 &&& 85) + (256 * (b1 / 2 &&& 85) + (b0 / 2 &&& 85))) = 65536 * sw1 b2 + (256 * sw1 b1 + sw1 b0) := by
    unfold sw1
    omega
  have a2 : ∀ {c0 c1 c2 : Nat}, c0 < 256 → c1 < 256 → c2 < 256 → ((65536 * c2 + (256 * c1 + c0)) &&& 858993459) + ((65536 * c2 + (256 * c1 + c0)) / 4 &&& 858993459) = 65536 * sw2 c2 + (256 * sw2 c1 + sw2 c0) := by
    intro c0 c1 c2 q0 q1 q2
    have e2 : (858993459 : Nat) = 2 ^ 16 * 13107 + (2 ^ 8 * 51 + 51) := by decide
    have e : (65536 * c2 + (256 * c1 + c0)) / 4 = 2 ^ 16 * (c2 / 4) + (2 ^ 8 * (c1 / 4 + 64 * (c2 % 4)) + (c0 / 4 + 64 * (c1 % 4))) := by omega
    have e3 : 65536 * c2 + (256 * c1 + c0) = 2 ^ 16 * c2 + (2 ^ 8 * c1 + c0) := by omega
    rw [e, e3, e2, and_split _ _ _ _ 16 (by omega) (by decide), and_split _ _ _ _ 8 (by omega) (by decide), and_split _ _ _ _ 16 (by omega) (by decide), and_split _ _ _ _ 8 (by omega) (by decide)]
    have f1 := sw_2 ⟨c1, q1⟩ ⟨c2 % 4, by omega⟩
    have f0 := sw_2 ⟨c0, q0⟩ ⟨c1 % 4, by omega⟩
    simp only at f0 f1
    rw [f0, f1]
    have f2 : ∀ b : Fin 256, b.val &&& 13107 = b.val &&& 51 ∧ b.val / 4 &&& 13107 = b.val / 4 &&& 51 := by decide +kernel
    have f3 := f2 ⟨c2, q2⟩
    simp only at f3
    rw [f3.1, f3.2]
    unfold sw2
    omega
  have a3 : ∀ {c0 c1 c2 : Nat}, (c0 ≤ 68 ∧ c0 % 16 ≤ 4) → (c1 ≤ 68 ∧ c1 % 16 ≤ 4) → (c2 ≤ 68 ∧ c2 % 16 ≤ 4) → ((65536 * c2 + (256 * c1 + c0)) + (65536 * c2 + (256 * c1 + c0)) / 16) &&& 252645135 = 65536 * sw3 c2 + (256 * sw3 c1 + sw3 c0) := by
    intro c0 c1 c2 ⟨q0, r0⟩ ⟨q1, r1⟩ ⟨q2, r2⟩
    have e2 : (252645135 : Nat) = 2 ^ 16 * 3855 + (2 ^ 8 * 15 + 15) := by decide
    have e : (65536 * c2 + (256 * c1 + c0)) + (65536 * c2 + (256 * c1 + c0)) / 16 = 2 ^ 16 * (c2 + c2 / 16) + (2 ^ 8 * (c1 + c1 / 16 + 16 * (c2 % 16)) + (c0 + c0 / 16 + 16 * (c1 % 16))) := by omega
    rw [e, e2, and_split _ _ _ _ 16 (by omega) (by decide), and_split _ _ _ _ 8 (by omega) (by decide)]
    have f0 := sw_and15 ⟨c0 + c0 / 16 + 16 * (c1 % 16), by omega⟩
    have f1 := sw_and15 ⟨c1 + c1 / 16 + 16 * (c2 % 16), by omega⟩
    have f2 : ∀ b : Fin 256, b.val &&& 3855 = b.val % 16 := by decide +kernel
    have f3 := f2 ⟨c2 + c2 / 16, by omega⟩
    simp only at f0 f1 f3
    rw [f0, f1, f3]
    unfold sw3
    omega
  refine ⟨_, _, _, rfl, ?_, ?_, rfl, ?_, rfl, ?_, ?_⟩
  · rw [a1]; omega
  · rw [a1, y1e]; omega
  · rw [a1, y1e, a2 l1 m1 n1]; omega
  · rw [a1, y1e, a2 l1 m1 n1, a3 l2 m2 n2, l3, m3, n3]; omega
  · rw [a1, y1e, a2 l1 m1 n1, a3 l2 m2 n2, l3, m3, n3, pc_bytes h0 h1 h2]
    exact swar_end l4 m4 n4
theorem J_bitCount_eq {x : Nat} (hx : x < 2 ^ 22) : fJ_bitCount (nI x) = some (nI (pcN x)) := by
  obtain ⟨y1, y2, y3, e1, g1, h1, e2, h2, e3, h3, e4⟩ := swar hx
  unfold fJ_bitCount
  rw [nm_eq, pk_ushrN (by omega) 1 1 (by decide), show (1431655765 : Int32) = nI 1431655765 from rfl, fa_and, Nat.pow_one, pk_sub g1, ← e1]
  rw [nm_eq, pk_ushrN (by omega) 2 2 (by decide), show (858993459 : Int32) = nI 858993459 from rfl, fa_and, fa_and, nI_add, show (2 : Nat) ^ 2 = 4 from rfl, ← e2]
  rw [nm_eq, pk_ushrN (by omega) 4 4 (by decide), show (252645135 : Int32) = nI 252645135 from rfl, nI_add, fa_and, show (2 : Nat) ^ 4 = 16 from rfl, ← e3]
  rw [nm_eq, pk_ushrN (by omega) 8 8 (by decide), nI_add, show (2 : Nat) ^ 8 = 256 from rfl]
  rw [nm_eq, pk_ushrN (by omega) 16 16 (by decide), nI_add, show (2 : Nat) ^ 16 = 65536 from rfl]
  rw [show (63 : Int32) = nI (2 ^ 6 - 1) from rfl, fa_mask, show (2 : Nat) ^ 6 = 64 from rfl, e4]
/-! ===== censuses ===== -/
def RReg (sz : Int32) (yr ct bo : Nat → Int32) (ms : Int32) (my mm mb : Nat → Int32) : Prop :=
  ∃ n : Nat, n ≤ 8 ∧ sz = nI n ∧ ms = nI n ∧ (∀ k, k < n → yr k = my k ∧ ct k = mm k ∧ (∃ y : Nat, y < 100 ∧ yr k = nI y) ∧ (∃ c : Nat, c ≤ 9999 ∧ ct k = nI c)) ∧ ∀ k, k < 100 → bo k = mb k ∧ ∃ b : Nat, b ≤ 999 ∧ bo k = nI b
theorem G_isYear_eq (a : Int32) : fG_isYear a = some (if 0 ≤ a ∧ a ≤ 99 then 1 else 0) := by
  unfold fG_isYear
  rcases ix0 a 100 (by decide) with h | h | ⟨j, hj, rfl⟩
  · rw [if_pos h, if_neg (fun q : (0 : Int32) ≤ a ∧ a ≤ 99 => o_ltn h q.1)]
  · have h3 : ¬ a ≤ 99 := fun q => o_ltn (nI_lt (a := 99) (b := 100) (by decide) (by decide)) (o_tr h q)
    rw [if_neg (o_len (o_tr (nI_pos' (by decide)) h)), if_pos (show (100 : Int32) ≤ a from h), if_neg (fun q : (0 : Int32) ≤ a ∧ a ≤ 99 => h3 q.2)]
  · rw [if_neg (nI_pos (by omega)), if_neg ((show ¬ (100 : Int32) ≤ nI _ from nI_ge (b := 100) hj (by decide))), if_pos (And.intro (nI_pos' (by omega)) ((show nI _ ≤ (99 : Int32) from nI_le (b := 99) (by omega) (by decide))))]
theorem reg_census {sz : Int32} {yr ct bo : Nat → Int32} {ms : Int32} {my mm mb : Nat → Int32} (h : RReg sz yr ct bo ms my mm mb) (a1 a2 : Int32) :
    ∃ (r sz2 : Int32) (yr2 ct2 my2 mm2 : Nat → Int32), fC_census a1 a2 sz yr ct = some (r, sz2, yr2, ct2) ∧ fM_census a1 a2 ms my mm = some (r, sz2, my2, mm2) ∧ RReg sz2 yr2 ct2 bo sz2 my2 mm2 mb := by
  have z1 : ¬ (1 : Int32) = 0 := by decide
  obtain ⟨n, hn, rfl, rfl, hk, hb⟩ := h
  have bad : ∃ (r sz2 : Int32) (yr2 ct2 my2 mm2 : Nat → Int32), some ((-2 : Int32), nI n, yr, ct) = some (r, sz2, yr2, ct2) ∧ some ((-2 : Int32), nI n, my, mm) = some (r, sz2, my2, mm2) ∧ RReg sz2 yr2 ct2 bo sz2 my2 mm2 mb := ⟨_, _, _, _, _, _, rfl, rfl, ⟨n, hn, rfl, rfl, hk, hb⟩⟩
  unfold fC_census fM_census fG_add
  rw [G_isYear_eq, M_in_eq, bd_some, bd_some]
  by_cases c1 : (0 : Int32) ≤ a1 ∧ a1 ≤ 99
  · obtain ⟨y, -, hy, rfl⟩ := nI_mid (a := 0) (b := 99) (by decide) c1.1 c1.2 (by decide)
    rw [if_pos c1, if_neg z1, if_neg z1, M_in_eq, bd_some]
    by_cases c2 : a2 < 0
    · rw [if_pos c2, if_neg (fun q : (0 : Int32) ≤ a2 ∧ a2 ≤ 9999 => o_ltn c2 q.1), if_pos rfl, bd_some]
      exact bad
    · rw [if_neg c2]
      by_cases c3 : a2 ≤ 9999
      · obtain ⟨c, -, hc, rfl⟩ := nI_mid (a := 0) (b := 9999) (by decide) (o_nlt c2) c3 (by decide)
        rw [if_pos c3, if_pos (And.intro (o_nlt c2) (c3)), if_neg z1]
        rcases Nat.lt_or_ge n 8 with hl | hl
        · rw [if_pos ((show nI _ < (8 : Int32) from nI_lt (b := 8) hl (by decide))), if_neg (show ¬ nI n = (8 : Int32) from neN (b := 8) (by omega) (by omega) (by decide)), ck_nI hl (by decide), ck_nI hl (by decide), ck_nI hl (by decide), ck_nI hl (by decide), bd_some, nI_1, nI_clamp (by omega)]
          refine ⟨nI (n + 1) - 1, nI (n + 1), upd yr n (nI y), upd ct n (nI c), upd my n (nI y), upd mm n (nI c), rfl, rfl, ⟨n + 1, by omega, rfl, rfl, ?_, hb⟩⟩
          intro k hk2
          by_cases e : k = n
          · subst e
            rw [pk_us, pk_us, pk_us, pk_us]
            exact ⟨rfl, rfl, ⟨y, by omega, rfl⟩, ⟨c, hc, rfl⟩⟩
          · rw [pk_un e, pk_un e, pk_un e, pk_un e]
            exact hk k (by omega)
        · have e : n = 8 := by omega
          subst e
          rw [if_neg ((show ¬ nI _ < (8 : Int32) from nI_nlt (b := 8) (Nat.le_refl _) (by decide))), if_pos (show nI 8 = 8 from rfl), bd_some]
          exact ⟨_, _, _, _, _, _, rfl, rfl, ⟨8, hn, rfl, rfl, hk, hb⟩⟩
      · rw [if_neg c3, if_neg (fun q : (0 : Int32) ≤ a2 ∧ a2 ≤ 9999 => c3 q.2), if_pos rfl, bd_some]
        exact bad
  · rw [if_neg c1, if_pos rfl, if_pos rfl, bd_some]
    exact bad
theorem reg_births {sz : Int32} {yr ct bo : Nat → Int32} {ms : Int32} {my mm mb : Nat → Int32} (h : RReg sz yr ct bo ms my mm mb) (a1 a2 : Int32) :
    ∃ (r : Int32) (bo2 mb2 : Nat → Int32), fC_births a1 a2 bo = some (r, bo2) ∧ fM_births a1 a2 mb = some (r, mb2) ∧ RReg sz yr ct bo2 ms my mm mb2 := by
  have z1 : ¬ (1 : Int32) = 0 := by decide
  have h' := h
  obtain ⟨n, hn, rfl, rfl, hk, hb⟩ := h
  have bad : ∃ (r : Int32) (bo2 mb2 : Nat → Int32), some ((-2 : Int32), bo) = some (r, bo2) ∧ some ((-2 : Int32), mb) = some (r, mb2) ∧ RReg (nI n) yr ct bo2 (nI n) my mm mb2 := ⟨_, _, _, rfl, rfl, h'⟩
  unfold fC_births fM_births fG_setBirths
  rw [G_isYear_eq, M_in_eq, bd_some, bd_some]
  by_cases c1 : (0 : Int32) ≤ a1 ∧ a1 ≤ 99
  · obtain ⟨y, -, hy, rfl⟩ := nI_mid (a := 0) (b := 99) (by decide) c1.1 c1.2 (by decide)
    rw [if_pos c1, if_neg z1, if_neg z1, M_in_eq, bd_some]
    by_cases c2 : a2 < 0
    · rw [if_pos c2, if_neg (fun q : (0 : Int32) ≤ a2 ∧ a2 ≤ 999 => o_ltn c2 q.1), if_pos rfl, bd_some]
      exact bad
    · rw [if_neg c2]
      by_cases c3 : a2 ≤ 999
      · obtain ⟨c, -, hc, rfl⟩ := nI_mid (a := 0) (b := 999) (by decide) (o_nlt c2) c3 (by decide)
        rw [if_pos c3, if_pos (And.intro (o_nlt c2) (c3)), if_neg z1, ck_nI (by omega) (by decide), ck_nI (by omega) (by decide), ck_nI (by omega) (by decide), ck_nI (by omega) (by decide), bd_some, nI_clamp (by omega), (hb y (by omega)).1]
        refine ⟨mb y, upd bo y (nI c), upd mb y (nI c), rfl, rfl, ⟨n, hn, rfl, rfl, hk, fun k hk2 => ?_⟩⟩
        by_cases e : k = y
        · subst e
          rw [pk_us, pk_us]
          exact ⟨rfl, c, hc, rfl⟩
        · rw [pk_un e, pk_un e]
          exact hb k hk2
      · rw [if_neg c3, if_neg (fun q : (0 : Int32) ≤ a2 ∧ a2 ≤ 999 => c3 q.2), if_pos rfl, bd_some]
        exact bad
  · rw [if_neg c1, if_pos rfl, if_pos rfl, bd_some]
    exact bad
