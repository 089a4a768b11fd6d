/-! ===== the mirrors' words, as equations ===== -/
theorem ck_in {α : Type} {n : Nat} {i : Int32} {k : Option α} (h : vp_in i n) : ck n i k = k := if_neg h
theorem ck_nI {α : Type} {n j : Nat} {k : Option α} (h : j < n) (hn : n < 2 ^ 31) : ck n (nI j) k = k := ck_in (vp_in_nI h hn)
theorem dz_ne {α : Type} {y : Int32} {k : Option α} (h : ¬ y = 0) : dz y k = k := if_neg h
theorem bz_01 {α : Type} {y : Int32} {k : Option α} (h : y = 0 ∨ y = 1) : bz y k = k := if_pos h
theorem nm_eq {α β : Type} (e : β) (k : β → Option α) : nm e k = k e := rfl
theorem bd_some {α β : Type} (x : β) (k : β → Option α) : bd (some x) k = k x := rfl
theorem bd_eq {α β : Type} {o : Option β} {x : β} (h : o = some x) (k : β → Option α) : bd o k = k x := by rw [h]; rfl
theorem mz_some {α : Type} {n0 : Nat} {g : α → Nat} {u : α} (h : n0 ≤ g u) : mz n0 g (some u) = some u := if_pos h
theorem bm_some {α β : Type} {n0 : Nat} {f : β → Nat} {g : α → Nat} {x : β} {k : β → Option α} {u : α} (hk : k x = some u) (h1 : n0 ≤ f x) (h2 : f x ≤ g u) : bm n0 f g (some x) k = some u := by
  show (match k x with | none => none | some u => if n0 ≤ f x ∧ f x ≤ g u then some u else none) = some u
  rw [hk]
  exact if_pos (And.intro (h1) (h2))
theorem cp_in {α : Type} {n0 : Nat} {n : Int32} {k : Option α} (h : ¬ n < 0 ∧ 1 ≤ n0 ∧ 2 * n0 ≤ n.toNatClampNeg ∧ n.toNatClampNeg ≤ 100000) : cp n0 n k = k := if_pos h
theorem ac_in {α : Type} {n0 n1 : Nat} {sp dp n : Int32} {k : Option α} (h : ¬ sp < 0 ∧ ¬ dp < 0 ∧ ¬ n < 0 ∧ sp.toNatClampNeg + n.toNatClampNeg ≤ n0 ∧ dp.toNatClampNeg + n.toNatClampNeg ≤ n1) : ac n0 n1 sp dp n k = k := if_pos h
theorem FU_eq : FU = 1000000 := rfl
/-! ===== ints that are small numbers ===== -/
theorem nI_lit (n : Nat) : (OfNat.ofNat n : Int32) = nI n := rfl
theorem nI_m1 : ((-1 : Int32)).toInt = -1 := by decide
theorem nI_ne_m1 {n : Nat} (h : n < 2 ^ 31) : ¬ nI n = -1 := by
  intro e
  have h1 := congrArg Int32.toInt e
  rw [nI_toInt h, nI_m1] at h1
  omega
theorem m1_ne_nI {n : Nat} (h : n < 2 ^ 31) : ¬ (-1 : Int32) = nI n := fun e => nI_ne_m1 h e.symm
theorem m1_lt_nI {n : Nat} (h : n < 2 ^ 31) : (-1 : Int32) < nI n := by
  rw [Int32.lt_iff_toInt_lt, nI_toInt h, nI_m1]
  omega
theorem nI_nlt_m1 {n : Nat} (h : n < 2 ^ 31) : ¬ nI n < (-1 : Int32) := by
  rw [Int32.lt_iff_toInt_lt, nI_toInt h, nI_m1]
  omega
theorem nI_nle_m1 {n : Nat} (h : n < 2 ^ 31) : ¬ nI n ≤ (-1 : Int32) := by
  rw [Int32.le_iff_toInt_le, nI_toInt h, nI_m1]
  omega
theorem m1_le_nI {n : Nat} (h : n < 2 ^ 31) : (-1 : Int32) ≤ nI n := by
  rw [Int32.le_iff_toInt_le, nI_toInt h, nI_m1]
  omega
/-- an int between two numbers is one -/
theorem nI_mid {x : Int32} {a b : Nat} (hb : b < 2 ^ 31) (h1 : nI a ≤ x) (h2 : x ≤ nI b) (ha : a < 2 ^ 31) : ∃ j : Nat, a ≤ j ∧ j ≤ b ∧ x = nI j := by
  rw [Int32.le_iff_toInt_le, nI_toInt ha] at h1
  rw [Int32.le_iff_toInt_le, nI_toInt hb] at h2
  have h0 : ¬ x < 0 := by rw [Int32.lt_iff_toInt_lt]; show ¬ x.toInt < 0; omega
  obtain ⟨j, hj, rfl⟩ := nI_of h0
  rw [nI_toInt hj] at h1 h2
  exact ⟨j, by omega, by omega, rfl⟩
theorem ltN {a b : Nat} (ha : a < 2 ^ 31) (hb : b < 2 ^ 31) : (nI a < nI b) = (a < b) := propext (nI_ltI ha hb)
theorem leN {a b : Nat} (ha : a < 2 ^ 31) (hb : b < 2 ^ 31) : (nI a ≤ nI b) = (a ≤ b) := propext (nI_leI ha hb)
theorem eqN {a b : Nat} (ha : a < 2 ^ 31) (hb : b < 2 ^ 31) : (nI a = nI b) = (a = b) := propext (nI_eq ha hb)
theorem neN {a b : Nat} (h : a ≠ b) (ha : a < 2 ^ 31) (hb : b < 2 ^ 31) : ¬ nI a = nI b := fun e => h ((nI_eq ha hb).mp e)
/-! ===== bits as numbers ===== -/
theorem and31 {k : Nat} (h : k < 32) : nI k &&& 31 = nI k := by
  rw [show (31 : Int32) = nI (2 ^ 5 - 1) from rfl, fa_mask, Nat.mod_eq_of_lt h]
theorem smod32 {k : Nat} (h : k < 32) : ((nI k).toBitVec.smod 32).toNat = k := by
  have : ∀ k : Fin 32, ((nI k.val).toBitVec.smod 32).toNat = k.val := by decide
  exact this ⟨k, h⟩
theorem shl1 {k : Nat} (h : k < 32) : (1 : Int32) <<< (nI k &&& 31) = nI (2 ^ k) := by
  rw [and31 h, show (1 : Int32) = nI 1 from rfl, pk_shlN (nI k) k (smod32 h) (by rw [Nat.one_mul]; exact Nat.pow_lt_pow_right (by decide) h), Nat.one_mul]
theorem shrN {n k : Nat} (hn : n < 2 ^ 31) (h : k < 32) : nI n >>> (nI k &&& 31) = nI (n / 2 ^ k) := by
  rw [and31 h, pk_shrN hn (nI k) k (smod32 h)]
theorem bitN {n k : Nat} (hn : n < 2 ^ 31) (h : k < 32) : (nI n >>> (nI k &&& 31)) &&& 1 = nI (if n.testBit k then 1 else 0) := by
  rw [shrN hn h, show (1 : Int32) = nI (2 ^ 1 - 1) from rfl, fa_mask]
  congr 1
  rw [Nat.testBit_eq_decide_div_mod_eq, Nat.pow_one]
  have := Nat.mod_two_eq_zero_or_one (n / 2 ^ k)
  rcases this with e | e <;> simp [e]
theorem orbit {n k : Nat} (h : k < 32) : nI n ||| ((1 : Int32) <<< (nI k &&& 31)) = nI (n ||| 2 ^ k) := by rw [shl1 h, fa_or]
theorem or_lt {a b k : Nat} (ha : a < 2 ^ k) (hb : b < 2 ^ k) : a ||| b < 2 ^ k := Nat.or_lt_two_pow ha hb
theorem tb_or (n j i : Nat) : (n ||| 2 ^ j).testBit i = (n.testBit i || decide (i = j)) := fb_bit_set n j i
theorem tb_lt {n k i : Nat} (h : n < 2 ^ k) (hi : k ≤ i) : n.testBit i = false := Nat.testBit_lt_two_pow (Nat.lt_of_lt_of_le h (Nat.pow_le_pow_right (by decide) hi))
/-- the bits of a number, counted -/
def pcN (n : Nat) : Nat := fb_ct (fun k => n.testBit k) 22
theorem pcN_le (n : Nat) : pcN n ≤ 22 := fb_ct_le _ _
theorem pcN_or (n j : Nat) : pcN (n ||| 2 ^ j) ≤ pcN n + 1 := by
  by_cases hj : j < 22
  · unfold pcN
    have h := fb_ct_upd (fun k => n.testBit k) true (i := j) (n := 22) hj
    have e : fb_ct (fun k => if k = j then true else n.testBit k) 22 = fb_ct (fun k => (n ||| 2 ^ j).testBit k) 22 := fb_ct_cong (fun k _ => by
      show (if k = j then true else n.testBit k) = (n ||| 2 ^ j).testBit k
      rw [tb_or]
      by_cases hk : k = j <;> simp [hk])
    rw [← e]
    simp only [if_true] at h
    split at h <;> omega
  · unfold pcN
    have e : fb_ct (fun k => (n ||| 2 ^ j).testBit k) 22 = fb_ct (fun k => n.testBit k) 22 := fb_ct_cong (fun k hk => by
      show (n ||| 2 ^ j).testBit k = n.testBit k
      rw [tb_or]
      have : ¬ k = j := by omega
      simp [this])
    rw [e]
    exact Nat.le_succ _
theorem pcN_0 : pcN 0 = 0 := by
  unfold pcN
  exact fb_ct_zero.mpr (fun k _ => Nat.zero_testBit k)
/-! ===== the small methods of the reference ===== -/
theorem M_in_eq (a b c : Int32) : fM_in a b c = some (if b ≤ a ∧ a ≤ c then 1 else 0) := by
  unfold fM_in
  by_cases h1 : b ≤ a
  · by_cases h2 : a ≤ c
    · have h3 : ¬ a < b := by rw [Int32.lt_iff_toInt_lt]; rw [Int32.le_iff_toInt_le] at h1; omega
      have h4 : ¬ c < a := by rw [Int32.lt_iff_toInt_lt]; rw [Int32.le_iff_toInt_le] at h2; omega
      simp [h1, h2, h3, h4]
    · have h3 : ¬ a < b := by rw [Int32.lt_iff_toInt_lt]; rw [Int32.le_iff_toInt_le] at h1; omega
      have h4 : c < a := by rw [Int32.lt_iff_toInt_lt]; rw [Int32.le_iff_toInt_le] at h2; omega
      simp [h1, h2, h3, h4]
  · have h3 : a < b := by rw [Int32.lt_iff_toInt_lt]; rw [Int32.le_iff_toInt_le] at h1; omega
    simp [h1, h3]
theorem M_isIn_eq {n k : Nat} (hn : n < 2 ^ 31) (hk : k < 32) : fM_isIn (nI n) (nI k) = some (if n.testBit k then 1 else 0) := by
  unfold fM_isIn
  rw [bitN hn hk]
  cases n.testBit k <;> decide
theorem M_ones_go {n : Nat} (hn : n < 2 ^ 31) : ∀ (m j acc : Nat), j + m = 22 → acc ≤ j → ∀ f, m < f → fM_ones_4 (nI n) f (nI acc) (nI j) = some (nI (acc + (pcN n - fb_ct (fun k => n.testBit k) j)))
  | 0, j, acc, hj, ha, f, hf => by
    obtain ⟨f, rfl⟩ : ∃ g, f = g + 1 := ⟨f - 1, by omega⟩
    have e : j = 22 := by omega
    subst e
    show fM_ones_4_b _ _ _ _ = _
    unfold fM_ones_4_b
    rw [if_pos (show (22 : Int32) ≤ nI 22 by decide)]
    unfold pcN
    rw [Nat.sub_self, Nat.add_zero]
  | m + 1, j, acc, hj, ha, f, hf => by
    obtain ⟨f, rfl⟩ : ∃ g, f = g + 1 := ⟨f - 1, by omega⟩
    show fM_ones_4_b _ _ _ _ = _
    unfold fM_ones_4_b
    rw [if_neg (show ¬ (22 : Int32) ≤ nI j from nI_ge (b := 22) (by omega) (by decide)), nm_eq, bitN hn (by omega), nI_add, nI_1]
    rw [M_ones_go hn m (j + 1) _ (by omega) (by split <;> omega) f (by omega)]
    congr 2
    have h1 : fb_ct (fun k => n.testBit k) (j + 1) = fb_ct (fun k => n.testBit k) j + (if n.testBit j then 1 else 0) := fb_ct_succ _ _
    have h2 : fb_ct (fun k => n.testBit k) (j + 1) ≤ pcN n := fb_ct_mono _ (by omega)
    omega
theorem M_ones_eq {n : Nat} (hn : n < 2 ^ 31) : fM_ones (nI n) = some (nI (pcN n)) := by
  unfold fM_ones
  have h := M_ones_go hn 22 0 0 rfl (Nat.le_refl 0) FU (by decide)
  rw [show (0 : Int32) = nI 0 from rfl, h]
  congr 2
  show 0 + (pcN n - 0) = pcN n
  omega
theorem M_isTime_eq (a : Int32) : fM_isTime a = some (if 0 ≤ a ∧ a ≤ 400 then 1 else 0) := by
  unfold fM_isTime
  rw [M_in_eq, bd_some]
  split <;> rfl
theorem M_isSheet_eq (a : Int32) : fM_isSheet a = some (if 0 ≤ a ∧ a ≤ 3 then 1 else 0) := by
  unfold fM_isSheet
  rw [M_in_eq, bd_some]
  split <;> rfl
