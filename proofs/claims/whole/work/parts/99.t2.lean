/-! ===== the doubt between two posts ===== -/
def gapD (a b : Nat) : Nat := if a < b then b - a else a - b
def gp (x y z : Nat) (tm : Nat → Nat) (i j : Nat) : Nat := if i = j then 0 else (gapD (tm i) (tm j) + z) / x - fewN (gapD (tm i) (tm j)) y z
section gap
variable {x y z c : Nat} {tm : Nat → Nat} {at_ mt : Nat → Int32}
theorem gapD_le {a b : Nat} (ha : a ≤ 400) (hb : b ≤ 400) : gapD a b ≤ 400 := by unfold gapD; split <;> omega
theorem gp_le (h1 : 1 ≤ x) (hz : z ≤ 20) (ht : ∀ k, k < c → tm k ≤ 400) {i j : Nat} (hi : i < c) (hj : j < c) : gp x y z tm i j ≤ 420 := by
  unfold gp
  split
  · omega
  · have := gapD_le (ht i hi) (ht j hj)
    have : (gapD (tm i) (tm j) + z) / x ≤ gapD (tm i) (tm j) + z := Nat.div_le_self _ _
    omega
theorem fewN_le (t b e : Nat) (h1 : 1 ≤ b) (ht : t ≤ 400) : fewN t b e ≤ 410 + b := by
  unfold fewN
  have : (t - e + b - 1) / b ≤ t - e + b - 1 := Nat.div_le_self _ _
  omega
theorem P_gap_eq (h1 : 1 ≤ x) (h2 : x ≤ y) (h3 : y ≤ 9) (hz : z ≤ 20) (hc : c ≤ 20) (ha : ∀ k, k < c → at_ k = nI (tm k) ∧ tm k ≤ 400) {i j : Nat} (hi : i < c) (hj : j < c) : fP_gap (nI i) (nI j) (nI x) (nI y) (nI z) at_ = some (nI (gp x y z tm i j)) := by
  unfold fP_gap gp
  by_cases e : i = j
  · rw [if_pos (show nI i = nI j by rw [e]), if_pos e]; rfl
  · rw [if_neg (neN e (by omega) (by omega)), if_neg e, ck_nI (by omega) (by decide), ck_nI (by omega) (by decide), nI_clamp (by omega), nI_clamp (by omega), (ha i hi).1, (ha j hj).1, nm_eq]
    have ti := (ha i hi).2
    have tj := (ha j hj).2
    have d : (if (0 : Int32) ≤ nI (tm i) - nI (tm j) then nI (tm i) - nI (tm j) else 0 - (nI (tm i) - nI (tm j))) = nI (gapD (tm i) (tm j)) := by
      unfold gapD
      by_cases w : tm i < tm j
      · have s : nI (tm i) - nI (tm j) = -nI (tm j - tm i) := by
          rw [← pk_sub (show tm i ≤ tm j by omega), Int32.neg_sub]
        have n1 : ¬ (0 : Int32) ≤ nI (tm i) - nI (tm j) := by
          rw [s, Int32.le_iff_toInt_le, fb_negI (by rw [nI_toInt (by omega)]; omega), nI_toInt (by omega)]
          have : (0 : Int32).toInt = 0 := by decide
          omega
        rw [if_neg n1, if_pos w, s, Int32.zero_sub, Int32.neg_neg]
      · rw [pk_sub (by omega), if_pos (show (0 : Int32) ≤ nI (tm i - tm j) from nI_le (a := 0) (Nat.zero_le _) (by omega)), if_neg w]
    have gd := gapD_le ti tj
    have fl := fewN_le (gapD (tm i) (tm j)) y z (by omega) gd
    have dl : (gapD (tm i) (tm j) + z) / x ≤ gapD (tm i) (tm j) + z := Nat.div_le_self _ _
    rw [d, P_most_eq (by omega) h1 (by omega) hz, bd_some, P_fewest_eq (by omega) (by omega) h3 hz, bd_some]
    congr 1
    generalize (gapD (tm i) (tm j) + z) / x = A at dl ⊢
    generalize fewN (gapD (tm i) (tm j)) y z = B at fl ⊢
    by_cases w : A < B
    · have s : nI A - nI B = -nI (B - A) := by
        rw [← pk_sub (show A ≤ B by omega), Int32.neg_sub]
      have n1 : nI A - nI B < 0 := by
        rw [s, Int32.lt_iff_toInt_lt, fb_negI (by rw [nI_toInt (by omega)]; omega), nI_toInt (by omega)]
        have : (0 : Int32).toInt = 0 := by decide
        omega
      rw [if_pos n1, Nat.sub_eq_zero_of_le (by omega)]; rfl
    · rw [pk_sub (by omega), if_neg (nI_pos (by omega))]
theorem M_gap_eq (h1 : 1 ≤ x) (h2 : x ≤ y) (h3 : y ≤ 9) (hz : z ≤ 20) (hc : c ≤ 20) {lim : Nat → Int32} (l0 : lim 0 = nI x) (l1 : lim 1 = nI y) (l2 : lim 2 = nI z) (ha : ∀ k, k < c → mt k = nI (tm k) ∧ tm k ≤ 400) {i j : Nat} (hi : i < c) (hj : j < c) : fM_doubtBetween (nI i) (nI j) lim mt = some (nI (gp x y z tm i j)) := by
  have i0 : (0 : Int32).toNatClampNeg = 0 := by decide
  have i1 : (1 : Int32).toNatClampNeg = 1 := by decide
  have i2 : (2 : Int32).toNatClampNeg = 2 := by decide
  have z51 : ∀ d : Nat, d ≤ 400 → fM_doubtBetween_51 (nI d) lim = some (nI ((d + z) / x - fewN d y z)) := by
    intro d hd
    have fl := fewN_le d y z (by omega) hd
    have dl : (d + z) / x ≤ d + z := Nat.div_le_self _ _
    unfold fM_doubtBetween_51
    rw [c32, c30, i0, i1, i2, l0, l1, l2, dz_ne (nI_ne0 (by omega) (by omega)), c31, c32, M_fewestBy_eq (by omega) (by omega) h3 hz, bd_some, nI_add, pk_div (by omega) (by omega) (by omega), nm_eq]
    generalize (d + z) / x = A at dl ⊢
    generalize fewN d y z = B at fl ⊢
    by_cases w : A < B
    · have s : nI A - nI B = -nI (B - A) := by rw [← pk_sub (show A ≤ B by omega), Int32.neg_sub]
      have n1 : ¬ (0 : Int32) ≤ nI A - nI B := by
        rw [s, Int32.le_iff_toInt_le, fb_negI (by rw [nI_toInt (by omega)]; omega), nI_toInt (by omega)]
        have : (0 : Int32).toInt = 0 := by decide
        omega
      rw [if_neg n1, Nat.sub_eq_zero_of_le (by omega)]; rfl
    · rw [pk_sub (by omega), if_pos (show (0 : Int32) ≤ nI (A - B) from nI_le (a := 0) (Nat.zero_le _) (by omega))]
  unfold fM_doubtBetween gp
  by_cases e : i = j
  · rw [if_pos (show nI i = nI j by rw [e]), if_pos e]; rfl
  · have ti := (ha i hi).2
    have tj := (ha j hj).2
    have gd := gapD_le ti tj
    rw [if_neg (neN e (by omega) (by omega)), if_neg e, ck_nI (by omega) (by decide), ck_nI (by omega) (by decide), ck_nI (by omega) (by decide), ck_nI (by omega) (by decide), ck_nI (by omega) (by decide), ck_nI (by omega) (by decide), nI_clamp (by omega), nI_clamp (by omega), (ha i hi).1, (ha j hj).1, ← z51 _ gd]
    unfold gapD
    by_cases w : tm i < tm j
    · rw [if_neg (nI_ge w (by omega)), if_pos w, pk_sub (by omega)]
    · rw [if_pos (nI_le (by omega) (by omega)), if_neg w, pk_sub (by omega)]
end gap
