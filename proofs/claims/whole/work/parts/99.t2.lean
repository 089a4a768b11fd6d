/-! ===== the doubt between two posts ===== -/
def gapD (a b : Nat) : Nat := if a < b then b - a else a - b
def gp (x y z : Nat) (tm : Nat → Nat) (i j : Nat) : Nat := if i = j then 0 else (gapD (tm i) (tm j) + z) / x - fewN (gapD (tm i) (tm j)) y z
section gap
variable {x y z c : Nat} {tm : Nat → Nat} {at_ mt : Nat → Int32}
theorem gapD_le {a b : Nat} (ha : a ≤ 400) (hb : b ≤ 400) : gapD a b ≤ 400 := by unfold gapD; split <;> omega
theorem gp_le (h1 : 1 ≤ x) (hz : z ≤ 20) (ht : ∀ k, k < c → tm k ≤ 400) {i j : Nat} (hi : i < c) (hj : j < c) : gp x y z tm i j ≤ 420 := by
  unfold gp
  split
  · omega
  · have := gapD_le (ht i hi) (ht j hj)
    have : (gapD (tm i) (tm j) + z) / x ≤ gapD (tm i) (tm j) + z := Nat.div_le_self _ _
    omega
theorem fewN_le (t b e : Nat) (h1 : 1 ≤ b) (ht : t ≤ 400) : fewN t b e ≤ 410 + b := by
  unfold fewN
  have : (t - e + b - 1) / b ≤ t - e + b - 1 := Nat.div_le_self _ _
  omega
theorem P_gap_eq (h1 : 1 ≤ x) (h2 : x ≤ y) (h3 : y ≤ 9) (hz : z ≤ 20) (hc : c ≤ 20) (ha : ∀ k, k < c → at_ k = nI (tm k) ∧ tm k ≤ 400) {i j : Nat} (hi : i < c) (hj : j < c) : fP_gap (nI i) (nI j) (nI x) (nI y) (nI z) at_ = some (nI (gp x y z tm i j)) := by
  unfold fP_gap gp
  by_cases e : i = j
  · rw [if_pos (show nI i = nI j by rw [e]), if_pos e]; rfl
  · rw [if_neg (neN e (by omega) (by omega)), if_neg e, ck_nI (by omega) (by decide), ck_nI (by omega) (by decide), nI_clamp (by omega), nI_clamp (by omega), (ha i hi).1, (ha j hj).1, nm_eq]
    have ti := (ha i hi).2
    have tj := (ha j hj).2
    have d : (if (0 : Int32) ≤ nI (tm i) - nI (tm j) then nI (tm i) - nI (tm j) else 0 - (nI (tm i) - nI (tm j))) = nI (gapD (tm i) (tm j)) := by
      unfold gapD
      by_cases w : tm i < tm j
      · have s : nI (tm i) - nI (tm j) = -nI (tm j - tm i) := by
          rw [← pk_sub (show tm i ≤ tm j by omega), Int32.neg_sub]
        have n1 : ¬ (0 : Int32) ≤ nI (tm i) - nI (tm j) := by
          rw [s, Int32.le_iff_toInt_le, fb_negI (by rw [nI_toInt (by omega)]; omega), nI_toInt (by omega)]
          have : (0 : Int32).toInt = 0 := by decide
          omega
        rw [if_neg n1, if_pos w, s, Int32.zero_sub, Int32.neg_neg]
      · rw [pk_sub (by omega), if_pos (show (0 : Int32) ≤ nI (tm i - tm j) from nI_le (a := 0) (Nat.zero_le _) (by omega)), if_neg w]
    have gd := gapD_le ti tj
    have fl := fewN_le (gapD (tm i) (tm j)) y z (by omega) gd
    have dl : (gapD (tm i) (tm j) + z) / x ≤ gapD (tm i) (tm j) + z := Nat.div_le_self _ _
    rw [d, P_most_eq (by omega) h1 (by omega) hz, bd_some, P_fewest_eq (by omega) (by omega) h3 hz, bd_some]
    congr 1
    by_cases w : (gapD (tm i) (tm j) + z) / x < fewN (gapD (tm i) (tm j)) y z
    · have s : nI ((gapD (tm i) (tm j) + z) / x) - nI (fewN (gapD (tm i) (tm j)) y z) = -nI (fewN (gapD (tm i) (tm j)) y z - (gapD (tm i) (tm j) + z) / x) := by
        rw [← pk_sub (show (gapD (tm i) (tm j) + z) / x ≤ fewN (gapD (tm i) (tm j)) y z by omega), Int32.neg_sub]
      have n1 : nI ((gapD (tm i) (tm j) + z) / x) - nI (fewN (gapD (tm i) (tm j)) y z) < 0 := by
        rw [s, Int32.lt_iff_toInt_lt, fb_negI (by rw [nI_toInt (by omega)]; omega), nI_toInt (by omega)]
        have : (0 : Int32).toInt = 0 := by decide
        omega
      rw [if_pos n1, Nat.sub_eq_zero_of_le (by omega)]; rfl
    · rw [pk_sub (by omega), if_neg (nI_pos (by omega))]
end gap
