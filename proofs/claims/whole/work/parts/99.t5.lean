/-! ===== the class's posts are these ===== -/
section cls
variable {x y z P : Nat} {tm : Nat → Nat} {at_ : Nat → Int32}
theorem through_eq (h1 : 1 ≤ x) (h2 : x ≤ y) (h3 : y ≤ 9) (hz : z ≤ 20) (hP : P ≤ 20) (ha : ∀ k, k < P → at_ k = nI (tm k) ∧ tm k ≤ 400) {k i j : Nat} (hk : k ≤ 4) (hi : i < P) (hj : j < P) {L : Nat → Nat} {lea : Nat → Int32} (hL : lea (20 * k + j) = nI (L j)) : fP_throughNext (nI i) (nI j) (nI (k + 1)) (nI x) (nI y) (nI z) at_ lea = some (nI (gp x y z tm i j + L j)) := by
  unfold fP_throughNext
  have e : (nI (k + 1) - 1) * 20 + nI j = nI (20 * k + j) := by
    rw [show (1 : Int32) = nI 1 from rfl, pk_sub (by omega), show (20 : Int32) = nI 20 from rfl, pk_mul, nI_add]
    congr 1
    omega
  rw [P_gap_eq h1 h2 h3 hz hP ha hi hj, bd_some, e, ck_nI (by omega) (by decide), nI_clamp (by omega), hL, nI_add]
theorem nextP_eq (h1 : 1 ≤ x) (h2 : x ≤ y) (h3 : y ≤ 9) (hz : z ≤ 20) (hP : P ≤ 20) (ha : ∀ k, k < P → at_ k = nI (tm k) ∧ tm k ≤ 400) {k i : Nat} (hk : k ≤ 4) (hi : i + 1 + k < P - 1) {lea : Nat → Int32} (hL : ∀ j, j + k < P - 1 → lea (20 * k + j) = nI (lst (gp x y z tm) (P - 1) k j)) (hb : ∀ j, j + k < P - 1 → lst (gp x y z tm) (P - 1) k j < 2 ^ 20) : fP_nextPost (nI i) (nI (k + 1)) (nI P) (nI x) (nI y) (nI z) at_ lea = some (nI (nex (gp x y z tm) (P - 1) k i)) := by
  have go : ∀ (m b j : Nat), j + m = P - 1 - k → i < b → b < j → ∀ f, m < f → fP_nextPost_9 (nI i) (nI (k + 1)) (nI P) (nI x) (nI y) (nI z) at_ lea f (nI b) (nI j) = some (nI (scn (fun w => gp x y z tm i w + lst (gp x y z tm) (P - 1) k w) m b j)) := by
    intro m
    induction m with
    | zero =>
      intro b j hj hb1 hb2 f hf
      obtain ⟨f, rfl⟩ : ∃ f', f = f' + 1 := ⟨f - 1, by omega⟩
      show fP_nextPost_9_b _ _ _ _ _ _ _ _ _ _ _ = _
      unfold fP_nextPost_9_b
      rw [nI_add, show (1 : Int32) = nI 1 from rfl, pk_sub (by omega), pk_sub (by omega), if_pos (nI_le (by omega) (by omega))]
      rfl
    | succ m ih =>
      intro b j hj hb1 hb2 f hf
      obtain ⟨f, rfl⟩ : ∃ f', f = f' + 1 := ⟨f - 1, by omega⟩
      have bj := hb j (by omega)
      have bb := hb b (by omega)
      have gj := gp_le (y := y) h1 hz (fun k hk => (ha k hk).2) (show i < P by omega) (show j < P by omega)
      have gb := gp_le (y := y) h1 hz (fun k hk => (ha k hk).2) (show i < P by omega) (show b < P by omega)
      show fP_nextPost_9_b _ _ _ _ _ _ _ _ _ _ _ = _
      unfold fP_nextPost_9_b fP_nextPost_45
      rw [nI_add, show (1 : Int32) = nI 1 from rfl, pk_sub (by omega), pk_sub (by omega), if_neg (nI_ge (by omega) (by omega)), through_eq h1 h2 h3 hz hP ha hk (by omega) (by omega) (hL j (by omega)), bd_some, through_eq h1 h2 h3 hz hP ha hk (by omega) (by omega) (hL b (by omega)), bd_some, nI_add]
      show _ = some (nI (scn (fun w => gp x y z tm i w + lst (gp x y z tm) (P - 1) k w) m (if gp x y z tm i j + lst (gp x y z tm) (P - 1) k j < gp x y z tm i b + lst (gp x y z tm) (P - 1) k b then j else b) (j + 1)))
      by_cases c : gp x y z tm i j + lst (gp x y z tm) (P - 1) k j < gp x y z tm i b + lst (gp x y z tm) (P - 1) k b
      · rw [if_neg (nI_ge c (by omega)), if_pos c]
        exact ih j (j + 1) (by omega) (by omega) (by omega) f (by omega)
      · rw [if_pos (nI_le (by omega) (by omega)), if_neg c]
        exact ih b (j + 1) (by omega) hb1 (by omega) f (by omega)
  unfold fP_nextPost nex
  rw [nI_1, show nI i + 2 = nI (i + 2) from nI_add i 2]
  exact go (P - 1 - k - (i + 2)) (i + 1) (i + 2) (by omega) (by omega) (by omega) FU (by rw [FU_eq]; omega)
end cls
