/-! ===== the class's work, whole ===== -/
theorem room_eq {k P : Nat} (hk : k ≤ 5) (hP : P ≤ 20) : fP_hasRoomFor (nI k) (nI P) = some (if (k = 0 ∧ 0 < P) ∨ (0 < k ∧ k + 2 ≤ P) then 1 else 0) := by
  unfold fP_hasRoomFor
  by_cases e : k = 0
  · rw [if_pos (show nI k = 0 by rw [e]; rfl)]
    by_cases c : 0 < P
    · rw [if_neg (show ¬ nI P ≤ 0 from nI_ge (a := 0) c (by omega)), if_pos (Or.inl ⟨e, c⟩)]
    · rw [if_pos (show nI P ≤ 0 from nI_le (b := 0) (by omega) (by decide)), if_neg (by omega)]
  · rw [if_neg (show ¬ nI k = 0 from nI_ne0 (by omega) (by omega))]
    have lt : (nI P - 2 < nI k) ↔ P < k + 2 := by
      rcases Nat.lt_or_ge P 2 with w | w
      · rcases (show P = 0 ∨ P = 1 by omega) with q | q
        · subst q
          exact ⟨fun _ => by omega, fun _ => neg_le_nI (show nI 0 - 2 < 0 by decide) k (by omega)⟩
        · subst q
          exact ⟨fun _ => by omega, fun _ => neg_le_nI (show nI 1 - 2 < 0 by decide) k (by omega)⟩
      · rw [show (2 : Int32) = nI 2 from rfl, pk_sub w, nI_ltI (by omega) (by omega)]
        omega
    by_cases c : k + 2 ≤ P
    · rw [if_neg (fun w => by have := lt.mp w; omega), if_pos (Or.inr ⟨by omega, c⟩)]
    · rw [if_pos (lt.mpr (by omega)), if_neg (by omega)]
section wk
variable {x y z P : Nat} {tm : Nat → Nat} {at_ : Nat → Int32}
theorem work35_go (h1 : 1 ≤ x) (h2 : x ≤ y) (h3 : y ≤ 9) (hz : z ≤ 20) (hP : P ≤ 20) (ha : ∀ k, k < P → at_ k = nI (tm k) ∧ tm k ≤ 400) {a : Nat} (hA : a ≤ 5) : ∀ (m k : Nat) (lea : Nat → Int32), k + m = a → TabR (gp x y z tm) P (k + 1) lea → ∀ f, m < f → ∃ lea2 : Nat → Int32, fP_work_35 (nI a) (nI P) (nI x) (nI y) (nI z) at_ f (nI (k + 1)) lea = some lea2 ∧ (∀ k', k' ≤ a → k' ≤ k ∨ k' + 2 ≤ P → TabR (gp x y z tm) P (k' + 1) lea2) ∧ (P = 1 → lea2 = lea) := by
  intro m
  induction m with
  | zero =>
    intro k lea hk hT f hf
    obtain ⟨f, rfl⟩ : ∃ f', f = f' + 1 := ⟨f - 1, by omega⟩
    refine ⟨lea, ?_, fun k' h _ => fun q j hq hj => hT q j (by omega) hj, fun _ => rfl⟩
    show fP_work_35_b _ _ _ _ _ _ _ _ _ = _
    unfold fP_work_35_b
    rw [if_pos (nI_lt (show a < k + 1 by omega) (by omega))]
  | succ m ih =>
    intro k lea hk hT f hf
    obtain ⟨f, rfl⟩ : ∃ f', f = f' + 1 := ⟨f - 1, by omega⟩
    have st : fP_work_35 (nI a) (nI P) (nI x) (nI y) (nI z) at_ (f + 1) (nI (k + 1)) lea = (if k + 1 + 2 ≤ P then fP_work_50 (fP_work_35 (nI a) (nI P) (nI x) (nI y) (nI z) at_ f) (nI a) (nI (k + 1)) (nI P) (nI x) (nI y) (nI z) at_ FU 0 lea else some lea) := by
      show fP_work_35_b _ _ _ _ _ _ _ _ _ = _
      unfold fP_work_35_b
      rw [if_neg (nI_nlt (show k + 1 ≤ a by omega) (by omega)), room_eq (by omega) hP, bd_some]
      by_cases c : k + 1 + 2 ≤ P
      · rw [if_pos (show (k + 1 = 0 ∧ 0 < P) ∨ (0 < k + 1 ∧ k + 1 + 2 ≤ P) from Or.inr ⟨by omega, c⟩), if_neg (by decide), if_pos c]
      · rw [if_neg (show ¬ ((k + 1 = 0 ∧ 0 < P) ∨ (0 < k + 1 ∧ k + 1 + 2 ≤ P)) by omega), if_pos rfl, if_neg c]
    rw [st]
    by_cases c : k + 1 + 2 ≤ P
    · rw [if_pos c]
      obtain ⟨lea2, r1, r2⟩ := work50_go h1 h2 h3 hz hP ha (nI a) (show k ≤ 4 by omega) (show k + 1 ≤ P - 2 by omega) (fP_work_35 (nI a) (nI P) (nI x) (nI y) (nI z) at_ f) (P - 1 - (k + 1)) 0 lea (by omega) hT (fun j hj => absurd hj (Nat.not_lt_zero j)) FU (by rw [FU_eq]; omega)
      obtain ⟨lea3, w1, w2, w3⟩ := ih (k + 1) lea2 (by omega) r2 f (by omega)
      exact ⟨lea3, r1.trans w1, fun k' h q => w2 k' h (by omega), fun e => by omega⟩
    · rw [if_neg c]
      exact ⟨lea, rfl, fun k' h q => fun w j hw hj => hT w j (by omega) hj, fun _ => rfl⟩
end wk
