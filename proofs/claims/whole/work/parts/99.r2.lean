/-! ===== the diary read ===== -/
theorem s1_le {j : Nat} (hj : j < 22) : s1 j ≤ 20 := by unfold s1; split <;> omega
theorem enc_parts {x : Nat} (f : Bool) (hx : x < 440 * 401) : enc x f < 2 ^ 20 ∧ enc x f / 2048 = x / 440 ∧ enc x f / 64 % 32 = x / 22 % 20 ∧ enc x f / 2 % 32 = s1 (x % 22) ∧ enc x f % 2 = (if f then 0 else 1) := by
  have h1 := s1_le (show x % 22 < 22 from Nat.mod_lt _ (by decide))
  have h2 : x / 22 % 20 < 20 := Nat.mod_lt _ (by decide)
  have h3 : x / 440 ≤ 400 := by omega
  unfold enc
  generalize s1 (x % 22) = a at *
  generalize x / 22 % 20 = b at *
  generalize x / 440 = c at *
  cases f
  · simp only [Bool.false_eq_true, if_false]; omega
  · simp only [if_true]; omega
theorem and31N (m : Nat) : nI m &&& 31 = nI (m % 32) := by
  rw [show (31 : Int32) = nI (2 ^ 5 - 1) from rfl, fa_mask]
theorem and1N (m : Nat) : nI m &&& 1 = nI (m % 2) := by
  rw [show (1 : Int32) = nI (2 ^ 1 - 1) from rfl, fa_mask]
theorem D_timeOf_eq {x : Nat} (f : Bool) (hx : x < 440 * 401) : fD_timeOf (nI (enc x f)) = some (nI (x / 440)) := by
  obtain ⟨h1, h2, h3, h4, h5⟩ := enc_parts f hx
  unfold fD_timeOf
  rw [show (11 : Int32) &&& 31 = nI 11 &&& 31 from rfl, shrN (by omega) (by decide), show 2 ^ 11 = 2048 from rfl, h2]
theorem D_sourceOf_eq {x : Nat} (f : Bool) (hx : x < 440 * 401) : fD_sourceOf (nI (enc x f)) = some (srcC (x % 22)) := by
  obtain ⟨h1, h2, h3, h4, h5⟩ := enc_parts f hx
  unfold fD_sourceOf
  have hj : x % 22 < 22 := Nat.mod_lt _ (by decide)
  rw [show (1 : Int32) &&& 31 = nI 1 &&& 31 from rfl, shrN (by omega) (by decide), and31N, show 2 ^ 1 = 2 from rfl, h4, ← srcC_1 hj]
  congr 1
  exact Int32.add_sub_cancel _ _
theorem D_isOf_F {x p : Nat} (f : Bool) (hx : x < 440 * 401) (hp : p < 20) : fD_isOf (nI (enc x f)) (nI p) 0 = some (if (f && decide (x / 22 % 20 = p)) = true then 1 else 0) := by
  obtain ⟨h1, h2, h3, h4, h5⟩ := enc_parts f hx
  unfold fD_isOf
  rw [show (6 : Int32) &&& 31 = nI 6 &&& 31 from rfl, shrN (by omega) (by decide), and31N, and1N, show 2 ^ 6 = 64 from rfl, h3, h5]
  have hq : x / 22 % 20 < 20 := Nat.mod_lt _ (by decide)
  by_cases c : x / 22 % 20 = p
  · rw [if_pos (by rw [c]), decide_eq_true c]
    cases f
    · rw [if_neg (show ¬ nI (if (false : Bool) = true then 0 else 1) = 0 by rw [if_neg (by decide)]; decide), if_neg (by decide)]
    · rw [if_pos (show nI (if (true : Bool) = true then 0 else 1) = 0 by rw [if_pos rfl]; rfl), if_pos (by decide)]
  · rw [if_neg (neN c (by omega) (by omega)), decide_eq_false c, Bool.and_false, if_neg (by decide)]
theorem D_isOf_L {x p : Nat} (f : Bool) (hx : x < 440 * 401) (hp : p < 20) : fD_isOf (nI (enc x f)) (nI p) 1 = some (if (!f && decide (x / 22 % 20 = p)) = true then 1 else 0) := by
  obtain ⟨h1, h2, h3, h4, h5⟩ := enc_parts f hx
  unfold fD_isOf
  rw [show (6 : Int32) &&& 31 = nI 6 &&& 31 from rfl, shrN (by omega) (by decide), and31N, and1N, show 2 ^ 6 = 64 from rfl, h3, h5]
  have hq : x / 22 % 20 < 20 := Nat.mod_lt _ (by decide)
  by_cases c : x / 22 % 20 = p
  · rw [if_pos (by rw [c]), decide_eq_true c]
    cases f
    · rw [if_pos (show nI (if (false : Bool) = true then 0 else 1) = 1 by rw [if_neg (by decide)]; rfl), if_pos (by decide)]
    · rw [if_neg (show ¬ nI (if (true : Bool) = true then 0 else 1) = 1 by rw [if_pos rfl]; decide), if_neg (by decide)]
  · rw [if_neg (neN c (by omega) (by omega)), decide_eq_false c, Bool.and_false, if_neg (by decide)]
theorem o10 (b : Bool) : ((if b = true then (1 : Int32) else 0) = 0) ↔ b = false := by
  cases b
  · exact ⟨fun _ => rfl, fun _ => if_neg (by decide)⟩
  · exact ⟨fun w => by rw [if_pos rfl] at w; exact absurd w (by decide), fun w => by cases w⟩
theorem nI_m1' {k : Nat} (h : 0 < k) : nI k + (-1) = nI (k - 1) := by
  rw [← Int32.sub_eq_add_neg, show (1 : Int32) = nI 1 from rfl, pk_sub h]
section diary
variable {s ne : Nat} {E : Nat → Nat} {Fl : Nat → Bool} {ent : Nat → Int32}
theorem find_go (hE : ∀ i, i < s → E i < 440 * 401) (hD : ∀ i, i < s → ent i = nI (enc (E i) (Fl i))) (hs : s ≤ ne) (hne : ne ≤ 70000) {p : Nat} (hp : p < 20) : ∀ (m i k : Nat), i + m = s → k < 2 ^ 31 → ∀ f, m < f →
    (fb_ct (isF E Fl p) s ≤ fb_ct (isF E Fl p) i + k → fD_findFelt_5 (nI p) (nI s) ne ent f (nI k) (nI i) = some (-1)) ∧ (∀ i', i ≤ i' → i' < s → isF E Fl p i' = true → fb_ct (isF E Fl p) i' = fb_ct (isF E Fl p) i + k → fD_findFelt_5 (nI p) (nI s) ne ent f (nI k) (nI i) = some (nI (enc (E i') true))) := by
  intro m
  induction m with
  | zero =>
    intro i k hi hk f hf
    obtain ⟨f, rfl⟩ : ∃ f', f = f' + 1 := ⟨f - 1, by omega⟩
    refine ⟨fun _ => ?_, fun i' h1 h2 => by omega⟩
    show fD_findFelt_5_b _ _ _ _ _ _ _ = _
    unfold fD_findFelt_5_b
    rw [if_pos (nI_le (show s ≤ i by omega) (by omega))]
  | succ m ih =>
    intro i k hi hk f hf
    obtain ⟨f, rfl⟩ : ∃ f', f = f' + 1 := ⟨f - 1, by omega⟩
    have is : i < s := by omega
    have cs := fb_ct_succ (isF E Fl p) i
    have st : fD_findFelt_5 (nI p) (nI s) ne ent (f + 1) (nI k) (nI i) = (if isF E Fl p i = true then (if k = 0 then some (nI (enc (E i) true)) else fD_findFelt_5 (nI p) (nI s) ne ent f (nI (k - 1)) (nI (i + 1))) else fD_findFelt_5 (nI p) (nI s) ne ent f (nI k) (nI (i + 1))) := by
      show fD_findFelt_5_b _ _ _ _ _ _ _ = _
      unfold fD_findFelt_5_b fD_findFelt_44
      rw [if_neg (nI_ge is (by omega)), ck_nI (by omega) (by omega), nI_clamp (by omega), hD i is, D_isOf_F (Fl i) (hE i is) hp, bd_some, nI_1]
      show (if (if isF E Fl p i = true then (1 : Int32) else 0) = 0 then _ else _) = _
      cases e : isF E Fl p i
      · rw [if_pos ((o10 false).mpr rfl), if_neg (by decide)]
      · rw [if_neg (fun w => by have := (o10 true).mp w; cases this), if_pos rfl]
        have ft : Fl i = true := by
          unfold isF at e
          cases h : Fl i
          · rw [h] at e; cases e
          · rfl
        by_cases c : k = 0
        · rw [c, if_pos rfl, if_pos (show nI 0 = (0 : Int32) from rfl), ck_nI (by omega) (by omega), ft]
        · rw [if_neg c, if_neg (show ¬ nI k = (0 : Int32) from nI_ne0 (by omega) hk), nI_m1' (by omega)]
    rw [st]
    cases e : isF E Fl p i
    · rw [if_neg (by decide)]
      rw [e, if_neg (by decide), Nat.add_zero] at cs
      obtain ⟨g1, g2⟩ := ih (i + 1) k (by omega) hk f (by omega)
      refine ⟨fun h => g1 (by omega), fun i' h1 h2 h3 h4 => ?_⟩
      have : i' ≠ i := fun w => by rw [w, e] at h3; cases h3
      exact g2 i' (by omega) h2 h3 (by omega)
    · rw [if_pos rfl]
      rw [e, if_pos rfl] at cs
      by_cases c : k = 0
      · rw [if_pos c]
        have mo := fb_ct_mono (isF E Fl p) (show i + 1 ≤ s by omega)
        refine ⟨fun h => by omega, fun i' h1 h2 h3 h4 => ?_⟩
        have : i' = i := by
          rcases Nat.eq_or_lt_of_le h1 with w | w
          · exact w.symm
          · have := fb_ct_mono (isF E Fl p) (show i + 1 ≤ i' by omega); omega
        rw [this]
      · rw [if_neg c]
        obtain ⟨g1, g2⟩ := ih (i + 1) (k - 1) (by omega) (by omega) f (by omega)
        refine ⟨fun h => g1 (by omega), fun i' h1 h2 h3 h4 => ?_⟩
        have : i' ≠ i := fun w => by rw [w] at h4; omega
        exact g2 i' (by omega) h2 h3 (by omega)
theorem find_eq (hE : ∀ i, i < s → E i < 440 * 401) (hD : ∀ i, i < s → ent i = nI (enc (E i) (Fl i))) (hs : s ≤ ne) (hne : ne ≤ 70000) {p k : Nat} (hp : p < 20) (hk : k < 2 ^ 31) :
    (fb_ct (isF E Fl p) s ≤ k ∧ fD_findFelt (nI p) (nI k) (nI s) ne ent = some (-1)) ∨ (∃ i, i < s ∧ isF E Fl p i = true ∧ fb_ct (isF E Fl p) i = k ∧ fD_findFelt (nI p) (nI k) (nI s) ne ent = some (nI (enc (E i) true))) := by
  obtain ⟨g1, g2⟩ := find_go hE hD hs hne hp s 0 k (by omega) hk FU (by rw [FU_eq]; omega)
  have z : fb_ct (isF E Fl p) 0 = 0 := rfl
  rcases Nat.lt_or_ge k (fb_ct (isF E Fl p) s) with c | c
  · right
    obtain ⟨i, i1, i2, i3⟩ := fb_ct_kth c
    exact ⟨i, i1, i2, i3, g2 i (Nat.zero_le i) i1 i2 (by omega)⟩
  · left
    exact ⟨c, g1 (by omega)⟩
theorem tally_go (hE : ∀ i, i < s → E i < 440 * 401) (hI : ∀ i k, i < k → k < s → E i < E k) (hD : ∀ i, i < s → ent i = nI (enc (E i) (Fl i))) (hs : s ≤ ne) (hne : ne ≤ 70000) {p τ : Nat} (hp : p < 20) (ht : τ ≤ 400) (P : Nat → Bool) (mk : Int32) (hP : ∀ i, i < s → fD_isOf (nI (enc (E i) (Fl i))) (nI p) mk = some (if P i = true then 1 else 0)) : ∀ (m i : Nat), i + m = s → ∀ f, m < f → fD_tally_6 (nI p) (nI τ) mk (nI s) ne ent f (nI (fb_ct (fun i => P i && decide (E i / 440 ≤ τ)) i)) (nI i) = some (nI (fb_ct (fun i => P i && decide (E i / 440 ≤ τ)) s)) := by
  intro m
  induction m with
  | zero =>
    intro i hi f hf
    obtain ⟨f, rfl⟩ : ∃ f', f = f' + 1 := ⟨f - 1, by omega⟩
    have e : i = s := by omega
    subst e
    show fD_tally_6_b _ _ _ _ _ _ _ _ _ = _
    unfold fD_tally_6_b
    rw [if_pos (nI_le (Nat.le_refl i) (by omega))]
  | succ m ih =>
    intro i hi f hf
    obtain ⟨f, rfl⟩ : ∃ f', f = f' + 1 := ⟨f - 1, by omega⟩
    have is : i < s := by omega
    have cs := fb_ct_succ (fun i => P i && decide (E i / 440 ≤ τ)) i
    have ei := hE i is
    show fD_tally_6_b _ _ _ _ _ _ _ _ _ = _
    unfold fD_tally_6_b fD_tally_47
    rw [if_neg (nI_ge is (by omega)), ck_nI (by omega) (by omega), nI_clamp (by omega), hD i is, D_timeOf_eq (Fl i) ei, bd_some]
    by_cases c : τ < E i / 440
    · rw [if_pos (nI_lt c (by omega))]
      congr 2
      rw [show s = i + (s - i) by omega, fb_ct_split, (fb_ct_zero (n := s - i)).mpr (fun k hk => ?_), Nat.add_zero]
      have : E i ≤ E (i + k) := by
        rcases Nat.eq_zero_or_pos k with w | w
        · rw [w]; exact Nat.le_refl _
        · exact Nat.le_of_lt (hI i (i + k) (by omega) (by omega))
      have : E i / 440 ≤ E (i + k) / 440 := Nat.div_le_div_right this
      rw [decide_eq_false (by omega), Bool.and_false]
    · rw [if_neg (nI_nlt (show E i / 440 ≤ τ by omega) (by omega)), ck_nI (by omega) (by omega), hP i is, bd_some, nI_1, nI_1]
      have d : decide (E i / 440 ≤ τ) = true := decide_eq_true (by omega)
      have r := ih (i + 1) (by omega) f (by omega)
      rw [cs, d, Bool.and_true] at r
      cases e : P i
      · rw [if_pos ((o10 false).mpr rfl)]
        rw [e, if_neg (by decide), Nat.add_zero] at r
        exact r
      · rw [if_neg (fun w => by have := (o10 true).mp w; cases this)]
        rw [e, if_pos rfl] at r
        exact r
theorem tally_F (hE : ∀ i, i < s → E i < 440 * 401) (hI : ∀ i k, i < k → k < s → E i < E k) (hD : ∀ i, i < s → ent i = nI (enc (E i) (Fl i))) (hs : s ≤ ne) (hne : ne ≤ 70000) {p τ : Nat} (hp : p < 20) (ht : τ ≤ 400) : fD_tally (nI p) (nI τ) 0 (nI s) ne ent = some (nI (fb_ct (fun i => isF E Fl p i && decide (E i / 440 ≤ τ)) s)) :=
  tally_go hE hI hD hs hne hp ht (isF E Fl p) 0 (fun i hi => D_isOf_F (Fl i) (hE i hi) hp) s 0 (by omega) FU (by rw [FU_eq]; omega)
theorem tally_L (hE : ∀ i, i < s → E i < 440 * 401) (hI : ∀ i k, i < k → k < s → E i < E k) (hD : ∀ i, i < s → ent i = nI (enc (E i) (Fl i))) (hs : s ≤ ne) (hne : ne ≤ 70000) {p τ : Nat} (hp : p < 20) (ht : τ ≤ 400) : fD_tally (nI p) (nI τ) 1 (nI s) ne ent = some (nI (fb_ct (fun i => isL E Fl p i && decide (E i / 440 ≤ τ)) s)) :=
  tally_go hE hI hD hs hne hp ht (isL E Fl p) 1 (fun i hi => D_isOf_L (Fl i) (hE i hi) hp) s 0 (by omega) FU (by rw [FU_eq]; omega)
end diary
