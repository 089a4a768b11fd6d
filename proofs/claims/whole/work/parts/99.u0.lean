/-! ===== the reference's choices: one step ===== -/
abbrev dbR : Type := Option (Int32 × (Nat → Int32) × (Nat → Int32))
abbrev dbK : Type := Int32 → Int32 → (Nat → Int32) → (Nat → Int32) → dbR
section db
variable {x y z P k : Nat} {tm : Nat → Nat} {lim mt : Nat → Int32}
theorem db_261 (k50 : dbK) (a v s p : Int32) (lim mt pk bp : Nat → Int32) : fM_doubtBy_261 k50 a v s p lim mt pk bp = k50 v s pk bp := rfl
theorem nxt_up {c : Nat → Nat} {i j : Nat} (h : i < j) : nxt c i j = nxt c i (j - 1) + 1 := by
  unfold nxt
  rw [if_neg (by omega), if_neg (by omega)]
  omega
theorem db231 (k50 : dbK) (v pp : Int32) (bp : Nat → Int32) (hk : k ≤ 5) {c : Nat → Nat} {i : Nat} : ∀ (r j : Nat) (pk : Nat → Int32), j + r = k → i < j → (∀ t, t < j → pk t = nI (nxt c i t)) → ∀ f, r < f → ∃ pk2 : Nat → Int32, fM_doubtBy_231 k50 (nI k) v 1 pp lim mt bp f (nI j) pk = k50 v 1 pk2 bp ∧ ∀ t, t < k → pk2 t = nI (nxt c i t) := by
  intro r
  induction r with
  | zero =>
    intro j pk hj hi hp f hf
    obtain ⟨f, rfl⟩ : ∃ f', f = f' + 1 := ⟨f - 1, by omega⟩
    refine ⟨pk, ?_, fun t ht => hp t (by omega)⟩
    show fM_doubtBy_231_b _ _ _ _ _ _ _ _ _ _ _ = _
    unfold fM_doubtBy_231_b
    rw [if_pos (nI_le (show k ≤ j by omega) (by omega)), db_261]
  | succ r ih =>
    intro j pk hj hi hp f hf
    obtain ⟨f, rfl⟩ : ∃ f', f = f' + 1 := ⟨f - 1, by omega⟩
    obtain ⟨pk2, r1, r2⟩ := ih (j + 1) (upd pk j (nI (nxt c i j))) (by omega) (by omega) (fun t ht => by
      by_cases e : t = j
      · subst e; exact pk_us
      · rw [pk_un e]; exact hp t (by omega)) f (by omega)
    refine ⟨pk2, ?_, r2⟩
    show fM_doubtBy_231_b _ _ _ _ _ _ _ _ _ _ _ = _
    unfold fM_doubtBy_231_b
    have e1 : nI j - 1 = nI (j - 1) := pk_sub (b := 1) (by omega)
    rw [if_neg (nI_ge (show j < k by omega) (by omega)), e1, ck_nI (by omega) (by decide), ck_nI (by omega) (by decide), nI_clamp (by omega), nI_clamp (by omega), hp (j - 1) (by omega), nI_1, nI_1, ← nxt_up hi]
    exact r1
/-- the next choice, or none is left -/
theorem db167 (k50 : dbK) (v : Int32) (pk bp : Nat → Int32) (hk : k ≤ 5) (hP : P ≤ 20) (hkP : k + 1 ≤ P) {c : Nat → Nat} (hc : ∀ t, t < k → pk t = nI (c t)) (hV : Vd P k c) : ∀ m, m ≤ k → (∀ j, m ≤ j → j < k → c j + k = P - 1 + j) → ∀ f, m < f → ((∀ j, j < k → c j + k = P - 1 + j) ∧ fM_doubtBy_167 k50 (nI k) v (nI P) lim mt pk bp f (nI m - 1) = k50 v 0 pk bp) ∨ ∃ (i : Nat) (pk2 : Nat → Int32), i < k ∧ c i + k < P - 1 + i ∧ (∀ j, i < j → j < k → c j + k = P - 1 + j) ∧ (∀ t, t < k → pk2 t = nI (nxt c i t)) ∧ fM_doubtBy_167 k50 (nI k) v (nI P) lim mt pk bp f (nI m - 1) = k50 v 1 pk2 bp := by
  intro m
  induction m with
  | zero =>
    intro hm hj f hf
    obtain ⟨f, rfl⟩ : ∃ f', f = f' + 1 := ⟨f - 1, by omega⟩
    refine Or.inl ⟨fun j h => hj j (Nat.zero_le j) h, ?_⟩
    show fM_doubtBy_167_b _ _ _ _ _ _ _ _ _ _ = _
    unfold fM_doubtBy_167_b fM_doubtBy_199 fM_doubtBy_209
    rw [if_pos (show nI 0 - 1 < (0 : Int32) by decide), if_pos (show nI 0 - 1 < (0 : Int32) by decide), if_pos rfl, db_261]
  | succ m ih =>
    intro hm hj f hf
    obtain ⟨f, rfl⟩ : ∃ f', f = f' + 1 := ⟨f - 1, by omega⟩
    have e1 : nI (m + 1) - 1 = nI m := pk_sub (a := m + 1) (b := 1) (by omega)
    have e2 : nI P - 1 - nI k + nI m = nI (P - 1 - k + m) := by
      rw [show nI P - 1 = nI (P - 1) from pk_sub (b := 1) (by omega), pk_sub (by omega), nI_add]
    have bc := hV.1 m (by omega)
    by_cases q : c m + k = P - 1 + m
    · have st : fM_doubtBy_167 k50 (nI k) v (nI P) lim mt pk bp (f + 1) (nI (m + 1) - 1) = fM_doubtBy_167 k50 (nI k) v (nI P) lim mt pk bp f (nI m - 1) := by
        show fM_doubtBy_167_b _ _ _ _ _ _ _ _ _ _ = _
        unfold fM_doubtBy_167_b
        rw [e1, if_neg (nI_pos (by omega)), ck_nI (by omega) (by decide), nI_clamp (by omega), hc m (by omega), e2, if_pos (show nI (c m) = nI (P - 1 - k + m) by congr 1; omega), Int32.sub_eq_add_neg (nI m) 1]
      rw [st]
      refine ih (by omega) (fun j h1 h2 => ?_) f (by omega)
      by_cases w : j = m
      · subst w; exact q
      · exact hj j (by omega) h2
    · obtain ⟨pk2, r1, r2⟩ := db231 (lim := lim) (mt := mt) k50 v (nI P) bp hk (c := c) (i := m) (k - (m + 1)) (m + 1) (upd pk m (nI (c m + 1))) (by omega) (by omega) (fun t ht => by
        unfold nxt
        by_cases e : t = m
        · subst e; rw [pk_us, if_neg (by omega)]; congr 1; omega
        · rw [pk_un e, if_pos (by omega)]; exact hc t (by omega)) FU (by rw [FU_eq]; omega)
      refine Or.inr ⟨m, pk2, by omega, by omega, fun j h1 h2 => hj j (by omega) h2, r2, ?_⟩
      show fM_doubtBy_167_b _ _ _ _ _ _ _ _ _ _ = _
      unfold fM_doubtBy_167_b fM_doubtBy_199 fM_doubtBy_209
      rw [e1, if_neg (nI_pos (by omega)), ck_nI (by omega) (by decide), nI_clamp (by omega), hc m (by omega), e2, if_neg (show ¬ nI (c m) = nI (P - 1 - k + m) from neN (by omega) (by omega) (by omega)), if_neg (nI_pos (by omega)), if_neg (by decide), ck_nI (by omega) (by decide), ck_nI (by omega) (by decide), nI_1, nI_1]
      exact r1
theorem db136 (k50 : dbK) (v pp : Int32) (pk : Nat → Int32) (hk : k ≤ 5) {c : Nat → Nat} (hc : ∀ t, t < k → pk t = nI (c t)) : ∀ (m j : Nat) (bp : Nat → Int32), j + m = k → (∀ t, t < j → bp t = nI (c t)) → ∀ f, m < f → ∃ bp2 : Nat → Int32, fM_doubtBy_136 k50 (nI k) v pp lim mt pk f (nI j) bp = fM_doubtBy_162 k50 (nI k) v pp lim mt pk bp2 ∧ ∀ t, t < k → bp2 t = nI (c t) := by
  intro m
  induction m with
  | zero =>
    intro j bp hj hb f hf
    obtain ⟨f, rfl⟩ : ∃ f', f = f' + 1 := ⟨f - 1, by omega⟩
    refine ⟨bp, ?_, fun t ht => hb t (by omega)⟩
    show fM_doubtBy_136_b _ _ _ _ _ _ _ _ _ _ = _
    unfold fM_doubtBy_136_b
    rw [if_pos (nI_le (show k ≤ j by omega) (by omega))]
  | succ m ih =>
    intro j bp hj hb f hf
    obtain ⟨f, rfl⟩ : ∃ f', f = f' + 1 := ⟨f - 1, by omega⟩
    obtain ⟨bp2, r1, r2⟩ := ih (j + 1) (upd bp j (nI (c j))) (by omega) (fun t ht => by
      by_cases e : t = j
      · subst e; exact pk_us
      · rw [pk_un e]; exact hb t (by omega)) f (by omega)
    refine ⟨bp2, ?_, r2⟩
    show fM_doubtBy_136_b _ _ _ _ _ _ _ _ _ _ = _
    unfold fM_doubtBy_136_b
    rw [if_neg (nI_ge (show j < k by omega) (by omega)), ck_nI (by omega) (by decide), ck_nI (by omega) (by decide), nI_clamp (by omega), hc j (by omega), nI_1]
    exact r1
theorem db63 (h1 : 1 ≤ x) (h2 : x ≤ y) (h3 : y ≤ 9) (hz : z ≤ 20) (hP0 : 0 < P) (hP : P ≤ 20) (l0 : lim 0 = nI x) (l1 : lim 1 = nI y) (l2 : lim 2 = nI z) (ha : ∀ k, k < P → mt k = nI (tm k) ∧ tm k ≤ 400) (k50 : dbK) (v : Int32) (pk bp : Nat → Int32) (hk : k ≤ 5) {c : Nat → Nat} (hc : ∀ t, t < k → pk t = nI (c t)) (hcP : ∀ t, t < k → c t < P) : ∀ (m j s i : Nat), j + m = k → i < P → ∀ f, m < f → fM_doubtBy_63 k50 (nI k) v (nI P) lim mt pk bp f (nI s) (nI i) (nI j) = (if v = (-1) then fM_doubtBy_130 k50 (nI k) (nI (s + cst (gp x y z tm) (P - 1) m i (fun t => c (j + t)))) (nI P) lim mt pk bp else (if v ≤ nI (s + cst (gp x y z tm) (P - 1) m i (fun t => c (j + t))) then fM_doubtBy_162 k50 (nI k) v (nI P) lim mt pk bp else fM_doubtBy_130 k50 (nI k) (nI (s + cst (gp x y z tm) (P - 1) m i (fun t => c (j + t)))) (nI P) lim mt pk bp)) := by
  intro m
  induction m with
  | zero =>
    intro j s i hj hi f hf
    obtain ⟨f, rfl⟩ : ∃ f', f = f' + 1 := ⟨f - 1, by omega⟩
    show fM_doubtBy_63_b _ _ _ _ _ _ _ _ _ _ _ _ = _
    unfold fM_doubtBy_63_b
    rw [if_pos (nI_le (show k ≤ j by omega) (by omega)), show nI P - 1 = nI (P - 1) from pk_sub (b := 1) (by omega), M_gap_eq h1 h2 h3 hz hP l0 l1 l2 ha hi (show P - 1 < P by omega), bd_some, nI_add]
    rfl
  | succ m ih =>
    intro j s i hj hi f hf
    obtain ⟨f, rfl⟩ : ∃ f', f = f' + 1 := ⟨f - 1, by omega⟩
    have e : s + cst (gp x y z tm) (P - 1) (m + 1) i (fun t => c (j + t)) = s + gp x y z tm i (c j) + cst (gp x y z tm) (P - 1) m (c j) (fun t => c (j + 1 + t)) := by
      show s + (gp x y z tm i (c j) + cst (gp x y z tm) (P - 1) m (c j) (fun t => c (j + (t + 1)))) = _
      rw [Nat.add_assoc]
      congr 2
      exact cst_cong (fun t _ => by show c (j + (t + 1)) = c (j + 1 + t); congr 1; omega)
    rw [e, ← ih (j + 1) (s + gp x y z tm i (c j)) (c j) (by omega) (hcP j (by omega)) f (by omega)]
    show fM_doubtBy_63_b _ _ _ _ _ _ _ _ _ _ _ _ = _
    unfold fM_doubtBy_63_b
    rw [if_neg (nI_ge (show j < k by omega) (by omega)), ck_nI (by omega) (by decide), nI_clamp (by omega), hc j (by omega), M_gap_eq h1 h2 h3 hz hP l0 l1 l2 ha hi (hcP j (by omega)), bd_some, ck_nI (by omega) (by decide), nI_add, nI_1]
end db
