/-! ===== the digest: helpers ===== -/
abbrev digC : Type := Int64 × Int32 × Int32 × Int32 × Int32 × (Nat → Int32) × (Nat → Int32) × (Nat → Int32) × (Nat → Int32) × (Nat → Int32) × Int32 × Nat × (Nat → Int32) × Int32 × Int32 × Int32 × (Nat → Int32) × (Nat → Int32) × (Nat → Int32) × (Nat → Int32) × (Nat → Int32) × Int32 × Int32 × Int32 × Int32 × Int32 × (Nat → Int32) × Int32 × (Nat → Int32) × (Nat → Int32) × (Nat → Int32) × (Nat → Int32)
abbrev digM : Type := Int64 × Int32 × Int32 × (Nat → Int32) × (Nat → Int32) × (Nat → Int32) × (Nat → Int32) × (Nat → Int32) × (Nat → Int32) × (Nat → Int32) × (Nat → Int32) × (Nat → Int32) × (Nat → Int32) × (Nat → Int32) × (Nat → Int32) × (Nat → Int32) × (Nat → Int32) × (Nat → Int32) × (Nat → Int32) × (Nat → Int32) × (Nat → Int32)
def QD (ci : Nat → Int32) (ca : Nat → Nat → Int32) (mi : Nat → Int32) (ma : Nat → Nat → Int32) (U : digC) (V : digM) : Prop := U.1 = V.1 ∧ RelB (lsI [(ci 0), (ci 1), (ci 2), U.2.1, (ci 4), (ci 5), (ci 6), (ci 7), (ci 8), (ci 9), U.2.2.1, U.2.2.2.1, U.2.2.2.2.1, U.2.2.2.2.2.2.2.2.2.2.1, U.2.2.2.2.2.2.2.2.2.2.2.2.2.1, U.2.2.2.2.2.2.2.2.2.2.2.2.2.2.1, U.2.2.2.2.2.2.2.2.2.2.2.2.2.2.2.1, U.2.2.2.2.2.2.2.2.2.2.2.2.2.2.2.2.2.2.2.2.2.1, U.2.2.2.2.2.2.2.2.2.2.2.2.2.2.2.2.2.2.2.2.2.2.1, U.2.2.2.2.2.2.2.2.2.2.2.2.2.2.2.2.2.2.2.2.2.2.2.1, U.2.2.2.2.2.2.2.2.2.2.2.2.2.2.2.2.2.2.2.2.2.2.2.2.1, U.2.2.2.2.2.2.2.2.2.2.2.2.2.2.2.2.2.2.2.2.2.2.2.2.2.1, U.2.2.2.2.2.2.2.2.2.2.2.2.2.2.2.2.2.2.2.2.2.2.2.2.2.2.2.1, (ci 23), (ci 24), (ci 25), (ci 26), (ci 27), (ci 28)]) (lsA [(ca 0), (ca 1), (ca 2), (ca 3), (ca 4), (ca 5), (ca 6), U.2.2.2.2.2.1, U.2.2.2.2.2.2.1, U.2.2.2.2.2.2.2.1, U.2.2.2.2.2.2.2.2.1, U.2.2.2.2.2.2.2.2.2.1, U.2.2.2.2.2.2.2.2.2.2.2.2.1, U.2.2.2.2.2.2.2.2.2.2.2.2.2.2.2.2.1, U.2.2.2.2.2.2.2.2.2.2.2.2.2.2.2.2.2.1, U.2.2.2.2.2.2.2.2.2.2.2.2.2.2.2.2.2.2.1, U.2.2.2.2.2.2.2.2.2.2.2.2.2.2.2.2.2.2.2.1, U.2.2.2.2.2.2.2.2.2.2.2.2.2.2.2.2.2.2.2.2.1, U.2.2.2.2.2.2.2.2.2.2.2.2.2.2.2.2.2.2.2.2.2.2.2.2.2.2.1, U.2.2.2.2.2.2.2.2.2.2.2.2.2.2.2.2.2.2.2.2.2.2.2.2.2.2.2.2.1, U.2.2.2.2.2.2.2.2.2.2.2.2.2.2.2.2.2.2.2.2.2.2.2.2.2.2.2.2.2.1, U.2.2.2.2.2.2.2.2.2.2.2.2.2.2.2.2.2.2.2.2.2.2.2.2.2.2.2.2.2.2.1, (ca 22), (ca 23), (ca 24), (ca 25), (ca 26), U.2.2.2.2.2.2.2.2.2.2.2.2.2.2.2.2.2.2.2.2.2.2.2.2.2.2.2.2.2.2.2, (ca 28), (ca 29), (ca 30)]) U.2.2.2.2.2.2.2.2.2.2.2.1 (lsI [(mi 0), V.2.1, V.2.2.1, (mi 3), (mi 4), (mi 5)]) (lsA [(ma 0), V.2.2.2.1, V.2.2.2.2.1, V.2.2.2.2.2.1, V.2.2.2.2.2.2.1, V.2.2.2.2.2.2.2.1, V.2.2.2.2.2.2.2.2.1, V.2.2.2.2.2.2.2.2.2.1, V.2.2.2.2.2.2.2.2.2.2.1, V.2.2.2.2.2.2.2.2.2.2.2.1, (ma 10), (ma 11), V.2.2.2.2.2.2.2.2.2.2.2.2.1, V.2.2.2.2.2.2.2.2.2.2.2.2.2.1, V.2.2.2.2.2.2.2.2.2.2.2.2.2.2.1, V.2.2.2.2.2.2.2.2.2.2.2.2.2.2.2.1, V.2.2.2.2.2.2.2.2.2.2.2.2.2.2.2.2.1, V.2.2.2.2.2.2.2.2.2.2.2.2.2.2.2.2.2.1, V.2.2.2.2.2.2.2.2.2.2.2.2.2.2.2.2.2.2.1, V.2.2.2.2.2.2.2.2.2.2.2.2.2.2.2.2.2.2.2.1, V.2.2.2.2.2.2.2.2.2.2.2.2.2.2.2.2.2.2.2.2, (ma 21), (ma 22), (ma 23), (ma 24), (ma 25), (ma 26), (ma 27), (ma 28), (ma 29), (ma 30)])
theorem bd_id {α : Type} {o : Option α} {v : α} (h : bd o (fun u => some u) = some v) : o = some v := by
  cases o with
  | none => exact h
  | some x => exact h
theorem dg_bm {α β γ δ : Type} {n0 : Nat} {f : β → Nat} {g : α → Nat} {o : Option β} {x : β} {k : β → Option α} {om : Option γ} {w : γ} {km : γ → Option δ} {Q : α → δ → Prop} (hx : o = some x) (hw : om = some w) (hle : n0 ≤ f x) (h : ∃ U V, k x = some U ∧ km w = some V ∧ f x ≤ g U ∧ Q U V) : ∃ U V, bm n0 f g o k = some U ∧ bd om km = some V ∧ n0 ≤ g U ∧ Q U V := by
  obtain ⟨U, V, h1, h2, h3, h4⟩ := h
  refine ⟨U, V, ?_, ?_, Nat.le_trans hle h3, h4⟩
  · rw [hx]; exact bm_some h1 hle h3
  · rw [hw]; exact h2
theorem dg_bd {α β γ δ : Type} {o : Option β} {x : β} {k : β → Option α} {om : Option γ} {w : γ} {km : γ → Option δ} {Q : α → δ → Prop} (hx : o = some x) (hw : om = some w) (h : ∃ U V, k x = some U ∧ km w = some V ∧ Q U V) : ∃ U V, bd o k = some U ∧ bd om km = some V ∧ Q U V := by
  obtain ⟨U, V, h1, h2, h3⟩ := h
  refine ⟨U, V, ?_, ?_, h3⟩
  · rw [hx]; exact h1
  · rw [hw]; exact h2
theorem of_person {people scarves main : Int32} {K L H S K1 L1 C1 H1 R1 M1 : Nat → Int32} (hPar : ParR people scarves main K L H S K1 L1 C1 H1 R1 M1) {n p j : Nat} (hn : people = nI n) (hn20 : n ≤ 20) (hp : p < n) (hj : j ≤ 4) : ∃ r : Int32, fC_person (nI p) (nI j) people scarves main K L H = some r ∧ fM_personOf (nI p) (nI j) K1 L1 C1 H1 M1 = some r := by
  obtain ⟨n', sc, mn, hd, sl, rg, kd, lt, q1, q2, q3, q4, q5, q6, q7⟩ := hPar
  have en := nIn q4.1 hn20 (q1.symm.trans hn)
  subst en
  obtain ⟨r1, r2, r3, r4⟩ := q6 p hp
  obtain ⟨t1, t2, t3⟩ := q7
  obtain ⟨t4, t5, t6, t7⟩ := t3 p hp
  have z1 : ¬ (1 : Int32) = 0 := by decide
  have c20 : ∀ {α : Type} (x : Option α), ck 20 (nI p) x = x := fun x => ck_nI (by omega) (by decide)
  have clp : (nI p).toNatClampNeg = p := nI_clamp (by omega)
  have scl : sc < 2 ^ 31 := Nat.lt_of_lt_of_le q4.2.1 (Nat.pow_le_pow_right (by decide) (by omega))
  have mnl : mn < 2 ^ 31 := Nat.lt_of_lt_of_le q4.2.2.1 (Nat.pow_le_pow_right (by decide) (by omega))
  unfold fC_person fM_personOf
  rw [C_isP hp hn20 hn, bd_some, if_neg z1, q2 (by omega), q3, bitN scl (by omega), bitN mnl (by omega)]
  simp only [c20, clp, r1, r3, r4, t4, t5, t6, t7, t1 p hp]
  rcases (show j = 0 ∨ j = 1 ∨ j = 2 ∨ j = 3 ∨ j = 4 by omega) with rfl | rfl | rfl | rfl | rfl
  · exact ⟨_, if_pos rfl, if_pos rfl⟩
  · refine ⟨_, (if_neg (by decide)).trans (if_pos rfl), (if_neg (by decide)).trans (if_pos rfl)⟩
  · refine ⟨_, (if_neg (by decide)).trans ((if_neg (by decide)).trans (if_pos rfl)), (if_neg (by decide)).trans ((if_neg (by decide)).trans (if_pos rfl))⟩
  · refine ⟨_, (if_neg (by decide)).trans ((if_neg (by decide)).trans ((if_neg (by decide)).trans (if_pos rfl))), (if_neg (by decide)).trans ((if_neg (by decide)).trans ((if_neg (by decide)).trans (if_pos rfl)))⟩
  · refine ⟨_, (if_neg (by decide)).trans ((if_neg (by decide)).trans ((if_neg (by decide)).trans ((if_neg (by decide)).trans (if_pos rfl)))), (if_neg (by decide)).trans ((if_neg (by decide)).trans ((if_neg (by decide)).trans (if_neg (by decide))))⟩
theorem dg308 : ∀ (m j : Nat) (ci : Nat → Int32) (ca : Nat → Nat → Int32) (ne : Nat) (mi : Nat → Int32) (ma : Nat → Nat → Int32) (hh : Int64) (f g : Nat), RelB ci ca ne mi ma → j + m = 3 → m < f → m < g → ∃ U V, fC_digest_308 (ci 3) (ci 10) (ci 11) (ci 12) (ca 7) (ca 8) (ca 9) (ca 10) (ca 11) (ci 13) ne (ca 12) (ci 14) (ci 15) (ci 16) (ca 13) (ca 14) (ca 15) (ca 16) (ca 17) (ci 17) (ci 18) (ci 19) (ci 20) (ci 21) (ca 18) (ci 22) (ca 19) (ca 20) (ca 21) (ci 27) (ca 24) (ca 25) (ca 26) f hh (nI j) (ca 27) = some U ∧ fM_digest_307 (mi 1) (mi 2) (mi 4) (ma 1) (ma 2) (ma 3) (ma 4) (ma 5) (ma 6) (ma 7) (ma 8) (ma 9) (ma 12) (ma 13) (ma 14) (ma 15) (ma 16) (ma 17) (ma 18) (ma 19) (ma 20) (ma 23) (ma 24) (ma 25) g hh (nI j) = some V ∧ ne ≤ U.2.2.2.2.2.2.2.2.2.2.2.1 ∧ QD ci ca mi ma U V := by
  intro m
  have z1 : ¬ (1 : Int32) = 0 := by decide
  induction m with
  | zero =>
    intro j ci ca ne mi ma hh f g h hj hf hg
    obtain ⟨f, rfl⟩ : ∃ f', f = f' + 1 := ⟨f - 1, by omega⟩
    obtain ⟨g, rfl⟩ : ∃ g', g = g' + 1 := ⟨g - 1, by omega⟩
    have e : j = 3 := by omega
    subst e
    show ∃ U V, fC_digest_308_b _ _ _ _ _ _ _ _ _ _ _ _ _ _ _ _ _ _ _ _ _ _ _ _ _ _ _ _ _ _ _ _ _ _ _ _ _ _ = some U ∧ fM_digest_307_b _ _ _ _ _ _ _ _ _ _ _ _ _ _ _ _ _ _ _ _ _ _ _ _ _ _ _ = some V ∧ _ ∧ _
    unfold fC_digest_308_b fM_digest_307_b
    rw [if_pos (show (2 : Int32) < nI 3 by decide), if_pos (show (3 : Int32) ≤ nI 3 by decide)]
    exact ⟨_, _, rfl, rfl, Nat.le_refl _, rfl, h⟩
  | succ m ih =>
    intro j ci ca ne mi ma hh f g h hj hf hg
    obtain ⟨f, rfl⟩ : ∃ f', f = f' + 1 := ⟨f - 1, by omega⟩
    obtain ⟨g, rfl⟩ : ∃ g', g = g' + 1 := ⟨g - 1, by omega⟩
    obtain ⟨⟨a_1, gGconf_1⟩, b_1, hu_1, hv_1, he_1, hR_1⟩ := pu_leave _ _ _ _ _ h (nI j)
    have he_1 : a_1 = b_1 := he_1
    subst he_1
    have hc_1 : fC_leave (nI j) (ci 27) (ca 24) (ca 25) (ca 26) (ca 27) = some (a_1, gGconf_1) := hu_1
    have hw_1 : fM_leave (nI j) (mi 4) (ma 23) (ma 24) (ma 25) = some a_1 := hv_1
    have hm_1 : fM_leaveOf (nI j) (mi 4) (ma 23) (ma 24) (ma 25) = some a_1 := by
      unfold fM_leave at hw_1
      rw [M_in_eq, bd_some, if_pos (show 0 ≤ nI j ∧ nI j ≤ 2 from ⟨nI_pos' (by omega), nI_le (b := 2) (by omega) (by decide)⟩), if_neg z1] at hw_1
      exact bd_id hw_1
    have hS_1 : RelB (lsI [(ci 0), (ci 1), (ci 2), (ci 3), (ci 4), (ci 5), (ci 6), (ci 7), (ci 8), (ci 9), (ci 10), (ci 11), (ci 12), (ci 13), (ci 14), (ci 15), (ci 16), (ci 17), (ci 18), (ci 19), (ci 20), (ci 21), (ci 22), (ci 23), (ci 24), (ci 25), (ci 26), (ci 27), (ci 28)]) (lsA [(ca 0), (ca 1), (ca 2), (ca 3), (ca 4), (ca 5), (ca 6), (ca 7), (ca 8), (ca 9), (ca 10), (ca 11), (ca 12), (ca 13), (ca 14), (ca 15), (ca 16), (ca 17), (ca 18), (ca 19), (ca 20), (ca 21), (ca 22), (ca 23), (ca 24), (ca 25), (ca 26), gGconf_1, (ca 28), (ca 29), (ca 30)]) ne (lsI [(mi 0), (mi 1), (mi 2), (mi 3), (mi 4), (mi 5)]) (lsA [(ma 0), (ma 1), (ma 2), (ma 3), (ma 4), (ma 5), (ma 6), (ma 7), (ma 8), (ma 9), (ma 10), (ma 11), (ma 12), (ma 13), (ma 14), (ma 15), (ma 16), (ma 17), (ma 18), (ma 19), (ma 20), (ma 21), (ma 22), (ma 23), (ma 24), (ma 25), (ma 26), (ma 27), (ma 28), (ma 29), (ma 30)]) := hR_1
    show ∃ U V, fC_digest_308_b _ _ _ _ _ _ _ _ _ _ _ _ _ _ _ _ _ _ _ _ _ _ _ _ _ _ _ _ _ _ _ _ _ _ _ _ _ _ = some U ∧ fM_digest_307_b _ _ _ _ _ _ _ _ _ _ _ _ _ _ _ _ _ _ _ _ _ _ _ _ _ _ _ = some V ∧ _ ∧ _
    unfold fC_digest_308_b fM_digest_307_b
    rw [if_neg (show ¬ (2 : Int32) < nI j from nI_nlt (a := 2) (by omega) (by omega)), if_neg (show ¬ (3 : Int32) ≤ nI j from nI_ge (b := 3) (by omega) (by decide))]
    refine dg_bd hc_1 hm_1 ?_
    dsimp only [nm]
    rw [nI_1]
    exact ih (j + 1) _ _ _ _ _ _ f g hS_1 (by omega) (by omega) (by omega)
