/-! ===== the counts ===== -/
def adN (j mn : Nat) (hd lc : Nat → Nat) (p : Nat) : Nat := if j = 2 then (if mn.testBit p then 1 else 0) else if j = 3 then pcN (hd p) else if j = 7 then lc p else 0
section cnt
variable {n mn : Nat} {hd lc B : Nat → Nat} {K L C H R M AO LI MI com bt fm fb lb bo : Nat → Int32}
theorem sum8_go (hn : n ≤ 20) (h1 : ∀ p, p < n → M p = nI (if mn.testBit p then 1 else 0)) (h2 : ∀ p, p < n → H p = nI (hd p) ∧ hd p < 2 ^ 22) (h3 : ∀ p, p < n → fM_lostBy (nI p) 400 lb = some (nI (lc p))) {j : Nat} (hj : j ≤ 8) : ∀ (m p : Nat), p + m = n → ∀ f, m < f → fM_sumOf_8 (nI j) (nI n) K L C H R M AO LI MI com bt fm fb lb bo f (nI (fb_sm (adN j mn hd lc) p)) (nI p) = fM_sumOf_76 (nI j) (nI n) K L C H R M AO LI MI com bt fm fb lb bo FU (nI (fb_sm (adN j mn hd lc) n)) 0 := by
  intro m
  induction m with
  | zero =>
    intro p hp f hf
    obtain ⟨f, rfl⟩ : ∃ f', f = f' + 1 := ⟨f - 1, by omega⟩
    have e : p = n := by omega
    subst e
    show fM_sumOf_8_b _ _ _ _ _ _ _ _ _ _ _ _ _ _ _ _ _ _ _ _ = _
    unfold fM_sumOf_8_b
    rw [if_pos (nI_le (Nat.le_refl p) (by omega))]
  | succ m ih =>
    intro p hp f hf
    obtain ⟨f, rfl⟩ : ∃ f', f = f' + 1 := ⟨f - 1, by omega⟩
    have pn : p < n := by omega
    have c20 : ∀ {α : Type} (x : Option α), ck 20 (nI p) x = x := fun x => ck_nI (by omega) (by decide)
    have clp : (nI p).toNatClampNeg = p := nI_clamp (by omega)
    have r := ih (p + 1) (by omega) f (by omega)
    rw [fb_sm_succ] at r
    show fM_sumOf_8_b _ _ _ _ _ _ _ _ _ _ _ _ _ _ _ _ _ _ _ _ = _
    unfold fM_sumOf_8_b fM_sumOf_66
    rw [if_neg (nI_ge pn (by omega)), nI_1]
    by_cases e2 : j = 2
    · rw [if_pos (show nI j = 2 by rw [e2]; rfl), c20, clp, h1 p pn, nI_add]
      rw [show adN j mn hd lc p = (if mn.testBit p then 1 else 0) from if_pos e2] at r
      exact r
    · rw [if_neg (show ¬ nI j = 2 from neN (b := 2) e2 (by omega) (by decide))]
      by_cases e3 : j = 3
      · rw [if_pos (show nI j = 3 by rw [e3]; rfl), c20, clp, (h2 p pn).1, M_ones_eq (by have := (h2 p pn).2; omega), bd_some, nI_add]
        rw [show adN j mn hd lc p = pcN (hd p) from (if_neg e2).trans (if_pos e3)] at r
        exact r
      · rw [if_neg (show ¬ nI j = 3 from neN (b := 3) e3 (by omega) (by decide))]
        by_cases e7 : j = 7
        · rw [if_pos (show nI j = 7 by rw [e7]; rfl), h3 p pn, bd_some, nI_add]
          rw [show adN j mn hd lc p = lc p from (if_neg e2).trans ((if_neg e3).trans (if_pos e7))] at r
          exact r
        · rw [if_neg (show ¬ nI j = 7 from neN (b := 7) e7 (by omega) (by decide)), show (0 : Int32) = nI 0 from rfl, nI_add]
          rw [show adN j mn hd lc p = 0 from (if_neg e2).trans ((if_neg e3).trans (if_neg e7))] at r
          exact r
theorem sum76_6 (h1 : ∀ k, k < 100 → bo k = nI (B k)) : fM_sumOf_76 (nI 6) (nI n) K L C H R M AO LI MI com bt fm fb lb bo FU (nI 0) 0 = some (nI (birN B 0 100), nI n, K, L, C, H, R, M, AO, LI, MI, com, bt, fm, fb, lb) := by
  have go : ∀ (m y : Nat), y + m = 100 → ∀ f, m < f → fM_sumOf_76 (nI 6) (nI n) K L C H R M AO LI MI com bt fm fb lb bo f (nI (birN B 0 y)) (nI y) = some (nI (birN B 0 100), nI n, K, L, C, H, R, M, AO, LI, MI, com, bt, fm, fb, lb) := by
    intro m
    induction m with
    | zero =>
      intro y hy f hf
      obtain ⟨f, rfl⟩ : ∃ f', f = f' + 1 := ⟨f - 1, by omega⟩
      have e : y = 100 := by omega
      subst e
      show fM_sumOf_76_b _ _ _ _ _ _ _ _ _ _ _ _ _ _ _ _ _ _ _ _ = _
      unfold fM_sumOf_76_b fM_sumOf_103
      rw [if_pos (show (100 : Int32) ≤ nI 100 from nI_le (a := 100) (Nat.le_refl _) (by decide)), if_neg (show ¬ nI 6 = (0 : Int32) by decide), if_neg (show ¬ nI 6 = (3 : Int32) by decide)]
    | succ m ih =>
      intro y hy f hf
      obtain ⟨f, rfl⟩ : ∃ f', f = f' + 1 := ⟨f - 1, by omega⟩
      show fM_sumOf_76_b _ _ _ _ _ _ _ _ _ _ _ _ _ _ _ _ _ _ _ _ = _
      unfold fM_sumOf_76_b
      rw [if_neg (show ¬ (100 : Int32) ≤ nI y from nI_ge (b := 100) (by omega) (by decide)), if_pos (show nI 6 = (6 : Int32) from rfl), ck_nI (by omega) (by decide), nI_clamp (by omega), h1 y (by omega), nI_add, ← birN_step B (Nat.zero_le y), nI_1]
      exact ih (y + 1) (by omega) f (by omega)
  have r := go 100 0 (by omega) FU (by rw [FU_eq]; decide)
  rw [birN_self] at r
  exact r
theorem sum76_no {j v : Nat} (hj : j ≤ 8) (h6 : j ≠ 6) : fM_sumOf_76 (nI j) (nI n) K L C H R M AO LI MI com bt fm fb lb bo FU (nI v) 0 = some ((if j = 0 then nI n else if j = 3 then nI v / 2 else nI v), nI n, K, L, C, H, R, M, AO, LI, MI, com, bt, fm, fb, lb) := by
  obtain ⟨f, hf⟩ : ∃ f, FU = f + 1 := ⟨999999, rfl⟩
  rw [hf]
  show fM_sumOf_76_b _ _ _ _ _ _ _ _ _ _ _ _ _ _ _ _ _ _ _ _ = _
  unfold fM_sumOf_76_b fM_sumOf_103
  rw [if_neg (show ¬ (100 : Int32) ≤ 0 by decide), if_neg (show ¬ nI j = 6 from neN (b := 6) h6 (by omega) (by decide))]
  by_cases e0 : j = 0
  · rw [if_pos (show nI j = 0 by rw [e0]; rfl), if_pos e0]
  · rw [if_neg (show ¬ nI j = 0 from nI_ne0 (by omega) (by omega)), if_neg e0]
    by_cases e3 : j = 3
    · rw [if_pos (show nI j = 3 by rw [e3]; rfl), if_pos e3]
    · rw [if_neg (show ¬ nI j = 3 from neN (b := 3) e3 (by omega) (by decide)), if_neg e3]
theorem pairs_eq (hn : n ≤ 20) {Hc : Nat → Int32} (h2 : ∀ p, p < n → Hc p = nI (hd p) ∧ hd p < 2 ^ 22) : fR_pairs (nI n) Hc = some (nI (fb_sm (fun p => pcN (hd p)) n) / 2) := by
  have go : ∀ (m p : Nat), p + m = n → ∀ f, m < f → fR_pairs_4 (nI n) Hc f (nI (fb_sm (fun p => pcN (hd p)) p)) (nI p) = some (nI (fb_sm (fun p => pcN (hd p)) n) / 2) := by
    intro m
    induction m with
    | zero =>
      intro p hp f hf
      obtain ⟨f, rfl⟩ : ∃ f', f = f' + 1 := ⟨f - 1, by omega⟩
      have e : p = n := by omega
      subst e
      show fR_pairs_4_b _ _ _ _ _ = _
      unfold fR_pairs_4_b
      rw [if_pos (nI_le (Nat.le_refl p) (by omega))]
    | succ m ih =>
      intro p hp f hf
      obtain ⟨f, rfl⟩ : ∃ f', f = f' + 1 := ⟨f - 1, by omega⟩
      have pn : p < n := by omega
      show fR_pairs_4_b _ _ _ _ _ = _
      unfold fR_pairs_4_b
      rw [if_neg (nI_ge pn (by omega)), ck_nI (by omega) (by decide), nI_clamp (by omega), (h2 p pn).1, J_bitCount_eq (h2 p pn).2, bd_some, nI_add, ← fb_sm_succ (fun p => pcN (hd p)) p, nI_1]
      exact ih (p + 1) (by omega) f (by omega)
  exact go n 0 (by omega) FU (by rw [FU_eq]; omega)
theorem allLost_eq (hn : n ≤ 20) {lost : Nat → Int32} (h2 : ∀ p, p < n → lost p = nI (lc p)) : fS_allLost_T (nI n) lost = some (nI (fb_sm lc n)) := by
  have go : ∀ (m p : Nat), p + m = n → ∀ f, m < f → fS_allLost_T_4 (nI n) lost f (nI (fb_sm lc p)) (nI p) = some (nI (fb_sm lc n)) := by
    intro m
    induction m with
    | zero =>
      intro p hp f hf
      obtain ⟨f, rfl⟩ : ∃ f', f = f' + 1 := ⟨f - 1, by omega⟩
      have e : p = n := by omega
      subst e
      show fS_allLost_T_4_b _ _ _ _ _ = _
      unfold fS_allLost_T_4_b
      rw [if_pos (nI_le (Nat.le_refl p) (by omega))]
    | succ m ih =>
      intro p hp f hf
      obtain ⟨f, rfl⟩ : ∃ f', f = f' + 1 := ⟨f - 1, by omega⟩
      have pn : p < n := by omega
      show fS_allLost_T_4_b _ _ _ _ _ = _
      unfold fS_allLost_T_4_b
      rw [if_neg (nI_ge pn (by omega)), ck_nI (by omega) (by decide), nI_clamp (by omega), h2 p pn, nI_add, ← fb_sm_succ lc p, nI_1]
      exact ih (p + 1) (by omega) f (by omega)
  exact go n 0 (by omega) FU (by rw [FU_eq]; omega)
end cnt
theorem lostAll {s : Nat} {E : Nat → Nat} {Fl : Nat → Bool} {fe lo : Nat → Nat → Nat} (hS : SqN (440 * 401) s E Fl fe lo) {p : Nat} (hp : p < 20) : fb_sm (fun t => pcN (lo t p)) (400 + 1) = fb_ct (isL E Fl p) s := by
  rw [← hS.2.2.2.2.2.1 p 400 hp]
  refine fb_ct_cong (fun i hi => ?_)
  have := hS.1 i hi
  rw [decide_eq_true (show E i / 440 ≤ 400 by omega), Bool.and_true]
/-- the reference lays, always -/
theorem lays_ok {typed : Int32} {text : Nat → Int32} {people scarves main fault : Int32} {K L H S : Nat → Int32} (hP : Parsed typed text people scarves main fault K L H S) {fi se wh : Int32} {set : Nat → Int32} (hS : RSet fi se wh set) (pe : Int32) (k l c h r m ao li mi com bt fm fb lb : Nat → Int32) : ∃ (K' L' C' H' R' M' AO LI MI com2 bt2 fm2 fb2 lb2 : Nat → Int32) (n : Nat) (unr : Int32) (busy felt lost first : Nat → Int32) (size : Int32) (ne : Nat) (ent : Nat → Int32), fM_lays typed pe text k l c h r m ao li mi set com bt fm fb lb = some (nI n, K', L', C', H', R', M', AO, LI, MI, com2, bt2, fm2, fb2, lb2) ∧ people = nI n ∧ n ≤ 20 ∧ ParR people scarves main K L H S K' L' C' H' R' M' ∧ TolS n unr busy felt lost first size ne ent bt2 fm2 fb2 lb2 := by
  have z : Nat → Int32 := fun _ => 0
  obtain ⟨sl, ld, unr2, due2, busy2, felt2, lost2, first2, size2, ne2, ent2, w1, w2, w3, w4⟩ := asTold_ok (len := (typed, text)) (text := (typed, text)) (ran := 0) (unr := 0) (busy := z) (felt := z) (lost := z) (first := z) (size := 0) (ne := 64) (ent := z) hP hS (Or.inl rfl) (by omega) (by omega) 0 0 z
  obtain ⟨K', L', C', H', R', M', AO, LI, MI, com2, bt2, fm2, fb2, lb2, n, x1, x2, x3, x4, x5⟩ := w4 pe k l c h r m ao li mi com bt fm fb lb
  exact ⟨K', L', C', H', R', M', AO, LI, MI, com2, bt2, fm2, fb2, lb2, n, _, _, _, _, _, _, _, _, x1, x2, x3, x4, x5⟩
