/-! ===== doubt and posts, both sides ===== -/
theorem gath {n : Nat} {unr : Int32} {busy felt lost first : Nat → Int32} {size : Int32} {ne : Nat} {ent bt fm fb lb : Nat → Int32} (hT : TolS n unr busy felt lost first size ne ent bt fm fb lb) (hn : n ≤ 20) {people scarves main : Int32} {K L H S K' L' C' H' R' M' : Nat → Int32} (hPar : ParR people scarves main K L H S K' L' C' H' R' M') (hp : people = nI n) (xs : Int32) (who at_ mw mt AO LI MI com : Nat → Int32) : ∃ (c : Nat) (who2 at2 mw2 mt2 : Nat → Int32) (tm : Nat → Nat), fP_gather people main first xs who at_ = some (nI c, who2, at2) ∧ fM_laysPosts_11 (nI n) K' L' C' H' R' M' AO LI MI com bt fm fb lb FU 0 0 mw mt = some (nI n, nI c, K', L', C', H', R', M', AO, LI, MI, com, bt, fm, fb, lb, mw2, mt2) ∧ c ≤ 20 ∧ (∀ k, k < c → at2 k = nI (tm k) ∧ tm k ≤ 400) ∧ (∀ k, k < c → mt2 k = nI (tm k) ∧ tm k ≤ 400) ∧ ∀ k, k < c → who2 k = mw2 k := by
  obtain ⟨s, E, Fl, fe, lo, bu, hS, hC, hM, hD, hE, hs⟩ := hT
  obtain ⟨n', sc, mn, hd, sl, rg, kd, lt, q1, q2, q3, q4, q5, q6, q7⟩ := hPar
  have en := nIn q4.1 hn (q1.symm.trans hp)
  subst en
  have mnl : mn < 2 ^ 31 := Nat.lt_of_lt_of_le q4.2.2.1 (Nat.pow_le_pow_right (by decide) (by omega))
  have bs := SqN_s hS
  obtain ⟨c, who2, at2, mw2, mt2, g1, g2, g3, g4⟩ := post_go hn mnl (first := first) (fm := fm) (fb := fb) (M := M') (fun p hp' => (q7.2.2 p hp').2.2.2) (fun p hp' => first_eq hn hS hM hp' (hC.1 p hp').2.2.2) (fun p hp' => by
    have fc := (hM.1 p hp').2
    have cb := fb_ct_le (isF E Fl p) s
    rcases (hC.1 p hp').2.2.2 with ⟨h1, h2⟩ | ⟨i, h1, h2, h3, h4⟩
    · refine Or.inl ⟨h2, ?_⟩
      rw [fc, h1]; decide
    · have e := hS.1 i h1
      have cs := fb_ct_succ (isF E Fl p) i
      rw [h2, if_pos rfl] at cs
      have mo := fb_ct_mono (isF E Fl p) (show i + 1 ≤ s by omega)
      refine Or.inr ⟨⟨E i / 440, by omega, h4⟩, ?_⟩
      rw [fc]
      exact nI_ge (a := 0) (by omega) (by omega)) K' L' C' H' R' AO LI MI com bt lb n' 0 0 who at_ mw mt (by omega) (by omega) (fun k hk => absurd hk (Nat.not_lt_zero k)) FU FU (by rw [FU_eq]; omega) (by rw [FU_eq]; omega)
  have tmx : ∀ k : Nat, ∃ t : Nat, k < c → at2 k = nI t ∧ t ≤ 400 := fun k => by
    by_cases w : k < c
    · obtain ⟨_, _, ⟨t, t1, t2⟩, _⟩ := g4 k w
      exact ⟨t, fun _ => ⟨t2, t1⟩⟩
    · exact ⟨0, fun v => absurd v w⟩
  refine ⟨c, who2, at2, mw2, mt2, fun k => Classical.choose (tmx k), ?_, g2, by omega, fun k hk => Classical.choose_spec (tmx k) hk, fun k hk => ?_, fun k hk => (g4 k hk).1⟩
  · unfold fP_gather
    rw [hp, q3]
    exact g1
  · rw [← (g4 k hk).2.1]
    exact Classical.choose_spec (tmx k) hk
theorem nI_ne_m3 {n : Nat} (h : n < 2 ^ 31) : ¬ nI n = -3 := fun e => absurd (show (0 : Int32) ≤ -3 from e ▸ nI_pos' h) (by decide)
/-- what both sides answer for k posts -/
theorem ask {x y z P k : Nat} {tm : Nat → Nat} {at_ : Nat → Int32} (h1 : 1 ≤ x) (h2 : x ≤ y) (h3 : y ≤ 9) (hz : z ≤ 20) (hP0 : 0 < P) (hP : P ≤ 20) (ha : ∀ k, k < P → at_ k = nI (tm k) ∧ tm k ≤ 400) (hk : k ≤ 5) (hkP : k = 0 ∨ k + 2 ≤ P) {lea : Nat → Int32} (hT : TabR (gp x y z tm) P (k + 1) lea) (h0 : lea 0 = nI (gp x y z tm 0 (P - 1))) {b : Nat → Nat} (hb : BestF (gp x y z tm) (P - 1) k 0 b) : lea (20 * k) = nI (cst (gp x y z tm) (P - 1) k 0 b) ∧ ∀ j, j < k → b j = wlk (gp x y z tm) (P - 1) k 0 j := by
  by_cases e : k = 0
  · subst e
    exact ⟨h0, fun j hj => absurd hj (Nat.not_lt_zero j)⟩
  · obtain ⟨w1, w2⟩ := wlk_best (gp x y z tm) (P - 1) k 0 (by omega)
    have q := BestF_one hb w1
    refine ⟨?_, q⟩
    rw [cst_cong q, w2]
    exact hT k 0 (by omega) (by omega)
