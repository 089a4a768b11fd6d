/-! ===== posts, guards aside ===== -/
section ps
variable {d P : Nat} {people : Int32} {K2 L2 C2 H2 R2 M2 AO2 LI2 MI2 lim com2 bt2 fm2 fb2 lb2 mw2 mt2 : Nat → Int32}
theorem ps_16 (f : Nat) (j : Nat) (pk bp : Nat → Int32) {r : Int32} {pk2 bp2 : Nat → Int32} (hj : j ≤ 5) (h : fM_doubtBy (nI j) (nI P) lim mt2 pk bp = some (r, pk2, bp2)) : fM_postsOf_16 (nI d) people (nI P) K2 L2 C2 H2 R2 M2 AO2 LI2 MI2 lim com2 bt2 fm2 fb2 lb2 mw2 mt2 (f + 1) (nI j) pk bp = (if r = -3 then fM_postsOf_16 (nI d) people (nI P) K2 L2 C2 H2 R2 M2 AO2 LI2 MI2 lim com2 bt2 fm2 fb2 lb2 mw2 mt2 f (nI (j + 1)) pk2 bp2 else if nI d < r then fM_postsOf_16 (nI d) people (nI P) K2 L2 C2 H2 R2 M2 AO2 LI2 MI2 lim com2 bt2 fm2 fb2 lb2 mw2 mt2 f (nI (j + 1)) pk2 bp2 else some (nI j, people, nI P, K2, L2, C2, H2, R2, M2, AO2, LI2, MI2, com2, bt2, fm2, fb2, lb2, mw2, mt2, pk2, bp2)) := by
  show fM_postsOf_16_b _ _ _ _ _ _ _ _ _ _ _ _ _ _ _ _ _ _ _ _ _ _ _ _ = _
  unfold fM_postsOf_16_b fM_postsOf_41
  rw [if_neg (show ¬ (6 : Int32) ≤ nI j from nI_ge (b := 6) (by omega) (by decide)), h, bd_some, nI_1]
theorem ps_end (f : Nat) (pk bp : Nat → Int32) : fM_postsOf_16 (nI d) people (nI P) K2 L2 C2 H2 R2 M2 AO2 LI2 MI2 lim com2 bt2 fm2 fb2 lb2 mw2 mt2 (f + 1) (nI 6) pk bp = some (-1, people, nI P, K2, L2, C2, H2, R2, M2, AO2, LI2, MI2, com2, bt2, fm2, fb2, lb2, mw2, mt2, pk, bp) := by
  show fM_postsOf_16_b _ _ _ _ _ _ _ _ _ _ _ _ _ _ _ _ _ _ _ _ _ _ _ _ = _
  unfold fM_postsOf_16_b
  rw [if_pos (show (6 : Int32) ≤ nI 6 by decide)]
theorem ps_none (hP : P ≤ 20) : ∀ (m j : Nat) (pk bp : Nat → Int32), j + m = 6 → 0 < j → P < j + 2 → ∀ f, m < f → fM_postsOf_16 (nI d) people (nI P) K2 L2 C2 H2 R2 M2 AO2 LI2 MI2 lim com2 bt2 fm2 fb2 lb2 mw2 mt2 f (nI j) pk bp = some (-1, people, nI P, K2, L2, C2, H2, R2, M2, AO2, LI2, MI2, com2, bt2, fm2, fb2, lb2, mw2, mt2, pk, bp) := by
  intro m
  induction m with
  | zero =>
    intro j pk bp hj h0 hn f hf
    obtain ⟨f, rfl⟩ : ∃ f', f = f' + 1 := ⟨f - 1, by omega⟩
    have e : j = 6 := by omega
    subst e
    exact ps_end f pk bp
  | succ m ih =>
    intro j pk bp hj h0 hn f hf
    obtain ⟨f, rfl⟩ : ∃ f', f = f' + 1 := ⟨f - 1, by omega⟩
    rw [ps_16 f j pk bp (by omega) (doubtBy_no (k := j) hP (by omega) (Or.inr ⟨h0, hn⟩) lim mt2 pk bp), if_pos rfl]
    exact ih (j + 1) pk bp (by omega) (by omega) (by omega) f (by omega)
theorem ps_go {x y z : Nat} {tm : Nat → Nat} (h1 : 1 ≤ x) (h2 : x ≤ y) (h3 : y ≤ 9) (hz : z ≤ 20) (hP0 : 0 < P) (hP : P ≤ 20) (l0 : lim 0 = nI x) (l1 : lim 1 = nI y) (l2 : lim 2 = nI z) (ran sl ld unr2 : Int32) (due2 busy2 felt2 lost2 first2 : Nat → Int32) (size2 : Int32) (ne2 : Nat) (ent2 who2 : Nat → Int32) {at2 lea2 : Nat → Int32} (g4 : ∀ k, k < P → at2 k = nI (tm k) ∧ tm k ≤ 400) (g5 : ∀ k, k < P → mt2 k = nI (tm k) ∧ tm k ≤ 400) (hd : d ≤ 9999) (v2 : ∀ k', k' ≤ 5 → k' = 0 ∨ k' + 2 ≤ P → TabR (gp x y z tm) P (k' + 1) lea2) (v3 : lea2 0 = nI (gp x y z tm 0 (P - 1))) : ∀ (m j : Nat) (pk bp : Nat → Int32), j + m = 6 → ∀ f g, m < f → m < g → ∃ (a : Int32) (pk2 bp2 : Nat → Int32), fC_posts_53 (nI d) ran sl ld unr2 due2 busy2 felt2 lost2 first2 size2 ne2 ent2 (nI P) who2 at2 lea2 f (nI j) = some (a, ran, sl, ld, unr2, due2, busy2, felt2, lost2, first2, size2, ne2, ent2, nI P, who2, at2, lea2) ∧ fM_postsOf_16 (nI d) people (nI P) K2 L2 C2 H2 R2 M2 AO2 LI2 MI2 lim com2 bt2 fm2 fb2 lb2 mw2 mt2 g (nI j) pk bp = some (a, people, nI P, K2, L2, C2, H2, R2, M2, AO2, LI2, MI2, com2, bt2, fm2, fb2, lb2, mw2, mt2, pk2, bp2) := by
  intro m
  induction m with
  | zero =>
    intro j pk bp hj f g hf hg
    obtain ⟨f, rfl⟩ : ∃ f', f = f' + 1 := ⟨f - 1, by omega⟩
    obtain ⟨g, rfl⟩ : ∃ g', g = g' + 1 := ⟨g - 1, by omega⟩
    have e : j = 6 := by omega
    subst e
    refine ⟨-1, pk, bp, ?_, ps_end g pk bp⟩
    show fC_posts_53_b _ _ _ _ _ _ _ _ _ _ _ _ _ _ _ _ _ _ _ = _
    unfold fC_posts_53_b
    rw [if_pos (show (5 : Int32) < nI 6 by decide)]
  | succ m ih =>
    intro j pk bp hj f g hf hg
    obtain ⟨f, rfl⟩ : ∃ f', f = f' + 1 := ⟨f - 1, by omega⟩
    have j5 : j ≤ 5 := by omega
    have st : fC_posts_53 (nI d) ran sl ld unr2 due2 busy2 felt2 lost2 first2 size2 ne2 ent2 (nI P) who2 at2 lea2 (f + 1) (nI j) = (if (j = 0 ∧ 0 < P) ∨ (0 < j ∧ j + 2 ≤ P) then (if nI d < lea2 (20 * j) then fC_posts_53 (nI d) ran sl ld unr2 due2 busy2 felt2 lost2 first2 size2 ne2 ent2 (nI P) who2 at2 lea2 f (nI (j + 1)) else some (nI j, ran, sl, ld, unr2, due2, busy2, felt2, lost2, first2, size2, ne2, ent2, nI P, who2, at2, lea2)) else some (-1, ran, sl, ld, unr2, due2, busy2, felt2, lost2, first2, size2, ne2, ent2, nI P, who2, at2, lea2)) := by
      show fC_posts_53_b _ _ _ _ _ _ _ _ _ _ _ _ _ _ _ _ _ _ _ = _
      unfold fC_posts_53_b
      rw [if_neg (show ¬ (5 : Int32) < nI j from nI_nlt (a := 5) j5 (by omega)), room_eq j5 hP, bd_some, leastD_eq j5, bd_some, nI_1]
      by_cases c : (j = 0 ∧ 0 < P) ∨ (0 < j ∧ j + 2 ≤ P)
      · rw [if_pos c, if_neg (by decide), if_pos c]
      · rw [if_neg c, if_pos rfl, if_neg c]
    rw [st]
    by_cases c : (j = 0 ∧ 0 < P) ∨ (0 < j ∧ j + 2 ≤ P)
    · rw [if_pos c]
      obtain ⟨g, rfl⟩ : ∃ g', g = g' + 1 := ⟨g - 1, by omega⟩
      obtain ⟨b, pk2, bp2, d1, d2, d3, d4⟩ := doubtBy_ok h1 h2 h3 hz hP0 hP l0 l1 l2 g5 j5 (show j = 0 ∨ j + 2 ≤ P by omega) pk bp
      obtain ⟨k1, k2⟩ := ask h1 h2 h3 hz hP0 hP g4 j5 (show j = 0 ∨ j + 2 ≤ P by omega) (v2 j j5 (by omega)) v3 d4
      have cb := cst_le (y := y) h1 hz (fun k hk => (g4 k hk).2) j 0 b hP0 (Vd_lt d3)
      rw [ps_16 g j pk bp j5 d1, k1, if_neg (nI_ne_m3 (by omega))]
      by_cases w : nI d < nI (cst (gp x y z tm) (P - 1) j 0 b)
      · rw [if_pos w, if_pos w]
        exact ih (j + 1) pk2 bp2 (by omega) f g (by omega) (by omega)
      · rw [if_neg w, if_neg w]
        exact ⟨_, _, _, rfl, rfl⟩
    · rw [if_neg c]
      exact ⟨-1, pk, bp, rfl, ps_none hP (m + 1) j pk bp hj (by omega) (by omega) g hg⟩
end ps
theorem of_posts {typed : Int32} {text : Nat → Int32} {people scarves main fault : Int32} {K L H S : Nat → Int32} (hP : Parsed typed text people scarves main fault K L H S) {fi se wh : Int32} {set : Nat → Int32} (hS : RSet fi se wh set) {sh lo sp : Int32} {lim : Nat → Int32} (hL : RLim sh lo sp lim) {ran : Int32} {unr : Int32} {busy felt lost first : Nat → Int32} {size : Int32} {ne : Nat} {ent : Nat → Int32} (hT : RTol ran typed text set people scarves main K L H S unr busy felt lost first size ne ent) (hne : 64 ≤ ne ∧ ne ≤ 70000) (sl0 ld0 : Int32) (due : Nat → Int32) (xs : Int32) (who at_ lea : Nat → Int32) (pe posted : Int32) (k l c h r m ao li mi com bt fm fb lb pw pt pk bp : Nat → Int32) {d : Nat} (hd : d ≤ 9999) : ∃ (a sl ld unr2 : Int32) (due2 busy2 felt2 lost2 first2 : Nat → Int32) (size2 : Int32) (ne2 : Nat) (ent2 : Nat → Int32) (xs2 : Int32) (who2 at2 lea2 : Nat → Int32) (posted2 : Int32) (K2 L2 C2 H2 R2 M2 AO2 LI2 MI2 com2 bt2 fm2 fb2 lb2 pw2 pt2 pk2 bp2 : Nat → Int32), fC_posts (nI d) fi se wh ran people main K L H S sl0 ld0 unr due busy felt lost first size ne ent xs sh lo sp who at_ lea = some (a, 1, sl, ld, unr2, due2, busy2, felt2, lost2, first2, size2, ne2, ent2, xs2, who2, at2, lea2) ∧ fM_postsOf (nI d) typed pe posted text k l c h r m ao li mi set lim com bt fm fb lb pw pt pk bp = some (a, people, posted2, K2, L2, C2, H2, R2, M2, AO2, LI2, MI2, com2, bt2, fm2, fb2, lb2, pw2, pt2, pk2, bp2) ∧ ne ≤ ne2 ∧ ne2 ≤ 70000 ∧ TolR typed text set people scarves main K L H S unr2 busy2 felt2 lost2 first2 size2 ne2 ent2 ∧ ParR people scarves main K L H S K2 L2 C2 H2 R2 M2 := by
  obtain ⟨x, y, z, h1, h2, h3, hz, s1, s2, s3, l0, l1, l2⟩ := hL
  obtain ⟨sl, ld, unr2, due2, busy2, felt2, lost2, first2, size2, ne2, ent2, w1, w2, w3, w4⟩ := asTold_ok (len := (typed, text)) (text := (typed, text)) hP hS hT hne.1 hne.2 sl0 ld0 due
  obtain ⟨K2, L2, C2, H2, R2, M2, AO2, LI2, MI2, com2, bt2, fm2, fb2, lb2, n, x1, x2, x3, x4, x5⟩ := w4 pe k l c h r m ao li mi com bt fm fb lb
  have x1' : fM_lays typed pe text k l c h r m ao li mi set com bt fm fb lb = some (nI n, K2, L2, C2, H2, R2, M2, AO2, LI2, MI2, com2, bt2, fm2, fb2, lb2) := x1
  obtain ⟨P, who2, at2, mw2, mt2, tm, g1, g2, g3, g4, g5, g6⟩ := gath x5 x3 x4 x2 xs who at_ pw pt AO2 LI2 MI2 com2
  have lp : fM_laysPosts typed pe posted text k l c h r m ao li mi set com bt fm fb lb pw pt = some (people, nI P, K2, L2, C2, H2, R2, M2, AO2, LI2, MI2, com2, bt2, fm2, fb2, lb2, mw2, mt2) := by
    unfold fM_laysPosts
    rw [x1', bd_some, x2]
    exact g2
  unfold fC_posts fM_postsOf
  rw [if_neg (nI_pos (by omega)), if_pos (show nI d ≤ 9999 from nI_le (b := 9999) hd (by decide)), w1, lp, bd_some]
  dsimp only
  have r0 := room_eq (k := 0) (P := P) (by omega) g3
  by_cases rm : 0 < P
  · obtain ⟨lea2, v1, v2, v3⟩ := work_ok h1 h2 h3 hz rm g3 g4 (show 5 ≤ 5 by omega) lea
    obtain ⟨a, pk2, bp2, e1, e2⟩ := ps_go (d := d) (people := people) (K2 := K2) (L2 := L2) (C2 := C2) (H2 := H2) (R2 := R2) (M2 := M2) (AO2 := AO2) (LI2 := LI2) (MI2 := MI2) (com2 := com2) (bt2 := bt2) (fm2 := fm2) (fb2 := fb2) (lb2 := lb2) (mw2 := mw2) h1 h2 h3 hz rm g3 l0 l1 l2 1 sl ld unr2 due2 busy2 felt2 lost2 first2 size2 ne2 ent2 who2 g4 g5 hd v2 v3 6 0 pk bp (by omega) FU FU (by rw [FU_eq]; omega) (by rw [FU_eq]; omega)
    have v1' : fP_work 5 (nI P) (nI x) (nI y) (nI z) at2 lea = some lea2 := v1
    rw [if_neg (show ¬ nI P = 0 from nI_ne0 rm (by omega))]
    refine ⟨a, sl, ld, unr2, due2, busy2, felt2, lost2, first2, size2, ne2, ent2, nI P, who2, at2, lea2, nI P, K2, L2, C2, H2, R2, M2, AO2, LI2, MI2, com2, bt2, fm2, fb2, lb2, mw2, mt2, pk2, bp2, mz_bm (x := ((1 : Int32), sl, ld, unr2, due2, busy2, felt2, lost2, first2, size2, ne2, ent2)) ?_ w2 (Nat.le_refl _), e2, w2, w3, w4, x4⟩
    rw [if_pos (show (0 = 0 ∧ 0 < P) ∨ (0 < 0 ∧ 0 + 2 ≤ P) from Or.inl ⟨rfl, rm⟩)] at r0
    have r0' : fP_hasRoomFor 0 (nI P) = some 1 := r0
    dsimp only
    rw [g1, bd_some, r0', bd_some, if_neg (by decide), s1, s2, s3, v1', bd_some]
    exact e1
  · have e : P = 0 := by omega
    rw [if_pos (show nI P = 0 by rw [e]; rfl)]
    refine ⟨-3, sl, ld, unr2, due2, busy2, felt2, lost2, first2, size2, ne2, ent2, nI P, who2, at2, lea, nI P, K2, L2, C2, H2, R2, M2, AO2, LI2, MI2, com2, bt2, fm2, fb2, lb2, mw2, mt2, pk, bp, mz_bm (x := ((1 : Int32), sl, ld, unr2, due2, busy2, felt2, lost2, first2, size2, ne2, ent2)) ?_ w2 (Nat.le_refl _), rfl, w2, w3, w4, x4⟩
    rw [if_neg (show ¬ ((0 = 0 ∧ 0 < P) ∨ (0 < 0 ∧ 0 + 2 ≤ P)) by omega)] at r0
    have r0' : fP_hasRoomFor 0 (nI P) = some 0 := r0
    dsimp only
    rw [g1, bd_some, r0', bd_some, if_pos rfl]
