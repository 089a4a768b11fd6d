/-! ===== doubt and posts, guards aside ===== -/
theorem of_doubt {typed : Int32} {text : Nat → Int32} {people scarves main fault : Int32} {K L H S : Nat → Int32} (hP : Parsed typed text people scarves main fault K L H S) {fi se wh : Int32} {set : Nat → Int32} (hS : RSet fi se wh set) {sh lo sp : Int32} {lim : Nat → Int32} (hL : RLim sh lo sp lim) {ran : Int32} {unr : Int32} {busy felt lost first : Nat → Int32} {size : Int32} {ne : Nat} {ent : Nat → Int32} (hT : RTol ran typed text set people scarves main K L H S unr busy felt lost first size ne ent) (hne : 64 ≤ ne ∧ ne ≤ 70000) (sl0 ld0 : Int32) (due : Nat → Int32) (xs : Int32) (who at_ lea : Nat → Int32) (pe posted : Int32) (k l c h r m ao li mi com bt fm fb lb pw pt pk bp : Nat → Int32) {kk : Nat} (hk : kk ≤ 5) {i : Int32} (hi : i = -1 ∨ ∃ j : Nat, j < kk ∧ i = nI j) : ∃ (a sl ld unr2 : Int32) (due2 busy2 felt2 lost2 first2 : Nat → Int32) (size2 : Int32) (ne2 : Nat) (ent2 : Nat → Int32) (xs2 : Int32) (who2 at2 lea2 : Nat → Int32) (posted2 : Int32) (K2 L2 C2 H2 R2 M2 AO2 LI2 MI2 com2 bt2 fm2 fb2 lb2 pw2 pt2 pk2 bp2 : Nat → Int32), fC_doubt (nI kk) i fi se wh ran people main K L H S sl0 ld0 unr due busy felt lost first size ne ent xs sh lo sp who at_ lea = some (a, 1, sl, ld, unr2, due2, busy2, felt2, lost2, first2, size2, ne2, ent2, xs2, who2, at2, lea2) ∧ fM_doubtOf (nI kk) i typed pe posted text k l c h r m ao li mi set lim com bt fm fb lb pw pt pk bp = some (a, people, posted2, K2, L2, C2, H2, R2, M2, AO2, LI2, MI2, com2, bt2, fm2, fb2, lb2, pw2, pt2, pk2, bp2) ∧ ne ≤ ne2 ∧ ne2 ≤ 70000 ∧ TolR typed text set people scarves main K L H S unr2 busy2 felt2 lost2 first2 size2 ne2 ent2 ∧ ParR people scarves main K L H S K2 L2 C2 H2 R2 M2 := by
  obtain ⟨x, y, z, h1, h2, h3, hz, s1, s2, s3, l0, l1, l2⟩ := hL
  obtain ⟨sl, ld, unr2, due2, busy2, felt2, lost2, first2, size2, ne2, ent2, w1, w2, w3, w4⟩ := asTold_ok (len := (typed, text)) (text := (typed, text)) hP hS hT hne.1 hne.2 sl0 ld0 due
  obtain ⟨K2, L2, C2, H2, R2, M2, AO2, LI2, MI2, com2, bt2, fm2, fb2, lb2, n, x1, x2, x3, x4, x5⟩ := w4 pe k l c h r m ao li mi com bt fm fb lb
  have x1' : fM_lays typed pe text k l c h r m ao li mi set com bt fm fb lb = some (nI n, K2, L2, C2, H2, R2, M2, AO2, LI2, MI2, com2, bt2, fm2, fb2, lb2) := x1
  obtain ⟨P, who2, at2, mw2, mt2, tm, g1, g2, g3, g4, g5, g6⟩ := gath x5 x3 x4 x2 xs who at_ pw pt AO2 LI2 MI2 com2
  have lp : fM_laysPosts typed pe posted text k l c h r m ao li mi set com bt fm fb lb pw pt = some (people, nI P, K2, L2, C2, H2, R2, M2, AO2, LI2, MI2, com2, bt2, fm2, fb2, lb2, mw2, mt2) := by
    unfold fM_laysPosts
    rw [x1', bd_some, x2]
    exact g2
  have gi : ¬ i < (-1 : Int32) ∧ i < nI kk := by
    rcases hi with e | ⟨j, hj, e⟩
    · rw [e]; exact ⟨by decide, m1_lt_nI (by omega)⟩
    · rw [e]; exact ⟨nI_nlt_m1 (by omega), nI_lt hj (by omega)⟩
  unfold fC_doubt fM_doubtOf fM_doubtOf_21
  rw [if_neg (nI_pos (by omega)), if_neg (show ¬ (5 : Int32) < nI kk from nI_nlt (a := 5) hk (by omega)), if_neg gi.1, if_pos gi.2, w1, lp, bd_some]
  by_cases rm : (kk = 0 ∧ 0 < P) ∨ (0 < kk ∧ kk + 2 ≤ P)
  · obtain ⟨lea2, v1, v2, v3⟩ := work_ok h1 h2 h3 hz (show 0 < P by omega) g3 g4 hk lea
    have hkP : kk = 0 ∨ kk + 2 ≤ P := by omega
    obtain ⟨b, pk2, bp2, d1, d2, d3, d4⟩ := doubtBy_ok h1 h2 h3 hz (show 0 < P by omega) g3 l0 l1 l2 g5 hk hkP pk bp
    have hTab := v2 kk (Nat.le_refl kk) hkP
    obtain ⟨k1, k2⟩ := ask h1 h2 h3 hz (show 0 < P by omega) g3 g4 hk hkP hTab v3 d4
    have cb := cst_le (y := y) h1 hz (fun k hk => (g4 k hk).2) kk 0 b (show 0 < P by omega) (Vd_lt d3)
    have d1' : fM_doubtBy (nI kk) (nI P) lim mt2 pk bp = _ := d1
    dsimp only
    rw [d1', bd_some]
    dsimp only
    rw [if_neg (nI_ne_m3 (by omega))]
    rcases hi with e | ⟨j, hj, e⟩
    · subst e
      rw [if_pos rfl]
      refine ⟨nI (cst (gp x y z tm) (P - 1) kk 0 b), sl, ld, unr2, due2, busy2, felt2, lost2, first2, size2, ne2, ent2, nI P, who2, at2, lea2, nI P, K2, L2, C2, H2, R2, M2, AO2, LI2, MI2, com2, bt2, fm2, fb2, lb2, mw2, mt2, pk2, bp2, mz_bm (x := ((1 : Int32), sl, ld, unr2, due2, busy2, felt2, lost2, first2, size2, ne2, ent2)) ?_ w2 (Nat.le_refl _), rfl, w2, w3, w4, x4⟩
      dsimp only
      rw [g1, bd_some, room_eq hk g3, if_pos rm, bd_some, if_neg (by decide), s1, s2, s3, v1, bd_some, if_pos rfl, leastD_eq hk, bd_some, k1]
    · have ne1 : ¬ i = -1 := by rw [e]; exact nI_ne_m1 (by omega)
      obtain ⟨c1, c2⟩ := chosen_ok h1 h2 h3 hz g3 g4 hk (show kk + 2 ≤ P by omega) who2 hTab hj
      rw [if_neg ne1, e, ck_nI (by omega) (by decide), nI_clamp (by omega), d2 j hj, k2 j hj, ck_nI (by omega) (by decide), nI_clamp (by omega)]
      refine ⟨mw2 (wlk (gp x y z tm) (P - 1) kk 0 j), sl, ld, unr2, due2, busy2, felt2, lost2, first2, size2, ne2, ent2, nI P, who2, at2, lea2, nI P, K2, L2, C2, H2, R2, M2, AO2, LI2, MI2, com2, bt2, fm2, fb2, lb2, mw2, mt2, pk2, bp2, mz_bm (x := ((1 : Int32), sl, ld, unr2, due2, busy2, felt2, lost2, first2, size2, ne2, ent2)) ?_ w2 (Nat.le_refl _), rfl, w2, w3, w4, x4⟩
      dsimp only
      rw [g1, bd_some, room_eq hk g3, if_pos rm, bd_some, if_neg (by decide), s1, s2, s3, v1, bd_some, if_neg (nI_ne_m1 (by omega)), c1, bd_some, g6 _ c2]
  · have d1 := doubtBy_no (k := kk) g3 hk (by omega) lim mt2 pk bp
    dsimp only
    rw [d1, bd_some]
    dsimp only
    rw [if_pos rfl]
    refine ⟨-3, sl, ld, unr2, due2, busy2, felt2, lost2, first2, size2, ne2, ent2, nI P, who2, at2, lea, nI P, K2, L2, C2, H2, R2, M2, AO2, LI2, MI2, com2, bt2, fm2, fb2, lb2, mw2, mt2, pk, bp, mz_bm (x := ((1 : Int32), sl, ld, unr2, due2, busy2, felt2, lost2, first2, size2, ne2, ent2)) ?_ w2 (Nat.le_refl _), rfl, w2, w3, w4, x4⟩
    dsimp only
    rw [g1, bd_some, room_eq hk g3, if_neg rm, bd_some, if_pos rfl]
