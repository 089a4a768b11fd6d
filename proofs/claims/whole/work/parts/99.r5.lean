/-! ===== the squeeze as told ===== -/
theorem c30 {α : Type} {k : Option α} : ck 3 0 k = k := ck_nI (n := 3) (j := 0) (by decide) (by decide)
theorem c31 {α : Type} {k : Option α} : ck 3 1 k = k := ck_nI (n := 3) (j := 1) (by decide) (by decide)
theorem c32 {α : Type} {k : Option α} : ck 3 2 k = k := ck_nI (n := 3) (j := 2) (by decide) (by decide)
theorem mz_bm {α β : Type} {n0 : Nat} {f : β → Nat} {g : α → Nat} {x : β} {k : β → Option α} {u : α} (hk : k x = some u) (h1 : n0 ≤ f x) (h2 : f x ≤ g u) : mz n0 g (bm n0 f g (some x) k) = some u := by
  rw [bm_some hk h1 h2]
  exact mz_some (Nat.le_trans h1 h2)
def TolS (n : Nat) (unr : Int32) (busy felt lost first : Nat → Int32) (size : Int32) (ne : Nat) (ent : Nat → Int32) (bt fm fb lb : Nat → Int32) : Prop :=
  ∃ (s : Nat) (E : Nat → Nat) (Fl : Nat → Bool) (fe lo : Nat → Nat → Nat) (bu : Nat → Nat), SqN (440 * 401) s E Fl fe lo ∧ SqC n s E Fl bu unr busy felt lost first ∧ SqM n s E Fl bu fe lo bt fm fb lb ∧ DiR s E Fl size ent ∧ EvN n s E ∧ s ≤ ne
def TolR (typed : Int32) (text set : Nat → Int32) (people scarves main : Int32) (K L H S : Nat → Int32) (unr : Int32) (busy felt lost first : Nat → Int32) (size : Int32) (ne : Nat) (ent : Nat → Int32) : Prop :=
  ∀ (pe : Int32) (k l c h r m ao li mi com bt fm fb lb : Nat → Int32), ∃ (K' L' C' H' R' M' AO LI MI com2 bt2 fm2 fb2 lb2 : Nat → Int32) (n : Nat), fM_lays typed pe text k l c h r m ao li mi set com bt fm fb lb = some (nI n, K', L', C', H', R', M', AO, LI, MI, com2, bt2, fm2, fb2, lb2) ∧ people = nI n ∧ n ≤ 20 ∧ ParR people scarves main K L H S K' L' C' H' R' M' ∧ TolS n unr busy felt lost first size ne ent bt2 fm2 fb2 lb2
/-- is it run, and as told -/
def RTol (ran typed : Int32) (text set : Nat → Int32) (people scarves main : Int32) (K L H S : Nat → Int32) (unr : Int32) (busy felt lost first : Nat → Int32) (size : Int32) (ne : Nat) (ent : Nat → Int32) : Prop :=
  ran = 0 ∨ (ran = 1 ∧ TolR typed text set people scarves main K L H S unr busy felt lost first size ne ent)
theorem ParR_row {people scarves main : Int32} {K L H S K' L' C' H' R' M' : Nat → Int32} (h : ParR people scarves main K L H S K' L' C' H' R' M') : ∃ (n sc mn : Nat) (hd sl rg kd lt : Nat → Nat), people = nI n ∧ n ≤ 20 ∧ main = nI mn ∧ RowR n sc mn hd sl rg kd lt K L H S K' L' C' H' R' M' ∧ fb_sm (fun p => pcN (hd p)) n ≤ 60 := by
  obtain ⟨n, sc, mn, hd, sl, rg, kd, lt, h1, h2, h3, h4, h5, h6, h7⟩ := h
  exact ⟨n, sc, mn, hd, sl, rg, kd, lt, h1, h4.1, h3, ⟨h4, fun p hp => ⟨(h6 p hp).1, (h6 p hp).2.1⟩, fun p hp => ⟨(h6 p hp).2.2.1, (h6 p hp).2.2.2⟩, h7⟩, h5⟩
theorem nIn {a b : Nat} (ha : a ≤ 20) (hb : b ≤ 20) (h : nI a = nI b) : a = b := (nI_eq (by omega) (by omega)).mp h
theorem asTold_ok {len text : Int32 × (Nat → Int32)} {people scarves main fault : Int32} {K L H S : Nat → Int32} (hP : Parsed len.1 text.2 people scarves main fault K L H S) {fi se wh : Int32} {set : Nat → Int32} (hS : RSet fi se wh set) {ran : Int32} {unr : Int32} {busy felt lost first : Nat → Int32} {size : Int32} {ne : Nat} {ent : Nat → Int32} (hT : RTol ran len.1 text.2 set people scarves main K L H S unr busy felt lost first size ne ent) (hn1 : 64 ≤ ne) (hn2 : ne ≤ 70000) (sl0 ld0 : Int32) (due : Nat → Int32) :
    ∃ (sl ld unr2 : Int32) (due2 busy2 felt2 lost2 first2 : Nat → Int32) (size2 : Int32) (ne2 : Nat) (ent2 : Nat → Int32), fC_asTold fi se wh ran people K L H S sl0 ld0 unr due busy felt lost first size ne ent = some (1, sl, ld, unr2, due2, busy2, felt2, lost2, first2, size2, ne2, ent2) ∧ ne ≤ ne2 ∧ ne2 ≤ 70000 ∧ TolR len.1 text.2 set people scarves main K L H S unr2 busy2 felt2 lost2 first2 size2 ne2 ent2 := by
  have z1 : ¬ (1 : Int32) = 0 := by decide
  unfold fC_asTold fC_asTold_32
  rcases hT with e | ⟨e, hT⟩
  · subst e
    obtain ⟨s0, s1, s2, ⟨a, ha, hfi⟩, hse, ⟨w, hw, hwh⟩⟩ := hS
    have g0 : ∀ α : Type, α → α := fun _ x => x
    have z : Nat → Int32 := fun _ => 0
    obtain ⟨K0, L0, C0, H0, R0, M0, AO0, LI0, MI0, p1, p2⟩ := hP 0 z z z z z z z z z
    obtain ⟨n, sc, mn, hd, sl, rg, kd, lt, r1, r2, r3, r4, r5⟩ := ParR_row p2
    obtain ⟨an, sen, hset⟩ := SetR_of n hse
    obtain ⟨ld2, sN, E2, Fl2, fe2, lo2, bu2, unr2, due2, com2, busy2, felt2, lost2, first2, busyM2, feltM2, fB2, lB2, size2, ne2, ent2, w1, w2, w3, w4, w5, w6, w7, w8, w9, w10⟩ := run_T r4 r5 ha hw hset (-1) sl0 ld0 unr due busy felt lost first size ent hn1 hn2 z z z z z
    refine ⟨-1, ld2, unr2, due2, busy2, felt2, lost2, first2, size2, ne2, ent2, ?_, w9, w10, ?_⟩
    · rw [if_pos rfl, hfi, hwh, r1, w1]
      exact mz_bm (x := ((-1 : Int32), ld2, unr2, due2, busy2, felt2, lost2, first2, size2, ne2, ent2)) (u := ((1 : Int32), (-1 : Int32), ld2, unr2, due2, busy2, felt2, lost2, first2, size2, ne2, ent2)) rfl w9 (Nat.le_refl _)
    · intro pe k l c h r m ao li mi com bt fm fb lb
      obtain ⟨K1, L1, C1, H1, R1, M1, AO1, LI1, MI1, q1, q2⟩ := hP pe k l c h r m ao li mi
      obtain ⟨n', sc', mn', hd', sl', rg', kd', lt', t1, t2, t3, t4, t5⟩ := ParR_row q2
      have en : n' = n := nIn t2 r2 (by rw [← t1, ← r1])
      subst en
      obtain ⟨ld3, s3, E3, Fl3, fe3, lo3, bu3, unr3, due3, com3, busy3, felt3, lost3, first3, busyM3, feltM3, fB3, lB3, size3, ne3, ent3, v1, v2, v3, v4, v5, v6, v7, v8, v9, v10⟩ := run_T t4 t5 ha hw hset (-1) sl0 ld0 unr due busy felt lost first size ent hn1 hn2 com bt fm fb lb
      have same := w1.symm.trans v1
      simp only [Option.some.injEq, Prod.mk.injEq, true_and] at same
      obtain ⟨x1, x2, x3, x4, x5, x6, x7, x8, x9, x10⟩ := same
      subst x2 x4 x5 x6 x7 x8 x9 x10
      refine ⟨K1, L1, C1, H1, R1, M1, AO1, LI1, MI1, com3, busyM3, feltM3, fB3, lB3, n', ?_, r1, r2, q2, ⟨s3, E3, Fl3, fe3, lo3, bu3, v3, v4, v5, v6, v7, v8⟩⟩
      unfold fM_lays
      have i0 : (0 : Int32).toNatClampNeg = 0 := by decide
      have i1 : (1 : Int32).toNatClampNeg = 1 := by decide
      have i2 : (2 : Int32).toNatClampNeg = 2 := by decide
      rw [q1, bd_some, i0, i1, i2, c30, c31, c32, s0, s1, s2, hfi, hwh]
      dsimp only
      rw [t1, v2, bd_some]
  · subst e
    rw [if_neg z1]
    exact ⟨_, _, _, _, _, _, _, _, _, _, _, mz_some (show ne ≤ ne from Nat.le_refl _), Nat.le_refl _, hn2, hT⟩
