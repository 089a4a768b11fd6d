/-! ===== all that holds between class and reference ===== -/
def lsI : List Int32 → Nat → Int32
  | [], _ => 0
  | x :: _, 0 => x
  | _ :: t, k + 1 => lsI t k
def lsA : List (Nat → Int32) → Nat → Nat → Int32
  | [], _ => fun _ => 0
  | x :: _, 0 => x
  | _ :: t, k + 1 => lsA t k
def BegR (typed : Int32) (text : Nat → Int32) (who rea las : Int32) : Prop :=
  ∀ (j : Nat) (pe : Int32) (k l c h r m ao li mi com bt fm fb lb : Nat → Int32), j ≤ 2 → ∃ w, fM_beginOf (nI j) typed pe text k l c h r m ao li mi com bt fm fb lb = some ((if j = 0 then who else if j = 1 then rea else las), w)
/-- with a sleeper: when each feels it first -/
def SlpR (fi se wh people scarves main : Int32) (K L H S times : Nat → Int32) : Prop :=
  ∀ (K' L' C' H' R' M' com bt fm fb lb : Nat → Int32) (n z : Nat), people = nI n → n ≤ 20 → z < n → ParR people scarves main K L H S K' L' C' H' R' M' → ∃ (com2 bt2 fm2 fb2 lb2 : Nat → Int32), fM_runs fi se wh (nI z) people K' L' C' H' R' com bt fm fb lb = some (com2, bt2, fm2, fb2, lb2) ∧ (∀ p, p < n → fM_feltBy (nI p) 0 fm2 fb2 = some (times (20 * z + p))) ∧ ∀ p, n ≤ p → p < 20 → times (20 * z + p) = -1
def RelB (ci : Nat → Int32) (ca : Nat → Nat → Int32) (ne : Nat) (mi : Nat → Int32) (ma : Nat → Nat → Int32) : Prop :=
  (64 ≤ ne ∧ ne ≤ 70000) ∧ RHear (ci 26) (ca 22) (ca 23) (mi 3) (ma 21) (ma 22) ∧ RLim (ci 23) (ci 24) (ci 25) (ma 11) ∧ RSet (ci 0) (ci 1) (ci 2) (ma 10) ∧ RShe (ci 28) (ca 28) (ca 29) (ca 30) (mi 5) (ma 26) (ma 27) (ma 28) (ma 29) ∧ RReg (ci 27) (ca 24) (ca 25) (ca 26) (mi 4) (ma 23) (ma 24) (ma 25) ∧
  (∃ len : Nat, len ≤ 60 ∧ ci 5 = nI len ∧ mi 0 = nI len ∧ ca 0 = ma 0) ∧ Parsed (mi 0) (ma 0) (ci 6) (ci 7) (ci 8) (ci 9) (ca 1) (ca 2) (ca 3) (ca 4) ∧
  RTol (ci 3) (mi 0) (ma 0) (ma 10) (ci 6) (ci 7) (ci 8) (ca 1) (ca 2) (ca 3) (ca 4) (ci 12) (ca 8) (ca 9) (ca 10) (ca 11) (ci 13) ne (ca 12) ∧
  (ci 20 = 0 ∨ (ci 20 = 1 ∧ BegR (mi 0) (ma 0) (ci 17) (ci 18) (ci 19))) ∧ (ci 21 = 0 ∨ (ci 21 = 1 ∧ SlpR (ci 0) (ci 1) (ci 2) (ci 6) (ci 7) (ci 8) (ca 1) (ca 2) (ca 3) (ca 4) (ca 18)))
theorem RelB_ne {ci : Nat → Int32} {ca : Nat → Nat → Int32} {ne : Nat} {mi : Nat → Int32} {ma : Nat → Nat → Int32} (h : RelB ci ca ne mi ma) : 64 ≤ ne ∧ ne ≤ 70000 := h.1
abbrev told12 : Type := Int32 × Int32 × Int32 × Int32 × (Nat → Int32) × (Nat → Int32) × (Nat → Int32) × (Nat → Int32) × (Nat → Int32) × Int32 × Nat × (Nat → Int32)
abbrev lays15 : Type := Int32 × (Nat → Int32) × (Nat → Int32) × (Nat → Int32) × (Nat → Int32) × (Nat → Int32) × (Nat → Int32) × (Nat → Int32) × (Nat → Int32) × (Nat → Int32) × (Nat → Int32) × (Nat → Int32) × (Nat → Int32) × (Nat → Int32) × (Nat → Int32)
/-- a question to the squeeze as told: both answer the same -/
theorem told_q {typed : Int32} {text : Nat → Int32} {people scarves main fault : Int32} {K L H S : Nat → Int32} (hP : Parsed typed text people scarves main fault K L H S) {fi se wh : Int32} {set : Nat → Int32} (hS : RSet fi se wh set) {ran : Int32} {unr : Int32} {busy felt lost first : Nat → Int32} {size : Int32} {ne : Nat} {ent : Nat → Int32} (hT : RTol ran typed text set people scarves main K L H S unr busy felt lost first size ne ent) (hn : 64 ≤ ne ∧ ne ≤ 70000) (sl0 ld0 : Int32) (due : Nat → Int32) (pe : Int32) (k l c h r m ao li mi com bt fm fb lb : Nat → Int32)
    (G : told12 → Option (Int32 × told12)) (F : lays15 → Option (Int32 × lays15))
    (hq : ∀ (sl ld unr2 : Int32) (due2 busy2 felt2 lost2 first2 : Nat → Int32) (size2 : Int32) (ne2 : Nat) (ent2 : Nat → Int32) (n : Nat) (K' L' C' H' R' M' AO LI MI com2 bt2 fm2 fb2 lb2 : Nat → Int32), ne2 ≤ 70000 → people = nI n → n ≤ 20 → ParR people scarves main K L H S K' L' C' H' R' M' → TolS n unr2 busy2 felt2 lost2 first2 size2 ne2 ent2 bt2 fm2 fb2 lb2 → ∃ a : Int32, G (1, sl, ld, unr2, due2, busy2, felt2, lost2, first2, size2, ne2, ent2) = some (a, 1, sl, ld, unr2, due2, busy2, felt2, lost2, first2, size2, ne2, ent2) ∧ F (nI n, K', L', C', H', R', M', AO, LI, MI, com2, bt2, fm2, fb2, lb2) = some (a, nI n, K', L', C', H', R', M', AO, LI, MI, com2, bt2, fm2, fb2, lb2)) :
    ∃ (a sl ld unr2 : Int32) (due2 busy2 felt2 lost2 first2 : Nat → Int32) (size2 : Int32) (ne2 : Nat) (ent2 : Nat → Int32) (w : lays15), mz ne (fun u => u.2.2.2.2.2.2.2.2.2.2.2.1) (bm ne (fun u => u.2.2.2.2.2.2.2.2.2.2.1) (fun u => u.2.2.2.2.2.2.2.2.2.2.2.1) (fC_asTold fi se wh ran people K L H S sl0 ld0 unr due busy felt lost first size ne ent) G) = some (a, 1, sl, ld, unr2, due2, busy2, felt2, lost2, first2, size2, ne2, ent2) ∧ bd (fM_lays typed pe text k l c h r m ao li mi set com bt fm fb lb) F = some (a, w) ∧ ne ≤ ne2 ∧ ne2 ≤ 70000 ∧ TolR typed text set people scarves main K L H S unr2 busy2 felt2 lost2 first2 size2 ne2 ent2 := by
  obtain ⟨sl, ld, unr2, due2, busy2, felt2, lost2, first2, size2, ne2, ent2, w1, w2, w3, w4⟩ := asTold_ok (len := (typed, text)) (text := (typed, text)) hP hS hT hn.1 hn.2 sl0 ld0 due
  obtain ⟨K', L', C', H', R', M', AO, LI, MI, com2, bt2, fm2, fb2, lb2, n, x1, x2, x3, x4, x5⟩ := w4 pe k l c h r m ao li mi com bt fm fb lb
  obtain ⟨a, y1, y2⟩ := hq sl ld unr2 due2 busy2 felt2 lost2 first2 size2 ne2 ent2 n K' L' C' H' R' M' AO LI MI com2 bt2 fm2 fb2 lb2 w3 x2 x3 x4 x5
  refine ⟨a, sl, ld, unr2, due2, busy2, felt2, lost2, first2, size2, ne2, ent2, (nI n, K', L', C', H', R', M', AO, LI, MI, com2, bt2, fm2, fb2, lb2), ?_, ?_, w2, w3, w4⟩
  · rw [w1]
    exact mz_bm (x := ((1 : Int32), sl, ld, unr2, due2, busy2, felt2, lost2, first2, size2, ne2, ent2)) y1 w2 (Nat.le_refl _)
  · have x1' : fM_lays typed pe text k l c h r m ao li mi set com bt fm fb lb = some (nI n, K', L', C', H', R', M', AO, LI, MI, com2, bt2, fm2, fb2, lb2) := x1
    rw [x1', bd_some]
    exact y2
/-- is it one of the row -/
theorem isP {typed : Int32} {text : Nat → Int32} {people scarves main fault : Int32} {K L H S : Nat → Int32} (hP : Parsed typed text people scarves main fault K L H S) (a1 pe : Int32) (k l c h r m ao li mi : Nat → Int32) :
    ∃ (K' L' C' H' R' M' AO LI MI : Nat → Int32) (n : Nat), people = nI n ∧ n ≤ 20 ∧ ParR people scarves main K L H S K' L' C' H' R' M' ∧ ((∃ p : Nat, p < n ∧ a1 = nI p ∧ fC_isPerson a1 people = some 1 ∧ fM_isPerson a1 typed pe text k l c h r m ao li mi = some (1, people, K', L', C', H', R', M', AO, LI, MI)) ∨ (fC_isPerson a1 people = some 0 ∧ fM_isPerson a1 typed pe text k l c h r m ao li mi = some (0, people, K', L', C', H', R', M', AO, LI, MI))) := by
  obtain ⟨K', L', C', H', R', M', AO, LI, MI, p1, p2⟩ := hP pe k l c h r m ao li mi
  obtain ⟨n, sc, mn, hd, sl, rg, kd, lt, r1, r2, r3, r4, r5⟩ := ParR_row p2
  refine ⟨K', L', C', H', R', M', AO, LI, MI, n, r1, r2, p2, ?_⟩
  unfold fC_isPerson fM_isPerson
  rw [p1, bd_some]
  dsimp only
  rw [r1]
  rcases ix0 a1 n (by omega) with e | e | ⟨p, hp, rfl⟩
  · right
    have z : fM_in a1 0 (nI n - 1) = some 0 := by
      rw [M_in_eq, if_neg (fun w => o_ltn e w.1)]
    rw [if_pos e, z, bd_some, bz_01 (Or.inl rfl)]
    exact ⟨rfl, rfl⟩
  · right
    have z : fM_in a1 0 (nI n - 1) = some 0 := by
      rw [M_in_eq, if_neg (fun w => ?_)]
      rcases Nat.eq_zero_or_pos n with q | q
      · rw [q, show nI 0 - 1 = (-1 : Int32) by decide] at w
        exact absurd (o_tr w.1 w.2) (by decide)
      · rw [show (1 : Int32) = nI 1 from rfl, pk_sub (by omega)] at w
        exact absurd (o_tr e w.2) (nI_ge (by omega) (by omega))
    rw [if_neg (fun w => o_ltn w (o_tr (nI_pos' (show n < 2 ^ 31 by omega)) e)), if_pos e, z, bd_some, bz_01 (Or.inl rfl)]
    exact ⟨rfl, rfl⟩
  · left
    refine ⟨p, hp, rfl, ?_, ?_⟩
    · rw [if_neg (nI_pos (by omega)), if_neg (nI_ge hp (by omega))]
    · rw [inP (by omega) r2, if_pos hp, bd_some, bz_01 (Or.inr rfl)]
