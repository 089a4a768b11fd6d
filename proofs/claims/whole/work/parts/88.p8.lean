/-! ===== a person is read ===== -/
section rows2
variable {len a d n sc mn : Nat} {hd sl rg kd lt la au cnt : Nat → Nat} {K L H S A D K' L' C' H' R' M' AO LI MI text : Nat → Int32}
/-- scarf's flag as an int -/
def sfI (sf : Bool) : Int32 := if sf then 1 else 0
theorem sfI_0 (sf : Bool) : (sfI sf = 0) = (sf = false) := by cases sf <;> simp [sfI]
/-- one more: both sides -/
theorem row_add (h : RowI a d n sc mn hd sl rg kd lt la au cnt K L H S A D K' L' C' H' R' M' AO LI MI) (hn : n < 20) {k l : Nat} (hk : k < 4) (h1 : 1 ≤ l) (h9 : l ≤ 9) (sf : Bool) {a2 : Nat} (ha2 : a + 2 ≤ a2) :
    ∃ (sc2 mn2 : Nat) (hd2 sl2 rg2 kd2 lt2 la2 cnt2 : Nat → Nat) (K2 L2 H2 S2 A2 D2 K2' L2' C2' H2' R2' M2' LI2 MI2 : Nat → Int32),
      fR_addPerson (nI k) (nI l) (sfI sf) (nI d) (nI n) (nI sc) (nI mn) K L H S A D = some (nI (n + 1), nI sc2, nI mn2, K2, L2, H2, S2, A2, D2) ∧
      (∀ (kk : rdK) (at0 : Int32), (ck 20 (nI n) (ck 20 (nI n) (ck 20 (nI n) (ck 20 (nI n) (ck 20 (nI n) ((if nI d = 0 then fM_reads_374 kk (nI d) at0 (nI n) (nI n) 1 (nI len) (nI n) text (upd K' (nI n).toNatClampNeg (nI k)) (upd L' (nI n).toNatClampNeg (nI l)) (upd C' (nI n).toNatClampNeg (sfI sf)) (upd H' (nI n).toNatClampNeg 0) (upd R' (nI n).toNatClampNeg 0) M' AO LI MI else fM_reads_374 kk (nI d) at0 (nI n) (nI n) 0 (nI len) (nI n) text (upd K' (nI n).toNatClampNeg (nI k)) (upd L' (nI n).toNatClampNeg (nI l)) (upd C' (nI n).toNatClampNeg (sfI sf)) (upd H' (nI n).toNatClampNeg 0) (upd R' (nI n).toNatClampNeg 0) M' AO LI MI))))))) = kk (nI d) (at0 + 2) (nI (n + 1)) K2' L2' C2' H2' R2' M2' AO LI2 MI2) ∧
      RowI a2 d (n + 1) sc2 mn2 hd2 sl2 rg2 kd2 lt2 la2 au cnt2 K2 L2 H2 S2 A2 D2 K2' L2' C2' H2' R2' M2' AO LI2 MI2 := by
  obtain ⟨hN, hV, hB, hC, hM, hLC, hLM⟩ := h
  have hd3 := hV.1
  obtain ⟨c1, c2⟩ := hLC d (Nat.le_refl d)
  obtain ⟨m1, m2, m3⟩ := hLM d (Nat.le_refl d)
  obtain ⟨v1, v2⟩ := hV.2.1 d (Nat.le_refl d)
  have z := hN.2.2.2.2.2.2 n (Nat.le_refl n)
  have z1 : ¬ (1 : Int32) = 0 := by decide
  -- pieces that don't hang on who is ahead
  have cKL : ∀ p, p < n + 1 → upd K n (nI k) p = nI (upN kd n k p) ∧ upd L n (nI l) p = nI (upN lt n l p) := by
    intro p hp
    by_cases e : p = n
    · subst e; rw [pk_us, pk_us, upN_s, upN_s]; exact ⟨rfl, rfl⟩
    · rw [pk_un e, pk_un e, upN_n _ e, upN_n _ e]; exact hC.2.2 p (by omega)
  have mKL : ∀ p, p < n + 1 → upd K' n (nI k) p = nI (upN kd n k p) ∧ upd L' n (nI l) p = nI (upN lt n l p) ∧ upd C' n (sfI sf) p = nI (if (scN sc n sf).testBit p then 1 else 0) ∧ upd M' n (if nI d = 0 then 1 else 0) p = nI (if (scN mn n (decide (d = 0))).testBit p then 1 else 0) := by
    intro p hp
    by_cases e : p = n
    · subst e
      rw [pk_us, pk_us, pk_us, pk_us, upN_s, upN_s, scN_bit, scN_bit, tb_lt hN.2.1 (Nat.le_refl _), tb_lt hN.2.2.1 (Nat.le_refl _)]
      refine ⟨rfl, rfl, ?_, ?_⟩
      · cases sf <;> simp [sfI] <;> rfl
      · by_cases e0 : d = 0
        · subst e0; rw [if_pos (show nI 0 = 0 from rfl), if_pos (by simp)]; rfl
        · rw [if_neg (nI_ne0 (by omega) (by omega))]
          simp [e0]
          rfl
    · rw [pk_un e, pk_un e, pk_un e, pk_un e, upN_n _ e, upN_n _ e, scN_bit, scN_bit]
      obtain ⟨y1, y2, y3, y4⟩ := hM.2.2 p (by omega)
      refine ⟨y1, y2, ?_, ?_⟩
      · rw [y3]; simp [e]
      · rw [y4]; simp [e]
  have mR : ∀ p, p < n + 1 → upd R' n 0 p = nI (upN rg n 0 p) := by
    intro p hp
    by_cases e : p = n
    · subst e; rw [pk_us, upN_s]; rfl
    · rw [pk_un e, upN_n _ e]; exact hM.2.1 p (by omega)
  have mH0 : ∀ p, p < n + 1 → upd H' n 0 p = nI (hd p) := by
    intro p hp
    by_cases e : p = n
    · subst e; rw [pk_us, z.1]; rfl
    · rw [pk_un e]; exact hM.1 p (by omega)
  have eSc : (if sfI sf = 0 then nI sc else nI sc ||| ((1 : Int32) <<< (nI n &&& 31))) = nI (scN sc n sf) := by
    cases sf
    · rfl
    · rw [if_neg (show ¬ sfI true = 0 by decide), orbit (by omega)]; rfl
  have eMn : (if nI d = 0 then nI mn ||| ((1 : Int32) <<< (nI n &&& 31)) else nI mn) = nI (scN mn n (decide (d = 0))) := by
    by_cases e0 : d = 0
    · subst e0; rw [if_pos (show nI 0 = 0 from rfl), orbit (by omega)]; rfl
    · rw [if_neg (nI_ne0 (by omega) (by omega))]; unfold scN; simp [e0]
  -- the class, up to the hands
  have cls : fR_addPerson (nI k) (nI l) (sfI sf) (nI d) (nI n) (nI sc) (nI mn) K L H S A D = fR_addPerson_69 (sfI sf) (nI n) (nI d) (nI (n + 1)) (nI (scN sc n sf)) (nI (scN mn n (decide (d = 0)))) (upd K n (nI k)) (upd L n (nI l)) H S A D := by
    unfold fR_addPerson fR_addPerson_49
    rw [ck_nI hn (by decide), ck_nI hn (by decide), nI_1, nI_clamp (show n < 2 ^ 31 by omega), ← eSc, ← eMn]
    by_cases s0 : sfI sf = 0
    · rw [if_pos s0, if_pos s0]
      by_cases e0 : nI d = 0
      · rw [if_pos e0, if_pos e0]
      · rw [if_neg e0, if_neg e0]
    · rw [if_neg s0, if_neg s0]
      by_cases e0 : nI d = 0
      · rw [if_pos e0, if_pos e0]
      · rw [if_neg e0, if_neg e0]
  have mod : ∀ (kk : rdK) (at0 : Int32), (ck 20 (nI n) (ck 20 (nI n) (ck 20 (nI n) (ck 20 (nI n) (ck 20 (nI n) ((if nI d = 0 then fM_reads_374 kk (nI d) at0 (nI n) (nI n) 1 (nI len) (nI n) text (upd K' (nI n).toNatClampNeg (nI k)) (upd L' (nI n).toNatClampNeg (nI l)) (upd C' (nI n).toNatClampNeg (sfI sf)) (upd H' (nI n).toNatClampNeg 0) (upd R' (nI n).toNatClampNeg 0) M' AO LI MI else fM_reads_374 kk (nI d) at0 (nI n) (nI n) 0 (nI len) (nI n) text (upd K' (nI n).toNatClampNeg (nI k)) (upd L' (nI n).toNatClampNeg (nI l)) (upd C' (nI n).toNatClampNeg (sfI sf)) (upd H' (nI n).toNatClampNeg 0) (upd R' (nI n).toNatClampNeg 0) M' AO LI MI))))))) = fM_reads_400 kk (nI d) at0 (nI n) (if 1 ≤ cnt d then nI (la d) else AO d) (nI len) (nI n) text (upd K' n (nI k)) (upd L' n (nI l)) (upd C' n (sfI sf)) (upd H' n 0) (upd R' n 0) (upd M' n (if nI d = 0 then 1 else 0)) AO LI MI := by
    intro kk at0
    have lm : ∀ x : Int32, fM_reads_374 kk (nI d) at0 (nI n) (nI n) x (nI len) (nI n) text (upd K' n (nI k)) (upd L' n (nI l)) (upd C' n (sfI sf)) (upd H' n 0) (upd R' n 0) M' AO LI MI = fM_reads_400 kk (nI d) at0 (nI n) (if 1 ≤ cnt d then nI (la d) else AO d) (nI len) (nI n) text (upd K' n (nI k)) (upd L' n (nI l)) (upd C' n (sfI sf)) (upd H' n 0) (upd R' n 0) (upd M' n x) AO LI MI := by
      intro x
      unfold fM_reads_374
      rw [ck_nI hn (by decide), ck_nI (show d < 4 by omega) (by decide), nI_clamp (show d < 2 ^ 31 by omega), nI_clamp (show n < 2 ^ 31 by omega), m2]
      by_cases p1 : 1 ≤ cnt d
      · rw [if_pos p1, if_neg (nI_ne_m1 (show la d < 2 ^ 31 by have := v2 p1; omega)), ck_nI (show d < 4 by omega) (by decide), if_pos p1]
      · rw [if_neg p1, if_pos rfl, ck_nI (show d < 4 by omega) (by decide), if_neg p1]
    rw [ck_nI hn (by decide), ck_nI hn (by decide), ck_nI hn (by decide), ck_nI hn (by decide), ck_nI hn (by decide), nI_clamp (show n < 2 ^ 31 by omega)]
    by_cases e0 : nI d = 0
    · rw [if_pos e0, if_pos e0, lm]
    · rw [if_neg e0, if_neg e0, lm]
  have fin : ∀ (hd2 sl2 : Nat → Nat) (H2 S2 H2' : Nat → Int32), PeoN (n + 1) (scN sc n sf) (scN mn n (decide (d = 0))) hd2 sl2 (upN rg n 0) (upN kd n k) (upN lt n l) → LevN (n + 1) d hd2 (upN la d n) au (upN cnt d (cnt d + 1)) → fb_sm (fun p => pcN (hd2 p)) (n + 1) + d ≤ a2 → (∀ p, p < 20 → H2 p = nI (hd2 p)) → (∀ p, p < 20 → S2 p = nI (sl2 p)) → (∀ p, p < n + 1 → H2' p = nI (hd2 p)) → RowI a2 d (n + 1) (scN sc n sf) (scN mn n (decide (d = 0))) hd2 sl2 (upN rg n 0) (upN kd n k) (upN lt n l) (upN la d n) au (upN cnt d (cnt d + 1)) (upd K n (nI k)) (upd L n (nI l)) H2 S2 (upd A d (nI n)) (upd D d (nI (cnt d) + 1)) (upd K' n (nI k)) (upd L' n (nI l)) (upd C' n (sfI sf)) H2' (upd R' n 0) (upd M' n (if nI d = 0 then 1 else 0)) AO (upd LI d (nI n)) (upd MI d (nI (cnt d) + 1)) :=
    fun hd2 sl2 H2 S2 H2' g1 g2 g3 g4 g5 g6 => ⟨g1, g2, g3, ⟨g4, g5, cKL⟩, ⟨g6, mR, mKL⟩, LevC_add hLC, LevM_add hLM⟩
  have c98 : ∀ (x1 x2 : Int32) (KK LL HH SS : Nat → Int32), fR_addPerson_98 (nI n) (nI d) (nI (n + 1)) x1 x2 KK LL HH SS A D = some (nI (n + 1), x1, x2, KK, LL, HH, SS, upd A d (nI n), upd D d (nI (cnt d) + 1)) := by
    intro x1 x2 KK LL HH SS
    unfold fR_addPerson_98
    rw [ck_nI (show d < 4 by omega) (by decide), ck_nI (show d < 4 by omega) (by decide), ck_nI (show d < 4 by omega) (by decide), nI_clamp (show d < 2 ^ 31 by omega), c1]
  have m416 : ∀ (kk : rdK) (at0 : Int32) (KK LL CC HH RR MM : Nat → Int32), fM_reads_416 kk (nI d) at0 (nI n) (nI len) (nI n) text KK LL CC HH RR MM AO LI MI = kk (nI d) (at0 + 2) (nI (n + 1)) KK LL CC HH RR MM AO (upd LI d (nI n)) (upd MI d (nI (cnt d) + 1)) := by
    intro kk at0 KK LL CC HH RR MM
    unfold fM_reads_416 fM_reads_447
    rw [ck_nI (show d < 4 by omega) (by decide), ck_nI (show d < 4 by omega) (by decide), ck_nI (show d < 4 by omega) (by decide), nI_clamp (show d < 2 ^ 31 by omega), m1, nI_1]
  have s0 : fb_sm (fun p => pcN (hd p)) (n + 1) = fb_sm (fun p => pcN (hd p)) n := by
    rw [fb_sm_succ, z.1, pcN_0, Nat.add_zero]
  by_cases nob : cnt d = 0 ∧ d = 0
  · -- behind nobody
    obtain ⟨e1, e2⟩ := nob
    have eA : A d = -1 := by rw [c2, if_neg (by omega), if_pos e2]
    have eO : AO d = -1 := by rw [m3, if_pos e2]
    refine ⟨_, _, hd, sl, upN rg n 0, upN kd n k, upN lt n l, upN la d n, upN cnt d (cnt d + 1), upd K n (nI k), upd L n (nI l), H, S, upd A d (nI n), upd D d (nI (cnt d) + 1), upd K' n (nI k), upd L' n (nI l), upd C' n (sfI sf), upd H' n 0, upd R' n 0, upd M' n (if nI d = 0 then 1 else 0), upd LI d (nI n), upd MI d (nI (cnt d) + 1), ?_, fun kk at0 => ?_, fin hd sl H S (upd H' n 0) (PeoN_add0 hN hn hk h1 h9 sf _) (LevN_add hV hd (fun _ _ _ _ => rfl) (fun w => by omega)) (by omega) hC.1 hC.2.1 mH0⟩
    · rw [cls]
      unfold fR_addPerson_69
      rw [ck_nI (show d < 4 by omega) (by decide), nI_clamp (show d < 2 ^ 31 by omega), if_pos eA, c98]
    · rw [mod, if_neg (show ¬ 1 ≤ cnt d by omega), eO]
      unfold fM_reads_400
      rw [if_pos rfl, m416]
  · -- behind q
    obtain ⟨q, hq, eA, eX, hnew⟩ : ∃ q : Nat, q < n ∧ A d = nI q ∧ (if 1 ≤ cnt d then nI (la d) else AO d) = nI q ∧ (1 ≤ cnt d → 1 ≤ d → q ≠ au d) := by
      by_cases p1 : 1 ≤ cnt d
      · exact ⟨la d, v2 p1, by rw [c2, if_pos p1], by rw [if_pos p1], fun _ w => by have := (hV.2.2 d w (Nat.le_refl d)).2.2.1 p1; omega⟩
      · have dp : 1 ≤ d := by omega
        obtain ⟨g1, g2, g3, g4⟩ := hV.2.2 d dp (Nat.le_refl d)
        have g5 := (hV.2.1 (d - 1) (by omega)).2 g1
        exact ⟨la (d - 1), g5, by rw [c2, if_neg p1, if_neg (by omega)], by rw [if_neg p1, m3, if_neg (by omega), g2], fun w => absurd w p1⟩
    have ne : n ≠ q := by omega
    have n20 : n + 1 ≤ 20 := hn
    have hSl : ∀ p, p < 20 → (if sfI sf = 0 then S else upd (upd S n (S n ||| (1 <<< (nI q &&& 31)))) q ((upd S n (S n ||| (1 <<< (nI q &&& 31)))) q ||| (1 <<< (nI n &&& 31)))) p = nI ((if sf then set2 sl n q else sl) p) := by
      intro p hp
      cases sf
      · exact hC.2.1 p hp
      · rw [if_neg (show ¬ sfI true = 0 by decide)]
        exact set2_rep (by omega) (by omega) (Nat.le_refl _) ne hC.2.1 p hp
    refine ⟨_, _, set2 hd n q, (if sf then set2 sl n q else sl), upN rg n 0, upN kd n k, upN lt n l, upN la d n, upN cnt d (cnt d + 1), upd K n (nI k), upd L n (nI l), _, _, upd A d (nI n), upd D d (nI (cnt d) + 1), upd K' n (nI k), upd L' n (nI l), upd C' n (sfI sf), _, upd R' n 0, upd M' n (if nI d = 0 then 1 else 0), upd LI d (nI n), upd MI d (nI (cnt d) + 1), ?_, fun kk at0 => ?_, fin (set2 hd n q) _ _ _ _ (PeoN_add hN hn hq hk h1 h9 sf _) (LevN_add hV (set2 hd n q) (fun k i hk2 hi => ?_) (fun w1 w2 => ?_)) ?_ (set2_rep (by omega) (by omega) (Nat.le_refl _) ne hC.1) hSl (set2_rep (by omega) (by omega) n20 ne mH0)⟩
    · rw [cls]
      unfold fR_addPerson_69
      rw [ck_nI (show d < 4 by omega) (by decide), nI_clamp (show d < 2 ^ 31 by omega), eA, if_neg (nI_ne_m1 (by omega)), ck_nI (show d < 4 by omega) (by decide), R_hold (by omega) (by omega), bd_some, c98]
    · rw [mod, eX]
      unfold fM_reads_400
      rw [if_neg (nI_ne_m1 (by omega)), M_hold (by omega) (by omega), bd_some, m416]
    · rw [set2_bit hd ne, decide_eq_false (by omega), Bool.or_false]
    · have q2 := hnew w1 w2
      have a2n : au d < n := by
        obtain ⟨g1, g2, -⟩ := hV.2.2 d w2 (Nat.le_refl d)
        have := (hV.2.1 (d - 1) (by omega)).2 g1
        omega
      rw [set2_bit hd ne, set2_bit hd ne, z.1, Nat.zero_testBit, tb_lt (hN.2.2.2.1 (au d) a2n).2.2.2.1 (Nat.le_refl n)]
      exact ⟨by rw [decide_eq_false (by omega)]; rfl, by rw [decide_eq_false (by omega)]; rfl⟩
    · have := set2_sum hd (n := n + 1) (p := n) (q := q) (by omega) (by omega) ne
      omega
theorem row_person (h : RowI a d n sc mn hd sl rg kd lt la au cnt K L H S A D K' L' C' H' R' M' AO LI MI) (ha : a < len) (hl : len ≤ 60) (h40 : ¬ text a = 40) (h41 : ¬ text a = 41) (h111 : ¬ text a = 111) : StepP len a (fR_readNext (nI a) (nI d) (nI len) (nI n) (nI sc) (nI mn) (-1) text K L H S A D) (fun k => fM_reads_30_b k (nI len) text (nI d) (nI a) (nI n) K' L' C' H' R' M' AO LI MI) := by
  have hn20 := h.1.1
  have hd3 := h.2.1.1
  have z1 : ¬ (1 : Int32) = 0 := by decide
  -- the scarf
  obtain ⟨sf, hsf⟩ : ∃ sf : Bool, sf = decide (text a = 115) := ⟨_, rfl⟩
  have eM : ∀ k, fM_reads_30_b k (nI len) text (nI d) (nI a) (nI n) K' L' C' H' R' M' AO LI MI = fM_reads_229 k (nI d) (nI a) (text a) (sfI sf) (nI len) (nI n) text K' L' C' H' R' M' AO LI MI := by
    intro k
    unfold fM_reads_30_b
    rw [if_neg (nI_ge ha (show len < 2 ^ 31 by omega)), ck_nI (show a < 60 by omega) (by decide), nI_clamp (show a < 2 ^ 31 by omega), if_neg h40, if_neg h41, if_neg h111]
    by_cases e : text a = 115
    · rw [if_pos e, hsf, decide_eq_true e]; rfl
    · rw [if_neg e, hsf, decide_eq_false e]; rfl
  have eC : fR_readNext (nI a) (nI d) (nI len) (nI n) (nI sc) (nI mn) (-1) text K L H S A D = bd (fR_readPerson (nI a) (nI d) (nI len) (nI n) (nI sc) (nI mn) (-1) text K L H S A D) (fun u_7 => some (u_7.1, nI d, u_7.2.1, u_7.2.2.1, u_7.2.2.2.1, u_7.2.2.2.2.1, u_7.2.2.2.2.2.1, u_7.2.2.2.2.2.2.1, u_7.2.2.2.2.2.2.2.1, u_7.2.2.2.2.2.2.2.2.1, u_7.2.2.2.2.2.2.2.2.2.1, u_7.2.2.2.2.2.2.2.2.2.2)) := by
    unfold fR_readNext
    rw [ck_nI (show a < 60 by omega) (by decide), nI_clamp (show a < 2 ^ 31 by omega), if_neg h40, if_neg h41, if_neg h111]
  rw [eC, show (fun k => fM_reads_30_b k (nI len) text (nI d) (nI a) (nI n) K' L' C' H' R' M' AO LI MI) = (fun k => fM_reads_229 k (nI d) (nI a) (text a) (sfI sf) (nI len) (nI n) text K' L' C' H' R' M' AO LI MI) from funext eM]
  rcases Nat.lt_or_ge n 20 with hn | hn
  · -- there is room
    obtain ⟨at0, hat0⟩ : ∃ at0 : Nat, at0 = a + (if sf then 1 else 0) := ⟨_, rfl⟩
    have at1 : a ≤ at0 ∧ at0 ≤ a + 1 := by cases sf <;> simp at hat0 <;> omega
    have ePC : fR_readPerson (nI a) (nI d) (nI len) (nI n) (nI sc) (nI mn) (-1) text K L H S A D = fR_readPerson_43 (sfI sf) (nI at0) (nI d) (nI len) (nI n) (nI sc) (nI mn) (-1) text K L H S A D := by
      unfold fR_readPerson fR_readPerson_31
      rw [if_pos (show nI n < (20 : Int32) from nI_lt (b := 20) hn (by decide)), ck_nI (show a < 60 by omega) (by decide), nI_clamp (show a < 2 ^ 31 by omega)]
      by_cases e : text a = 115
      · rw [if_pos e, if_neg z1, nI_1]
        have : sf = true := by rw [hsf]; exact decide_eq_true e
        subst this
        rw [hat0]; rfl
      · rw [if_neg e, if_pos rfl]
        have : sf = false := by rw [hsf]; exact decide_eq_false e
        subst this
        rw [hat0]; rfl
    have ePM : ∀ k, fM_reads_229 k (nI d) (nI a) (text a) (sfI sf) (nI len) (nI n) text K' L' C' H' R' M' AO LI MI = fM_reads_256 k (nI d) (nI a) (sfI sf) (nI len) (nI n) text K' L' C' H' R' M' AO LI MI := by
      intro k
      unfold fM_reads_229
      rw [if_neg (show ¬ nI n = (20 : Int32) from neN (b := 20) (by omega) (by omega) (by decide))]
    have eat : nI a + sfI sf = nI at0 := by
      rw [hat0]
      cases sf
      · show nI a + nI 0 = _; rw [nI_add]; rfl
      · show nI a + nI 1 = _; rw [nI_add]; rfl
    rw [ePC, funext ePM]
    -- the kind's letter
    rcases Nat.lt_or_ge at0 len with ht | ht
    · rcases kind_cases (text at0) with ⟨k0, hk0, e1, e2⟩ | ⟨e1, e2⟩
      · -- the figure
        have eC2 : fR_readPerson_43 (sfI sf) (nI at0) (nI d) (nI len) (nI n) (nI sc) (nI mn) (-1) text K L H S A D = fR_readPerson_65 (sfI sf) (nI at0) (nI k0) (nI d) (nI len) (nI n) (nI sc) (nI mn) (-1) text K L H S A D := by
          unfold fR_readPerson_43
          rw [if_neg (nI_ge ht (by omega)), ck_nI (show at0 < 60 by omega) (by decide), nI_clamp (show at0 < 2 ^ 31 by omega), e1, bd_some]
        rw [eC2]
        have stop : ∀ x : Int32, (x < 1 ∨ ¬ x ≤ 9) → FaC (at0 + 1) (bd (fR_readPerson_103 (sfI sf) (nI (at0 + 1)) (nI k0) x (nI d) (nI n) (nI sc) (nI mn) (-1) K L H S A D) (fun u_7 => some (u_7.1, nI d, u_7.2.1, u_7.2.2.1, u_7.2.2.2.1, u_7.2.2.2.2.1, u_7.2.2.2.2.2.1, u_7.2.2.2.2.2.2.1, u_7.2.2.2.2.2.2.2.1, u_7.2.2.2.2.2.2.2.2.1, u_7.2.2.2.2.2.2.2.2.2.1, u_7.2.2.2.2.2.2.2.2.2.2))) := by
          intro x hx
          unfold fR_readPerson_103 fR_readPerson_118
          by_cases c1 : x < 1
          · rw [if_pos c1]
            exact ⟨_, _, _, _, _, _, _, _, _, _, _, rfl⟩
          · rcases hx with w | w
            · exact absurd w c1
            · rw [if_neg c1, if_neg w]
              exact ⟨_, _, _, _, _, _, _, _, _, _, _, rfl⟩
        have eM2 : ∀ k b2, fM_byteAt (nI (at0 + 1)) (nI len) text = some b2 → fM_reads_256 k (nI d) (nI a) (sfI sf) (nI len) (nI n) text K' L' C' H' R' M' AO LI MI = bd (fM_in b2 49 57) (fun u_15 => (if u_15 = 0 then some ((nI at0 + 1), nI n, K', L', C', H', R', M', AO, LI, MI) else (ck 20 (nI n) (ck 20 (nI n) (ck 20 (nI n) (ck 20 (nI n) (ck 20 (nI n) ((if nI d = 0 then fM_reads_374 k (nI d) (nI at0) (nI n) (nI n) 1 (nI len) (nI n) text (upd K' (nI n).toNatClampNeg (nI k0)) (upd L' (nI n).toNatClampNeg (b2 - 48)) (upd C' (nI n).toNatClampNeg (sfI sf)) (upd H' (nI n).toNatClampNeg 0) (upd R' (nI n).toNatClampNeg 0) M' AO LI MI else fM_reads_374 k (nI d) (nI at0) (nI n) (nI n) 0 (nI len) (nI n) text (upd K' (nI n).toNatClampNeg (nI k0)) (upd L' (nI n).toNatClampNeg (b2 - 48)) (upd C' (nI n).toNatClampNeg (sfI sf)) (upd H' (nI n).toNatClampNeg 0) (upd R' (nI n).toNatClampNeg 0) M' AO LI MI))))))))) := by
          intro k b2 hb2
          have eb := M_byteAt_in (k := at0) text hl ht
          unfold fM_reads_256
          simp only [eat, eb, bd_some, e2, if_neg (nI_ne_m1 (show k0 < 2 ^ 31 by omega)), show nI at0 + 1 = nI (at0 + 1) from nI_1 at0, hb2, ck_nI hn (show 20 < 2 ^ 31 by decide)]
        unfold fR_readPerson_65
        rw [if_neg (nI_ne_m1 (by omega)), nI_1]
        rcases Nat.lt_or_ge (at0 + 1) len with hu | hu
        · have hb2 := M_byteAt_in (k := at0 + 1) text hl hu
          rw [if_neg (nI_ge hu (by omega)), ck_nI (show at0 + 1 < 60 by omega) (by decide), nI_clamp (show at0 + 1 < 2 ^ 31 by omega)]
          rw [show (fun k => fM_reads_256 k (nI d) (nI a) (sfI sf) (nI len) (nI n) text K' L' C' H' R' M' AO LI MI) = _ from funext (fun k => eM2 k _ hb2)]
          rcases late_cases (text (at0 + 1)) with ⟨l0, l1, l9, f1, f2⟩ | ⟨f1, f2⟩
          · right
            obtain ⟨sc2, mn2, hd2, sl2, rg2, kd2, lt2, la2, cnt2, K2, L2, H2, S2, A2, D2, K2', L2', C2', H2', R2', M2', LI2, MI2, g1, g2, g3⟩ := row_add (text := text) (len := len) h hn hk0 l1 l9 sf (a2 := at0 + 2) (by omega)
            refine ⟨at0 + 2, d, n + 1, sc2, mn2, hd2, sl2, rg2, kd2, lt2, la2, au, cnt2, K2, L2, H2, S2, A2, D2, K2', L2', C2', H2', R2', M2', AO, LI2, MI2, by omega, by omega, ?_, fun k => ?_, g3⟩
            · unfold fR_readPerson_103
              rw [f2, if_neg (show ¬ nI l0 < (1 : Int32) from nI_nlt (b := 1) l1 (by omega)), if_pos (show nI l0 ≤ (9 : Int32) from nI_le (b := 9) l9 (by decide)), g1, bd_some, bd_some, nI_1]
            · dsimp only
              rw [M_in_eq, bd_some, if_pos (show (49 : Int32) ≤ text (at0 + 1) ∧ text (at0 + 1) ≤ 57 by rw [f1]; exact ⟨nI_le (a := 49) (by omega) (by omega), nI_le (b := 57) (by omega) (by decide)⟩), if_neg z1, f2, g2 k (nI at0)]
              show k _ (nI at0 + nI 2) _ _ _ _ _ _ _ _ _ _ = _
              rw [nI_add]
          · left
            refine ⟨at0 + 1, by omega, stop _ f2, fun k => ?_⟩
            dsimp only
            rw [M_in_eq, bd_some, if_neg f1, if_pos rfl, nI_1]
            exact ⟨_, _, _, _, _, _, _, _, _, _, rfl⟩
        · have hb2 := M_byteAt_out (k := at0 + 1) text hl hu (by omega)
          left
          rw [if_pos (nI_le hu (by omega))]
          refine ⟨at0 + 1, by omega, stop 0 (Or.inl (by decide)), fun k => ?_⟩
          dsimp only
          rw [eM2 k _ hb2, M_in_eq, bd_some, if_neg (show ¬ ((49 : Int32) ≤ -1 ∧ (-1 : Int32) ≤ 57) by decide), if_pos rfl, nI_1]
          exact ⟨_, _, _, _, _, _, _, _, _, _, rfl⟩
      · left
        refine ⟨at0, by omega, ?_, fun k => ?_⟩
        · unfold fR_readPerson_43 fR_readPerson_65
          rw [if_neg (nI_ge ht (by omega)), ck_nI (show at0 < 60 by omega) (by decide), nI_clamp (show at0 < 2 ^ 31 by omega), e1, bd_some, if_pos rfl]
          exact ⟨_, _, _, _, _, _, _, _, _, _, _, rfl⟩
        · dsimp only
          unfold fM_reads_256
          rw [eat, M_byteAt_in text hl ht, bd_some, e2, bd_some, if_pos rfl]
          exact ⟨_, _, _, _, _, _, _, _, _, _, rfl⟩
    · left
      refine ⟨at0, by omega, ?_, fun k => ?_⟩
      · unfold fR_readPerson_43 fR_readPerson_65
        rw [if_pos (nI_le ht (by omega)), if_pos rfl]
        exact ⟨_, _, _, _, _, _, _, _, _, _, _, rfl⟩
      · dsimp only
        unfold fM_reads_256
        rw [eat, M_byteAt_out text hl ht (by omega), bd_some, show fM_kindOf (-1) = some (-1) by decide, bd_some, if_pos rfl]
        exact ⟨_, _, _, _, _, _, _, _, _, _, rfl⟩
  · -- a twenty-first
    left
    have e20 : n = 20 := by omega
    subst e20
    refine ⟨a, by omega, ?_, fun k => ?_⟩
    · unfold fR_readPerson
      rw [if_neg (show ¬ nI 20 < (20 : Int32) by decide)]
      exact ⟨_, _, _, _, _, _, _, _, _, _, _, rfl⟩
    · dsimp only
      unfold fM_reads_229
      rw [if_pos (show nI 20 = (20 : Int32) from rfl)]
      by_cases e : sfI sf = 1
      · rw [if_pos e]
        exact ⟨_, _, _, _, _, _, _, _, _, _, rfl⟩
      · have s0 : sf = false := by
          cases sf
          · rfl
          · exact absurd rfl e
        rw [if_neg e]
        rcases kind_cases (text a) with ⟨k0, hk0, e1, e2⟩ | ⟨e1, e2⟩
        · rw [e2, bd_some, if_neg (nI_ne_m1 (by omega))]
          exact ⟨_, _, _, _, _, _, _, _, _, _, rfl⟩
        · rw [e2, bd_some, if_pos rfl]
          unfold fM_reads_256
          subst s0
          rw [show nI a + sfI false = nI a by show nI a + nI 0 = nI a; rw [nI_add]; rfl, M_byteAt_in text hl ha, bd_some, e2, bd_some, if_pos rfl]
          exact ⟨_, _, _, _, _, _, _, _, _, _, rfl⟩
theorem row_step (h : RowI a d n sc mn hd sl rg kd lt la au cnt K L H S A D K' L' C' H' R' M' AO LI MI) (ha : a < len) (hl : len ≤ 60) : StepP len a (fR_readNext (nI a) (nI d) (nI len) (nI n) (nI sc) (nI mn) (-1) text K L H S A D) (fun k => fM_reads_30_b k (nI len) text (nI d) (nI a) (nI n) K' L' C' H' R' M' AO LI MI) := by
  by_cases h40 : text a = 40
  · exact row_open h ha hl h40
  · by_cases h41 : text a = 41
    · exact row_close h ha hl (Or.inl h41)
    · by_cases h111 : text a = 111
      · exact row_close h ha hl (Or.inr h111)
      · exact row_person h ha hl h40 h41 h111
end rows2
