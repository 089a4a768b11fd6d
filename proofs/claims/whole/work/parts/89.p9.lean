/-! ===== the text is read ===== -/
/-- what both have at the end of the text -/
def RowOut (c : Option (Int32 × Int32 × Int32 × Int32 × Int32 × (Nat → Int32) × (Nat → Int32) × (Nat → Int32) × (Nat → Int32) × (Nat → Int32) × (Nat → Int32))) (m : Option (Int32 × Int32 × (Nat → Int32) × (Nat → Int32) × (Nat → Int32) × (Nat → Int32) × (Nat → Int32) × (Nat → Int32) × (Nat → Int32) × (Nat → Int32) × (Nat → Int32))) : Prop :=
  ∃ (dd pp ss mm ff : Int32) (K L H S A D : Nat → Int32) (pp' : Int32) (K' L' C' H' R' M' AO LI MI : Nat → Int32), c = some (dd, pp, ss, mm, ff, K, L, H, S, A, D) ∧ m = some (ff, pp', K', L', C', H', R', M', AO, LI, MI) ∧
    ((ff = -1 ∧ ∃ (n sc mn : Nat) (hd sl rg kd lt : Nat → Nat), pp = nI n ∧ pp' = nI n ∧ ss = nI sc ∧ mm = nI mn ∧ PeoN n sc mn hd sl rg kd lt ∧ fb_sm (fun p => pcN (hd p)) n ≤ 60 ∧ PeoC n hd sl kd lt K L H S ∧ PeoM n sc mn hd rg kd lt K' L' C' H' R' M') ∨ (∃ x : Nat, x ≤ 60 ∧ ff = nI x ∧ pp = 0 ∧ mm = 0))
theorem R_42_fault {x : Nat} (hx : x ≤ 60) (d len n s m : Int32) (K L H S A D : Nat → Int32) : fR_readText_42 d len n s m (nI x) K L H S A D = some (d, 0, s, 0, nI x, K, L, H, S, A, D) := by
  unfold fR_readText_42 fR_readText_65
  rw [if_neg (nI_ne_m1 (by omega)), if_neg (nI_ne_m1 (by omega))]
theorem R_8_fault {x : Nat} (hx : x ≤ 60) (len : Int32) (text : Nat → Int32) (f : Nat) (r s d n sc m : Int32) (K L H S A D : Nat → Int32) : fR_readText_8 len text (f + 1) r s d n sc m (nI x) K L H S A D = some (d, 0, sc, 0, nI x, K, L, H, S, A, D) := by
  show fR_readText_8_b _ _ _ _ _ _ _ _ _ _ _ _ _ _ _ _ = _
  unfold fR_readText_8_b
  rw [if_neg (show ¬ nI x = -1 from nI_ne_m1 (by omega)), R_42_fault hx]
  split
  · rfl
  · split <;> rfl
theorem row_loop {len : Nat} (hl : len ≤ 60) (text : Nat → Int32) : ∀ (m a s d n sc mn : Nat) (hd sl rg kd lt la au cnt : Nat → Nat) (K L H S A D K' L' C' H' R' M' AO LI MI : Nat → Int32), len ≤ a + m → a ≤ len → s ≤ a → RowI a d n sc mn hd sl rg kd lt la au cnt K L H S A D K' L' C' H' R' M' AO LI MI → ∀ f g, m + 1 < f → m < g → RowOut (fR_readText_8 (nI len) text f (nI a) (nI s) (nI d) (nI n) (nI sc) (nI mn) (-1) K L H S A D) (fM_reads_30 (nI len) text g (nI d) (nI a) (nI n) K' L' C' H' R' M' AO LI MI)
  | m, a, s, d, n, sc, mn, hd, sl, rg, kd, lt, la, au, cnt, K, L, H, S, A, D, K', L', C', H', R', M', AO, LI, MI, h1, h2, h3, h, f, g, hf, hg => by
    obtain ⟨f, rfl⟩ : ∃ f', f = f' + 1 := ⟨f - 1, by omega⟩
    obtain ⟨g, rfl⟩ : ∃ g', g = g' + 1 := ⟨g - 1, by omega⟩
    have hd3 := h.2.1.1
    have eC : fR_readText_8 (nI len) text (f + 1) (nI a) (nI s) (nI d) (nI n) (nI sc) (nI mn) (-1) K L H S A D = fR_readText_8_b (fR_readText_8 (nI len) text f) (nI len) text (nI a) (nI s) (nI d) (nI n) (nI sc) (nI mn) (-1) K L H S A D := rfl
    have eM : fM_reads_30 (nI len) text (g + 1) (nI d) (nI a) (nI n) K' L' C' H' R' M' AO LI MI = fM_reads_30_b (fM_reads_30 (nI len) text g) (nI len) text (nI d) (nI a) (nI n) K' L' C' H' R' M' AO LI MI := rfl
    rw [eC, eM]
    rcases Nat.lt_or_ge a len with ha | ha
    · -- one step
      unfold fR_readText_8_b
      rw [if_neg (show ¬ (60 : Int32) ≤ nI s from nI_ge (b := 60) (by omega) (by decide)), if_neg (nI_ge ha (by omega)), if_pos rfl, nI_1]
      rcases row_step (text := text) h ha hl with ⟨x, hx, ⟨r2, d2, n2, s2, m2, K2, L2, H2, S2, A2, D2, e1⟩, q2⟩ | ⟨a2, d2, n2, sc2, mn2, hd2, sl2, rg2, kd2, lt2, la2, au2, cnt2, K2, L2, H2, S2, A2, D2, K2', L2', C2', H2', R2', M2', AO2, LI2, MI2, q1, q2, e1, e2, q3⟩
      · obtain ⟨n3, K3, L3, C3, H3, R3, M3, AO3, LI3, MI3, e2⟩ := q2 (fM_reads_30 (nI len) text g)
        obtain ⟨f, rfl⟩ : ∃ f', f = f' + 1 := ⟨f - 1, by omega⟩
        rw [e1, bd_some, R_8_fault hx]
        refine ⟨_, _, _, _, _, _, _, _, _, _, _, _, _, _, _, _, _, _, _, _, _, rfl, e2, Or.inr ⟨x, hx, rfl, rfl, rfl⟩⟩
      · have e3 := e2 (fM_reads_30 (nI len) text g)
        simp only at e3
        rw [e1, bd_some, e3]
        cases m with
        | zero => omega
        | succ m => exact row_loop hl text m a2 (s + 1) d2 n2 sc2 mn2 hd2 sl2 rg2 kd2 lt2 la2 au2 cnt2 K2 L2 H2 S2 A2 D2 K2' L2' C2' H2' R2' M2' AO2 LI2 MI2 (by omega) (by omega) (by omega) q3 f g (by omega) (by omega)
    · -- the end
      have ea : a = len := by omega
      subst ea
      obtain ⟨hN, hV, hB, hC, hM, hLC, hLM⟩ := h
      have c42 : fR_readText_8_b (fR_readText_8 (nI a) text f) (nI a) text (nI a) (nI s) (nI d) (nI n) (nI sc) (nI mn) (-1) K L H S A D = fR_readText_42 (nI d) (nI a) (nI n) (nI sc) (nI mn) (-1) K L H S A D := by
        unfold fR_readText_8_b
        rw [if_pos (nI_le (Nat.le_refl a) (by omega))]
        split <;> rfl
      have mEnd : fM_reads_30_b (fM_reads_30 (nI a) text g) (nI a) text (nI d) (nI a) (nI n) K' L' C' H' R' M' AO LI MI = (if nI d ≤ 0 then some ((-1), nI n, K', L', C', H', R', M', AO, LI, MI) else some (nI a, nI n, K', L', C', H', R', M', AO, LI, MI)) := by
        unfold fM_reads_30_b
        rw [if_pos (nI_le (Nat.le_refl a) (by omega))]
      rw [c42, mEnd]
      unfold fR_readText_42 fR_readText_65
      rw [if_pos rfl]
      rcases Nat.eq_zero_or_pos d with e0 | e0
      · subst e0
        rw [if_pos (show nI 0 ≤ 0 by decide), if_pos (show nI 0 ≤ 0 by decide), if_pos rfl]
        exact ⟨_, _, _, _, _, _, _, _, _, _, _, _, _, _, _, _, _, _, _, _, _, rfl, rfl, Or.inl ⟨rfl, n, sc, mn, hd, sl, rg, kd, lt, rfl, rfl, rfl, rfl, hN, by omega, hC, hM⟩⟩
      · rw [if_neg (nI_nle e0 (by omega)), if_neg (nI_nle e0 (by omega)), if_neg (nI_ne_m1 (by omega))]
        exact ⟨_, _, _, _, _, _, _, _, _, _, _, _, _, _, _, _, _, _, _, _, _, rfl, rfl, Or.inr ⟨a, by omega, rfl, rfl, rfl⟩⟩
/-- at the beginning -/
theorem RowI_0 (K L H S A D K' L' C' H' R' M' AO LI MI : Nat → Int32) : RowI 0 0 0 0 0 (fun _ => 0) (fun _ => 0) (fun _ => 0) (fun _ => 0) (fun _ => 0) (fun _ => 0) (fun _ => 0) (fun _ => 0) K L (fun k => if k < 20 then 0 else H k) (fun k => if k < 20 then 0 else S k) (upd A 0 (-1)) (upd D 0 0) K' L' C' H' R' M' (upd AO 0 (-1)) (upd LI 0 (-1)) (upd MI 0 0) := by
  refine ⟨⟨by omega, by decide, by decide, fun p hp => absurd hp (Nat.not_lt_zero p), fun p q hp => absurd hp (Nat.not_lt_zero p), fun p q hp => absurd hp (Nat.not_lt_zero p), fun _ _ => ⟨rfl, rfl⟩⟩, ⟨by omega, fun j hj => ⟨Nat.le_refl 0, fun w => absurd (show 1 ≤ (0 : Nat) from w) (by decide)⟩, fun j h1 hj => by omega⟩, Nat.le_refl 0, ⟨fun p hp => if_pos hp, fun p hp => if_pos hp, fun p hp => absurd hp (Nat.not_lt_zero p)⟩, ⟨fun p hp => absurd hp (Nat.not_lt_zero p), fun p hp => absurd hp (Nat.not_lt_zero p), fun p hp => absurd hp (Nat.not_lt_zero p)⟩, fun j hj => ?_, fun j hj => ?_⟩
  · have : j = 0 := by omega
    subst this
    rw [pk_us, pk_us]
    exact ⟨rfl, rfl⟩
  · have : j = 0 := by omega
    subst this
    rw [pk_us, pk_us, pk_us]
    exact ⟨rfl, rfl, rfl⟩
/-- what a row is, for every state of the reference's own rows -/
def ParR (people scarves main : Int32) (K L H S : Nat → Int32) (K' L' C' H' R' M' : Nat → Int32) : Prop :=
  ∃ (n sc mn : Nat) (hd sl rg kd lt : Nat → Nat), people = nI n ∧ (0 < n → scarves = nI sc) ∧ main = nI mn ∧ PeoN n sc mn hd sl rg kd lt ∧ fb_sm (fun p => pcN (hd p)) n ≤ 60 ∧ (∀ p, p < n → H p = nI (hd p) ∧ S p = nI (sl p) ∧ K p = nI (kd p) ∧ L p = nI (lt p)) ∧ PeoM n sc mn hd rg kd lt K' L' C' H' R' M'
def Parsed (len : Int32) (text : Nat → Int32) (people scarves main fault : Int32) (K L H S : Nat → Int32) : Prop :=
  ∀ (pe : Int32) (k l c h r m ao li mi : Nat → Int32), ∃ (K' L' C' H' R' M' AO LI MI : Nat → Int32), fM_faultNow len pe text k l c h r m ao li mi = some (fault, people, K', L', C', H', R', M', AO, LI, MI) ∧ ParR people scarves main K L H S K' L' C' H' R' M'
theorem ParR_0 (scarves : Int32) (K L H S K' L' C' H' R' M' : Nat → Int32) : ParR 0 scarves 0 K L H S K' L' C' H' R' M' :=
  ⟨0, 0, 0, fun _ => 0, fun _ => 0, fun _ => 0, fun _ => 0, fun _ => 0, rfl, fun w => absurd w (by decide), rfl, ⟨by omega, by decide, by decide, fun p hp => absurd hp (Nat.not_lt_zero p), fun p q hp => absurd hp (Nat.not_lt_zero p), fun p q hp => absurd hp (Nat.not_lt_zero p), fun _ _ => ⟨rfl, rfl⟩⟩, Nat.zero_le _, fun p hp => absurd hp (Nat.not_lt_zero p), ⟨fun p hp => absurd hp (Nat.not_lt_zero p), fun p hp => absurd hp (Nat.not_lt_zero p), fun p hp => absurd hp (Nat.not_lt_zero p)⟩⟩
theorem R_readText_ok {len : Nat} (hl : len ≤ 60) (text : Nat → Int32) (d0 p0 s0 m0 f0 : Int32) (K L H S A D : Nat → Int32) : ∃ (dd pp ss mm ff : Int32) (K2 L2 H2 S2 A2 D2 : Nat → Int32), fR_readText d0 (nI len) p0 s0 m0 f0 text K L H S A D = some (dd, pp, ss, mm, ff, K2, L2, H2, S2, A2, D2) ∧ Parsed (nI len) text pp ss mm ff K2 L2 H2 S2 := by
  have i0 : (0 : Int32).toNatClampNeg = 0 := by decide
  have c0 : ∀ {α : Type} (k : Option α), ck 4 0 k = k := fun k => ck_nI (j := 0) (by decide) (by decide)
  have cls : fR_readText d0 (nI len) p0 s0 m0 f0 text K L H S A D = fR_readText_8 (nI len) text FU (nI 0) (nI 0) (nI 0) (nI 0) (nI 0) (nI 0) (-1) K L (fun k => if k < 20 then 0 else H k) (fun k => if k < 20 then 0 else S k) (upd A 0 (-1)) (upd D 0 0) := by
    unfold fR_readText fR_startReading
    rw [J_fill_eq _ _ _ (by decide), bd_some, J_fill_eq _ _ _ (by decide), bd_some, c0, c0, bd_some, i0]
    rfl
  have mod : ∀ (pe : Int32) (k l c h r m ao li mi : Nat → Int32), fM_faultNow (nI len) pe text k l c h r m ao li mi = bd (fM_reads_30 (nI len) text FU (nI 0) (nI 0) (nI 0) k l c h r m (upd ao 0 (-1)) (upd li 0 (-1)) (upd mi 0 0)) (fun u => if u.1 = -1 then some (u.1, u.2.1, u.2.2.1, u.2.2.2.1, u.2.2.2.2.1, u.2.2.2.2.2.1, u.2.2.2.2.2.2.1, u.2.2.2.2.2.2.2.1, u.2.2.2.2.2.2.2.2.1, u.2.2.2.2.2.2.2.2.2.1, u.2.2.2.2.2.2.2.2.2.2) else some (u.1, 0, u.2.2.1, u.2.2.2.1, u.2.2.2.2.1, u.2.2.2.2.2.1, u.2.2.2.2.2.2.1, u.2.2.2.2.2.2.2.1, u.2.2.2.2.2.2.2.2.1, u.2.2.2.2.2.2.2.2.2.1, u.2.2.2.2.2.2.2.2.2.2)) := by
    intro pe k l c h r m ao li mi
    unfold fM_faultNow fM_reads fM_faultNow_19
    rw [c0, c0, c0, i0]
    rfl
  have run : ∀ (k l c h r m ao li mi : Nat → Int32), RowOut (fR_readText_8 (nI len) text FU (nI 0) (nI 0) (nI 0) (nI 0) (nI 0) (nI 0) (-1) K L (fun k => if k < 20 then 0 else H k) (fun k => if k < 20 then 0 else S k) (upd A 0 (-1)) (upd D 0 0)) (fM_reads_30 (nI len) text FU (nI 0) (nI 0) (nI 0) k l c h r m (upd ao 0 (-1)) (upd li 0 (-1)) (upd mi 0 0)) := by
    intro k l c h r m ao li mi
    exact row_loop hl text len 0 0 0 0 0 0 _ _ _ _ _ _ _ _ _ _ _ _ _ _ _ _ _ _ _ _ _ _ _ (by omega) (by omega) (by omega) (RowI_0 K L H S A D k l c h r m ao li mi) FU FU (by rw [FU_eq]; omega) (by rw [FU_eq]; omega)
  obtain ⟨dd, pp, ss, mm, ff, K2, L2, H2, S2, A2, D2, -, -, -, -, -, -, -, -, -, -, e1, -, -⟩ := run K K K K K K K K K
  refine ⟨dd, pp, ss, mm, ff, K2, L2, H2, S2, A2, D2, by rw [cls, e1], ?_⟩
  intro pe k l c h r m ao li mi
  obtain ⟨dd', pp', ss', mm', ff', K3, L3, H3, S3, A3, D3, pq, K', L', C', H', R', M', AO, LI, MI, e2, e3, e4⟩ := run k l c h r m ao li mi
  rw [e1] at e2
  cases e2
  rw [mod, e3, bd_some]
  rcases e4 with ⟨w1, n, sc, mn, hd, sl, rg, kd, lt, w2, w3, w4, w5, w6, w7, w8, w9⟩ | ⟨x, hx, w1, w2, w3⟩
  · subst w1
    simp only [if_true]
    refine ⟨K', L', C', H', R', M', AO, LI, MI, by rw [w3, w2], ?_⟩
    exact ⟨n, sc, mn, hd, sl, rg, kd, lt, w2, fun _ => w4, w5, w6, w7, fun p hp => ⟨w8.1 p (by have := w6.1; omega), w8.2.1 p (by have := w6.1; omega), (w8.2.2 p hp).1, (w8.2.2 p hp).2⟩, w9⟩
  · subst w1; subst w2; subst w3
    simp only [if_neg (nI_ne_m1 (show x < 2 ^ 31 by omega))]
    exact ⟨K', L', C', H', R', M', AO, LI, MI, rfl, ParR_0 _ _ _ _ _ _ _ _ _ _ _⟩
