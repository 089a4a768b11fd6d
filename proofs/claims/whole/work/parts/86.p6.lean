/-! ===== the row: what is told of the people ===== -/
/-- two take hands: each has the other's bit -/
def set2 (h : Nat → Nat) (p q : Nat) : Nat → Nat := fun k => if k = q then h q ||| 2 ^ p else if k = p then h p ||| 2 ^ q else h k
theorem set2_bit (h : Nat → Nat) {p q : Nat} (hpq : p ≠ q) (k i : Nat) : (set2 h p q k).testBit i = ((h k).testBit i || decide ((k = p ∧ i = q) ∨ (k = q ∧ i = p))) := by
  unfold set2
  by_cases e : k = q
  · subst e
    rw [if_pos rfl, tb_or]
    have : ¬ k = p := fun w => hpq w.symm
    simp [this]
  · rw [if_neg e]
    by_cases e2 : k = p
    · subst e2
      rw [if_pos rfl, tb_or]
      simp [e]
    · rw [if_neg e2]
      simp [e, e2]
theorem set2_lt {h : Nat → Nat} {p q n : Nat} (hp : p < n) (hq : q < n) {k : Nat} (hk : k < n) (hh : ∀ k, k < n → h k < 2 ^ n) : set2 h p q k < 2 ^ n := by
  unfold set2
  split
  · exact or_lt (hh _ hq) (Nat.pow_lt_pow_right (by decide) hp)
  · split
    · exact or_lt (hh _ hp) (Nat.pow_lt_pow_right (by decide) hq)
    · exact hh k hk
theorem set2_rep {H : Nat → Int32} {h : Nat → Nat} {p q N : Nat} (hp : p < N) (hq : q < N) (hN : N ≤ 20) (hpq : p ≠ q) (rep : ∀ k, k < N → H k = nI (h k)) : ∀ k, k < N → (upd (upd H p (H p ||| (1 <<< (nI q &&& 31)))) q ((upd H p (H p ||| (1 <<< (nI q &&& 31)))) q ||| (1 <<< (nI p &&& 31)))) k = nI (set2 h p q k) := by
  intro k hk
  have ea : H p ||| ((1 : Int32) <<< (nI q &&& 31)) = nI (h p ||| 2 ^ q) := by rw [rep p hp, orbit (by omega)]
  have eb : (upd H p (H p ||| ((1 : Int32) <<< (nI q &&& 31)))) q ||| ((1 : Int32) <<< (nI p &&& 31)) = nI (h q ||| 2 ^ p) := by rw [pk_un (fun w => hpq w.symm), rep q hq, orbit (by omega)]
  rw [eb, ea]
  unfold set2
  by_cases e : k = q
  · subst e; rw [pk_us, if_pos rfl]
  · rw [pk_un e, if_neg e]
    by_cases e2 : k = p
    · subst e2; rw [pk_us, if_pos rfl]
    · rw [pk_un e2, if_neg e2]
      exact rep k hk
theorem set2_sum (h : Nat → Nat) {p q n : Nat} (hp : p < n) (hq : q < n) (hpq : p ≠ q) : fb_sm (fun k => pcN (set2 h p q k)) n ≤ fb_sm (fun k => pcN (h k)) n + 2 := by
  have s1 := fb_sm_upd (fun k => pcN (h k)) (pcN (h p ||| 2 ^ q)) (i := p) (n := n) hp
  have s2 := fb_sm_upd (fun k => if k = p then pcN (h p ||| 2 ^ q) else pcN (h k)) (pcN (h q ||| 2 ^ p)) (i := q) (n := n) hq
  have e : fb_sm (fun k => pcN (set2 h p q k)) n = fb_sm (fun k => if k = q then pcN (h q ||| 2 ^ p) else if k = p then pcN (h p ||| 2 ^ q) else pcN (h k)) n := fb_sm_cong (fun k _ => by
    show pcN (set2 h p q k) = _
    unfold set2
    by_cases w : k = q
    · rw [if_pos w, if_pos w]
    · rw [if_neg w, if_neg w]
      by_cases w2 : k = p
      · rw [if_pos w2, if_pos w2]
      · rw [if_neg w2, if_neg w2])
  have q1 := pcN_or (h p) q
  have q2 := pcN_or (h q) p
  have hqp : ¬ q = p := fun w => hpq w.symm
  simp only [if_neg hqp] at s2
  rw [e]
  omega
def PeoN (n sc mn : Nat) (hd sl rg kd lt : Nat → Nat) : Prop :=
  n ≤ 20 ∧ sc < 2 ^ n ∧ mn < 2 ^ n ∧ (∀ p, p < n → kd p < 4 ∧ 1 ≤ lt p ∧ lt p ≤ 9 ∧ hd p < 2 ^ n ∧ sl p < 2 ^ n ∧ rg p < 2 ^ n) ∧ (∀ p q, p < n → (sl p).testBit q = true → (hd p).testBit q = true) ∧ (∀ p q, p < n → (hd p).testBit q = true → (sl p).testBit q = (sc.testBit (max p q) && !(rg p).testBit q)) ∧ ∀ p, n ≤ p → hd p = 0 ∧ sl p = 0
def PeoC (n : Nat) (hd sl kd lt : Nat → Nat) (K L H S : Nat → Int32) : Prop := (∀ p, p < 20 → H p = nI (hd p)) ∧ (∀ p, p < 20 → S p = nI (sl p)) ∧ ∀ p, p < n → K p = nI (kd p) ∧ L p = nI (lt p)
def PeoM (n sc mn : Nat) (hd rg kd lt : Nat → Nat) (K L C H R M : Nat → Int32) : Prop := (∀ p, p < n → H p = nI (hd p)) ∧ (∀ p, p < n → R p = nI (rg p)) ∧ ∀ p, p < n → K p = nI (kd p) ∧ L p = nI (lt p) ∧ C p = nI (if sc.testBit p then 1 else 0) ∧ M p = nI (if mn.testBit p then 1 else 0)
def LevN (n d : Nat) (hd la au cnt : Nat → Nat) : Prop :=
  d ≤ 3 ∧ (∀ j, j ≤ d → cnt j ≤ n ∧ (1 ≤ cnt j → la j < n)) ∧ ∀ j, 1 ≤ j → j ≤ d → 1 ≤ cnt (j - 1) ∧ au j = la (j - 1) ∧ (1 ≤ cnt j → au j < la j) ∧ (2 ≤ cnt j → (hd (la j)).testBit (au j) = false ∧ (hd (au j)).testBit (la j) = false)
def LevC (d : Nat) (la cnt : Nat → Nat) (A D : Nat → Int32) : Prop := ∀ j, j ≤ d → D j = nI (cnt j) ∧ A j = (if 1 ≤ cnt j then nI (la j) else if j = 0 then -1 else nI (la (j - 1)))
def LevM (d : Nat) (la au cnt : Nat → Nat) (AO LI MI : Nat → Int32) : Prop := ∀ j, j ≤ d → MI j = nI (cnt j) ∧ LI j = (if 1 ≤ cnt j then nI (la j) else -1) ∧ AO j = (if j = 0 then -1 else nI (au j))
/-- the state of both readers, at place a, d deep -/
def RowI (a d n sc mn : Nat) (hd sl rg kd lt la au cnt : Nat → Nat) (K L H S A D : Nat → Int32) (K' L' C' H' R' M' AO LI MI : Nat → Int32) : Prop :=
  PeoN n sc mn hd sl rg kd lt ∧ LevN n d hd la au cnt ∧ fb_sm (fun p => pcN (hd p)) n + d ≤ a ∧ PeoC n hd sl kd lt K L H S ∧ PeoM n sc mn hd rg kd lt K' L' C' H' R' M' ∧ LevC d la cnt A D ∧ LevM d la au cnt AO LI MI
/-- what the class answers with a fault at x -/
def FaC (x : Nat) (o : Option (Int32 × Int32 × Int32 × Int32 × Int32 × Int32 × (Nat → Int32) × (Nat → Int32) × (Nat → Int32) × (Nat → Int32) × (Nat → Int32) × (Nat → Int32))) : Prop := ∃ (r d n s m : Int32) (K L H S A D : Nat → Int32), o = some (r, d, n, s, m, nI x, K, L, H, S, A, D)
def FaM (x : Nat) (o : Option (Int32 × Int32 × (Nat → Int32) × (Nat → Int32) × (Nat → Int32) × (Nat → Int32) × (Nat → Int32) × (Nat → Int32) × (Nat → Int32) × (Nat → Int32) × (Nat → Int32))) : Prop := ∃ (n : Int32) (K L C H R M AO LI MI : Nat → Int32), o = some (nI x, n, K, L, C, H, R, M, AO, LI, MI)
abbrev rdK : Type := Int32 → Int32 → Int32 → (Nat → Int32) → (Nat → Int32) → (Nat → Int32) → (Nat → Int32) → (Nat → Int32) → (Nat → Int32) → (Nat → Int32) → (Nat → Int32) → (Nat → Int32) → Option (Int32 × Int32 × (Nat → Int32) × (Nat → Int32) × (Nat → Int32) × (Nat → Int32) × (Nat → Int32) × (Nat → Int32) × (Nat → Int32) × (Nat → Int32) × (Nat → Int32))
/-- one step of both: a fault, or the next state -/
def StepP (len a : Nat) (c : Option (Int32 × Int32 × Int32 × Int32 × Int32 × Int32 × (Nat → Int32) × (Nat → Int32) × (Nat → Int32) × (Nat → Int32) × (Nat → Int32) × (Nat → Int32))) (m : rdK → Option (Int32 × Int32 × (Nat → Int32) × (Nat → Int32) × (Nat → Int32) × (Nat → Int32) × (Nat → Int32) × (Nat → Int32) × (Nat → Int32) × (Nat → Int32) × (Nat → Int32))) : Prop :=
  (∃ x : Nat, x ≤ 60 ∧ FaC x c ∧ ∀ k, FaM x (m k)) ∨
  (∃ (a2 d2 n2 sc2 mn2 : Nat) (hd sl rg kd lt la au cnt : Nat → Nat) (K L H S A D K' L' C' H' R' M' AO LI MI : Nat → Int32), a < a2 ∧ a2 ≤ len ∧ c = some (nI a2, nI d2, nI n2, nI sc2, nI mn2, -1, K, L, H, S, A, D) ∧ (∀ k : rdK, m k = k (nI d2) (nI a2) (nI n2) K' L' C' H' R' M' AO LI MI) ∧ RowI a2 d2 n2 sc2 mn2 hd sl rg kd lt la au cnt K L H S A D K' L' C' H' R' M' AO LI MI)
section rows
variable {len a d n sc mn : Nat} {hd sl rg kd lt la au cnt : Nat → Nat} {K L H S A D K' L' C' H' R' M' AO LI MI text : Nat → Int32}
theorem row_open (h : RowI a d n sc mn hd sl rg kd lt la au cnt K L H S A D K' L' C' H' R' M' AO LI MI) (ha : a < len) (hl : len ≤ 60) (hb : text a = 40) : StepP len a (fR_readNext (nI a) (nI d) (nI len) (nI n) (nI sc) (nI mn) (-1) text K L H S A D) (fun k => fM_reads_30_b k (nI len) text (nI d) (nI a) (nI n) K' L' C' H' R' M' AO LI MI) := by
  obtain ⟨hN, hV, hB, hC, hM, hLC, hLM⟩ := h
  have hd3 := hV.1
  have hn20 := hN.1
  obtain ⟨c1, c2⟩ := hLC d (Nat.le_refl d)
  obtain ⟨m1, m2, m3⟩ := hLM d (Nat.le_refl d)
  obtain ⟨v1, v2⟩ := hV.2.1 d (Nat.le_refl d)
  unfold fR_readNext fM_reads_30_b fR_openFork fR_openFork_20 fM_reads_447
  simp only [ck_nI (show a < 60 by omega) (show 60 < 2 ^ 31 by decide), nI_clamp (show a < 2 ^ 31 by omega), nI_clamp (show d < 2 ^ 31 by omega), if_neg (nI_ge ha (show len < 2 ^ 31 by omega)), if_pos hb, nI_1]
  by_cases e3 : d = 3
  · left
    subst e3
    refine ⟨a, by omega, ?_, fun k => ?_⟩
    · rw [if_pos (show (3 : Int32) ≤ nI 3 by decide)]
      exact ⟨_, _, _, _, _, _, _, _, _, _, _, rfl⟩
    · dsimp only
      rw [if_pos (show nI 3 = 3 from rfl)]
      exact ⟨_, _, _, _, _, _, _, _, _, _, rfl⟩
  · have n3 : ¬ nI d = 3 := fun w => e3 ((nI_eq (by omega) (by decide)).mp (show nI d = nI 3 from w))
    rw [if_neg (show ¬ (3 : Int32) ≤ nI d from nI_ge (b := 3) (by omega) (by decide)), ck_nI (show d < 4 by omega) (by decide), c1]
    by_cases e0 : cnt d = 0
    · left
      refine ⟨a, by omega, ?_, fun k => ?_⟩
      · rw [if_pos (show nI (cnt d) = 0 by rw [e0]; rfl)]
        exact ⟨_, _, _, _, _, _, _, _, _, _, _, rfl⟩
      · dsimp only
        rw [if_neg n3, ck_nI (show d < 4 by omega) (by decide), m2, if_neg (show ¬ 1 ≤ cnt d by omega), if_pos rfl]
        exact ⟨_, _, _, _, _, _, _, _, _, _, rfl⟩
    · right
      have p1 : 1 ≤ cnt d := by omega
      have eA : A d = nI (la d) := by rw [c2, if_pos p1]
      have eL : LI d = nI (la d) := by rw [m2, if_pos p1]
      refine ⟨a + 1, d + 1, n, sc, mn, hd, sl, rg, kd, lt, la, (fun j => if j = d + 1 then la d else au j), (fun j => if j = d + 1 then 0 else cnt j), K, L, H, S, upd A (d + 1) (nI (la d)), upd D (d + 1) 0, K', L', C', H', R', M', upd AO (d + 1) (nI (la d)), upd LI (d + 1) (-1), upd MI (d + 1) 0, by omega, by omega, ?_, fun k => ?_, hN, ⟨by omega, fun j hj => ?_, fun j h1 hj => ?_⟩, by omega, hC, hM, fun j hj => ?_, fun j hj => ?_⟩
      · rw [if_neg (show ¬ nI (cnt d) = 0 from nI_ne0 p1 (by omega)), show nI (d + 1) - 1 = nI d from nI_pred d, ck_nI (show d < 4 by omega) (by decide), ck_nI (show d + 1 < 4 by omega) (by decide), ck_nI (show d + 1 < 4 by omega) (by decide), nI_clamp (show d < 2 ^ 31 by omega), nI_clamp (show d + 1 < 2 ^ 31 by omega), eA]
        rfl
      · dsimp only
        rw [if_neg n3, ck_nI (show d < 4 by omega) (by decide), eL, if_neg (nI_ne_m1 (show la d < 2 ^ 31 by have := v2 p1; omega)), ck_nI (show d < 4 by omega) (by decide), ck_nI (show d + 1 < 4 by omega) (by decide), ck_nI (show d + 1 < 4 by omega) (by decide), ck_nI (show d + 1 < 4 by omega) (by decide), nI_clamp (show d + 1 < 2 ^ 31 by omega)]
      · show (if j = d + 1 then 0 else cnt j) ≤ n ∧ (1 ≤ (if j = d + 1 then 0 else cnt j) → la j < n)
        by_cases e : j = d + 1
        · rw [if_pos e]; exact ⟨by omega, fun w => by omega⟩
        · rw [if_neg e]; exact hV.2.1 j (by omega)
      · show 1 ≤ (if j - 1 = d + 1 then 0 else cnt (j - 1)) ∧ (if j = d + 1 then la d else au j) = la (j - 1) ∧ (1 ≤ (if j = d + 1 then 0 else cnt j) → (if j = d + 1 then la d else au j) < la j) ∧ (2 ≤ (if j = d + 1 then 0 else cnt j) → (hd (la j)).testBit (if j = d + 1 then la d else au j) = false ∧ (hd (if j = d + 1 then la d else au j)).testBit (la j) = false)
        rw [if_neg (show ¬ j - 1 = d + 1 by omega)]
        by_cases e : j = d + 1
        · subst e
          simp only [if_true, Nat.add_sub_cancel]
          exact ⟨p1, trivial, fun w => by omega, fun w => by omega⟩
        · simp only [if_neg e]
          exact hV.2.2 j h1 (by omega)
      · show upd D (d + 1) 0 j = nI (if j = d + 1 then 0 else cnt j) ∧ upd A (d + 1) (nI (la d)) j = (if 1 ≤ (if j = d + 1 then 0 else cnt j) then nI (la j) else if j = 0 then -1 else nI (la (j - 1)))
        by_cases e : j = d + 1
        · subst e
          rw [pk_us, pk_us, if_pos rfl, if_neg (by omega), if_neg (by omega), Nat.add_sub_cancel]
          exact ⟨rfl, rfl⟩
        · rw [pk_un e, pk_un e, if_neg e]
          exact hLC j (by omega)
      · show upd MI (d + 1) 0 j = nI (if j = d + 1 then 0 else cnt j) ∧ upd LI (d + 1) (-1) j = (if 1 ≤ (if j = d + 1 then 0 else cnt j) then nI (la j) else -1) ∧ upd AO (d + 1) (nI (la d)) j = (if j = 0 then -1 else nI (if j = d + 1 then la d else au j))
        by_cases e : j = d + 1
        · subst e
          rw [pk_us, pk_us, pk_us, if_pos rfl, if_neg (by omega), if_neg (by omega), if_pos rfl]
          exact ⟨rfl, rfl, rfl⟩
        · rw [pk_un e, pk_un e, pk_un e, if_neg e, if_neg e]
          exact hLM j (by omega)
/-- both take hands: the class -/
theorem R_hold {p q : Nat} (hp : p < 20) (hq : q < 20) (f : Int32) (H S : Nat → Int32) : fR_holdHands (nI p) (nI q) f H S = some (upd (upd H p (H p ||| (1 <<< (nI q &&& 31)))) q ((upd H p (H p ||| (1 <<< (nI q &&& 31)))) q ||| (1 <<< (nI p &&& 31))), if f = 0 then S else upd (upd S p (S p ||| (1 <<< (nI q &&& 31)))) q ((upd S p (S p ||| (1 <<< (nI q &&& 31)))) q ||| (1 <<< (nI p &&& 31)))) := by
  unfold fR_holdHands
  simp only [ck_nI hp (show 20 < 2 ^ 31 by decide), ck_nI hq (show 20 < 2 ^ 31 by decide), nI_clamp (show p < 2 ^ 31 by omega), nI_clamp (show q < 2 ^ 31 by omega)]
  by_cases e : f = 0
  · rw [if_pos e, if_pos e]
  · rw [if_neg e, if_neg e]
theorem M_hold {p q : Nat} (hp : p < 20) (hq : q < 20) (H : Nat → Int32) : fM_holds (nI p) (nI q) H = some (upd (upd H p (H p ||| (1 <<< (nI q &&& 31)))) q ((upd H p (H p ||| (1 <<< (nI q &&& 31)))) q ||| (1 <<< (nI p &&& 31)))) := by
  unfold fM_holds
  simp only [ck_nI hp (show 20 < 2 ^ 31 by decide), ck_nI hq (show 20 < 2 ^ 31 by decide), nI_clamp (show p < 2 ^ 31 by omega), nI_clamp (show q < 2 ^ 31 by omega)]
/-- the levels stand, one less deep -/
theorem LevN_less {n d : Nat} {hd la au cnt : Nat → Nat} (h : LevN n (d + 1) hd la au cnt) : LevN n d hd la au cnt := ⟨by have := h.1; omega, fun j hj => h.2.1 j (by omega), fun j h1 hj => h.2.2 j h1 (by omega)⟩
/-- a ring changes no hand that the levels ask for -/
theorem LevN_ring {n d : Nat} {hd la au cnt : Nat → Nat} (h : LevN n (d + 1) hd la au cnt) (hc : 2 ≤ cnt (d + 1)) : LevN n d (set2 hd (la (d + 1)) (au (d + 1))) la au cnt := by
  obtain ⟨h0, h1, h2⟩ := h
  have g := h2 (d + 1) (by omega) (Nat.le_refl _)
  rw [Nat.add_sub_cancel] at g
  have g3 := g.2.2.1 (by omega)
  refine ⟨by omega, fun j hj => h1 j (by omega), fun j q1 q2 => ?_⟩
  obtain ⟨k1, k2, k3, k4⟩ := h2 j q1 (by omega)
  refine ⟨k1, k2, k3, fun w => ?_⟩
  obtain ⟨k5, k6⟩ := k4 w
  have k7 := k3 (by omega)
  -- la j ≤ la d < la (d + 1)
  have mono : la j ≤ la d := by
    have s1 : ∀ i, 1 ≤ i → i ≤ d → la (i - 1) < la i := by
      intro i i1 i2
      obtain ⟨_, r2, r3, _⟩ := h2 i i1 (by omega)
      have r4 : 1 ≤ cnt i := by
        have := (h2 (i + 1) (by omega) (by omega)).1
        rw [Nat.add_sub_cancel] at this
        exact this
      have := r3 r4
      omega
    have d3 : d ≤ 2 := by omega
    rcases (show d = j ∨ d = j + 1 ∨ d = j + 2 by omega) with e | e | e
    · rw [e]; exact Nat.le_refl _
    · have := s1 (j + 1) (by omega) (by omega)
      rw [Nat.add_sub_cancel] at this
      rw [e]; omega
    · have := s1 (j + 1) (by omega) (by omega)
      have t2 := s1 (j + 2) (by omega) (by omega)
      rw [Nat.add_sub_cancel] at this
      rw [show j + 2 - 1 = j + 1 by omega] at t2
      rw [e]; omega
  have ne : la (d + 1) ≠ au (d + 1) := by omega
  rw [set2_bit hd ne, set2_bit hd ne, k5, k6]
  refine ⟨?_, ?_⟩
  · simp only [Bool.false_or, decide_eq_false_iff_not]
    omega
  · simp only [Bool.false_or, decide_eq_false_iff_not]
    omega
theorem row_close (h : RowI a d n sc mn hd sl rg kd lt la au cnt K L H S A D K' L' C' H' R' M' AO LI MI) (ha : a < len) (hl : len ≤ 60) (hb : text a = 41 ∨ text a = 111) : StepP len a (fR_readNext (nI a) (nI d) (nI len) (nI n) (nI sc) (nI mn) (-1) text K L H S A D) (fun k => fM_reads_30_b k (nI len) text (nI d) (nI a) (nI n) K' L' C' H' R' M' AO LI MI) := by
  obtain ⟨hN, hV, hB, hC, hM, hLC, hLM⟩ := h
  have hd3 := hV.1
  have hn20 := hN.1
  have z1 : ¬ (1 : Int32) = 0 := by decide
  have nb : ¬ text a = 40 := by rcases hb with w | w <;> rw [w] <;> decide
  -- what both do, by the byte
  have eC : fR_readNext (nI a) (nI d) (nI len) (nI n) (nI sc) (nI mn) (-1) text K L H S A D = fR_readNext_44 (nI a) (if text a = 111 then 1 else 0) (nI d) (nI n) (nI sc) (nI mn) (-1) K L H S A D := by
    unfold fR_readNext fR_readNext_31
    rw [ck_nI (show a < 60 by omega) (by decide), nI_clamp (show a < 2 ^ 31 by omega), if_neg nb]
    rcases hb with w | w
    · rw [if_pos w, if_neg (show ¬ text a = 111 by rw [w]; decide), if_neg (show ¬ text a = 111 by rw [w]; decide)]
    · rw [if_neg (show ¬ text a = 41 by rw [w]; decide), if_pos w, if_pos w, if_pos w]
  have eM : ∀ k, fM_reads_30_b k (nI len) text (nI d) (nI a) (nI n) K' L' C' H' R' M' AO LI MI = fM_reads_117 k (nI d) (nI a) (text a) (nI len) (nI n) text K' L' C' H' R' M' AO LI MI := by
    intro k
    unfold fM_reads_30_b
    rw [if_neg (nI_ge ha (show len < 2 ^ 31 by omega)), ck_nI (show a < 60 by omega) (by decide), nI_clamp (show a < 2 ^ 31 by omega), if_neg nb]
    rcases hb with w | w
    · rw [if_pos w]
    · rw [if_neg (show ¬ text a = 41 by rw [w]; decide), if_pos w]
  rw [eC]
  show StepP len a _ (fun k => fM_reads_30_b k (nI len) text (nI d) (nI a) (nI n) K' L' C' H' R' M' AO LI MI)
  rw [show (fun k => fM_reads_30_b k (nI len) text (nI d) (nI a) (nI n) K' L' C' H' R' M' AO LI MI) = (fun k => fM_reads_117 k (nI d) (nI a) (text a) (nI len) (nI n) text K' L' C' H' R' M' AO LI MI) from funext eM]
  have stop : ∀ (rest : Prop), StepP len a (fR_readNext_44 (nI a) (if text a = 111 then 1 else 0) (nI d) (nI n) (nI sc) (nI mn) (-1) K L H S A D) (fun k => fM_reads_117 k (nI d) (nI a) (text a) (nI len) (nI n) text K' L' C' H' R' M' AO LI MI) ∨ True := fun _ => Or.inr trivial
  clear stop
  rcases Nat.eq_zero_or_pos d with e0 | e0
  · left
    subst e0
    refine ⟨a, by omega, ?_, fun k => ?_⟩
    · unfold fR_readNext_44 fR_endFork fR_endFork_28
      rw [if_pos (show nI 0 = 0 from rfl)]
      exact ⟨_, _, _, _, _, _, _, _, _, _, _, rfl⟩
    · show FaM a (fM_reads_117 _ _ _ _ _ _ _ _ _ _ _ _ _ _ _ _)
      unfold fM_reads_117
      rw [if_pos (show nI 0 = 0 from rfl)]
      exact ⟨_, _, _, _, _, _, _, _, _, _, rfl⟩
  · obtain ⟨d, rfl⟩ : ∃ e, d = e + 1 := ⟨d - 1, by omega⟩
    obtain ⟨c1, c2⟩ := hLC (d + 1) (Nat.le_refl _)
    obtain ⟨c3, c4⟩ := hLC d (by omega)
    obtain ⟨m1, m2, m3⟩ := hLM (d + 1) (Nat.le_refl _)
    obtain ⟨v1, v2⟩ := hV.2.1 (d + 1) (Nat.le_refl _)
    obtain ⟨v3, v4, v5, v6⟩ := hV.2.2 (d + 1) (by omega) (Nat.le_refl _)
    rw [Nat.add_sub_cancel] at v3 v4
    have nd : ¬ nI (d + 1) = 0 := nI_ne0 (by omega) (by omega)
    -- how many there must be
    obtain ⟨need, hneed, nC, nM⟩ : ∃ need : Nat, (1 ≤ need ∧ need ≤ 2 ∧ (text a = 111 → need = 2) ∧ (text a = 41 → need = 1)) ∧ (fR_readNext_44 (nI a) (if text a = 111 then 1 else 0) (nI (d + 1)) (nI n) (nI sc) (nI mn) (-1) K L H S A D = bd (fR_endFork_25 (nI a) (if text a = 111 then 1 else 0) (nI (cnt (d + 1))) (nI need) (nI (d + 1)) (-1) H S A) (fun u_1 => some (u_1.1, u_1.2.1, nI n, nI sc, nI mn, u_1.2.2.1, K, L, u_1.2.2.2.1, u_1.2.2.2.2, A, D))) ∧ (∀ k, fM_reads_117 k (nI (d + 1)) (nI a) (text a) (nI len) (nI n) text K' L' C' H' R' M' AO LI MI = fM_reads_138 k (nI (d + 1)) (nI a) (text a) (nI (cnt (d + 1))) (nI need) (nI len) (nI n) text K' L' C' H' R' M' AO LI MI) := by
      rcases hb with w | w
      · have n111 : ¬ text a = 111 := by rw [w]; decide
        refine ⟨1, ⟨by omega, by omega, fun q => absurd q n111, fun _ => rfl⟩, ?_, fun k => ?_⟩
        · unfold fR_readNext_44 fR_endFork
          rw [if_neg n111, if_neg nd, ck_nI (show d + 1 < 4 by omega) (by decide), if_pos rfl, nI_clamp (show d + 1 < 2 ^ 31 by omega), c1]
          rfl
        · unfold fM_reads_117
          rw [if_neg nd, ck_nI (show d + 1 < 4 by omega) (by decide), if_neg n111, nI_clamp (show d + 1 < 2 ^ 31 by omega), m1]
          rfl
      · refine ⟨2, ⟨by omega, by omega, fun _ => rfl, fun q => absurd (w.symm.trans q) (by decide)⟩, ?_, fun k => ?_⟩
        · unfold fR_readNext_44 fR_endFork
          rw [if_pos w, if_neg nd, ck_nI (show d + 1 < 4 by omega) (by decide), if_neg z1, nI_clamp (show d + 1 < 2 ^ 31 by omega), c1]
          rfl
        · unfold fM_reads_117
          rw [if_neg nd, ck_nI (show d + 1 < 4 by omega) (by decide), if_pos w, nI_clamp (show d + 1 < 2 ^ 31 by omega), m1]
          rfl
    rw [nC, funext nM]
    obtain ⟨n1, n2, n3, n4⟩ := hneed
    rcases Nat.lt_or_ge (cnt (d + 1)) need with q | q
    · left
      refine ⟨a, by omega, ?_, fun k => ?_⟩
      · unfold fR_endFork_25 fR_endFork_28
        rw [if_neg (nI_ge q (by omega))]
        exact ⟨_, _, _, _, _, _, _, _, _, _, _, rfl⟩
      · show FaM a (fM_reads_138 _ _ _ _ _ _ _ _ _ _ _ _ _ _ _ _ _ _)
        unfold fM_reads_138
        rw [if_neg (nI_ge q (by omega))]
        exact ⟨_, _, _, _, _, _, _, _, _, _, rfl⟩
    · right
      have pla := v2 (by omega)
      have pau := v5 (by omega)
      rcases hb with w | w
      · -- a fork ends
        have n111 : ¬ text a = 111 := by rw [w]; decide
        refine ⟨a + 1, d, n, sc, mn, hd, sl, rg, kd, lt, la, au, cnt, K, L, H, S, A, D, K', L', C', H', R', M', AO, LI, MI, by omega, by omega, ?_, fun k => ?_, hN, LevN_less hV, by omega, hC, hM, fun j hj => hLC j (by omega), fun j hj => hLM j (by omega)⟩
        · unfold fR_endFork_25 fR_endFork_63
          rw [if_pos (nI_le q (by omega)), if_neg n111, if_pos rfl, bd_some, nI_1, nI_pred]
        · show fM_reads_138 _ _ _ _ _ _ _ _ _ _ _ _ _ _ _ _ _ _ = _
          unfold fM_reads_138 fM_reads_209 fM_reads_447
          rw [if_pos (nI_le q (by omega)), if_neg n111, pk_m1, nI_1]
      · -- a ring
        have q2 := n3 w
        have pp : la (d + 1) ≠ au (d + 1) := by omega
        have eA : A (d + 1) = nI (la (d + 1)) := by rw [c2, if_pos (by omega)]
        have eA2 : A d = nI (au (d + 1)) := by rw [c4, if_pos v3, v4]
        have eL : LI (d + 1) = nI (la (d + 1)) := by rw [m2, if_pos (by omega)]
        have eO : AO (d + 1) = nI (au (d + 1)) := by rw [m3, if_neg (by omega)]
        obtain ⟨u1, u2⟩ := v6 (by omega)
        refine ⟨a + 1, d, n, sc, mn, set2 hd (la (d + 1)) (au (d + 1)), sl, set2 rg (la (d + 1)) (au (d + 1)), kd, lt, la, au, cnt, K, L, _, S, A, D, K', L', C', _, _, M', AO, LI, MI, by omega, by omega, ?_, fun k => ?_, ?_, LevN_ring hV (by omega), ?_, ⟨set2_rep (by omega) (by omega) (Nat.le_refl _) pp hC.1, hC.2.1, hC.2.2⟩, ⟨set2_rep (by omega) (by omega) hn20 pp hM.1, set2_rep (by omega) (by omega) hn20 pp hM.2.1, hM.2.2⟩, fun j hj => hLC j (by omega), fun j hj => hLM j (by omega)⟩
        · unfold fR_endFork_25 fR_endFork_63
          rw [if_pos (nI_le q (by omega)), if_pos w, if_neg z1, ck_nI (show d + 1 < 4 by omega) (by decide), nI_pred, ck_nI (show d < 4 by omega) (by decide), nI_clamp (show d + 1 < 2 ^ 31 by omega), nI_clamp (show d < 2 ^ 31 by omega), eA, eA2, R_hold (by omega) (by omega), bd_some, bd_some, nI_1, if_pos rfl]
        · show fM_reads_138 _ _ _ _ _ _ _ _ _ _ _ _ _ _ _ _ _ _ = _
          unfold fM_reads_138 fM_reads_209 fM_reads_447
          simp only [if_pos (nI_le q (show cnt (d + 1) < 2 ^ 31 by omega)), if_pos w, ck_nI (show d + 1 < 4 by omega) (show 4 < 2 ^ 31 by decide), nI_clamp (show d + 1 < 2 ^ 31 by omega), eL, eO, M_hold (show la (d + 1) < 20 by omega) (show au (d + 1) < 20 by omega), bd_some, ck_nI (show la (d + 1) < 20 by omega) (show 20 < 2 ^ 31 by decide), ck_nI (show au (d + 1) < 20 by omega) (show 20 < 2 ^ 31 by decide), nI_clamp (show la (d + 1) < 2 ^ 31 by omega), nI_clamp (show au (d + 1) < 2 ^ 31 by omega), pk_m1, nI_1]
        · obtain ⟨w1, w2, w3, w4, w5, w6, w7⟩ := hN
          refine ⟨w1, w2, w3, fun p hp => ?_, fun p q hp hs => ?_, fun p q hp hs => ?_, fun p hp => ?_⟩
          · obtain ⟨x1, x2, x3, x4, x5, x6⟩ := w4 p hp
            exact ⟨x1, x2, x3, set2_lt (by omega) (by omega) hp (fun k hk => (w4 k hk).2.2.2.1), x5, set2_lt (by omega) (by omega) hp (fun k hk => (w4 k hk).2.2.2.2.2)⟩
          · rw [set2_bit hd pp, w5 p q hp hs, Bool.true_or]
          · rw [set2_bit hd pp] at hs
            rw [set2_bit rg pp]
            by_cases e : (p = la (d + 1) ∧ q = au (d + 1)) ∨ (p = au (d + 1) ∧ q = la (d + 1))
            · have s0 : (sl p).testBit q = false := by
                cases t : (sl p).testBit q
                · rfl
                · have t2 := w5 p q hp t
                  rcases e with ⟨e1, e2⟩ | ⟨e1, e2⟩
                  · rw [e1, e2, u1] at t2; cases t2
                  · rw [e1, e2, u2] at t2; cases t2
              rw [s0, decide_eq_true e]
              simp
            · rw [decide_eq_false e, Bool.or_false] at hs
              rw [decide_eq_false e, Bool.or_false]
              exact w6 p q hp hs
          · unfold set2
            rw [if_neg (by omega), if_neg (by omega)]
            exact w7 p hp
        · have := set2_sum hd (n := n) (p := la (d + 1)) (q := au (d + 1)) (by omega) (by omega) pp
          omega
end rows
