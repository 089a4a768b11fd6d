/-! ===== one feels it ===== -/
/-- the row, as both sides have it -/
def RowR (n sc mn : Nat) (hd sl rg kd lt : Nat → Nat) (K L H S K' L' C' H' R' M' : Nat → Int32) : Prop :=
  PeoN n sc mn hd sl rg kd lt ∧ (∀ p, p < n → H p = nI (hd p) ∧ S p = nI (sl p)) ∧ (∀ p, p < n → K p = nI (kd p) ∧ L p = nI (lt p)) ∧ PeoM n sc mn hd rg kd lt K' L' C' H' R' M'
/-- what hangs on what is to come -/
def PendI (t n fi ld : Nat) (hd : Nat → Nat) (sec pe : Nat → Nat → Nat) (due com : Nat → Int32) : Prop :=
  PeI t n fi hd pe ∧ DueR t n pe due ∧ ComR n sec pe com ∧ ld ≤ 400 ∧ ∀ t' q', t < t' → t' ≤ 400 → q' < n → pe t' q' ≠ 0 → t' ≤ ld
/-- until when each is busy; and that the first event is felt -/
def BuI (n s : Nat) (Fl : Nat → Bool) (bu : Nat → Nat) : Prop := (∀ q, q < n → bu q ≤ 430) ∧ (s = 0 → ∀ q, q < n → bu q = 0) ∧ (0 < s → Fl 0 = true)
theorem BuI.lost {n s : Nat} {Fl : Nat → Bool} {bu : Nat → Nat} (h : BuI n s Fl bu) (hs : s ≠ 0) : BuI n (s + 1) (fun i => if i = s then false else Fl i) bu := ⟨h.1, fun w => by omega, fun _ => by
  show (if 0 = s then false else Fl 0) = true
  rw [if_neg (fun w => hs w.symm)]
  exact h.2.2 (by omega)⟩
theorem BuI.felt {n s : Nat} {Fl : Nat → Bool} {bu bu2 : Nat → Nat} (h : BuI n s Fl bu) (h2 : ∀ q, q < n → bu2 q ≤ 430) : BuI n (s + 1) (fun i => if i = s then true else Fl i) bu2 := ⟨h2, fun w => by omega, fun _ => by
  show (if 0 = s then true else Fl 0) = true
  by_cases c : 0 = s
  · rw [if_pos c]
  · rw [if_neg c]; exact h.2.2 (by omega)⟩
section feel
variable {n sc mn fi : Nat} {hd sl rg kd lt : Nat → Nat} {K L H S K' L' C' H' R' M' : Nat → Int32} {sec : Nat → Nat → Nat}
theorem act_both (hR : RowR n sc mn hd sl rg kd lt K L H S K' L' C' H' R' M') (hsec : ∀ t q, sec t q < 2 ^ 22) {t p j ld k : Nat} {pe : Nat → Nat → Nat} {due com : Nat → Int32} (hp : p < n) (hj : j < 22) (ht : t ≤ 400) (htl : t ≤ ld) (hk : k < 3) (hP : PendI t n fi ld hd sec pe due com) :
    ∃ (ld2 : Nat) (due2 com2 : Nat → Int32) (pe2 : Nat → Nat → Nat),
      (∀ (unr : Int32) (busy felt lost first : Nat → Int32), ∃ busy2 : Nat → Int32, fS_feelOne_U_145 (nI p) (nI t) (srcC j) (nI k) (nI n) L H S (nI ld) unr due busy felt lost first = some (nI ld2, unr, due2, busy2, felt, lost, first) ∧ busy2 p = nI (t + lt p * (if k = 1 then 2 else 1)) ∧ ∀ q, q ≠ p → busy2 q = busy q) ∧
      (∀ (busyM feltM fB lB : Nat → Int32), fM_feels_101 (nI p) (nI t) (nI (fr j)) (nI k) 1 (nI n) L' C' H' R' com busyM feltM fB lB = some (com2, upd busyM p (nI (t + lt p * (if k = 1 then 2 else 1))), feltM, fB, lB)) ∧
      PendI t n fi ld2 hd sec pe2 due2 com2 ∧ ld ≤ ld2 ∧ (∀ x, 20 * (t % 32) ≤ x → x < 20 * (t % 32) + 20 → due2 x = due x) ∧ ∀ q, pe2 t q = pe t q := by
  obtain ⟨hN, hH, hK, hM⟩ := hR
  obtain ⟨pI, pD, pC, pl, pL⟩ := hP
  have n20 := hN.1
  obtain ⟨b1, b2, b3, b4, b5, b6⟩ := hN.2.2.2.1 p hp
  obtain ⟨eK, eL⟩ := hK p hp
  have eL' := (hM.2.2 p hp).2.1
  have z1 : ¬ (1 : Int32) = 0 := by decide
  obtain ⟨ld1, due1, f1, g1, g2, g3, g4, g5⟩ := C_pass hN hH hp ht (show t < t + lt p by omega) (by omega) hj pl htl pD pL
  obtain ⟨com1, f2, g6⟩ := M_pass hN hM hp (show t + lt p ≤ 430 by omega) hj pI.1 hsec pC
  have pI1 := PeI_pass (sl := sl) (τ := t + lt p) (j := j) (m := n) pI hp n20 (by omega)
  have e1 : nI t + nI (lt p) = nI (t + lt p) := nI_add _ _
  have c20 : ∀ {α : Type} (x : Option α), ck 20 (nI p) x = x := fun x => ck_nI (by omega) (by decide)
  by_cases k1 : k = 1
  · subst k1
    obtain ⟨ld2, due2, f3, g7, g8, g9, g10, g11⟩ := C_pass hN hH hp ht (show t < t + 2 * lt p by omega) (by omega) hj g1 (by omega) g3 g4
    obtain ⟨com2, f4, g12⟩ := M_pass hN hM hp (show t + 2 * lt p ≤ 430 by omega) hj pI1.1 hsec g6
    have e2 : nI t + 2 * nI (lt p) = nI (t + 2 * lt p) := by
      rw [show (2 : Int32) = nI 2 from rfl, pk_mul, nI_add]
    have e3 : nI t + nI (lt p) * 2 = nI (t + 2 * lt p) := by
      rw [show (2 : Int32) = nI 2 from rfl, pk_mul, nI_add, Nat.mul_comm]
    refine ⟨ld2, due2, com2, passS hd sl p (t + 2 * lt p) j n (passS hd sl p (t + lt p) j n pe), fun unr busy felt lost first => ⟨upd (upd busy p (nI (t + lt p))) p (nI (t + 2 * lt p)), ?_, ?_, fun q hq => ?_⟩, fun busyM feltM fB lB => ?_, ⟨PeI_pass pI1 hp n20 (by omega), g9, g12, g7, g10⟩, by omega, fun x x1 x2 => (g11 x x1 x2).trans (g5 x x1 x2), fun q => ?_⟩
    · unfold fS_feelOne_U_145
      simp only [c20, nI_clamp (show p < 2 ^ 31 by omega), eL, passU, e1, f1, bd_some]
      rw [if_pos (show nI 1 = (1 : Int32) from rfl), e2, f3, bd_some]
    · rw [pk_us, if_pos rfl, Nat.mul_comm]
    · rw [pk_un hq, pk_un hq]
    · unfold fM_feels_101
      rw [if_neg z1, c20, if_pos (show nI 1 = (1 : Int32) from rfl)]
      unfold fM_feels_126 fM_feels_158
      simp only [c20, nI_clamp (show p < 2 ^ 31 by omega), eL', e1, f2, bd_some]
      rw [if_pos (show nI 1 = (1 : Int32) from rfl), e3, f4, bd_some, if_pos trivial, Nat.mul_comm]
    · rw [passS_early (by omega), passS_early (by omega)]
  · have nk1 : ¬ nI k = (1 : Int32) := neN (b := 1) k1 (by omega) (by decide)
    have e3 : nI t + nI (lt p) * 1 = nI (t + lt p) := by
      rw [show (1 : Int32) = nI 1 from rfl, pk_mul, nI_add, Nat.mul_one]
    refine ⟨ld1, due1, com1, passS hd sl p (t + lt p) j n pe, fun unr busy felt lost first => ⟨upd busy p (nI (t + lt p)), ?_, ?_, fun q hq => pk_un hq⟩, fun busyM feltM fB lB => ?_, ⟨pI1, g3, g6, g1, g4⟩, g2, g5, fun q => ?_⟩
    · unfold fS_feelOne_U_145
      simp only [c20, nI_clamp (show p < 2 ^ 31 by omega), eL, passU, e1, f1, bd_some]
      rw [if_neg nk1]
    · rw [pk_us, if_neg k1, Nat.mul_one]
    · unfold fM_feels_101
      rw [if_neg z1, c20, if_neg nk1]
      unfold fM_feels_126 fM_feels_158
      simp only [c20, nI_clamp (show p < 2 ^ 31 by omega), eL', e1, f2, bd_some]
      rw [if_neg nk1, e3, if_neg k1, Nat.mul_one]
    · rw [passS_early (by omega)]
theorem feel_U (hR : RowR n sc mn hd sl rg kd lt K L H S K' L' C' H' R' M') (hsec : ∀ t q, sec t q < 2 ^ 22) (slI : Int32) {t p j ld s : Nat} {E : Nat → Nat} {Fl : Nat → Bool} {fe lo pe : Nat → Nat → Nat} {bu : Nat → Nat} {unr : Int32} {due com busy felt lost first busyM feltM fB lB : Nat → Int32}
    (hp : p < n) (hj : j < 22) (ht : t ≤ 400) (htl : t ≤ ld) (hP : PendI t n fi ld hd sec pe due com) (hS : SqN (440 * t + 22 * p + j) s E Fl fe lo) (hC : SqC n s E Fl bu unr busy felt lost first) (hM : SqM n s E Fl bu fe lo busyM feltM fB lB) (hbu : BuI n s Fl bu) :
    ∃ (b : Bool) (ld2 : Nat) (unr2 : Int32) (due2 com2 busy2 felt2 lost2 first2 busyM2 feltM2 fB2 lB2 : Nat → Int32) (bu2 : Nat → Nat) (pe2 : Nat → Nat → Nat),
      fS_feelOne_U (nI p) (nI t) (srcC j) (nI n) K L H S slI (nI ld) unr due busy felt lost first = some (nI ld2, unr2, due2, busy2, felt2, lost2, first2) ∧
      fM_feels (nI p) (nI t) (nI (fr j)) slI (nI n) K' L' C' H' R' com busyM feltM fB lB = some (com2, busyM2, feltM2, fB2, lB2) ∧
      (b = true ↔ busy p ≤ nI t) ∧
      PendI t n fi ld2 hd sec pe2 due2 com2 ∧ ld ≤ ld2 ∧
      SqC n (s + 1) (fun i => if i = s then 440 * t + 22 * p + j else E i) (fun i => if i = s then b else Fl i) bu2 unr2 busy2 felt2 lost2 first2 ∧
      SqM n (s + 1) (fun i => if i = s then 440 * t + 22 * p + j else E i) (fun i => if i = s then b else Fl i) bu2 (if b then up2 fe t p (fe t p ||| 2 ^ j) else fe) (if b then lo else up2 lo t p (lo t p ||| 2 ^ j)) busyM2 feltM2 fB2 lB2 ∧
      BuI n (s + 1) (fun i => if i = s then b else Fl i) bu2 ∧ (∀ x, 20 * (t % 32) ≤ x → x < 20 * (t % 32) + 20 → due2 x = due x) ∧ ∀ q, pe2 t q = pe t q := by
  have n20 := hR.1.1
  have p20 : p < 20 := by omega
  have hX : 440 * t + 22 * p + j < 2 ^ 30 := by omega
  have hs := SqN_s hS
  obtain ⟨c1, c2, c3⟩ := hC
  obtain ⟨m1, m2⟩ := hM
  obtain ⟨cb, cf, cl, cr⟩ := c1 p hp
  obtain ⟨mb, mf⟩ := m1 p hp
  obtain ⟨mB, mL⟩ := m2 t p ht hp
  have fl := (hS.2.2.2.1 t p)
  have c20 : ∀ {α : Type} (x : Option α), ck 20 (nI p) x = x := fun x => ck_nI p20 (by decide)
  have ix : (20 : Int32) * nI t + nI p = nI (20 * t + p) := comI t p
  have ck8 : ∀ {α : Type} (x : Option α), ck 8020 (nI (20 * t + p)) x = x := fun x => ck_nI (by omega) (by decide)
  have clp : (nI p).toNatClampNeg = p := nI_clamp (by omega)
  have cl8 : (nI (20 * t + p)).toNatClampNeg = 20 * t + p := nI_clamp (by omega)
  have bup := hbu.1 p hp
  have z1 : ¬ (1 : Int32) = 0 := by decide
  have ctle : ∀ (f : Nat → Bool), fb_ct f s ≤ s := fun f => fb_ct_le f s
  rcases Nat.lt_or_ge t (bu p) with hb | hb
  · -- it is lost
    have nle : ¬ busy p ≤ nI t := by rw [cb]; exact nI_ge hb (by omega)
    refine ⟨false, ld, unr, due, com, busy, felt, upd lost p (lost p + 1), first, busyM, feltM, fB, upd lB (20 * t + p) (lB (20 * t + p) ||| (1 <<< (nI (fr j) &&& 31))), bu, pe, ?_, ?_, ⟨fun w => (by cases w), fun w => absurd w nle⟩, hP, Nat.le_refl _, ⟨fun q hq => ?_, c2, ?_⟩, ⟨fun q hq => ?_, fun t' q ht' hq => ?_⟩, hbu.lost (fun w => by have := hbu.2.1 w p hp; omega), fun _ _ _ => rfl, fun _ => rfl⟩
    · unfold fS_feelOne_U fS_feelOne_U_15
      simp only [c20, clp, if_neg nle, if_neg z1]
    · unfold fM_feels
      simp only [c20, clp, ix, ck8, cl8, mb, if_neg (nI_ge hb (show bu p < 2 ^ 31 by omega))]
    · obtain ⟨x1, x2, x3, x4⟩ := c1 q hq
      refine ⟨x1, ?_, ?_, firR_keep p20 hj false x4 (Or.inl (fun w => by cases w.1))⟩
      · rw [x2, ctF_add E Fl p20 hj false q, if_neg (fun w => by cases w.1), Nat.add_zero]
      · rw [ctL_add E Fl p20 hj false q]
        by_cases e : q = p
        · subst e
          rw [pk_us, x3, nI_1, if_pos ⟨rfl, rfl⟩]
        · rw [pk_un e, x3, if_neg (fun w => e w.2), Nat.add_zero]
    · rw [c3]
      congr 1
      exact unr_same (fun q hq => by rw [ctF_add E Fl p20 hj false q, if_neg (fun w => by cases w.1), Nat.add_zero])
    · obtain ⟨x1, x2⟩ := m1 q hq
      refine ⟨x1, ?_⟩
      rw [x2, ctF_add E Fl p20 hj false q, if_neg (fun w => by cases w.1), Nat.add_zero]
    · simp only [Bool.false_eq_true, if_false]
      obtain ⟨x1, x2⟩ := m2 t' q ht' hq
      refine ⟨x1, ?_⟩
      by_cases e : t' = t ∧ q = p
      · rw [e.1, e.2, pk_us, up2_s, mL, orbit (by have := fr_lt hj; omega), uc_or fl.2 hj]
      · rw [pk_un (by omega), up2_n _ e]
        exact x2
  · -- it is felt
    have le : busy p ≤ nI t := by rw [cb]; exact nI_le hb (by omega)
    have leM : busyM p ≤ nI t := by rw [mb]; exact nI_le hb (by omega)
    obtain ⟨c, hc⟩ : ∃ c : Nat, c = fb_ct (isF E Fl p) s := ⟨_, rfl⟩
    have cs : c ≤ s := by rw [hc]; exact ctle _
    have cf' : felt p = nI c := by rw [cf, hc]
    have mf' : feltM p = nI c := by rw [mf, hc]
    -- the kind that counts
    obtain ⟨k, hk⟩ : ∃ k : Nat, k = (if nI p = slI then 3 else kd p) := ⟨_, rfl⟩
    have k4 : k < 4 := by rw [hk]; split; omega; exact (hR.1.2.2.2.1 p hp).1
    -- the new counts
    have hF : ∀ q, q < n → upd felt p (nI (c + 1)) q = nI (fb_ct (isF (fun i => if i = s then 440 * t + 22 * p + j else E i) (fun i => if i = s then true else Fl i) q) (s + 1)) := by
      intro q hq
      rw [ctF_add E Fl p20 hj true q]
      by_cases e : q = p
      · subst e; rw [pk_us, if_pos ⟨rfl, rfl⟩, hc]
      · rw [pk_un e, (c1 q hq).2.1, if_neg (fun w => e w.2), Nat.add_zero]
    have hFM : ∀ q, q < n → upd feltM p (nI (c + 1)) q = nI (fb_ct (isF (fun i => if i = s then 440 * t + 22 * p + j else E i) (fun i => if i = s then true else Fl i) q) (s + 1)) := by
      intro q hq
      rw [ctF_add E Fl p20 hj true q]
      by_cases e : q = p
      · subst e; rw [pk_us, if_pos ⟨rfl, rfl⟩, hc]
      · rw [pk_un e, (m1 q hq).2, if_neg (fun w => e w.2), Nat.add_zero]
    have hL : ∀ q, q < n → lost q = nI (fb_ct (isL (fun i => if i = s then 440 * t + 22 * p + j else E i) (fun i => if i = s then true else Fl i) q) (s + 1)) := by
      intro q hq
      rw [ctL_add E Fl p20 hj true q, (c1 q hq).2.2.1, if_neg (fun w => by cases w.1), Nat.add_zero]
    have hBits : ∀ t' q, t' ≤ 400 → q < n → upd fB (20 * t + p) (fB (20 * t + p) ||| (1 <<< (nI (fr j) &&& 31))) (20 * t' + q) = nI (uc (up2 fe t p (fe t p ||| 2 ^ j) t' q)) ∧ lB (20 * t' + q) = nI (uc (lo t' q)) := by
      intro t' q ht' hq
      obtain ⟨x1, x2⟩ := m2 t' q ht' hq
      refine ⟨?_, x2⟩
      by_cases e : t' = t ∧ q = p
      · rw [e.1, e.2, pk_us, up2_s, mB, orbit (by have := fr_lt hj; omega), uc_or fl.1 hj]
      · rw [pk_un (by omega), up2_n _ e]
        exact x1
    -- first, and how many are not reached
    obtain ⟨unr2, first2, eU, hFi, hFi2, hU⟩ : ∃ (unr2 : Int32) (first2 : Nat → Int32), (fS_feelOne_U (nI p) (nI t) (srcC j) (nI n) K L H S slI (nI ld) unr due busy felt lost first = fS_feelOne_U_118 (nI p) (nI t) (srcC j) (nI k) (nI n) L H S (nI ld) unr2 due busy (upd felt p (nI (c + 1))) lost first2) ∧ (∀ q, q < n → firR (fun i => if i = s then 440 * t + 22 * p + j else E i) (fun i => if i = s then true else Fl i) (s + 1) q (first2 q)) ∧ (∀ q, n ≤ q → q < 20 → first2 q = -1) ∧ unr2 = nI (fb_ct (fun q => decide (fb_ct (isF (fun i => if i = s then 440 * t + 22 * p + j else E i) (fun i => if i = s then true else Fl i) q) (s + 1) = 0)) n) := by
      have e97 : ∀ (u : Int32) (fr2 : Nat → Int32), fS_feelOne_U_97 (nI p) (nI t) (srcC j) (nI n) K L H S slI (nI ld) u due busy (upd felt p (nI (c + 1))) lost fr2 = fS_feelOne_U_118 (nI p) (nI t) (srcC j) (nI k) (nI n) L H S (nI ld) u due busy (upd felt p (nI (c + 1))) lost fr2 := by
        intro u fr2
        unfold fS_feelOne_U_97
        by_cases w : nI p = slI
        · rw [if_pos w, hk, if_pos w]; rfl
        · rw [if_neg w, hk, if_neg w, c20, clp, (hR.2.2.1 p hp).1]
      by_cases f0 : c = 0
      · have f1 : first p = -1 := (firR_m1 hS.1 hX cr).mpr (by rw [← hc]; exact f0)
        refine ⟨unr - 1, upd first p (nI t), ?_, fun q hq => ?_, fun q h1 h2 => ?_, ?_⟩
        · unfold fS_feelOne_U fS_feelOne_U_15
          simp only [c20, clp, if_pos le, if_pos f1, if_true, cf', nI_1]
          exact e97 _ _
        · by_cases e : q = p
          · subst e; rw [pk_us]; exact firR_new p20 hj (by rw [← hc]; exact f0)
          · rw [pk_un e]; exact firR_keep p20 hj true (c1 q hq).2.2.2 (Or.inl (fun w => e w.2))
        · rw [pk_un (by omega)]; exact c2 q h1 h2
        · rw [c3, unr_less (f := fun q => fb_ct (isF E Fl q) s) (g := fun q => fb_ct (isF (fun i => if i = s then 440 * t + 22 * p + j else E i) (fun i => if i = s then true else Fl i) q) (s + 1)) hp (by rw [← hc]; exact f0) (by rw [ctF_add E Fl p20 hj true p, if_pos ⟨rfl, rfl⟩]; omega) (fun q hq => by rw [ctF_add E Fl p20 hj true q, if_neg (fun w => hq w.2), Nat.add_zero])]
          exact nI_pred _
      · have f1 : ¬ first p = -1 := fun w => f0 (by rw [hc]; exact (firR_m1 hS.1 hX cr).mp w)
        refine ⟨unr, first, ?_, fun q hq => ?_, c2, ?_⟩
        · unfold fS_feelOne_U fS_feelOne_U_15
          simp only [c20, clp, if_pos le, if_neg f1, if_true, cf', nI_1]
          exact e97 _ _
        · by_cases e : q = p
          · subst e; exact firR_keep p20 hj true cr (Or.inr (by omega))
          · exact firR_keep p20 hj true (c1 q hq).2.2.2 (Or.inl (fun w => e w.2))
        · rw [c3]
          congr 1
          refine unr_same (fun q hq => ?_)
          rw [ctF_add E Fl p20 hj true q]
          by_cases e : q = p
          · subst e; rw [if_pos ⟨rfl, rfl⟩]; omega
          · rw [if_neg (fun w => e w.2), Nat.add_zero]
    have eM : fM_feels (nI p) (nI t) (nI (fr j)) slI (nI n) K' L' C' H' R' com busyM feltM fB lB = fM_feels_71 (nI p) (nI t) (nI (fr j)) (nI k) (nI n) L' C' H' R' com busyM (upd feltM p (nI (c + 1))) (upd fB (20 * t + p) (fB (20 * t + p) ||| (1 <<< (nI (fr j) &&& 31)))) lB := by
      unfold fM_feels
      simp only [c20, clp, ix, ck8, cl8, if_pos leM, mf', nI_1]
      by_cases w : nI p = slI
      · rw [if_pos w, hk, if_pos w]; rfl
      · rw [if_neg w, hk, if_neg w, (hR.2.2.2.2.2 p hp).1]
    have rem2 : nI (c + 1) - nI (c + 1) / 2 * 2 = nI ((c + 1) % 2) := by
      rw [show (2 : Int32) = nI 2 from rfl, pk_rem (by omega) (by decide) (by decide)]
    by_cases act : k < 2 ∨ (k = 2 ∧ (c + 1) % 2 = 0)
    · -- it is passed on
      obtain ⟨ld2, due2, com2, pe2, a1, a2, a3, a4, a5, a6⟩ := act_both hR hsec hp hj ht htl (k := k) (by omega) hP
      obtain ⟨busy2, d1, d2, d3⟩ := a1 unr2 busy (upd felt p (nI (c + 1))) lost first2
      have ltb := (hR.1.2.2.2.1 p hp).2.2.1
      have eb : t + lt p * (if k = 1 then 2 else 1) ≤ 430 := by split <;> omega
      refine ⟨true, ld2, unr2, due2, com2, busy2, upd felt p (nI (c + 1)), lost, first2, upd busyM p (nI (t + lt p * (if k = 1 then 2 else 1))), upd feltM p (nI (c + 1)), upd fB (20 * t + p) (fB (20 * t + p) ||| (1 <<< (nI (fr j) &&& 31))), lB, upN bu p (t + lt p * (if k = 1 then 2 else 1)), pe2, ?_, ?_, ⟨fun _ => le, fun _ => rfl⟩, a3, a4, ⟨fun q hq => ⟨?_, hF q hq, hL q hq, hFi q hq⟩, hFi2, hU⟩, ⟨fun q hq => ⟨?_, hFM q hq⟩, hBits⟩, hbu.felt (fun q hq => ?_), a5, a6⟩
      · rw [eU]
        unfold fS_feelOne_U_118
        rw [if_neg (show ¬ nI k = (3 : Int32) from neN (b := 3) (by omega) (by omega) (by decide))]
        by_cases k2 : k = 2
        · have o : (c + 1) % 2 = 0 := by omega
          rw [if_pos (show nI k = (2 : Int32) by rw [k2]; rfl), c20, clp, pk_us, rem2, o, if_neg (show ¬ nI 0 = (1 : Int32) by decide)]
          exact d1
        · rw [if_neg (show ¬ nI k = (2 : Int32) from neN (b := 2) k2 (by omega) (by decide))]
          exact d1
      · rw [eM]
        unfold fM_feels_71 fM_feels_96 fM_feels_100
        rcases act with q1 | ⟨q1, q2⟩
        · rw [if_pos (show nI k < (2 : Int32) from nI_lt (b := 2) q1 (by decide))]
          exact a2 _ _ _ _
        · rw [if_neg (show ¬ nI k < (2 : Int32) from nI_nlt (b := 2) (by omega) (by omega)), if_pos (show nI k = (2 : Int32) by rw [q1]; rfl), c20, clp, pk_us, rem2, q2, if_pos (show nI 0 = (0 : Int32) from rfl)]
          exact a2 _ _ _ _
      · by_cases e : q = p
        · subst e; rw [d2, upN_s]
        · rw [d3 q e, upN_n _ e]; exact (c1 q hq).1
      · by_cases e : q = p
        · subst e; rw [pk_us, upN_s]
        · rw [pk_un e, upN_n _ e]; exact (m1 q hq).1
      · by_cases e : q = p
        · subst e; rw [upN_s]; exact eb
        · rw [upN_n _ e]; exact hbu.1 q hq
    · -- it isn't
      refine ⟨true, ld, unr2, due, com, busy, upd felt p (nI (c + 1)), lost, first2, busyM, upd feltM p (nI (c + 1)), upd fB (20 * t + p) (fB (20 * t + p) ||| (1 <<< (nI (fr j) &&& 31))), lB, bu, pe, ?_, ?_, ⟨fun _ => le, fun _ => rfl⟩, hP, Nat.le_refl _, ⟨fun q hq => ⟨(c1 q hq).1, hF q hq, hL q hq, hFi q hq⟩, hFi2, hU⟩, ⟨fun q hq => ⟨(m1 q hq).1, hFM q hq⟩, hBits⟩, hbu.felt hbu.1, fun _ _ _ => rfl, fun _ => rfl⟩
      · rw [eU]
        unfold fS_feelOne_U_118
        by_cases k3 : k = 3
        · rw [if_pos (show nI k = (3 : Int32) by rw [k3]; rfl)]
        · have k2 : k = 2 := by omega
          have o : (c + 1) % 2 = 1 := by omega
          rw [if_neg (show ¬ nI k = (3 : Int32) from neN (b := 3) k3 (by omega) (by decide)), if_pos (show nI k = (2 : Int32) by rw [k2]; rfl), c20, clp, pk_us, rem2, o, if_pos (show nI 1 = (1 : Int32) from rfl)]
      · rw [eM]
        unfold fM_feels_71 fM_feels_96 fM_feels_100 fM_feels_101
        rw [if_neg (show ¬ nI k < (2 : Int32) from nI_nlt (b := 2) (by omega) (by omega))]
        by_cases k2 : k = 2
        · have o : (c + 1) % 2 = 1 := by omega
          rw [if_pos (show nI k = (2 : Int32) by rw [k2]; rfl), c20, clp, pk_us, rem2, o, if_neg (show ¬ nI 1 = (0 : Int32) by decide), if_pos rfl]
        · rw [if_neg (show ¬ nI k = (2 : Int32) from neN (b := 2) k2 (by omega) (by decide)), if_pos rfl]
end feel
