/-! ===== from time to time ===== -/
theorem sm_ind (P : Nat → Bool) : ∀ n, fb_sm (fun q => if P q then 1 else 0) n = fb_ct P n
  | 0 => rfl
  | n + 1 => by rw [fb_sm_succ, fb_ct_succ, sm_ind P n]
theorem sm_swap (P : Nat → Nat → Bool) (b : Nat) : ∀ a, fb_sm (fun q => fb_ct (fun k => P k q) a) b = fb_sm (fun k => fb_ct (fun q => P k q) b) a
  | 0 => by
    show fb_sm (fun _ => 0) b = 0
    rw [fb_sm_const]
    rfl
  | a + 1 => by
    rw [fb_sm_succ, ← sm_swap P b a, ← sm_ind (fun q => P a q) b, ← fb_sm_add]
    exact fb_sm_cong (fun k _ => fb_ct_succ _ _)
theorem sm_one (x n : Nat) : fb_sm (fun q => if q = x then 1 else 0) n ≤ 1 := by
  have z : fb_sm (fun _ => 0) n = 0 := by rw [fb_sm_const]; rfl
  rcases Nat.lt_or_ge x n with h | h
  · have := fb_sm_upd (fun _ => 0) 1 h
    omega
  · rw [fb_sm_out (fun _ => 0) 1 h]
    omega
def secN (an : Bool) (wh se : Nat) : Nat → Nat → Nat := fun t q => if an = true ∧ t = wh ∧ q = se then 2 else 0
theorem secN_lt (an : Bool) (wh se t q : Nat) : secN an wh se t q < 2 ^ 22 := by unfold secN; split <;> decide
theorem secN_hi (an : Bool) (wh se t q k : Nat) : (secN an wh se t q).testBit (k + 2) = false := by
  refine tb_lt (k := 2) ?_ (by omega)
  unfold secN; split <;> decide
theorem arr_le {n fi wh se t : Nat} {an : Bool} {hd pt : Nat → Nat} {pe : Nat → Nat → Nat} (hn : n ≤ 20) (h60 : fb_sm (fun p => pcN (hd p)) n ≤ 60) (hP : PeI t n fi hd pe) (hpt : ∀ q, pe t q = pt q) : fb_sm (arr (secN an wh se) t pt) n ≤ 62 := by
  have one : ∀ q, arr (secN an wh se) t pt q ≤ ((if q = fi then 1 else 0) + (if q = se then 1 else 0)) + fb_ct (fun k => (hd k).testBit q) n := by
    intro q
    unfold arr pcN
    rw [show (22 : Nat) = 2 + 20 from rfl, fb_ct_split, show (20 : Nat) = n + (20 - n) by omega, fb_ct_split]
    have z : fb_ct (fun k => (pt q ||| secN an wh se t q).testBit (2 + (n + k))) (20 - n) = 0 := fb_ct_zero.mpr (fun k _ => by
      rw [Nat.testBit_or, Nat.add_comm 2, secN_hi, Bool.or_false, ← hpt q]
      cases e : (pe t q).testBit (n + k + 2)
      · rfl
      · have := (hP.2.2.2.1 t q (n + k) e).1
        omega)
    have hi : fb_ct (fun k => (pt q ||| secN an wh se t q).testBit (2 + k)) n ≤ fb_ct (fun k => (hd k).testBit q) n := fb_ct_sub (fun k _ hb => by
      rw [Nat.testBit_or, Nat.add_comm 2, secN_hi, Bool.or_false, ← hpt q] at hb
      exact (hP.2.2.2.1 t q k hb).2)
    have lo : fb_ct (fun k => (pt q ||| secN an wh se t q).testBit k) 2 ≤ (if q = fi then 1 else 0) + (if q = se then 1 else 0) := by
      rw [fb_ct_succ, fb_ct_succ, show fb_ct (fun k => (pt q ||| secN an wh se t q).testBit k) 0 = 0 from rfl, Nat.zero_add]
      refine Nat.add_le_add ?_ ?_
      · by_cases e : (pt q ||| secN an wh se t q).testBit 0 = true
        · have s0 : (secN an wh se t q).testBit 0 = false := by unfold secN; split <;> rfl
          rw [if_pos e]
          rw [Nat.testBit_or, s0, Bool.or_false, ← hpt q] at e
          rw [if_pos (hP.2.2.2.2.2 t q e).2]
          exact Nat.le_refl 1
        · rw [if_neg e]; exact Nat.zero_le _
      · by_cases e : (pt q ||| secN an wh se t q).testBit (0 + 1) = true
        · rw [if_pos e]
          rw [Nat.testBit_or, ← hpt q, hP.2.2.2.2.1 t q, Bool.false_or] at e
          by_cases w : an = true ∧ t = wh ∧ q = se
          · rw [if_pos w.2.2]; exact Nat.le_refl 1
          · unfold secN at e
            rw [if_neg w] at e
            cases e
        · rw [if_neg e]; exact Nat.zero_le _
    omega
  have s1 := fb_sm_le (n := n) (fun q _ => one q)
  rw [fb_sm_add, fb_sm_add, sm_swap] at s1
  have a1 := sm_one fi n
  have a2 := sm_one se n
  have s2 : fb_sm (fun k => fb_ct (fun q => (hd k).testBit q) n) n ≤ fb_sm (fun p => pcN (hd p)) n := fb_sm_le (fun k _ => fb_ct_mono _ (by omega))
  omega
/-- at the head of a time -/
def HeadI (t n fi ld : Nat) (hd : Nat → Nat) (sec pe : Nat → Nat → Nat) (due com : Nat → Int32) : Prop :=
  PeI t n fi hd pe ∧ (∀ t' q, t ≤ t' → t' < t + 32 → q < n → due (20 * (t' % 32) + q) = nI (pe t' q)) ∧ ComR n sec pe com ∧ ld ≤ 400 ∧ (∀ t' q', t ≤ t' → t' ≤ 400 → q' < n → pe t' q' ≠ 0 → t' ≤ ld) ∧ ∀ t' q', sec t' q' ≠ 0 → t' ≤ ld
def SqH (t n fi ld s : Nat) (hd : Nat → Nat) (sec pe : Nat → Nat → Nat) (E : Nat → Nat) (Fl : Nat → Bool) (fe lo : Nat → Nat → Nat) (bu : Nat → Nat) (unr : Int32) (due com busy felt lost first busyM feltM fB lB : Nat → Int32) : Prop :=
  HeadI t n fi ld hd sec pe due com ∧ SqN (440 * t) s E Fl fe lo ∧ SqC n s E Fl bu unr busy felt lost first ∧ SqM n s E Fl bu fe lo busyM feltM fB lB ∧ BuI n s Fl bu
/-- the second squeeze put in -/
def injD (an : Bool) (wh se t : Nat) (due : Nat → Int32) : Nat → Int32 := if an = true ∧ t = wh then upd due (20 * (t % 32) + se) (due (20 * (t % 32) + se) ||| 2) else due
theorem injD_far (an : Bool) {wh se t : Nat} (hs : se < 20) (due : Nat → Int32) {x : Nat} (hx : x < 20 * (t % 32) ∨ 20 * (t % 32) + 20 ≤ x) : injD an wh se t due x = due x := by
  unfold injD
  split
  · rw [pk_un (by omega)]
  · rfl
theorem injD_at (an : Bool) {wh se t n q : Nat} (hs : an = true → se < n) {pe : Nat → Nat → Nat} {due : Nat → Int32} (hd : ∀ q, q < n → due (20 * (t % 32) + q) = nI (pe t q)) (hq : q < n) : injD an wh se t due (20 * (t % 32) + q) = nI (pe t q ||| secN an wh se t q) := by
  unfold injD secN
  by_cases c : an = true ∧ t = wh
  · rw [if_pos c]
    by_cases e : q = se
    · subst e
      rw [pk_us, hd q hq, if_pos ⟨c.1, c.2, rfl⟩, show (2 : Int32) = nI 2 from rfl, fa_or]
    · rw [pk_un (by omega), hd q hq, if_neg (fun w => e w.2.2), Nat.or_zero]
  · rw [if_neg c, hd q hq, if_neg (fun w => c ⟨w.1, w.2.1⟩), Nat.or_zero]
/-- nothing comes any more: the reference goes on to the end -/
theorem idle_144 (k133 : Int32 → run5) (slI : Int32) {t n : Nat} (hn : n ≤ 20) (ht : t ≤ 400) (K' L' C' H' R' : Nat → Int32) (com busyM feltM fB lB : Nat → Int32) (hz : ∀ q, q < n → com (20 * t + q) = 0) : ∀ (m p : Nat), p + m = n → ∀ g, m < g → fM_runs_144 k133 slI (nI t) (nI n) K' L' C' H' R' g (nI p) com busyM feltM fB lB = k133 (nI (t + 1)) com busyM feltM fB lB := by
  intro m
  induction m with
  | zero =>
    intro p hp g hg
    obtain ⟨g, rfl⟩ : ∃ g', g = g' + 1 := ⟨g - 1, by omega⟩
    show fM_runs_144_b _ _ _ _ _ _ _ _ _ _ _ _ _ _ _ _ = _
    unfold fM_runs_144_b
    rw [if_pos (nI_le (show n ≤ p by omega) (by omega)), nI_1]
  | succ m ih =>
    intro p hp g hg
    obtain ⟨g, rfl⟩ : ∃ g', g = g' + 1 := ⟨g - 1, by omega⟩
    show fM_runs_144_b _ _ _ _ _ _ _ _ _ _ _ _ _ _ _ _ = _
    unfold fM_runs_144_b
    rw [if_neg (nI_ge (show p < n by omega) (by omega)), comI, ck_nI (by omega) (by decide), nI_clamp (by omega), hz p (by omega), nm_eq]
    exact (M_rest k133 (fM_runs_144 k133 slI (nI t) (nI n) K' L' C' H' R' g) slI (b := 0) (by decide) (nI n) K' L' C' H' R' com busyM feltM fB lB 22 0 (by omega) (fun k _ => Nat.zero_testBit k) FU (by rw [FU_eq]; decide)).trans (ih (p + 1) (by omega) g (by omega))
theorem idle_M (slI : Int32) {n : Nat} (hn : n ≤ 20) (K' L' C' H' R' : Nat → Int32) (com busyM feltM fB lB : Nat → Int32) : ∀ (m t : Nat), t + m = 401 → (∀ t' q, t ≤ t' → t' ≤ 400 → q < n → com (20 * t' + q) = 0) → ∀ g, m < g → fM_runs_133 slI (nI n) K' L' C' H' R' g (nI t) com busyM feltM fB lB = some (com, busyM, feltM, fB, lB) := by
  intro m
  induction m with
  | zero =>
    intro t ht hz g hg
    obtain ⟨g, rfl⟩ : ∃ g', g = g' + 1 := ⟨g - 1, by omega⟩
    show fM_runs_133_b _ _ _ _ _ _ _ _ _ _ _ _ _ _ = _
    unfold fM_runs_133_b
    rw [if_pos (show (400 : Int32) < nI t from nI_lt (a := 400) (by omega) (by omega))]
  | succ m ih =>
    intro t ht hz g hg
    obtain ⟨g, rfl⟩ : ∃ g', g = g' + 1 := ⟨g - 1, by omega⟩
    show fM_runs_133_b _ _ _ _ _ _ _ _ _ _ _ _ _ _ = _
    unfold fM_runs_133_b
    rw [if_neg (show ¬ (400 : Int32) < nI t from nI_nlt (a := 400) (b := t) (by omega) (by omega))]
    exact (idle_144 _ slI hn (by omega) K' L' C' H' R' com busyM feltM fB lB (fun q hq => hz t q (Nat.le_refl t) (by omega) hq) n 0 (by omega) FU (by rw [FU_eq]; omega)).trans (ih (t + 1) (by omega) (fun t' q h1 h2 hq => hz t' q (by omega) h2 hq) g (by omega))
theorem idle_of {t n fi ld : Nat} {hd : Nat → Nat} {sec pe : Nat → Nat → Nat} {due com : Nat → Int32} (h : HeadI t n fi ld hd sec pe due com) (hl : ld < t) : ∀ t' q, t ≤ t' → t' ≤ 400 → q < n → com (20 * t' + q) = 0 := by
  intro t' q h1 h2 hq
  obtain ⟨h3, h4, h5, h6, h7, h8⟩ := h
  have a : pe t' q = 0 := by
    rcases Nat.eq_zero_or_pos (pe t' q) with e | e
    · exact e
    · have := h7 t' q h1 h2 hq (by omega); omega
  have b : sec t' q = 0 := by
    rcases Nat.eq_zero_or_pos (sec t' q) with e | e
    · exact e
    · have := h8 t' q (by omega); omega
  rw [h5 t' q h2 hq, a, b]
  rfl

theorem st_U {n sc mn fi wh se : Nat} {an : Bool} {hd sl rg kd lt : Nat → Nat} {K L H S K' L' C' H' R' M' : Nat → Int32} (hR : RowR n sc mn hd sl rg kd lt K L H S K' L' C' H' R' M') (h60 : fb_sm (fun p => pcN (hd p)) n ≤ 60) (hse : an = true → se < n) (hs20 : se < 20) (slI : Int32) {t ld s : Nat} {E : Nat → Nat} {Fl : Nat → Bool} {fe lo pe : Nat → Nat → Nat} {bu : Nat → Nat} {unr : Int32} {due com busy felt lost first busyM feltM fB lB : Nat → Int32} (ht : t ≤ 400) (htl : t ≤ ld) (h : SqH t n fi ld s hd (secN an wh se) pe E Fl fe lo bu unr due com busy felt lost first busyM feltM fB lB) (k133 : Int32 → run5) :
    ∃ (ld2 s2 : Nat) (E2 : Nat → Nat) (Fl2 : Nat → Bool) (fe2 lo2 pe2 : Nat → Nat → Nat) (bu2 : Nat → Nat) (unr2 : Int32) (due2 com2 busy2 felt2 lost2 first2 busyM2 feltM2 fB2 lB2 : Nat → Int32),
      fS_feelAll_U (nI t) (nI (20 * (t % 32))) (nI n) K L H S slI (nI ld) unr (injD an wh se t due) busy felt lost first = some (nI ld2, unr2, due2, busy2, felt2, lost2, first2) ∧
      fM_runs_144 k133 slI (nI t) (nI n) K' L' C' H' R' FU 0 com busyM feltM fB lB = k133 (nI (t + 1)) com2 busyM2 feltM2 fB2 lB2 ∧
      SqH (t + 1) n fi ld2 s2 hd (secN an wh se) pe2 E2 Fl2 fe2 lo2 bu2 unr2 due2 com2 busy2 felt2 lost2 first2 busyM2 feltM2 fB2 lB2 ∧ ld ≤ ld2 ∧ Ext n s s2 E E2 Fl Fl2 ∧ s2 ≤ s + 62 ∧ s2 = s + fb_sm (arr (secN an wh se) t (fun q => pe t q)) n := by
  obtain ⟨⟨h1, h2, h3, h4, h5, h6⟩, hS, hC, hM, hbu⟩ := h
  have n20 := hR.1.1
  have a62 := arr_le (an := an) (wh := wh) (se := se) (pt := fun q => pe t q) n20 h60 h1 (fun _ => rfl)
  have t32 : t % 32 < 32 := Nat.mod_lt _ (by decide)
  have nF : n < FU := by rw [FU_eq]; omega
  obtain ⟨ld2, s2, E2, Fl2, fe2, lo2, pe2, bu2, unr2, due2, com2, busy2, felt2, lost2, first2, busyM2, feltM2, fB2, lB2, r1, r2, ⟨⟨r3, r4, r5, r6, r7⟩, rS, rC, rM, rbu⟩, r8, r9, r10, r11⟩ := pl_U (fi := fi) hR (secN_lt an wh se) slI ht k133 (fun q => pe t q) (fun q => h1.1 t q) n 0 ld s E Fl fe lo pe bu unr (injD an wh se t due) com busy felt lost first busyM feltM fB lB (by omega) htl ⟨⟨h1, fun t' q x1 x2 hq => (by
      rw [injD_far an hs20 due (by omega)]
      exact h2 t' q (by omega) x2 hq), h3, h4, fun t' q' x1 x2 x3 x4 => h5 t' q' (by omega) x2 x3 x4⟩, hS, hC, hM, hbu⟩ (fun _ => rfl) (fun q _ hq => injD_at an hse (fun q hq => h2 t q (Nat.le_refl t) (by omega) hq) hq) (fun q hq => absurd hq (Nat.not_lt_zero q)) FU FU nF nF
  have z0 : fb_sm (arr (secN an wh se) t (fun q => pe t q)) 0 = 0 := rfl
  refine ⟨ld2, s2, E2, Fl2, fe2, lo2, pe2, bu2, unr2, due2, com2, busy2, felt2, lost2, first2, busyM2, feltM2, fB2, lB2, r1, r2, ⟨⟨⟨r3.1, fun t' q ht' => r3.2.1 t' q (by omega), r3.2.2⟩, fun t' q x1 x2 hq => ?_, r5, r6, fun t' q' x1 x2 x3 x4 => r7 t' q' (by omega) x2 x3 x4, fun t' q' x => Nat.le_trans (h6 t' q' x) r8⟩, rS, rC, rM, rbu⟩, r8, r10, by omega, by omega⟩
  rcases Nat.lt_or_ge t' (t + 32) with y | y
  · exact r4 t' q (by omega) y hq
  · have e : t' = t + 32 := by omega
    subst e
    rw [Nat.add_mod_right, r9 q hq, r3.2.1 (t + 32) q (by omega)]
    rfl

theorem st_T {n sc mn fi wh se : Nat} {an : Bool} {hd sl rg kd lt : Nat → Nat} {K L H S K' L' C' H' R' M' : Nat → Int32} (hR : RowR n sc mn hd sl rg kd lt K L H S K' L' C' H' R' M') (h60 : fb_sm (fun p => pcN (hd p)) n ≤ 60) (hse : an = true → se < n) (hs20 : se < 20) (slI : Int32) {t ld s : Nat} {E : Nat → Nat} {Fl : Nat → Bool} {fe lo pe : Nat → Nat → Nat} {bu : Nat → Nat} {unr : Int32} {due com busy felt lost first busyM feltM fB lB : Nat → Int32} {ne : Nat} {size : Int32} {ent : Nat → Int32} (hne : ne < 2 ^ 31) (ht : t ≤ 400) (htl : t ≤ ld) (h : SqH t n fi ld s hd (secN an wh se) pe E Fl fe lo bu unr due com busy felt lost first busyM feltM fB lB) (hDi : DiR s E Fl size ent) (hcap : s + 62 ≤ ne) (k133 : Int32 → run5) :
    ∃ (ld2 s2 : Nat) (E2 : Nat → Nat) (Fl2 : Nat → Bool) (fe2 lo2 pe2 : Nat → Nat → Nat) (bu2 : Nat → Nat) (unr2 : Int32) (due2 com2 busy2 felt2 lost2 first2 busyM2 feltM2 fB2 lB2 : Nat → Int32) (size2 : Int32) (ent2 : Nat → Int32),
      fS_feelAll_T (nI t) (nI (20 * (t % 32))) (nI n) K L H S slI (nI ld) unr (injD an wh se t due) busy felt lost first size ne ent = some (nI ld2, unr2, due2, busy2, felt2, lost2, first2, size2, ent2) ∧
      fM_runs_144 k133 slI (nI t) (nI n) K' L' C' H' R' FU 0 com busyM feltM fB lB = k133 (nI (t + 1)) com2 busyM2 feltM2 fB2 lB2 ∧
      SqH (t + 1) n fi ld2 s2 hd (secN an wh se) pe2 E2 Fl2 fe2 lo2 bu2 unr2 due2 com2 busy2 felt2 lost2 first2 busyM2 feltM2 fB2 lB2 ∧ ld ≤ ld2 ∧ Ext n s s2 E E2 Fl Fl2 ∧ s2 ≤ s + 62 ∧ s2 = s + fb_sm (arr (secN an wh se) t (fun q => pe t q)) n ∧ DiR s2 E2 Fl2 size2 ent2 := by
  obtain ⟨⟨h1, h2, h3, h4, h5, h6⟩, hS, hC, hM, hbu⟩ := h
  have n20 := hR.1.1
  have a62 := arr_le (an := an) (wh := wh) (se := se) (pt := fun q => pe t q) n20 h60 h1 (fun _ => rfl)
  have t32 : t % 32 < 32 := Nat.mod_lt _ (by decide)
  have nF : n < FU := by rw [FU_eq]; omega
  obtain ⟨ld2, s2, E2, Fl2, fe2, lo2, pe2, bu2, unr2, due2, com2, busy2, felt2, lost2, first2, busyM2, feltM2, fB2, lB2, size2, ent2, r1, r2, ⟨⟨r3, r4, r5, r6, r7⟩, rS, rC, rM, rbu⟩, r8, r9, r10, r11, r12⟩ := pl_T (fi := fi) hR (secN_lt an wh se) slI hne ht k133 (fun q => pe t q) (fun q => h1.1 t q) n 0 ld s E Fl fe lo pe bu unr (injD an wh se t due) com busy felt lost first busyM feltM fB lB size ent (by omega) htl ⟨⟨h1, fun t' q x1 x2 hq => (by
      rw [injD_far an hs20 due (by omega)]
      exact h2 t' q (by omega) x2 hq), h3, h4, fun t' q' x1 x2 x3 x4 => h5 t' q' (by omega) x2 x3 x4⟩, hS, hC, hM, hbu⟩ (fun _ => rfl) (fun q _ hq => injD_at an hse (fun q hq => h2 t q (Nat.le_refl t) (by omega) hq) hq) (fun q hq => absurd hq (Nat.not_lt_zero q)) hDi (by rw [show fb_sm (arr (secN an wh se) t (fun q => pe t q)) 0 = 0 from rfl]; omega) FU FU nF nF
  have z0 : fb_sm (arr (secN an wh se) t (fun q => pe t q)) 0 = 0 := rfl
  refine ⟨ld2, s2, E2, Fl2, fe2, lo2, pe2, bu2, unr2, due2, com2, busy2, felt2, lost2, first2, busyM2, feltM2, fB2, lB2, size2, ent2, r1, r2, ⟨⟨⟨r3.1, fun t' q ht' => r3.2.1 t' q (by omega), r3.2.2⟩, fun t' q x1 x2 hq => ?_, r5, r6, fun t' q' x1 x2 x3 x4 => r7 t' q' (by omega) x2 x3 x4, fun t' q' x => Nat.le_trans (h6 t' q' x) r8⟩, rS, rC, rM, rbu⟩, r8, r10, by omega, by omega, r12⟩
  rcases Nat.lt_or_ge t' (t + 32) with y | y
  · exact r4 t' q (by omega) y hq
  · have e : t' = t + 32 := by omega
    subst e
    rw [Nat.add_mod_right, r9 q hq, r3.2.1 (t + 32) q (by omega)]
    rfl

/-- the reference goes on alone -/
theorem rest_M {n sc mn fi wh se : Nat} {an : Bool} {hd sl rg kd lt : Nat → Nat} {K L H S K' L' C' H' R' M' : Nat → Int32} (hR : RowR n sc mn hd sl rg kd lt K L H S K' L' C' H' R' M') (h60 : fb_sm (fun p => pcN (hd p)) n ≤ 60) (hse : an = true → se < n) (hs20 : se < 20) (slI : Int32) : ∀ (m t ld s : Nat) (E : Nat → Nat) (Fl : Nat → Bool) (fe lo pe : Nat → Nat → Nat) (bu : Nat → Nat) (unr : Int32) (due com busy felt lost first busyM feltM fB lB : Nat → Int32), t + m = 401 → SqH t n fi ld s hd (secN an wh se) pe E Fl fe lo bu unr due com busy felt lost first busyM feltM fB lB → ∀ g, m < g →
    ∃ (s2 : Nat) (E2 : Nat → Nat) (Fl2 : Nat → Bool) (fe2 lo2 : Nat → Nat → Nat) (bu2 : Nat → Nat) (com2 busyM2 feltM2 fB2 lB2 : Nat → Int32),
      fM_runs_133 slI (nI n) K' L' C' H' R' g (nI t) com busyM feltM fB lB = some (com2, busyM2, feltM2, fB2, lB2) ∧ SqN (440 * 401) s2 E2 Fl2 fe2 lo2 ∧ SqM n s2 E2 Fl2 bu2 fe2 lo2 busyM2 feltM2 fB2 lB2 ∧ Ext n s s2 E E2 Fl Fl2 := by
  intro m
  induction m with
  | zero =>
    intro t ld s E Fl fe lo pe bu unr due com busy felt lost first busyM feltM fB lB ht h g hg
    obtain ⟨g, rfl⟩ : ∃ g', g = g' + 1 := ⟨g - 1, by omega⟩
    refine ⟨s, E, Fl, fe, lo, bu, com, busyM, feltM, fB, lB, ?_, SqN_mono h.2.1 (by omega), h.2.2.2.1, Ext.rf _ _ _ _⟩
    show fM_runs_133_b _ _ _ _ _ _ _ _ _ _ _ _ _ _ = _
    unfold fM_runs_133_b
    rw [if_pos (show (400 : Int32) < nI t from nI_lt (a := 400) (by omega) (by omega))]
  | succ m ih =>
    intro t ld s E Fl fe lo pe bu unr due com busy felt lost first busyM feltM fB lB ht h g hg
    rcases Nat.lt_or_ge ld t with c | c
    · exact ⟨s, E, Fl, fe, lo, bu, com, busyM, feltM, fB, lB, idle_M slI hR.1.1 K' L' C' H' R' com busyM feltM fB lB (m + 1) t ht (idle_of h.1 c) g hg, SqN_mono h.2.1 (by omega), h.2.2.2.1, Ext.rf _ _ _ _⟩
    · obtain ⟨g, rfl⟩ : ∃ g', g = g' + 1 := ⟨g - 1, by omega⟩
      obtain ⟨ld2, s2, E2, Fl2, fe2, lo2, pe2, bu2, unr2, due2, com2, busy2, felt2, lost2, first2, busyM2, feltM2, fB2, lB2, r1, r2, r3, r4, r5, r6⟩ := st_U hR h60 hse hs20 slI (show t ≤ 400 by omega) c h (fM_runs_133 slI (nI n) K' L' C' H' R' g)
      obtain ⟨s3, E3, Fl3, fe3, lo3, bu3, com3, busyM3, feltM3, fB3, lB3, w1, w2, w3, w4⟩ := ih (t + 1) ld2 s2 E2 Fl2 fe2 lo2 pe2 bu2 unr2 due2 com2 busy2 felt2 lost2 first2 busyM2 feltM2 fB2 lB2 (by omega) r3 g (by omega)
      refine ⟨s3, E3, Fl3, fe3, lo3, bu3, com3, busyM3, feltM3, fB3, lB3, ?_, w2, w3, r5.tr w4⟩
      show fM_runs_133_b _ _ _ _ _ _ _ _ _ _ _ _ _ _ = _
      unfold fM_runs_133_b
      rw [if_neg (show ¬ (400 : Int32) < nI t from nI_nlt (a := 400) (b := t) (by omega) (by omega))]
      exact r2.trans w1
