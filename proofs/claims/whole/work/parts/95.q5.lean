/-! ===== the loops of a time ===== -/
def s1 (j : Nat) : Nat := if j < 2 then 0 else j - 1
/-- an entry of the diary -/
def enc (x : Nat) (f : Bool) : Nat := 2048 * (x / 440) + 64 * (x / 22 % 20) + 2 * s1 (x % 22) + (if f then 0 else 1)
def DiR (s : Nat) (E : Nat → Nat) (Fl : Nat → Bool) (size : Int32) (ent : Nat → Int32) : Prop := size = nI s ∧ ∀ i, i < s → ent i = nI (enc (E i) (Fl i))
theorem bd_ck {α β : Type} (n : Nat) (i : Int32) (x : Option β) (k : β → Option α) : bd (ck n i x) k = ck n i (bd x k) := by
  unfold ck
  split <;> rfl
theorem bd_ite {α β : Type} (c : Prop) [Decidable c] (x y : Option β) (k : β → Option α) : bd (if c then x else y) k = if c then bd x k else bd y k := by split <;> rfl
theorem bd_bd {α β γ : Type} (o : Option γ) (k : γ → Option β) (k2 : β → Option α) : bd (bd o k) k2 = bd o (fun x => bd (k x) k2) := by cases o <;> rfl
/-- the told one feels it as the trial does, and notes it -/
theorem T_97 (p t src n : Int32) (K L H S : Nat → Int32) (slI ld unr : Int32) (due busy felt lost first : Nat → Int32) (size : Int32) (ent : Nat → Int32) : fS_feelOne_T_97 p t src n K L H S slI ld unr due busy felt lost first size ent = bd (fS_feelOne_U_97 p t src n K L H S slI ld unr due busy felt lost first) (fun u => some (u.1, u.2.1, u.2.2.1, u.2.2.2.1, u.2.2.2.2.1, u.2.2.2.2.2.1, u.2.2.2.2.2.2, size, ent)) := by
  unfold fS_feelOne_T_97 fS_feelOne_U_97 fS_feelOne_T_118 fS_feelOne_U_118 fS_feelOne_T_145 fS_feelOne_U_145
  simp only [bd_ck, bd_ite, bd_bd, bd_some, passU]
theorem T_feel {p t src n : Int32} {K L H S : Nat → Int32} {slI ld unr : Int32} {due busy felt lost first : Nat → Int32} {size : Int32} {ne : Nat} {ent : Nat → Int32} {p0 : Nat} (hp : p = nI p0) (hp2 : p0 < 20) {d : Int32 × (Nat → Int32)} (hd : fD_note t p src (if busy p0 ≤ t then 0 else 1) size ne ent = some d) : fS_feelOne_T p t src n K L H S slI ld unr due busy felt lost first size ne ent = bd (fS_feelOne_U p t src n K L H S slI ld unr due busy felt lost first) (fun u => some (u.1, u.2.1, u.2.2.1, u.2.2.2.1, u.2.2.2.2.1, u.2.2.2.2.2.1, u.2.2.2.2.2.2, d.1, d.2)) := by
  subst hp
  have c20 : ∀ {α : Type} (x : Option α), ck 20 (nI p0) x = x := fun x => ck_nI hp2 (by decide)
  have clp : (nI p0).toNatClampNeg = p0 := nI_clamp (by omega)
  have z1 : ¬ (1 : Int32) = 0 := by decide
  unfold fS_feelOne_T fS_feelOne_U fS_feelOne_T_15 fS_feelOne_U_15 fS_feelOne_T_41
  simp only [c20, clp]
  by_cases h : busy p0 ≤ t
  · rw [if_pos h] at hd
    simp only [if_pos h, if_true, hd, bd_some, T_97, bd_ite]
  · rw [if_neg h] at hd
    simp only [if_neg h, if_neg z1, hd, bd_some]
theorem srcC_1 {j : Nat} (hj : j < 22) : srcC j + 1 = nI (s1 j) := by
  unfold srcC s1
  by_cases h : j < 2
  · rw [if_pos h, if_pos h]; decide
  · rw [if_neg h, if_neg h, nI_1]; congr 1; omega
theorem D_note_eq {t p j s ne mk : Nat} (ht : t ≤ 400) (hp : p < 20) (hj : j < 22) (hm : mk < 2) (hs : s < ne) (hne : ne < 2 ^ 31) (ent : Nat → Int32) : fD_note (nI t) (nI p) (srcC j) (nI mk) (nI s) ne ent = some (nI (s + 1), upd ent s (nI (2048 * t + 64 * p + 2 * s1 j + mk))) := by
  have hs1 : s1 j ≤ 20 := by unfold s1; split <;> omega
  unfold fD_note
  rw [if_neg (show ¬ Int32.ofNat ne ≤ nI s from nI_ge hs hne), ck_nI hs hne, nI_1, nI_clamp (by omega), srcC_1 hj]
  have a1 : nI t <<< ((11 : Int32) &&& 31) = nI (2 ^ 11 * t) := by
    rw [show (11 : Int32) &&& 31 = nI 11 from rfl, pk_shlN (nI 11) 11 (smod32 (by decide)) (by omega), Nat.mul_comm]
  have a2 : nI p <<< ((6 : Int32) &&& 31) = nI (2 ^ 6 * p) := by
    rw [show (6 : Int32) &&& 31 = nI 6 from rfl, pk_shlN (nI 6) 6 (smod32 (by decide)) (by omega), Nat.mul_comm]
  have a3 : nI (s1 j) <<< ((1 : Int32) &&& 31) = nI (2 ^ 1 * s1 j) := by
    rw [show (1 : Int32) &&& 31 = nI 1 from rfl, pk_shlN (nI 1) 1 (smod32 (by decide)) (by omega), Nat.mul_comm]
  rw [a1, a2, a3, fa_or_sum t (show 2 ^ 6 * p < 2 ^ 11 by omega), show 2 ^ 11 * t + 2 ^ 6 * p = 2 ^ 6 * (32 * t + p) by omega, fa_or_sum (32 * t + p) (show 2 ^ 1 * s1 j < 2 ^ 6 by omega), show 2 ^ 6 * (32 * t + p) + 2 ^ 1 * s1 j = 2 ^ 1 * (1024 * t + 32 * p + s1 j) by omega, fa_or_sum (1024 * t + 32 * p + s1 j) (show mk < 2 ^ 1 by omega), show 2 ^ 1 * (1024 * t + 32 * p + s1 j) + mk = 2048 * t + 64 * p + 2 * s1 j + mk by omega]
theorem low1 (b j : Nat) : nI (b / 2 ^ j) &&& 1 = nI (if b.testBit j then 1 else 0) := by
  rw [show (1 : Int32) = nI (2 ^ 1 - 1) from rfl, fa_mask]
  congr 1
  rw [Nat.testBit_eq_decide_div_mod_eq, Nat.pow_one]
  have := Nat.mod_two_eq_zero_or_one (b / 2 ^ j)
  rcases this with e | e <;> simp [e]
theorem half1 {b j : Nat} (hb : b < 2 ^ 22) : nI (b / 2 ^ j) >>> ((1 : Int32) &&& 31) = nI (b / 2 ^ (j + 1)) := by
  have : b / 2 ^ j ≤ b := Nat.div_le_self _ _
  rw [show (1 : Int32) &&& 31 = nI 1 &&& 31 from rfl, shrN (by omega) (by decide), Nat.div_div_eq_div_mul, ← Nat.pow_add]
theorem noMore {b j k : Nat} (h : b / 2 ^ j = 0) (hk : j ≤ k) : b.testBit k = false := by
  have : b < 2 ^ j := by
    rcases Nat.lt_or_ge b (2 ^ j) with q | q
    · exact q
    · exfalso
      have := Nat.div_pos q (Nat.pow_pos (by decide))
      omega
  exact tb_lt this hk
abbrev run5 : Type := (Nat → Int32) → (Nat → Int32) → (Nat → Int32) → (Nat → Int32) → (Nat → Int32) → Option ((Nat → Int32) × (Nat → Int32) × (Nat → Int32) × (Nat → Int32) × (Nat → Int32))
/-- from whom, by the order -/
theorem frI {j : Nat} (hj : j < 22) : (if (2 : Int32) ≤ nI j then nI j - 2 else 20 + nI j) = nI (fr j) := by
  unfold fr
  by_cases h : j < 2
  · rw [if_pos h, if_neg (show ¬ (2 : Int32) ≤ nI j from nI_ge (b := 2) h (by decide))]
    exact nI_add 20 j
  · rw [if_neg h, if_pos (show (2 : Int32) ≤ nI j from nI_le (a := 2) (by omega) (by omega))]
    exact pk_sub (b := 2) (by omega)
/-- the reference, where no bit is left -/
theorem M_rest (k133 : Int32 → run5) (k144 : Int32 → run5) (slI : Int32) {t p b : Nat} (hb : b < 2 ^ 22) (n : Int32) (K' L' C' H' R' : Nat → Int32) (com busyM feltM fB lB : Nat → Int32) : ∀ (m j : Nat), j + m = 22 → (∀ k, j ≤ k → b.testBit k = false) → ∀ g, m < g → fM_runs_171 k133 k144 slI (nI t) (nI p) (nI (uc b)) n K' L' C' H' R' g (nI j) com busyM feltM fB lB = k144 (nI (p + 1)) com busyM feltM fB lB := by
  intro m
  induction m with
  | zero =>
    intro j hj hz g hg
    obtain ⟨g, rfl⟩ : ∃ f, g = f + 1 := ⟨g - 1, by omega⟩
    show fM_runs_171_b _ _ _ _ _ _ _ _ _ _ _ _ _ _ _ _ _ _ _ = _
    unfold fM_runs_171_b fM_runs_231
    rw [if_pos (show (22 : Int32) ≤ nI j from nI_le (a := 22) (by omega) (by omega)), nI_1]
  | succ m ih =>
    intro j hj hz g hg
    obtain ⟨g, rfl⟩ : ∃ f, g = f + 1 := ⟨g - 1, by omega⟩
    show fM_runs_171_b _ _ _ _ _ _ _ _ _ _ _ _ _ _ _ _ _ _ _ = _
    unfold fM_runs_171_b fM_runs_231
    rw [if_neg (show ¬ (22 : Int32) ≤ nI j from nI_ge (b := 22) (by omega) (by decide)), nI_1]
    by_cases e : nI (uc b) = 0
    · rw [if_pos e]
    · rw [if_neg e]
      have key : ∀ fi : Int32, fi = nI (fr j) → fM_runs_201 k133 k144 (fM_runs_171 k133 k144 slI (nI t) (nI p) (nI (uc b)) n K' L' C' H' R' g) slI (nI t) (nI p) (nI (uc b)) (nI j) fi n K' L' C' H' R' com busyM feltM fB lB = k144 (nI (p + 1)) com busyM feltM fB lB := by
        intro fi hfi
        unfold fM_runs_201 fM_runs_225
        have ul := uc_lt hb
        rw [hfi, M_isIn_eq (by omega) (by have := fr_lt (show j < 22 by omega); omega), uc_fr hb (by omega), hz j (Nat.le_refl j), bd_some, if_pos (show (if (false : Bool) = true then (1 : Int32) else 0) = 0 by rw [if_neg (by decide)]), nI_1]
        exact ih (j + 1) (by omega) (fun k hk => hz k (by omega)) g (by omega)
      have f0 := frI (show j < 22 by omega)
      by_cases c : (2 : Int32) ≤ nI j
      · rw [if_pos c] at f0 ⊢; exact key _ f0
      · rw [if_neg c] at f0 ⊢; exact key _ f0
/-- all that holds between both, at a place of the run -/
def SqA (t n fi X ld s : Nat) (hd : Nat → Nat) (sec pe : Nat → Nat → Nat) (E : Nat → Nat) (Fl : Nat → Bool) (fe lo : Nat → Nat → Nat) (bu : Nat → Nat) (unr : Int32) (due com busy felt lost first busyM feltM fB lB : Nat → Int32) : Prop :=
  PendI t n fi ld hd sec pe due com ∧ SqN X s E Fl fe lo ∧ SqC n s E Fl bu unr busy felt lost first ∧ SqM n s E Fl bu fe lo busyM feltM fB lB ∧ BuI n s Fl bu
/-- the later events keep the earlier ones, and are of people in the row -/
def Ext (n s s2 : Nat) (E E2 : Nat → Nat) (Fl Fl2 : Nat → Bool) : Prop := s ≤ s2 ∧ (∀ i, i < s → E2 i = E i ∧ Fl2 i = Fl i) ∧ ∀ i, s ≤ i → i < s2 → E2 i / 22 % 20 < n
theorem Ext.rf (n s : Nat) (E : Nat → Nat) (Fl : Nat → Bool) : Ext n s s E E Fl Fl := ⟨Nat.le_refl s, fun _ _ => ⟨rfl, rfl⟩, fun i h1 h2 => by omega⟩
theorem Ext.tr {n s s2 s3 : Nat} {E E2 E3 : Nat → Nat} {Fl Fl2 Fl3 : Nat → Bool} (h : Ext n s s2 E E2 Fl Fl2) (g : Ext n s2 s3 E2 E3 Fl2 Fl3) : Ext n s s3 E E3 Fl Fl3 := ⟨Nat.le_trans h.1 g.1, fun i hi => ⟨(g.2.1 i (Nat.lt_of_lt_of_le hi h.1)).1.trans (h.2.1 i hi).1, (g.2.1 i (Nat.lt_of_lt_of_le hi h.1)).2.trans (h.2.1 i hi).2⟩, fun i h1 h2 => by
  rcases Nat.lt_or_ge i s2 with c | c
  · rw [(g.2.1 i c).1]; exact h.2.2 i h1 c
  · exact g.2.2 i c h2⟩
theorem Ext.one (n s x : Nat) (E : Nat → Nat) (Fl : Nat → Bool) (b : Bool) (hx : x / 22 % 20 < n) : Ext n s (s + 1) E (fun i => if i = s then x else E i) Fl (fun i => if i = s then b else Fl i) := ⟨Nat.le_succ s, fun i hi => ⟨if_neg (Nat.ne_of_lt hi), if_neg (Nat.ne_of_lt hi)⟩, fun i h1 h2 => by
  have e : i = s := by omega
  subst e
  show (if i = i then x else E i) / 22 % 20 < n
  rw [if_pos rfl]
  exact hx⟩
def EvN (n s : Nat) (E : Nat → Nat) : Prop := ∀ i, i < s → E i / 22 % 20 < n
theorem EvN.ext {n s s2 : Nat} {E E2 : Nat → Nat} {Fl Fl2 : Nat → Bool} (h : EvN n s E) (g : Ext n s s2 E E2 Fl Fl2) : EvN n s2 E2 := fun i hi => by
  rcases Nat.lt_or_ge i s with c | c
  · rw [(g.2.1 i c).1]; exact h i c
  · exact g.2.2 i c hi

/-- U: those that come to one at a time -/
theorem in_U {n sc mn fi : Nat} {hd sl rg kd lt : Nat → Nat} {K L H S K' L' C' H' R' M' : Nat → Int32} {sec : Nat → Nat → Nat} (hR : RowR n sc mn hd sl rg kd lt K L H S K' L' C' H' R' M') (hsec : ∀ t q, sec t q < 2 ^ 22) (slI : Int32) {t p b : Nat} (hp : p < n) (ht : t ≤ 400) (hb : b < 2 ^ 22) (slot : Int32) (k2 : Int32 → Int32 → Int32 → (Nat → Int32) → (Nat → Int32) → (Nat → Int32) → (Nat → Int32) → (Nat → Int32) → Option (Int32 × Int32 × (Nat → Int32) × (Nat → Int32) × (Nat → Int32) × (Nat → Int32) × (Nat → Int32))) (k133 k144 : Int32 → run5) : ∀ (m j ld s : Nat) (E : Nat → Nat) (Fl : Nat → Bool) (fe lo pe : Nat → Nat → Nat) (bu : Nat → Nat) (unr : Int32) (due com busy felt lost first busyM feltM fB lB : Nat → Int32), j + m = 22 → t ≤ ld → SqA t n fi (440 * t + 22 * p + j) ld s hd sec pe E Fl fe lo bu unr due com busy felt lost first busyM feltM fB lB → ∀ f g, m < f → m < g →
    ∃ (ld2 s2 : Nat) (E2 : Nat → Nat) (Fl2 : Nat → Bool) (fe2 lo2 pe2 : Nat → Nat → Nat) (bu2 : Nat → Nat) (unr2 : Int32) (due2 com2 busy2 felt2 lost2 first2 busyM2 feltM2 fB2 lB2 : Nat → Int32),
      fS_feelAll_U_35 k2 (nI t) slot (nI p) (nI n) K L H S slI f (nI (b / 2 ^ j)) (nI j) (nI ld) unr due busy felt lost first = k2 (nI (p + 1)) (nI ld2) unr2 due2 busy2 felt2 lost2 first2 ∧
      fM_runs_171 k133 k144 slI (nI t) (nI p) (nI (uc b)) (nI n) K' L' C' H' R' g (nI j) com busyM feltM fB lB = k144 (nI (p + 1)) com2 busyM2 feltM2 fB2 lB2 ∧
      SqA t n fi (440 * t + 22 * (p + 1)) ld2 s2 hd sec pe2 E2 Fl2 fe2 lo2 bu2 unr2 due2 com2 busy2 felt2 lost2 first2 busyM2 feltM2 fB2 lB2 ∧ ld ≤ ld2 ∧ (∀ x, 20 * (t % 32) ≤ x → x < 20 * (t % 32) + 20 → due2 x = due x) ∧ (∀ q, pe2 t q = pe t q) ∧ Ext n s s2 E E2 Fl Fl2 ∧ s2 + fb_ct (fun k => b.testBit k) j = s + pcN b := by
  intro m
  induction m with
  | zero =>
    intro j ld s E Fl fe lo pe bu unr due com busy felt lost first busyM feltM fB lB hj htl h f g hf hg
    obtain ⟨f, rfl⟩ : ∃ f', f = f' + 1 := ⟨f - 1, by omega⟩
    have e22 : j = 22 := by omega
    subst e22
    have bz : b / 2 ^ 22 = 0 := Nat.div_eq_of_lt hb
    refine ⟨ld, s, E, Fl, fe, lo, pe, bu, unr, due, com, busy, felt, lost, first, busyM, feltM, fB, lB, ?_, M_rest k133 k144 slI hb (nI n) K' L' C' H' R' com busyM feltM fB lB 0 22 (by omega) (fun k hk => tb_lt hb hk) g hg, h, Nat.le_refl _, fun _ _ _ => rfl, fun _ => rfl, Ext.rf _ _ _ _, rfl⟩
    show fS_feelAll_U_35_b _ _ _ _ _ _ _ _ _ _ _ _ _ _ _ _ _ _ _ _  = _
    unfold fS_feelAll_U_35_b fS_feelAll_U_86
    rw [bz, if_pos (show nI 0 = 0 from rfl), nI_1]
  | succ m ih =>
    intro j ld s E Fl fe lo pe bu unr due com busy felt lost first busyM feltM fB lB hj htl h f g hf hg
    obtain ⟨f, rfl⟩ : ∃ f', f = f' + 1 := ⟨f - 1, by omega⟩
    have j22 : j < 22 := by omega
    have bl : b / 2 ^ j ≤ b := Nat.div_le_self _ _
    obtain ⟨hP, hS, hC, hM, hbu⟩ := h
    by_cases bz : b / 2 ^ j = 0
    · have z : ∀ k, j ≤ k → b.testBit k = false := fun k hk => noMore bz hk
      refine ⟨ld, s, E, Fl, fe, lo, pe, bu, unr, due, com, busy, felt, lost, first, busyM, feltM, fB, lB, ?_, M_rest k133 k144 slI hb (nI n) K' L' C' H' R' com busyM feltM fB lB (m + 1) j hj z g hg, ⟨hP, SqN_mono hS (by omega), hC, hM, hbu⟩, Nat.le_refl _, fun _ _ _ => rfl, fun _ => rfl, Ext.rf _ _ _ _, by rw [pc_low (b := b) (j := j) (by omega) (fun k _ hk => z k hk)]⟩
      show fS_feelAll_U_35_b _ _ _ _ _ _ _ _ _ _ _ _ _ _ _ _ _ _ _ _  = _
      unfold fS_feelAll_U_35_b fS_feelAll_U_86
      rw [bz, if_pos (show nI 0 = 0 from rfl), nI_1]
    · obtain ⟨g, rfl⟩ : ∃ g', g = g' + 1 := ⟨g - 1, by omega⟩
      have ul := uc_lt hb
      have unz : ¬ nI (uc b) = 0 := by
        refine neN (b := 0) (fun w => ?_) (by omega) (by decide)
        have : b = 0 := uc_eq0.mp w
        rw [this, Nat.zero_div] at bz
        exact bz rfl
      have cS := fb_ct_succ (fun k => b.testBit k) j
      have cM : fb_ct (fun k => b.testBit k) (j + 1) ≤ pcN b := fb_ct_mono _ (by omega)
      -- the reference, at one order
      have eM : fM_runs_171 k133 k144 slI (nI t) (nI p) (nI (uc b)) (nI n) K' L' C' H' R' (g + 1) (nI j) com busyM feltM fB lB = (if b.testBit j = true then bd (fM_feels (nI p) (nI t) (nI (fr j)) slI (nI n) K' L' C' H' R' com busyM feltM fB lB) (fun u => fM_runs_171 k133 k144 slI (nI t) (nI p) (nI (uc b)) (nI n) K' L' C' H' R' g (nI (j + 1)) u.1 u.2.1 u.2.2.1 u.2.2.2.1 u.2.2.2.2) else fM_runs_171 k133 k144 slI (nI t) (nI p) (nI (uc b)) (nI n) K' L' C' H' R' g (nI (j + 1)) com busyM feltM fB lB) := by
        have key : ∀ fi : Int32, fi = nI (fr j) → fM_runs_201 k133 k144 (fM_runs_171 k133 k144 slI (nI t) (nI p) (nI (uc b)) (nI n) K' L' C' H' R' g) slI (nI t) (nI p) (nI (uc b)) (nI j) fi (nI n) K' L' C' H' R' com busyM feltM fB lB = (if b.testBit j = true then bd (fM_feels (nI p) (nI t) (nI (fr j)) slI (nI n) K' L' C' H' R' com busyM feltM fB lB) (fun u => fM_runs_171 k133 k144 slI (nI t) (nI p) (nI (uc b)) (nI n) K' L' C' H' R' g (nI (j + 1)) u.1 u.2.1 u.2.2.1 u.2.2.2.1 u.2.2.2.2) else fM_runs_171 k133 k144 slI (nI t) (nI p) (nI (uc b)) (nI n) K' L' C' H' R' g (nI (j + 1)) com busyM feltM fB lB) := by
          intro fi hfi
          unfold fM_runs_201 fM_runs_225
          rw [hfi, M_isIn_eq (by omega) (by have := fr_lt j22; omega), uc_fr hb j22, bd_some, nI_1]
          cases b.testBit j
          · rw [if_pos (show (if (false : Bool) = true then (1 : Int32) else 0) = 0 by rw [if_neg (by decide)]), if_neg (by decide)]
          · rw [if_neg (show ¬ (if (true : Bool) = true then (1 : Int32) else 0) = 0 by rw [if_pos rfl]; decide), if_pos rfl]
        show fM_runs_171_b _ _ _ _ _ _ _ _ _ _ _ _ _ _ _ _ _ _ _ = _
        unfold fM_runs_171_b
        rw [if_neg (show ¬ (22 : Int32) ≤ nI j from nI_ge (b := 22) j22 (by decide)), if_neg unz]
        have f0 := frI j22
        by_cases c : (2 : Int32) ≤ nI j
        · rw [if_pos c] at f0 ⊢; exact key _ f0
        · rw [if_neg c] at f0 ⊢; exact key _ f0
      -- the class, at one order
      have eC : fS_feelAll_U_35 k2 (nI t) slot (nI p) (nI n) K L H S slI (f + 1) (nI (b / 2 ^ j)) (nI j) (nI ld) unr due busy felt lost first = (if b.testBit j = true then bd (fS_feelOne_U (nI p) (nI t) (srcC j) (nI n) K L H S slI (nI ld) unr due busy felt lost first) (fun u => fS_feelAll_U_35 k2 (nI t) slot (nI p) (nI n) K L H S slI f (nI (b / 2 ^ (j + 1))) (nI (j + 1)) u.1 u.2.1 u.2.2.1 u.2.2.2.1 u.2.2.2.2.1 u.2.2.2.2.2.1 u.2.2.2.2.2.2) else fS_feelAll_U_35 k2 (nI t) slot (nI p) (nI n) K L H S slI f (nI (b / 2 ^ (j + 1))) (nI (j + 1)) (nI ld) unr due busy felt lost first) := by
        show fS_feelAll_U_35_b _ _ _ _ _ _ _ _ _ _ _ _ _ _ _ _ _ _ _ _  = _
        unfold fS_feelAll_U_35_b fS_feelAll_U_74 fS_feelAll_U_71 fS_feelAll_U_74
        rw [if_neg (show ¬ nI (b / 2 ^ j) = 0 from neN (b := 0) bz (by omega) (by decide)), if_neg (show ¬ (22 : Int32) ≤ nI j from nI_ge (b := 22) j22 (by decide)), low1, half1 hb, nI_1]
        cases b.testBit j
        · rw [if_pos bI0, if_neg (by decide)]
        · rw [if_neg bI1, if_pos rfl]
          by_cases c : j < 2
          · rw [if_neg (show ¬ (2 : Int32) ≤ nI j from nI_ge (b := 2) c (by decide)), show srcC j = -1 from if_pos c]
          · rw [if_pos (show (2 : Int32) ≤ nI j from nI_le (a := 2) (by omega) (by omega)), show srcC j = nI (j - 2) from if_neg c, show nI j - 2 = nI (j - 2) from pk_sub (b := 2) (by omega)]
      rw [eC, eM]
      cases tb : b.testBit j
      · rw [if_neg (by decide), if_neg (by decide)]
        rw [tb] at cS
        simp only [Bool.false_eq_true, if_false, Nat.add_zero] at cS
        obtain ⟨ld2, s2, E2, Fl2, fe2, lo2, pe2, bu2, unr2, due2, com2, busy2, felt2, lost2, first2, busyM2, feltM2, fB2, lB2, q1, q2, q3, q4, q5, q6, q7, q8⟩ := ih (j + 1) ld s E Fl fe lo pe bu unr due com busy felt lost first busyM feltM fB lB (by omega) htl ⟨hP, SqN_mono hS (by omega), hC, hM, hbu⟩ f g (by omega) (by omega)
        exact ⟨ld2, s2, E2, Fl2, fe2, lo2, pe2, bu2, unr2, due2, com2, busy2, felt2, lost2, first2, busyM2, feltM2, fB2, lB2, q1, q2, q3, q4, q5, q6, q7, by omega⟩
      · rw [if_pos rfl, if_pos rfl]
        rw [tb] at cS
        simp only [if_true] at cS
        obtain ⟨v, ld1, unr1, due1, com1, busy1, felt1, lost1, first1, busyM1, feltM1, fB1, lB1, bu1, pe1, a1, a2, a3, a4, a5, a6, a7, a8, a9, a10⟩ := feel_U hR hsec slI hp j22 ht htl hP hS hC hM hbu
        rw [a1, bd_some, a2, bd_some]
        obtain ⟨ld2, s2, E2, Fl2, fe2, lo2, pe2, bu2, unr2, due2, com2, busy2, felt2, lost2, first2, busyM2, feltM2, fB2, lB2, q1, q2, q3, q4, q5, q6, q7, q8⟩ := ih (j + 1) ld1 (s + 1) _ _ _ _ pe1 bu1 unr1 due1 com1 busy1 felt1 lost1 first1 busyM1 feltM1 fB1 lB1 (by omega) (by omega) ⟨a4, SqN_add hS (show p < 20 by have := hR.1.1; omega) j22 v, a6, a7, a8⟩ f g (by omega) (by omega)
        exact ⟨ld2, s2, E2, Fl2, fe2, lo2, pe2, bu2, unr2, due2, com2, busy2, felt2, lost2, first2, busyM2, feltM2, fB2, lB2, q1, q2, q3, by omega, fun x x1 x2 => (q5 x x1 x2).trans (a9 x x1 x2), fun q => (q6 q).trans (a10 q), (Ext.one n s _ E Fl v (by rw [(lin (t := t) (p := p) (j := j) (by have := hR.1.1; omega) j22).2.1]; exact hp)).tr q7, by omega⟩

/-- T: those that come to one at a time -/
theorem in_T {n sc mn fi : Nat} {hd sl rg kd lt : Nat → Nat} {K L H S K' L' C' H' R' M' : Nat → Int32} {sec : Nat → Nat → Nat} (hR : RowR n sc mn hd sl rg kd lt K L H S K' L' C' H' R' M') (hsec : ∀ t q, sec t q < 2 ^ 22) (slI : Int32) {t p b : Nat} {ne : Nat} (hne : ne < 2 ^ 31) (hp : p < n) (ht : t ≤ 400) (hb : b < 2 ^ 22) (slot : Int32) (k2 : Int32 → Int32 → Int32 → (Nat → Int32) → (Nat → Int32) → (Nat → Int32) → (Nat → Int32) → (Nat → Int32) → Int32 → (Nat → Int32) → Option (Int32 × Int32 × (Nat → Int32) × (Nat → Int32) × (Nat → Int32) × (Nat → Int32) × (Nat → Int32) × Int32 × (Nat → Int32))) (k133 k144 : Int32 → run5) : ∀ (m j ld s : Nat) (E : Nat → Nat) (Fl : Nat → Bool) (fe lo pe : Nat → Nat → Nat) (bu : Nat → Nat) (unr : Int32) (due com busy felt lost first busyM feltM fB lB : Nat → Int32) (size : Int32) (ent : Nat → Int32), j + m = 22 → t ≤ ld → SqA t n fi (440 * t + 22 * p + j) ld s hd sec pe E Fl fe lo bu unr due com busy felt lost first busyM feltM fB lB → DiR s E Fl size ent → s + pcN b ≤ ne + fb_ct (fun k => b.testBit k) j → ∀ f g, m < f → m < g →
    ∃ (ld2 s2 : Nat) (E2 : Nat → Nat) (Fl2 : Nat → Bool) (fe2 lo2 pe2 : Nat → Nat → Nat) (bu2 : Nat → Nat) (unr2 : Int32) (due2 com2 busy2 felt2 lost2 first2 busyM2 feltM2 fB2 lB2 : Nat → Int32) (size2 : Int32) (ent2 : Nat → Int32),
      fS_feelAll_T_35 k2 (nI t) slot (nI p) (nI n) K L H S slI ne f (nI (b / 2 ^ j)) (nI j) (nI ld) unr due busy felt lost first size ent = k2 (nI (p + 1)) (nI ld2) unr2 due2 busy2 felt2 lost2 first2 size2 ent2 ∧
      fM_runs_171 k133 k144 slI (nI t) (nI p) (nI (uc b)) (nI n) K' L' C' H' R' g (nI j) com busyM feltM fB lB = k144 (nI (p + 1)) com2 busyM2 feltM2 fB2 lB2 ∧
      SqA t n fi (440 * t + 22 * (p + 1)) ld2 s2 hd sec pe2 E2 Fl2 fe2 lo2 bu2 unr2 due2 com2 busy2 felt2 lost2 first2 busyM2 feltM2 fB2 lB2 ∧ ld ≤ ld2 ∧ (∀ x, 20 * (t % 32) ≤ x → x < 20 * (t % 32) + 20 → due2 x = due x) ∧ (∀ q, pe2 t q = pe t q) ∧ Ext n s s2 E E2 Fl Fl2 ∧ s2 + fb_ct (fun k => b.testBit k) j = s + pcN b ∧ DiR s2 E2 Fl2 size2 ent2 := by
  intro m
  induction m with
  | zero =>
    intro j ld s E Fl fe lo pe bu unr due com busy felt lost first busyM feltM fB lB size ent hj htl h hDi hcap f g hf hg
    obtain ⟨f, rfl⟩ : ∃ f', f = f' + 1 := ⟨f - 1, by omega⟩
    have e22 : j = 22 := by omega
    subst e22
    have bz : b / 2 ^ 22 = 0 := Nat.div_eq_of_lt hb
    refine ⟨ld, s, E, Fl, fe, lo, pe, bu, unr, due, com, busy, felt, lost, first, busyM, feltM, fB, lB, size, ent, ?_, M_rest k133 k144 slI hb (nI n) K' L' C' H' R' com busyM feltM fB lB 0 22 (by omega) (fun k hk => tb_lt hb hk) g hg, h, Nat.le_refl _, fun _ _ _ => rfl, fun _ => rfl, Ext.rf _ _ _ _, rfl, hDi⟩
    show fS_feelAll_T_35_b _ _ _ _ _ _ _ _ _ _ _ _ _ _ _ _ _ _ _ _ _ _ _  = _
    unfold fS_feelAll_T_35_b fS_feelAll_T_86
    rw [bz, if_pos (show nI 0 = 0 from rfl), nI_1]
  | succ m ih =>
    intro j ld s E Fl fe lo pe bu unr due com busy felt lost first busyM feltM fB lB size ent hj htl h hDi hcap f g hf hg
    obtain ⟨f, rfl⟩ : ∃ f', f = f' + 1 := ⟨f - 1, by omega⟩
    have j22 : j < 22 := by omega
    have bl : b / 2 ^ j ≤ b := Nat.div_le_self _ _
    obtain ⟨hP, hS, hC, hM, hbu⟩ := h
    by_cases bz : b / 2 ^ j = 0
    · have z : ∀ k, j ≤ k → b.testBit k = false := fun k hk => noMore bz hk
      refine ⟨ld, s, E, Fl, fe, lo, pe, bu, unr, due, com, busy, felt, lost, first, busyM, feltM, fB, lB, size, ent, ?_, M_rest k133 k144 slI hb (nI n) K' L' C' H' R' com busyM feltM fB lB (m + 1) j hj z g hg, ⟨hP, SqN_mono hS (by omega), hC, hM, hbu⟩, Nat.le_refl _, fun _ _ _ => rfl, fun _ => rfl, Ext.rf _ _ _ _, by rw [pc_low (b := b) (j := j) (by omega) (fun k _ hk => z k hk)], hDi⟩
      show fS_feelAll_T_35_b _ _ _ _ _ _ _ _ _ _ _ _ _ _ _ _ _ _ _ _ _ _ _  = _
      unfold fS_feelAll_T_35_b fS_feelAll_T_86
      rw [bz, if_pos (show nI 0 = 0 from rfl), nI_1]
    · obtain ⟨g, rfl⟩ : ∃ g', g = g' + 1 := ⟨g - 1, by omega⟩
      have ul := uc_lt hb
      have unz : ¬ nI (uc b) = 0 := by
        refine neN (b := 0) (fun w => ?_) (by omega) (by decide)
        have : b = 0 := uc_eq0.mp w
        rw [this, Nat.zero_div] at bz
        exact bz rfl
      have cS := fb_ct_succ (fun k => b.testBit k) j
      have cM : fb_ct (fun k => b.testBit k) (j + 1) ≤ pcN b := fb_ct_mono _ (by omega)
      -- the reference, at one order
      have eM : fM_runs_171 k133 k144 slI (nI t) (nI p) (nI (uc b)) (nI n) K' L' C' H' R' (g + 1) (nI j) com busyM feltM fB lB = (if b.testBit j = true then bd (fM_feels (nI p) (nI t) (nI (fr j)) slI (nI n) K' L' C' H' R' com busyM feltM fB lB) (fun u => fM_runs_171 k133 k144 slI (nI t) (nI p) (nI (uc b)) (nI n) K' L' C' H' R' g (nI (j + 1)) u.1 u.2.1 u.2.2.1 u.2.2.2.1 u.2.2.2.2) else fM_runs_171 k133 k144 slI (nI t) (nI p) (nI (uc b)) (nI n) K' L' C' H' R' g (nI (j + 1)) com busyM feltM fB lB) := by
        have key : ∀ fi : Int32, fi = nI (fr j) → fM_runs_201 k133 k144 (fM_runs_171 k133 k144 slI (nI t) (nI p) (nI (uc b)) (nI n) K' L' C' H' R' g) slI (nI t) (nI p) (nI (uc b)) (nI j) fi (nI n) K' L' C' H' R' com busyM feltM fB lB = (if b.testBit j = true then bd (fM_feels (nI p) (nI t) (nI (fr j)) slI (nI n) K' L' C' H' R' com busyM feltM fB lB) (fun u => fM_runs_171 k133 k144 slI (nI t) (nI p) (nI (uc b)) (nI n) K' L' C' H' R' g (nI (j + 1)) u.1 u.2.1 u.2.2.1 u.2.2.2.1 u.2.2.2.2) else fM_runs_171 k133 k144 slI (nI t) (nI p) (nI (uc b)) (nI n) K' L' C' H' R' g (nI (j + 1)) com busyM feltM fB lB) := by
          intro fi hfi
          unfold fM_runs_201 fM_runs_225
          rw [hfi, M_isIn_eq (by omega) (by have := fr_lt j22; omega), uc_fr hb j22, bd_some, nI_1]
          cases b.testBit j
          · rw [if_pos (show (if (false : Bool) = true then (1 : Int32) else 0) = 0 by rw [if_neg (by decide)]), if_neg (by decide)]
          · rw [if_neg (show ¬ (if (true : Bool) = true then (1 : Int32) else 0) = 0 by rw [if_pos rfl]; decide), if_pos rfl]
        show fM_runs_171_b _ _ _ _ _ _ _ _ _ _ _ _ _ _ _ _ _ _ _ = _
        unfold fM_runs_171_b
        rw [if_neg (show ¬ (22 : Int32) ≤ nI j from nI_ge (b := 22) j22 (by decide)), if_neg unz]
        have f0 := frI j22
        by_cases c : (2 : Int32) ≤ nI j
        · rw [if_pos c] at f0 ⊢; exact key _ f0
        · rw [if_neg c] at f0 ⊢; exact key _ f0
      -- the class, at one order
      have eC : fS_feelAll_T_35 k2 (nI t) slot (nI p) (nI n) K L H S slI ne (f + 1) (nI (b / 2 ^ j)) (nI j) (nI ld) unr due busy felt lost first size ent = (if b.testBit j = true then bd (fS_feelOne_T (nI p) (nI t) (srcC j) (nI n) K L H S slI (nI ld) unr due busy felt lost first size ne ent) (fun u => fS_feelAll_T_35 k2 (nI t) slot (nI p) (nI n) K L H S slI ne f (nI (b / 2 ^ (j + 1))) (nI (j + 1)) u.1 u.2.1 u.2.2.1 u.2.2.2.1 u.2.2.2.2.1 u.2.2.2.2.2.1 u.2.2.2.2.2.2.1 u.2.2.2.2.2.2.2.1 u.2.2.2.2.2.2.2.2) else fS_feelAll_T_35 k2 (nI t) slot (nI p) (nI n) K L H S slI ne f (nI (b / 2 ^ (j + 1))) (nI (j + 1)) (nI ld) unr due busy felt lost first size ent) := by
        show fS_feelAll_T_35_b _ _ _ _ _ _ _ _ _ _ _ _ _ _ _ _ _ _ _ _ _ _ _  = _
        unfold fS_feelAll_T_35_b fS_feelAll_T_74 fS_feelAll_T_71 fS_feelAll_T_74
        rw [if_neg (show ¬ nI (b / 2 ^ j) = 0 from neN (b := 0) bz (by omega) (by decide)), if_neg (show ¬ (22 : Int32) ≤ nI j from nI_ge (b := 22) j22 (by decide)), low1, half1 hb, nI_1]
        cases b.testBit j
        · rw [if_pos bI0, if_neg (by decide)]
        · rw [if_neg bI1, if_pos rfl]
          by_cases c : j < 2
          · rw [if_neg (show ¬ (2 : Int32) ≤ nI j from nI_ge (b := 2) c (by decide)), show srcC j = -1 from if_pos c]
          · rw [if_pos (show (2 : Int32) ≤ nI j from nI_le (a := 2) (by omega) (by omega)), show srcC j = nI (j - 2) from if_neg c, show nI j - 2 = nI (j - 2) from pk_sub (b := 2) (by omega)]
      rw [eC, eM]
      cases tb : b.testBit j
      · rw [if_neg (by decide), if_neg (by decide)]
        rw [tb] at cS
        simp only [Bool.false_eq_true, if_false, Nat.add_zero] at cS
        obtain ⟨ld2, s2, E2, Fl2, fe2, lo2, pe2, bu2, unr2, due2, com2, busy2, felt2, lost2, first2, busyM2, feltM2, fB2, lB2, size2, ent2, q1, q2, q3, q4, q5, q6, q7, q8, q9⟩ := ih (j + 1) ld s E Fl fe lo pe bu unr due com busy felt lost first busyM feltM fB lB size ent (by omega) htl ⟨hP, SqN_mono hS (by omega), hC, hM, hbu⟩ hDi (by omega) f g (by omega) (by omega)
        exact ⟨ld2, s2, E2, Fl2, fe2, lo2, pe2, bu2, unr2, due2, com2, busy2, felt2, lost2, first2, busyM2, feltM2, fB2, lB2, size2, ent2, q1, q2, q3, q4, q5, q6, q7, by omega, q9⟩
      · rw [if_pos rfl, if_pos rfl]
        rw [tb] at cS
        simp only [if_true] at cS
        obtain ⟨v, ld1, unr1, due1, com1, busy1, felt1, lost1, first1, busyM1, feltM1, fB1, lB1, bu1, pe1, a1, a2, a3, a4, a5, a6, a7, a8, a9, a10⟩ := feel_U hR hsec slI hp j22 ht htl hP hS hC hM hbu
        have mkI : (if busy p ≤ nI t then (0 : Int32) else 1) = nI (if v then 0 else 1) := by
          cases v
          · rw [if_neg (fun w => by have := a3.mpr w; cases this)]; rfl
          · rw [if_pos (a3.mp rfl)]; rfl
        have nt : fD_note (nI t) (nI p) (srcC j) (if busy p ≤ nI t then 0 else 1) size ne ent = some (nI (s + 1), upd ent s (nI (2048 * t + 64 * p + 2 * s1 j + (if v then 0 else 1)))) := by
          rw [mkI, hDi.1]
          exact D_note_eq ht (by have := hR.1.1; omega) j22 (by split <;> omega) (by omega) hne ent
        have hDi1 : DiR (s + 1) (fun i => if i = s then 440 * t + 22 * p + j else E i) (fun i => if i = s then v else Fl i) (nI (s + 1)) (upd ent s (nI (2048 * t + 64 * p + 2 * s1 j + (if v then 0 else 1)))) := by
          obtain ⟨l1, l2, l3⟩ := lin (t := t) (p := p) (j := j) (by have := hR.1.1; omega) j22
          refine ⟨rfl, fun i hi => ?_⟩
          by_cases e : i = s
          · subst e
            rw [pk_us]
            simp only [if_true]
            unfold enc
            rw [l1, l2, l3]
          · rw [pk_un e]
            simp only [if_neg e]
            exact hDi.2 i (by omega)
        rw [T_feel (p0 := p) rfl (by have := hR.1.1; omega) nt, a1, bd_some, bd_some, a2, bd_some]
        obtain ⟨ld2, s2, E2, Fl2, fe2, lo2, pe2, bu2, unr2, due2, com2, busy2, felt2, lost2, first2, busyM2, feltM2, fB2, lB2, size2, ent2, q1, q2, q3, q4, q5, q6, q7, q8, q9⟩ := ih (j + 1) ld1 (s + 1) _ _ _ _ pe1 bu1 unr1 due1 com1 busy1 felt1 lost1 first1 busyM1 feltM1 fB1 lB1 (nI (s + 1)) (upd ent s (nI (2048 * t + 64 * p + 2 * s1 j + (if v then 0 else 1)))) (by omega) (by omega) ⟨a4, SqN_add hS (show p < 20 by have := hR.1.1; omega) j22 v, a6, a7, a8⟩ hDi1 (by omega) f g (by omega) (by omega)
        exact ⟨ld2, s2, E2, Fl2, fe2, lo2, pe2, bu2, unr2, due2, com2, busy2, felt2, lost2, first2, busyM2, feltM2, fB2, lB2, size2, ent2, q1, q2, q3, by omega, fun x x1 x2 => (q5 x x1 x2).trans (a9 x x1 x2), fun q => (q6 q).trans (a10 q), (Ext.one n s _ E Fl v (by rw [(lin (t := t) (p := p) (j := j) (by have := hR.1.1; omega) j22).2.1]; exact hp)).tr q7, by omega, q9⟩
