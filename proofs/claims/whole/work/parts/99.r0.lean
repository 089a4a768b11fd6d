/-! ===== the run, whole ===== -/
def SetR (n : Nat) (an : Bool) (se : Nat) (seI : Int32) : Prop := se < 20 ∧ ((an = true ∧ seI = nI se ∧ se < n) ∨ (an = false ∧ (seI = -1 ∨ ∃ x, n ≤ x ∧ x < 20 ∧ seI = nI x)))
theorem SetR_of (n : Nat) {seI : Int32} (h : seI = -1 ∨ ∃ s : Nat, s < 20 ∧ seI = nI s) : ∃ (an : Bool) (se : Nat), SetR n an se seI := by
  rcases h with e | ⟨s, h1, h2⟩
  · exact ⟨false, 0, by omega, Or.inr ⟨rfl, Or.inl e⟩⟩
  · rcases Nat.lt_or_ge s n with c | c
    · exact ⟨true, s, h1, Or.inl ⟨rfl, h2, c⟩⟩
    · exact ⟨false, 0, by omega, Or.inr ⟨rfl, Or.inr ⟨s, c, h1, h2⟩⟩⟩
def pe0 (a : Nat) : Nat → Nat → Nat := fun t q => if t = 0 ∧ q = a then 1 else 0
theorem PeI_0 (n a : Nat) (hd : Nat → Nat) : PeI 0 n a hd (pe0 a) := by
  have b : ∀ t' q k, (pe0 a t' q).testBit (k + 1) = false := fun t' q k => by
    refine tb_lt (k := 1) ?_ (by omega)
    unfold pe0; split <;> decide
  refine ⟨fun t' q => ?_, fun t' q h => if_neg (by omega), fun t' q h => if_neg (by omega), fun t' q k h => ?_, fun t' q => b t' q 0, fun t' q h => ?_⟩
  · unfold pe0; split <;> decide
  · rw [b t' q (k + 1)] at h
    cases h
  · unfold pe0 at h
    by_cases c : t' = 0 ∧ q = a
    · exact c
    · rw [if_neg c] at h
      cases h
theorem inP {a n : Nat} (ha : a < 20) (hn : n ≤ 20) : fM_in (nI a) 0 (nI n - 1) = some (if a < n then 1 else 0) := by
  rw [M_in_eq]
  congr 1
  by_cases c : a < n
  · rw [if_pos c, if_pos (And.intro (show (0 : Int32) ≤ nI a from nI_le (a := 0) (Nat.zero_le a) (by omega)) (show nI a ≤ nI n - 1 by
      rw [show (1 : Int32) = nI 1 from rfl, pk_sub (by omega)]
      exact nI_le (by omega) (by omega)))]
  · rw [if_neg c, if_neg]
    intro w
    rcases Nat.eq_zero_or_pos n with e | e
    · rw [e, show nI 0 - 1 = (-1 : Int32) by decide] at w
      exact nI_nle_m1 (by omega) w.2
    · rw [show (1 : Int32) = nI 1 from rfl, pk_sub (by omega)] at w
      exact nI_ge (show n - 1 < a by omega) (by omega) w.2
theorem inM1 (x : Int32) : fM_in (-1) 0 x = some 0 := by
  rw [M_in_eq, if_neg]
  intro w
  exact absurd w.1 (by decide)
theorem M_i3 (v1 v2 v3 v4 n : Int32) (K' L' C' H' R' busy felt com fB lB : Nat → Int32) : ∀ (m j : Nat), j + m = 8020 → ∀ f, m < f → fM_runs_3 v1 v2 v3 v4 n K' L' C' H' R' busy felt f (nI j) (fa_fill (fun _ => 0) com j) (fa_fill (fun _ => 0) fB j) (fa_fill (fun _ => 0) lB j) = fM_runs_44 v1 v2 v3 v4 n K' L' C' H' R' (fa_fill (fun _ => 0) com 8020) (fa_fill (fun _ => 0) fB 8020) (fa_fill (fun _ => 0) lB 8020) FU 0 busy felt := by
  intro m
  induction m with
  | zero =>
    intro j hj f hf
    obtain ⟨f, rfl⟩ : ∃ f', f = f' + 1 := ⟨f - 1, by omega⟩
    have e : j = 8020 := by omega
    subst e
    show fM_runs_3_b _ _ _ _ _ _ _ _ _ _ _ _ _ _ _ _ _ = _
    unfold fM_runs_3_b
    rw [if_pos (show (8020 : Int32) ≤ nI 8020 from nI_le (a := 8020) (Nat.le_refl _) (by decide))]
  | succ m ih =>
    intro j hj f hf
    obtain ⟨f, rfl⟩ : ∃ f', f = f' + 1 := ⟨f - 1, by omega⟩
    show fM_runs_3_b _ _ _ _ _ _ _ _ _ _ _ _ _ _ _ _ _ = _
    unfold fM_runs_3_b
    rw [if_neg (show ¬ (8020 : Int32) ≤ nI j from nI_ge (b := 8020) (by omega) (by decide)), ck_nI (by omega) (by decide), ck_nI (by omega) (by decide), ck_nI (by omega) (by decide), nI_1, nI_clamp (by omega)]
    have a1 := fa_fill_succ (fun _ => 0) com j
    have a2 := fa_fill_succ (fun _ => 0) fB j
    have a3 := fa_fill_succ (fun _ => 0) lB j
    rw [a1, a2, a3]
    exact ih (j + 1) (by omega) f (by omega)
theorem M_i44 (v1 v2 v3 v4 : Int32) {n : Nat} (hn : n ≤ 20) (K' L' C' H' R' com fB lB busy felt : Nat → Int32) : ∀ (m j : Nat), j + m = n → ∀ f, m < f → fM_runs_44 v1 v2 v3 v4 (nI n) K' L' C' H' R' com fB lB f (nI j) (fa_fill (fun _ => 0) busy j) (fa_fill (fun _ => 0) felt j) = bd (fM_in v1 0 (nI n - 1)) (fun u => if u = 0 then fM_runs_100 v2 v3 v4 (nI n) K' L' C' H' R' com (fa_fill (fun _ => 0) busy n) (fa_fill (fun _ => 0) felt n) fB lB else ck 8020 v1 (ck 8020 v1 (fM_runs_100 v2 v3 v4 (nI n) K' L' C' H' R' (upd com v1.toNatClampNeg ((com v1.toNatClampNeg) ||| (1048576))) (fa_fill (fun _ => 0) busy n) (fa_fill (fun _ => 0) felt n) fB lB))) := by
  intro m
  induction m with
  | zero =>
    intro j hj f hf
    obtain ⟨f, rfl⟩ : ∃ f', f = f' + 1 := ⟨f - 1, by omega⟩
    have e : j = n := by omega
    subst e
    show fM_runs_44_b _ _ _ _ _ _ _ _ _ _ _ _ _ _ _ _ _ = _
    unfold fM_runs_44_b
    rw [if_pos (nI_le (Nat.le_refl j) (by omega))]
  | succ m ih =>
    intro j hj f hf
    obtain ⟨f, rfl⟩ : ∃ f', f = f' + 1 := ⟨f - 1, by omega⟩
    show fM_runs_44_b _ _ _ _ _ _ _ _ _ _ _ _ _ _ _ _ _ = _
    unfold fM_runs_44_b
    rw [if_neg (nI_ge (show j < n by omega) (by omega)), ck_nI (by omega) (by decide), ck_nI (by omega) (by decide), nI_1, nI_clamp (by omega)]
    have a1 := fa_fill_succ (fun _ => 0) busy j
    have a2 := fa_fill_succ (fun _ => 0) felt j
    rw [a1, a2]
    exact ih (j + 1) (by omega) f (by omega)
theorem uc_1 : uc 1 = 1048576 := by decide
/-- the reference's start -/
theorem M_start {n a wh se : Nat} {an : Bool} {seI : Int32} (hn : n ≤ 20) (ha : a < 20) (hw : wh ≤ 99) (hS : SetR n an se seI) (slI : Int32) (K' L' C' H' R' com busy felt fB lB : Nat → Int32) :
    ∃ (com0 busy0 felt0 fB0 lB0 : Nat → Int32), fM_runs (nI a) seI (nI wh) slI (nI n) K' L' C' H' R' com busy felt fB lB = fM_runs_133 slI (nI n) K' L' C' H' R' FU (nI 0) com0 busy0 felt0 fB0 lB0 ∧ ComR n (secN an wh se) (pe0 a) com0 ∧ SqM n 0 (fun _ => 0) (fun _ => false) (fun _ => 0) (fun _ _ => 0) (fun _ _ => 0) busy0 felt0 fB0 lB0 := by
  have z1 : ¬ (1 : Int32) = 0 := by decide
  obtain ⟨c0, hc0⟩ : ∃ c0 : Nat → Int32, c0 = fa_fill (fun _ => 0) com 8020 := ⟨_, rfl⟩
  have c0z : ∀ t q, t ≤ 400 → q < n → c0 (20 * t + q) = 0 := fun t q h1 h2 => by rw [hc0]; exact fa_fill_in (by omega)
  -- the first
  obtain ⟨c1, e1, h1⟩ : ∃ c1 : Nat → Int32, fM_runs (nI a) seI (nI wh) slI (nI n) K' L' C' H' R' com busy felt fB lB = fM_runs_100 seI (nI wh) slI (nI n) K' L' C' H' R' c1 (fa_fill (fun _ => 0) busy n) (fa_fill (fun _ => 0) felt n) (fa_fill (fun _ => 0) fB 8020) (fa_fill (fun _ => 0) lB 8020) ∧ ∀ t q, t ≤ 400 → q < n → c1 (20 * t + q) = nI (uc (pe0 a t q)) := by
    have st : fM_runs (nI a) seI (nI wh) slI (nI n) K' L' C' H' R' com busy felt fB lB = bd (fM_in (nI a) 0 (nI n - 1)) (fun u => if u = 0 then fM_runs_100 seI (nI wh) slI (nI n) K' L' C' H' R' c0 (fa_fill (fun _ => 0) busy n) (fa_fill (fun _ => 0) felt n) (fa_fill (fun _ => 0) fB 8020) (fa_fill (fun _ => 0) lB 8020) else ck 8020 (nI a) (ck 8020 (nI a) (fM_runs_100 seI (nI wh) slI (nI n) K' L' C' H' R' (upd c0 (nI a).toNatClampNeg ((c0 (nI a).toNatClampNeg) ||| (1048576))) (fa_fill (fun _ => 0) busy n) (fa_fill (fun _ => 0) felt n) (fa_fill (fun _ => 0) fB 8020) (fa_fill (fun _ => 0) lB 8020)))) := by
      have s1 := M_i3 (nI a) seI (nI wh) slI (nI n) K' L' C' H' R' busy felt com fB lB 8020 0 (by omega) FU (by rw [FU_eq]; decide)
      have s2 := M_i44 (nI a) seI (nI wh) slI hn K' L' C' H' R' (fa_fill (fun _ => 0) com 8020) (fa_fill (fun _ => 0) fB 8020) (fa_fill (fun _ => 0) lB 8020) busy felt n 0 (by omega) FU (by rw [FU_eq]; omega)
      rw [fa_fill_0, fa_fill_0, fa_fill_0] at s1
      rw [fa_fill_0, fa_fill_0, ← hc0] at s2
      rw [← hc0] at s1
      exact s1.trans s2
    rw [st, inP ha hn, bd_some]
    by_cases c : a < n
    · refine ⟨upd c0 a (c0 a ||| 1048576), ?_, fun t q x1 x2 => ?_⟩
      · rw [if_neg (show ¬ (if a < n then (1 : Int32) else 0) = 0 by rw [if_pos c]; exact z1), ck_nI (by omega) (by decide), ck_nI (by omega) (by decide), nI_clamp (by omega)]
      · by_cases e : 20 * t + q = a
        · have e1 : t = 0 ∧ q = a := by omega
          have z := c0z 0 a (by omega) c
          rw [Nat.mul_zero, Nat.zero_add] at z
          rw [e, pk_us, z]
          unfold pe0
          rw [if_pos e1, uc_1, show (0 : Int32) = nI 0 from rfl, show (1048576 : Int32) = nI 1048576 from rfl, fa_or, Nat.zero_or]
        · rw [pk_un e, c0z t q x1 x2]
          unfold pe0
          rw [if_neg (by omega)]
          rfl
    · refine ⟨c0, ?_, fun t q x1 x2 => ?_⟩
      · rw [if_pos (show (if a < n then (1 : Int32) else 0) = 0 by rw [if_neg c])]
      · rw [c0z t q x1 x2]
        unfold pe0
        rw [if_neg (by omega)]
        rfl
  have sm : SqM n 0 (fun _ => 0) (fun _ => false) (fun _ => 0) (fun _ _ => 0) (fun _ _ => 0) (fa_fill (fun _ => 0) busy n) (fa_fill (fun _ => 0) felt n) (fa_fill (fun _ => 0) fB 8020) (fa_fill (fun _ => 0) lB 8020) :=
    ⟨fun p hp => ⟨fa_fill_in hp, fa_fill_in hp⟩, fun t p h1 h2 => ⟨(fa_fill_in (f := fun _ => (0 : Int32)) (show 20 * t + p < 8020 by omega)).trans (show (0 : Int32) = nI (uc 0) by decide), (fa_fill_in (f := fun _ => (0 : Int32)) (show 20 * t + p < 8020 by omega)).trans (show (0 : Int32) = nI (uc 0) by decide)⟩⟩
  obtain ⟨hs20, hS⟩ := hS
  rw [e1]
  unfold fM_runs_100 fM_runs_130
  rcases hS with ⟨g1, g2, g3⟩ | ⟨g1, g2⟩
  · subst g1
    rw [g2, inP hs20 hn, bd_some, if_neg (show ¬ (if se < n then (1 : Int32) else 0) = 0 by rw [if_pos g3]; exact z1), comI, ck_nI (by omega) (by decide), ck_nI (by omega) (by decide), nI_clamp (by omega)]
    refine ⟨_, _, _, _, _, rfl, fun t q x1 x2 => ?_, sm⟩
    have pl : pe0 a t q < 2 ^ 22 := (PeI_0 n a (fun _ => 0)).1 t q
    by_cases e : t = wh ∧ q = se
    · rw [e.1, e.2, pk_us, h1 wh se (by omega) g3]
      unfold secN
      rw [if_pos ⟨rfl, rfl, rfl⟩, show (2 : Nat) = 2 ^ 1 from rfl, uc_or ((PeI_0 n a (fun _ => 0)).1 wh se) (by decide), show (2097152 : Int32) = nI (2 ^ fr 1) from rfl, fa_or]
    · rw [pk_un (by omega), h1 t q x1 x2]
      unfold secN
      rw [if_neg (fun w => e w.2), Nat.or_zero]
  · subst g1
    have z : fM_in seI 0 (nI n - 1) = some 0 := by
      rcases g2 with e | ⟨x, x1, x2, x3⟩
      · rw [e]; exact inM1 _
      · rw [x3, inP x2 hn, if_neg (by omega)]
    rw [z, bd_some, if_pos rfl]
    refine ⟨_, _, _, _, _, rfl, fun t q x1 x2 => ?_, sm⟩
    rw [h1 t q x1 x2]
    unfold secN
    rw [if_neg (fun w => by cases w.1), Nat.or_zero]
def ld0 (n a wh : Nat) (an : Bool) : Int32 := if an = true then nI wh else if a < n then nI 0 else -1
def du0 (n a : Nat) (due : Nat → Int32) : Nat → Int32 := if a < n then upd (fun k => if k < 640 then 0 else due k) a 1 else (fun k => if k < 640 then 0 else due k)
theorem du0_at {n a t' q : Nat} (hn : n ≤ 20) (ha : a < 20) (due : Nat → Int32) (ht : t' < 32) (hq : q < n) : du0 n a due (20 * (t' % 32) + q) = nI (pe0 a t' q) := by
  rw [Nat.mod_eq_of_lt ht]
  unfold du0 pe0
  by_cases c : a < n
  · rw [if_pos c]
    by_cases e : t' = 0 ∧ q = a
    · rw [if_pos e, e.1, e.2, Nat.mul_zero, Nat.zero_add, pk_us]; rfl
    · rw [if_neg e, pk_un (by omega)]
      show (if 20 * t' + q < 640 then (0 : Int32) else due (20 * t' + q)) = _
      rw [if_pos (by omega)]; rfl
  · rw [if_neg c, if_neg (show ¬ (t' = 0 ∧ q = a) by omega)]
    show (if 20 * t' + q < 640 then (0 : Int32) else due (20 * t' + q)) = _
    rw [if_pos (by omega)]; rfl
theorem C_startT {n a wh se : Nat} {an : Bool} {seI : Int32} (hn : n ≤ 20) (ha : a < 20) (hS : SetR n an se seI) (slI s0 l0 u0 : Int32) (K L H S due busy felt lost first : Nat → Int32) (size : Int32) (ne : Nat) (ent : Nat → Int32) :
    fS_run_T (nI a) seI (nI wh) slI (nI n) K L H S s0 l0 u0 due busy felt lost first size ne ent = mz ne (fun u => u.2.2.2.2.2.2.2.2.2.1) (fS_run_T_72 seI (nI wh) (if an = true then 1 else 0) (nI n) K L H S slI FU (nI 0) (ld0 n a wh an) (nI n) (du0 n a due) (fun k => if k < 20 then 0 else busy k) (fun k => if k < 20 then 0 else felt k) (fun k => if k < 20 then 0 else lost k) (fun k => if k < 20 then -1 else first k) 0 ne ent) := by
  have z1 : ¬ (1 : Int32) = 0 := by decide
  unfold fS_run_T fS_clear_T
  rw [J_fill_eq _ _ _ (by decide), bd_some, J_fill_eq _ _ _ (by decide), bd_some, J_fill_eq _ _ _ (by decide), bd_some, J_fill_eq _ _ _ (by decide), bd_some, J_fill_eq _ _ _ (by decide), bd_some, bd_some]
  congr 1
  have hd : ∀ s0' : Int32, fS_run_T_31 (nI a) seI (nI wh) s0' (nI n) K L H S slI (-1) (nI n) (fun k => if k < 640 then 0 else due k) (fun k => if k < 20 then 0 else busy k) (fun k => if k < 20 then 0 else felt k) (fun k => if k < 20 then 0 else lost k) (fun k => if k < 20 then -1 else first k) 0 ne ent = fS_run_T_59 seI (nI wh) s0' (nI n) K L H S slI (if a < n then nI 0 else -1) (nI n) (du0 n a due) (fun k => if k < 20 then 0 else busy k) (fun k => if k < 20 then 0 else felt k) (fun k => if k < 20 then 0 else lost k) (fun k => if k < 20 then -1 else first k) 0 ne ent := by
    intro s0'
    unfold fS_run_T_31 du0
    by_cases c : a < n
    · rw [if_neg (nI_ge c (by omega)), if_pos c, if_pos c, ck_nI (by omega) (by decide), ck_nI (by omega) (by decide), nI_clamp (by omega), show (fun k => if k < 640 then (0 : Int32) else due k) a ||| 1 = 1 by
        show (if a < 640 then (0 : Int32) else due a) ||| 1 = 1
        rw [if_pos (show a < 640 by omega)]; rfl]
      rfl
    · rw [if_pos (nI_le (show n ≤ a by omega) (by omega)), if_neg c, if_neg c]
  unfold ld0
  rcases hS.2 with ⟨g1, g2, g3⟩ | ⟨g1, g2⟩
  · subst g1
    rw [g2, if_neg (nI_ne_m1 (by have := hS.1; omega)), if_neg (nI_ge g3 (by omega)), ← g2, hd, if_pos rfl, if_pos rfl]
    unfold fS_run_T_59 fS_run_T_69
    rw [if_neg z1]
    rfl
  · subst g1
    have k : ∀ x : Option (Int32 × Int32 × Int32 × (Nat → Int32) × (Nat → Int32) × (Nat → Int32) × (Nat → Int32) × (Nat → Int32) × Int32 × Nat × (Nat → Int32)), (if seI = -1 then fS_run_T_30 (nI a) seI (nI wh) (nI n) K L H S slI (-1) (nI n) (fun k => if k < 640 then 0 else due k) (fun k => if k < 20 then 0 else busy k) (fun k => if k < 20 then 0 else felt k) (fun k => if k < 20 then 0 else lost k) (fun k => if k < 20 then -1 else first k) 0 ne ent else if nI n ≤ seI then fS_run_T_30 (nI a) seI (nI wh) (nI n) K L H S slI (-1) (nI n) (fun k => if k < 640 then 0 else due k) (fun k => if k < 20 then 0 else busy k) (fun k => if k < 20 then 0 else felt k) (fun k => if k < 20 then 0 else lost k) (fun k => if k < 20 then -1 else first k) 0 ne ent else x) = fS_run_T_30 (nI a) seI (nI wh) (nI n) K L H S slI (-1) (nI n) (fun k => if k < 640 then 0 else due k) (fun k => if k < 20 then 0 else busy k) (fun k => if k < 20 then 0 else felt k) (fun k => if k < 20 then 0 else lost k) (fun k => if k < 20 then -1 else first k) 0 ne ent := by
      intro x
      rcases g2 with e | ⟨y, y1, y2, y3⟩
      · rw [if_pos e]
      · rw [y3, if_neg (nI_ne_m1 (by omega)), if_pos (nI_le y1 (by omega))]
    rw [k]
    unfold fS_run_T_30
    rw [hd, if_neg (show ¬ (false : Bool) = true by decide), if_neg (show ¬ (false : Bool) = true by decide)]
    unfold fS_run_T_59 fS_run_T_69
    rw [if_pos rfl]
    rfl
theorem C_startU {n a wh se : Nat} {an : Bool} {seI : Int32} (hn : n ≤ 20) (ha : a < 20) (hS : SetR n an se seI) (slI s0 l0 u0 : Int32) (K L H S due busy felt lost first : Nat → Int32) :
    fS_run_U (nI a) seI (nI wh) slI (nI n) K L H S s0 l0 u0 due busy felt lost first = fS_run_U_72 seI (nI wh) (if an = true then 1 else 0) (nI n) K L H S slI FU (nI 0) (ld0 n a wh an) (nI n) (du0 n a due) (fun k => if k < 20 then 0 else busy k) (fun k => if k < 20 then 0 else felt k) (fun k => if k < 20 then 0 else lost k) (fun k => if k < 20 then -1 else first k) := by
  have z1 : ¬ (1 : Int32) = 0 := by decide
  unfold fS_run_U fS_clear_U
  rw [J_fill_eq _ _ _ (by decide), bd_some, J_fill_eq _ _ _ (by decide), bd_some, J_fill_eq _ _ _ (by decide), bd_some, J_fill_eq _ _ _ (by decide), bd_some, J_fill_eq _ _ _ (by decide), bd_some, bd_some]
  have hd : ∀ s0' : Int32, fS_run_U_31 (nI a) seI (nI wh) s0' (nI n) K L H S slI (-1) (nI n) (fun k => if k < 640 then 0 else due k) (fun k => if k < 20 then 0 else busy k) (fun k => if k < 20 then 0 else felt k) (fun k => if k < 20 then 0 else lost k) (fun k => if k < 20 then -1 else first k) = fS_run_U_59 seI (nI wh) s0' (nI n) K L H S slI (if a < n then nI 0 else -1) (nI n) (du0 n a due) (fun k => if k < 20 then 0 else busy k) (fun k => if k < 20 then 0 else felt k) (fun k => if k < 20 then 0 else lost k) (fun k => if k < 20 then -1 else first k) := by
    intro s0'
    unfold fS_run_U_31 du0
    by_cases c : a < n
    · rw [if_neg (nI_ge c (by omega)), if_pos c, if_pos c, ck_nI (by omega) (by decide), ck_nI (by omega) (by decide), nI_clamp (by omega), show (fun k => if k < 640 then (0 : Int32) else due k) a ||| 1 = 1 by
        show (if a < 640 then (0 : Int32) else due a) ||| 1 = 1
        rw [if_pos (show a < 640 by omega)]; rfl]
      rfl
    · rw [if_pos (nI_le (show n ≤ a by omega) (by omega)), if_neg c, if_neg c]
  unfold ld0
  rcases hS.2 with ⟨g1, g2, g3⟩ | ⟨g1, g2⟩
  · subst g1
    rw [g2, if_neg (nI_ne_m1 (by have := hS.1; omega)), if_neg (nI_ge g3 (by omega)), ← g2, hd, if_pos rfl, if_pos rfl]
    unfold fS_run_U_59 fS_run_U_69
    rw [if_neg z1]
    rfl
  · subst g1
    have k : ∀ x : Option (Int32 × Int32 × Int32 × (Nat → Int32) × (Nat → Int32) × (Nat → Int32) × (Nat → Int32) × (Nat → Int32)), (if seI = -1 then fS_run_U_30 (nI a) seI (nI wh) (nI n) K L H S slI (-1) (nI n) (fun k => if k < 640 then 0 else due k) (fun k => if k < 20 then 0 else busy k) (fun k => if k < 20 then 0 else felt k) (fun k => if k < 20 then 0 else lost k) (fun k => if k < 20 then -1 else first k) else if nI n ≤ seI then fS_run_U_30 (nI a) seI (nI wh) (nI n) K L H S slI (-1) (nI n) (fun k => if k < 640 then 0 else due k) (fun k => if k < 20 then 0 else busy k) (fun k => if k < 20 then 0 else felt k) (fun k => if k < 20 then 0 else lost k) (fun k => if k < 20 then -1 else first k) else x) = fS_run_U_30 (nI a) seI (nI wh) (nI n) K L H S slI (-1) (nI n) (fun k => if k < 640 then 0 else due k) (fun k => if k < 20 then 0 else busy k) (fun k => if k < 20 then 0 else felt k) (fun k => if k < 20 then 0 else lost k) (fun k => if k < 20 then -1 else first k) := by
      intro x
      rcases g2 with e | ⟨y, y1, y2, y3⟩
      · rw [if_pos e]
      · rw [y3, if_neg (nI_ne_m1 (by omega)), if_pos (nI_le y1 (by omega))]
    rw [k]
    unfold fS_run_U_30
    rw [hd, if_neg (show ¬ (false : Bool) = true by decide), if_neg (show ¬ (false : Bool) = true by decide)]
    unfold fS_run_U_59 fS_run_U_69
    rw [if_pos rfl]
    rfl
