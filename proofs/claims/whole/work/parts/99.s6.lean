/-! ===== a trial, both sides ===== -/
theorem lastU_4 (a : Int32) (F : Nat → Int32) : ∀ f, fS_lastTime_U_4 a F f = fS_lastTime_T_4 a F f
  | 0 => rfl
  | f + 1 => by
    funext v1 v2
    show fS_lastTime_U_4_b (fS_lastTime_U_4 a F f) a F v1 v2 = fS_lastTime_T_4_b (fS_lastTime_T_4 a F f) a F v1 v2
    rw [lastU_4 a F f]
    rfl
theorem lastU (a : Int32) (F : Nat → Int32) : fS_lastTime_U a F = fS_lastTime_T a F := by
  unfold fS_lastTime_U fS_lastTime_T
  rw [lastU_4]
theorem rb_cong {P Q : Nat → Bool} : ∀ {n : Nat}, (∀ p, p < n → P p = Q p) → rb P n = rb Q n
  | 0, _ => rfl
  | n + 1, h => by
    show (if P n then rb P n ||| 2 ^ n else rb P n) = (if Q n then rb Q n ||| 2 ^ n else rb Q n)
    rw [h n (by omega), rb_cong (fun p hp => h p (by omega))]
theorem U_ok {people scarves main : Int32} {K L H S : Nat → Int32} (hPar : ∃ K0 L0 C0 H0 R0 M0 : Nat → Int32, ParR people scarves main K L H S K0 L0 C0 H0 R0 M0) {n a wh : Nat} (hp : people = nI n) (hn : n ≤ 20) (ha : a < 20) (hw : wh ≤ 99) {seI : Int32} (hse : seI = -1 ∨ ∃ s : Nat, s < 20 ∧ seI = nI s) (slI s0 l0 u0 : Int32) (due busy felt lost first : Nat → Int32) :
    ∃ (ld2 unr2 : Int32) (due2 busy2 felt2 lost2 first2 : Nat → Int32), fS_run_U (nI a) seI (nI wh) slI (nI n) K L H S s0 l0 u0 due busy felt lost first = some (slI, ld2, unr2, due2, busy2, felt2, lost2, first2) ∧ (∀ p, n ≤ p → p < 20 → first2 p = -1) ∧ ∀ (K' L' C' H' R' M' com bt fm fb lb : Nat → Int32), ParR people scarves main K L H S K' L' C' H' R' M' → ∃ (com2 bt2 fm2 fb2 lb2 : Nat → Int32), fM_runs (nI a) seI (nI wh) slI (nI n) K' L' C' H' R' com bt fm fb lb = some (com2, bt2, fm2, fb2, lb2) ∧ (∀ p, p < n → fM_feltBy (nI p) 0 fm2 fb2 = some (first2 p)) ∧ (∃ b : Nat, b < 2 ^ 20 ∧ fS_feltAtLeast_U 1 (nI n) felt2 = some (nI b) ∧ fM_reachedBy 1 (nI n) fm2 = some (nI b) ∧ (a < n → 0 < pcN b)) ∧ ∃ v : Int32, fS_lastTime_U (nI n) first2 = some v ∧ fM_lastBy (nI n) fm2 fb2 = some v := by
  obtain ⟨K0, L0, C0, H0, R0, M0, hPar⟩ := hPar
  obtain ⟨n', sc, mn, hd, sl, rg, kd, lt, r1, r2, r3, r4, r5⟩ := ParR_row hPar
  have en : n' = n := nIn r2 hn (r1.symm.trans hp)
  subst en
  obtain ⟨an, sen, hset⟩ := SetR_of n' hse
  have z : Nat → Int32 := fun _ => 0
  obtain ⟨ld2, s2, E2, Fl2, bu2, unr2, due2, busy2, felt2, lost2, first2, s3, E3, Fl3, fe3, lo3, bu3, com3, busyM3, feltM3, fB3, lB3, w1, w2, w3, w4, w5, w6, w7, w8⟩ := run_U r4 r5 ha hw hset slI s0 l0 u0 due busy felt lost first z z z z z
  refine ⟨ld2, unr2, due2, busy2, felt2, lost2, first2, w1, w3.2.1, fun K' L' C' H' R' M' com bt fm fb lb hq => ?_⟩
  obtain ⟨n2, sc', mn', hd', sl', rg', kd', lt', t1, t2, t3, t4, t5⟩ := ParR_row hq
  have en : n2 = n' := nIn t2 hn (t1.symm.trans hp)
  subst en
  obtain ⟨ld4, s4, E4, Fl4, bu4, unr4, due4, busy4, felt4, lost4, first4, s5, E5, Fl5, fe5, lo5, bu5, com5, busyM5, feltM5, fB5, lB5, v1, v2, v3, v4, v5, v6, v7, v8⟩ := run_U t4 t5 ha hw hset slI s0 l0 u0 due busy felt lost first com bt fm fb lb
  have same := w1.symm.trans v1
  simp only [Option.some.injEq, Prod.mk.injEq, true_and] at same
  obtain ⟨x1, x2, x3, x4, x5, x6, x7⟩ := same
  subst x2 x4 x5 x6 x7
  have alt : ∀ p, p < n2 → s4 = s5 ∨ fb_ct (isF E4 Fl4 p) s4 ≠ 0 := fun p hp => by
    rcases v7 with e | e
    · exact Or.inl e
    · exact Or.inr (e p hp)
  have fir : ∀ p, p < n2 → firR E5 Fl5 s5 p (first2 p) := fun p hp => firR_ext v6 (alt p hp) (v3.1 p hp).2.2.2
  have b5 := SqN_s v4
  have b4 := v6.1
  have l4 := least_go (c := 1) (felt := felt2) (ct := fun p => fb_ct (isF E4 Fl4 p) s4) hn (by decide) (fun p => by have := fb_ct_le (isF E4 Fl4 p) s4; omega) (fun p hp => (v3.1 p hp).2.1)
  have l5 := least_go (c := 1) (felt := feltM5) (ct := fun p => fb_ct (isF E5 Fl5 p) s5) hn (by decide) (fun p => by have := fb_ct_le (isF E5 Fl5 p) s5; omega) (fun p hp => (v5.1 p hp).2)
  have bs : rb (fun p => decide (1 ≤ fb_ct (isF E5 Fl5 p) s5)) n2 = rb (fun p => decide (1 ≤ fb_ct (isF E4 Fl4 p) s4)) n2 := rb_cong (fun p hp => decide_eq_decide.mpr (ct_ext v6 (alt p hp)).symm)
  obtain ⟨v, g1, g2⟩ := lastBy_eq hn v4 v5 fir
  refine ⟨com5, busyM5, feltM5, fB5, lB5, v2, fun p hp => first_eq hn v4 v5 hp (fir p hp), ⟨rb (fun p => decide (1 ≤ fb_ct (isF E4 Fl4 p) s4)) n2, Nat.lt_of_lt_of_le (rb_lt _ n2) (Nat.pow_le_pow_right (by decide) hn), l4.2.2, ?_, fun hlt => ?_⟩, v, ?_, g2⟩
  · rw [← bs]; exact l5.2.1
  · obtain ⟨p, hp, hc⟩ := v8 hlt
    rw [rb_pc _ hn]
    exact fb_ct_pos.mpr ⟨p, hp, decide_eq_true (by omega)⟩
  · rw [lastU]; exact g1
