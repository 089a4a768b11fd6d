set_option maxHeartbeats 4000000 in
set_option maxRecDepth 100000 in
theorem kP_limitsAsOne (l : Launch) (dC : Nat → ClassId) (dI : Nat → Nat → Nat) (cA : ClassId) (ad : Nat → Nat) (sz : Nat) (xPos_size : Int32) (xPos_shortest : Int32) (xPos_longest : Int32) (xPos_slip : Int32) (u : Int32) (hm : fP_limitsAsOne xPos_shortest xPos_longest xPos_slip = some u) : Met l yX3_limitsAsOne wsX3_limitsAsOne ({ frames := 1, cells := 0, slots := 0, locals := 21 }) (va_Pc [.ref (ad 26)] (fun U => U.heap.size = sz ∧ va_P (dC, dI) vwCl [oPos ad xPos_size xPos_shortest xPos_longest xPos_slip] U.heap ∧ va_K (dC, dI) vwCl [(cA, .int)] U ∧ va_D (fun _ => True) [oPos ad xPos_size xPos_shortest xPos_longest xPos_slip])) (va_Qi (fun (r : Int32) (_ : Unit) => r = u) (fun (_ : Unit) t => va_P (dC, dI) vwCl [oPos ad xPos_size xPos_shortest xPos_longest xPos_slip] t.heap ∧ va_K (dC, dI) vwCl [(cA, .int)] t ∧ va_D (va_A [oPos ad xPos_size xPos_shortest xPos_longest xPos_slip] sz) [oPos ad xPos_size xPos_shortest xPos_longest xPos_slip]) (va_A [oPos ad xPos_size xPos_shortest xPos_longest xPos_slip] sz)) 0 0 (va_A [oPos ad xPos_size xPos_shortest xPos_longest xPos_slip] sz) := by
  refine Met.ofW (cc := cX3_limitsAsOne) (maxL := 1) (ret := (some .int)) (by decide) rfl ?_
  intro p e s m args below meth c s₁ B hml hv
  obtain ⟨rfl, hsz, hP, hK, hD0⟩ := hv
  have hx := B.exec
  have hb := B.bytes
  have hr := B.returns
  have hts := atoms_spec (ws := wsX3_limitsAsOne) B.pre
  have hown : s.vm.findClass RX3 = some m.cls := findClass_of_methodNamed B.named
  have hlocks := B.notSynchronized
  subst hsz
  have hD := hD0.self (sz := s.heap.size)
  generalize hAe : va_A [oPos ad xPos_size xPos_shortest xPos_longest xPos_slip] s.heap.size = A at hD ⊢
  have hA : ∀ q : Nat, s.heap.size ≤ q → A q := fun q h => by rw [← hAe]; exact Or.inr h
  have hS : va_S A s.heap s.heap [] := va_S.rf
  have hl := lv_entry ([.ref (ad 26)]) (n := 1) (Nat.le_of_ble_eq_true rfl)
  rw [lg_entry_eq]
  generalize (lg_sl ([.ref (ad 26)]) ++ List.replicate (1 - (lg_sl ([.ref (ad 26)])).length) Slot.unset).toArray = ls at hl ⊢
  have hl : lv_has ls 1 [(0, .ref (ad 26))] := hl
  refine wk_Q (fun QQ hQ => ?_)
  have hinX3 : ∀ w ∈ wsX30, w ∈ wsX3_limitsAsOne := fun w h => List.mem_cons_of_mem _ (inlX3 w h)
  have hl_25 := hts (.fieldLink RX3 25 "HandCensus$Posting" "shortest" "I") (List.mem_cons_of_mem _ (in_r5 _ (List.mem_of_getElem? (i := 8) rfl)))
  have hl_28 := hts (.fieldLink RX3 28 "HandCensus$Posting" "longest" "I") (List.mem_cons_of_mem _ (in_r5 _ (List.mem_of_getElem? (i := 9) rfl)))
  have hl_31 := hts (.fieldLink RX3 31 "HandCensus$Posting" "slip" "I") (List.mem_cons_of_mem _ (in_r5 _ (List.mem_of_getElem? (i := 10) rfl)))
  have hw_3 := hts (.methodLink RX3 40 Lib.Math.min.name) (List.mem_cons_of_mem _ (in_r28 _ (List.mem_of_getElem? (i := 13) rfl)))
  have hw_4 := hts (.static Lib.Math.min.name) (List.mem_cons_of_mem _ (in_r15 _ (List.mem_of_getElem? (i := 10) rfl)))
  have hw_5 := hts (.initialized "java/lang/Math") (List.mem_cons_of_mem _ (in_r15 _ (List.mem_of_getElem? (i := 11) rfl)))
  have hw_6 := hts (.code Lib.Math.min.name Lib.Math.min.code 2 (some .int)) (List.mem_cons_of_mem _ (in_r15 _ (List.mem_of_getElem? (i := 12) rfl)))
  unfold fP_limitsAsOne at hm
  refine lv_bipush (v := 100) hx hb dX3_limitsAsOne_0 (by decide) ?_
  refine lv_aload_n hx hb dX3_limitsAsOne_2 rfl (lv_at hl 0 rfl) ?_
  refine va_get (D := (dC, dI)) (ci := 3) (v := .int xPos_shortest) (C := RX3) (T := TX3) (N := 7) hx hb hts hinX3 hown hK hP 0 rfl rfl 4 (by decide) hl_25 (fun _ h9 => h9) rfl dX3_limitsAsOne_3 ?_
  refine lv_imul hx hb dX3_limitsAsOne_6 ?_
  refine lv_bipush (v := 10) hx hb dX3_limitsAsOne_7 (by decide) ?_
  refine lv_aload_n hx hb dX3_limitsAsOne_9 rfl (lv_at hl 0 rfl) ?_
  refine va_get (D := (dC, dI)) (ci := 3) (v := .int xPos_longest) (C := RX3) (T := TX3) (N := 7) hx hb hts hinX3 hown hK hP 0 rfl rfl 5 (by decide) hl_28 (fun _ h9 => h9) rfl dX3_limitsAsOne_10 ?_
  refine lv_imul hx hb dX3_limitsAsOne_13 ?_
  refine lv_iadd hx hb dX3_limitsAsOne_14 ?_
  refine lv_aload_n hx hb dX3_limitsAsOne_15 rfl (lv_at hl 0 rfl) ?_
  refine va_get (D := (dC, dI)) (ci := 3) (v := .int xPos_slip) (C := RX3) (T := TX3) (N := 7) hx hb hts hinX3 hown hK hP 0 rfl rfl 6 (by decide) hl_31 (fun _ h9 => h9) rfl dX3_limitsAsOne_16 ?_
  refine lv_bipush (v := 9) hx hb dX3_limitsAsOne_19 (by decide) ?_
  refine va_mmin hx hb (by rw [hml]; exact hl.1.symm) hown hw_3 hw_4 hw_5 hw_6 (Nat.le_of_ble_eq_true rfl) (Nat.le_of_ble_eq_true rfl) (by first | exact Nat.zero_le _ | (show _ ≤ _ - _; omega)) (by first | exact Nat.zero_le _ | (show _ ≤ 2 * (_ - _); omega)) dX3_limitsAsOne_21 ?_
  refine lv_iadd hx hb dX3_limitsAsOne_24 ?_
  obtain rfl := Option.some.inj hm
  subst hQ
  exact W.iret (v := (((100 * xPos_shortest) + (10 * xPos_longest)) + (if 9 < xPos_slip then 9 else xPos_slip))) hx hb hr (fun t ht hW => ⟨⟨_, (), rfl, rfl, by rw [ht]; exact hP, va_K.moved hW.alike hK, hAe ▸ hD⟩, hS.F ht⟩) hS.2.2 dX3_limitsAsOne_25

set_option maxHeartbeats 4000000 in
set_option maxRecDepth 100000 in
theorem kP_setLimits (l : Launch) (dC : Nat → ClassId) (dI : Nat → Nat → Nat) (cA : ClassId) (ad : Nat → Nat) (sz : Nat) (a1 : Int32) (a2 : Int32) (a3 : Int32) (xPos_size : Int32) (xPos_shortest : Int32) (xPos_longest : Int32) (xPos_slip : Int32) (u : Int32 × Int32 × Int32) (hm : fP_setLimits a1 a2 a3 xPos_shortest xPos_longest xPos_slip = some u) : Met l yX3_setLimits wsX3_setLimits ({ frames := 0, cells := 0, slots := 0, locals := 0 }) (va_Pc [.ref (ad 26), .int a1, .int a2, .int a3] (fun U => U.heap.size = sz ∧ va_P (dC, dI) vwCl [oPos ad xPos_size xPos_shortest xPos_longest xPos_slip] U.heap ∧ va_K (dC, dI) vwCl [(cA, .int)] U ∧ va_D (fun _ => True) [oPos ad xPos_size xPos_shortest xPos_longest xPos_slip])) (va_Qv (fun (_ : Unit) => True) (fun (_ : Unit) t => va_P (dC, dI) vwCl [oPos ad xPos_size u.1 u.2.1 u.2.2] t.heap ∧ va_K (dC, dI) vwCl [(cA, .int)] t ∧ va_D (va_A [oPos ad xPos_size xPos_shortest xPos_longest xPos_slip] sz) [oPos ad xPos_size u.1 u.2.1 u.2.2]) (va_A [oPos ad xPos_size xPos_shortest xPos_longest xPos_slip] sz)) 0 0 (va_A [oPos ad xPos_size xPos_shortest xPos_longest xPos_slip] sz) := by
  refine Met.ofW (cc := cX3_setLimits) (maxL := 4) (ret := none) (by decide) rfl ?_
  intro p e s m args below meth c s₁ B hml hv
  obtain ⟨rfl, hsz, hP, hK, hD0⟩ := hv
  have hx := B.exec
  have hb := B.bytes
  have hr := B.returns
  have hts := atoms_spec (ws := wsX3_setLimits) B.pre
  have hown : s.vm.findClass RX3 = some m.cls := findClass_of_methodNamed B.named
  have hlocks := B.notSynchronized
  subst hsz
  have hD := hD0.self (sz := s.heap.size)
  generalize hAe : va_A [oPos ad xPos_size xPos_shortest xPos_longest xPos_slip] s.heap.size = A at hD ⊢
  have hA : ∀ q : Nat, s.heap.size ≤ q → A q := fun q h => by rw [← hAe]; exact Or.inr h
  have hS : va_S A s.heap s.heap [] := va_S.rf
  have hl := lv_entry ([.ref (ad 26), .int a1, .int a2, .int a3]) (n := 4) (Nat.le_of_ble_eq_true rfl)
  rw [lg_entry_eq]
  generalize (lg_sl ([.ref (ad 26), .int a1, .int a2, .int a3]) ++ List.replicate (4 - (lg_sl ([.ref (ad 26), .int a1, .int a2, .int a3])).length) Slot.unset).toArray = ls at hl ⊢
  have hl : lv_has ls 4 [(0, .ref (ad 26)), (1, .int a1), (2, .int a2), (3, .int a3)] := hl
  refine wk_Q (fun QQ hQ => ?_)
  have hinX3 : ∀ w ∈ wsX30, w ∈ wsX3_setLimits := fun w h => List.mem_cons_of_mem _ (inlX3 w h)
  have hl_25 := hts (.fieldLink RX3 25 "HandCensus$Posting" "shortest" "I") (List.mem_cons_of_mem _ (in_r5 _ (List.mem_of_getElem? (i := 8) rfl)))
  have hl_28 := hts (.fieldLink RX3 28 "HandCensus$Posting" "longest" "I") (List.mem_cons_of_mem _ (in_r5 _ (List.mem_of_getElem? (i := 9) rfl)))
  have hl_31 := hts (.fieldLink RX3 31 "HandCensus$Posting" "slip" "I") (List.mem_cons_of_mem _ (in_r5 _ (List.mem_of_getElem? (i := 10) rfl)))
  unfold fP_setLimits at hm
  refine lv_aload_n hx hb dX3_setLimits_0 rfl (lv_at hl 0 rfl) ?_
  refine lv_iload_n hx hb dX3_setLimits_1 rfl (lv_at hl 1 rfl) ?_
  refine va_put (D := (dC, dI)) (ci := 3) (v := .int a1) (ty := .int) (C := RX3) (T := TX3) (N := 7) hx hb hts hinX3 tyX3 tyX3_ok nmX3 hown hK hP hD hS 0 rfl rfl 4 (by decide) hl_25 (fun _ h9 => h9) rfl (by decide +kernel) rfl rfl (Nat.le_of_ble_eq_true rfl) dX3_setLimits_2 (fun H locs hP hD hS => ?_)
  have hP : va_P (dC, dI) vwCl [oPos ad xPos_size a1 xPos_longest xPos_slip] H := hP
  have hD : va_D A [oPos ad xPos_size a1 xPos_longest xPos_slip] := hD
  refine lv_aload_n hx hb dX3_setLimits_5 rfl (lv_at hl 0 rfl) ?_
  refine lv_iload_n hx hb dX3_setLimits_6 rfl (lv_at hl 2 rfl) ?_
  refine va_put (D := (dC, dI)) (ci := 3) (v := .int a2) (ty := .int) (C := RX3) (T := TX3) (N := 7) hx hb hts hinX3 tyX3 tyX3_ok nmX3 hown hK hP hD hS 0 rfl rfl 5 (by decide) hl_28 (fun _ h9 => h9) rfl (by decide +kernel) rfl rfl (Nat.le_of_ble_eq_true rfl) dX3_setLimits_7 (fun H locs hP hD hS => ?_)
  have hP : va_P (dC, dI) vwCl [oPos ad xPos_size a1 a2 xPos_slip] H := hP
  have hD : va_D A [oPos ad xPos_size a1 a2 xPos_slip] := hD
  refine lv_aload_n hx hb dX3_setLimits_10 rfl (lv_at hl 0 rfl) ?_
  refine lv_iload_n hx hb dX3_setLimits_11 rfl (lv_at hl 3 rfl) ?_
  refine va_put (D := (dC, dI)) (ci := 3) (v := .int a3) (ty := .int) (C := RX3) (T := TX3) (N := 7) hx hb hts hinX3 tyX3 tyX3_ok nmX3 hown hK hP hD hS 0 rfl rfl 6 (by decide) hl_31 (fun _ h9 => h9) rfl (by decide +kernel) rfl rfl (Nat.le_of_ble_eq_true rfl) dX3_setLimits_12 (fun H locs hP hD hS => ?_)
  have hP : va_P (dC, dI) vwCl [oPos ad xPos_size a1 a2 a3] H := hP
  have hD : va_D A [oPos ad xPos_size a1 a2 a3] := hD
  obtain rfl := Option.some.inj hm
  subst hQ
  exact W.vret hx hb hr (fun t ht hW => ⟨⟨(), rfl, trivial, by rw [ht]; exact hP, va_K.moved hW.alike hK, hAe ▸ hD⟩, hS.F ht⟩) hS.2.2 dX3_setLimits_15

set_option maxHeartbeats 4000000 in
set_option maxRecDepth 100000 in
theorem kC_limits (l : Launch) (dC : Nat → ClassId) (dI : Nat → Nat → Nat) (cA : ClassId) (ad : Nat → Nat) (sz : Nat) (a1 : Int32) (a2 : Int32) (a3 : Int32) (xHC_first : Int32) (xHC_second : Int32) (xHC_when : Int32) (xHC_ran : Int32) (xPos_size : Int32) (xPos_shortest : Int32) (xPos_longest : Int32) (xPos_slip : Int32) (u : Int32 × Int32 × Int32 × Int32) (hm : fC_limits a1 a2 a3 xPos_shortest xPos_longest xPos_slip = some u) : Met l yX9_limits wsX9_limits ({ frames := 2, cells := 0, slots := 0, locals := 41 }) (va_Pc [.ref (ad 0), .int a1, .int a2, .int a3] (fun U => U.heap.size = sz ∧ va_P (dC, dI) vwCl [oHC ad xHC_first xHC_second xHC_when xHC_ran, oPos ad xPos_size xPos_shortest xPos_longest xPos_slip] U.heap ∧ va_K (dC, dI) vwCl [(cA, .int)] U ∧ va_D (fun _ => True) [oHC ad xHC_first xHC_second xHC_when xHC_ran, oPos ad xPos_size xPos_shortest xPos_longest xPos_slip])) (va_Qi (fun (r : Int32) (_ : Unit) => r = u.1) (fun (_ : Unit) t => va_P (dC, dI) vwCl [oHC ad xHC_first xHC_second xHC_when xHC_ran, oPos ad xPos_size u.2.1 u.2.2.1 u.2.2.2] t.heap ∧ va_K (dC, dI) vwCl [(cA, .int)] t ∧ va_D (va_A [oHC ad xHC_first xHC_second xHC_when xHC_ran, oPos ad xPos_size xPos_shortest xPos_longest xPos_slip] sz) [oHC ad xHC_first xHC_second xHC_when xHC_ran, oPos ad xPos_size u.2.1 u.2.2.1 u.2.2.2]) (va_A [oHC ad xHC_first xHC_second xHC_when xHC_ran, oPos ad xPos_size xPos_shortest xPos_longest xPos_slip] sz)) 0 0 (va_A [oHC ad xHC_first xHC_second xHC_when xHC_ran, oPos ad xPos_size xPos_shortest xPos_longest xPos_slip] sz) := by
  refine Met.ofW (cc := cX9_limits) (maxL := 5) (ret := (some .int)) (by decide) rfl ?_
  intro p e s m args below meth c s₁ B hml hv
  obtain ⟨rfl, hsz, hP, hK, hD0⟩ := hv
  have hx := B.exec
  have hb := B.bytes
  have hr := B.returns
  have hts := atoms_spec (ws := wsX9_limits) B.pre
  have hown : s.vm.findClass RX9 = some m.cls := findClass_of_methodNamed B.named
  have hlocks := B.notSynchronized
  subst hsz
  have hD := hD0.self (sz := s.heap.size)
  generalize hAe : va_A [oHC ad xHC_first xHC_second xHC_when xHC_ran, oPos ad xPos_size xPos_shortest xPos_longest xPos_slip] s.heap.size = A at hD ⊢
  have hA : ∀ q : Nat, s.heap.size ≤ q → A q := fun q h => by rw [← hAe]; exact Or.inr h
  have hS : va_S A s.heap s.heap [] := va_S.rf
  have hl := lv_entry ([.ref (ad 0), .int a1, .int a2, .int a3]) (n := 5) (Nat.le_of_ble_eq_true rfl)
  rw [lg_entry_eq]
  generalize (lg_sl ([.ref (ad 0), .int a1, .int a2, .int a3]) ++ List.replicate (5 - (lg_sl ([.ref (ad 0), .int a1, .int a2, .int a3])).length) Slot.unset).toArray = ls at hl ⊢
  have hl : lv_has ls 5 [(0, .ref (ad 0)), (1, .int a1), (2, .int a2), (3, .int a3)] := hl
  refine wk_Q (fun QQ hQ => ?_)
  have hinX9 : ∀ w ∈ wsX90, w ∈ wsX9_limits := fun w h => List.mem_cons_of_mem _ (inlX9 w h)
  have hl_47 := hts (.fieldLink RX9 47 "HandCensus" "posting" "LHandCensus$Posting;") (List.mem_cons_of_mem _ (in_r2 _ (List.mem_of_getElem? (i := 10) rfl)))
  unfold fC_limits at hm
  refine lv_iload_n hx hb dX9_limits_0 rfl (lv_at hl 1 rfl) ?_
  refine lv_iload_n hx hb dX9_limits_1 rfl (lv_at hl 2 rfl) ?_
  refine lv_iload_n hx hb dX9_limits_2 rfl (lv_at hl 3 rfl) ?_
  have hPc := hP.sub (ws' := []) [] rfl
  have hDc := hD.sub (ws' := []) [] (by decide) rfl
  have hFc := va_free (wc := []) hD hS hA [] rfl
  obtain ⟨u_1, hc_1, hm⟩ := bd_ok hm
  refine va_calli (va_runS (As := [.int a1, .int a2, .int a3]) (rest := []) ⟨hx, hb, hml, hown, hts⟩ (kC_areLimits l dC dI cA ad s.heap.size a1 a2 a3 u_1 hc_1) (va_cwS 3 hts gX9_limits_X9_areLimits rfl rfl rfl (by decide +kernel) ⟨Nat.le_of_ble_eq_true rfl, Nat.le_of_ble_eq_true rfl⟩) ⟨fun a U g mk q => by obtain ⟨q0, q1, qP, qK, qD⟩ := q; exact ⟨q0, q1, qP, va_K.moved (u := U) (U := U.calling g mk a) (Vm.Alike.refl U.vm) qK, qD⟩, fun U hU hW => ⟨rfl, by rw [hU], by rw [hU]; exact hPc, va_K.moved hW.alike hK, hDc.weaken (fun _ _ _ _ => trivial)⟩⟩ rfl rfl hl.1 rfl (lv_room (Nat.le_of_ble_eq_true rfl)) dX9_limits_3 ⟨Nat.le_of_ble_eq_true rfl, Nat.le_of_ble_eq_true rfl⟩) hS (fun q _ h => hFc q h) hFc (fun r_1 _ t H1 locs ht hvm hw hB hz1 hk1 hS => ?_)
  obtain ⟨hP1, hK1, hD1⟩ := hB
  rw [ht] at hP1
  obtain ⟨hP, hD⟩ := va_join (wr := [oHC ad xHC_first xHC_second xHC_when xHC_ran, oPos ad xPos_size xPos_shortest xPos_longest xPos_slip]) (w1 := []) hP hD [] [0, 1] rfl rfl (by decide) (by decide) hk1 hFc hP1 hD1
  clear hPc hDc hFc hP1 hK1 hD1 hk1 hz1 hvm ht
  generalize H1 = H at hP hS ⊢
  have hP : va_P (dC, dI) vwCl [oHC ad xHC_first xHC_second xHC_when xHC_ran, oPos ad xPos_size xPos_shortest xPos_longest xPos_slip] H := hP
  have hD : va_D A [oHC ad xHC_first xHC_second xHC_when xHC_ran, oPos ad xPos_size xPos_shortest xPos_longest xPos_slip] := hD
  have hw := hw.symm
  subst hw
  refine lv_if_ne (tgt := 12) hx hb dX9_limits_6 (by decide) (fun c_2 => ?_) (fun c_2 => ?_)
  · have hm := it_neg c_2 hm
    refine lv_aload_n hx hb dX9_limits_12 rfl (lv_at hl 0 rfl) ?_
    refine va_get (D := (dC, dI)) (ci := 9) (v := .ref (ad 26)) (C := RX9) (T := TX9) (N := 12) hx hb hts hinX9 hown hK hP 0 rfl rfl 4 (by decide) hl_47 (fun _ h9 => h9) rfl dX9_limits_13 ?_
    have hPc := hP.sub (ws' := [oPos ad xPos_size xPos_shortest xPos_longest xPos_slip]) [1] rfl
    have hDc := hD.sub (ws' := [oPos ad xPos_size xPos_shortest xPos_longest xPos_slip]) [1] (by decide) rfl
    have hFc := va_free (wc := [oPos ad xPos_size xPos_shortest xPos_longest xPos_slip]) hD hS hA [1] rfl
    obtain ⟨u_3, hc_3, hm⟩ := bd_ok hm
    refine va_calli (va_runV (As := []) (rest := []) ⟨hx, hb, hml, hown, hts⟩ (kP_limitsAsOne l dC dI cA ad H.size xPos_size xPos_shortest xPos_longest xPos_slip u_3 hc_3) (cwV 0 hts gX9_limits_X3_limitsAsOne rfl rfl rfl (by decide +kernel) ⟨Nat.le_of_ble_eq_true rfl, Nat.le_of_ble_eq_true rfl⟩) ⟨fun a U g mk q => by obtain ⟨q0, q1, qP, qK, qD⟩ := q; exact ⟨q0, q1, qP, va_K.moved (u := U) (U := U.calling g mk a) (Vm.Alike.refl U.vm) qK, qD⟩, va_recv hK hPc (ci := 3) (q0 := 0) rfl rfl, fun U hU hW => ⟨rfl, by rw [hU], by rw [hU]; exact hPc, va_K.moved hW.alike hK, hDc.weaken (fun _ _ _ _ => trivial)⟩⟩ rfl rfl hl.1 rfl (lv_room (Nat.le_of_ble_eq_true rfl)) dX9_limits_16 ⟨Nat.le_of_ble_eq_true rfl, Nat.le_of_ble_eq_true rfl⟩) hS (fun q _ h => hFc q h) hFc (fun r_3 _ t H1 locs ht hvm hw hB hz1 hk1 hS => ?_)
    obtain ⟨hP1, hK1, hD1⟩ := hB
    rw [ht] at hP1
    obtain ⟨hP, hD⟩ := va_join (wr := [oHC ad xHC_first xHC_second xHC_when xHC_ran]) (w1 := [oPos ad xPos_size xPos_shortest xPos_longest xPos_slip]) hP hD [1] [0] rfl rfl (by decide) (by decide) hk1 hFc hP1 hD1
    clear hPc hDc hFc hP1 hK1 hD1 hk1 hz1 hvm ht
    generalize H1 = H at hP hS ⊢
    have hP : va_P (dC, dI) vwCl [oHC ad xHC_first xHC_second xHC_when xHC_ran, oPos ad xPos_size xPos_shortest xPos_longest xPos_slip] H := hP
    have hD : va_D A [oHC ad xHC_first xHC_second xHC_when xHC_ran, oPos ad xPos_size xPos_shortest xPos_longest xPos_slip] := hD
    have hw := hw.symm
    subst hw
    refine lv_istore (lv' := [(4, .int u_3), (0, .ref (ad 0)), (1, .int a1), (2, .int a2), (3, .int a3)]) hx hb dX9_limits_19 hl (by decide) rfl (fun ls hl => ?_)
    refine lv_aload_n hx hb dX9_limits_21 rfl (lv_at hl 1 rfl) ?_
    refine va_get (D := (dC, dI)) (ci := 9) (v := .ref (ad 26)) (C := RX9) (T := TX9) (N := 12) hx hb hts hinX9 hown hK hP 0 rfl rfl 4 (by decide) hl_47 (fun _ h9 => h9) rfl dX9_limits_22 ?_
    refine lv_iload_n hx hb dX9_limits_25 rfl (lv_at hl 2 rfl) ?_
    refine lv_iload_n hx hb dX9_limits_26 rfl (lv_at hl 3 rfl) ?_
    refine lv_iload_n hx hb dX9_limits_27 rfl (lv_at hl 4 rfl) ?_
    have hPc := hP.sub (ws' := [oPos ad xPos_size xPos_shortest xPos_longest xPos_slip]) [1] rfl
    have hDc := hD.sub (ws' := [oPos ad xPos_size xPos_shortest xPos_longest xPos_slip]) [1] (by decide) rfl
    have hFc := va_free (wc := [oPos ad xPos_size xPos_shortest xPos_longest xPos_slip]) hD hS hA [1] rfl
    obtain ⟨u_4, hc_4, hm⟩ := bd_ok hm
    refine va_callv (va_runV (As := [.int a1, .int a2, .int a3]) (rest := []) ⟨hx, hb, hml, hown, hts⟩ (kP_setLimits l dC dI cA ad H.size a1 a2 a3 xPos_size xPos_shortest xPos_longest xPos_slip u_4 hc_4) (cwV 3 hts gX9_limits_X3_setLimits rfl rfl rfl (by decide +kernel) ⟨Nat.le_of_ble_eq_true rfl, Nat.le_of_ble_eq_true rfl⟩) ⟨fun a U g mk q => by obtain ⟨q0, q1, qP, qK, qD⟩ := q; exact ⟨q0, q1, qP, va_K.moved (u := U) (U := U.calling g mk a) (Vm.Alike.refl U.vm) qK, qD⟩, va_recv hK hPc (ci := 3) (q0 := 0) rfl rfl, fun U hU hW => ⟨rfl, by rw [hU], by rw [hU]; exact hPc, va_K.moved hW.alike hK, hDc.weaken (fun _ _ _ _ => trivial)⟩⟩ rfl rfl hl.1 rfl (lv_room (Nat.le_of_ble_eq_true rfl)) dX9_limits_28 ⟨Nat.le_of_ble_eq_true rfl, Nat.le_of_ble_eq_true rfl⟩) hS (fun q _ h => hFc q h) hFc (fun _ t H1 locs ht hvm hw hB hz1 hk1 hS => ?_)
    obtain ⟨hP1, hK1, hD1⟩ := hB
    rw [ht] at hP1
    obtain ⟨hP, hD⟩ := va_join (wr := [oHC ad xHC_first xHC_second xHC_when xHC_ran]) (w1 := [oPos ad xPos_size u_4.1 u_4.2.1 u_4.2.2]) hP hD [1] [0] rfl rfl (by decide) (by decide) hk1 hFc hP1 hD1
    clear hPc hDc hFc hP1 hK1 hD1 hk1 hz1 hvm ht
    generalize H1 = H at hP hS ⊢
    have hP : va_P (dC, dI) vwCl [oHC ad xHC_first xHC_second xHC_when xHC_ran, oPos ad xPos_size u_4.1 u_4.2.1 u_4.2.2] H := hP
    have hD : va_D A [oHC ad xHC_first xHC_second xHC_when xHC_ran, oPos ad xPos_size u_4.1 u_4.2.1 u_4.2.2] := hD
    refine lv_iload hx hb dX9_limits_31 (lv_at hl 0 rfl) ?_
    obtain rfl := Option.some.inj hm
    subst hQ
    exact W.iret (v := u_3) hx hb hr (fun t ht hW => ⟨⟨_, (), rfl, rfl, by rw [ht]; exact hP, va_K.moved hW.alike hK, hAe ▸ hD⟩, hS.F ht⟩) hS.2.2 dX9_limits_33
  · have hm := it_pos c_2 hm
    refine lv_bipush (v := (-2)) hx hb dX9_limits_9 (by decide) ?_
    obtain rfl := Option.some.inj hm
    subst hQ
    exact W.iret (v := (-2)) hx hb hr (fun t ht hW => ⟨⟨_, (), rfl, rfl, by rw [ht]; exact hP, va_K.moved hW.alike hK, hAe ▸ hD⟩, hS.F ht⟩) hS.2.2 dX9_limits_11

set_option maxHeartbeats 4000000 in
set_option maxRecDepth 100000 in
theorem kP_gather (l : Launch) (dC : Nat → ClassId) (dI : Nat → Nat → Nat) (cA : ClassId) (ad : Nat → Nat) (sz : Nat) (xRow_depth : Int32) (xRow_length : Int32) (xRow_people : Int32) (xRow_scarves : Int32) (xRow_main : Int32) (xRow_faultPlace : Int32) (xST_sleeper : Int32) (xST_lastDue : Int32) (xST_unreached : Int32) (gSTfirst : Nat → Int32) (xPos_size : Int32) (xPos_shortest : Int32) (xPos_longest : Int32) (xPos_slip : Int32) (gPwho : Nat → Int32) (gPat : Nat → Int32) (u : Int32 × (Nat → Int32) × (Nat → Int32)) (hm : fP_gather xRow_people xRow_main gSTfirst xPos_size gPwho gPat = some u) : Met l yX3_gather wsX3_gather ({ frames := 0, cells := 0, slots := 0, locals := 0 }) (va_Pc [.ref (ad 26), .ref (ad 1), .ref (ad 9)] (fun U => U.heap.size = sz ∧ va_P (dC, dI) vwCl [oRow ad xRow_depth xRow_length xRow_people xRow_scarves xRow_main xRow_faultPlace, oST ad xST_sleeper xST_lastDue xST_unreached, ar (ad 14) cA 20 gSTfirst, oPos ad xPos_size xPos_shortest xPos_longest xPos_slip, ar (ad 27) cA 20 gPwho, ar (ad 28) cA 20 gPat] U.heap ∧ va_K (dC, dI) vwCl [(cA, .int)] U ∧ va_D (fun _ => True) [oRow ad xRow_depth xRow_length xRow_people xRow_scarves xRow_main xRow_faultPlace, oST ad xST_sleeper xST_lastDue xST_unreached, ar (ad 14) cA 20 gSTfirst, oPos ad xPos_size xPos_shortest xPos_longest xPos_slip, ar (ad 27) cA 20 gPwho, ar (ad 28) cA 20 gPat])) (va_Qv (fun (_ : Unit) => True) (fun (_ : Unit) t => va_P (dC, dI) vwCl [oRow ad xRow_depth xRow_length xRow_people xRow_scarves xRow_main xRow_faultPlace, oST ad xST_sleeper xST_lastDue xST_unreached, ar (ad 14) cA 20 gSTfirst, oPos ad u.1 xPos_shortest xPos_longest xPos_slip, ar (ad 27) cA 20 u.2.1, ar (ad 28) cA 20 u.2.2] t.heap ∧ va_K (dC, dI) vwCl [(cA, .int)] t ∧ va_D (va_A [oRow ad xRow_depth xRow_length xRow_people xRow_scarves xRow_main xRow_faultPlace, oST ad xST_sleeper xST_lastDue xST_unreached, ar (ad 14) cA 20 gSTfirst, oPos ad xPos_size xPos_shortest xPos_longest xPos_slip, ar (ad 27) cA 20 gPwho, ar (ad 28) cA 20 gPat] sz) [oRow ad xRow_depth xRow_length xRow_people xRow_scarves xRow_main xRow_faultPlace, oST ad xST_sleeper xST_lastDue xST_unreached, ar (ad 14) cA 20 gSTfirst, oPos ad u.1 xPos_shortest xPos_longest xPos_slip, ar (ad 27) cA 20 u.2.1, ar (ad 28) cA 20 u.2.2]) (va_A [oRow ad xRow_depth xRow_length xRow_people xRow_scarves xRow_main xRow_faultPlace, oST ad xST_sleeper xST_lastDue xST_unreached, ar (ad 14) cA 20 gSTfirst, oPos ad xPos_size xPos_shortest xPos_longest xPos_slip, ar (ad 27) cA 20 gPwho, ar (ad 28) cA 20 gPat] sz)) 0 0 (va_A [oRow ad xRow_depth xRow_length xRow_people xRow_scarves xRow_main xRow_faultPlace, oST ad xST_sleeper xST_lastDue xST_unreached, ar (ad 14) cA 20 gSTfirst, oPos ad xPos_size xPos_shortest xPos_longest xPos_slip, ar (ad 27) cA 20 gPwho, ar (ad 28) cA 20 gPat] sz) := by
  refine Met.ofW (cc := cX3_gather) (maxL := 4) (ret := none) (by decide) rfl ?_
  intro p e s m args below meth c s₁ B hml hv
  obtain ⟨rfl, hsz, hP, hK, hD0⟩ := hv
  have hx := B.exec
  have hb := B.bytes
  have hr := B.returns
  have hts := atoms_spec (ws := wsX3_gather) B.pre
  have hown : s.vm.findClass RX3 = some m.cls := findClass_of_methodNamed B.named
  have hlocks := B.notSynchronized
  subst hsz
  have hD := hD0.self (sz := s.heap.size)
  generalize hAe : va_A [oRow ad xRow_depth xRow_length xRow_people xRow_scarves xRow_main xRow_faultPlace, oST ad xST_sleeper xST_lastDue xST_unreached, ar (ad 14) cA 20 gSTfirst, oPos ad xPos_size xPos_shortest xPos_longest xPos_slip, ar (ad 27) cA 20 gPwho, ar (ad 28) cA 20 gPat] s.heap.size = A at hD ⊢
  have hA : ∀ q : Nat, s.heap.size ≤ q → A q := fun q h => by rw [← hAe]; exact Or.inr h
  have hS : va_S A s.heap s.heap [] := va_S.rf
  have hl := lv_entry ([.ref (ad 26), .ref (ad 1), .ref (ad 9)]) (n := 4) (Nat.le_of_ble_eq_true rfl)
  rw [lg_entry_eq]
  generalize (lg_sl ([.ref (ad 26), .ref (ad 1), .ref (ad 9)]) ++ List.replicate (4 - (lg_sl ([.ref (ad 26), .ref (ad 1), .ref (ad 9)])).length) Slot.unset).toArray = ls at hl ⊢
  have hl : lv_has ls 4 [(0, .ref (ad 26)), (1, .ref (ad 1)), (2, .ref (ad 9))] := hl
  refine wk_Q (fun QQ hQ => ?_)
  have hinX5 : ∀ w ∈ wsX50, w ∈ wsX3_gather := fun w h => List.mem_cons_of_mem _ (inlX5 w h)
  have hl_43 := hts (.fieldLink RX3 43 "HandCensus$Row" "people" "I") (List.mem_cons_of_mem _ (in_r29 _ (List.mem_of_getElem? (i := 6) rfl)))
  have hl_48 := hts (.fieldLink RX3 48 "HandCensus$Row" "main" "I") (List.mem_cons_of_mem _ (in_r29 _ (List.mem_of_getElem? (i := 7) rfl)))
  have hinX8 : ∀ w ∈ wsX80, w ∈ wsX3_gather := fun w h => List.mem_cons_of_mem _ (inlX8 w h)
  have hl_51 := hts (.fieldLink RX3 51 "HandCensus$Squeeze" "firstAt" "[I") (List.mem_cons_of_mem _ (in_r29 _ (List.mem_of_getElem? (i := 8) rfl)))
  have hinX3 : ∀ w ∈ wsX30, w ∈ wsX3_gather := fun w h => List.mem_cons_of_mem _ (inlX3 w h)
  have hl_9 := hts (.fieldLink RX3 9 "HandCensus$Posting" "who" "[I") (List.mem_cons_of_mem _ (in_r5 _ (List.mem_of_getElem? (i := 4) rfl)))
  have hl_21 := hts (.fieldLink RX3 21 "HandCensus$Posting" "size" "I") (List.mem_cons_of_mem _ (in_r5 _ (List.mem_of_getElem? (i := 7) rfl)))
  have hl_15 := hts (.fieldLink RX3 15 "HandCensus$Posting" "at" "[I") (List.mem_cons_of_mem _ (in_r5 _ (List.mem_of_getElem? (i := 5) rfl)))
  have h_7 : ∀ (n_7 : Nat), ∀ (v3_7 : Int32) (xPos_size_7 : Int32) (gPwho_7 : Nat → Int32) (gPat_7 : Nat → Int32), fP_gather_7 xRow_people xRow_main gSTfirst n_7 v3_7 xPos_size_7 gPwho_7 gPat_7 = some u → ∀ (H : Heap) (locs : List Loc), va_P (dC, dI) vwCl [oRow ad xRow_depth xRow_length xRow_people xRow_scarves xRow_main xRow_faultPlace, oST ad xST_sleeper xST_lastDue xST_unreached, ar (ad 14) cA 20 gSTfirst, oPos ad xPos_size_7 xPos_shortest xPos_longest xPos_slip, ar (ad 27) cA 20 gPwho_7, ar (ad 28) cA 20 gPat_7] H → va_D A [oRow ad xRow_depth xRow_length xRow_people xRow_scarves xRow_main xRow_faultPlace, oST ad xST_sleeper xST_lastDue xST_unreached, ar (ad 14) cA 20 gSTfirst, oPos ad xPos_size_7 xPos_shortest xPos_longest xPos_slip, ar (ad 27) cA 20 gPwho_7, ar (ad 28) cA 20 gPat_7] → va_S A s.heap H locs → ∀ ls : Array Slot, lv_has ls 4 [(0, .ref (ad 26)), (1, .ref (ad 1)), (2, .ref (ad 9)), (3, .int v3_7)] → W p l e (headSpec wsX3_gather ({ frames := 0, cells := 0, slots := 0, locals := 0 })).room s m ([.ref (ad 26), .ref (ad 1), .ref (ad 9)] : List Value).toArray below meth c H locs 0 0 QQ (F0 m 7 ls []) := by
    intro n_7
    induction n_7 with
    | zero => intro v3_7 xPos_size_7 gPwho_7 gPat_7 hm; have hm : (none : Option (Int32 × (Nat → Int32) × (Nat → Int32))) = some u := hm; cases hm
    | succ n_7 ih_7 =>
      have b_71 : ∀ (v3_71 : Int32) (xPos_size_71 : Int32) (gPwho_71 : Nat → Int32) (gPat_71 : Nat → Int32), fP_gather_71 (fP_gather_7  xRow_people xRow_main gSTfirst n_7) v3_71 xRow_people xRow_main gSTfirst xPos_size_71 gPwho_71 gPat_71 = some u → ∀ (H : Heap) (locs : List Loc), va_P (dC, dI) vwCl [oRow ad xRow_depth xRow_length xRow_people xRow_scarves xRow_main xRow_faultPlace, oST ad xST_sleeper xST_lastDue xST_unreached, ar (ad 14) cA 20 gSTfirst, oPos ad xPos_size_71 xPos_shortest xPos_longest xPos_slip, ar (ad 27) cA 20 gPwho_71, ar (ad 28) cA 20 gPat_71] H → va_D A [oRow ad xRow_depth xRow_length xRow_people xRow_scarves xRow_main xRow_faultPlace, oST ad xST_sleeper xST_lastDue xST_unreached, ar (ad 14) cA 20 gSTfirst, oPos ad xPos_size_71 xPos_shortest xPos_longest xPos_slip, ar (ad 27) cA 20 gPwho_71, ar (ad 28) cA 20 gPat_71] → va_S A s.heap H locs → ∀ ls : Array Slot, lv_has ls 4 [(0, .ref (ad 26)), (1, .ref (ad 1)), (2, .ref (ad 9)), (3, .int v3_71)] → W p l e (headSpec wsX3_gather ({ frames := 0, cells := 0, slots := 0, locals := 0 })).room s m ([.ref (ad 26), .ref (ad 1), .ref (ad 9)] : List Value).toArray below meth c H locs 0 0 QQ (F0 m 71 ls []) := by
        intro v3_71 xPos_size_71 gPwho_71 gPat_71 hm H locs hP hD hS ls hl
        unfold fP_gather_71 at hm
        refine lv_iinc (v := (v3_71 + 1)) (lv' := [(3, .int (v3_71 + 1)), (0, .ref (ad 26)), (1, .ref (ad 1)), (2, .ref (ad 9))]) hx hb dX3_gather_71 hl (k := 3) rfl rfl (by decide) rfl (fun ls hl => ?_)
        refine lv_goto (tgt := 7) hx hb dX3_gather_74 (by decide) ?_
        exact ih_7 _ _ _ _ hm _ _ hP hD hS _ (lv_sub hl [1, 2, 3, 0] rfl)
      intro v3_7 xPos_size_7 gPwho_7 gPat_7 hm H locs hP hD hS ls hl
      have hm : fP_gather_7_b  (fP_gather_7  xRow_people xRow_main gSTfirst n_7) xRow_people xRow_main gSTfirst v3_7 xPos_size_7 gPwho_7 gPat_7 = some u := hm
      unfold fP_gather_7_b at hm
      refine lv_iload_n hx hb dX3_gather_7 rfl (lv_at hl 3 rfl) ?_
      refine lv_aload_n hx hb dX3_gather_8 rfl (lv_at hl 1 rfl) ?_
      refine va_get (D := (dC, dI)) (ci := 5) (v := .int xRow_people) (C := RX5) (T := TX5) (N := 13) hx hb hts hinX5 hown hK hP 0 rfl rfl 9 (by decide) hl_43 (fun _ h9 => h9) rfl dX3_gather_9 ?_
      refine lv_icmp_ge (tgt := 77) hx hb dX3_gather_12 (by decide) (fun c_1 => ?_) (fun c_1 => ?_)
      · have hm := it_pos c_1 hm
        obtain rfl := Option.some.inj hm
        subst hQ
        exact W.vret hx hb hr (fun t ht hW => ⟨⟨(), rfl, trivial, by rw [ht]; exact hP, va_K.moved hW.alike hK, hAe ▸ hD⟩, hS.F ht⟩) hS.2.2 dX3_gather_77
      · have hm := it_neg c_1 hm
        refine lv_aload_n hx hb dX3_gather_15 rfl (lv_at hl 1 rfl) ?_
        refine va_get (D := (dC, dI)) (ci := 5) (v := .int xRow_main) (C := RX5) (T := TX5) (N := 13) hx hb hts hinX5 hown hK hP 0 rfl rfl 11 (by decide) hl_48 (fun _ h9 => h9) rfl dX3_gather_16 ?_
        refine lv_iload_n hx hb dX3_gather_19 rfl (lv_at hl 3 rfl) ?_
        refine lv_ishr hx hb dX3_gather_20 ?_
        refine lv_iconst (v := 1) hx hb dX3_gather_21 (by decide) ?_
        refine lv_iand hx hb dX3_gather_22 ?_
        refine lv_if_eq (tgt := 71) hx hb dX3_gather_23 (by decide) (fun c_2 => ?_) (fun c_2 => ?_)
        · have hm := it_pos c_2 hm
          exact b_71 _ _ _ _ hm _ _ hP hD hS _ (lv_sub hl [0, 1, 2, 3] rfl)
        · have hm := it_neg c_2 hm
          refine lv_aload_n hx hb dX3_gather_26 rfl (lv_at hl 2 rfl) ?_
          refine va_get (D := (dC, dI)) (ci := 8) (v := .ref (ad 14)) (C := RX8) (T := TX8) (N := 10) hx hb hts hinX8 hown hK hP 1 rfl rfl 6 (by decide) hl_51 (fun _ h9 => h9) rfl dX3_gather_27 ?_
          refine lv_iload_n hx hb dX3_gather_30 rfl (lv_at hl 3 rfl) ?_
          obtain ⟨i_3, hm⟩ := ck_ok hm
          refine va_iald hx hb hK hP 2 0 rfl rfl i_3 dX3_gather_31 ?_
          refine lv_iconst (v := (-1)) hx hb dX3_gather_32 (by decide) ?_
          refine lv_icmp_eq (tgt := 71) hx hb dX3_gather_33 (by decide) (fun c_4 => ?_) (fun c_4 => ?_)
          · have hm := it_pos c_4 hm
            exact b_71 _ _ _ _ hm _ _ hP hD hS _ (lv_sub hl [0, 1, 2, 3] rfl)
          · have hm := it_neg c_4 hm
            refine lv_aload_n hx hb dX3_gather_36 rfl (lv_at hl 0 rfl) ?_
            refine va_get (D := (dC, dI)) (ci := 3) (v := .ref (ad 27)) (C := RX3) (T := TX3) (N := 7) hx hb hts hinX3 hown hK hP 3 rfl rfl 0 (by decide) hl_9 (fun _ h9 => h9) rfl dX3_gather_37 ?_
            refine lv_aload_n hx hb dX3_gather_40 rfl (lv_at hl 0 rfl) ?_
            refine va_get (D := (dC, dI)) (ci := 3) (v := .int xPos_size_7) (C := RX3) (T := TX3) (N := 7) hx hb hts hinX3 hown hK hP 3 rfl rfl 3 (by decide) hl_21 (fun _ h9 => h9) rfl dX3_gather_41 ?_
            refine lv_iload_n hx hb dX3_gather_44 rfl (lv_at hl 3 rfl) ?_
            obtain ⟨i_5, hm⟩ := ck_ok hm
            refine va_iast hx hb hK hP hD hS 4 0 rfl rfl i_5 dX3_gather_45 (fun H locs hP hD hS => ?_)
            have hP : va_P (dC, dI) vwCl [oRow ad xRow_depth xRow_length xRow_people xRow_scarves xRow_main xRow_faultPlace, oST ad xST_sleeper xST_lastDue xST_unreached, ar (ad 14) cA 20 gSTfirst, oPos ad xPos_size_7 xPos_shortest xPos_longest xPos_slip, ar (ad 27) cA 20 (upd gPwho_7 xPos_size_7.toNatClampNeg v3_7), ar (ad 28) cA 20 gPat_7] H := hP
            have hD : va_D A [oRow ad xRow_depth xRow_length xRow_people xRow_scarves xRow_main xRow_faultPlace, oST ad xST_sleeper xST_lastDue xST_unreached, ar (ad 14) cA 20 gSTfirst, oPos ad xPos_size_7 xPos_shortest xPos_longest xPos_slip, ar (ad 27) cA 20 (upd gPwho_7 xPos_size_7.toNatClampNeg v3_7), ar (ad 28) cA 20 gPat_7] := hD
            refine lv_aload_n hx hb dX3_gather_46 rfl (lv_at hl 0 rfl) ?_
            refine va_get (D := (dC, dI)) (ci := 3) (v := .ref (ad 28)) (C := RX3) (T := TX3) (N := 7) hx hb hts hinX3 hown hK hP 3 rfl rfl 1 (by decide) hl_15 (fun _ h9 => h9) rfl dX3_gather_47 ?_
            refine lv_aload_n hx hb dX3_gather_50 rfl (lv_at hl 0 rfl) ?_
            refine va_get (D := (dC, dI)) (ci := 3) (v := .int xPos_size_7) (C := RX3) (T := TX3) (N := 7) hx hb hts hinX3 hown hK hP 3 rfl rfl 3 (by decide) hl_21 (fun _ h9 => h9) rfl dX3_gather_51 ?_
            refine lv_aload_n hx hb dX3_gather_54 rfl (lv_at hl 2 rfl) ?_
            refine va_get (D := (dC, dI)) (ci := 8) (v := .ref (ad 14)) (C := RX8) (T := TX8) (N := 10) hx hb hts hinX8 hown hK hP 1 rfl rfl 6 (by decide) hl_51 (fun _ h9 => h9) rfl dX3_gather_55 ?_
            refine lv_iload_n hx hb dX3_gather_58 rfl (lv_at hl 3 rfl) ?_
            obtain ⟨i_6, hm⟩ := ck_ok hm
            refine va_iald hx hb hK hP 2 0 rfl rfl i_6 dX3_gather_59 ?_
            obtain ⟨i_7, hm⟩ := ck_ok hm
            refine va_iast hx hb hK hP hD hS 5 0 rfl rfl i_7 dX3_gather_60 (fun H locs hP hD hS => ?_)
            have hP : va_P (dC, dI) vwCl [oRow ad xRow_depth xRow_length xRow_people xRow_scarves xRow_main xRow_faultPlace, oST ad xST_sleeper xST_lastDue xST_unreached, ar (ad 14) cA 20 gSTfirst, oPos ad xPos_size_7 xPos_shortest xPos_longest xPos_slip, ar (ad 27) cA 20 (upd gPwho_7 xPos_size_7.toNatClampNeg v3_7), ar (ad 28) cA 20 (upd gPat_7 xPos_size_7.toNatClampNeg (gSTfirst v3_7.toNatClampNeg))] H := hP
            have hD : va_D A [oRow ad xRow_depth xRow_length xRow_people xRow_scarves xRow_main xRow_faultPlace, oST ad xST_sleeper xST_lastDue xST_unreached, ar (ad 14) cA 20 gSTfirst, oPos ad xPos_size_7 xPos_shortest xPos_longest xPos_slip, ar (ad 27) cA 20 (upd gPwho_7 xPos_size_7.toNatClampNeg v3_7), ar (ad 28) cA 20 (upd gPat_7 xPos_size_7.toNatClampNeg (gSTfirst v3_7.toNatClampNeg))] := hD
            refine lv_aload_n hx hb dX3_gather_61 rfl (lv_at hl 0 rfl) ?_
            refine lv_dup hx hb dX3_gather_62 rfl ?_
            refine va_get (D := (dC, dI)) (ci := 3) (v := .int xPos_size_7) (C := RX3) (T := TX3) (N := 7) hx hb hts hinX3 hown hK hP 3 rfl rfl 3 (by decide) hl_21 (fun _ h9 => h9) rfl dX3_gather_63 ?_
            refine lv_iconst (v := 1) hx hb dX3_gather_66 (by decide) ?_
            refine lv_iadd hx hb dX3_gather_67 ?_
            refine va_put (D := (dC, dI)) (ci := 3) (v := .int (xPos_size_7 + 1)) (ty := .int) (C := RX3) (T := TX3) (N := 7) hx hb hts hinX3 tyX3 tyX3_ok nmX3 hown hK hP hD hS 3 rfl rfl 3 (by decide) hl_21 (fun _ h9 => h9) rfl (by decide +kernel) rfl rfl (Nat.le_of_ble_eq_true rfl) dX3_gather_68 (fun H locs hP hD hS => ?_)
            have hP : va_P (dC, dI) vwCl [oRow ad xRow_depth xRow_length xRow_people xRow_scarves xRow_main xRow_faultPlace, oST ad xST_sleeper xST_lastDue xST_unreached, ar (ad 14) cA 20 gSTfirst, oPos ad (xPos_size_7 + 1) xPos_shortest xPos_longest xPos_slip, ar (ad 27) cA 20 (upd gPwho_7 xPos_size_7.toNatClampNeg v3_7), ar (ad 28) cA 20 (upd gPat_7 xPos_size_7.toNatClampNeg (gSTfirst v3_7.toNatClampNeg))] H := hP
            have hD : va_D A [oRow ad xRow_depth xRow_length xRow_people xRow_scarves xRow_main xRow_faultPlace, oST ad xST_sleeper xST_lastDue xST_unreached, ar (ad 14) cA 20 gSTfirst, oPos ad (xPos_size_7 + 1) xPos_shortest xPos_longest xPos_slip, ar (ad 27) cA 20 (upd gPwho_7 xPos_size_7.toNatClampNeg v3_7), ar (ad 28) cA 20 (upd gPat_7 xPos_size_7.toNatClampNeg (gSTfirst v3_7.toNatClampNeg))] := hD
            exact b_71 _ _ _ _ hm _ _ hP hD hS _ (lv_sub hl [0, 1, 2, 3] rfl)
  unfold fP_gather at hm
  refine lv_aload_n hx hb dX3_gather_0 rfl (lv_at hl 0 rfl) ?_
  refine lv_iconst (v := 0) hx hb dX3_gather_1 (by decide) ?_
  refine va_put (D := (dC, dI)) (ci := 3) (v := .int 0) (ty := .int) (C := RX3) (T := TX3) (N := 7) hx hb hts hinX3 tyX3 tyX3_ok nmX3 hown hK hP hD hS 3 rfl rfl 3 (by decide) hl_21 (fun _ h9 => h9) rfl (by decide +kernel) rfl rfl (Nat.le_of_ble_eq_true rfl) dX3_gather_2 (fun H locs hP hD hS => ?_)
  have hP : va_P (dC, dI) vwCl [oRow ad xRow_depth xRow_length xRow_people xRow_scarves xRow_main xRow_faultPlace, oST ad xST_sleeper xST_lastDue xST_unreached, ar (ad 14) cA 20 gSTfirst, oPos ad 0 xPos_shortest xPos_longest xPos_slip, ar (ad 27) cA 20 gPwho, ar (ad 28) cA 20 gPat] H := hP
  have hD : va_D A [oRow ad xRow_depth xRow_length xRow_people xRow_scarves xRow_main xRow_faultPlace, oST ad xST_sleeper xST_lastDue xST_unreached, ar (ad 14) cA 20 gSTfirst, oPos ad 0 xPos_shortest xPos_longest xPos_slip, ar (ad 27) cA 20 gPwho, ar (ad 28) cA 20 gPat] := hD
  refine lv_iconst (v := 0) hx hb dX3_gather_5 (by decide) ?_
  refine lv_istore_n (lv' := [(3, .int 0), (0, .ref (ad 26)), (1, .ref (ad 1)), (2, .ref (ad 9))]) hx hb dX3_gather_6 rfl hl (by decide) rfl (fun ls hl => ?_)
  exact h_7 _ _ _ _ _ hm _ _ hP hD hS _ (lv_sub hl [1, 2, 3, 0] rfl)

set_option maxHeartbeats 4000000 in
set_option maxRecDepth 100000 in
theorem kP_hasRoomFor (l : Launch) (dC : Nat → ClassId) (dI : Nat → Nat → Nat) (cA : ClassId) (ad : Nat → Nat) (sz : Nat) (a1 : Int32) (xPos_size : Int32) (xPos_shortest : Int32) (xPos_longest : Int32) (xPos_slip : Int32) (u : Int32) (hm : fP_hasRoomFor a1 xPos_size = some u) : Met l yX3_hasRoomFor wsX3_hasRoomFor ({ frames := 0, cells := 0, slots := 0, locals := 0 }) (va_Pc [.ref (ad 26), .int a1] (fun U => U.heap.size = sz ∧ va_P (dC, dI) vwCl [oPos ad xPos_size xPos_shortest xPos_longest xPos_slip] U.heap ∧ va_K (dC, dI) vwCl [(cA, .int)] U ∧ va_D (fun _ => True) [oPos ad xPos_size xPos_shortest xPos_longest xPos_slip])) (va_Qi (fun (r : Int32) (_ : Unit) => r = u) (fun (_ : Unit) t => va_P (dC, dI) vwCl [oPos ad xPos_size xPos_shortest xPos_longest xPos_slip] t.heap ∧ va_K (dC, dI) vwCl [(cA, .int)] t ∧ va_D (va_A [oPos ad xPos_size xPos_shortest xPos_longest xPos_slip] sz) [oPos ad xPos_size xPos_shortest xPos_longest xPos_slip]) (va_A [oPos ad xPos_size xPos_shortest xPos_longest xPos_slip] sz)) 0 0 (va_A [oPos ad xPos_size xPos_shortest xPos_longest xPos_slip] sz) := by
  refine Met.ofW (cc := cX3_hasRoomFor) (maxL := 2) (ret := (some .boolean)) (by decide) rfl ?_
  intro p e s m args below meth c s₁ B hml hv
  obtain ⟨rfl, hsz, hP, hK, hD0⟩ := hv
  have hx := B.exec
  have hb := B.bytes
  have hr := B.returns
  have hts := atoms_spec (ws := wsX3_hasRoomFor) B.pre
  have hown : s.vm.findClass RX3 = some m.cls := findClass_of_methodNamed B.named
  have hlocks := B.notSynchronized
  subst hsz
  have hD := hD0.self (sz := s.heap.size)
  generalize hAe : va_A [oPos ad xPos_size xPos_shortest xPos_longest xPos_slip] s.heap.size = A at hD ⊢
  have hA : ∀ q : Nat, s.heap.size ≤ q → A q := fun q h => by rw [← hAe]; exact Or.inr h
  have hS : va_S A s.heap s.heap [] := va_S.rf
  have hl := lv_entry ([.ref (ad 26), .int a1]) (n := 2) (Nat.le_of_ble_eq_true rfl)
  rw [lg_entry_eq]
  generalize (lg_sl ([.ref (ad 26), .int a1]) ++ List.replicate (2 - (lg_sl ([.ref (ad 26), .int a1])).length) Slot.unset).toArray = ls at hl ⊢
  have hl : lv_has ls 2 [(0, .ref (ad 26)), (1, .int a1)] := hl
  refine wk_Q (fun QQ hQ => ?_)
  have hinX3 : ∀ w ∈ wsX30, w ∈ wsX3_hasRoomFor := fun w h => List.mem_cons_of_mem _ (inlX3 w h)
  have hl_21 := hts (.fieldLink RX3 21 "HandCensus$Posting" "size" "I") (List.mem_cons_of_mem _ (in_r5 _ (List.mem_of_getElem? (i := 7) rfl)))
  unfold fP_hasRoomFor at hm
  refine lv_iload_n hx hb dX3_hasRoomFor_0 rfl (lv_at hl 1 rfl) ?_
  refine lv_if_ne (tgt := 19) hx hb dX3_hasRoomFor_1 (by decide) (fun c_1 => ?_) (fun c_1 => ?_)
  · have hm := it_neg c_1 hm
    refine lv_aload_n hx hb dX3_hasRoomFor_19 rfl (lv_at hl 0 rfl) ?_
    refine va_get (D := (dC, dI)) (ci := 3) (v := .int xPos_size) (C := RX3) (T := TX3) (N := 7) hx hb hts hinX3 hown hK hP 0 rfl rfl 3 (by decide) hl_21 (fun _ h9 => h9) rfl dX3_hasRoomFor_20 ?_
    refine lv_iconst (v := 2) hx hb dX3_hasRoomFor_23 (by decide) ?_
    refine lv_isub hx hb dX3_hasRoomFor_24 ?_
    refine lv_iload_n hx hb dX3_hasRoomFor_25 rfl (lv_at hl 1 rfl) ?_
    refine lv_icmp_lt (tgt := 33) hx hb dX3_hasRoomFor_26 (by decide) (fun c_2 => ?_) (fun c_2 => ?_)
    · have hm := it_pos c_2 hm
      refine lv_iconst (v := 0) hx hb dX3_hasRoomFor_33 (by decide) ?_
      obtain rfl := Option.some.inj hm
      subst hQ
      exact W.zret (v := 0) hx hb hr rfl (fun t ht hW => ⟨⟨_, (), rfl, rfl, by rw [ht]; exact hP, va_K.moved hW.alike hK, hAe ▸ hD⟩, hS.F ht⟩) hS.2.2 dX3_hasRoomFor_34
    · have hm := it_neg c_2 hm
      refine lv_iconst (v := 1) hx hb dX3_hasRoomFor_29 (by decide) ?_
      refine lv_goto (tgt := 34) hx hb dX3_hasRoomFor_30 (by decide) ?_
      obtain rfl := Option.some.inj hm
      subst hQ
      exact W.zret (v := 1) hx hb hr rfl (fun t ht hW => ⟨⟨_, (), rfl, rfl, by rw [ht]; exact hP, va_K.moved hW.alike hK, hAe ▸ hD⟩, hS.F ht⟩) hS.2.2 dX3_hasRoomFor_34
  · have hm := it_pos c_1 hm
    refine lv_aload_n hx hb dX3_hasRoomFor_4 rfl (lv_at hl 0 rfl) ?_
    refine va_get (D := (dC, dI)) (ci := 3) (v := .int xPos_size) (C := RX3) (T := TX3) (N := 7) hx hb hts hinX3 hown hK hP 0 rfl rfl 3 (by decide) hl_21 (fun _ h9 => h9) rfl dX3_hasRoomFor_5 ?_
    refine lv_if_le (tgt := 15) hx hb dX3_hasRoomFor_8 (by decide) (fun c_3 => ?_) (fun c_3 => ?_)
    · have hm := it_pos c_3 hm
      refine lv_iconst (v := 0) hx hb dX3_hasRoomFor_15 (by decide) ?_
      refine lv_goto (tgt := 34) hx hb dX3_hasRoomFor_16 (by decide) ?_
      obtain rfl := Option.some.inj hm
      subst hQ
      exact W.zret (v := 0) hx hb hr rfl (fun t ht hW => ⟨⟨_, (), rfl, rfl, by rw [ht]; exact hP, va_K.moved hW.alike hK, hAe ▸ hD⟩, hS.F ht⟩) hS.2.2 dX3_hasRoomFor_34
    · have hm := it_neg c_3 hm
      refine lv_iconst (v := 1) hx hb dX3_hasRoomFor_11 (by decide) ?_
      refine lv_goto (tgt := 34) hx hb dX3_hasRoomFor_12 (by decide) ?_
      obtain rfl := Option.some.inj hm
      subst hQ
      exact W.zret (v := 1) hx hb hr rfl (fun t ht hW => ⟨⟨_, (), rfl, rfl, by rw [ht]; exact hP, va_K.moved hW.alike hK, hAe ▸ hD⟩, hS.F ht⟩) hS.2.2 dX3_hasRoomFor_34

set_option maxHeartbeats 4000000 in
set_option maxRecDepth 100000 in
theorem kP_gap (l : Launch) (dC : Nat → ClassId) (dI : Nat → Nat → Nat) (cA : ClassId) (ad : Nat → Nat) (sz : Nat) (a1 : Int32) (a2 : Int32) (xPos_size : Int32) (xPos_shortest : Int32) (xPos_longest : Int32) (xPos_slip : Int32) (gPat : Nat → Int32) (u : Int32) (hm : fP_gap a1 a2 xPos_shortest xPos_longest xPos_slip gPat = some u) : Met l yX3_gap wsX3_gap ({ frames := 2, cells := 0, slots := 0, locals := 44 }) (va_Pc [.ref (ad 26), .int a1, .int a2] (fun U => U.heap.size = sz ∧ va_P (dC, dI) vwCl [oPos ad xPos_size xPos_shortest xPos_longest xPos_slip, ar (ad 28) cA 20 gPat] U.heap ∧ va_K (dC, dI) vwCl [(cA, .int)] U ∧ va_D (fun _ => True) [oPos ad xPos_size xPos_shortest xPos_longest xPos_slip, ar (ad 28) cA 20 gPat])) (va_Qi (fun (r : Int32) (_ : Unit) => r = u) (fun (_ : Unit) t => va_P (dC, dI) vwCl [oPos ad xPos_size xPos_shortest xPos_longest xPos_slip, ar (ad 28) cA 20 gPat] t.heap ∧ va_K (dC, dI) vwCl [(cA, .int)] t ∧ va_D (va_A [oPos ad xPos_size xPos_shortest xPos_longest xPos_slip, ar (ad 28) cA 20 gPat] sz) [oPos ad xPos_size xPos_shortest xPos_longest xPos_slip, ar (ad 28) cA 20 gPat]) (va_A [oPos ad xPos_size xPos_shortest xPos_longest xPos_slip, ar (ad 28) cA 20 gPat] sz)) 0 0 (va_A [oPos ad xPos_size xPos_shortest xPos_longest xPos_slip, ar (ad 28) cA 20 gPat] sz) := by
  refine Met.ofW (cc := cX3_gap) (maxL := 4) (ret := (some .int)) (by decide) rfl ?_
  intro p e s m args below meth c s₁ B hml hv
  obtain ⟨rfl, hsz, hP, hK, hD0⟩ := hv
  have hx := B.exec
  have hb := B.bytes
  have hr := B.returns
  have hts := atoms_spec (ws := wsX3_gap) B.pre
  have hown : s.vm.findClass RX3 = some m.cls := findClass_of_methodNamed B.named
  have hlocks := B.notSynchronized
  subst hsz
  have hD := hD0.self (sz := s.heap.size)
  generalize hAe : va_A [oPos ad xPos_size xPos_shortest xPos_longest xPos_slip, ar (ad 28) cA 20 gPat] s.heap.size = A at hD ⊢
  have hA : ∀ q : Nat, s.heap.size ≤ q → A q := fun q h => by rw [← hAe]; exact Or.inr h
  have hS : va_S A s.heap s.heap [] := va_S.rf
  have hl := lv_entry ([.ref (ad 26), .int a1, .int a2]) (n := 4) (Nat.le_of_ble_eq_true rfl)
  rw [lg_entry_eq]
  generalize (lg_sl ([.ref (ad 26), .int a1, .int a2]) ++ List.replicate (4 - (lg_sl ([.ref (ad 26), .int a1, .int a2])).length) Slot.unset).toArray = ls at hl ⊢
  have hl : lv_has ls 4 [(0, .ref (ad 26)), (1, .int a1), (2, .int a2)] := hl
  refine wk_Q (fun QQ hQ => ?_)
  have hinX3 : ∀ w ∈ wsX30, w ∈ wsX3_gap := fun w h => List.mem_cons_of_mem _ (inlX3 w h)
  have hl_15 := hts (.fieldLink RX3 15 "HandCensus$Posting" "at" "[I") (List.mem_cons_of_mem _ (in_r5 _ (List.mem_of_getElem? (i := 5) rfl)))
  have hw_1 := hts (.methodLink RX3 70 Lib.Math.abs.name) (List.mem_cons_of_mem _ (in_r29 _ (List.mem_of_getElem? (i := 21) rfl)))
  have hw_2 := hts (.static Lib.Math.abs.name) (List.mem_cons_of_mem _ (in_r29 _ (List.mem_of_getElem? (i := 22) rfl)))
  have hw_3 := hts (.initialized "java/lang/Math") (List.mem_cons_of_mem _ (in_r15 _ (List.mem_of_getElem? (i := 11) rfl)))
  have hw_4 := hts (.code Lib.Math.abs.name Lib.Math.abs.code 1 (some .int)) (List.mem_cons_of_mem _ (in_r29 _ (List.mem_of_getElem? (i := 23) rfl)))
  have hl_25 := hts (.fieldLink RX3 25 "HandCensus$Posting" "shortest" "I") (List.mem_cons_of_mem _ (in_r5 _ (List.mem_of_getElem? (i := 8) rfl)))
  have hl_31 := hts (.fieldLink RX3 31 "HandCensus$Posting" "slip" "I") (List.mem_cons_of_mem _ (in_r5 _ (List.mem_of_getElem? (i := 10) rfl)))
  have hl_28 := hts (.fieldLink RX3 28 "HandCensus$Posting" "longest" "I") (List.mem_cons_of_mem _ (in_r5 _ (List.mem_of_getElem? (i := 9) rfl)))
  have hw_8 := hts (.methodLink RX3 34 Lib.Math.max.name) (List.mem_cons_of_mem _ (in_r27 _ (List.mem_of_getElem? (i := 15) rfl)))
  have hw_9 := hts (.static Lib.Math.max.name) (List.mem_cons_of_mem _ (in_r15 _ (List.mem_of_getElem? (i := 14) rfl)))
  have hw_10 := hts (.code Lib.Math.max.name Lib.Math.max.code 2 (some .int)) (List.mem_cons_of_mem _ (in_r15 _ (List.mem_of_getElem? (i := 15) rfl)))
  unfold fP_gap at hm
  refine lv_iload_n hx hb dX3_gap_0 rfl (lv_at hl 1 rfl) ?_
  refine lv_iload_n hx hb dX3_gap_1 rfl (lv_at hl 2 rfl) ?_
  refine lv_icmp_ne (tgt := 7) hx hb dX3_gap_2 (by decide) (fun c_1 => ?_) (fun c_1 => ?_)
  · have hm := it_neg c_1 hm
    refine lv_aload_n hx hb dX3_gap_7 rfl (lv_at hl 0 rfl) ?_
    refine va_get (D := (dC, dI)) (ci := 3) (v := .ref (ad 28)) (C := RX3) (T := TX3) (N := 7) hx hb hts hinX3 hown hK hP 0 rfl rfl 1 (by decide) hl_15 (fun _ h9 => h9) rfl dX3_gap_8 ?_
    refine lv_iload_n hx hb dX3_gap_11 rfl (lv_at hl 1 rfl) ?_
    obtain ⟨i_2, hm⟩ := ck_ok hm
    refine va_iald hx hb hK hP 1 0 rfl rfl i_2 dX3_gap_12 ?_
    refine lv_aload_n hx hb dX3_gap_13 rfl (lv_at hl 0 rfl) ?_
    refine va_get (D := (dC, dI)) (ci := 3) (v := .ref (ad 28)) (C := RX3) (T := TX3) (N := 7) hx hb hts hinX3 hown hK hP 0 rfl rfl 1 (by decide) hl_15 (fun _ h9 => h9) rfl dX3_gap_14 ?_
    refine lv_iload_n hx hb dX3_gap_17 rfl (lv_at hl 2 rfl) ?_
    obtain ⟨i_3, hm⟩ := ck_ok hm
    refine va_iald hx hb hK hP 1 0 rfl rfl i_3 dX3_gap_18 ?_
    refine lv_isub hx hb dX3_gap_19 ?_
    refine va_mabs hx hb (by rw [hml]; exact hl.1.symm) hown hw_1 hw_2 hw_3 hw_4 (Nat.le_of_ble_eq_true rfl) (Nat.le_of_ble_eq_true rfl) (by first | exact Nat.zero_le _ | (show _ ≤ _ - _; omega)) (by first | exact Nat.zero_le _ | (show _ ≤ 2 * (_ - _); omega)) dX3_gap_20 ?_
    refine lv_topi (fun y4 ey4 => ?_)
    have hm := nm_in ey4 hm
    refine lv_istore_n (lv' := [(3, .int y4), (0, .ref (ad 26)), (1, .int a1), (2, .int a2)]) hx hb dX3_gap_23 rfl hl (by decide) rfl (fun ls hl => ?_)
    refine lv_iload_n hx hb dX3_gap_24 rfl (lv_at hl 0 rfl) ?_
    refine lv_aload_n hx hb dX3_gap_25 rfl (lv_at hl 1 rfl) ?_
    refine va_get (D := (dC, dI)) (ci := 3) (v := .int xPos_shortest) (C := RX3) (T := TX3) (N := 7) hx hb hts hinX3 hown hK hP 0 rfl rfl 4 (by decide) hl_25 (fun _ h9 => h9) rfl dX3_gap_26 ?_
    refine lv_aload_n hx hb dX3_gap_29 rfl (lv_at hl 1 rfl) ?_
    refine va_get (D := (dC, dI)) (ci := 3) (v := .int xPos_slip) (C := RX3) (T := TX3) (N := 7) hx hb hts hinX3 hown hK hP 0 rfl rfl 6 (by decide) hl_31 (fun _ h9 => h9) rfl dX3_gap_30 ?_
    have hPc := hP.sub (ws' := []) [] rfl
    have hDc := hD.sub (ws' := []) [] (by decide) rfl
    have hFc := va_free (wc := []) hD hS hA [] rfl
    obtain ⟨u_5, hc_5, hm⟩ := bd_ok hm
    refine va_calli (va_runS (As := [.int y4, .int xPos_shortest, .int xPos_slip]) (rest := []) ⟨hx, hb, hml, hown, hts⟩ (kP_most l dC dI cA ad s.heap.size y4 xPos_shortest xPos_slip u_5 hc_5) (va_cwS 3 hts gX3_gap_X3_most rfl rfl rfl (by decide +kernel) ⟨Nat.le_of_ble_eq_true rfl, Nat.le_of_ble_eq_true rfl⟩) ⟨fun a U g mk q => by obtain ⟨q0, q1, qP, qK, qD⟩ := q; exact ⟨q0, q1, qP, va_K.moved (u := U) (U := U.calling g mk a) (Vm.Alike.refl U.vm) qK, qD⟩, fun U hU hW => ⟨rfl, by rw [hU], by rw [hU]; exact hPc, va_K.moved hW.alike hK, hDc.weaken (fun _ _ _ _ => trivial)⟩⟩ rfl rfl hl.1 rfl (lv_room (Nat.le_of_ble_eq_true rfl)) dX3_gap_33 ⟨Nat.le_of_ble_eq_true rfl, Nat.le_of_ble_eq_true rfl⟩) hS (fun q _ h => hFc q h) hFc (fun r_5 _ t H1 locs ht hvm hw hB hz1 hk1 hS => ?_)
    obtain ⟨hP1, hK1, hD1⟩ := hB
    rw [ht] at hP1
    obtain ⟨hP, hD⟩ := va_join (wr := [oPos ad xPos_size xPos_shortest xPos_longest xPos_slip, ar (ad 28) cA 20 gPat]) (w1 := []) hP hD [] [0, 1] rfl rfl (by decide) (by decide) hk1 hFc hP1 hD1
    clear hPc hDc hFc hP1 hK1 hD1 hk1 hz1 hvm ht
    generalize H1 = H at hP hS ⊢
    have hP : va_P (dC, dI) vwCl [oPos ad xPos_size xPos_shortest xPos_longest xPos_slip, ar (ad 28) cA 20 gPat] H := hP
    have hD : va_D A [oPos ad xPos_size xPos_shortest xPos_longest xPos_slip, ar (ad 28) cA 20 gPat] := hD
    have hw := hw.symm
    subst hw
    refine lv_iload_n hx hb dX3_gap_36 rfl (lv_at hl 0 rfl) ?_
    refine lv_aload_n hx hb dX3_gap_37 rfl (lv_at hl 1 rfl) ?_
    refine va_get (D := (dC, dI)) (ci := 3) (v := .int xPos_longest) (C := RX3) (T := TX3) (N := 7) hx hb hts hinX3 hown hK hP 0 rfl rfl 5 (by decide) hl_28 (fun _ h9 => h9) rfl dX3_gap_38 ?_
    refine lv_aload_n hx hb dX3_gap_41 rfl (lv_at hl 1 rfl) ?_
    refine va_get (D := (dC, dI)) (ci := 3) (v := .int xPos_slip) (C := RX3) (T := TX3) (N := 7) hx hb hts hinX3 hown hK hP 0 rfl rfl 6 (by decide) hl_31 (fun _ h9 => h9) rfl dX3_gap_42 ?_
    have hPc := hP.sub (ws' := []) [] rfl
    have hDc := hD.sub (ws' := []) [] (by decide) rfl
    have hFc := va_free (wc := []) hD hS hA [] rfl
    obtain ⟨u_6, hc_6, hm⟩ := bd_ok hm
    refine va_calli (va_runS (As := [.int y4, .int xPos_longest, .int xPos_slip]) (rest := [.int u_5]) ⟨hx, hb, hml, hown, hts⟩ (kP_fewest l dC dI cA ad H.size y4 xPos_longest xPos_slip u_6 hc_6) (va_cwS 3 hts gX3_gap_X3_fewest rfl rfl rfl (by decide +kernel) ⟨Nat.le_of_ble_eq_true rfl, Nat.le_of_ble_eq_true rfl⟩) ⟨fun a U g mk q => by obtain ⟨q0, q1, qP, qK, qD⟩ := q; exact ⟨q0, q1, qP, va_K.moved (u := U) (U := U.calling g mk a) (Vm.Alike.refl U.vm) qK, qD⟩, fun U hU hW => ⟨rfl, by rw [hU], by rw [hU]; exact hPc, va_K.moved hW.alike hK, hDc.weaken (fun _ _ _ _ => trivial)⟩⟩ rfl rfl hl.1 rfl (lv_room (Nat.le_of_ble_eq_true rfl)) dX3_gap_45 ⟨Nat.le_of_ble_eq_true rfl, Nat.le_of_ble_eq_true rfl⟩) hS (fun q _ h => hFc q h) hFc (fun r_6 _ t H1 locs ht hvm hw hB hz1 hk1 hS => ?_)
    obtain ⟨hP1, hK1, hD1⟩ := hB
    rw [ht] at hP1
    obtain ⟨hP, hD⟩ := va_join (wr := [oPos ad xPos_size xPos_shortest xPos_longest xPos_slip, ar (ad 28) cA 20 gPat]) (w1 := []) hP hD [] [0, 1] rfl rfl (by decide) (by decide) hk1 hFc hP1 hD1
    clear hPc hDc hFc hP1 hK1 hD1 hk1 hz1 hvm ht
    generalize H1 = H at hP hS ⊢
    have hP : va_P (dC, dI) vwCl [oPos ad xPos_size xPos_shortest xPos_longest xPos_slip, ar (ad 28) cA 20 gPat] H := hP
    have hD : va_D A [oPos ad xPos_size xPos_shortest xPos_longest xPos_slip, ar (ad 28) cA 20 gPat] := hD
    have hw := hw.symm
    subst hw
    refine lv_isub hx hb dX3_gap_48 ?_
    refine lv_iconst (v := 0) hx hb dX3_gap_49 (by decide) ?_
    refine va_mmax hx hb (by rw [hml]; exact hl.1.symm) hown hw_8 hw_9 hw_3 hw_10 (Nat.le_of_ble_eq_true rfl) (Nat.le_of_ble_eq_true rfl) (by first | exact Nat.zero_le _ | (show _ ≤ _ - _; omega)) (by first | exact Nat.zero_le _ | (show _ ≤ 2 * (_ - _); omega)) dX3_gap_50 ?_
    obtain rfl := Option.some.inj hm
    subst hQ
    exact W.iret (v := (if (u_5 - u_6) < 0 then 0 else (u_5 - u_6))) hx hb hr (fun t ht hW => ⟨⟨_, (), rfl, rfl, by rw [ht]; exact hP, va_K.moved hW.alike hK, hAe ▸ hD⟩, hS.F ht⟩) hS.2.2 dX3_gap_53
  · have hm := it_pos c_1 hm
    refine lv_iconst (v := 0) hx hb dX3_gap_5 (by decide) ?_
    obtain rfl := Option.some.inj hm
    subst hQ
    exact W.iret (v := 0) hx hb hr (fun t ht hW => ⟨⟨_, (), rfl, rfl, by rw [ht]; exact hP, va_K.moved hW.alike hK, hAe ▸ hD⟩, hS.F ht⟩) hS.2.2 dX3_gap_6

set_option maxHeartbeats 4000000 in
set_option maxRecDepth 100000 in
theorem kP_throughNext (l : Launch) (dC : Nat → ClassId) (dI : Nat → Nat → Nat) (cA : ClassId) (ad : Nat → Nat) (sz : Nat) (a1 : Int32) (a2 : Int32) (a3 : Int32) (xPos_size : Int32) (xPos_shortest : Int32) (xPos_longest : Int32) (xPos_slip : Int32) (gPat : Nat → Int32) (gPleast : Nat → Int32) (u : Int32) (hm : fP_throughNext a1 a2 a3 xPos_shortest xPos_longest xPos_slip gPat gPleast = some u) : Met l yX3_throughNext wsX3_throughNext ({ frames := 3, cells := 0, slots := 0, locals := 67 }) (va_Pc [.ref (ad 26), .int a1, .int a2, .int a3] (fun U => U.heap.size = sz ∧ va_P (dC, dI) vwCl [oPos ad xPos_size xPos_shortest xPos_longest xPos_slip, ar (ad 28) cA 20 gPat, ar (ad 29) cA 120 gPleast] U.heap ∧ va_K (dC, dI) vwCl [(cA, .int)] U ∧ va_D (fun _ => True) [oPos ad xPos_size xPos_shortest xPos_longest xPos_slip, ar (ad 28) cA 20 gPat, ar (ad 29) cA 120 gPleast])) (va_Qi (fun (r : Int32) (_ : Unit) => r = u) (fun (_ : Unit) t => va_P (dC, dI) vwCl [oPos ad xPos_size xPos_shortest xPos_longest xPos_slip, ar (ad 28) cA 20 gPat, ar (ad 29) cA 120 gPleast] t.heap ∧ va_K (dC, dI) vwCl [(cA, .int)] t ∧ va_D (va_A [oPos ad xPos_size xPos_shortest xPos_longest xPos_slip, ar (ad 28) cA 20 gPat, ar (ad 29) cA 120 gPleast] sz) [oPos ad xPos_size xPos_shortest xPos_longest xPos_slip, ar (ad 28) cA 20 gPat, ar (ad 29) cA 120 gPleast]) (va_A [oPos ad xPos_size xPos_shortest xPos_longest xPos_slip, ar (ad 28) cA 20 gPat, ar (ad 29) cA 120 gPleast] sz)) 0 0 (va_A [oPos ad xPos_size xPos_shortest xPos_longest xPos_slip, ar (ad 28) cA 20 gPat, ar (ad 29) cA 120 gPleast] sz) := by
  refine Met.ofW (cc := cX3_throughNext) (maxL := 4) (ret := (some .int)) (by decide) rfl ?_
  intro p e s m args below meth c s₁ B hml hv
  obtain ⟨rfl, hsz, hP, hK, hD0⟩ := hv
  have hx := B.exec
  have hb := B.bytes
  have hr := B.returns
  have hts := atoms_spec (ws := wsX3_throughNext) B.pre
  have hown : s.vm.findClass RX3 = some m.cls := findClass_of_methodNamed B.named
  have hlocks := B.notSynchronized
  subst hsz
  have hD := hD0.self (sz := s.heap.size)
  generalize hAe : va_A [oPos ad xPos_size xPos_shortest xPos_longest xPos_slip, ar (ad 28) cA 20 gPat, ar (ad 29) cA 120 gPleast] s.heap.size = A at hD ⊢
  have hA : ∀ q : Nat, s.heap.size ≤ q → A q := fun q h => by rw [← hAe]; exact Or.inr h
  have hS : va_S A s.heap s.heap [] := va_S.rf
  have hl := lv_entry ([.ref (ad 26), .int a1, .int a2, .int a3]) (n := 4) (Nat.le_of_ble_eq_true rfl)
  rw [lg_entry_eq]
  generalize (lg_sl ([.ref (ad 26), .int a1, .int a2, .int a3]) ++ List.replicate (4 - (lg_sl ([.ref (ad 26), .int a1, .int a2, .int a3])).length) Slot.unset).toArray = ls at hl ⊢
  have hl : lv_has ls 4 [(0, .ref (ad 26)), (1, .int a1), (2, .int a2), (3, .int a3)] := hl
  refine wk_Q (fun QQ hQ => ?_)
  have hinX3 : ∀ w ∈ wsX30, w ∈ wsX3_throughNext := fun w h => List.mem_cons_of_mem _ (inlX3 w h)
  have hl_18 := hts (.fieldLink RX3 18 "HandCensus$Posting" "least" "[I") (List.mem_cons_of_mem _ (in_r5 _ (List.mem_of_getElem? (i := 6) rfl)))
  unfold fP_throughNext at hm
  refine lv_aload_n hx hb dX3_throughNext_0 rfl (lv_at hl 0 rfl) ?_
  refine lv_iload_n hx hb dX3_throughNext_1 rfl (lv_at hl 1 rfl) ?_
  refine lv_iload_n hx hb dX3_throughNext_2 rfl (lv_at hl 2 rfl) ?_
  have hPc := hP.sub (ws' := [oPos ad xPos_size xPos_shortest xPos_longest xPos_slip, ar (ad 28) cA 20 gPat]) [0, 1] rfl
  have hDc := hD.sub (ws' := [oPos ad xPos_size xPos_shortest xPos_longest xPos_slip, ar (ad 28) cA 20 gPat]) [0, 1] (by decide) rfl
  have hFc := va_free (wc := [oPos ad xPos_size xPos_shortest xPos_longest xPos_slip, ar (ad 28) cA 20 gPat]) hD hS hA [0, 1] rfl
  obtain ⟨u_1, hc_1, hm⟩ := bd_ok hm
  refine va_calli (va_runV (As := [.int a1, .int a2]) (rest := []) ⟨hx, hb, hml, hown, hts⟩ (kP_gap l dC dI cA ad s.heap.size a1 a2 xPos_size xPos_shortest xPos_longest xPos_slip gPat u_1 hc_1) (cwV 2 hts gX3_throughNext_X3_gap rfl rfl rfl (by decide +kernel) ⟨Nat.le_of_ble_eq_true rfl, Nat.le_of_ble_eq_true rfl⟩) ⟨fun a U g mk q => by obtain ⟨q0, q1, qP, qK, qD⟩ := q; exact ⟨q0, q1, qP, va_K.moved (u := U) (U := U.calling g mk a) (Vm.Alike.refl U.vm) qK, qD⟩, va_recv hK hPc (ci := 3) (q0 := 0) rfl rfl, fun U hU hW => ⟨rfl, by rw [hU], by rw [hU]; exact hPc, va_K.moved hW.alike hK, hDc.weaken (fun _ _ _ _ => trivial)⟩⟩ rfl rfl hl.1 rfl (lv_room (Nat.le_of_ble_eq_true rfl)) dX3_throughNext_3 ⟨Nat.le_of_ble_eq_true rfl, Nat.le_of_ble_eq_true rfl⟩) hS (fun q _ h => hFc q h) hFc (fun r_1 _ t H1 locs ht hvm hw hB hz1 hk1 hS => ?_)
  obtain ⟨hP1, hK1, hD1⟩ := hB
  rw [ht] at hP1
  obtain ⟨hP, hD⟩ := va_join (wr := [ar (ad 29) cA 120 gPleast]) (w1 := [oPos ad xPos_size xPos_shortest xPos_longest xPos_slip, ar (ad 28) cA 20 gPat]) hP hD [0, 1] [2] rfl rfl (by decide) (by decide) hk1 hFc hP1 hD1
  clear hPc hDc hFc hP1 hK1 hD1 hk1 hz1 hvm ht
  generalize H1 = H at hP hS ⊢
  have hP : va_P (dC, dI) vwCl [oPos ad xPos_size xPos_shortest xPos_longest xPos_slip, ar (ad 28) cA 20 gPat, ar (ad 29) cA 120 gPleast] H := hP.sub [1, 2, 0] rfl
  have hD : va_D A [oPos ad xPos_size xPos_shortest xPos_longest xPos_slip, ar (ad 28) cA 20 gPat, ar (ad 29) cA 120 gPleast] := hD.sub [1, 2, 0] (by decide) rfl
  have hw := hw.symm
  subst hw
  refine lv_aload_n hx hb dX3_throughNext_6 rfl (lv_at hl 0 rfl) ?_
  refine va_get (D := (dC, dI)) (ci := 3) (v := .ref (ad 29)) (C := RX3) (T := TX3) (N := 7) hx hb hts hinX3 hown hK hP 0 rfl rfl 2 (by decide) hl_18 (fun _ h9 => h9) rfl dX3_throughNext_7 ?_
  refine lv_iload_n hx hb dX3_throughNext_10 rfl (lv_at hl 3 rfl) ?_
  refine lv_iconst (v := 1) hx hb dX3_throughNext_11 (by decide) ?_
  refine lv_isub hx hb dX3_throughNext_12 ?_
  refine lv_bipush (v := 20) hx hb dX3_throughNext_13 (by decide) ?_
  refine lv_imul hx hb dX3_throughNext_15 ?_
  refine lv_iload_n hx hb dX3_throughNext_16 rfl (lv_at hl 2 rfl) ?_
  refine lv_iadd hx hb dX3_throughNext_17 ?_
  obtain ⟨i_2, hm⟩ := ck_ok hm
  refine va_iald hx hb hK hP 2 0 rfl rfl i_2 dX3_throughNext_18 ?_
  refine lv_iadd hx hb dX3_throughNext_19 ?_
  obtain rfl := Option.some.inj hm
  subst hQ
  exact W.iret (v := (u_1 + (gPleast (((a3 - 1) * 20) + a2).toNatClampNeg))) hx hb hr (fun t ht hW => ⟨⟨_, (), rfl, rfl, by rw [ht]; exact hP, va_K.moved hW.alike hK, hAe ▸ hD⟩, hS.F ht⟩) hS.2.2 dX3_throughNext_20

set_option maxHeartbeats 4000000 in
set_option maxRecDepth 100000 in
theorem kP_nextPost (l : Launch) (dC : Nat → ClassId) (dI : Nat → Nat → Nat) (cA : ClassId) (ad : Nat → Nat) (sz : Nat) (a1 : Int32) (a2 : Int32) (xPos_size : Int32) (xPos_shortest : Int32) (xPos_longest : Int32) (xPos_slip : Int32) (gPat : Nat → Int32) (gPleast : Nat → Int32) (u : Int32) (hm : fP_nextPost a1 a2 xPos_size xPos_shortest xPos_longest xPos_slip gPat gPleast = some u) : Met l yX3_nextPost wsX3_nextPost ({ frames := 4, cells := 0, slots := 0, locals := 90 }) (va_Pc [.ref (ad 26), .int a1, .int a2] (fun U => U.heap.size = sz ∧ va_P (dC, dI) vwCl [oPos ad xPos_size xPos_shortest xPos_longest xPos_slip, ar (ad 28) cA 20 gPat, ar (ad 29) cA 120 gPleast] U.heap ∧ va_K (dC, dI) vwCl [(cA, .int)] U ∧ va_D (fun _ => True) [oPos ad xPos_size xPos_shortest xPos_longest xPos_slip, ar (ad 28) cA 20 gPat, ar (ad 29) cA 120 gPleast])) (va_Qi (fun (r : Int32) (_ : Unit) => r = u) (fun (_ : Unit) t => va_P (dC, dI) vwCl [oPos ad xPos_size xPos_shortest xPos_longest xPos_slip, ar (ad 28) cA 20 gPat, ar (ad 29) cA 120 gPleast] t.heap ∧ va_K (dC, dI) vwCl [(cA, .int)] t ∧ va_D (va_A [oPos ad xPos_size xPos_shortest xPos_longest xPos_slip, ar (ad 28) cA 20 gPat, ar (ad 29) cA 120 gPleast] sz) [oPos ad xPos_size xPos_shortest xPos_longest xPos_slip, ar (ad 28) cA 20 gPat, ar (ad 29) cA 120 gPleast]) (va_A [oPos ad xPos_size xPos_shortest xPos_longest xPos_slip, ar (ad 28) cA 20 gPat, ar (ad 29) cA 120 gPleast] sz)) 0 0 (va_A [oPos ad xPos_size xPos_shortest xPos_longest xPos_slip, ar (ad 28) cA 20 gPat, ar (ad 29) cA 120 gPleast] sz) := by
  refine Met.ofW (cc := cX3_nextPost) (maxL := 5) (ret := (some .int)) (by decide) rfl ?_
  intro p e s m args below meth c s₁ B hml hv
  obtain ⟨rfl, hsz, hP, hK, hD0⟩ := hv
  have hx := B.exec
  have hb := B.bytes
  have hr := B.returns
  have hts := atoms_spec (ws := wsX3_nextPost) B.pre
  have hown : s.vm.findClass RX3 = some m.cls := findClass_of_methodNamed B.named
  have hlocks := B.notSynchronized
  subst hsz
  have hD := hD0.self (sz := s.heap.size)
  generalize hAe : va_A [oPos ad xPos_size xPos_shortest xPos_longest xPos_slip, ar (ad 28) cA 20 gPat, ar (ad 29) cA 120 gPleast] s.heap.size = A at hD ⊢
  have hA : ∀ q : Nat, s.heap.size ≤ q → A q := fun q h => by rw [← hAe]; exact Or.inr h
  have hS : va_S A s.heap s.heap [] := va_S.rf
  have hl := lv_entry ([.ref (ad 26), .int a1, .int a2]) (n := 5) (Nat.le_of_ble_eq_true rfl)
  rw [lg_entry_eq]
  generalize (lg_sl ([.ref (ad 26), .int a1, .int a2]) ++ List.replicate (5 - (lg_sl ([.ref (ad 26), .int a1, .int a2])).length) Slot.unset).toArray = ls at hl ⊢
  have hl : lv_has ls 5 [(0, .ref (ad 26)), (1, .int a1), (2, .int a2)] := hl
  refine wk_Q (fun QQ hQ => ?_)
  have hinX3 : ∀ w ∈ wsX30, w ∈ wsX3_nextPost := fun w h => List.mem_cons_of_mem _ (inlX3 w h)
  have hl_21 := hts (.fieldLink RX3 21 "HandCensus$Posting" "size" "I") (List.mem_cons_of_mem _ (in_r5 _ (List.mem_of_getElem? (i := 7) rfl)))
  have h_9 : ∀ (v1_9 : Int32) (v2_9 : Int32), ∀ (n_9 : Nat), ∀ (v3_9 : Int32) (v4_9 : Int32), fP_nextPost_9 v1_9 v2_9 xPos_size xPos_shortest xPos_longest xPos_slip gPat gPleast n_9 v3_9 v4_9 = some u → ∀ (H : Heap) (locs : List Loc), va_P (dC, dI) vwCl [oPos ad xPos_size xPos_shortest xPos_longest xPos_slip, ar (ad 28) cA 20 gPat, ar (ad 29) cA 120 gPleast] H → va_D A [oPos ad xPos_size xPos_shortest xPos_longest xPos_slip, ar (ad 28) cA 20 gPat, ar (ad 29) cA 120 gPleast] → va_S A s.heap H locs → ∀ ls : Array Slot, lv_has ls 5 [(0, .ref (ad 26)), (1, .int v1_9), (2, .int v2_9), (3, .int v3_9), (4, .int v4_9)] → W p l e (headSpec wsX3_nextPost ({ frames := 4, cells := 0, slots := 0, locals := 90 })).room s m ([.ref (ad 26), .int a1, .int a2] : List Value).toArray below meth c H locs 0 0 QQ (F0 m 9 ls []) := by
    intro v1_9 v2_9
    intro n_9
    induction n_9 with
    | zero => intro v3_9 v4_9 hm; have hm : (none : Option (Int32)) = some u := hm; cases hm
    | succ n_9 ih_9 =>
      have b_45 : ∀ (v3_45 : Int32) (v4_45 : Int32), fP_nextPost_45 (fP_nextPost_9  v1_9 v2_9 xPos_size xPos_shortest xPos_longest xPos_slip gPat gPleast n_9) v1_9 v2_9 v3_45 v4_45 xPos_size xPos_shortest xPos_longest xPos_slip gPat gPleast = some u → ∀ (H : Heap) (locs : List Loc), va_P (dC, dI) vwCl [oPos ad xPos_size xPos_shortest xPos_longest xPos_slip, ar (ad 28) cA 20 gPat, ar (ad 29) cA 120 gPleast] H → va_D A [oPos ad xPos_size xPos_shortest xPos_longest xPos_slip, ar (ad 28) cA 20 gPat, ar (ad 29) cA 120 gPleast] → va_S A s.heap H locs → ∀ ls : Array Slot, lv_has ls 5 [(0, .ref (ad 26)), (1, .int v1_9), (2, .int v2_9), (3, .int v3_45), (4, .int v4_45)] → W p l e (headSpec wsX3_nextPost ({ frames := 4, cells := 0, slots := 0, locals := 90 })).room s m ([.ref (ad 26), .int a1, .int a2] : List Value).toArray below meth c H locs 0 0 QQ (F0 m 45 ls []) := by
        intro v3_45 v4_45 hm H locs hP hD hS ls hl
        unfold fP_nextPost_45 at hm
        refine lv_iinc (v := (v4_45 + 1)) (lv' := [(4, .int (v4_45 + 1)), (0, .ref (ad 26)), (1, .int v1_9), (2, .int v2_9), (3, .int v3_45)]) hx hb dX3_nextPost_45 hl (k := 4) rfl rfl (by decide) rfl (fun ls hl => ?_)
        refine lv_goto (tgt := 9) hx hb dX3_nextPost_48 (by decide) ?_
        exact ih_9 _ _ hm _ _ hP hD hS _ (lv_sub hl [1, 2, 3, 4, 0] rfl)
      intro v3_9 v4_9 hm H locs hP hD hS ls hl
      have hm : fP_nextPost_9_b  (fP_nextPost_9  v1_9 v2_9 xPos_size xPos_shortest xPos_longest xPos_slip gPat gPleast n_9) v1_9 v2_9 xPos_size xPos_shortest xPos_longest xPos_slip gPat gPleast v3_9 v4_9 = some u := hm
      unfold fP_nextPost_9_b at hm
      refine lv_iload hx hb dX3_nextPost_9 (lv_at hl 4 rfl) ?_
      refine lv_iload_n hx hb dX3_nextPost_11 rfl (lv_at hl 2 rfl) ?_
      refine lv_iadd hx hb dX3_nextPost_12 ?_
      refine lv_iconst (v := 1) hx hb dX3_nextPost_13 (by decide) ?_
      refine lv_isub hx hb dX3_nextPost_14 ?_
      refine lv_aload_n hx hb dX3_nextPost_15 rfl (lv_at hl 0 rfl) ?_
      refine va_get (D := (dC, dI)) (ci := 3) (v := .int xPos_size) (C := RX3) (T := TX3) (N := 7) hx hb hts hinX3 hown hK hP 0 rfl rfl 3 (by decide) hl_21 (fun _ h9 => h9) rfl dX3_nextPost_16 ?_
      refine lv_iconst (v := 1) hx hb dX3_nextPost_19 (by decide) ?_
      refine lv_isub hx hb dX3_nextPost_20 ?_
      refine lv_icmp_ge (tgt := 51) hx hb dX3_nextPost_21 (by decide) (fun c_1 => ?_) (fun c_1 => ?_)
      · have hm := it_pos c_1 hm
        refine lv_iload_n hx hb dX3_nextPost_51 rfl (lv_at hl 3 rfl) ?_
        obtain rfl := Option.some.inj hm
        subst hQ
        exact W.iret (v := v3_9) hx hb hr (fun t ht hW => ⟨⟨_, (), rfl, rfl, by rw [ht]; exact hP, va_K.moved hW.alike hK, hAe ▸ hD⟩, hS.F ht⟩) hS.2.2 dX3_nextPost_52
      · have hm := it_neg c_1 hm
        refine lv_aload_n hx hb dX3_nextPost_24 rfl (lv_at hl 0 rfl) ?_
        refine lv_iload_n hx hb dX3_nextPost_25 rfl (lv_at hl 1 rfl) ?_
        refine lv_iload hx hb dX3_nextPost_26 (lv_at hl 4 rfl) ?_
        refine lv_iload_n hx hb dX3_nextPost_28 rfl (lv_at hl 2 rfl) ?_
        have hPc := hP.sub (ws' := [oPos ad xPos_size xPos_shortest xPos_longest xPos_slip, ar (ad 28) cA 20 gPat, ar (ad 29) cA 120 gPleast]) [0, 1, 2] rfl
        have hDc := hD.sub (ws' := [oPos ad xPos_size xPos_shortest xPos_longest xPos_slip, ar (ad 28) cA 20 gPat, ar (ad 29) cA 120 gPleast]) [0, 1, 2] (by decide) rfl
        have hFc := va_free (wc := [oPos ad xPos_size xPos_shortest xPos_longest xPos_slip, ar (ad 28) cA 20 gPat, ar (ad 29) cA 120 gPleast]) hD hS hA [0, 1, 2] rfl
        obtain ⟨u_2, hc_2, hm⟩ := bd_ok hm
        refine va_calli (va_runV (As := [.int v1_9, .int v4_9, .int v2_9]) (rest := []) ⟨hx, hb, hml, hown, hts⟩ (kP_throughNext l dC dI cA ad H.size v1_9 v4_9 v2_9 xPos_size xPos_shortest xPos_longest xPos_slip gPat gPleast u_2 hc_2) (cwV 3 hts gX3_nextPost_X3_throughNext rfl rfl rfl (by decide +kernel) ⟨Nat.le_of_ble_eq_true rfl, Nat.le_of_ble_eq_true rfl⟩) ⟨fun a U g mk q => by obtain ⟨q0, q1, qP, qK, qD⟩ := q; exact ⟨q0, q1, qP, va_K.moved (u := U) (U := U.calling g mk a) (Vm.Alike.refl U.vm) qK, qD⟩, va_recv hK hPc (ci := 3) (q0 := 0) rfl rfl, fun U hU hW => ⟨rfl, by rw [hU], by rw [hU]; exact hPc, va_K.moved hW.alike hK, hDc.weaken (fun _ _ _ _ => trivial)⟩⟩ rfl rfl hl.1 rfl (lv_room (Nat.le_of_ble_eq_true rfl)) dX3_nextPost_29 ⟨Nat.le_of_ble_eq_true rfl, Nat.le_of_ble_eq_true rfl⟩) hS (fun q _ h => hFc q h) hFc (fun r_2 _ t H1 locs ht hvm hw hB hz1 hk1 hS => ?_)
        obtain ⟨hP1, hK1, hD1⟩ := hB
        rw [ht] at hP1
        obtain ⟨hP, hD⟩ := va_join (wr := []) (w1 := [oPos ad xPos_size xPos_shortest xPos_longest xPos_slip, ar (ad 28) cA 20 gPat, ar (ad 29) cA 120 gPleast]) hP hD [0, 1, 2] [] rfl rfl (by decide) (by decide) hk1 hFc hP1 hD1
        clear hPc hDc hFc hP1 hK1 hD1 hk1 hz1 hvm ht
        generalize H1 = H at hP hS ⊢
        have hP : va_P (dC, dI) vwCl [oPos ad xPos_size xPos_shortest xPos_longest xPos_slip, ar (ad 28) cA 20 gPat, ar (ad 29) cA 120 gPleast] H := hP
        have hD : va_D A [oPos ad xPos_size xPos_shortest xPos_longest xPos_slip, ar (ad 28) cA 20 gPat, ar (ad 29) cA 120 gPleast] := hD
        have hw := hw.symm
        subst hw
        refine lv_aload_n hx hb dX3_nextPost_32 rfl (lv_at hl 0 rfl) ?_
        refine lv_iload_n hx hb dX3_nextPost_33 rfl (lv_at hl 1 rfl) ?_
        refine lv_iload_n hx hb dX3_nextPost_34 rfl (lv_at hl 3 rfl) ?_
        refine lv_iload_n hx hb dX3_nextPost_35 rfl (lv_at hl 2 rfl) ?_
        have hPc := hP.sub (ws' := [oPos ad xPos_size xPos_shortest xPos_longest xPos_slip, ar (ad 28) cA 20 gPat, ar (ad 29) cA 120 gPleast]) [0, 1, 2] rfl
        have hDc := hD.sub (ws' := [oPos ad xPos_size xPos_shortest xPos_longest xPos_slip, ar (ad 28) cA 20 gPat, ar (ad 29) cA 120 gPleast]) [0, 1, 2] (by decide) rfl
        have hFc := va_free (wc := [oPos ad xPos_size xPos_shortest xPos_longest xPos_slip, ar (ad 28) cA 20 gPat, ar (ad 29) cA 120 gPleast]) hD hS hA [0, 1, 2] rfl
        obtain ⟨u_3, hc_3, hm⟩ := bd_ok hm
        refine va_calli (va_runV (As := [.int v1_9, .int v3_9, .int v2_9]) (rest := [.int u_2]) ⟨hx, hb, hml, hown, hts⟩ (kP_throughNext l dC dI cA ad H.size v1_9 v3_9 v2_9 xPos_size xPos_shortest xPos_longest xPos_slip gPat gPleast u_3 hc_3) (cwV 3 hts gX3_nextPost_X3_throughNext rfl rfl rfl (by decide +kernel) ⟨Nat.le_of_ble_eq_true rfl, Nat.le_of_ble_eq_true rfl⟩) ⟨fun a U g mk q => by obtain ⟨q0, q1, qP, qK, qD⟩ := q; exact ⟨q0, q1, qP, va_K.moved (u := U) (U := U.calling g mk a) (Vm.Alike.refl U.vm) qK, qD⟩, va_recv hK hPc (ci := 3) (q0 := 0) rfl rfl, fun U hU hW => ⟨rfl, by rw [hU], by rw [hU]; exact hPc, va_K.moved hW.alike hK, hDc.weaken (fun _ _ _ _ => trivial)⟩⟩ rfl rfl hl.1 rfl (lv_room (Nat.le_of_ble_eq_true rfl)) dX3_nextPost_36 ⟨Nat.le_of_ble_eq_true rfl, Nat.le_of_ble_eq_true rfl⟩) hS (fun q _ h => hFc q h) hFc (fun r_3 _ t H1 locs ht hvm hw hB hz1 hk1 hS => ?_)
        obtain ⟨hP1, hK1, hD1⟩ := hB
        rw [ht] at hP1
        obtain ⟨hP, hD⟩ := va_join (wr := []) (w1 := [oPos ad xPos_size xPos_shortest xPos_longest xPos_slip, ar (ad 28) cA 20 gPat, ar (ad 29) cA 120 gPleast]) hP hD [0, 1, 2] [] rfl rfl (by decide) (by decide) hk1 hFc hP1 hD1
        clear hPc hDc hFc hP1 hK1 hD1 hk1 hz1 hvm ht
        generalize H1 = H at hP hS ⊢
        have hP : va_P (dC, dI) vwCl [oPos ad xPos_size xPos_shortest xPos_longest xPos_slip, ar (ad 28) cA 20 gPat, ar (ad 29) cA 120 gPleast] H := hP
        have hD : va_D A [oPos ad xPos_size xPos_shortest xPos_longest xPos_slip, ar (ad 28) cA 20 gPat, ar (ad 29) cA 120 gPleast] := hD
        have hw := hw.symm
        subst hw
        refine lv_icmp_ge (tgt := 45) hx hb dX3_nextPost_39 (by decide) (fun c_4 => ?_) (fun c_4 => ?_)
        · have hm := it_pos c_4 hm
          exact b_45 _ _ hm _ _ hP hD hS _ (lv_sub hl [0, 1, 2, 3, 4] rfl)
        · have hm := it_neg c_4 hm
          refine lv_iload hx hb dX3_nextPost_42 (lv_at hl 4 rfl) ?_
          refine lv_istore_n (lv' := [(3, .int v4_9), (0, .ref (ad 26)), (1, .int v1_9), (2, .int v2_9), (4, .int v4_9)]) hx hb dX3_nextPost_44 rfl hl (by decide) rfl (fun ls hl => ?_)
          exact b_45 _ _ hm _ _ hP hD hS _ (lv_sub hl [1, 2, 3, 0, 4] rfl)
  unfold fP_nextPost at hm
  refine lv_iload_n hx hb dX3_nextPost_0 rfl (lv_at hl 1 rfl) ?_
  refine lv_iconst (v := 1) hx hb dX3_nextPost_1 (by decide) ?_
  refine lv_iadd hx hb dX3_nextPost_2 ?_
  refine lv_istore_n (lv' := [(3, .int (a1 + 1)), (0, .ref (ad 26)), (1, .int a1), (2, .int a2)]) hx hb dX3_nextPost_3 rfl hl (by decide) rfl (fun ls hl => ?_)
  refine lv_iload_n hx hb dX3_nextPost_4 rfl (lv_at hl 2 rfl) ?_
  refine lv_iconst (v := 2) hx hb dX3_nextPost_5 (by decide) ?_
  refine lv_iadd hx hb dX3_nextPost_6 ?_
  refine lv_istore (lv' := [(4, .int (a1 + 2)), (3, .int (a1 + 1)), (0, .ref (ad 26)), (1, .int a1), (2, .int a2)]) hx hb dX3_nextPost_7 hl (by decide) rfl (fun ls hl => ?_)
  exact h_9 _ _ _ _ _ hm _ _ hP hD hS _ (lv_sub hl [2, 3, 4, 1, 0] rfl)

set_option maxHeartbeats 4000000 in
set_option maxRecDepth 100000 in
theorem kP_work (l : Launch) (dC : Nat → ClassId) (dI : Nat → Nat → Nat) (cA : ClassId) (ad : Nat → Nat) (sz : Nat) (a1 : Int32) (xPos_size : Int32) (xPos_shortest : Int32) (xPos_longest : Int32) (xPos_slip : Int32) (gPat : Nat → Int32) (gPleast : Nat → Int32) (u : (Nat → Int32)) (hm : fP_work a1 xPos_size xPos_shortest xPos_longest xPos_slip gPat gPleast = some u) : Met l yX3_work wsX3_work ({ frames := 5, cells := 0, slots := 0, locals := 114 }) (va_Pc [.ref (ad 26), .int a1] (fun U => U.heap.size = sz ∧ va_P (dC, dI) vwCl [oPos ad xPos_size xPos_shortest xPos_longest xPos_slip, ar (ad 28) cA 20 gPat, ar (ad 29) cA 120 gPleast] U.heap ∧ va_K (dC, dI) vwCl [(cA, .int)] U ∧ va_D (fun _ => True) [oPos ad xPos_size xPos_shortest xPos_longest xPos_slip, ar (ad 28) cA 20 gPat, ar (ad 29) cA 120 gPleast])) (va_Qv (fun (_ : Unit) => True) (fun (_ : Unit) t => va_P (dC, dI) vwCl [oPos ad xPos_size xPos_shortest xPos_longest xPos_slip, ar (ad 28) cA 20 gPat, ar (ad 29) cA 120 u] t.heap ∧ va_K (dC, dI) vwCl [(cA, .int)] t ∧ va_D (va_A [oPos ad xPos_size xPos_shortest xPos_longest xPos_slip, ar (ad 28) cA 20 gPat, ar (ad 29) cA 120 gPleast] sz) [oPos ad xPos_size xPos_shortest xPos_longest xPos_slip, ar (ad 28) cA 20 gPat, ar (ad 29) cA 120 u]) (va_A [oPos ad xPos_size xPos_shortest xPos_longest xPos_slip, ar (ad 28) cA 20 gPat, ar (ad 29) cA 120 gPleast] sz)) 0 0 (va_A [oPos ad xPos_size xPos_shortest xPos_longest xPos_slip, ar (ad 28) cA 20 gPat, ar (ad 29) cA 120 gPleast] sz) := by
  refine Met.ofW (cc := cX3_work) (maxL := 5) (ret := none) (by decide) rfl ?_
  intro p e s m args below meth c s₁ B hml hv
  obtain ⟨rfl, hsz, hP, hK, hD0⟩ := hv
  have hx := B.exec
  have hb := B.bytes
  have hr := B.returns
  have hts := atoms_spec (ws := wsX3_work) B.pre
  have hown : s.vm.findClass RX3 = some m.cls := findClass_of_methodNamed B.named
  have hlocks := B.notSynchronized
  subst hsz
  have hD := hD0.self (sz := s.heap.size)
  generalize hAe : va_A [oPos ad xPos_size xPos_shortest xPos_longest xPos_slip, ar (ad 28) cA 20 gPat, ar (ad 29) cA 120 gPleast] s.heap.size = A at hD ⊢
  have hA : ∀ q : Nat, s.heap.size ≤ q → A q := fun q h => by rw [← hAe]; exact Or.inr h
  have hS : va_S A s.heap s.heap [] := va_S.rf
  have hl := lv_entry ([.ref (ad 26), .int a1]) (n := 5) (Nat.le_of_ble_eq_true rfl)
  rw [lg_entry_eq]
  generalize (lg_sl ([.ref (ad 26), .int a1]) ++ List.replicate (5 - (lg_sl ([.ref (ad 26), .int a1])).length) Slot.unset).toArray = ls at hl ⊢
  have hl : lv_has ls 5 [(0, .ref (ad 26)), (1, .int a1)] := hl
  refine wk_Q (fun QQ hQ => ?_)
  have hinX3 : ∀ w ∈ wsX30, w ∈ wsX3_work := fun w h => List.mem_cons_of_mem _ (inlX3 w h)
  have hl_21 := hts (.fieldLink RX3 21 "HandCensus$Posting" "size" "I") (List.mem_cons_of_mem _ (in_r5 _ (List.mem_of_getElem? (i := 7) rfl)))
  have hl_18 := hts (.fieldLink RX3 18 "HandCensus$Posting" "least" "[I") (List.mem_cons_of_mem _ (in_r5 _ (List.mem_of_getElem? (i := 6) rfl)))
  have h_35 : ∀ (v1_35 : Int32), ∀ (n_35 : Nat), ∀ (v2_35 : Int32) (gPleast_35 : Nat → Int32), fP_work_35 v1_35 xPos_size xPos_shortest xPos_longest xPos_slip gPat n_35 v2_35 gPleast_35 = some u → ∀ (H : Heap) (locs : List Loc), va_P (dC, dI) vwCl [oPos ad xPos_size xPos_shortest xPos_longest xPos_slip, ar (ad 28) cA 20 gPat, ar (ad 29) cA 120 gPleast_35] H → va_D A [oPos ad xPos_size xPos_shortest xPos_longest xPos_slip, ar (ad 28) cA 20 gPat, ar (ad 29) cA 120 gPleast_35] → va_S A s.heap H locs → ∀ ls : Array Slot, lv_has ls 5 [(0, .ref (ad 26)), (1, .int v1_35), (2, .int v2_35)] → W p l e (headSpec wsX3_work ({ frames := 5, cells := 0, slots := 0, locals := 114 })).room s m ([.ref (ad 26), .int a1] : List Value).toArray below meth c H locs 0 0 QQ (F0 m 35 ls []) := by
    intro v1_35
    intro n_35
    induction n_35 with
    | zero => intro v2_35 gPleast_35 hm; have hm : (none : Option ((Nat → Int32))) = some u := hm; cases hm
    | succ n_35 ih_35 =>
      have h_50 : ∀ (v2_50 : Int32), ∀ (n_50 : Nat), ∀ (v3_50 : Int32) (gPleast_50 : Nat → Int32), fP_work_50 (fP_work_35  v1_35 xPos_size xPos_shortest xPos_longest xPos_slip gPat n_35) v1_35 v2_50 xPos_size xPos_shortest xPos_longest xPos_slip gPat n_50 v3_50 gPleast_50 = some u → ∀ (H : Heap) (locs : List Loc), va_P (dC, dI) vwCl [oPos ad xPos_size xPos_shortest xPos_longest xPos_slip, ar (ad 28) cA 20 gPat, ar (ad 29) cA 120 gPleast_50] H → va_D A [oPos ad xPos_size xPos_shortest xPos_longest xPos_slip, ar (ad 28) cA 20 gPat, ar (ad 29) cA 120 gPleast_50] → va_S A s.heap H locs → ∀ ls : Array Slot, lv_has ls 5 [(0, .ref (ad 26)), (1, .int v1_35), (2, .int v2_50), (3, .int v3_50)] → W p l e (headSpec wsX3_work ({ frames := 5, cells := 0, slots := 0, locals := 114 })).room s m ([.ref (ad 26), .int a1] : List Value).toArray below meth c H locs 0 0 QQ (F0 m 50 ls []) := by
        intro v2_50
        intro n_50
        induction n_50 with
        | zero => intro v3_50 gPleast_50 hm; have hm : (none : Option ((Nat → Int32))) = some u := hm; cases hm
        | succ n_50 ih_50 =>
          intro v3_50 gPleast_50 hm H locs hP hD hS ls hl
          have hm : fP_work_50_b (fP_work_35  v1_35 xPos_size xPos_shortest xPos_longest xPos_slip gPat n_35) (fP_work_50 (fP_work_35  v1_35 xPos_size xPos_shortest xPos_longest xPos_slip gPat n_35) v1_35 v2_50 xPos_size xPos_shortest xPos_longest xPos_slip gPat n_50) v1_35 v2_50 xPos_size xPos_shortest xPos_longest xPos_slip gPat v3_50 gPleast_50 = some u := hm
          unfold fP_work_50_b at hm
          refine lv_iload_n hx hb dX3_work_50 rfl (lv_at hl 3 rfl) ?_
          refine lv_iload_n hx hb dX3_work_51 rfl (lv_at hl 2 rfl) ?_
          refine lv_iadd hx hb dX3_work_52 ?_
          refine lv_aload_n hx hb dX3_work_53 rfl (lv_at hl 0 rfl) ?_
          refine va_get (D := (dC, dI)) (ci := 3) (v := .int xPos_size) (C := RX3) (T := TX3) (N := 7) hx hb hts hinX3 hown hK hP 0 rfl rfl 3 (by decide) hl_21 (fun _ h9 => h9) rfl dX3_work_54 ?_
          refine lv_iconst (v := 1) hx hb dX3_work_57 (by decide) ?_
          refine lv_isub hx hb dX3_work_58 ?_
          refine lv_icmp_ge (tgt := 95) hx hb dX3_work_59 (by decide) (fun c_1 => ?_) (fun c_1 => ?_)
          · have hm := it_pos c_1 hm
            refine lv_iinc (v := (v2_50 + 1)) (lv' := [(2, .int (v2_50 + 1)), (0, .ref (ad 26)), (1, .int v1_35), (3, .int v3_50)]) hx hb dX3_work_95 hl (k := 2) rfl rfl (by decide) rfl (fun ls hl => ?_)
            refine lv_goto (tgt := 35) hx hb dX3_work_98 (by decide) ?_
            exact ih_35 _ _ hm _ _ hP hD hS _ (lv_sub hl [1, 2, 0] rfl)
          · have hm := it_neg c_1 hm
            refine lv_aload_n hx hb dX3_work_62 rfl (lv_at hl 0 rfl) ?_
            refine lv_iload_n hx hb dX3_work_63 rfl (lv_at hl 3 rfl) ?_
            refine lv_iload_n hx hb dX3_work_64 rfl (lv_at hl 2 rfl) ?_
            have hPc := hP.sub (ws' := [oPos ad xPos_size xPos_shortest xPos_longest xPos_slip, ar (ad 28) cA 20 gPat, ar (ad 29) cA 120 gPleast_50]) [0, 1, 2] rfl
            have hDc := hD.sub (ws' := [oPos ad xPos_size xPos_shortest xPos_longest xPos_slip, ar (ad 28) cA 20 gPat, ar (ad 29) cA 120 gPleast_50]) [0, 1, 2] (by decide) rfl
            have hFc := va_free (wc := [oPos ad xPos_size xPos_shortest xPos_longest xPos_slip, ar (ad 28) cA 20 gPat, ar (ad 29) cA 120 gPleast_50]) hD hS hA [0, 1, 2] rfl
            obtain ⟨u_2, hc_2, hm⟩ := bd_ok hm
            refine va_calli (va_runV (As := [.int v3_50, .int v2_50]) (rest := []) ⟨hx, hb, hml, hown, hts⟩ (kP_nextPost l dC dI cA ad H.size v3_50 v2_50 xPos_size xPos_shortest xPos_longest xPos_slip gPat gPleast_50 u_2 hc_2) (cwV 2 hts gX3_work_X3_nextPost rfl rfl rfl (by decide +kernel) ⟨Nat.le_of_ble_eq_true rfl, Nat.le_of_ble_eq_true rfl⟩) ⟨fun a U g mk q => by obtain ⟨q0, q1, qP, qK, qD⟩ := q; exact ⟨q0, q1, qP, va_K.moved (u := U) (U := U.calling g mk a) (Vm.Alike.refl U.vm) qK, qD⟩, va_recv hK hPc (ci := 3) (q0 := 0) rfl rfl, fun U hU hW => ⟨rfl, by rw [hU], by rw [hU]; exact hPc, va_K.moved hW.alike hK, hDc.weaken (fun _ _ _ _ => trivial)⟩⟩ rfl rfl hl.1 rfl (lv_room (Nat.le_of_ble_eq_true rfl)) dX3_work_65 ⟨Nat.le_of_ble_eq_true rfl, Nat.le_of_ble_eq_true rfl⟩) hS (fun q _ h => hFc q h) hFc (fun r_2 _ t H1 locs ht hvm hw hB hz1 hk1 hS => ?_)
            obtain ⟨hP1, hK1, hD1⟩ := hB
            rw [ht] at hP1
            obtain ⟨hP, hD⟩ := va_join (wr := []) (w1 := [oPos ad xPos_size xPos_shortest xPos_longest xPos_slip, ar (ad 28) cA 20 gPat, ar (ad 29) cA 120 gPleast_50]) hP hD [0, 1, 2] [] rfl rfl (by decide) (by decide) hk1 hFc hP1 hD1
            clear hPc hDc hFc hP1 hK1 hD1 hk1 hz1 hvm ht
            generalize H1 = H at hP hS ⊢
            have hP : va_P (dC, dI) vwCl [oPos ad xPos_size xPos_shortest xPos_longest xPos_slip, ar (ad 28) cA 20 gPat, ar (ad 29) cA 120 gPleast_50] H := hP
            have hD : va_D A [oPos ad xPos_size xPos_shortest xPos_longest xPos_slip, ar (ad 28) cA 20 gPat, ar (ad 29) cA 120 gPleast_50] := hD
            have hw := hw.symm
            subst hw
            refine lv_istore (lv' := [(4, .int u_2), (0, .ref (ad 26)), (1, .int v1_35), (2, .int v2_50), (3, .int v3_50)]) hx hb dX3_work_68 hl (by decide) rfl (fun ls hl => ?_)
            refine lv_aload_n hx hb dX3_work_70 rfl (lv_at hl 1 rfl) ?_
            refine va_get (D := (dC, dI)) (ci := 3) (v := .ref (ad 29)) (C := RX3) (T := TX3) (N := 7) hx hb hts hinX3 hown hK hP 0 rfl rfl 2 (by decide) hl_18 (fun _ h9 => h9) rfl dX3_work_71 ?_
            refine lv_iload_n hx hb dX3_work_74 rfl (lv_at hl 3 rfl) ?_
            refine lv_bipush (v := 20) hx hb dX3_work_75 (by decide) ?_
            refine lv_imul hx hb dX3_work_77 ?_
            refine lv_iload_n hx hb dX3_work_78 rfl (lv_at hl 4 rfl) ?_
            refine lv_iadd hx hb dX3_work_79 ?_
            refine lv_aload_n hx hb dX3_work_80 rfl (lv_at hl 1 rfl) ?_
            refine lv_iload_n hx hb dX3_work_81 rfl (lv_at hl 4 rfl) ?_
            refine lv_iload hx hb dX3_work_82 (lv_at hl 0 rfl) ?_
            refine lv_iload_n hx hb dX3_work_84 rfl (lv_at hl 3 rfl) ?_
            have hPc := hP.sub (ws' := [oPos ad xPos_size xPos_shortest xPos_longest xPos_slip, ar (ad 28) cA 20 gPat, ar (ad 29) cA 120 gPleast_50]) [0, 1, 2] rfl
            have hDc := hD.sub (ws' := [oPos ad xPos_size xPos_shortest xPos_longest xPos_slip, ar (ad 28) cA 20 gPat, ar (ad 29) cA 120 gPleast_50]) [0, 1, 2] (by decide) rfl
            have hFc := va_free (wc := [oPos ad xPos_size xPos_shortest xPos_longest xPos_slip, ar (ad 28) cA 20 gPat, ar (ad 29) cA 120 gPleast_50]) hD hS hA [0, 1, 2] rfl
            obtain ⟨u_3, hc_3, hm⟩ := bd_ok hm
            refine va_calli (va_runV (As := [.int v3_50, .int u_2, .int v2_50]) (rest := [.int ((v2_50 * 20) + v3_50), .ref (ad 29)]) ⟨hx, hb, hml, hown, hts⟩ (kP_throughNext l dC dI cA ad H.size v3_50 u_2 v2_50 xPos_size xPos_shortest xPos_longest xPos_slip gPat gPleast_50 u_3 hc_3) (cwV 3 hts gX3_work_X3_throughNext rfl rfl rfl (by decide +kernel) ⟨Nat.le_of_ble_eq_true rfl, Nat.le_of_ble_eq_true rfl⟩) ⟨fun a U g mk q => by obtain ⟨q0, q1, qP, qK, qD⟩ := q; exact ⟨q0, q1, qP, va_K.moved (u := U) (U := U.calling g mk a) (Vm.Alike.refl U.vm) qK, qD⟩, va_recv hK hPc (ci := 3) (q0 := 0) rfl rfl, fun U hU hW => ⟨rfl, by rw [hU], by rw [hU]; exact hPc, va_K.moved hW.alike hK, hDc.weaken (fun _ _ _ _ => trivial)⟩⟩ rfl rfl hl.1 rfl (lv_room (Nat.le_of_ble_eq_true rfl)) dX3_work_85 ⟨Nat.le_of_ble_eq_true rfl, Nat.le_of_ble_eq_true rfl⟩) hS (fun q _ h => hFc q h) hFc (fun r_3 _ t H1 locs ht hvm hw hB hz1 hk1 hS => ?_)
            obtain ⟨hP1, hK1, hD1⟩ := hB
            rw [ht] at hP1
            obtain ⟨hP, hD⟩ := va_join (wr := []) (w1 := [oPos ad xPos_size xPos_shortest xPos_longest xPos_slip, ar (ad 28) cA 20 gPat, ar (ad 29) cA 120 gPleast_50]) hP hD [0, 1, 2] [] rfl rfl (by decide) (by decide) hk1 hFc hP1 hD1
            clear hPc hDc hFc hP1 hK1 hD1 hk1 hz1 hvm ht
            generalize H1 = H at hP hS ⊢
            have hP : va_P (dC, dI) vwCl [oPos ad xPos_size xPos_shortest xPos_longest xPos_slip, ar (ad 28) cA 20 gPat, ar (ad 29) cA 120 gPleast_50] H := hP
            have hD : va_D A [oPos ad xPos_size xPos_shortest xPos_longest xPos_slip, ar (ad 28) cA 20 gPat, ar (ad 29) cA 120 gPleast_50] := hD
            have hw := hw.symm
            subst hw
            obtain ⟨i_4, hm⟩ := ck_ok hm
            refine va_iast hx hb hK hP hD hS 2 0 rfl rfl i_4 dX3_work_88 (fun H locs hP hD hS => ?_)
            have hP : va_P (dC, dI) vwCl [oPos ad xPos_size xPos_shortest xPos_longest xPos_slip, ar (ad 28) cA 20 gPat, ar (ad 29) cA 120 (upd gPleast_50 ((v2_50 * 20) + v3_50).toNatClampNeg u_3)] H := hP
            have hD : va_D A [oPos ad xPos_size xPos_shortest xPos_longest xPos_slip, ar (ad 28) cA 20 gPat, ar (ad 29) cA 120 (upd gPleast_50 ((v2_50 * 20) + v3_50).toNatClampNeg u_3)] := hD
            refine lv_iinc (v := (v3_50 + 1)) (lv' := [(3, .int (v3_50 + 1)), (4, .int u_2), (0, .ref (ad 26)), (1, .int v1_35), (2, .int v2_50)]) hx hb dX3_work_89 hl (k := 4) rfl rfl (by decide) rfl (fun ls hl => ?_)
            refine lv_goto (tgt := 50) hx hb dX3_work_92 (by decide) ?_
            exact ih_50 _ _ hm _ _ hP hD hS _ (lv_sub hl [2, 3, 4, 0] rfl)
      intro v2_35 gPleast_35 hm H locs hP hD hS ls hl
      have hm : fP_work_35_b  (fP_work_35  v1_35 xPos_size xPos_shortest xPos_longest xPos_slip gPat n_35) v1_35 xPos_size xPos_shortest xPos_longest xPos_slip gPat v2_35 gPleast_35 = some u := hm
      unfold fP_work_35_b at hm
      refine lv_iload_n hx hb dX3_work_35 rfl (lv_at hl 2 rfl) ?_
      refine lv_iload_n hx hb dX3_work_36 rfl (lv_at hl 1 rfl) ?_
      refine lv_icmp_gt (tgt := 101) hx hb dX3_work_37 (by decide) (fun c_5 => ?_) (fun c_5 => ?_)
      · have hm := it_pos c_5 hm
        obtain rfl := Option.some.inj hm
        subst hQ
        exact W.vret hx hb hr (fun t ht hW => ⟨⟨(), rfl, trivial, by rw [ht]; exact hP, va_K.moved hW.alike hK, hAe ▸ hD⟩, hS.F ht⟩) hS.2.2 dX3_work_101
      · have hm := it_neg c_5 hm
        refine lv_aload_n hx hb dX3_work_40 rfl (lv_at hl 0 rfl) ?_
        refine lv_iload_n hx hb dX3_work_41 rfl (lv_at hl 2 rfl) ?_
        have hPc := hP.sub (ws' := [oPos ad xPos_size xPos_shortest xPos_longest xPos_slip]) [0] rfl
        have hDc := hD.sub (ws' := [oPos ad xPos_size xPos_shortest xPos_longest xPos_slip]) [0] (by decide) rfl
        have hFc := va_free (wc := [oPos ad xPos_size xPos_shortest xPos_longest xPos_slip]) hD hS hA [0] rfl
        obtain ⟨u_6, hc_6, hm⟩ := bd_ok hm
        refine va_calli (va_runV (As := [.int v2_35]) (rest := []) ⟨hx, hb, hml, hown, hts⟩ (kP_hasRoomFor l dC dI cA ad H.size v2_35 xPos_size xPos_shortest xPos_longest xPos_slip u_6 hc_6) (cwV 1 hts gX3_work_X3_hasRoomFor rfl rfl rfl (by decide +kernel) ⟨Nat.le_of_ble_eq_true rfl, Nat.le_of_ble_eq_true rfl⟩) ⟨fun a U g mk q => by obtain ⟨q0, q1, qP, qK, qD⟩ := q; exact ⟨q0, q1, qP, va_K.moved (u := U) (U := U.calling g mk a) (Vm.Alike.refl U.vm) qK, qD⟩, va_recv hK hPc (ci := 3) (q0 := 0) rfl rfl, fun U hU hW => ⟨rfl, by rw [hU], by rw [hU]; exact hPc, va_K.moved hW.alike hK, hDc.weaken (fun _ _ _ _ => trivial)⟩⟩ rfl rfl hl.1 rfl (lv_room (Nat.le_of_ble_eq_true rfl)) dX3_work_42 ⟨Nat.le_of_ble_eq_true rfl, Nat.le_of_ble_eq_true rfl⟩) hS (fun q _ h => hFc q h) hFc (fun r_6 _ t H1 locs ht hvm hw hB hz1 hk1 hS => ?_)
        obtain ⟨hP1, hK1, hD1⟩ := hB
        rw [ht] at hP1
        obtain ⟨hP, hD⟩ := va_join (wr := [ar (ad 28) cA 20 gPat, ar (ad 29) cA 120 gPleast_35]) (w1 := [oPos ad xPos_size xPos_shortest xPos_longest xPos_slip]) hP hD [0] [1, 2] rfl rfl (by decide) (by decide) hk1 hFc hP1 hD1
        clear hPc hDc hFc hP1 hK1 hD1 hk1 hz1 hvm ht
        generalize H1 = H at hP hS ⊢
        have hP : va_P (dC, dI) vwCl [oPos ad xPos_size xPos_shortest xPos_longest xPos_slip, ar (ad 28) cA 20 gPat, ar (ad 29) cA 120 gPleast_35] H := hP.sub [2, 0, 1] rfl
        have hD : va_D A [oPos ad xPos_size xPos_shortest xPos_longest xPos_slip, ar (ad 28) cA 20 gPat, ar (ad 29) cA 120 gPleast_35] := hD.sub [2, 0, 1] (by decide) rfl
        have hw := hw.symm
        subst hw
        refine lv_if_eq (tgt := 101) hx hb dX3_work_45 (by decide) (fun c_7 => ?_) (fun c_7 => ?_)
        · have hm := it_pos c_7 hm
          obtain rfl := Option.some.inj hm
          subst hQ
          exact W.vret hx hb hr (fun t ht hW => ⟨⟨(), rfl, trivial, by rw [ht]; exact hP, va_K.moved hW.alike hK, hAe ▸ hD⟩, hS.F ht⟩) hS.2.2 dX3_work_101
        · have hm := it_neg c_7 hm
          refine lv_iconst (v := 0) hx hb dX3_work_48 (by decide) ?_
          refine lv_istore_n (lv' := [(3, .int 0), (0, .ref (ad 26)), (1, .int v1_35), (2, .int v2_35)]) hx hb dX3_work_49 rfl hl (by decide) rfl (fun ls hl => ?_)
          exact h_50 _ _ _ _ hm _ _ hP hD hS _ (lv_sub hl [1, 2, 3, 0] rfl)
  have h_2 : ∀ (v1_2 : Int32), ∀ (n_2 : Nat), ∀ (v2_2 : Int32) (gPleast_2 : Nat → Int32), fP_work_2 v1_2 xPos_size xPos_shortest xPos_longest xPos_slip gPat n_2 v2_2 gPleast_2 = some u → ∀ (H : Heap) (locs : List Loc), va_P (dC, dI) vwCl [oPos ad xPos_size xPos_shortest xPos_longest xPos_slip, ar (ad 28) cA 20 gPat, ar (ad 29) cA 120 gPleast_2] H → va_D A [oPos ad xPos_size xPos_shortest xPos_longest xPos_slip, ar (ad 28) cA 20 gPat, ar (ad 29) cA 120 gPleast_2] → va_S A s.heap H locs → ∀ ls : Array Slot, lv_has ls 5 [(0, .ref (ad 26)), (1, .int v1_2), (2, .int v2_2)] → W p l e (headSpec wsX3_work ({ frames := 5, cells := 0, slots := 0, locals := 114 })).room s m ([.ref (ad 26), .int a1] : List Value).toArray below meth c H locs 0 0 QQ (F0 m 2 ls []) := by
    intro v1_2
    intro n_2
    induction n_2 with
    | zero => intro v2_2 gPleast_2 hm; have hm : (none : Option ((Nat → Int32))) = some u := hm; cases hm
    | succ n_2 ih_2 =>
      intro v2_2 gPleast_2 hm H locs hP hD hS ls hl
      have hm : fP_work_2_b  (fP_work_2  v1_2 xPos_size xPos_shortest xPos_longest xPos_slip gPat n_2) v1_2 xPos_size xPos_shortest xPos_longest xPos_slip gPat v2_2 gPleast_2 = some u := hm
      unfold fP_work_2_b at hm
      refine lv_iload_n hx hb dX3_work_2 rfl (lv_at hl 2 rfl) ?_
      refine lv_aload_n hx hb dX3_work_3 rfl (lv_at hl 0 rfl) ?_
      refine va_get (D := (dC, dI)) (ci := 3) (v := .int xPos_size) (C := RX3) (T := TX3) (N := 7) hx hb hts hinX3 hown hK hP 0 rfl rfl 3 (by decide) hl_21 (fun _ h9 => h9) rfl dX3_work_4 ?_
      refine lv_icmp_ge (tgt := 33) hx hb dX3_work_7 (by decide) (fun c_8 => ?_) (fun c_8 => ?_)
      · have hm := it_pos c_8 hm
        refine lv_iconst (v := 1) hx hb dX3_work_33 (by decide) ?_
        refine lv_istore_n (lv' := [(2, .int 1), (0, .ref (ad 26)), (1, .int v1_2)]) hx hb dX3_work_34 rfl hl (by decide) rfl (fun ls hl => ?_)
        exact h_35 _ _ _ _ hm _ _ hP hD hS _ (lv_sub hl [1, 2, 0] rfl)
      · have hm := it_neg c_8 hm
        refine lv_aload_n hx hb dX3_work_10 rfl (lv_at hl 0 rfl) ?_
        refine va_get (D := (dC, dI)) (ci := 3) (v := .ref (ad 29)) (C := RX3) (T := TX3) (N := 7) hx hb hts hinX3 hown hK hP 0 rfl rfl 2 (by decide) hl_18 (fun _ h9 => h9) rfl dX3_work_11 ?_
        refine lv_iload_n hx hb dX3_work_14 rfl (lv_at hl 2 rfl) ?_
        refine lv_aload_n hx hb dX3_work_15 rfl (lv_at hl 0 rfl) ?_
        refine lv_iload_n hx hb dX3_work_16 rfl (lv_at hl 2 rfl) ?_
        refine lv_aload_n hx hb dX3_work_17 rfl (lv_at hl 0 rfl) ?_
        refine va_get (D := (dC, dI)) (ci := 3) (v := .int xPos_size) (C := RX3) (T := TX3) (N := 7) hx hb hts hinX3 hown hK hP 0 rfl rfl 3 (by decide) hl_21 (fun _ h9 => h9) rfl dX3_work_18 ?_
        refine lv_iconst (v := 1) hx hb dX3_work_21 (by decide) ?_
        refine lv_isub hx hb dX3_work_22 ?_
        have hPc := hP.sub (ws' := [oPos ad xPos_size xPos_shortest xPos_longest xPos_slip, ar (ad 28) cA 20 gPat]) [0, 1] rfl
        have hDc := hD.sub (ws' := [oPos ad xPos_size xPos_shortest xPos_longest xPos_slip, ar (ad 28) cA 20 gPat]) [0, 1] (by decide) rfl
        have hFc := va_free (wc := [oPos ad xPos_size xPos_shortest xPos_longest xPos_slip, ar (ad 28) cA 20 gPat]) hD hS hA [0, 1] rfl
        obtain ⟨u_9, hc_9, hm⟩ := bd_ok hm
        refine va_calli (va_runV (As := [.int v2_2, .int (xPos_size - 1)]) (rest := [.int v2_2, .ref (ad 29)]) ⟨hx, hb, hml, hown, hts⟩ (kP_gap l dC dI cA ad H.size v2_2 (xPos_size - 1) xPos_size xPos_shortest xPos_longest xPos_slip gPat u_9 hc_9) (cwV 2 hts gX3_work_X3_gap rfl rfl rfl (by decide +kernel) ⟨Nat.le_of_ble_eq_true rfl, Nat.le_of_ble_eq_true rfl⟩) ⟨fun a U g mk q => by obtain ⟨q0, q1, qP, qK, qD⟩ := q; exact ⟨q0, q1, qP, va_K.moved (u := U) (U := U.calling g mk a) (Vm.Alike.refl U.vm) qK, qD⟩, va_recv hK hPc (ci := 3) (q0 := 0) rfl rfl, fun U hU hW => ⟨rfl, by rw [hU], by rw [hU]; exact hPc, va_K.moved hW.alike hK, hDc.weaken (fun _ _ _ _ => trivial)⟩⟩ rfl rfl hl.1 rfl (lv_room (Nat.le_of_ble_eq_true rfl)) dX3_work_23 ⟨Nat.le_of_ble_eq_true rfl, Nat.le_of_ble_eq_true rfl⟩) hS (fun q _ h => hFc q h) hFc (fun r_9 _ t H1 locs ht hvm hw hB hz1 hk1 hS => ?_)
        obtain ⟨hP1, hK1, hD1⟩ := hB
        rw [ht] at hP1
        obtain ⟨hP, hD⟩ := va_join (wr := [ar (ad 29) cA 120 gPleast_2]) (w1 := [oPos ad xPos_size xPos_shortest xPos_longest xPos_slip, ar (ad 28) cA 20 gPat]) hP hD [0, 1] [2] rfl rfl (by decide) (by decide) hk1 hFc hP1 hD1
        clear hPc hDc hFc hP1 hK1 hD1 hk1 hz1 hvm ht
        generalize H1 = H at hP hS ⊢
        have hP : va_P (dC, dI) vwCl [oPos ad xPos_size xPos_shortest xPos_longest xPos_slip, ar (ad 28) cA 20 gPat, ar (ad 29) cA 120 gPleast_2] H := hP.sub [1, 2, 0] rfl
        have hD : va_D A [oPos ad xPos_size xPos_shortest xPos_longest xPos_slip, ar (ad 28) cA 20 gPat, ar (ad 29) cA 120 gPleast_2] := hD.sub [1, 2, 0] (by decide) rfl
        have hw := hw.symm
        subst hw
        obtain ⟨i_10, hm⟩ := ck_ok hm
        refine va_iast hx hb hK hP hD hS 2 0 rfl rfl i_10 dX3_work_26 (fun H locs hP hD hS => ?_)
        have hP : va_P (dC, dI) vwCl [oPos ad xPos_size xPos_shortest xPos_longest xPos_slip, ar (ad 28) cA 20 gPat, ar (ad 29) cA 120 (upd gPleast_2 v2_2.toNatClampNeg u_9)] H := hP
        have hD : va_D A [oPos ad xPos_size xPos_shortest xPos_longest xPos_slip, ar (ad 28) cA 20 gPat, ar (ad 29) cA 120 (upd gPleast_2 v2_2.toNatClampNeg u_9)] := hD
        refine lv_iinc (v := (v2_2 + 1)) (lv' := [(2, .int (v2_2 + 1)), (0, .ref (ad 26)), (1, .int v1_2)]) hx hb dX3_work_27 hl (k := 2) rfl rfl (by decide) rfl (fun ls hl => ?_)
        refine lv_goto (tgt := 2) hx hb dX3_work_30 (by decide) ?_
        exact ih_2 _ _ hm _ _ hP hD hS _ (lv_sub hl [1, 2, 0] rfl)
  unfold fP_work at hm
  refine lv_iconst (v := 0) hx hb dX3_work_0 (by decide) ?_
  refine lv_istore_n (lv' := [(2, .int 0), (0, .ref (ad 26)), (1, .int a1)]) hx hb dX3_work_1 rfl hl (by decide) rfl (fun ls hl => ?_)
  exact h_2 _ _ _ _ hm _ _ hP hD hS _ (lv_sub hl [1, 2, 0] rfl)

set_option maxHeartbeats 4000000 in
set_option maxRecDepth 100000 in
theorem kP_chosen (l : Launch) (dC : Nat → ClassId) (dI : Nat → Nat → Nat) (cA : ClassId) (ad : Nat → Nat) (sz : Nat) (a1 : Int32) (a2 : Int32) (xPos_size : Int32) (xPos_shortest : Int32) (xPos_longest : Int32) (xPos_slip : Int32) (gPwho : Nat → Int32) (gPat : Nat → Int32) (gPleast : Nat → Int32) (u : Int32) (hm : fP_chosen a1 a2 xPos_size xPos_shortest xPos_longest xPos_slip gPwho gPat gPleast = some u) : Met l yX3_chosen wsX3_chosen ({ frames := 5, cells := 0, slots := 0, locals := 114 }) (va_Pc [.ref (ad 26), .int a1, .int a2] (fun U => U.heap.size = sz ∧ va_P (dC, dI) vwCl [oPos ad xPos_size xPos_shortest xPos_longest xPos_slip, ar (ad 27) cA 20 gPwho, ar (ad 28) cA 20 gPat, ar (ad 29) cA 120 gPleast] U.heap ∧ va_K (dC, dI) vwCl [(cA, .int)] U ∧ va_D (fun _ => True) [oPos ad xPos_size xPos_shortest xPos_longest xPos_slip, ar (ad 27) cA 20 gPwho, ar (ad 28) cA 20 gPat, ar (ad 29) cA 120 gPleast])) (va_Qi (fun (r : Int32) (_ : Unit) => r = u) (fun (_ : Unit) t => va_P (dC, dI) vwCl [oPos ad xPos_size xPos_shortest xPos_longest xPos_slip, ar (ad 27) cA 20 gPwho, ar (ad 28) cA 20 gPat, ar (ad 29) cA 120 gPleast] t.heap ∧ va_K (dC, dI) vwCl [(cA, .int)] t ∧ va_D (va_A [oPos ad xPos_size xPos_shortest xPos_longest xPos_slip, ar (ad 27) cA 20 gPwho, ar (ad 28) cA 20 gPat, ar (ad 29) cA 120 gPleast] sz) [oPos ad xPos_size xPos_shortest xPos_longest xPos_slip, ar (ad 27) cA 20 gPwho, ar (ad 28) cA 20 gPat, ar (ad 29) cA 120 gPleast]) (va_A [oPos ad xPos_size xPos_shortest xPos_longest xPos_slip, ar (ad 27) cA 20 gPwho, ar (ad 28) cA 20 gPat, ar (ad 29) cA 120 gPleast] sz)) 0 0 (va_A [oPos ad xPos_size xPos_shortest xPos_longest xPos_slip, ar (ad 27) cA 20 gPwho, ar (ad 28) cA 20 gPat, ar (ad 29) cA 120 gPleast] sz) := by
  refine Met.ofW (cc := cX3_chosen) (maxL := 5) (ret := (some .int)) (by decide) rfl ?_
  intro p e s m args below meth c s₁ B hml hv
  obtain ⟨rfl, hsz, hP, hK, hD0⟩ := hv
  have hx := B.exec
  have hb := B.bytes
  have hr := B.returns
  have hts := atoms_spec (ws := wsX3_chosen) B.pre
  have hown : s.vm.findClass RX3 = some m.cls := findClass_of_methodNamed B.named
  have hlocks := B.notSynchronized
  subst hsz
  have hD := hD0.self (sz := s.heap.size)
  generalize hAe : va_A [oPos ad xPos_size xPos_shortest xPos_longest xPos_slip, ar (ad 27) cA 20 gPwho, ar (ad 28) cA 20 gPat, ar (ad 29) cA 120 gPleast] s.heap.size = A at hD ⊢
  have hA : ∀ q : Nat, s.heap.size ≤ q → A q := fun q h => by rw [← hAe]; exact Or.inr h
  have hS : va_S A s.heap s.heap [] := va_S.rf
  have hl := lv_entry ([.ref (ad 26), .int a1, .int a2]) (n := 5) (Nat.le_of_ble_eq_true rfl)
  rw [lg_entry_eq]
  generalize (lg_sl ([.ref (ad 26), .int a1, .int a2]) ++ List.replicate (5 - (lg_sl ([.ref (ad 26), .int a1, .int a2])).length) Slot.unset).toArray = ls at hl ⊢
  have hl : lv_has ls 5 [(0, .ref (ad 26)), (1, .int a1), (2, .int a2)] := hl
  refine wk_Q (fun QQ hQ => ?_)
  have hinX3 : ∀ w ∈ wsX30, w ∈ wsX3_chosen := fun w h => List.mem_cons_of_mem _ (inlX3 w h)
  have hl_9 := hts (.fieldLink RX3 9 "HandCensus$Posting" "who" "[I") (List.mem_cons_of_mem _ (in_r5 _ (List.mem_of_getElem? (i := 4) rfl)))
  have b_33 : ∀ (v3_33 : Int32), fP_chosen_33 v3_33 gPwho = some u → ∀ (H : Heap) (locs : List Loc), va_P (dC, dI) vwCl [oPos ad xPos_size xPos_shortest xPos_longest xPos_slip, ar (ad 27) cA 20 gPwho, ar (ad 28) cA 20 gPat, ar (ad 29) cA 120 gPleast] H → va_D A [oPos ad xPos_size xPos_shortest xPos_longest xPos_slip, ar (ad 27) cA 20 gPwho, ar (ad 28) cA 20 gPat, ar (ad 29) cA 120 gPleast] → va_S A s.heap H locs → ∀ ls : Array Slot, lv_has ls 5 [(0, .ref (ad 26)), (3, .int v3_33)] → W p l e (headSpec wsX3_chosen ({ frames := 5, cells := 0, slots := 0, locals := 114 })).room s m ([.ref (ad 26), .int a1, .int a2] : List Value).toArray below meth c H locs 0 0 QQ (F0 m 33 ls []) := by
    intro v3_33 hm H locs hP hD hS ls hl
    unfold fP_chosen_33 at hm
    refine lv_aload_n hx hb dX3_chosen_33 rfl (lv_at hl 0 rfl) ?_
    refine va_get (D := (dC, dI)) (ci := 3) (v := .ref (ad 27)) (C := RX3) (T := TX3) (N := 7) hx hb hts hinX3 hown hK hP 0 rfl rfl 0 (by decide) hl_9 (fun _ h9 => h9) rfl dX3_chosen_34 ?_
    refine lv_iload_n hx hb dX3_chosen_37 rfl (lv_at hl 1 rfl) ?_
    obtain ⟨i_1, hm⟩ := ck_ok hm
    refine va_iald hx hb hK hP 1 0 rfl rfl i_1 dX3_chosen_38 ?_
    obtain rfl := Option.some.inj hm
    subst hQ
    exact W.iret (v := (gPwho v3_33.toNatClampNeg)) hx hb hr (fun t ht hW => ⟨⟨_, (), rfl, rfl, by rw [ht]; exact hP, va_K.moved hW.alike hK, hAe ▸ hD⟩, hS.F ht⟩) hS.2.2 dX3_chosen_39
  have h_5 : ∀ (v1_5 : Int32) (v2_5 : Int32), ∀ (n_5 : Nat), ∀ (v3_5 : Int32) (v4_5 : Int32), fP_chosen_5 v1_5 v2_5 xPos_size xPos_shortest xPos_longest xPos_slip gPwho gPat gPleast n_5 v3_5 v4_5 = some u → ∀ (H : Heap) (locs : List Loc), va_P (dC, dI) vwCl [oPos ad xPos_size xPos_shortest xPos_longest xPos_slip, ar (ad 27) cA 20 gPwho, ar (ad 28) cA 20 gPat, ar (ad 29) cA 120 gPleast] H → va_D A [oPos ad xPos_size xPos_shortest xPos_longest xPos_slip, ar (ad 27) cA 20 gPwho, ar (ad 28) cA 20 gPat, ar (ad 29) cA 120 gPleast] → va_S A s.heap H locs → ∀ ls : Array Slot, lv_has ls 5 [(0, .ref (ad 26)), (1, .int v1_5), (2, .int v2_5), (3, .int v3_5), (4, .int v4_5)] → W p l e (headSpec wsX3_chosen ({ frames := 5, cells := 0, slots := 0, locals := 114 })).room s m ([.ref (ad 26), .int a1, .int a2] : List Value).toArray below meth c H locs 0 0 QQ (F0 m 5 ls []) := by
    intro v1_5 v2_5
    intro n_5
    induction n_5 with
    | zero => intro v3_5 v4_5 hm; have hm : (none : Option (Int32)) = some u := hm; cases hm
    | succ n_5 ih_5 =>
      intro v3_5 v4_5 hm H locs hP hD hS ls hl
      have hm : fP_chosen_5_b  (fP_chosen_5  v1_5 v2_5 xPos_size xPos_shortest xPos_longest xPos_slip gPwho gPat gPleast n_5) v1_5 v2_5 xPos_size xPos_shortest xPos_longest xPos_slip gPwho gPat gPleast v3_5 v4_5 = some u := hm
      unfold fP_chosen_5_b at hm
      refine lv_iload hx hb dX3_chosen_5 (lv_at hl 4 rfl) ?_
      refine lv_iload_n hx hb dX3_chosen_7 rfl (lv_at hl 2 rfl) ?_
      refine lv_icmp_gt (tgt := 33) hx hb dX3_chosen_8 (by decide) (fun c_2 => ?_) (fun c_2 => ?_)
      · have hm := it_pos c_2 hm
        exact b_33 _ hm _ _ hP hD hS _ (lv_sub hl [0, 3] rfl)
      · have hm := it_neg c_2 hm
        refine lv_iload hx hb dX3_chosen_11 (lv_at hl 4 rfl) ?_
        refine lv_iload_n hx hb dX3_chosen_13 rfl (lv_at hl 1 rfl) ?_
        refine lv_icmp_ge (tgt := 33) hx hb dX3_chosen_14 (by decide) (fun c_3 => ?_) (fun c_3 => ?_)
        · have hm := it_pos c_3 hm
          exact b_33 _ hm _ _ hP hD hS _ (lv_sub hl [0, 3] rfl)
        · have hm := it_neg c_3 hm
          refine lv_aload_n hx hb dX3_chosen_17 rfl (lv_at hl 0 rfl) ?_
          refine lv_iload_n hx hb dX3_chosen_18 rfl (lv_at hl 3 rfl) ?_
          refine lv_iload_n hx hb dX3_chosen_19 rfl (lv_at hl 1 rfl) ?_
          refine lv_iload hx hb dX3_chosen_20 (lv_at hl 4 rfl) ?_
          refine lv_isub hx hb dX3_chosen_22 ?_
          have hPc := hP.sub (ws' := [oPos ad xPos_size xPos_shortest xPos_longest xPos_slip, ar (ad 28) cA 20 gPat, ar (ad 29) cA 120 gPleast]) [0, 2, 3] rfl
          have hDc := hD.sub (ws' := [oPos ad xPos_size xPos_shortest xPos_longest xPos_slip, ar (ad 28) cA 20 gPat, ar (ad 29) cA 120 gPleast]) [0, 2, 3] (by decide) rfl
          have hFc := va_free (wc := [oPos ad xPos_size xPos_shortest xPos_longest xPos_slip, ar (ad 28) cA 20 gPat, ar (ad 29) cA 120 gPleast]) hD hS hA [0, 2, 3] rfl
          obtain ⟨u_4, hc_4, hm⟩ := bd_ok hm
          refine va_calli (va_runV (As := [.int v3_5, .int (v1_5 - v4_5)]) (rest := []) ⟨hx, hb, hml, hown, hts⟩ (kP_nextPost l dC dI cA ad H.size v3_5 (v1_5 - v4_5) xPos_size xPos_shortest xPos_longest xPos_slip gPat gPleast u_4 hc_4) (cwV 2 hts gX3_chosen_X3_nextPost rfl rfl rfl (by decide +kernel) ⟨Nat.le_of_ble_eq_true rfl, Nat.le_of_ble_eq_true rfl⟩) ⟨fun a U g mk q => by obtain ⟨q0, q1, qP, qK, qD⟩ := q; exact ⟨q0, q1, qP, va_K.moved (u := U) (U := U.calling g mk a) (Vm.Alike.refl U.vm) qK, qD⟩, va_recv hK hPc (ci := 3) (q0 := 0) rfl rfl, fun U hU hW => ⟨rfl, by rw [hU], by rw [hU]; exact hPc, va_K.moved hW.alike hK, hDc.weaken (fun _ _ _ _ => trivial)⟩⟩ rfl rfl hl.1 rfl (lv_room (Nat.le_of_ble_eq_true rfl)) dX3_chosen_23 ⟨Nat.le_of_ble_eq_true rfl, Nat.le_of_ble_eq_true rfl⟩) hS (fun q _ h => hFc q h) hFc (fun r_4 _ t H1 locs ht hvm hw hB hz1 hk1 hS => ?_)
          obtain ⟨hP1, hK1, hD1⟩ := hB
          rw [ht] at hP1
          obtain ⟨hP, hD⟩ := va_join (wr := [ar (ad 27) cA 20 gPwho]) (w1 := [oPos ad xPos_size xPos_shortest xPos_longest xPos_slip, ar (ad 28) cA 20 gPat, ar (ad 29) cA 120 gPleast]) hP hD [0, 2, 3] [1] rfl rfl (by decide) (by decide) hk1 hFc hP1 hD1
          clear hPc hDc hFc hP1 hK1 hD1 hk1 hz1 hvm ht
          generalize H1 = H at hP hS ⊢
          have hP : va_P (dC, dI) vwCl [oPos ad xPos_size xPos_shortest xPos_longest xPos_slip, ar (ad 27) cA 20 gPwho, ar (ad 28) cA 20 gPat, ar (ad 29) cA 120 gPleast] H := hP.sub [1, 0, 2, 3] rfl
          have hD : va_D A [oPos ad xPos_size xPos_shortest xPos_longest xPos_slip, ar (ad 27) cA 20 gPwho, ar (ad 28) cA 20 gPat, ar (ad 29) cA 120 gPleast] := hD.sub [1, 0, 2, 3] (by decide) rfl
          have hw := hw.symm
          subst hw
          refine lv_istore_n (lv' := [(3, .int u_4), (0, .ref (ad 26)), (1, .int v1_5), (2, .int v2_5), (4, .int v4_5)]) hx hb dX3_chosen_26 rfl hl (by decide) rfl (fun ls hl => ?_)
          refine lv_iinc (v := (v4_5 + 1)) (lv' := [(4, .int (v4_5 + 1)), (3, .int u_4), (0, .ref (ad 26)), (1, .int v1_5), (2, .int v2_5)]) hx hb dX3_chosen_27 hl (k := 4) rfl rfl (by decide) rfl (fun ls hl => ?_)
          refine lv_goto (tgt := 5) hx hb dX3_chosen_30 (by decide) ?_
          exact ih_5 _ _ hm _ _ hP hD hS _ (lv_sub hl [2, 3, 4, 1, 0] rfl)
  unfold fP_chosen at hm
  refine lv_iconst (v := 0) hx hb dX3_chosen_0 (by decide) ?_
  refine lv_istore_n (lv' := [(3, .int 0), (0, .ref (ad 26)), (1, .int a1), (2, .int a2)]) hx hb dX3_chosen_1 rfl hl (by decide) rfl (fun ls hl => ?_)
  refine lv_iconst (v := 0) hx hb dX3_chosen_2 (by decide) ?_
  refine lv_istore (lv' := [(4, .int 0), (3, .int 0), (0, .ref (ad 26)), (1, .int a1), (2, .int a2)]) hx hb dX3_chosen_3 hl (by decide) rfl (fun ls hl => ?_)
  exact h_5 _ _ _ _ _ hm _ _ hP hD hS _ (lv_sub hl [2, 3, 4, 1, 0] rfl)

set_option maxHeartbeats 4000000 in
set_option maxRecDepth 100000 in
theorem kP_leastDoubt (l : Launch) (dC : Nat → ClassId) (dI : Nat → Nat → Nat) (cA : ClassId) (ad : Nat → Nat) (sz : Nat) (a1 : Int32) (xPos_size : Int32) (xPos_shortest : Int32) (xPos_longest : Int32) (xPos_slip : Int32) (gPleast : Nat → Int32) (u : Int32) (hm : fP_leastDoubt a1 gPleast = some u) : Met l yX3_leastDoubt wsX3_leastDoubt ({ frames := 0, cells := 0, slots := 0, locals := 0 }) (va_Pc [.ref (ad 26), .int a1] (fun U => U.heap.size = sz ∧ va_P (dC, dI) vwCl [oPos ad xPos_size xPos_shortest xPos_longest xPos_slip, ar (ad 29) cA 120 gPleast] U.heap ∧ va_K (dC, dI) vwCl [(cA, .int)] U ∧ va_D (fun _ => True) [oPos ad xPos_size xPos_shortest xPos_longest xPos_slip, ar (ad 29) cA 120 gPleast])) (va_Qi (fun (r : Int32) (_ : Unit) => r = u) (fun (_ : Unit) t => va_P (dC, dI) vwCl [oPos ad xPos_size xPos_shortest xPos_longest xPos_slip, ar (ad 29) cA 120 gPleast] t.heap ∧ va_K (dC, dI) vwCl [(cA, .int)] t ∧ va_D (va_A [oPos ad xPos_size xPos_shortest xPos_longest xPos_slip, ar (ad 29) cA 120 gPleast] sz) [oPos ad xPos_size xPos_shortest xPos_longest xPos_slip, ar (ad 29) cA 120 gPleast]) (va_A [oPos ad xPos_size xPos_shortest xPos_longest xPos_slip, ar (ad 29) cA 120 gPleast] sz)) 0 0 (va_A [oPos ad xPos_size xPos_shortest xPos_longest xPos_slip, ar (ad 29) cA 120 gPleast] sz) := by
  refine Met.ofW (cc := cX3_leastDoubt) (maxL := 2) (ret := (some .int)) (by decide) rfl ?_
  intro p e s m args below meth c s₁ B hml hv
  obtain ⟨rfl, hsz, hP, hK, hD0⟩ := hv
  have hx := B.exec
  have hb := B.bytes
  have hr := B.returns
  have hts := atoms_spec (ws := wsX3_leastDoubt) B.pre
  have hown : s.vm.findClass RX3 = some m.cls := findClass_of_methodNamed B.named
  have hlocks := B.notSynchronized
  subst hsz
  have hD := hD0.self (sz := s.heap.size)
  generalize hAe : va_A [oPos ad xPos_size xPos_shortest xPos_longest xPos_slip, ar (ad 29) cA 120 gPleast] s.heap.size = A at hD ⊢
  have hA : ∀ q : Nat, s.heap.size ≤ q → A q := fun q h => by rw [← hAe]; exact Or.inr h
  have hS : va_S A s.heap s.heap [] := va_S.rf
  have hl := lv_entry ([.ref (ad 26), .int a1]) (n := 2) (Nat.le_of_ble_eq_true rfl)
  rw [lg_entry_eq]
  generalize (lg_sl ([.ref (ad 26), .int a1]) ++ List.replicate (2 - (lg_sl ([.ref (ad 26), .int a1])).length) Slot.unset).toArray = ls at hl ⊢
  have hl : lv_has ls 2 [(0, .ref (ad 26)), (1, .int a1)] := hl
  refine wk_Q (fun QQ hQ => ?_)
  have hinX3 : ∀ w ∈ wsX30, w ∈ wsX3_leastDoubt := fun w h => List.mem_cons_of_mem _ (inlX3 w h)
  have hl_18 := hts (.fieldLink RX3 18 "HandCensus$Posting" "least" "[I") (List.mem_cons_of_mem _ (in_r5 _ (List.mem_of_getElem? (i := 6) rfl)))
  unfold fP_leastDoubt at hm
  refine lv_aload_n hx hb dX3_leastDoubt_0 rfl (lv_at hl 0 rfl) ?_
  refine va_get (D := (dC, dI)) (ci := 3) (v := .ref (ad 29)) (C := RX3) (T := TX3) (N := 7) hx hb hts hinX3 hown hK hP 0 rfl rfl 2 (by decide) hl_18 (fun _ h9 => h9) rfl dX3_leastDoubt_1 ?_
  refine lv_iload_n hx hb dX3_leastDoubt_4 rfl (lv_at hl 1 rfl) ?_
  refine lv_bipush (v := 20) hx hb dX3_leastDoubt_5 (by decide) ?_
  refine lv_imul hx hb dX3_leastDoubt_7 ?_
  obtain ⟨i_1, hm⟩ := ck_ok hm
  refine va_iald hx hb hK hP 1 0 rfl rfl i_1 dX3_leastDoubt_8 ?_
  obtain rfl := Option.some.inj hm
  subst hQ
  exact W.iret (v := (gPleast (a1 * 20).toNatClampNeg)) hx hb hr (fun t ht hW => ⟨⟨_, (), rfl, rfl, by rw [ht]; exact hP, va_K.moved hW.alike hK, hAe ▸ hD⟩, hS.F ht⟩) hS.2.2 dX3_leastDoubt_9

set_option maxHeartbeats 4000000 in
set_option maxRecDepth 100000 in
theorem kC_doubt (l : Launch) (dC : Nat → ClassId) (dI : Nat → Nat → Nat) (cA : ClassId) (ad : Nat → Nat) (qe : Nat) (sz : Nat) (a1 : Int32) (a2 : Int32) (xHC_first : Int32) (xHC_second : Int32) (xHC_when : Int32) (xHC_ran : Int32) (xRow_depth : Int32) (xRow_length : Int32) (xRow_people : Int32) (xRow_scarves : Int32) (xRow_main : Int32) (xRow_faultPlace : Int32) (gRkinds : Nat → Int32) (gRlates : Nat → Int32) (gRhands : Nat → Int32) (gRslow : Nat → Int32) (xST_sleeper : Int32) (xST_lastDue : Int32) (xST_unreached : Int32) (gSTdue : Nat → Int32) (gSTbusy : Nat → Int32) (gSTfelt : Nat → Int32) (gSTlost : Nat → Int32) (gSTfirst : Nat → Int32) (xDia_size : Int32) (ne : Nat) (gDent : Nat → Int32) (xPos_size : Int32) (xPos_shortest : Int32) (xPos_longest : Int32) (xPos_slip : Int32) (gPwho : Nat → Int32) (gPat : Nat → Int32) (gPleast : Nat → Int32) (u : Int32 × Int32 × Int32 × Int32 × Int32 × (Nat → Int32) × (Nat → Int32) × (Nat → Int32) × (Nat → Int32) × (Nat → Int32) × Int32 × Nat × (Nat → Int32) × Int32 × (Nat → Int32) × (Nat → Int32) × (Nat → Int32)) (hm : fC_doubt a1 a2 xHC_first xHC_second xHC_when xHC_ran xRow_people xRow_main gRkinds gRlates gRhands gRslow xST_sleeper xST_lastDue xST_unreached gSTdue gSTbusy gSTfelt gSTlost gSTfirst xDia_size ne gDent xPos_size xPos_shortest xPos_longest xPos_slip gPwho gPat gPleast = some u) : Met l yX9_doubt wsX9_doubt ({ frames := 6, cells := (u.2.2.2.2.2.2.2.2.2.2.2.1 - ne), slots := (2 * (u.2.2.2.2.2.2.2.2.2.2.2.1 - ne)), locals := 138 }) (va_Pc [.ref (ad 0), .int a1, .int a2] (fun U => U.heap.size = sz ∧ va_P (dC, dI) vwCl [oHC ad xHC_first xHC_second xHC_when xHC_ran, oRow ad xRow_depth xRow_length xRow_people xRow_scarves xRow_main xRow_faultPlace, ar (ad 3) cA 20 gRkinds, ar (ad 4) cA 20 gRlates, ar (ad 5) cA 20 gRhands, ar (ad 6) cA 20 gRslow, oST ad xST_sleeper xST_lastDue xST_unreached, ar (ad 10) cA 640 gSTdue, ar (ad 11) cA 20 gSTbusy, ar (ad 12) cA 20 gSTfelt, ar (ad 13) cA 20 gSTlost, ar (ad 14) cA 20 gSTfirst, oDia ad qe xDia_size, ar qe cA ne gDent, oPos ad xPos_size xPos_shortest xPos_longest xPos_slip, ar (ad 27) cA 20 gPwho, ar (ad 28) cA 20 gPat, ar (ad 29) cA 120 gPleast] U.heap ∧ va_K (dC, dI) vwCl [(cA, .int)] U ∧ va_D (fun _ => True) [oHC ad xHC_first xHC_second xHC_when xHC_ran, oRow ad xRow_depth xRow_length xRow_people xRow_scarves xRow_main xRow_faultPlace, ar (ad 3) cA 20 gRkinds, ar (ad 4) cA 20 gRlates, ar (ad 5) cA 20 gRhands, ar (ad 6) cA 20 gRslow, oST ad xST_sleeper xST_lastDue xST_unreached, ar (ad 10) cA 640 gSTdue, ar (ad 11) cA 20 gSTbusy, ar (ad 12) cA 20 gSTfelt, ar (ad 13) cA 20 gSTlost, ar (ad 14) cA 20 gSTfirst, oDia ad qe xDia_size, ar qe cA ne gDent, oPos ad xPos_size xPos_shortest xPos_longest xPos_slip, ar (ad 27) cA 20 gPwho, ar (ad 28) cA 20 gPat, ar (ad 29) cA 120 gPleast])) (va_Qi (fun (r : Int32) (_ : Nat) => r = u.1) (fun (qe2 : Nat) t => va_P (dC, dI) vwCl [oHC ad xHC_first xHC_second xHC_when u.2.1, oRow ad xRow_depth xRow_length xRow_people xRow_scarves xRow_main xRow_faultPlace, ar (ad 3) cA 20 gRkinds, ar (ad 4) cA 20 gRlates, ar (ad 5) cA 20 gRhands, ar (ad 6) cA 20 gRslow, oST ad u.2.2.1 u.2.2.2.1 u.2.2.2.2.1, ar (ad 10) cA 640 u.2.2.2.2.2.1, ar (ad 11) cA 20 u.2.2.2.2.2.2.1, ar (ad 12) cA 20 u.2.2.2.2.2.2.2.1, ar (ad 13) cA 20 u.2.2.2.2.2.2.2.2.1, ar (ad 14) cA 20 u.2.2.2.2.2.2.2.2.2.1, oDia ad qe2 u.2.2.2.2.2.2.2.2.2.2.1, ar qe2 cA u.2.2.2.2.2.2.2.2.2.2.2.1 u.2.2.2.2.2.2.2.2.2.2.2.2.1, oPos ad u.2.2.2.2.2.2.2.2.2.2.2.2.2.1 xPos_shortest xPos_longest xPos_slip, ar (ad 27) cA 20 u.2.2.2.2.2.2.2.2.2.2.2.2.2.2.1, ar (ad 28) cA 20 u.2.2.2.2.2.2.2.2.2.2.2.2.2.2.2.1, ar (ad 29) cA 120 u.2.2.2.2.2.2.2.2.2.2.2.2.2.2.2.2] t.heap ∧ va_K (dC, dI) vwCl [(cA, .int)] t ∧ va_D (va_A [oHC ad xHC_first xHC_second xHC_when xHC_ran, oRow ad xRow_depth xRow_length xRow_people xRow_scarves xRow_main xRow_faultPlace, ar (ad 3) cA 20 gRkinds, ar (ad 4) cA 20 gRlates, ar (ad 5) cA 20 gRhands, ar (ad 6) cA 20 gRslow, oST ad xST_sleeper xST_lastDue xST_unreached, ar (ad 10) cA 640 gSTdue, ar (ad 11) cA 20 gSTbusy, ar (ad 12) cA 20 gSTfelt, ar (ad 13) cA 20 gSTlost, ar (ad 14) cA 20 gSTfirst, oDia ad qe xDia_size, ar qe cA ne gDent, oPos ad xPos_size xPos_shortest xPos_longest xPos_slip, ar (ad 27) cA 20 gPwho, ar (ad 28) cA 20 gPat, ar (ad 29) cA 120 gPleast] sz) [oHC ad xHC_first xHC_second xHC_when u.2.1, oRow ad xRow_depth xRow_length xRow_people xRow_scarves xRow_main xRow_faultPlace, ar (ad 3) cA 20 gRkinds, ar (ad 4) cA 20 gRlates, ar (ad 5) cA 20 gRhands, ar (ad 6) cA 20 gRslow, oST ad u.2.2.1 u.2.2.2.1 u.2.2.2.2.1, ar (ad 10) cA 640 u.2.2.2.2.2.1, ar (ad 11) cA 20 u.2.2.2.2.2.2.1, ar (ad 12) cA 20 u.2.2.2.2.2.2.2.1, ar (ad 13) cA 20 u.2.2.2.2.2.2.2.2.1, ar (ad 14) cA 20 u.2.2.2.2.2.2.2.2.2.1, oDia ad qe2 u.2.2.2.2.2.2.2.2.2.2.1, ar qe2 cA u.2.2.2.2.2.2.2.2.2.2.2.1 u.2.2.2.2.2.2.2.2.2.2.2.2.1, oPos ad u.2.2.2.2.2.2.2.2.2.2.2.2.2.1 xPos_shortest xPos_longest xPos_slip, ar (ad 27) cA 20 u.2.2.2.2.2.2.2.2.2.2.2.2.2.2.1, ar (ad 28) cA 20 u.2.2.2.2.2.2.2.2.2.2.2.2.2.2.2.1, ar (ad 29) cA 120 u.2.2.2.2.2.2.2.2.2.2.2.2.2.2.2.2]) (va_A [oHC ad xHC_first xHC_second xHC_when xHC_ran, oRow ad xRow_depth xRow_length xRow_people xRow_scarves xRow_main xRow_faultPlace, ar (ad 3) cA 20 gRkinds, ar (ad 4) cA 20 gRlates, ar (ad 5) cA 20 gRhands, ar (ad 6) cA 20 gRslow, oST ad xST_sleeper xST_lastDue xST_unreached, ar (ad 10) cA 640 gSTdue, ar (ad 11) cA 20 gSTbusy, ar (ad 12) cA 20 gSTfelt, ar (ad 13) cA 20 gSTlost, ar (ad 14) cA 20 gSTfirst, oDia ad qe xDia_size, ar qe cA ne gDent, oPos ad xPos_size xPos_shortest xPos_longest xPos_slip, ar (ad 27) cA 20 gPwho, ar (ad 28) cA 20 gPat, ar (ad 29) cA 120 gPleast] sz)) (u.2.2.2.2.2.2.2.2.2.2.2.1 - ne) (2 * (u.2.2.2.2.2.2.2.2.2.2.2.1 - ne)) (va_A [oHC ad xHC_first xHC_second xHC_when xHC_ran, oRow ad xRow_depth xRow_length xRow_people xRow_scarves xRow_main xRow_faultPlace, ar (ad 3) cA 20 gRkinds, ar (ad 4) cA 20 gRlates, ar (ad 5) cA 20 gRhands, ar (ad 6) cA 20 gRslow, oST ad xST_sleeper xST_lastDue xST_unreached, ar (ad 10) cA 640 gSTdue, ar (ad 11) cA 20 gSTbusy, ar (ad 12) cA 20 gSTfelt, ar (ad 13) cA 20 gSTlost, ar (ad 14) cA 20 gSTfirst, oDia ad qe xDia_size, ar qe cA ne gDent, oPos ad xPos_size xPos_shortest xPos_longest xPos_slip, ar (ad 27) cA 20 gPwho, ar (ad 28) cA 20 gPat, ar (ad 29) cA 120 gPleast] sz) := by
  refine Met.ofW (cc := cX9_doubt) (maxL := 3) (ret := (some .int)) (by decide) rfl ?_
  intro p e s m args below meth c s₁ B hml hv
  obtain ⟨rfl, hsz, hP, hK, hD0⟩ := hv
  have hx := B.exec
  have hb := B.bytes
  have hr := B.returns
  have hts := atoms_spec (ws := wsX9_doubt) B.pre
  have hown : s.vm.findClass RX9 = some m.cls := findClass_of_methodNamed B.named
  have hlocks := B.notSynchronized
  subst hsz
  have hD := hD0.self (sz := s.heap.size)
  generalize hAe : va_A [oHC ad xHC_first xHC_second xHC_when xHC_ran, oRow ad xRow_depth xRow_length xRow_people xRow_scarves xRow_main xRow_faultPlace, ar (ad 3) cA 20 gRkinds, ar (ad 4) cA 20 gRlates, ar (ad 5) cA 20 gRhands, ar (ad 6) cA 20 gRslow, oST ad xST_sleeper xST_lastDue xST_unreached, ar (ad 10) cA 640 gSTdue, ar (ad 11) cA 20 gSTbusy, ar (ad 12) cA 20 gSTfelt, ar (ad 13) cA 20 gSTlost, ar (ad 14) cA 20 gSTfirst, oDia ad qe xDia_size, ar qe cA ne gDent, oPos ad xPos_size xPos_shortest xPos_longest xPos_slip, ar (ad 27) cA 20 gPwho, ar (ad 28) cA 20 gPat, ar (ad 29) cA 120 gPleast] s.heap.size = A at hD ⊢
  have hA : ∀ q : Nat, s.heap.size ≤ q → A q := fun q h => by rw [← hAe]; exact Or.inr h
  have hS : va_S A s.heap s.heap [] := va_S.rf
  have hl := lv_entry ([.ref (ad 0), .int a1, .int a2]) (n := 3) (Nat.le_of_ble_eq_true rfl)
  rw [lg_entry_eq]
  generalize (lg_sl ([.ref (ad 0), .int a1, .int a2]) ++ List.replicate (3 - (lg_sl ([.ref (ad 0), .int a1, .int a2])).length) Slot.unset).toArray = ls at hl ⊢
  have hl : lv_has ls 3 [(0, .ref (ad 0)), (1, .int a1), (2, .int a2)] := hl
  refine wk_Q (fun QQ hQ => ?_)
  have hinX9 : ∀ w ∈ wsX90, w ∈ wsX9_doubt := fun w h => List.mem_cons_of_mem _ (inlX9 w h)
  have hl_47 := hts (.fieldLink RX9 47 "HandCensus" "posting" "LHandCensus$Posting;") (List.mem_cons_of_mem _ (in_r2 _ (List.mem_of_getElem? (i := 10) rfl)))
  have hl_10 := hts (.fieldLink RX9 10 "HandCensus" "row" "LHandCensus$Row;") (List.mem_cons_of_mem _ (in_r1 _ (List.mem_of_getElem? (i := 15) rfl)))
  unfold fC_doubt at hm
  obtain ⟨hz0, hm⟩ := mz_ok hm
  have hz0 : ne ≤ u.2.2.2.2.2.2.2.2.2.2.2.1 := hz0
  refine lv_iload_n hx hb dX9_doubt_0 rfl (lv_at hl 1 rfl) ?_
  refine lv_if_lt (tgt := 19) hx hb dX9_doubt_1 (by decide) (fun c_1 => ?_) (fun c_1 => ?_)
  · have hm := it_pos c_1 hm
    refine lv_bipush (v := (-2)) hx hb dX9_doubt_19 (by decide) ?_
    obtain rfl := Option.some.inj hm
    subst hQ
    refine W.widen (k := ne - ne) (n := 2 * (ne - ne)) (by first | exact Nat.le_refl _ | omega) (by first | exact Nat.le_refl _ | omega) ?_
    exact W.iret (v := (-2)) hx hb hr (fun t ht hW => ⟨⟨_, qe, rfl, rfl, by rw [ht]; exact hP, va_K.moved hW.alike hK, hAe ▸ hD⟩, hS.F ht⟩) hS.2.2 dX9_doubt_21
  · have hm := it_neg c_1 hm
    refine lv_iload_n hx hb dX9_doubt_4 rfl (lv_at hl 1 rfl) ?_
    refine lv_iconst (v := 5) hx hb dX9_doubt_5 (by decide) ?_
    refine lv_icmp_gt (tgt := 19) hx hb dX9_doubt_6 (by decide) (fun c_2 => ?_) (fun c_2 => ?_)
    · have hm := it_pos c_2 hm
      refine lv_bipush (v := (-2)) hx hb dX9_doubt_19 (by decide) ?_
      obtain rfl := Option.some.inj hm
      subst hQ
      refine W.widen (k := ne - ne) (n := 2 * (ne - ne)) (by first | exact Nat.le_refl _ | omega) (by first | exact Nat.le_refl _ | omega) ?_
      exact W.iret (v := (-2)) hx hb hr (fun t ht hW => ⟨⟨_, qe, rfl, rfl, by rw [ht]; exact hP, va_K.moved hW.alike hK, hAe ▸ hD⟩, hS.F ht⟩) hS.2.2 dX9_doubt_21
    · have hm := it_neg c_2 hm
      refine lv_iload_n hx hb dX9_doubt_9 rfl (lv_at hl 2 rfl) ?_
      refine lv_iconst (v := (-1)) hx hb dX9_doubt_10 (by decide) ?_
      refine lv_icmp_lt (tgt := 19) hx hb dX9_doubt_11 (by decide) (fun c_3 => ?_) (fun c_3 => ?_)
      · have hm := it_pos c_3 hm
        refine lv_bipush (v := (-2)) hx hb dX9_doubt_19 (by decide) ?_
        obtain rfl := Option.some.inj hm
        subst hQ
        refine W.widen (k := ne - ne) (n := 2 * (ne - ne)) (by first | exact Nat.le_refl _ | omega) (by first | exact Nat.le_refl _ | omega) ?_
        exact W.iret (v := (-2)) hx hb hr (fun t ht hW => ⟨⟨_, qe, rfl, rfl, by rw [ht]; exact hP, va_K.moved hW.alike hK, hAe ▸ hD⟩, hS.F ht⟩) hS.2.2 dX9_doubt_21
      · have hm := it_neg c_3 hm
        refine lv_iload_n hx hb dX9_doubt_14 rfl (lv_at hl 2 rfl) ?_
        refine lv_iload_n hx hb dX9_doubt_15 rfl (lv_at hl 1 rfl) ?_
        refine lv_icmp_lt (tgt := 22) hx hb dX9_doubt_16 (by decide) (fun c_4 => ?_) (fun c_4 => ?_)
        · have hm := it_pos c_4 hm
          refine lv_aload_n hx hb dX9_doubt_22 rfl (lv_at hl 0 rfl) ?_
          refine va_get (D := (dC, dI)) (ci := 9) (v := .ref (ad 26)) (C := RX9) (T := TX9) (N := 12) hx hb hts hinX9 hown hK hP 0 rfl rfl 4 (by decide) hl_47 (fun _ h9 => h9) rfl dX9_doubt_23 ?_
          refine lv_aload_n hx hb dX9_doubt_26 rfl (lv_at hl 0 rfl) ?_
          refine va_get (D := (dC, dI)) (ci := 9) (v := .ref (ad 1)) (C := RX9) (T := TX9) (N := 12) hx hb hts hinX9 hown hK hP 0 rfl rfl 0 (by decide) hl_10 (fun _ h9 => h9) rfl dX9_doubt_27 ?_
          refine lv_aload_n hx hb dX9_doubt_30 rfl (lv_at hl 0 rfl) ?_
          have hPc := hP.sub (ws' := [oHC ad xHC_first xHC_second xHC_when xHC_ran, oRow ad xRow_depth xRow_length xRow_people xRow_scarves xRow_main xRow_faultPlace, ar (ad 3) cA 20 gRkinds, ar (ad 4) cA 20 gRlates, ar (ad 5) cA 20 gRhands, ar (ad 6) cA 20 gRslow, oST ad xST_sleeper xST_lastDue xST_unreached, ar (ad 10) cA 640 gSTdue, ar (ad 11) cA 20 gSTbusy, ar (ad 12) cA 20 gSTfelt, ar (ad 13) cA 20 gSTlost, ar (ad 14) cA 20 gSTfirst, oDia ad qe xDia_size, ar qe cA ne gDent]) [0, 1, 2, 3, 4, 5, 6, 7, 8, 9, 10, 11, 12, 13] rfl
          have hDc := hD.sub (ws' := [oHC ad xHC_first xHC_second xHC_when xHC_ran, oRow ad xRow_depth xRow_length xRow_people xRow_scarves xRow_main xRow_faultPlace, ar (ad 3) cA 20 gRkinds, ar (ad 4) cA 20 gRlates, ar (ad 5) cA 20 gRhands, ar (ad 6) cA 20 gRslow, oST ad xST_sleeper xST_lastDue xST_unreached, ar (ad 10) cA 640 gSTdue, ar (ad 11) cA 20 gSTbusy, ar (ad 12) cA 20 gSTfelt, ar (ad 13) cA 20 gSTlost, ar (ad 14) cA 20 gSTfirst, oDia ad qe xDia_size, ar qe cA ne gDent]) [0, 1, 2, 3, 4, 5, 6, 7, 8, 9, 10, 11, 12, 13] (by decide) rfl
          have hFc := va_free (wc := [oHC ad xHC_first xHC_second xHC_when xHC_ran, oRow ad xRow_depth xRow_length xRow_people xRow_scarves xRow_main xRow_faultPlace, ar (ad 3) cA 20 gRkinds, ar (ad 4) cA 20 gRlates, ar (ad 5) cA 20 gRhands, ar (ad 6) cA 20 gRslow, oST ad xST_sleeper xST_lastDue xST_unreached, ar (ad 10) cA 640 gSTdue, ar (ad 11) cA 20 gSTbusy, ar (ad 12) cA 20 gSTfelt, ar (ad 13) cA 20 gSTlost, ar (ad 14) cA 20 gSTfirst, oDia ad qe xDia_size, ar qe cA ne gDent]) hD hS hA [0, 1, 2, 3, 4, 5, 6, 7, 8, 9, 10, 11, 12, 13] rfl
          obtain ⟨u_5, hc_5, hn1_5, hn2_5, hm⟩ := bm_ok hm
          have hn1_5 : ne ≤ u_5.2.2.2.2.2.2.2.2.2.2.1 := hn1_5
          have hn2_5 : u_5.2.2.2.2.2.2.2.2.2.2.1 ≤ u.2.2.2.2.2.2.2.2.2.2.2.1 := hn2_5
          refine va_callr (va_runV (As := []) (rest := [.ref (ad 1), .ref (ad 26)]) ⟨hx, hb, hml, hown, hts⟩ (kC_asTold l dC dI cA ad qe s.heap.size xHC_first xHC_second xHC_when xHC_ran xRow_depth xRow_length xRow_people xRow_scarves xRow_main xRow_faultPlace gRkinds gRlates gRhands gRslow xST_sleeper xST_lastDue xST_unreached gSTdue gSTbusy gSTfelt gSTlost gSTfirst xDia_size ne gDent u_5 hc_5) (cwV 0 hts gX9_doubt_X9_asTold rfl rfl rfl (by decide +kernel) ⟨Nat.le_of_ble_eq_true rfl, Nat.le_of_ble_eq_true rfl⟩) ⟨fun a U g mk q => by obtain ⟨q0, q1, qP, qK, qD⟩ := q; exact ⟨q0, q1, qP, va_K.moved (u := U) (U := U.calling g mk a) (Vm.Alike.refl U.vm) qK, qD⟩, va_recv hK hPc (ci := 9) (q0 := 0) rfl rfl, fun U hU hW => ⟨rfl, by rw [hU], by rw [hU]; exact hPc, va_K.moved hW.alike hK, hDc.weaken (fun _ _ _ _ => trivial)⟩⟩ rfl rfl hl.1 rfl (lv_room (Nat.le_of_ble_eq_true rfl)) dX9_doubt_31 ⟨by (show _ ≤ _ - _); omega, by (show _ ≤ 2 * (_ - _)); omega⟩) hS (fun q _ h => hFc q h) hFc (fun qe_1005 ra_5 t H1 locs ht hvm hw hB hz1 hk1 hS => ?_)
          obtain ⟨hra_5, hP1, hK1, hD1⟩ := hB
          subst hra_5
          rw [ht] at hP1
          obtain ⟨hP, hD⟩ := va_join (wr := [oPos ad xPos_size xPos_shortest xPos_longest xPos_slip, ar (ad 27) cA 20 gPwho, ar (ad 28) cA 20 gPat, ar (ad 29) cA 120 gPleast]) (w1 := [oHC ad xHC_first xHC_second xHC_when u_5.1, oRow ad xRow_depth xRow_length xRow_people xRow_scarves xRow_main xRow_faultPlace, ar (ad 3) cA 20 gRkinds, ar (ad 4) cA 20 gRlates, ar (ad 5) cA 20 gRhands, ar (ad 6) cA 20 gRslow, oST ad u_5.2.1 u_5.2.2.1 u_5.2.2.2.1, ar (ad 10) cA 640 u_5.2.2.2.2.1, ar (ad 11) cA 20 u_5.2.2.2.2.2.1, ar (ad 12) cA 20 u_5.2.2.2.2.2.2.1, ar (ad 13) cA 20 u_5.2.2.2.2.2.2.2.1, ar (ad 14) cA 20 u_5.2.2.2.2.2.2.2.2.1, oDia ad qe_1005 u_5.2.2.2.2.2.2.2.2.2.1, ar qe_1005 cA u_5.2.2.2.2.2.2.2.2.2.2.1 u_5.2.2.2.2.2.2.2.2.2.2.2]) hP hD [0, 1, 2, 3, 4, 5, 6, 7, 8, 9, 10, 11, 12, 13] [14, 15, 16, 17] rfl rfl (by decide) (by decide) hk1 hFc hP1 hD1
          clear hPc hDc hFc hP1 hK1 hD1 hk1 hz1 hvm ht
          generalize H1 = H at hP hS ⊢
          have hP : va_P (dC, dI) vwCl [oHC ad xHC_first xHC_second xHC_when u_5.1, oRow ad xRow_depth xRow_length xRow_people xRow_scarves xRow_main xRow_faultPlace, ar (ad 3) cA 20 gRkinds, ar (ad 4) cA 20 gRlates, ar (ad 5) cA 20 gRhands, ar (ad 6) cA 20 gRslow, oST ad u_5.2.1 u_5.2.2.1 u_5.2.2.2.1, ar (ad 10) cA 640 u_5.2.2.2.2.1, ar (ad 11) cA 20 u_5.2.2.2.2.2.1, ar (ad 12) cA 20 u_5.2.2.2.2.2.2.1, ar (ad 13) cA 20 u_5.2.2.2.2.2.2.2.1, ar (ad 14) cA 20 u_5.2.2.2.2.2.2.2.2.1, oDia ad qe_1005 u_5.2.2.2.2.2.2.2.2.2.1, ar qe_1005 cA u_5.2.2.2.2.2.2.2.2.2.2.1 u_5.2.2.2.2.2.2.2.2.2.2.2, oPos ad xPos_size xPos_shortest xPos_longest xPos_slip, ar (ad 27) cA 20 gPwho, ar (ad 28) cA 20 gPat, ar (ad 29) cA 120 gPleast] H := hP.sub [4, 5, 6, 7, 8, 9, 10, 11, 12, 13, 14, 15, 16, 17, 0, 1, 2, 3] rfl
          have hD : va_D A [oHC ad xHC_first xHC_second xHC_when u_5.1, oRow ad xRow_depth xRow_length xRow_people xRow_scarves xRow_main xRow_faultPlace, ar (ad 3) cA 20 gRkinds, ar (ad 4) cA 20 gRlates, ar (ad 5) cA 20 gRhands, ar (ad 6) cA 20 gRslow, oST ad u_5.2.1 u_5.2.2.1 u_5.2.2.2.1, ar (ad 10) cA 640 u_5.2.2.2.2.1, ar (ad 11) cA 20 u_5.2.2.2.2.2.1, ar (ad 12) cA 20 u_5.2.2.2.2.2.2.1, ar (ad 13) cA 20 u_5.2.2.2.2.2.2.2.1, ar (ad 14) cA 20 u_5.2.2.2.2.2.2.2.2.1, oDia ad qe_1005 u_5.2.2.2.2.2.2.2.2.2.1, ar qe_1005 cA u_5.2.2.2.2.2.2.2.2.2.2.1 u_5.2.2.2.2.2.2.2.2.2.2.2, oPos ad xPos_size xPos_shortest xPos_longest xPos_slip, ar (ad 27) cA 20 gPwho, ar (ad 28) cA 20 gPat, ar (ad 29) cA 120 gPleast] := hD.sub [4, 5, 6, 7, 8, 9, 10, 11, 12, 13, 14, 15, 16, 17, 0, 1, 2, 3] (by decide) rfl
          refine W.widen (k := u_5.2.2.2.2.2.2.2.2.2.2.1 - ne) (n := 2 * (u_5.2.2.2.2.2.2.2.2.2.2.1 - ne)) (by omega) (by omega) ?_
          have hPc := hP.sub (ws' := [oRow ad xRow_depth xRow_length xRow_people xRow_scarves xRow_main xRow_faultPlace, oST ad u_5.2.1 u_5.2.2.1 u_5.2.2.2.1, ar (ad 14) cA 20 u_5.2.2.2.2.2.2.2.2.1, oPos ad xPos_size xPos_shortest xPos_longest xPos_slip, ar (ad 27) cA 20 gPwho, ar (ad 28) cA 20 gPat]) [1, 6, 11, 14, 15, 16] rfl
          have hDc := hD.sub (ws' := [oRow ad xRow_depth xRow_length xRow_people xRow_scarves xRow_main xRow_faultPlace, oST ad u_5.2.1 u_5.2.2.1 u_5.2.2.2.1, ar (ad 14) cA 20 u_5.2.2.2.2.2.2.2.2.1, oPos ad xPos_size xPos_shortest xPos_longest xPos_slip, ar (ad 27) cA 20 gPwho, ar (ad 28) cA 20 gPat]) [1, 6, 11, 14, 15, 16] (by decide) rfl
          have hFc := va_free (wc := [oRow ad xRow_depth xRow_length xRow_people xRow_scarves xRow_main xRow_faultPlace, oST ad u_5.2.1 u_5.2.2.1 u_5.2.2.2.1, ar (ad 14) cA 20 u_5.2.2.2.2.2.2.2.2.1, oPos ad xPos_size xPos_shortest xPos_longest xPos_slip, ar (ad 27) cA 20 gPwho, ar (ad 28) cA 20 gPat]) hD hS hA [1, 6, 11, 14, 15, 16] rfl
          obtain ⟨u_6, hc_6, hm⟩ := bd_ok hm
          refine va_callv (va_runV (As := [.ref (ad 1), .ref (ad 9)]) (rest := []) ⟨hx, hb, hml, hown, hts⟩ (kP_gather l dC dI cA ad H.size xRow_depth xRow_length xRow_people xRow_scarves xRow_main xRow_faultPlace u_5.2.1 u_5.2.2.1 u_5.2.2.2.1 u_5.2.2.2.2.2.2.2.2.1 xPos_size xPos_shortest xPos_longest xPos_slip gPwho gPat u_6 hc_6) (cwV 2 hts gX9_doubt_X3_gather rfl rfl rfl (by decide +kernel) ⟨Nat.le_of_ble_eq_true rfl, Nat.le_of_ble_eq_true rfl⟩) ⟨fun a U g mk q => by obtain ⟨q0, q1, qP, qK, qD⟩ := q; exact ⟨q0, q1, qP, va_K.moved (u := U) (U := U.calling g mk a) (Vm.Alike.refl U.vm) qK, qD⟩, va_recv hK hPc (ci := 3) (q0 := 3) rfl rfl, fun U hU hW => ⟨rfl, by rw [hU], by rw [hU]; exact hPc, va_K.moved hW.alike hK, hDc.weaken (fun _ _ _ _ => trivial)⟩⟩ rfl rfl hl.1 rfl (lv_room (Nat.le_of_ble_eq_true rfl)) dX9_doubt_34 ⟨by (show _ ≤ _ - _); omega, by (show _ ≤ 2 * (_ - _)); omega⟩) hS (fun q _ h => hFc q h) hFc (fun _ t H1 locs ht hvm hw hB hz1 hk1 hS => ?_)
          obtain ⟨hP1, hK1, hD1⟩ := hB
          rw [ht] at hP1
          obtain ⟨hP, hD⟩ := va_join (wr := [oHC ad xHC_first xHC_second xHC_when u_5.1, ar (ad 3) cA 20 gRkinds, ar (ad 4) cA 20 gRlates, ar (ad 5) cA 20 gRhands, ar (ad 6) cA 20 gRslow, ar (ad 10) cA 640 u_5.2.2.2.2.1, ar (ad 11) cA 20 u_5.2.2.2.2.2.1, ar (ad 12) cA 20 u_5.2.2.2.2.2.2.1, ar (ad 13) cA 20 u_5.2.2.2.2.2.2.2.1, oDia ad qe_1005 u_5.2.2.2.2.2.2.2.2.2.1, ar qe_1005 cA u_5.2.2.2.2.2.2.2.2.2.2.1 u_5.2.2.2.2.2.2.2.2.2.2.2, ar (ad 29) cA 120 gPleast]) (w1 := [oRow ad xRow_depth xRow_length xRow_people xRow_scarves xRow_main xRow_faultPlace, oST ad u_5.2.1 u_5.2.2.1 u_5.2.2.2.1, ar (ad 14) cA 20 u_5.2.2.2.2.2.2.2.2.1, oPos ad u_6.1 xPos_shortest xPos_longest xPos_slip, ar (ad 27) cA 20 u_6.2.1, ar (ad 28) cA 20 u_6.2.2]) hP hD [1, 6, 11, 14, 15, 16] [0, 2, 3, 4, 5, 7, 8, 9, 10, 12, 13, 17] rfl rfl (by decide) (by decide) hk1 hFc hP1 hD1
          clear hPc hDc hFc hP1 hK1 hD1 hk1 hz1 hvm ht
          generalize H1 = H at hP hS ⊢
          have hP : va_P (dC, dI) vwCl [oHC ad xHC_first xHC_second xHC_when u_5.1, oRow ad xRow_depth xRow_length xRow_people xRow_scarves xRow_main xRow_faultPlace, ar (ad 3) cA 20 gRkinds, ar (ad 4) cA 20 gRlates, ar (ad 5) cA 20 gRhands, ar (ad 6) cA 20 gRslow, oST ad u_5.2.1 u_5.2.2.1 u_5.2.2.2.1, ar (ad 10) cA 640 u_5.2.2.2.2.1, ar (ad 11) cA 20 u_5.2.2.2.2.2.1, ar (ad 12) cA 20 u_5.2.2.2.2.2.2.1, ar (ad 13) cA 20 u_5.2.2.2.2.2.2.2.1, ar (ad 14) cA 20 u_5.2.2.2.2.2.2.2.2.1, oDia ad qe_1005 u_5.2.2.2.2.2.2.2.2.2.1, ar qe_1005 cA u_5.2.2.2.2.2.2.2.2.2.2.1 u_5.2.2.2.2.2.2.2.2.2.2.2, oPos ad u_6.1 xPos_shortest xPos_longest xPos_slip, ar (ad 27) cA 20 u_6.2.1, ar (ad 28) cA 20 u_6.2.2, ar (ad 29) cA 120 gPleast] H := hP.sub [0, 12, 1, 2, 3, 4, 13, 5, 6, 7, 8, 14, 9, 10, 15, 16, 17, 11] rfl
          have hD : va_D A [oHC ad xHC_first xHC_second xHC_when u_5.1, oRow ad xRow_depth xRow_length xRow_people xRow_scarves xRow_main xRow_faultPlace, ar (ad 3) cA 20 gRkinds, ar (ad 4) cA 20 gRlates, ar (ad 5) cA 20 gRhands, ar (ad 6) cA 20 gRslow, oST ad u_5.2.1 u_5.2.2.1 u_5.2.2.2.1, ar (ad 10) cA 640 u_5.2.2.2.2.1, ar (ad 11) cA 20 u_5.2.2.2.2.2.1, ar (ad 12) cA 20 u_5.2.2.2.2.2.2.1, ar (ad 13) cA 20 u_5.2.2.2.2.2.2.2.1, ar (ad 14) cA 20 u_5.2.2.2.2.2.2.2.2.1, oDia ad qe_1005 u_5.2.2.2.2.2.2.2.2.2.1, ar qe_1005 cA u_5.2.2.2.2.2.2.2.2.2.2.1 u_5.2.2.2.2.2.2.2.2.2.2.2, oPos ad u_6.1 xPos_shortest xPos_longest xPos_slip, ar (ad 27) cA 20 u_6.2.1, ar (ad 28) cA 20 u_6.2.2, ar (ad 29) cA 120 gPleast] := hD.sub [0, 12, 1, 2, 3, 4, 13, 5, 6, 7, 8, 14, 9, 10, 15, 16, 17, 11] (by decide) rfl
          refine lv_aload_n hx hb dX9_doubt_37 rfl (lv_at hl 0 rfl) ?_
          refine va_get (D := (dC, dI)) (ci := 9) (v := .ref (ad 26)) (C := RX9) (T := TX9) (N := 12) hx hb hts hinX9 hown hK hP 0 rfl rfl 4 (by decide) hl_47 (fun _ h9 => h9) rfl dX9_doubt_38 ?_
          refine lv_iload_n hx hb dX9_doubt_41 rfl (lv_at hl 1 rfl) ?_
          have hPc := hP.sub (ws' := [oPos ad u_6.1 xPos_shortest xPos_longest xPos_slip]) [14] rfl
          have hDc := hD.sub (ws' := [oPos ad u_6.1 xPos_shortest xPos_longest xPos_slip]) [14] (by decide) rfl
          have hFc := va_free (wc := [oPos ad u_6.1 xPos_shortest xPos_longest xPos_slip]) hD hS hA [14] rfl
          obtain ⟨u_7, hc_7, hm⟩ := bd_ok hm
          refine va_calli (va_runV (As := [.int a1]) (rest := []) ⟨hx, hb, hml, hown, hts⟩ (kP_hasRoomFor l dC dI cA ad H.size a1 u_6.1 xPos_shortest xPos_longest xPos_slip u_7 hc_7) (cwV 1 hts gX9_doubt_X3_hasRoomFor rfl rfl rfl (by decide +kernel) ⟨Nat.le_of_ble_eq_true rfl, Nat.le_of_ble_eq_true rfl⟩) ⟨fun a U g mk q => by obtain ⟨q0, q1, qP, qK, qD⟩ := q; exact ⟨q0, q1, qP, va_K.moved (u := U) (U := U.calling g mk a) (Vm.Alike.refl U.vm) qK, qD⟩, va_recv hK hPc (ci := 3) (q0 := 0) rfl rfl, fun U hU hW => ⟨rfl, by rw [hU], by rw [hU]; exact hPc, va_K.moved hW.alike hK, hDc.weaken (fun _ _ _ _ => trivial)⟩⟩ rfl rfl hl.1 rfl (lv_room (Nat.le_of_ble_eq_true rfl)) dX9_doubt_42 ⟨by (show _ ≤ _ - _); omega, by (show _ ≤ 2 * (_ - _)); omega⟩) hS (fun q _ h => hFc q h) hFc (fun r_7 _ t H1 locs ht hvm hw hB hz1 hk1 hS => ?_)
          obtain ⟨hP1, hK1, hD1⟩ := hB
          rw [ht] at hP1
          obtain ⟨hP, hD⟩ := va_join (wr := [oHC ad xHC_first xHC_second xHC_when u_5.1, oRow ad xRow_depth xRow_length xRow_people xRow_scarves xRow_main xRow_faultPlace, ar (ad 3) cA 20 gRkinds, ar (ad 4) cA 20 gRlates, ar (ad 5) cA 20 gRhands, ar (ad 6) cA 20 gRslow, oST ad u_5.2.1 u_5.2.2.1 u_5.2.2.2.1, ar (ad 10) cA 640 u_5.2.2.2.2.1, ar (ad 11) cA 20 u_5.2.2.2.2.2.1, ar (ad 12) cA 20 u_5.2.2.2.2.2.2.1, ar (ad 13) cA 20 u_5.2.2.2.2.2.2.2.1, ar (ad 14) cA 20 u_5.2.2.2.2.2.2.2.2.1, oDia ad qe_1005 u_5.2.2.2.2.2.2.2.2.2.1, ar qe_1005 cA u_5.2.2.2.2.2.2.2.2.2.2.1 u_5.2.2.2.2.2.2.2.2.2.2.2, ar (ad 27) cA 20 u_6.2.1, ar (ad 28) cA 20 u_6.2.2, ar (ad 29) cA 120 gPleast]) (w1 := [oPos ad u_6.1 xPos_shortest xPos_longest xPos_slip]) hP hD [14] [0, 1, 2, 3, 4, 5, 6, 7, 8, 9, 10, 11, 12, 13, 15, 16, 17] rfl rfl (by decide) (by decide) hk1 hFc hP1 hD1
          clear hPc hDc hFc hP1 hK1 hD1 hk1 hz1 hvm ht
          generalize H1 = H at hP hS ⊢
          have hP : va_P (dC, dI) vwCl [oHC ad xHC_first xHC_second xHC_when u_5.1, oRow ad xRow_depth xRow_length xRow_people xRow_scarves xRow_main xRow_faultPlace, ar (ad 3) cA 20 gRkinds, ar (ad 4) cA 20 gRlates, ar (ad 5) cA 20 gRhands, ar (ad 6) cA 20 gRslow, oST ad u_5.2.1 u_5.2.2.1 u_5.2.2.2.1, ar (ad 10) cA 640 u_5.2.2.2.2.1, ar (ad 11) cA 20 u_5.2.2.2.2.2.1, ar (ad 12) cA 20 u_5.2.2.2.2.2.2.1, ar (ad 13) cA 20 u_5.2.2.2.2.2.2.2.1, ar (ad 14) cA 20 u_5.2.2.2.2.2.2.2.2.1, oDia ad qe_1005 u_5.2.2.2.2.2.2.2.2.2.1, ar qe_1005 cA u_5.2.2.2.2.2.2.2.2.2.2.1 u_5.2.2.2.2.2.2.2.2.2.2.2, oPos ad u_6.1 xPos_shortest xPos_longest xPos_slip, ar (ad 27) cA 20 u_6.2.1, ar (ad 28) cA 20 u_6.2.2, ar (ad 29) cA 120 gPleast] H := hP.sub [0, 1, 2, 3, 4, 5, 6, 7, 8, 9, 10, 11, 12, 13, 17, 14, 15, 16] rfl
          have hD : va_D A [oHC ad xHC_first xHC_second xHC_when u_5.1, oRow ad xRow_depth xRow_length xRow_people xRow_scarves xRow_main xRow_faultPlace, ar (ad 3) cA 20 gRkinds, ar (ad 4) cA 20 gRlates, ar (ad 5) cA 20 gRhands, ar (ad 6) cA 20 gRslow, oST ad u_5.2.1 u_5.2.2.1 u_5.2.2.2.1, ar (ad 10) cA 640 u_5.2.2.2.2.1, ar (ad 11) cA 20 u_5.2.2.2.2.2.1, ar (ad 12) cA 20 u_5.2.2.2.2.2.2.1, ar (ad 13) cA 20 u_5.2.2.2.2.2.2.2.1, ar (ad 14) cA 20 u_5.2.2.2.2.2.2.2.2.1, oDia ad qe_1005 u_5.2.2.2.2.2.2.2.2.2.1, ar qe_1005 cA u_5.2.2.2.2.2.2.2.2.2.2.1 u_5.2.2.2.2.2.2.2.2.2.2.2, oPos ad u_6.1 xPos_shortest xPos_longest xPos_slip, ar (ad 27) cA 20 u_6.2.1, ar (ad 28) cA 20 u_6.2.2, ar (ad 29) cA 120 gPleast] := hD.sub [0, 1, 2, 3, 4, 5, 6, 7, 8, 9, 10, 11, 12, 13, 17, 14, 15, 16] (by decide) rfl
          have hw := hw.symm
          subst hw
          refine lv_if_ne (tgt := 51) hx hb dX9_doubt_45 (by decide) (fun c_8 => ?_) (fun c_8 => ?_)
          · have hm := it_neg c_8 hm
            refine lv_aload_n hx hb dX9_doubt_51 rfl (lv_at hl 0 rfl) ?_
            refine va_get (D := (dC, dI)) (ci := 9) (v := .ref (ad 26)) (C := RX9) (T := TX9) (N := 12) hx hb hts hinX9 hown hK hP 0 rfl rfl 4 (by decide) hl_47 (fun _ h9 => h9) rfl dX9_doubt_52 ?_
            refine lv_iload_n hx hb dX9_doubt_55 rfl (lv_at hl 1 rfl) ?_
            have hPc := hP.sub (ws' := [oPos ad u_6.1 xPos_shortest xPos_longest xPos_slip, ar (ad 28) cA 20 u_6.2.2, ar (ad 29) cA 120 gPleast]) [14, 16, 17] rfl
            have hDc := hD.sub (ws' := [oPos ad u_6.1 xPos_shortest xPos_longest xPos_slip, ar (ad 28) cA 20 u_6.2.2, ar (ad 29) cA 120 gPleast]) [14, 16, 17] (by decide) rfl
            have hFc := va_free (wc := [oPos ad u_6.1 xPos_shortest xPos_longest xPos_slip, ar (ad 28) cA 20 u_6.2.2, ar (ad 29) cA 120 gPleast]) hD hS hA [14, 16, 17] rfl
            obtain ⟨u_9, hc_9, hm⟩ := bd_ok hm
            refine va_callv (va_runV (As := [.int a1]) (rest := []) ⟨hx, hb, hml, hown, hts⟩ (kP_work l dC dI cA ad H.size a1 u_6.1 xPos_shortest xPos_longest xPos_slip u_6.2.2 gPleast u_9 hc_9) (cwV 1 hts gX9_doubt_X3_work rfl rfl rfl (by decide +kernel) ⟨Nat.le_of_ble_eq_true rfl, Nat.le_of_ble_eq_true rfl⟩) ⟨fun a U g mk q => by obtain ⟨q0, q1, qP, qK, qD⟩ := q; exact ⟨q0, q1, qP, va_K.moved (u := U) (U := U.calling g mk a) (Vm.Alike.refl U.vm) qK, qD⟩, va_recv hK hPc (ci := 3) (q0 := 0) rfl rfl, fun U hU hW => ⟨rfl, by rw [hU], by rw [hU]; exact hPc, va_K.moved hW.alike hK, hDc.weaken (fun _ _ _ _ => trivial)⟩⟩ rfl rfl hl.1 rfl (lv_room (Nat.le_of_ble_eq_true rfl)) dX9_doubt_56 ⟨by (show _ ≤ _ - _); omega, by (show _ ≤ 2 * (_ - _)); omega⟩) hS (fun q _ h => hFc q h) hFc (fun _ t H1 locs ht hvm hw hB hz1 hk1 hS => ?_)
            obtain ⟨hP1, hK1, hD1⟩ := hB
            rw [ht] at hP1
            obtain ⟨hP, hD⟩ := va_join (wr := [oHC ad xHC_first xHC_second xHC_when u_5.1, oRow ad xRow_depth xRow_length xRow_people xRow_scarves xRow_main xRow_faultPlace, ar (ad 3) cA 20 gRkinds, ar (ad 4) cA 20 gRlates, ar (ad 5) cA 20 gRhands, ar (ad 6) cA 20 gRslow, oST ad u_5.2.1 u_5.2.2.1 u_5.2.2.2.1, ar (ad 10) cA 640 u_5.2.2.2.2.1, ar (ad 11) cA 20 u_5.2.2.2.2.2.1, ar (ad 12) cA 20 u_5.2.2.2.2.2.2.1, ar (ad 13) cA 20 u_5.2.2.2.2.2.2.2.1, ar (ad 14) cA 20 u_5.2.2.2.2.2.2.2.2.1, oDia ad qe_1005 u_5.2.2.2.2.2.2.2.2.2.1, ar qe_1005 cA u_5.2.2.2.2.2.2.2.2.2.2.1 u_5.2.2.2.2.2.2.2.2.2.2.2, ar (ad 27) cA 20 u_6.2.1]) (w1 := [oPos ad u_6.1 xPos_shortest xPos_longest xPos_slip, ar (ad 28) cA 20 u_6.2.2, ar (ad 29) cA 120 u_9]) hP hD [14, 16, 17] [0, 1, 2, 3, 4, 5, 6, 7, 8, 9, 10, 11, 12, 13, 15] rfl rfl (by decide) (by decide) hk1 hFc hP1 hD1
            clear hPc hDc hFc hP1 hK1 hD1 hk1 hz1 hvm ht
            generalize H1 = H at hP hS ⊢
            have hP : va_P (dC, dI) vwCl [oHC ad xHC_first xHC_second xHC_when u_5.1, oRow ad xRow_depth xRow_length xRow_people xRow_scarves xRow_main xRow_faultPlace, ar (ad 3) cA 20 gRkinds, ar (ad 4) cA 20 gRlates, ar (ad 5) cA 20 gRhands, ar (ad 6) cA 20 gRslow, oST ad u_5.2.1 u_5.2.2.1 u_5.2.2.2.1, ar (ad 10) cA 640 u_5.2.2.2.2.1, ar (ad 11) cA 20 u_5.2.2.2.2.2.1, ar (ad 12) cA 20 u_5.2.2.2.2.2.2.1, ar (ad 13) cA 20 u_5.2.2.2.2.2.2.2.1, ar (ad 14) cA 20 u_5.2.2.2.2.2.2.2.2.1, oDia ad qe_1005 u_5.2.2.2.2.2.2.2.2.2.1, ar qe_1005 cA u_5.2.2.2.2.2.2.2.2.2.2.1 u_5.2.2.2.2.2.2.2.2.2.2.2, oPos ad u_6.1 xPos_shortest xPos_longest xPos_slip, ar (ad 27) cA 20 u_6.2.1, ar (ad 28) cA 20 u_6.2.2, ar (ad 29) cA 120 u_9] H := hP.sub [0, 1, 2, 3, 4, 5, 6, 7, 8, 9, 10, 11, 12, 13, 15, 14, 16, 17] rfl
            have hD : va_D A [oHC ad xHC_first xHC_second xHC_when u_5.1, oRow ad xRow_depth xRow_length xRow_people xRow_scarves xRow_main xRow_faultPlace, ar (ad 3) cA 20 gRkinds, ar (ad 4) cA 20 gRlates, ar (ad 5) cA 20 gRhands, ar (ad 6) cA 20 gRslow, oST ad u_5.2.1 u_5.2.2.1 u_5.2.2.2.1, ar (ad 10) cA 640 u_5.2.2.2.2.1, ar (ad 11) cA 20 u_5.2.2.2.2.2.1, ar (ad 12) cA 20 u_5.2.2.2.2.2.2.1, ar (ad 13) cA 20 u_5.2.2.2.2.2.2.2.1, ar (ad 14) cA 20 u_5.2.2.2.2.2.2.2.2.1, oDia ad qe_1005 u_5.2.2.2.2.2.2.2.2.2.1, ar qe_1005 cA u_5.2.2.2.2.2.2.2.2.2.2.1 u_5.2.2.2.2.2.2.2.2.2.2.2, oPos ad u_6.1 xPos_shortest xPos_longest xPos_slip, ar (ad 27) cA 20 u_6.2.1, ar (ad 28) cA 20 u_6.2.2, ar (ad 29) cA 120 u_9] := hD.sub [0, 1, 2, 3, 4, 5, 6, 7, 8, 9, 10, 11, 12, 13, 15, 14, 16, 17] (by decide) rfl
            refine lv_iload_n hx hb dX9_doubt_59 rfl (lv_at hl 2 rfl) ?_
            refine lv_iconst (v := (-1)) hx hb dX9_doubt_60 (by decide) ?_
            refine lv_icmp_ne (tgt := 75) hx hb dX9_doubt_61 (by decide) (fun c_10 => ?_) (fun c_10 => ?_)
            · have hm := it_neg c_10 hm
              refine lv_aload_n hx hb dX9_doubt_75 rfl (lv_at hl 0 rfl) ?_
              refine va_get (D := (dC, dI)) (ci := 9) (v := .ref (ad 26)) (C := RX9) (T := TX9) (N := 12) hx hb hts hinX9 hown hK hP 0 rfl rfl 4 (by decide) hl_47 (fun _ h9 => h9) rfl dX9_doubt_76 ?_
              refine lv_iload_n hx hb dX9_doubt_79 rfl (lv_at hl 1 rfl) ?_
              refine lv_iload_n hx hb dX9_doubt_80 rfl (lv_at hl 2 rfl) ?_
              have hPc := hP.sub (ws' := [oPos ad u_6.1 xPos_shortest xPos_longest xPos_slip, ar (ad 27) cA 20 u_6.2.1, ar (ad 28) cA 20 u_6.2.2, ar (ad 29) cA 120 u_9]) [14, 15, 16, 17] rfl
              have hDc := hD.sub (ws' := [oPos ad u_6.1 xPos_shortest xPos_longest xPos_slip, ar (ad 27) cA 20 u_6.2.1, ar (ad 28) cA 20 u_6.2.2, ar (ad 29) cA 120 u_9]) [14, 15, 16, 17] (by decide) rfl
              have hFc := va_free (wc := [oPos ad u_6.1 xPos_shortest xPos_longest xPos_slip, ar (ad 27) cA 20 u_6.2.1, ar (ad 28) cA 20 u_6.2.2, ar (ad 29) cA 120 u_9]) hD hS hA [14, 15, 16, 17] rfl
              obtain ⟨u_11, hc_11, hm⟩ := bd_ok hm
              refine va_calli (va_runV (As := [.int a1, .int a2]) (rest := []) ⟨hx, hb, hml, hown, hts⟩ (kP_chosen l dC dI cA ad H.size a1 a2 u_6.1 xPos_shortest xPos_longest xPos_slip u_6.2.1 u_6.2.2 u_9 u_11 hc_11) (cwV 2 hts gX9_doubt_X3_chosen rfl rfl rfl (by decide +kernel) ⟨Nat.le_of_ble_eq_true rfl, Nat.le_of_ble_eq_true rfl⟩) ⟨fun a U g mk q => by obtain ⟨q0, q1, qP, qK, qD⟩ := q; exact ⟨q0, q1, qP, va_K.moved (u := U) (U := U.calling g mk a) (Vm.Alike.refl U.vm) qK, qD⟩, va_recv hK hPc (ci := 3) (q0 := 0) rfl rfl, fun U hU hW => ⟨rfl, by rw [hU], by rw [hU]; exact hPc, va_K.moved hW.alike hK, hDc.weaken (fun _ _ _ _ => trivial)⟩⟩ rfl rfl hl.1 rfl (lv_room (Nat.le_of_ble_eq_true rfl)) dX9_doubt_81 ⟨by (show _ ≤ _ - _); omega, by (show _ ≤ 2 * (_ - _)); omega⟩) hS (fun q _ h => hFc q h) hFc (fun r_11 _ t H1 locs ht hvm hw hB hz1 hk1 hS => ?_)
              obtain ⟨hP1, hK1, hD1⟩ := hB
              rw [ht] at hP1
              obtain ⟨hP, hD⟩ := va_join (wr := [oHC ad xHC_first xHC_second xHC_when u_5.1, oRow ad xRow_depth xRow_length xRow_people xRow_scarves xRow_main xRow_faultPlace, ar (ad 3) cA 20 gRkinds, ar (ad 4) cA 20 gRlates, ar (ad 5) cA 20 gRhands, ar (ad 6) cA 20 gRslow, oST ad u_5.2.1 u_5.2.2.1 u_5.2.2.2.1, ar (ad 10) cA 640 u_5.2.2.2.2.1, ar (ad 11) cA 20 u_5.2.2.2.2.2.1, ar (ad 12) cA 20 u_5.2.2.2.2.2.2.1, ar (ad 13) cA 20 u_5.2.2.2.2.2.2.2.1, ar (ad 14) cA 20 u_5.2.2.2.2.2.2.2.2.1, oDia ad qe_1005 u_5.2.2.2.2.2.2.2.2.2.1, ar qe_1005 cA u_5.2.2.2.2.2.2.2.2.2.2.1 u_5.2.2.2.2.2.2.2.2.2.2.2]) (w1 := [oPos ad u_6.1 xPos_shortest xPos_longest xPos_slip, ar (ad 27) cA 20 u_6.2.1, ar (ad 28) cA 20 u_6.2.2, ar (ad 29) cA 120 u_9]) hP hD [14, 15, 16, 17] [0, 1, 2, 3, 4, 5, 6, 7, 8, 9, 10, 11, 12, 13] rfl rfl (by decide) (by decide) hk1 hFc hP1 hD1
              clear hPc hDc hFc hP1 hK1 hD1 hk1 hz1 hvm ht
              generalize H1 = H at hP hS ⊢
              have hP : va_P (dC, dI) vwCl [oHC ad xHC_first xHC_second xHC_when u_5.1, oRow ad xRow_depth xRow_length xRow_people xRow_scarves xRow_main xRow_faultPlace, ar (ad 3) cA 20 gRkinds, ar (ad 4) cA 20 gRlates, ar (ad 5) cA 20 gRhands, ar (ad 6) cA 20 gRslow, oST ad u_5.2.1 u_5.2.2.1 u_5.2.2.2.1, ar (ad 10) cA 640 u_5.2.2.2.2.1, ar (ad 11) cA 20 u_5.2.2.2.2.2.1, ar (ad 12) cA 20 u_5.2.2.2.2.2.2.1, ar (ad 13) cA 20 u_5.2.2.2.2.2.2.2.1, ar (ad 14) cA 20 u_5.2.2.2.2.2.2.2.2.1, oDia ad qe_1005 u_5.2.2.2.2.2.2.2.2.2.1, ar qe_1005 cA u_5.2.2.2.2.2.2.2.2.2.2.1 u_5.2.2.2.2.2.2.2.2.2.2.2, oPos ad u_6.1 xPos_shortest xPos_longest xPos_slip, ar (ad 27) cA 20 u_6.2.1, ar (ad 28) cA 20 u_6.2.2, ar (ad 29) cA 120 u_9] H := hP
              have hD : va_D A [oHC ad xHC_first xHC_second xHC_when u_5.1, oRow ad xRow_depth xRow_length xRow_people xRow_scarves xRow_main xRow_faultPlace, ar (ad 3) cA 20 gRkinds, ar (ad 4) cA 20 gRlates, ar (ad 5) cA 20 gRhands, ar (ad 6) cA 20 gRslow, oST ad u_5.2.1 u_5.2.2.1 u_5.2.2.2.1, ar (ad 10) cA 640 u_5.2.2.2.2.1, ar (ad 11) cA 20 u_5.2.2.2.2.2.1, ar (ad 12) cA 20 u_5.2.2.2.2.2.2.1, ar (ad 13) cA 20 u_5.2.2.2.2.2.2.2.1, ar (ad 14) cA 20 u_5.2.2.2.2.2.2.2.2.1, oDia ad qe_1005 u_5.2.2.2.2.2.2.2.2.2.1, ar qe_1005 cA u_5.2.2.2.2.2.2.2.2.2.2.1 u_5.2.2.2.2.2.2.2.2.2.2.2, oPos ad u_6.1 xPos_shortest xPos_longest xPos_slip, ar (ad 27) cA 20 u_6.2.1, ar (ad 28) cA 20 u_6.2.2, ar (ad 29) cA 120 u_9] := hD
              have hw := hw.symm
              subst hw
              obtain rfl := Option.some.inj hm
              subst hQ
              refine W.widen (k := u_5.2.2.2.2.2.2.2.2.2.2.1 - ne) (n := 2 * (u_5.2.2.2.2.2.2.2.2.2.2.1 - ne)) (by first | exact Nat.le_refl _ | omega) (by first | exact Nat.le_refl _ | omega) ?_
              exact W.iret (v := u_11) hx hb hr (fun t ht hW => ⟨⟨_, qe_1005, rfl, rfl, by rw [ht]; exact hP, va_K.moved hW.alike hK, hAe ▸ hD⟩, hS.F ht⟩) hS.2.2 dX9_doubt_84
            · have hm := it_pos c_10 hm
              refine lv_aload_n hx hb dX9_doubt_64 rfl (lv_at hl 0 rfl) ?_
              refine va_get (D := (dC, dI)) (ci := 9) (v := .ref (ad 26)) (C := RX9) (T := TX9) (N := 12) hx hb hts hinX9 hown hK hP 0 rfl rfl 4 (by decide) hl_47 (fun _ h9 => h9) rfl dX9_doubt_65 ?_
              refine lv_iload_n hx hb dX9_doubt_68 rfl (lv_at hl 1 rfl) ?_
              have hPc := hP.sub (ws' := [oPos ad u_6.1 xPos_shortest xPos_longest xPos_slip, ar (ad 29) cA 120 u_9]) [14, 17] rfl
              have hDc := hD.sub (ws' := [oPos ad u_6.1 xPos_shortest xPos_longest xPos_slip, ar (ad 29) cA 120 u_9]) [14, 17] (by decide) rfl
              have hFc := va_free (wc := [oPos ad u_6.1 xPos_shortest xPos_longest xPos_slip, ar (ad 29) cA 120 u_9]) hD hS hA [14, 17] rfl
              obtain ⟨u_12, hc_12, hm⟩ := bd_ok hm
              refine va_calli (va_runV (As := [.int a1]) (rest := []) ⟨hx, hb, hml, hown, hts⟩ (kP_leastDoubt l dC dI cA ad H.size a1 u_6.1 xPos_shortest xPos_longest xPos_slip u_9 u_12 hc_12) (cwV 1 hts gX9_doubt_X3_leastDoubt rfl rfl rfl (by decide +kernel) ⟨Nat.le_of_ble_eq_true rfl, Nat.le_of_ble_eq_true rfl⟩) ⟨fun a U g mk q => by obtain ⟨q0, q1, qP, qK, qD⟩ := q; exact ⟨q0, q1, qP, va_K.moved (u := U) (U := U.calling g mk a) (Vm.Alike.refl U.vm) qK, qD⟩, va_recv hK hPc (ci := 3) (q0 := 0) rfl rfl, fun U hU hW => ⟨rfl, by rw [hU], by rw [hU]; exact hPc, va_K.moved hW.alike hK, hDc.weaken (fun _ _ _ _ => trivial)⟩⟩ rfl rfl hl.1 rfl (lv_room (Nat.le_of_ble_eq_true rfl)) dX9_doubt_69 ⟨by (show _ ≤ _ - _); omega, by (show _ ≤ 2 * (_ - _)); omega⟩) hS (fun q _ h => hFc q h) hFc (fun r_12 _ t H1 locs ht hvm hw hB hz1 hk1 hS => ?_)
              obtain ⟨hP1, hK1, hD1⟩ := hB
              rw [ht] at hP1
              obtain ⟨hP, hD⟩ := va_join (wr := [oHC ad xHC_first xHC_second xHC_when u_5.1, oRow ad xRow_depth xRow_length xRow_people xRow_scarves xRow_main xRow_faultPlace, ar (ad 3) cA 20 gRkinds, ar (ad 4) cA 20 gRlates, ar (ad 5) cA 20 gRhands, ar (ad 6) cA 20 gRslow, oST ad u_5.2.1 u_5.2.2.1 u_5.2.2.2.1, ar (ad 10) cA 640 u_5.2.2.2.2.1, ar (ad 11) cA 20 u_5.2.2.2.2.2.1, ar (ad 12) cA 20 u_5.2.2.2.2.2.2.1, ar (ad 13) cA 20 u_5.2.2.2.2.2.2.2.1, ar (ad 14) cA 20 u_5.2.2.2.2.2.2.2.2.1, oDia ad qe_1005 u_5.2.2.2.2.2.2.2.2.2.1, ar qe_1005 cA u_5.2.2.2.2.2.2.2.2.2.2.1 u_5.2.2.2.2.2.2.2.2.2.2.2, ar (ad 27) cA 20 u_6.2.1, ar (ad 28) cA 20 u_6.2.2]) (w1 := [oPos ad u_6.1 xPos_shortest xPos_longest xPos_slip, ar (ad 29) cA 120 u_9]) hP hD [14, 17] [0, 1, 2, 3, 4, 5, 6, 7, 8, 9, 10, 11, 12, 13, 15, 16] rfl rfl (by decide) (by decide) hk1 hFc hP1 hD1
              clear hPc hDc hFc hP1 hK1 hD1 hk1 hz1 hvm ht
              generalize H1 = H at hP hS ⊢
              have hP : va_P (dC, dI) vwCl [oHC ad xHC_first xHC_second xHC_when u_5.1, oRow ad xRow_depth xRow_length xRow_people xRow_scarves xRow_main xRow_faultPlace, ar (ad 3) cA 20 gRkinds, ar (ad 4) cA 20 gRlates, ar (ad 5) cA 20 gRhands, ar (ad 6) cA 20 gRslow, oST ad u_5.2.1 u_5.2.2.1 u_5.2.2.2.1, ar (ad 10) cA 640 u_5.2.2.2.2.1, ar (ad 11) cA 20 u_5.2.2.2.2.2.1, ar (ad 12) cA 20 u_5.2.2.2.2.2.2.1, ar (ad 13) cA 20 u_5.2.2.2.2.2.2.2.1, ar (ad 14) cA 20 u_5.2.2.2.2.2.2.2.2.1, oDia ad qe_1005 u_5.2.2.2.2.2.2.2.2.2.1, ar qe_1005 cA u_5.2.2.2.2.2.2.2.2.2.2.1 u_5.2.2.2.2.2.2.2.2.2.2.2, oPos ad u_6.1 xPos_shortest xPos_longest xPos_slip, ar (ad 27) cA 20 u_6.2.1, ar (ad 28) cA 20 u_6.2.2, ar (ad 29) cA 120 u_9] H := hP.sub [0, 1, 2, 3, 4, 5, 6, 7, 8, 9, 10, 11, 12, 13, 16, 14, 15, 17] rfl
              have hD : va_D A [oHC ad xHC_first xHC_second xHC_when u_5.1, oRow ad xRow_depth xRow_length xRow_people xRow_scarves xRow_main xRow_faultPlace, ar (ad 3) cA 20 gRkinds, ar (ad 4) cA 20 gRlates, ar (ad 5) cA 20 gRhands, ar (ad 6) cA 20 gRslow, oST ad u_5.2.1 u_5.2.2.1 u_5.2.2.2.1, ar (ad 10) cA 640 u_5.2.2.2.2.1, ar (ad 11) cA 20 u_5.2.2.2.2.2.1, ar (ad 12) cA 20 u_5.2.2.2.2.2.2.1, ar (ad 13) cA 20 u_5.2.2.2.2.2.2.2.1, ar (ad 14) cA 20 u_5.2.2.2.2.2.2.2.2.1, oDia ad qe_1005 u_5.2.2.2.2.2.2.2.2.2.1, ar qe_1005 cA u_5.2.2.2.2.2.2.2.2.2.2.1 u_5.2.2.2.2.2.2.2.2.2.2.2, oPos ad u_6.1 xPos_shortest xPos_longest xPos_slip, ar (ad 27) cA 20 u_6.2.1, ar (ad 28) cA 20 u_6.2.2, ar (ad 29) cA 120 u_9] := hD.sub [0, 1, 2, 3, 4, 5, 6, 7, 8, 9, 10, 11, 12, 13, 16, 14, 15, 17] (by decide) rfl
              have hw := hw.symm
              subst hw
              refine lv_goto (tgt := 84) hx hb dX9_doubt_72 (by decide) ?_
              obtain rfl := Option.some.inj hm
              subst hQ
              refine W.widen (k := u_5.2.2.2.2.2.2.2.2.2.2.1 - ne) (n := 2 * (u_5.2.2.2.2.2.2.2.2.2.2.1 - ne)) (by first | exact Nat.le_refl _ | omega) (by first | exact Nat.le_refl _ | omega) ?_
              exact W.iret (v := u_12) hx hb hr (fun t ht hW => ⟨⟨_, qe_1005, rfl, rfl, by rw [ht]; exact hP, va_K.moved hW.alike hK, hAe ▸ hD⟩, hS.F ht⟩) hS.2.2 dX9_doubt_84
          · have hm := it_pos c_8 hm
            refine lv_bipush (v := (-3)) hx hb dX9_doubt_48 (by decide) ?_
            obtain rfl := Option.some.inj hm
            subst hQ
            refine W.widen (k := u_5.2.2.2.2.2.2.2.2.2.2.1 - ne) (n := 2 * (u_5.2.2.2.2.2.2.2.2.2.2.1 - ne)) (by first | exact Nat.le_refl _ | omega) (by first | exact Nat.le_refl _ | omega) ?_
            exact W.iret (v := (-3)) hx hb hr (fun t ht hW => ⟨⟨_, qe_1005, rfl, rfl, by rw [ht]; exact hP, va_K.moved hW.alike hK, hAe ▸ hD⟩, hS.F ht⟩) hS.2.2 dX9_doubt_50
        · have hm := it_neg c_4 hm
          refine lv_bipush (v := (-2)) hx hb dX9_doubt_19 (by decide) ?_
          obtain rfl := Option.some.inj hm
          subst hQ
          refine W.widen (k := ne - ne) (n := 2 * (ne - ne)) (by first | exact Nat.le_refl _ | omega) (by first | exact Nat.le_refl _ | omega) ?_
          exact W.iret (v := (-2)) hx hb hr (fun t ht hW => ⟨⟨_, qe, rfl, rfl, by rw [ht]; exact hP, va_K.moved hW.alike hK, hAe ▸ hD⟩, hS.F ht⟩) hS.2.2 dX9_doubt_21

set_option maxHeartbeats 4000000 in
set_option maxRecDepth 100000 in
theorem kC_posts (l : Launch) (dC : Nat → ClassId) (dI : Nat → Nat → Nat) (cA : ClassId) (ad : Nat → Nat) (qe : Nat) (sz : Nat) (a1 : Int32) (xHC_first : Int32) (xHC_second : Int32) (xHC_when : Int32) (xHC_ran : Int32) (xRow_depth : Int32) (xRow_length : Int32) (xRow_people : Int32) (xRow_scarves : Int32) (xRow_main : Int32) (xRow_faultPlace : Int32) (gRkinds : Nat → Int32) (gRlates : Nat → Int32) (gRhands : Nat → Int32) (gRslow : Nat → Int32) (xST_sleeper : Int32) (xST_lastDue : Int32) (xST_unreached : Int32) (gSTdue : Nat → Int32) (gSTbusy : Nat → Int32) (gSTfelt : Nat → Int32) (gSTlost : Nat → Int32) (gSTfirst : Nat → Int32) (xDia_size : Int32) (ne : Nat) (gDent : Nat → Int32) (xPos_size : Int32) (xPos_shortest : Int32) (xPos_longest : Int32) (xPos_slip : Int32) (gPwho : Nat → Int32) (gPat : Nat → Int32) (gPleast : Nat → Int32) (u : Int32 × Int32 × Int32 × Int32 × Int32 × (Nat → Int32) × (Nat → Int32) × (Nat → Int32) × (Nat → Int32) × (Nat → Int32) × Int32 × Nat × (Nat → Int32) × Int32 × (Nat → Int32) × (Nat → Int32) × (Nat → Int32)) (hm : fC_posts a1 xHC_first xHC_second xHC_when xHC_ran xRow_people xRow_main gRkinds gRlates gRhands gRslow xST_sleeper xST_lastDue xST_unreached gSTdue gSTbusy gSTfelt gSTlost gSTfirst xDia_size ne gDent xPos_size xPos_shortest xPos_longest xPos_slip gPwho gPat gPleast = some u) : Met l yX9_posts wsX9_posts ({ frames := 6, cells := (u.2.2.2.2.2.2.2.2.2.2.2.1 - ne), slots := (2 * (u.2.2.2.2.2.2.2.2.2.2.2.1 - ne)), locals := 138 }) (va_Pc [.ref (ad 0), .int a1] (fun U => U.heap.size = sz ∧ va_P (dC, dI) vwCl [oHC ad xHC_first xHC_second xHC_when xHC_ran, oRow ad xRow_depth xRow_length xRow_people xRow_scarves xRow_main xRow_faultPlace, ar (ad 3) cA 20 gRkinds, ar (ad 4) cA 20 gRlates, ar (ad 5) cA 20 gRhands, ar (ad 6) cA 20 gRslow, oST ad xST_sleeper xST_lastDue xST_unreached, ar (ad 10) cA 640 gSTdue, ar (ad 11) cA 20 gSTbusy, ar (ad 12) cA 20 gSTfelt, ar (ad 13) cA 20 gSTlost, ar (ad 14) cA 20 gSTfirst, oDia ad qe xDia_size, ar qe cA ne gDent, oPos ad xPos_size xPos_shortest xPos_longest xPos_slip, ar (ad 27) cA 20 gPwho, ar (ad 28) cA 20 gPat, ar (ad 29) cA 120 gPleast] U.heap ∧ va_K (dC, dI) vwCl [(cA, .int)] U ∧ va_D (fun _ => True) [oHC ad xHC_first xHC_second xHC_when xHC_ran, oRow ad xRow_depth xRow_length xRow_people xRow_scarves xRow_main xRow_faultPlace, ar (ad 3) cA 20 gRkinds, ar (ad 4) cA 20 gRlates, ar (ad 5) cA 20 gRhands, ar (ad 6) cA 20 gRslow, oST ad xST_sleeper xST_lastDue xST_unreached, ar (ad 10) cA 640 gSTdue, ar (ad 11) cA 20 gSTbusy, ar (ad 12) cA 20 gSTfelt, ar (ad 13) cA 20 gSTlost, ar (ad 14) cA 20 gSTfirst, oDia ad qe xDia_size, ar qe cA ne gDent, oPos ad xPos_size xPos_shortest xPos_longest xPos_slip, ar (ad 27) cA 20 gPwho, ar (ad 28) cA 20 gPat, ar (ad 29) cA 120 gPleast])) (va_Qi (fun (r : Int32) (_ : Nat) => r = u.1) (fun (qe2 : Nat) t => va_P (dC, dI) vwCl [oHC ad xHC_first xHC_second xHC_when u.2.1, oRow ad xRow_depth xRow_length xRow_people xRow_scarves xRow_main xRow_faultPlace, ar (ad 3) cA 20 gRkinds, ar (ad 4) cA 20 gRlates, ar (ad 5) cA 20 gRhands, ar (ad 6) cA 20 gRslow, oST ad u.2.2.1 u.2.2.2.1 u.2.2.2.2.1, ar (ad 10) cA 640 u.2.2.2.2.2.1, ar (ad 11) cA 20 u.2.2.2.2.2.2.1, ar (ad 12) cA 20 u.2.2.2.2.2.2.2.1, ar (ad 13) cA 20 u.2.2.2.2.2.2.2.2.1, ar (ad 14) cA 20 u.2.2.2.2.2.2.2.2.2.1, oDia ad qe2 u.2.2.2.2.2.2.2.2.2.2.1, ar qe2 cA u.2.2.2.2.2.2.2.2.2.2.2.1 u.2.2.2.2.2.2.2.2.2.2.2.2.1, oPos ad u.2.2.2.2.2.2.2.2.2.2.2.2.2.1 xPos_shortest xPos_longest xPos_slip, ar (ad 27) cA 20 u.2.2.2.2.2.2.2.2.2.2.2.2.2.2.1, ar (ad 28) cA 20 u.2.2.2.2.2.2.2.2.2.2.2.2.2.2.2.1, ar (ad 29) cA 120 u.2.2.2.2.2.2.2.2.2.2.2.2.2.2.2.2] t.heap ∧ va_K (dC, dI) vwCl [(cA, .int)] t ∧ va_D (va_A [oHC ad xHC_first xHC_second xHC_when xHC_ran, oRow ad xRow_depth xRow_length xRow_people xRow_scarves xRow_main xRow_faultPlace, ar (ad 3) cA 20 gRkinds, ar (ad 4) cA 20 gRlates, ar (ad 5) cA 20 gRhands, ar (ad 6) cA 20 gRslow, oST ad xST_sleeper xST_lastDue xST_unreached, ar (ad 10) cA 640 gSTdue, ar (ad 11) cA 20 gSTbusy, ar (ad 12) cA 20 gSTfelt, ar (ad 13) cA 20 gSTlost, ar (ad 14) cA 20 gSTfirst, oDia ad qe xDia_size, ar qe cA ne gDent, oPos ad xPos_size xPos_shortest xPos_longest xPos_slip, ar (ad 27) cA 20 gPwho, ar (ad 28) cA 20 gPat, ar (ad 29) cA 120 gPleast] sz) [oHC ad xHC_first xHC_second xHC_when u.2.1, oRow ad xRow_depth xRow_length xRow_people xRow_scarves xRow_main xRow_faultPlace, ar (ad 3) cA 20 gRkinds, ar (ad 4) cA 20 gRlates, ar (ad 5) cA 20 gRhands, ar (ad 6) cA 20 gRslow, oST ad u.2.2.1 u.2.2.2.1 u.2.2.2.2.1, ar (ad 10) cA 640 u.2.2.2.2.2.1, ar (ad 11) cA 20 u.2.2.2.2.2.2.1, ar (ad 12) cA 20 u.2.2.2.2.2.2.2.1, ar (ad 13) cA 20 u.2.2.2.2.2.2.2.2.1, ar (ad 14) cA 20 u.2.2.2.2.2.2.2.2.2.1, oDia ad qe2 u.2.2.2.2.2.2.2.2.2.2.1, ar qe2 cA u.2.2.2.2.2.2.2.2.2.2.2.1 u.2.2.2.2.2.2.2.2.2.2.2.2.1, oPos ad u.2.2.2.2.2.2.2.2.2.2.2.2.2.1 xPos_shortest xPos_longest xPos_slip, ar (ad 27) cA 20 u.2.2.2.2.2.2.2.2.2.2.2.2.2.2.1, ar (ad 28) cA 20 u.2.2.2.2.2.2.2.2.2.2.2.2.2.2.2.1, ar (ad 29) cA 120 u.2.2.2.2.2.2.2.2.2.2.2.2.2.2.2.2]) (va_A [oHC ad xHC_first xHC_second xHC_when xHC_ran, oRow ad xRow_depth xRow_length xRow_people xRow_scarves xRow_main xRow_faultPlace, ar (ad 3) cA 20 gRkinds, ar (ad 4) cA 20 gRlates, ar (ad 5) cA 20 gRhands, ar (ad 6) cA 20 gRslow, oST ad xST_sleeper xST_lastDue xST_unreached, ar (ad 10) cA 640 gSTdue, ar (ad 11) cA 20 gSTbusy, ar (ad 12) cA 20 gSTfelt, ar (ad 13) cA 20 gSTlost, ar (ad 14) cA 20 gSTfirst, oDia ad qe xDia_size, ar qe cA ne gDent, oPos ad xPos_size xPos_shortest xPos_longest xPos_slip, ar (ad 27) cA 20 gPwho, ar (ad 28) cA 20 gPat, ar (ad 29) cA 120 gPleast] sz)) (u.2.2.2.2.2.2.2.2.2.2.2.1 - ne) (2 * (u.2.2.2.2.2.2.2.2.2.2.2.1 - ne)) (va_A [oHC ad xHC_first xHC_second xHC_when xHC_ran, oRow ad xRow_depth xRow_length xRow_people xRow_scarves xRow_main xRow_faultPlace, ar (ad 3) cA 20 gRkinds, ar (ad 4) cA 20 gRlates, ar (ad 5) cA 20 gRhands, ar (ad 6) cA 20 gRslow, oST ad xST_sleeper xST_lastDue xST_unreached, ar (ad 10) cA 640 gSTdue, ar (ad 11) cA 20 gSTbusy, ar (ad 12) cA 20 gSTfelt, ar (ad 13) cA 20 gSTlost, ar (ad 14) cA 20 gSTfirst, oDia ad qe xDia_size, ar qe cA ne gDent, oPos ad xPos_size xPos_shortest xPos_longest xPos_slip, ar (ad 27) cA 20 gPwho, ar (ad 28) cA 20 gPat, ar (ad 29) cA 120 gPleast] sz) := by
  refine Met.ofW (cc := cX9_posts) (maxL := 3) (ret := (some .int)) (by decide) rfl ?_
  intro p e s m args below meth c s₁ B hml hv
  obtain ⟨rfl, hsz, hP, hK, hD0⟩ := hv
  have hx := B.exec
  have hb := B.bytes
  have hr := B.returns
  have hts := atoms_spec (ws := wsX9_posts) B.pre
  have hown : s.vm.findClass RX9 = some m.cls := findClass_of_methodNamed B.named
  have hlocks := B.notSynchronized
  subst hsz
  have hD := hD0.self (sz := s.heap.size)
  generalize hAe : va_A [oHC ad xHC_first xHC_second xHC_when xHC_ran, oRow ad xRow_depth xRow_length xRow_people xRow_scarves xRow_main xRow_faultPlace, ar (ad 3) cA 20 gRkinds, ar (ad 4) cA 20 gRlates, ar (ad 5) cA 20 gRhands, ar (ad 6) cA 20 gRslow, oST ad xST_sleeper xST_lastDue xST_unreached, ar (ad 10) cA 640 gSTdue, ar (ad 11) cA 20 gSTbusy, ar (ad 12) cA 20 gSTfelt, ar (ad 13) cA 20 gSTlost, ar (ad 14) cA 20 gSTfirst, oDia ad qe xDia_size, ar qe cA ne gDent, oPos ad xPos_size xPos_shortest xPos_longest xPos_slip, ar (ad 27) cA 20 gPwho, ar (ad 28) cA 20 gPat, ar (ad 29) cA 120 gPleast] s.heap.size = A at hD ⊢
  have hA : ∀ q : Nat, s.heap.size ≤ q → A q := fun q h => by rw [← hAe]; exact Or.inr h
  have hS : va_S A s.heap s.heap [] := va_S.rf
  have hl := lv_entry ([.ref (ad 0), .int a1]) (n := 3) (Nat.le_of_ble_eq_true rfl)
  rw [lg_entry_eq]
  generalize (lg_sl ([.ref (ad 0), .int a1]) ++ List.replicate (3 - (lg_sl ([.ref (ad 0), .int a1])).length) Slot.unset).toArray = ls at hl ⊢
  have hl : lv_has ls 3 [(0, .ref (ad 0)), (1, .int a1)] := hl
  refine wk_Q (fun QQ hQ => ?_)
  have hinX9 : ∀ w ∈ wsX90, w ∈ wsX9_posts := fun w h => List.mem_cons_of_mem _ (inlX9 w h)
  have hl_47 := hts (.fieldLink RX9 47 "HandCensus" "posting" "LHandCensus$Posting;") (List.mem_cons_of_mem _ (in_r2 _ (List.mem_of_getElem? (i := 10) rfl)))
  have hl_10 := hts (.fieldLink RX9 10 "HandCensus" "row" "LHandCensus$Row;") (List.mem_cons_of_mem _ (in_r1 _ (List.mem_of_getElem? (i := 15) rfl)))
  have h_53 : ∀ (v1_53 : Int32) (xHC_ran_53 : Int32) (xST_sleeper_53 : Int32) (xST_lastDue_53 : Int32) (xST_unreached_53 : Int32) (gSTdue_53 : Nat → Int32) (gSTbusy_53 : Nat → Int32) (gSTfelt_53 : Nat → Int32) (gSTlost_53 : Nat → Int32) (gSTfirst_53 : Nat → Int32) (xDia_size_53 : Int32) (ne_53 : Nat) (gDent_53 : Nat → Int32) (xPos_size_53 : Int32) (gPwho_53 : Nat → Int32) (gPat_53 : Nat → Int32) (gPleast_53 : Nat → Int32), ∀ (n_53 : Nat), ∀ (v2_53 : Int32), fC_posts_53 v1_53 xHC_ran_53 xST_sleeper_53 xST_lastDue_53 xST_unreached_53 gSTdue_53 gSTbusy_53 gSTfelt_53 gSTlost_53 gSTfirst_53 xDia_size_53 ne_53 gDent_53 xPos_size_53 gPwho_53 gPat_53 gPleast_53 n_53 v2_53 = some u → ∀ (qe_53 : Nat) (H : Heap) (locs : List Loc), ne ≤ ne_53 → ne_53 ≤ u.2.2.2.2.2.2.2.2.2.2.2.1 → va_P (dC, dI) vwCl [oHC ad xHC_first xHC_second xHC_when xHC_ran_53, oRow ad xRow_depth xRow_length xRow_people xRow_scarves xRow_main xRow_faultPlace, ar (ad 3) cA 20 gRkinds, ar (ad 4) cA 20 gRlates, ar (ad 5) cA 20 gRhands, ar (ad 6) cA 20 gRslow, oST ad xST_sleeper_53 xST_lastDue_53 xST_unreached_53, ar (ad 10) cA 640 gSTdue_53, ar (ad 11) cA 20 gSTbusy_53, ar (ad 12) cA 20 gSTfelt_53, ar (ad 13) cA 20 gSTlost_53, ar (ad 14) cA 20 gSTfirst_53, oDia ad qe_53 xDia_size_53, ar qe_53 cA ne_53 gDent_53, oPos ad xPos_size_53 xPos_shortest xPos_longest xPos_slip, ar (ad 27) cA 20 gPwho_53, ar (ad 28) cA 20 gPat_53, ar (ad 29) cA 120 gPleast_53] H → va_D A [oHC ad xHC_first xHC_second xHC_when xHC_ran_53, oRow ad xRow_depth xRow_length xRow_people xRow_scarves xRow_main xRow_faultPlace, ar (ad 3) cA 20 gRkinds, ar (ad 4) cA 20 gRlates, ar (ad 5) cA 20 gRhands, ar (ad 6) cA 20 gRslow, oST ad xST_sleeper_53 xST_lastDue_53 xST_unreached_53, ar (ad 10) cA 640 gSTdue_53, ar (ad 11) cA 20 gSTbusy_53, ar (ad 12) cA 20 gSTfelt_53, ar (ad 13) cA 20 gSTlost_53, ar (ad 14) cA 20 gSTfirst_53, oDia ad qe_53 xDia_size_53, ar qe_53 cA ne_53 gDent_53, oPos ad xPos_size_53 xPos_shortest xPos_longest xPos_slip, ar (ad 27) cA 20 gPwho_53, ar (ad 28) cA 20 gPat_53, ar (ad 29) cA 120 gPleast_53] → va_S A s.heap H locs → ∀ ls : Array Slot, lv_has ls 3 [(0, .ref (ad 0)), (1, .int v1_53), (2, .int v2_53)] → W p l e (headSpec wsX9_posts ({ frames := 6, cells := (u.2.2.2.2.2.2.2.2.2.2.2.1 - ne), slots := (2 * (u.2.2.2.2.2.2.2.2.2.2.2.1 - ne)), locals := 138 })).room s m ([.ref (ad 0), .int a1] : List Value).toArray below meth c H locs (ne_53 - ne) (2 * (ne_53 - ne)) QQ (F0 m 53 ls []) := by
    intro v1_53 xHC_ran_53 xST_sleeper_53 xST_lastDue_53 xST_unreached_53 gSTdue_53 gSTbusy_53 gSTfelt_53 gSTlost_53 gSTfirst_53 xDia_size_53 ne_53 gDent_53 xPos_size_53 gPwho_53 gPat_53 gPleast_53
    intro n_53
    induction n_53 with
    | zero => intro v2_53 hm; have hm : (none : Option (Int32 × Int32 × Int32 × Int32 × Int32 × (Nat → Int32) × (Nat → Int32) × (Nat → Int32) × (Nat → Int32) × (Nat → Int32) × Int32 × Nat × (Nat → Int32) × Int32 × (Nat → Int32) × (Nat → Int32) × (Nat → Int32))) = some u := hm; cases hm
    | succ n_53 ih_53 =>
      intro v2_53 hm qe_53 H locs hne hnu hP hD hS ls hl
      have hm : fC_posts_53_b  (fC_posts_53  v1_53 xHC_ran_53 xST_sleeper_53 xST_lastDue_53 xST_unreached_53 gSTdue_53 gSTbusy_53 gSTfelt_53 gSTlost_53 gSTfirst_53 xDia_size_53 ne_53 gDent_53 xPos_size_53 gPwho_53 gPat_53 gPleast_53 n_53) v1_53 xHC_ran_53 xST_sleeper_53 xST_lastDue_53 xST_unreached_53 gSTdue_53 gSTbusy_53 gSTfelt_53 gSTlost_53 gSTfirst_53 xDia_size_53 ne_53 gDent_53 xPos_size_53 gPwho_53 gPat_53 gPleast_53 v2_53 = some u := hm
      unfold fC_posts_53_b at hm
      refine lv_iload_n hx hb dX9_posts_53 rfl (lv_at hl 2 rfl) ?_
      refine lv_iconst (v := 5) hx hb dX9_posts_54 (by decide) ?_
      refine lv_icmp_gt (tgt := 89) hx hb dX9_posts_55 (by decide) (fun c_1 => ?_) (fun c_1 => ?_)
      · have hm := it_pos c_1 hm
        refine lv_iconst (v := (-1)) hx hb dX9_posts_89 (by decide) ?_
        obtain rfl := Option.some.inj hm
        subst hQ
        refine W.widen (k := ne_53 - ne) (n := 2 * (ne_53 - ne)) (by first | exact Nat.le_refl _ | omega) (by first | exact Nat.le_refl _ | omega) ?_
        exact W.iret (v := (-1)) hx hb hr (fun t ht hW => ⟨⟨_, qe_53, rfl, rfl, by rw [ht]; exact hP, va_K.moved hW.alike hK, hAe ▸ hD⟩, hS.F ht⟩) hS.2.2 dX9_posts_90
      · have hm := it_neg c_1 hm
        refine lv_aload_n hx hb dX9_posts_58 rfl (lv_at hl 0 rfl) ?_
        refine va_get (D := (dC, dI)) (ci := 9) (v := .ref (ad 26)) (C := RX9) (T := TX9) (N := 12) hx hb hts hinX9 hown hK hP 0 rfl rfl 4 (by decide) hl_47 (fun _ h9 => h9) rfl dX9_posts_59 ?_
        refine lv_iload_n hx hb dX9_posts_62 rfl (lv_at hl 2 rfl) ?_
        have hPc := hP.sub (ws' := [oPos ad xPos_size_53 xPos_shortest xPos_longest xPos_slip]) [14] rfl
        have hDc := hD.sub (ws' := [oPos ad xPos_size_53 xPos_shortest xPos_longest xPos_slip]) [14] (by decide) rfl
        have hFc := va_free (wc := [oPos ad xPos_size_53 xPos_shortest xPos_longest xPos_slip]) hD hS hA [14] rfl
        obtain ⟨u_2, hc_2, hm⟩ := bd_ok hm
        refine va_calli (va_runV (As := [.int v2_53]) (rest := []) ⟨hx, hb, hml, hown, hts⟩ (kP_hasRoomFor l dC dI cA ad H.size v2_53 xPos_size_53 xPos_shortest xPos_longest xPos_slip u_2 hc_2) (cwV 1 hts gX9_posts_X3_hasRoomFor rfl rfl rfl (by decide +kernel) ⟨Nat.le_of_ble_eq_true rfl, Nat.le_of_ble_eq_true rfl⟩) ⟨fun a U g mk q => by obtain ⟨q0, q1, qP, qK, qD⟩ := q; exact ⟨q0, q1, qP, va_K.moved (u := U) (U := U.calling g mk a) (Vm.Alike.refl U.vm) qK, qD⟩, va_recv hK hPc (ci := 3) (q0 := 0) rfl rfl, fun U hU hW => ⟨rfl, by rw [hU], by rw [hU]; exact hPc, va_K.moved hW.alike hK, hDc.weaken (fun _ _ _ _ => trivial)⟩⟩ rfl rfl hl.1 rfl (lv_room (Nat.le_of_ble_eq_true rfl)) dX9_posts_63 ⟨by (show _ ≤ _ - _); omega, by (show _ ≤ 2 * (_ - _)); omega⟩) hS (fun q _ h => hFc q h) hFc (fun r_2 _ t H1 locs ht hvm hw hB hz1 hk1 hS => ?_)
        obtain ⟨hP1, hK1, hD1⟩ := hB
        rw [ht] at hP1
        obtain ⟨hP, hD⟩ := va_join (wr := [oHC ad xHC_first xHC_second xHC_when xHC_ran_53, oRow ad xRow_depth xRow_length xRow_people xRow_scarves xRow_main xRow_faultPlace, ar (ad 3) cA 20 gRkinds, ar (ad 4) cA 20 gRlates, ar (ad 5) cA 20 gRhands, ar (ad 6) cA 20 gRslow, oST ad xST_sleeper_53 xST_lastDue_53 xST_unreached_53, ar (ad 10) cA 640 gSTdue_53, ar (ad 11) cA 20 gSTbusy_53, ar (ad 12) cA 20 gSTfelt_53, ar (ad 13) cA 20 gSTlost_53, ar (ad 14) cA 20 gSTfirst_53, oDia ad qe_53 xDia_size_53, ar qe_53 cA ne_53 gDent_53, ar (ad 27) cA 20 gPwho_53, ar (ad 28) cA 20 gPat_53, ar (ad 29) cA 120 gPleast_53]) (w1 := [oPos ad xPos_size_53 xPos_shortest xPos_longest xPos_slip]) hP hD [14] [0, 1, 2, 3, 4, 5, 6, 7, 8, 9, 10, 11, 12, 13, 15, 16, 17] rfl rfl (by decide) (by decide) hk1 hFc hP1 hD1
        clear hPc hDc hFc hP1 hK1 hD1 hk1 hz1 hvm ht
        generalize H1 = H at hP hS ⊢
        have hP : va_P (dC, dI) vwCl [oHC ad xHC_first xHC_second xHC_when xHC_ran_53, oRow ad xRow_depth xRow_length xRow_people xRow_scarves xRow_main xRow_faultPlace, ar (ad 3) cA 20 gRkinds, ar (ad 4) cA 20 gRlates, ar (ad 5) cA 20 gRhands, ar (ad 6) cA 20 gRslow, oST ad xST_sleeper_53 xST_lastDue_53 xST_unreached_53, ar (ad 10) cA 640 gSTdue_53, ar (ad 11) cA 20 gSTbusy_53, ar (ad 12) cA 20 gSTfelt_53, ar (ad 13) cA 20 gSTlost_53, ar (ad 14) cA 20 gSTfirst_53, oDia ad qe_53 xDia_size_53, ar qe_53 cA ne_53 gDent_53, oPos ad xPos_size_53 xPos_shortest xPos_longest xPos_slip, ar (ad 27) cA 20 gPwho_53, ar (ad 28) cA 20 gPat_53, ar (ad 29) cA 120 gPleast_53] H := hP.sub [0, 1, 2, 3, 4, 5, 6, 7, 8, 9, 10, 11, 12, 13, 17, 14, 15, 16] rfl
        have hD : va_D A [oHC ad xHC_first xHC_second xHC_when xHC_ran_53, oRow ad xRow_depth xRow_length xRow_people xRow_scarves xRow_main xRow_faultPlace, ar (ad 3) cA 20 gRkinds, ar (ad 4) cA 20 gRlates, ar (ad 5) cA 20 gRhands, ar (ad 6) cA 20 gRslow, oST ad xST_sleeper_53 xST_lastDue_53 xST_unreached_53, ar (ad 10) cA 640 gSTdue_53, ar (ad 11) cA 20 gSTbusy_53, ar (ad 12) cA 20 gSTfelt_53, ar (ad 13) cA 20 gSTlost_53, ar (ad 14) cA 20 gSTfirst_53, oDia ad qe_53 xDia_size_53, ar qe_53 cA ne_53 gDent_53, oPos ad xPos_size_53 xPos_shortest xPos_longest xPos_slip, ar (ad 27) cA 20 gPwho_53, ar (ad 28) cA 20 gPat_53, ar (ad 29) cA 120 gPleast_53] := hD.sub [0, 1, 2, 3, 4, 5, 6, 7, 8, 9, 10, 11, 12, 13, 17, 14, 15, 16] (by decide) rfl
        have hw := hw.symm
        subst hw
        refine lv_if_eq (tgt := 89) hx hb dX9_posts_66 (by decide) (fun c_3 => ?_) (fun c_3 => ?_)
        · have hm := it_pos c_3 hm
          refine lv_iconst (v := (-1)) hx hb dX9_posts_89 (by decide) ?_
          obtain rfl := Option.some.inj hm
          subst hQ
          refine W.widen (k := ne_53 - ne) (n := 2 * (ne_53 - ne)) (by first | exact Nat.le_refl _ | omega) (by first | exact Nat.le_refl _ | omega) ?_
          exact W.iret (v := (-1)) hx hb hr (fun t ht hW => ⟨⟨_, qe_53, rfl, rfl, by rw [ht]; exact hP, va_K.moved hW.alike hK, hAe ▸ hD⟩, hS.F ht⟩) hS.2.2 dX9_posts_90
        · have hm := it_neg c_3 hm
          refine lv_aload_n hx hb dX9_posts_69 rfl (lv_at hl 0 rfl) ?_
          refine va_get (D := (dC, dI)) (ci := 9) (v := .ref (ad 26)) (C := RX9) (T := TX9) (N := 12) hx hb hts hinX9 hown hK hP 0 rfl rfl 4 (by decide) hl_47 (fun _ h9 => h9) rfl dX9_posts_70 ?_
          refine lv_iload_n hx hb dX9_posts_73 rfl (lv_at hl 2 rfl) ?_
          have hPc := hP.sub (ws' := [oPos ad xPos_size_53 xPos_shortest xPos_longest xPos_slip, ar (ad 29) cA 120 gPleast_53]) [14, 17] rfl
          have hDc := hD.sub (ws' := [oPos ad xPos_size_53 xPos_shortest xPos_longest xPos_slip, ar (ad 29) cA 120 gPleast_53]) [14, 17] (by decide) rfl
          have hFc := va_free (wc := [oPos ad xPos_size_53 xPos_shortest xPos_longest xPos_slip, ar (ad 29) cA 120 gPleast_53]) hD hS hA [14, 17] rfl
          obtain ⟨u_4, hc_4, hm⟩ := bd_ok hm
          refine va_calli (va_runV (As := [.int v2_53]) (rest := []) ⟨hx, hb, hml, hown, hts⟩ (kP_leastDoubt l dC dI cA ad H.size v2_53 xPos_size_53 xPos_shortest xPos_longest xPos_slip gPleast_53 u_4 hc_4) (cwV 1 hts gX9_posts_X3_leastDoubt rfl rfl rfl (by decide +kernel) ⟨Nat.le_of_ble_eq_true rfl, Nat.le_of_ble_eq_true rfl⟩) ⟨fun a U g mk q => by obtain ⟨q0, q1, qP, qK, qD⟩ := q; exact ⟨q0, q1, qP, va_K.moved (u := U) (U := U.calling g mk a) (Vm.Alike.refl U.vm) qK, qD⟩, va_recv hK hPc (ci := 3) (q0 := 0) rfl rfl, fun U hU hW => ⟨rfl, by rw [hU], by rw [hU]; exact hPc, va_K.moved hW.alike hK, hDc.weaken (fun _ _ _ _ => trivial)⟩⟩ rfl rfl hl.1 rfl (lv_room (Nat.le_of_ble_eq_true rfl)) dX9_posts_74 ⟨by (show _ ≤ _ - _); omega, by (show _ ≤ 2 * (_ - _)); omega⟩) hS (fun q _ h => hFc q h) hFc (fun r_4 _ t H1 locs ht hvm hw hB hz1 hk1 hS => ?_)
          obtain ⟨hP1, hK1, hD1⟩ := hB
          rw [ht] at hP1
          obtain ⟨hP, hD⟩ := va_join (wr := [oHC ad xHC_first xHC_second xHC_when xHC_ran_53, oRow ad xRow_depth xRow_length xRow_people xRow_scarves xRow_main xRow_faultPlace, ar (ad 3) cA 20 gRkinds, ar (ad 4) cA 20 gRlates, ar (ad 5) cA 20 gRhands, ar (ad 6) cA 20 gRslow, oST ad xST_sleeper_53 xST_lastDue_53 xST_unreached_53, ar (ad 10) cA 640 gSTdue_53, ar (ad 11) cA 20 gSTbusy_53, ar (ad 12) cA 20 gSTfelt_53, ar (ad 13) cA 20 gSTlost_53, ar (ad 14) cA 20 gSTfirst_53, oDia ad qe_53 xDia_size_53, ar qe_53 cA ne_53 gDent_53, ar (ad 27) cA 20 gPwho_53, ar (ad 28) cA 20 gPat_53]) (w1 := [oPos ad xPos_size_53 xPos_shortest xPos_longest xPos_slip, ar (ad 29) cA 120 gPleast_53]) hP hD [14, 17] [0, 1, 2, 3, 4, 5, 6, 7, 8, 9, 10, 11, 12, 13, 15, 16] rfl rfl (by decide) (by decide) hk1 hFc hP1 hD1
          clear hPc hDc hFc hP1 hK1 hD1 hk1 hz1 hvm ht
          generalize H1 = H at hP hS ⊢
          have hP : va_P (dC, dI) vwCl [oHC ad xHC_first xHC_second xHC_when xHC_ran_53, oRow ad xRow_depth xRow_length xRow_people xRow_scarves xRow_main xRow_faultPlace, ar (ad 3) cA 20 gRkinds, ar (ad 4) cA 20 gRlates, ar (ad 5) cA 20 gRhands, ar (ad 6) cA 20 gRslow, oST ad xST_sleeper_53 xST_lastDue_53 xST_unreached_53, ar (ad 10) cA 640 gSTdue_53, ar (ad 11) cA 20 gSTbusy_53, ar (ad 12) cA 20 gSTfelt_53, ar (ad 13) cA 20 gSTlost_53, ar (ad 14) cA 20 gSTfirst_53, oDia ad qe_53 xDia_size_53, ar qe_53 cA ne_53 gDent_53, oPos ad xPos_size_53 xPos_shortest xPos_longest xPos_slip, ar (ad 27) cA 20 gPwho_53, ar (ad 28) cA 20 gPat_53, ar (ad 29) cA 120 gPleast_53] H := hP.sub [0, 1, 2, 3, 4, 5, 6, 7, 8, 9, 10, 11, 12, 13, 16, 14, 15, 17] rfl
          have hD : va_D A [oHC ad xHC_first xHC_second xHC_when xHC_ran_53, oRow ad xRow_depth xRow_length xRow_people xRow_scarves xRow_main xRow_faultPlace, ar (ad 3) cA 20 gRkinds, ar (ad 4) cA 20 gRlates, ar (ad 5) cA 20 gRhands, ar (ad 6) cA 20 gRslow, oST ad xST_sleeper_53 xST_lastDue_53 xST_unreached_53, ar (ad 10) cA 640 gSTdue_53, ar (ad 11) cA 20 gSTbusy_53, ar (ad 12) cA 20 gSTfelt_53, ar (ad 13) cA 20 gSTlost_53, ar (ad 14) cA 20 gSTfirst_53, oDia ad qe_53 xDia_size_53, ar qe_53 cA ne_53 gDent_53, oPos ad xPos_size_53 xPos_shortest xPos_longest xPos_slip, ar (ad 27) cA 20 gPwho_53, ar (ad 28) cA 20 gPat_53, ar (ad 29) cA 120 gPleast_53] := hD.sub [0, 1, 2, 3, 4, 5, 6, 7, 8, 9, 10, 11, 12, 13, 16, 14, 15, 17] (by decide) rfl
          have hw := hw.symm
          subst hw
          refine lv_iload_n hx hb dX9_posts_77 rfl (lv_at hl 1 rfl) ?_
          refine lv_icmp_gt (tgt := 83) hx hb dX9_posts_78 (by decide) (fun c_5 => ?_) (fun c_5 => ?_)
          · have hm := it_pos c_5 hm
            refine lv_iinc (v := (v2_53 + 1)) (lv' := [(2, .int (v2_53 + 1)), (0, .ref (ad 0)), (1, .int v1_53)]) hx hb dX9_posts_83 hl (k := 2) rfl rfl (by decide) rfl (fun ls hl => ?_)
            refine lv_goto (tgt := 53) hx hb dX9_posts_86 (by decide) ?_
            refine W.widen (k := ne_53 - ne) (n := 2 * (ne_53 - ne)) (by first | exact Nat.le_refl _ | omega) (by first | exact Nat.le_refl _ | omega) ?_
            exact ih_53 _ hm _ _ _ (by omega) (by omega) hP hD hS _ (lv_sub hl [1, 2, 0] rfl)
          · have hm := it_neg c_5 hm
            refine lv_iload_n hx hb dX9_posts_81 rfl (lv_at hl 2 rfl) ?_
            obtain rfl := Option.some.inj hm
            subst hQ
            refine W.widen (k := ne_53 - ne) (n := 2 * (ne_53 - ne)) (by first | exact Nat.le_refl _ | omega) (by first | exact Nat.le_refl _ | omega) ?_
            exact W.iret (v := v2_53) hx hb hr (fun t ht hW => ⟨⟨_, qe_53, rfl, rfl, by rw [ht]; exact hP, va_K.moved hW.alike hK, hAe ▸ hD⟩, hS.F ht⟩) hS.2.2 dX9_posts_82
  unfold fC_posts at hm
  obtain ⟨hz0, hm⟩ := mz_ok hm
  have hz0 : ne ≤ u.2.2.2.2.2.2.2.2.2.2.2.1 := hz0
  refine lv_iload_n hx hb dX9_posts_0 rfl (lv_at hl 1 rfl) ?_
  refine lv_if_lt (tgt := 11) hx hb dX9_posts_1 (by decide) (fun c_6 => ?_) (fun c_6 => ?_)
  · have hm := it_pos c_6 hm
    refine lv_bipush (v := (-2)) hx hb dX9_posts_11 (by decide) ?_
    obtain rfl := Option.some.inj hm
    subst hQ
    refine W.widen (k := ne - ne) (n := 2 * (ne - ne)) (by first | exact Nat.le_refl _ | omega) (by first | exact Nat.le_refl _ | omega) ?_
    exact W.iret (v := (-2)) hx hb hr (fun t ht hW => ⟨⟨_, qe, rfl, rfl, by rw [ht]; exact hP, va_K.moved hW.alike hK, hAe ▸ hD⟩, hS.F ht⟩) hS.2.2 dX9_posts_13
  · have hm := it_neg c_6 hm
    refine lv_iload_n hx hb dX9_posts_4 rfl (lv_at hl 1 rfl) ?_
    refine lv_sipush (v := 9999) hx hb dX9_posts_5 (by decide) ?_
    refine lv_icmp_le (tgt := 14) hx hb dX9_posts_8 (by decide) (fun c_7 => ?_) (fun c_7 => ?_)
    · have hm := it_pos c_7 hm
      refine lv_aload_n hx hb dX9_posts_14 rfl (lv_at hl 0 rfl) ?_
      refine va_get (D := (dC, dI)) (ci := 9) (v := .ref (ad 26)) (C := RX9) (T := TX9) (N := 12) hx hb hts hinX9 hown hK hP 0 rfl rfl 4 (by decide) hl_47 (fun _ h9 => h9) rfl dX9_posts_15 ?_
      refine lv_aload_n hx hb dX9_posts_18 rfl (lv_at hl 0 rfl) ?_
      refine va_get (D := (dC, dI)) (ci := 9) (v := .ref (ad 1)) (C := RX9) (T := TX9) (N := 12) hx hb hts hinX9 hown hK hP 0 rfl rfl 0 (by decide) hl_10 (fun _ h9 => h9) rfl dX9_posts_19 ?_
      refine lv_aload_n hx hb dX9_posts_22 rfl (lv_at hl 0 rfl) ?_
      have hPc := hP.sub (ws' := [oHC ad xHC_first xHC_second xHC_when xHC_ran, oRow ad xRow_depth xRow_length xRow_people xRow_scarves xRow_main xRow_faultPlace, ar (ad 3) cA 20 gRkinds, ar (ad 4) cA 20 gRlates, ar (ad 5) cA 20 gRhands, ar (ad 6) cA 20 gRslow, oST ad xST_sleeper xST_lastDue xST_unreached, ar (ad 10) cA 640 gSTdue, ar (ad 11) cA 20 gSTbusy, ar (ad 12) cA 20 gSTfelt, ar (ad 13) cA 20 gSTlost, ar (ad 14) cA 20 gSTfirst, oDia ad qe xDia_size, ar qe cA ne gDent]) [0, 1, 2, 3, 4, 5, 6, 7, 8, 9, 10, 11, 12, 13] rfl
      have hDc := hD.sub (ws' := [oHC ad xHC_first xHC_second xHC_when xHC_ran, oRow ad xRow_depth xRow_length xRow_people xRow_scarves xRow_main xRow_faultPlace, ar (ad 3) cA 20 gRkinds, ar (ad 4) cA 20 gRlates, ar (ad 5) cA 20 gRhands, ar (ad 6) cA 20 gRslow, oST ad xST_sleeper xST_lastDue xST_unreached, ar (ad 10) cA 640 gSTdue, ar (ad 11) cA 20 gSTbusy, ar (ad 12) cA 20 gSTfelt, ar (ad 13) cA 20 gSTlost, ar (ad 14) cA 20 gSTfirst, oDia ad qe xDia_size, ar qe cA ne gDent]) [0, 1, 2, 3, 4, 5, 6, 7, 8, 9, 10, 11, 12, 13] (by decide) rfl
      have hFc := va_free (wc := [oHC ad xHC_first xHC_second xHC_when xHC_ran, oRow ad xRow_depth xRow_length xRow_people xRow_scarves xRow_main xRow_faultPlace, ar (ad 3) cA 20 gRkinds, ar (ad 4) cA 20 gRlates, ar (ad 5) cA 20 gRhands, ar (ad 6) cA 20 gRslow, oST ad xST_sleeper xST_lastDue xST_unreached, ar (ad 10) cA 640 gSTdue, ar (ad 11) cA 20 gSTbusy, ar (ad 12) cA 20 gSTfelt, ar (ad 13) cA 20 gSTlost, ar (ad 14) cA 20 gSTfirst, oDia ad qe xDia_size, ar qe cA ne gDent]) hD hS hA [0, 1, 2, 3, 4, 5, 6, 7, 8, 9, 10, 11, 12, 13] rfl
      obtain ⟨u_8, hc_8, hn1_8, hn2_8, hm⟩ := bm_ok hm
      have hn1_8 : ne ≤ u_8.2.2.2.2.2.2.2.2.2.2.1 := hn1_8
      have hn2_8 : u_8.2.2.2.2.2.2.2.2.2.2.1 ≤ u.2.2.2.2.2.2.2.2.2.2.2.1 := hn2_8
      refine va_callr (va_runV (As := []) (rest := [.ref (ad 1), .ref (ad 26)]) ⟨hx, hb, hml, hown, hts⟩ (kC_asTold l dC dI cA ad qe s.heap.size xHC_first xHC_second xHC_when xHC_ran xRow_depth xRow_length xRow_people xRow_scarves xRow_main xRow_faultPlace gRkinds gRlates gRhands gRslow xST_sleeper xST_lastDue xST_unreached gSTdue gSTbusy gSTfelt gSTlost gSTfirst xDia_size ne gDent u_8 hc_8) (cwV 0 hts gX9_posts_X9_asTold rfl rfl rfl (by decide +kernel) ⟨Nat.le_of_ble_eq_true rfl, Nat.le_of_ble_eq_true rfl⟩) ⟨fun a U g mk q => by obtain ⟨q0, q1, qP, qK, qD⟩ := q; exact ⟨q0, q1, qP, va_K.moved (u := U) (U := U.calling g mk a) (Vm.Alike.refl U.vm) qK, qD⟩, va_recv hK hPc (ci := 9) (q0 := 0) rfl rfl, fun U hU hW => ⟨rfl, by rw [hU], by rw [hU]; exact hPc, va_K.moved hW.alike hK, hDc.weaken (fun _ _ _ _ => trivial)⟩⟩ rfl rfl hl.1 rfl (lv_room (Nat.le_of_ble_eq_true rfl)) dX9_posts_23 ⟨by (show _ ≤ _ - _); omega, by (show _ ≤ 2 * (_ - _)); omega⟩) hS (fun q _ h => hFc q h) hFc (fun qe_1008 ra_8 t H1 locs ht hvm hw hB hz1 hk1 hS => ?_)
      obtain ⟨hra_8, hP1, hK1, hD1⟩ := hB
      subst hra_8
      rw [ht] at hP1
      obtain ⟨hP, hD⟩ := va_join (wr := [oPos ad xPos_size xPos_shortest xPos_longest xPos_slip, ar (ad 27) cA 20 gPwho, ar (ad 28) cA 20 gPat, ar (ad 29) cA 120 gPleast]) (w1 := [oHC ad xHC_first xHC_second xHC_when u_8.1, oRow ad xRow_depth xRow_length xRow_people xRow_scarves xRow_main xRow_faultPlace, ar (ad 3) cA 20 gRkinds, ar (ad 4) cA 20 gRlates, ar (ad 5) cA 20 gRhands, ar (ad 6) cA 20 gRslow, oST ad u_8.2.1 u_8.2.2.1 u_8.2.2.2.1, ar (ad 10) cA 640 u_8.2.2.2.2.1, ar (ad 11) cA 20 u_8.2.2.2.2.2.1, ar (ad 12) cA 20 u_8.2.2.2.2.2.2.1, ar (ad 13) cA 20 u_8.2.2.2.2.2.2.2.1, ar (ad 14) cA 20 u_8.2.2.2.2.2.2.2.2.1, oDia ad qe_1008 u_8.2.2.2.2.2.2.2.2.2.1, ar qe_1008 cA u_8.2.2.2.2.2.2.2.2.2.2.1 u_8.2.2.2.2.2.2.2.2.2.2.2]) hP hD [0, 1, 2, 3, 4, 5, 6, 7, 8, 9, 10, 11, 12, 13] [14, 15, 16, 17] rfl rfl (by decide) (by decide) hk1 hFc hP1 hD1
      clear hPc hDc hFc hP1 hK1 hD1 hk1 hz1 hvm ht
      generalize H1 = H at hP hS ⊢
      have hP : va_P (dC, dI) vwCl [oHC ad xHC_first xHC_second xHC_when u_8.1, oRow ad xRow_depth xRow_length xRow_people xRow_scarves xRow_main xRow_faultPlace, ar (ad 3) cA 20 gRkinds, ar (ad 4) cA 20 gRlates, ar (ad 5) cA 20 gRhands, ar (ad 6) cA 20 gRslow, oST ad u_8.2.1 u_8.2.2.1 u_8.2.2.2.1, ar (ad 10) cA 640 u_8.2.2.2.2.1, ar (ad 11) cA 20 u_8.2.2.2.2.2.1, ar (ad 12) cA 20 u_8.2.2.2.2.2.2.1, ar (ad 13) cA 20 u_8.2.2.2.2.2.2.2.1, ar (ad 14) cA 20 u_8.2.2.2.2.2.2.2.2.1, oDia ad qe_1008 u_8.2.2.2.2.2.2.2.2.2.1, ar qe_1008 cA u_8.2.2.2.2.2.2.2.2.2.2.1 u_8.2.2.2.2.2.2.2.2.2.2.2, oPos ad xPos_size xPos_shortest xPos_longest xPos_slip, ar (ad 27) cA 20 gPwho, ar (ad 28) cA 20 gPat, ar (ad 29) cA 120 gPleast] H := hP.sub [4, 5, 6, 7, 8, 9, 10, 11, 12, 13, 14, 15, 16, 17, 0, 1, 2, 3] rfl
      have hD : va_D A [oHC ad xHC_first xHC_second xHC_when u_8.1, oRow ad xRow_depth xRow_length xRow_people xRow_scarves xRow_main xRow_faultPlace, ar (ad 3) cA 20 gRkinds, ar (ad 4) cA 20 gRlates, ar (ad 5) cA 20 gRhands, ar (ad 6) cA 20 gRslow, oST ad u_8.2.1 u_8.2.2.1 u_8.2.2.2.1, ar (ad 10) cA 640 u_8.2.2.2.2.1, ar (ad 11) cA 20 u_8.2.2.2.2.2.1, ar (ad 12) cA 20 u_8.2.2.2.2.2.2.1, ar (ad 13) cA 20 u_8.2.2.2.2.2.2.2.1, ar (ad 14) cA 20 u_8.2.2.2.2.2.2.2.2.1, oDia ad qe_1008 u_8.2.2.2.2.2.2.2.2.2.1, ar qe_1008 cA u_8.2.2.2.2.2.2.2.2.2.2.1 u_8.2.2.2.2.2.2.2.2.2.2.2, oPos ad xPos_size xPos_shortest xPos_longest xPos_slip, ar (ad 27) cA 20 gPwho, ar (ad 28) cA 20 gPat, ar (ad 29) cA 120 gPleast] := hD.sub [4, 5, 6, 7, 8, 9, 10, 11, 12, 13, 14, 15, 16, 17, 0, 1, 2, 3] (by decide) rfl
      refine W.widen (k := u_8.2.2.2.2.2.2.2.2.2.2.1 - ne) (n := 2 * (u_8.2.2.2.2.2.2.2.2.2.2.1 - ne)) (by omega) (by omega) ?_
      have hPc := hP.sub (ws' := [oRow ad xRow_depth xRow_length xRow_people xRow_scarves xRow_main xRow_faultPlace, oST ad u_8.2.1 u_8.2.2.1 u_8.2.2.2.1, ar (ad 14) cA 20 u_8.2.2.2.2.2.2.2.2.1, oPos ad xPos_size xPos_shortest xPos_longest xPos_slip, ar (ad 27) cA 20 gPwho, ar (ad 28) cA 20 gPat]) [1, 6, 11, 14, 15, 16] rfl
      have hDc := hD.sub (ws' := [oRow ad xRow_depth xRow_length xRow_people xRow_scarves xRow_main xRow_faultPlace, oST ad u_8.2.1 u_8.2.2.1 u_8.2.2.2.1, ar (ad 14) cA 20 u_8.2.2.2.2.2.2.2.2.1, oPos ad xPos_size xPos_shortest xPos_longest xPos_slip, ar (ad 27) cA 20 gPwho, ar (ad 28) cA 20 gPat]) [1, 6, 11, 14, 15, 16] (by decide) rfl
      have hFc := va_free (wc := [oRow ad xRow_depth xRow_length xRow_people xRow_scarves xRow_main xRow_faultPlace, oST ad u_8.2.1 u_8.2.2.1 u_8.2.2.2.1, ar (ad 14) cA 20 u_8.2.2.2.2.2.2.2.2.1, oPos ad xPos_size xPos_shortest xPos_longest xPos_slip, ar (ad 27) cA 20 gPwho, ar (ad 28) cA 20 gPat]) hD hS hA [1, 6, 11, 14, 15, 16] rfl
      obtain ⟨u_9, hc_9, hm⟩ := bd_ok hm
      refine va_callv (va_runV (As := [.ref (ad 1), .ref (ad 9)]) (rest := []) ⟨hx, hb, hml, hown, hts⟩ (kP_gather l dC dI cA ad H.size xRow_depth xRow_length xRow_people xRow_scarves xRow_main xRow_faultPlace u_8.2.1 u_8.2.2.1 u_8.2.2.2.1 u_8.2.2.2.2.2.2.2.2.1 xPos_size xPos_shortest xPos_longest xPos_slip gPwho gPat u_9 hc_9) (cwV 2 hts gX9_posts_X3_gather rfl rfl rfl (by decide +kernel) ⟨Nat.le_of_ble_eq_true rfl, Nat.le_of_ble_eq_true rfl⟩) ⟨fun a U g mk q => by obtain ⟨q0, q1, qP, qK, qD⟩ := q; exact ⟨q0, q1, qP, va_K.moved (u := U) (U := U.calling g mk a) (Vm.Alike.refl U.vm) qK, qD⟩, va_recv hK hPc (ci := 3) (q0 := 3) rfl rfl, fun U hU hW => ⟨rfl, by rw [hU], by rw [hU]; exact hPc, va_K.moved hW.alike hK, hDc.weaken (fun _ _ _ _ => trivial)⟩⟩ rfl rfl hl.1 rfl (lv_room (Nat.le_of_ble_eq_true rfl)) dX9_posts_26 ⟨by (show _ ≤ _ - _); omega, by (show _ ≤ 2 * (_ - _)); omega⟩) hS (fun q _ h => hFc q h) hFc (fun _ t H1 locs ht hvm hw hB hz1 hk1 hS => ?_)
      obtain ⟨hP1, hK1, hD1⟩ := hB
      rw [ht] at hP1
      obtain ⟨hP, hD⟩ := va_join (wr := [oHC ad xHC_first xHC_second xHC_when u_8.1, ar (ad 3) cA 20 gRkinds, ar (ad 4) cA 20 gRlates, ar (ad 5) cA 20 gRhands, ar (ad 6) cA 20 gRslow, ar (ad 10) cA 640 u_8.2.2.2.2.1, ar (ad 11) cA 20 u_8.2.2.2.2.2.1, ar (ad 12) cA 20 u_8.2.2.2.2.2.2.1, ar (ad 13) cA 20 u_8.2.2.2.2.2.2.2.1, oDia ad qe_1008 u_8.2.2.2.2.2.2.2.2.2.1, ar qe_1008 cA u_8.2.2.2.2.2.2.2.2.2.2.1 u_8.2.2.2.2.2.2.2.2.2.2.2, ar (ad 29) cA 120 gPleast]) (w1 := [oRow ad xRow_depth xRow_length xRow_people xRow_scarves xRow_main xRow_faultPlace, oST ad u_8.2.1 u_8.2.2.1 u_8.2.2.2.1, ar (ad 14) cA 20 u_8.2.2.2.2.2.2.2.2.1, oPos ad u_9.1 xPos_shortest xPos_longest xPos_slip, ar (ad 27) cA 20 u_9.2.1, ar (ad 28) cA 20 u_9.2.2]) hP hD [1, 6, 11, 14, 15, 16] [0, 2, 3, 4, 5, 7, 8, 9, 10, 12, 13, 17] rfl rfl (by decide) (by decide) hk1 hFc hP1 hD1
      clear hPc hDc hFc hP1 hK1 hD1 hk1 hz1 hvm ht
      generalize H1 = H at hP hS ⊢
      have hP : va_P (dC, dI) vwCl [oHC ad xHC_first xHC_second xHC_when u_8.1, oRow ad xRow_depth xRow_length xRow_people xRow_scarves xRow_main xRow_faultPlace, ar (ad 3) cA 20 gRkinds, ar (ad 4) cA 20 gRlates, ar (ad 5) cA 20 gRhands, ar (ad 6) cA 20 gRslow, oST ad u_8.2.1 u_8.2.2.1 u_8.2.2.2.1, ar (ad 10) cA 640 u_8.2.2.2.2.1, ar (ad 11) cA 20 u_8.2.2.2.2.2.1, ar (ad 12) cA 20 u_8.2.2.2.2.2.2.1, ar (ad 13) cA 20 u_8.2.2.2.2.2.2.2.1, ar (ad 14) cA 20 u_8.2.2.2.2.2.2.2.2.1, oDia ad qe_1008 u_8.2.2.2.2.2.2.2.2.2.1, ar qe_1008 cA u_8.2.2.2.2.2.2.2.2.2.2.1 u_8.2.2.2.2.2.2.2.2.2.2.2, oPos ad u_9.1 xPos_shortest xPos_longest xPos_slip, ar (ad 27) cA 20 u_9.2.1, ar (ad 28) cA 20 u_9.2.2, ar (ad 29) cA 120 gPleast] H := hP.sub [0, 12, 1, 2, 3, 4, 13, 5, 6, 7, 8, 14, 9, 10, 15, 16, 17, 11] rfl
      have hD : va_D A [oHC ad xHC_first xHC_second xHC_when u_8.1, oRow ad xRow_depth xRow_length xRow_people xRow_scarves xRow_main xRow_faultPlace, ar (ad 3) cA 20 gRkinds, ar (ad 4) cA 20 gRlates, ar (ad 5) cA 20 gRhands, ar (ad 6) cA 20 gRslow, oST ad u_8.2.1 u_8.2.2.1 u_8.2.2.2.1, ar (ad 10) cA 640 u_8.2.2.2.2.1, ar (ad 11) cA 20 u_8.2.2.2.2.2.1, ar (ad 12) cA 20 u_8.2.2.2.2.2.2.1, ar (ad 13) cA 20 u_8.2.2.2.2.2.2.2.1, ar (ad 14) cA 20 u_8.2.2.2.2.2.2.2.2.1, oDia ad qe_1008 u_8.2.2.2.2.2.2.2.2.2.1, ar qe_1008 cA u_8.2.2.2.2.2.2.2.2.2.2.1 u_8.2.2.2.2.2.2.2.2.2.2.2, oPos ad u_9.1 xPos_shortest xPos_longest xPos_slip, ar (ad 27) cA 20 u_9.2.1, ar (ad 28) cA 20 u_9.2.2, ar (ad 29) cA 120 gPleast] := hD.sub [0, 12, 1, 2, 3, 4, 13, 5, 6, 7, 8, 14, 9, 10, 15, 16, 17, 11] (by decide) rfl
      refine lv_aload_n hx hb dX9_posts_29 rfl (lv_at hl 0 rfl) ?_
      refine va_get (D := (dC, dI)) (ci := 9) (v := .ref (ad 26)) (C := RX9) (T := TX9) (N := 12) hx hb hts hinX9 hown hK hP 0 rfl rfl 4 (by decide) hl_47 (fun _ h9 => h9) rfl dX9_posts_30 ?_
      refine lv_iconst (v := 0) hx hb dX9_posts_33 (by decide) ?_
      have hPc := hP.sub (ws' := [oPos ad u_9.1 xPos_shortest xPos_longest xPos_slip]) [14] rfl
      have hDc := hD.sub (ws' := [oPos ad u_9.1 xPos_shortest xPos_longest xPos_slip]) [14] (by decide) rfl
      have hFc := va_free (wc := [oPos ad u_9.1 xPos_shortest xPos_longest xPos_slip]) hD hS hA [14] rfl
      obtain ⟨u_10, hc_10, hm⟩ := bd_ok hm
      refine va_calli (va_runV (As := [.int 0]) (rest := []) ⟨hx, hb, hml, hown, hts⟩ (kP_hasRoomFor l dC dI cA ad H.size 0 u_9.1 xPos_shortest xPos_longest xPos_slip u_10 hc_10) (cwV 1 hts gX9_posts_X3_hasRoomFor rfl rfl rfl (by decide +kernel) ⟨Nat.le_of_ble_eq_true rfl, Nat.le_of_ble_eq_true rfl⟩) ⟨fun a U g mk q => by obtain ⟨q0, q1, qP, qK, qD⟩ := q; exact ⟨q0, q1, qP, va_K.moved (u := U) (U := U.calling g mk a) (Vm.Alike.refl U.vm) qK, qD⟩, va_recv hK hPc (ci := 3) (q0 := 0) rfl rfl, fun U hU hW => ⟨rfl, by rw [hU], by rw [hU]; exact hPc, va_K.moved hW.alike hK, hDc.weaken (fun _ _ _ _ => trivial)⟩⟩ rfl rfl hl.1 rfl (lv_room (Nat.le_of_ble_eq_true rfl)) dX9_posts_34 ⟨by (show _ ≤ _ - _); omega, by (show _ ≤ 2 * (_ - _)); omega⟩) hS (fun q _ h => hFc q h) hFc (fun r_10 _ t H1 locs ht hvm hw hB hz1 hk1 hS => ?_)
      obtain ⟨hP1, hK1, hD1⟩ := hB
      rw [ht] at hP1
      obtain ⟨hP, hD⟩ := va_join (wr := [oHC ad xHC_first xHC_second xHC_when u_8.1, oRow ad xRow_depth xRow_length xRow_people xRow_scarves xRow_main xRow_faultPlace, ar (ad 3) cA 20 gRkinds, ar (ad 4) cA 20 gRlates, ar (ad 5) cA 20 gRhands, ar (ad 6) cA 20 gRslow, oST ad u_8.2.1 u_8.2.2.1 u_8.2.2.2.1, ar (ad 10) cA 640 u_8.2.2.2.2.1, ar (ad 11) cA 20 u_8.2.2.2.2.2.1, ar (ad 12) cA 20 u_8.2.2.2.2.2.2.1, ar (ad 13) cA 20 u_8.2.2.2.2.2.2.2.1, ar (ad 14) cA 20 u_8.2.2.2.2.2.2.2.2.1, oDia ad qe_1008 u_8.2.2.2.2.2.2.2.2.2.1, ar qe_1008 cA u_8.2.2.2.2.2.2.2.2.2.2.1 u_8.2.2.2.2.2.2.2.2.2.2.2, ar (ad 27) cA 20 u_9.2.1, ar (ad 28) cA 20 u_9.2.2, ar (ad 29) cA 120 gPleast]) (w1 := [oPos ad u_9.1 xPos_shortest xPos_longest xPos_slip]) hP hD [14] [0, 1, 2, 3, 4, 5, 6, 7, 8, 9, 10, 11, 12, 13, 15, 16, 17] rfl rfl (by decide) (by decide) hk1 hFc hP1 hD1
      clear hPc hDc hFc hP1 hK1 hD1 hk1 hz1 hvm ht
      generalize H1 = H at hP hS ⊢
      have hP : va_P (dC, dI) vwCl [oHC ad xHC_first xHC_second xHC_when u_8.1, oRow ad xRow_depth xRow_length xRow_people xRow_scarves xRow_main xRow_faultPlace, ar (ad 3) cA 20 gRkinds, ar (ad 4) cA 20 gRlates, ar (ad 5) cA 20 gRhands, ar (ad 6) cA 20 gRslow, oST ad u_8.2.1 u_8.2.2.1 u_8.2.2.2.1, ar (ad 10) cA 640 u_8.2.2.2.2.1, ar (ad 11) cA 20 u_8.2.2.2.2.2.1, ar (ad 12) cA 20 u_8.2.2.2.2.2.2.1, ar (ad 13) cA 20 u_8.2.2.2.2.2.2.2.1, ar (ad 14) cA 20 u_8.2.2.2.2.2.2.2.2.1, oDia ad qe_1008 u_8.2.2.2.2.2.2.2.2.2.1, ar qe_1008 cA u_8.2.2.2.2.2.2.2.2.2.2.1 u_8.2.2.2.2.2.2.2.2.2.2.2, oPos ad u_9.1 xPos_shortest xPos_longest xPos_slip, ar (ad 27) cA 20 u_9.2.1, ar (ad 28) cA 20 u_9.2.2, ar (ad 29) cA 120 gPleast] H := hP.sub [0, 1, 2, 3, 4, 5, 6, 7, 8, 9, 10, 11, 12, 13, 17, 14, 15, 16] rfl
      have hD : va_D A [oHC ad xHC_first xHC_second xHC_when u_8.1, oRow ad xRow_depth xRow_length xRow_people xRow_scarves xRow_main xRow_faultPlace, ar (ad 3) cA 20 gRkinds, ar (ad 4) cA 20 gRlates, ar (ad 5) cA 20 gRhands, ar (ad 6) cA 20 gRslow, oST ad u_8.2.1 u_8.2.2.1 u_8.2.2.2.1, ar (ad 10) cA 640 u_8.2.2.2.2.1, ar (ad 11) cA 20 u_8.2.2.2.2.2.1, ar (ad 12) cA 20 u_8.2.2.2.2.2.2.1, ar (ad 13) cA 20 u_8.2.2.2.2.2.2.2.1, ar (ad 14) cA 20 u_8.2.2.2.2.2.2.2.2.1, oDia ad qe_1008 u_8.2.2.2.2.2.2.2.2.2.1, ar qe_1008 cA u_8.2.2.2.2.2.2.2.2.2.2.1 u_8.2.2.2.2.2.2.2.2.2.2.2, oPos ad u_9.1 xPos_shortest xPos_longest xPos_slip, ar (ad 27) cA 20 u_9.2.1, ar (ad 28) cA 20 u_9.2.2, ar (ad 29) cA 120 gPleast] := hD.sub [0, 1, 2, 3, 4, 5, 6, 7, 8, 9, 10, 11, 12, 13, 17, 14, 15, 16] (by decide) rfl
      have hw := hw.symm
      subst hw
      refine lv_if_ne (tgt := 43) hx hb dX9_posts_37 (by decide) (fun c_11 => ?_) (fun c_11 => ?_)
      · have hm := it_neg c_11 hm
        refine lv_aload_n hx hb dX9_posts_43 rfl (lv_at hl 0 rfl) ?_
        refine va_get (D := (dC, dI)) (ci := 9) (v := .ref (ad 26)) (C := RX9) (T := TX9) (N := 12) hx hb hts hinX9 hown hK hP 0 rfl rfl 4 (by decide) hl_47 (fun _ h9 => h9) rfl dX9_posts_44 ?_
        refine lv_iconst (v := 5) hx hb dX9_posts_47 (by decide) ?_
        have hPc := hP.sub (ws' := [oPos ad u_9.1 xPos_shortest xPos_longest xPos_slip, ar (ad 28) cA 20 u_9.2.2, ar (ad 29) cA 120 gPleast]) [14, 16, 17] rfl
        have hDc := hD.sub (ws' := [oPos ad u_9.1 xPos_shortest xPos_longest xPos_slip, ar (ad 28) cA 20 u_9.2.2, ar (ad 29) cA 120 gPleast]) [14, 16, 17] (by decide) rfl
        have hFc := va_free (wc := [oPos ad u_9.1 xPos_shortest xPos_longest xPos_slip, ar (ad 28) cA 20 u_9.2.2, ar (ad 29) cA 120 gPleast]) hD hS hA [14, 16, 17] rfl
        obtain ⟨u_12, hc_12, hm⟩ := bd_ok hm
        refine va_callv (va_runV (As := [.int 5]) (rest := []) ⟨hx, hb, hml, hown, hts⟩ (kP_work l dC dI cA ad H.size 5 u_9.1 xPos_shortest xPos_longest xPos_slip u_9.2.2 gPleast u_12 hc_12) (cwV 1 hts gX9_posts_X3_work rfl rfl rfl (by decide +kernel) ⟨Nat.le_of_ble_eq_true rfl, Nat.le_of_ble_eq_true rfl⟩) ⟨fun a U g mk q => by obtain ⟨q0, q1, qP, qK, qD⟩ := q; exact ⟨q0, q1, qP, va_K.moved (u := U) (U := U.calling g mk a) (Vm.Alike.refl U.vm) qK, qD⟩, va_recv hK hPc (ci := 3) (q0 := 0) rfl rfl, fun U hU hW => ⟨rfl, by rw [hU], by rw [hU]; exact hPc, va_K.moved hW.alike hK, hDc.weaken (fun _ _ _ _ => trivial)⟩⟩ rfl rfl hl.1 rfl (lv_room (Nat.le_of_ble_eq_true rfl)) dX9_posts_48 ⟨by (show _ ≤ _ - _); omega, by (show _ ≤ 2 * (_ - _)); omega⟩) hS (fun q _ h => hFc q h) hFc (fun _ t H1 locs ht hvm hw hB hz1 hk1 hS => ?_)
        obtain ⟨hP1, hK1, hD1⟩ := hB
        rw [ht] at hP1
        obtain ⟨hP, hD⟩ := va_join (wr := [oHC ad xHC_first xHC_second xHC_when u_8.1, oRow ad xRow_depth xRow_length xRow_people xRow_scarves xRow_main xRow_faultPlace, ar (ad 3) cA 20 gRkinds, ar (ad 4) cA 20 gRlates, ar (ad 5) cA 20 gRhands, ar (ad 6) cA 20 gRslow, oST ad u_8.2.1 u_8.2.2.1 u_8.2.2.2.1, ar (ad 10) cA 640 u_8.2.2.2.2.1, ar (ad 11) cA 20 u_8.2.2.2.2.2.1, ar (ad 12) cA 20 u_8.2.2.2.2.2.2.1, ar (ad 13) cA 20 u_8.2.2.2.2.2.2.2.1, ar (ad 14) cA 20 u_8.2.2.2.2.2.2.2.2.1, oDia ad qe_1008 u_8.2.2.2.2.2.2.2.2.2.1, ar qe_1008 cA u_8.2.2.2.2.2.2.2.2.2.2.1 u_8.2.2.2.2.2.2.2.2.2.2.2, ar (ad 27) cA 20 u_9.2.1]) (w1 := [oPos ad u_9.1 xPos_shortest xPos_longest xPos_slip, ar (ad 28) cA 20 u_9.2.2, ar (ad 29) cA 120 u_12]) hP hD [14, 16, 17] [0, 1, 2, 3, 4, 5, 6, 7, 8, 9, 10, 11, 12, 13, 15] rfl rfl (by decide) (by decide) hk1 hFc hP1 hD1
        clear hPc hDc hFc hP1 hK1 hD1 hk1 hz1 hvm ht
        generalize H1 = H at hP hS ⊢
        have hP : va_P (dC, dI) vwCl [oHC ad xHC_first xHC_second xHC_when u_8.1, oRow ad xRow_depth xRow_length xRow_people xRow_scarves xRow_main xRow_faultPlace, ar (ad 3) cA 20 gRkinds, ar (ad 4) cA 20 gRlates, ar (ad 5) cA 20 gRhands, ar (ad 6) cA 20 gRslow, oST ad u_8.2.1 u_8.2.2.1 u_8.2.2.2.1, ar (ad 10) cA 640 u_8.2.2.2.2.1, ar (ad 11) cA 20 u_8.2.2.2.2.2.1, ar (ad 12) cA 20 u_8.2.2.2.2.2.2.1, ar (ad 13) cA 20 u_8.2.2.2.2.2.2.2.1, ar (ad 14) cA 20 u_8.2.2.2.2.2.2.2.2.1, oDia ad qe_1008 u_8.2.2.2.2.2.2.2.2.2.1, ar qe_1008 cA u_8.2.2.2.2.2.2.2.2.2.2.1 u_8.2.2.2.2.2.2.2.2.2.2.2, oPos ad u_9.1 xPos_shortest xPos_longest xPos_slip, ar (ad 27) cA 20 u_9.2.1, ar (ad 28) cA 20 u_9.2.2, ar (ad 29) cA 120 u_12] H := hP.sub [0, 1, 2, 3, 4, 5, 6, 7, 8, 9, 10, 11, 12, 13, 15, 14, 16, 17] rfl
        have hD : va_D A [oHC ad xHC_first xHC_second xHC_when u_8.1, oRow ad xRow_depth xRow_length xRow_people xRow_scarves xRow_main xRow_faultPlace, ar (ad 3) cA 20 gRkinds, ar (ad 4) cA 20 gRlates, ar (ad 5) cA 20 gRhands, ar (ad 6) cA 20 gRslow, oST ad u_8.2.1 u_8.2.2.1 u_8.2.2.2.1, ar (ad 10) cA 640 u_8.2.2.2.2.1, ar (ad 11) cA 20 u_8.2.2.2.2.2.1, ar (ad 12) cA 20 u_8.2.2.2.2.2.2.1, ar (ad 13) cA 20 u_8.2.2.2.2.2.2.2.1, ar (ad 14) cA 20 u_8.2.2.2.2.2.2.2.2.1, oDia ad qe_1008 u_8.2.2.2.2.2.2.2.2.2.1, ar qe_1008 cA u_8.2.2.2.2.2.2.2.2.2.2.1 u_8.2.2.2.2.2.2.2.2.2.2.2, oPos ad u_9.1 xPos_shortest xPos_longest xPos_slip, ar (ad 27) cA 20 u_9.2.1, ar (ad 28) cA 20 u_9.2.2, ar (ad 29) cA 120 u_12] := hD.sub [0, 1, 2, 3, 4, 5, 6, 7, 8, 9, 10, 11, 12, 13, 15, 14, 16, 17] (by decide) rfl
        refine lv_iconst (v := 0) hx hb dX9_posts_51 (by decide) ?_
        refine lv_istore_n (lv' := [(2, .int 0), (0, .ref (ad 0)), (1, .int a1)]) hx hb dX9_posts_52 rfl hl (by decide) rfl (fun ls hl => ?_)
        refine W.widen (k := u_8.2.2.2.2.2.2.2.2.2.2.1 - ne) (n := 2 * (u_8.2.2.2.2.2.2.2.2.2.2.1 - ne)) (by first | exact Nat.le_refl _ | omega) (by first | exact Nat.le_refl _ | omega) ?_
        exact h_53 _ _ _ _ _ _ _ _ _ _ _ _ _ _ _ _ _ _ _ hm _ _ _ (by omega) (by omega) hP hD hS _ (lv_sub hl [1, 2, 0] rfl)
      · have hm := it_pos c_11 hm
        refine lv_bipush (v := (-3)) hx hb dX9_posts_40 (by decide) ?_
        obtain rfl := Option.some.inj hm
        subst hQ
        refine W.widen (k := u_8.2.2.2.2.2.2.2.2.2.2.1 - ne) (n := 2 * (u_8.2.2.2.2.2.2.2.2.2.2.1 - ne)) (by first | exact Nat.le_refl _ | omega) (by first | exact Nat.le_refl _ | omega) ?_
        exact W.iret (v := (-3)) hx hb hr (fun t ht hW => ⟨⟨_, qe_1008, rfl, rfl, by rw [ht]; exact hP, va_K.moved hW.alike hK, hAe ▸ hD⟩, hS.F ht⟩) hS.2.2 dX9_posts_42
    · have hm := it_neg c_7 hm
      refine lv_bipush (v := (-2)) hx hb dX9_posts_11 (by decide) ?_
      obtain rfl := Option.some.inj hm
      subst hQ
      refine W.widen (k := ne - ne) (n := 2 * (ne - ne)) (by first | exact Nat.le_refl _ | omega) (by first | exact Nat.le_refl _ | omega) ?_
      exact W.iret (v := (-2)) hx hb hr (fun t ht hW => ⟨⟨_, qe, rfl, rfl, by rw [ht]; exact hP, va_K.moved hW.alike hK, hAe ▸ hD⟩, hS.F ht⟩) hS.2.2 dX9_posts_13

set_option maxHeartbeats 4000000 in
set_option maxRecDepth 100000 in
theorem kH_take (l : Launch) (dC : Nat → ClassId) (dI : Nat → Nat → Nat) (cA : ClassId) (ad : Nat → Nat) (sz : Nat) (a1 : Int32) (a2 : Int32) (xHea_size : Int32) (gHwho : Nat → Int32) (gHtimes : Nat → Int32) (u : Int32 × Int32 × (Nat → Int32) × (Nat → Int32)) (hm : fH_take a1 a2 xHea_size gHwho gHtimes = some u) : Met l yX2_take wsX2_take ({ frames := 0, cells := 0, slots := 0, locals := 0 }) (va_Pc [.ref (ad 30), .int a1, .int a2] (fun U => U.heap.size = sz ∧ va_P (dC, dI) vwCl [oHea ad xHea_size, ar (ad 31) cA 12 gHwho, ar (ad 32) cA 12 gHtimes] U.heap ∧ va_K (dC, dI) vwCl [(cA, .int)] U ∧ va_D (fun _ => True) [oHea ad xHea_size, ar (ad 31) cA 12 gHwho, ar (ad 32) cA 12 gHtimes])) (va_Qi (fun (r : Int32) (_ : Unit) => r = u.1) (fun (_ : Unit) t => va_P (dC, dI) vwCl [oHea ad u.2.1, ar (ad 31) cA 12 u.2.2.1, ar (ad 32) cA 12 u.2.2.2] t.heap ∧ va_K (dC, dI) vwCl [(cA, .int)] t ∧ va_D (va_A [oHea ad xHea_size, ar (ad 31) cA 12 gHwho, ar (ad 32) cA 12 gHtimes] sz) [oHea ad u.2.1, ar (ad 31) cA 12 u.2.2.1, ar (ad 32) cA 12 u.2.2.2]) (va_A [oHea ad xHea_size, ar (ad 31) cA 12 gHwho, ar (ad 32) cA 12 gHtimes] sz)) 0 0 (va_A [oHea ad xHea_size, ar (ad 31) cA 12 gHwho, ar (ad 32) cA 12 gHtimes] sz) := by
  refine Met.ofW (cc := cX2_take) (maxL := 3) (ret := (some .int)) (by decide) rfl ?_
  intro p e s m args below meth c s₁ B hml hv
  obtain ⟨rfl, hsz, hP, hK, hD0⟩ := hv
  have hx := B.exec
  have hb := B.bytes
  have hr := B.returns
  have hts := atoms_spec (ws := wsX2_take) B.pre
  have hown : s.vm.findClass RX2 = some m.cls := findClass_of_methodNamed B.named
  have hlocks := B.notSynchronized
  subst hsz
  have hD := hD0.self (sz := s.heap.size)
  generalize hAe : va_A [oHea ad xHea_size, ar (ad 31) cA 12 gHwho, ar (ad 32) cA 12 gHtimes] s.heap.size = A at hD ⊢
  have hA : ∀ q : Nat, s.heap.size ≤ q → A q := fun q h => by rw [← hAe]; exact Or.inr h
  have hS : va_S A s.heap s.heap [] := va_S.rf
  have hl := lv_entry ([.ref (ad 30), .int a1, .int a2]) (n := 3) (Nat.le_of_ble_eq_true rfl)
  rw [lg_entry_eq]
  generalize (lg_sl ([.ref (ad 30), .int a1, .int a2]) ++ List.replicate (3 - (lg_sl ([.ref (ad 30), .int a1, .int a2])).length) Slot.unset).toArray = ls at hl ⊢
  have hl : lv_has ls 3 [(0, .ref (ad 30)), (1, .int a1), (2, .int a2)] := hl
  refine wk_Q (fun QQ hQ => ?_)
  have hinX2 : ∀ w ∈ wsX20, w ∈ wsX2_take := fun w h => List.mem_cons_of_mem _ (inlX2 w h)
  have hl_18 := hts (.fieldLink RX2 18 "HandCensus$Hearsay" "size" "I") (List.mem_cons_of_mem _ (in_r5 _ (List.mem_of_getElem? (i := 17) rfl)))
  have hl_11 := hts (.fieldLink RX2 11 "HandCensus$Hearsay" "who" "[I") (List.mem_cons_of_mem _ (in_r5 _ (List.mem_of_getElem? (i := 15) rfl)))
  have hl_15 := hts (.fieldLink RX2 15 "HandCensus$Hearsay" "times" "[I") (List.mem_cons_of_mem _ (in_r5 _ (List.mem_of_getElem? (i := 16) rfl)))
  unfold fH_take at hm
  refine lv_iload_n hx hb dX2_take_0 rfl (lv_at hl 1 rfl) ?_
  refine lv_if_lt (tgt := 22) hx hb dX2_take_1 (by decide) (fun c_1 => ?_) (fun c_1 => ?_)
  · have hm := it_pos c_1 hm
    refine lv_bipush (v := (-2)) hx hb dX2_take_22 (by decide) ?_
    obtain rfl := Option.some.inj hm
    subst hQ
    exact W.iret (v := (-2)) hx hb hr (fun t ht hW => ⟨⟨_, (), rfl, rfl, by rw [ht]; exact hP, va_K.moved hW.alike hK, hAe ▸ hD⟩, hS.F ht⟩) hS.2.2 dX2_take_24
  · have hm := it_neg c_1 hm
    refine lv_iload_n hx hb dX2_take_4 rfl (lv_at hl 1 rfl) ?_
    refine lv_bipush (v := 20) hx hb dX2_take_5 (by decide) ?_
    refine lv_icmp_ge (tgt := 22) hx hb dX2_take_7 (by decide) (fun c_2 => ?_) (fun c_2 => ?_)
    · have hm := it_pos c_2 hm
      refine lv_bipush (v := (-2)) hx hb dX2_take_22 (by decide) ?_
      obtain rfl := Option.some.inj hm
      subst hQ
      exact W.iret (v := (-2)) hx hb hr (fun t ht hW => ⟨⟨_, (), rfl, rfl, by rw [ht]; exact hP, va_K.moved hW.alike hK, hAe ▸ hD⟩, hS.F ht⟩) hS.2.2 dX2_take_24
    · have hm := it_neg c_2 hm
      refine lv_iload_n hx hb dX2_take_10 rfl (lv_at hl 2 rfl) ?_
      refine lv_iconst (v := (-1)) hx hb dX2_take_11 (by decide) ?_
      refine lv_icmp_lt (tgt := 22) hx hb dX2_take_12 (by decide) (fun c_3 => ?_) (fun c_3 => ?_)
      · have hm := it_pos c_3 hm
        refine lv_bipush (v := (-2)) hx hb dX2_take_22 (by decide) ?_
        obtain rfl := Option.some.inj hm
        subst hQ
        exact W.iret (v := (-2)) hx hb hr (fun t ht hW => ⟨⟨_, (), rfl, rfl, by rw [ht]; exact hP, va_K.moved hW.alike hK, hAe ▸ hD⟩, hS.F ht⟩) hS.2.2 dX2_take_24
      · have hm := it_neg c_3 hm
        refine lv_iload_n hx hb dX2_take_15 rfl (lv_at hl 2 rfl) ?_
        refine lv_sipush (v := 400) hx hb dX2_take_16 (by decide) ?_
        refine lv_icmp_le (tgt := 25) hx hb dX2_take_19 (by decide) (fun c_4 => ?_) (fun c_4 => ?_)
        · have hm := it_pos c_4 hm
          refine lv_aload_n hx hb dX2_take_25 rfl (lv_at hl 0 rfl) ?_
          refine va_get (D := (dC, dI)) (ci := 2) (v := .int xHea_size) (C := RX2) (T := TX2) (N := 3) hx hb hts hinX2 hown hK hP 0 rfl rfl 2 (by decide) hl_18 (fun _ h9 => h9) rfl dX2_take_26 ?_
          refine lv_bipush (v := 12) hx hb dX2_take_29 (by decide) ?_
          refine lv_icmp_lt (tgt := 37) hx hb dX2_take_31 (by decide) (fun c_5 => ?_) (fun c_5 => ?_)
          · have hm := it_pos c_5 hm
            refine lv_aload_n hx hb dX2_take_37 rfl (lv_at hl 0 rfl) ?_
            refine va_get (D := (dC, dI)) (ci := 2) (v := .ref (ad 31)) (C := RX2) (T := TX2) (N := 3) hx hb hts hinX2 hown hK hP 0 rfl rfl 0 (by decide) hl_11 (fun _ h9 => h9) rfl dX2_take_38 ?_
            refine lv_aload_n hx hb dX2_take_41 rfl (lv_at hl 0 rfl) ?_
            refine va_get (D := (dC, dI)) (ci := 2) (v := .int xHea_size) (C := RX2) (T := TX2) (N := 3) hx hb hts hinX2 hown hK hP 0 rfl rfl 2 (by decide) hl_18 (fun _ h9 => h9) rfl dX2_take_42 ?_
            refine lv_iload_n hx hb dX2_take_45 rfl (lv_at hl 1 rfl) ?_
            obtain ⟨i_6, hm⟩ := ck_ok hm
            refine va_iast hx hb hK hP hD hS 1 0 rfl rfl i_6 dX2_take_46 (fun H locs hP hD hS => ?_)
            have hP : va_P (dC, dI) vwCl [oHea ad xHea_size, ar (ad 31) cA 12 (upd gHwho xHea_size.toNatClampNeg a1), ar (ad 32) cA 12 gHtimes] H := hP
            have hD : va_D A [oHea ad xHea_size, ar (ad 31) cA 12 (upd gHwho xHea_size.toNatClampNeg a1), ar (ad 32) cA 12 gHtimes] := hD
            refine lv_aload_n hx hb dX2_take_47 rfl (lv_at hl 0 rfl) ?_
            refine va_get (D := (dC, dI)) (ci := 2) (v := .ref (ad 32)) (C := RX2) (T := TX2) (N := 3) hx hb hts hinX2 hown hK hP 0 rfl rfl 1 (by decide) hl_15 (fun _ h9 => h9) rfl dX2_take_48 ?_
            refine lv_aload_n hx hb dX2_take_51 rfl (lv_at hl 0 rfl) ?_
            refine va_get (D := (dC, dI)) (ci := 2) (v := .int xHea_size) (C := RX2) (T := TX2) (N := 3) hx hb hts hinX2 hown hK hP 0 rfl rfl 2 (by decide) hl_18 (fun _ h9 => h9) rfl dX2_take_52 ?_
            refine lv_iload_n hx hb dX2_take_55 rfl (lv_at hl 2 rfl) ?_
            obtain ⟨i_7, hm⟩ := ck_ok hm
            refine va_iast hx hb hK hP hD hS 2 0 rfl rfl i_7 dX2_take_56 (fun H locs hP hD hS => ?_)
            have hP : va_P (dC, dI) vwCl [oHea ad xHea_size, ar (ad 31) cA 12 (upd gHwho xHea_size.toNatClampNeg a1), ar (ad 32) cA 12 (upd gHtimes xHea_size.toNatClampNeg a2)] H := hP
            have hD : va_D A [oHea ad xHea_size, ar (ad 31) cA 12 (upd gHwho xHea_size.toNatClampNeg a1), ar (ad 32) cA 12 (upd gHtimes xHea_size.toNatClampNeg a2)] := hD
            refine lv_aload_n hx hb dX2_take_57 rfl (lv_at hl 0 rfl) ?_
            refine lv_dup hx hb dX2_take_58 rfl ?_
            refine va_get (D := (dC, dI)) (ci := 2) (v := .int xHea_size) (C := RX2) (T := TX2) (N := 3) hx hb hts hinX2 hown hK hP 0 rfl rfl 2 (by decide) hl_18 (fun _ h9 => h9) rfl dX2_take_59 ?_
            refine lv_iconst (v := 1) hx hb dX2_take_62 (by decide) ?_
            refine lv_iadd hx hb dX2_take_63 ?_
            refine va_put (D := (dC, dI)) (ci := 2) (v := .int (xHea_size + 1)) (ty := .int) (C := RX2) (T := TX2) (N := 3) hx hb hts hinX2 tyX2 tyX2_ok nmX2 hown hK hP hD hS 0 rfl rfl 2 (by decide) hl_18 (fun _ h9 => h9) rfl (by decide +kernel) rfl rfl (Nat.le_of_ble_eq_true rfl) dX2_take_64 (fun H locs hP hD hS => ?_)
            have hP : va_P (dC, dI) vwCl [oHea ad (xHea_size + 1), ar (ad 31) cA 12 (upd gHwho xHea_size.toNatClampNeg a1), ar (ad 32) cA 12 (upd gHtimes xHea_size.toNatClampNeg a2)] H := hP
            have hD : va_D A [oHea ad (xHea_size + 1), ar (ad 31) cA 12 (upd gHwho xHea_size.toNatClampNeg a1), ar (ad 32) cA 12 (upd gHtimes xHea_size.toNatClampNeg a2)] := hD
            refine lv_aload_n hx hb dX2_take_67 rfl (lv_at hl 0 rfl) ?_
            refine va_get (D := (dC, dI)) (ci := 2) (v := .int (xHea_size + 1)) (C := RX2) (T := TX2) (N := 3) hx hb hts hinX2 hown hK hP 0 rfl rfl 2 (by decide) hl_18 (fun _ h9 => h9) rfl dX2_take_68 ?_
            obtain rfl := Option.some.inj hm
            subst hQ
            exact W.iret (v := (xHea_size + 1)) hx hb hr (fun t ht hW => ⟨⟨_, (), rfl, rfl, by rw [ht]; exact hP, va_K.moved hW.alike hK, hAe ▸ hD⟩, hS.F ht⟩) hS.2.2 dX2_take_71
          · have hm := it_neg c_5 hm
            refine lv_bipush (v := (-4)) hx hb dX2_take_34 (by decide) ?_
            obtain rfl := Option.some.inj hm
            subst hQ
            exact W.iret (v := (-4)) hx hb hr (fun t ht hW => ⟨⟨_, (), rfl, rfl, by rw [ht]; exact hP, va_K.moved hW.alike hK, hAe ▸ hD⟩, hS.F ht⟩) hS.2.2 dX2_take_36
        · have hm := it_neg c_4 hm
          refine lv_bipush (v := (-2)) hx hb dX2_take_22 (by decide) ?_
          obtain rfl := Option.some.inj hm
          subst hQ
          exact W.iret (v := (-2)) hx hb hr (fun t ht hW => ⟨⟨_, (), rfl, rfl, by rw [ht]; exact hP, va_K.moved hW.alike hK, hAe ▸ hD⟩, hS.F ht⟩) hS.2.2 dX2_take_24

set_option maxHeartbeats 4000000 in
set_option maxRecDepth 100000 in
theorem kC_heard (l : Launch) (dC : Nat → ClassId) (dI : Nat → Nat → Nat) (cA : ClassId) (ad : Nat → Nat) (sz : Nat) (a1 : Int32) (a2 : Int32) (xHC_first : Int32) (xHC_second : Int32) (xHC_when : Int32) (xHC_ran : Int32) (xHea_size : Int32) (gHwho : Nat → Int32) (gHtimes : Nat → Int32) (u : Int32 × Int32 × (Nat → Int32) × (Nat → Int32)) (hm : fC_heard a1 a2 xHea_size gHwho gHtimes = some u) : Met l yX9_heard wsX9_heard ({ frames := 1, cells := 0, slots := 0, locals := 22 }) (va_Pc [.ref (ad 0), .int a1, .int a2] (fun U => U.heap.size = sz ∧ va_P (dC, dI) vwCl [oHC ad xHC_first xHC_second xHC_when xHC_ran, oHea ad xHea_size, ar (ad 31) cA 12 gHwho, ar (ad 32) cA 12 gHtimes] U.heap ∧ va_K (dC, dI) vwCl [(cA, .int)] U ∧ va_D (fun _ => True) [oHC ad xHC_first xHC_second xHC_when xHC_ran, oHea ad xHea_size, ar (ad 31) cA 12 gHwho, ar (ad 32) cA 12 gHtimes])) (va_Qi (fun (r : Int32) (_ : Unit) => r = u.1) (fun (_ : Unit) t => va_P (dC, dI) vwCl [oHC ad xHC_first xHC_second xHC_when xHC_ran, oHea ad u.2.1, ar (ad 31) cA 12 u.2.2.1, ar (ad 32) cA 12 u.2.2.2] t.heap ∧ va_K (dC, dI) vwCl [(cA, .int)] t ∧ va_D (va_A [oHC ad xHC_first xHC_second xHC_when xHC_ran, oHea ad xHea_size, ar (ad 31) cA 12 gHwho, ar (ad 32) cA 12 gHtimes] sz) [oHC ad xHC_first xHC_second xHC_when xHC_ran, oHea ad u.2.1, ar (ad 31) cA 12 u.2.2.1, ar (ad 32) cA 12 u.2.2.2]) (va_A [oHC ad xHC_first xHC_second xHC_when xHC_ran, oHea ad xHea_size, ar (ad 31) cA 12 gHwho, ar (ad 32) cA 12 gHtimes] sz)) 0 0 (va_A [oHC ad xHC_first xHC_second xHC_when xHC_ran, oHea ad xHea_size, ar (ad 31) cA 12 gHwho, ar (ad 32) cA 12 gHtimes] sz) := by
  refine Met.ofW (cc := cX9_heard) (maxL := 3) (ret := (some .int)) (by decide) rfl ?_
  intro p e s m args below meth c s₁ B hml hv
  obtain ⟨rfl, hsz, hP, hK, hD0⟩ := hv
  have hx := B.exec
  have hb := B.bytes
  have hr := B.returns
  have hts := atoms_spec (ws := wsX9_heard) B.pre
  have hown : s.vm.findClass RX9 = some m.cls := findClass_of_methodNamed B.named
  have hlocks := B.notSynchronized
  subst hsz
  have hD := hD0.self (sz := s.heap.size)
  generalize hAe : va_A [oHC ad xHC_first xHC_second xHC_when xHC_ran, oHea ad xHea_size, ar (ad 31) cA 12 gHwho, ar (ad 32) cA 12 gHtimes] s.heap.size = A at hD ⊢
  have hA : ∀ q : Nat, s.heap.size ≤ q → A q := fun q h => by rw [← hAe]; exact Or.inr h
  have hS : va_S A s.heap s.heap [] := va_S.rf
  have hl := lv_entry ([.ref (ad 0), .int a1, .int a2]) (n := 3) (Nat.le_of_ble_eq_true rfl)
  rw [lg_entry_eq]
  generalize (lg_sl ([.ref (ad 0), .int a1, .int a2]) ++ List.replicate (3 - (lg_sl ([.ref (ad 0), .int a1, .int a2])).length) Slot.unset).toArray = ls at hl ⊢
  have hl : lv_has ls 3 [(0, .ref (ad 0)), (1, .int a1), (2, .int a2)] := hl
  refine wk_Q (fun QQ hQ => ?_)
  have hinX9 : ∀ w ∈ wsX90, w ∈ wsX9_heard := fun w h => List.mem_cons_of_mem _ (inlX9 w h)
  have hl_54 := hts (.fieldLink RX9 54 "HandCensus" "hearsay" "LHandCensus$Hearsay;") (List.mem_cons_of_mem _ (in_r2 _ (List.mem_of_getElem? (i := 14) rfl)))
  unfold fC_heard at hm
  refine lv_aload_n hx hb dX9_heard_0 rfl (lv_at hl 0 rfl) ?_
  refine va_get (D := (dC, dI)) (ci := 9) (v := .ref (ad 30)) (C := RX9) (T := TX9) (N := 12) hx hb hts hinX9 hown hK hP 0 rfl rfl 5 (by decide) hl_54 (fun _ h9 => h9) rfl dX9_heard_1 ?_
  refine lv_iload_n hx hb dX9_heard_4 rfl (lv_at hl 1 rfl) ?_
  refine lv_iload_n hx hb dX9_heard_5 rfl (lv_at hl 2 rfl) ?_
  have hPc := hP.sub (ws' := [oHea ad xHea_size, ar (ad 31) cA 12 gHwho, ar (ad 32) cA 12 gHtimes]) [1, 2, 3] rfl
  have hDc := hD.sub (ws' := [oHea ad xHea_size, ar (ad 31) cA 12 gHwho, ar (ad 32) cA 12 gHtimes]) [1, 2, 3] (by decide) rfl
  have hFc := va_free (wc := [oHea ad xHea_size, ar (ad 31) cA 12 gHwho, ar (ad 32) cA 12 gHtimes]) hD hS hA [1, 2, 3] rfl
  obtain ⟨u_1, hc_1, hm⟩ := bd_ok hm
  refine va_calli (va_runV (As := [.int a1, .int a2]) (rest := []) ⟨hx, hb, hml, hown, hts⟩ (kH_take l dC dI cA ad s.heap.size a1 a2 xHea_size gHwho gHtimes u_1 hc_1) (cwV 2 hts gX9_heard_X2_take rfl rfl rfl (by decide +kernel) ⟨Nat.le_of_ble_eq_true rfl, Nat.le_of_ble_eq_true rfl⟩) ⟨fun a U g mk q => by obtain ⟨q0, q1, qP, qK, qD⟩ := q; exact ⟨q0, q1, qP, va_K.moved (u := U) (U := U.calling g mk a) (Vm.Alike.refl U.vm) qK, qD⟩, va_recv hK hPc (ci := 2) (q0 := 0) rfl rfl, fun U hU hW => ⟨rfl, by rw [hU], by rw [hU]; exact hPc, va_K.moved hW.alike hK, hDc.weaken (fun _ _ _ _ => trivial)⟩⟩ rfl rfl hl.1 rfl (lv_room (Nat.le_of_ble_eq_true rfl)) dX9_heard_6 ⟨Nat.le_of_ble_eq_true rfl, Nat.le_of_ble_eq_true rfl⟩) hS (fun q _ h => hFc q h) hFc (fun r_1 _ t H1 locs ht hvm hw hB hz1 hk1 hS => ?_)
  obtain ⟨hP1, hK1, hD1⟩ := hB
  rw [ht] at hP1
  obtain ⟨hP, hD⟩ := va_join (wr := [oHC ad xHC_first xHC_second xHC_when xHC_ran]) (w1 := [oHea ad u_1.2.1, ar (ad 31) cA 12 u_1.2.2.1, ar (ad 32) cA 12 u_1.2.2.2]) hP hD [1, 2, 3] [0] rfl rfl (by decide) (by decide) hk1 hFc hP1 hD1
  clear hPc hDc hFc hP1 hK1 hD1 hk1 hz1 hvm ht
  generalize H1 = H at hP hS ⊢
  have hP : va_P (dC, dI) vwCl [oHC ad xHC_first xHC_second xHC_when xHC_ran, oHea ad u_1.2.1, ar (ad 31) cA 12 u_1.2.2.1, ar (ad 32) cA 12 u_1.2.2.2] H := hP
  have hD : va_D A [oHC ad xHC_first xHC_second xHC_when xHC_ran, oHea ad u_1.2.1, ar (ad 31) cA 12 u_1.2.2.1, ar (ad 32) cA 12 u_1.2.2.2] := hD
  have hw := hw.symm
  subst hw
  obtain rfl := Option.some.inj hm
  subst hQ
  exact W.iret (v := u_1.1) hx hb hr (fun t ht hW => ⟨⟨_, (), rfl, rfl, by rw [ht]; exact hP, va_K.moved hW.alike hK, hAe ▸ hD⟩, hS.F ht⟩) hS.2.2 dX9_heard_9

set_option maxHeartbeats 4000000 in
set_option maxRecDepth 100000 in
theorem kL_isPlace (l : Launch) (dC : Nat → ClassId) (dI : Nat → Nat → Nat) (cA : ClassId) (ad : Nat → Nat) (sz : Nat) (a0 : Int32) (u : Int32) (hm : fL_isPlace a0 = some u) : Met l yX6_isPlace wsX6_isPlace ({ frames := 0, cells := 0, slots := 0, locals := 0 }) (va_Pc [.int a0] (fun U => U.heap.size = sz ∧ va_P (dC, dI) vwCl [] U.heap ∧ va_K (dC, dI) vwCl [(cA, .int)] U ∧ va_D (fun _ => True) [])) (va_Qi (fun (r : Int32) (_ : Unit) => r = u) (fun (_ : Unit) t => va_P (dC, dI) vwCl [] t.heap ∧ va_K (dC, dI) vwCl [(cA, .int)] t ∧ va_D (va_A [] sz) []) (va_A [] sz)) 0 0 (va_A [] sz) := by
  refine Met.ofW (cc := cX6_isPlace) (maxL := 1) (ret := (some .boolean)) (by decide) rfl ?_
  intro p e s m args below meth c s₁ B hml hv
  obtain ⟨rfl, hsz, hP, hK, hD0⟩ := hv
  have hx := B.exec
  have hb := B.bytes
  have hr := B.returns
  have hts := atoms_spec (ws := wsX6_isPlace) B.pre
  have hown : s.vm.findClass RX6 = some m.cls := findClass_of_methodNamed B.named
  have hlocks := B.notSynchronized
  subst hsz
  have hD := hD0.self (sz := s.heap.size)
  generalize hAe : va_A [] s.heap.size = A at hD ⊢
  have hA : ∀ q : Nat, s.heap.size ≤ q → A q := fun q h => by rw [← hAe]; exact Or.inr h
  have hS : va_S A s.heap s.heap [] := va_S.rf
  have hl := lv_entry ([.int a0]) (n := 1) (Nat.le_of_ble_eq_true rfl)
  rw [lg_entry_eq]
  generalize (lg_sl ([.int a0]) ++ List.replicate (1 - (lg_sl ([.int a0])).length) Slot.unset).toArray = ls at hl ⊢
  have hl : lv_has ls 1 [(0, .int a0)] := hl
  refine wk_Q (fun QQ hQ => ?_)
  unfold fL_isPlace at hm
  refine lv_iload_n hx hb dX6_isPlace_0 rfl (lv_at hl 0 rfl) ?_
  refine lv_if_lt (tgt := 13) hx hb dX6_isPlace_1 (by decide) (fun c_1 => ?_) (fun c_1 => ?_)
  · have hm := it_pos c_1 hm
    refine lv_iconst (v := 0) hx hb dX6_isPlace_13 (by decide) ?_
    obtain rfl := Option.some.inj hm
    subst hQ
    exact W.zret (v := 0) hx hb hr rfl (fun t ht hW => ⟨⟨_, (), rfl, rfl, by rw [ht]; exact hP, va_K.moved hW.alike hK, hAe ▸ hD⟩, hS.F ht⟩) hS.2.2 dX6_isPlace_14
  · have hm := it_neg c_1 hm
    refine lv_iload_n hx hb dX6_isPlace_4 rfl (lv_at hl 0 rfl) ?_
    refine lv_iconst (v := 4) hx hb dX6_isPlace_5 (by decide) ?_
    refine lv_icmp_ge (tgt := 13) hx hb dX6_isPlace_6 (by decide) (fun c_2 => ?_) (fun c_2 => ?_)
    · have hm := it_pos c_2 hm
      refine lv_iconst (v := 0) hx hb dX6_isPlace_13 (by decide) ?_
      obtain rfl := Option.some.inj hm
      subst hQ
      exact W.zret (v := 0) hx hb hr rfl (fun t ht hW => ⟨⟨_, (), rfl, rfl, by rw [ht]; exact hP, va_K.moved hW.alike hK, hAe ▸ hD⟩, hS.F ht⟩) hS.2.2 dX6_isPlace_14
    · have hm := it_neg c_2 hm
      refine lv_iconst (v := 1) hx hb dX6_isPlace_9 (by decide) ?_
      refine lv_goto (tgt := 14) hx hb dX6_isPlace_10 (by decide) ?_
      obtain rfl := Option.some.inj hm
      subst hQ
      exact W.zret (v := 1) hx hb hr rfl (fun t ht hW => ⟨⟨_, (), rfl, rfl, by rw [ht]; exact hP, va_K.moved hW.alike hK, hAe ▸ hD⟩, hS.F ht⟩) hS.2.2 dX6_isPlace_14

set_option maxHeartbeats 4000000 in
set_option maxRecDepth 100000 in
theorem kL_isLost (l : Launch) (dC : Nat → ClassId) (dI : Nat → Nat → Nat) (cA : ClassId) (ad : Nat → Nat) (sz : Nat) (a1 : Int32) (xShe_latest : Int32) (gLforms : Nat → Int32) (u : Int32) (hm : fL_isLost a1 gLforms = some u) : Met l yX6_isLost wsX6_isLost ({ frames := 0, cells := 0, slots := 0, locals := 0 }) (va_Pc [.ref (ad 38), .int a1] (fun U => U.heap.size = sz ∧ va_P (dC, dI) vwCl [oShe ad xShe_latest, ar (ad 40) cA 4 gLforms] U.heap ∧ va_K (dC, dI) vwCl [(cA, .int)] U ∧ va_D (fun _ => True) [oShe ad xShe_latest, ar (ad 40) cA 4 gLforms])) (va_Qi (fun (r : Int32) (_ : Unit) => r = u) (fun (_ : Unit) t => va_P (dC, dI) vwCl [oShe ad xShe_latest, ar (ad 40) cA 4 gLforms] t.heap ∧ va_K (dC, dI) vwCl [(cA, .int)] t ∧ va_D (va_A [oShe ad xShe_latest, ar (ad 40) cA 4 gLforms] sz) [oShe ad xShe_latest, ar (ad 40) cA 4 gLforms]) (va_A [oShe ad xShe_latest, ar (ad 40) cA 4 gLforms] sz)) 0 0 (va_A [oShe ad xShe_latest, ar (ad 40) cA 4 gLforms] sz) := by
  refine Met.ofW (cc := cX6_isLost) (maxL := 2) (ret := (some .boolean)) (by decide) rfl ?_
  intro p e s m args below meth c s₁ B hml hv
  obtain ⟨rfl, hsz, hP, hK, hD0⟩ := hv
  have hx := B.exec
  have hb := B.bytes
  have hr := B.returns
  have hts := atoms_spec (ws := wsX6_isLost) B.pre
  have hown : s.vm.findClass RX6 = some m.cls := findClass_of_methodNamed B.named
  have hlocks := B.notSynchronized
  subst hsz
  have hD := hD0.self (sz := s.heap.size)
  generalize hAe : va_A [oShe ad xShe_latest, ar (ad 40) cA 4 gLforms] s.heap.size = A at hD ⊢
  have hA : ∀ q : Nat, s.heap.size ≤ q → A q := fun q h => by rw [← hAe]; exact Or.inr h
  have hS : va_S A s.heap s.heap [] := va_S.rf
  have hl := lv_entry ([.ref (ad 38), .int a1]) (n := 2) (Nat.le_of_ble_eq_true rfl)
  rw [lg_entry_eq]
  generalize (lg_sl ([.ref (ad 38), .int a1]) ++ List.replicate (2 - (lg_sl ([.ref (ad 38), .int a1])).length) Slot.unset).toArray = ls at hl ⊢
  have hl : lv_has ls 2 [(0, .ref (ad 38)), (1, .int a1)] := hl
  refine wk_Q (fun QQ hQ => ?_)
  have hinX6 : ∀ w ∈ wsX60, w ∈ wsX6_isLost := fun w h => List.mem_cons_of_mem _ (inlX6 w h)
  have hl_15 := hts (.fieldLink RX6 15 "HandCensus$Shelf" "forms" "[I") (List.mem_cons_of_mem _ (in_r6 _ (List.mem_of_getElem? (i := 8) rfl)))
  unfold fL_isLost at hm
  refine lv_aload_n hx hb dX6_isLost_0 rfl (lv_at hl 0 rfl) ?_
  refine va_get (D := (dC, dI)) (ci := 6) (v := .ref (ad 40)) (C := RX6) (T := TX6) (N := 4) hx hb hts hinX6 hown hK hP 0 rfl rfl 1 (by decide) hl_15 (fun _ h9 => h9) rfl dX6_isLost_1 ?_
  refine lv_iload_n hx hb dX6_isLost_4 rfl (lv_at hl 1 rfl) ?_
  obtain ⟨i_1, hm⟩ := ck_ok hm
  refine va_iald hx hb hK hP 1 0 rfl rfl i_1 dX6_isLost_5 ?_
  refine lv_iconst (v := (-1)) hx hb dX6_isLost_6 (by decide) ?_
  refine lv_icmp_ne (tgt := 14) hx hb dX6_isLost_7 (by decide) (fun c_2 => ?_) (fun c_2 => ?_)
  · have hm := it_neg c_2 hm
    refine lv_iconst (v := 0) hx hb dX6_isLost_14 (by decide) ?_
    obtain rfl := Option.some.inj hm
    subst hQ
    exact W.zret (v := 0) hx hb hr rfl (fun t ht hW => ⟨⟨_, (), rfl, rfl, by rw [ht]; exact hP, va_K.moved hW.alike hK, hAe ▸ hD⟩, hS.F ht⟩) hS.2.2 dX6_isLost_15
  · have hm := it_pos c_2 hm
    refine lv_iconst (v := 1) hx hb dX6_isLost_10 (by decide) ?_
    refine lv_goto (tgt := 15) hx hb dX6_isLost_11 (by decide) ?_
    obtain rfl := Option.some.inj hm
    subst hQ
    exact W.zret (v := 1) hx hb hr rfl (fun t ht hW => ⟨⟨_, (), rfl, rfl, by rw [ht]; exact hP, va_K.moved hW.alike hK, hAe ▸ hD⟩, hS.F ht⟩) hS.2.2 dX6_isLost_15

set_option maxHeartbeats 4000000 in
set_option maxRecDepth 100000 in
theorem kL_itemAt (l : Launch) (dC : Nat → ClassId) (dI : Nat → Nat → Nat) (cA : ClassId) (ad : Nat → Nat) (sz : Nat) (a1 : Int32) (a2 : Int32) (xShe_latest : Int32) (gLitems : Nat → Int32) (u : Int32) (hm : fL_itemAt a1 a2 gLitems = some u) : Met l yX6_itemAt wsX6_itemAt ({ frames := 0, cells := 0, slots := 0, locals := 0 }) (va_Pc [.ref (ad 38), .int a1, .int a2] (fun U => U.heap.size = sz ∧ va_P (dC, dI) vwCl [oShe ad xShe_latest, ar (ad 39) cA 240 gLitems] U.heap ∧ va_K (dC, dI) vwCl [(cA, .int)] U ∧ va_D (fun _ => True) [oShe ad xShe_latest, ar (ad 39) cA 240 gLitems])) (va_Qi (fun (r : Int32) (_ : Unit) => r = u) (fun (_ : Unit) t => va_P (dC, dI) vwCl [oShe ad xShe_latest, ar (ad 39) cA 240 gLitems] t.heap ∧ va_K (dC, dI) vwCl [(cA, .int)] t ∧ va_D (va_A [oShe ad xShe_latest, ar (ad 39) cA 240 gLitems] sz) [oShe ad xShe_latest, ar (ad 39) cA 240 gLitems]) (va_A [oShe ad xShe_latest, ar (ad 39) cA 240 gLitems] sz)) 0 0 (va_A [oShe ad xShe_latest, ar (ad 39) cA 240 gLitems] sz) := by
  refine Met.ofW (cc := cX6_itemAt) (maxL := 3) (ret := (some .int)) (by decide) rfl ?_
  intro p e s m args below meth c s₁ B hml hv
  obtain ⟨rfl, hsz, hP, hK, hD0⟩ := hv
  have hx := B.exec
  have hb := B.bytes
  have hr := B.returns
  have hts := atoms_spec (ws := wsX6_itemAt) B.pre
  have hown : s.vm.findClass RX6 = some m.cls := findClass_of_methodNamed B.named
  have hlocks := B.notSynchronized
  subst hsz
  have hD := hD0.self (sz := s.heap.size)
  generalize hAe : va_A [oShe ad xShe_latest, ar (ad 39) cA 240 gLitems] s.heap.size = A at hD ⊢
  have hA : ∀ q : Nat, s.heap.size ≤ q → A q := fun q h => by rw [← hAe]; exact Or.inr h
  have hS : va_S A s.heap s.heap [] := va_S.rf
  have hl := lv_entry ([.ref (ad 38), .int a1, .int a2]) (n := 3) (Nat.le_of_ble_eq_true rfl)
  rw [lg_entry_eq]
  generalize (lg_sl ([.ref (ad 38), .int a1, .int a2]) ++ List.replicate (3 - (lg_sl ([.ref (ad 38), .int a1, .int a2])).length) Slot.unset).toArray = ls at hl ⊢
  have hl : lv_has ls 3 [(0, .ref (ad 38)), (1, .int a1), (2, .int a2)] := hl
  refine wk_Q (fun QQ hQ => ?_)
  have hinX6 : ∀ w ∈ wsX60, w ∈ wsX6_itemAt := fun w h => List.mem_cons_of_mem _ (inlX6 w h)
  have hl_11 := hts (.fieldLink RX6 11 "HandCensus$Shelf" "items" "[I") (List.mem_cons_of_mem _ (in_r6 _ (List.mem_of_getElem? (i := 7) rfl)))
  unfold fL_itemAt at hm
  refine lv_aload_n hx hb dX6_itemAt_0 rfl (lv_at hl 0 rfl) ?_
  refine va_get (D := (dC, dI)) (ci := 6) (v := .ref (ad 39)) (C := RX6) (T := TX6) (N := 4) hx hb hts hinX6 hown hK hP 0 rfl rfl 0 (by decide) hl_11 (fun _ h9 => h9) rfl dX6_itemAt_1 ?_
  refine lv_iload_n hx hb dX6_itemAt_4 rfl (lv_at hl 1 rfl) ?_
  refine lv_bipush (v := 60) hx hb dX6_itemAt_5 (by decide) ?_
  refine lv_imul hx hb dX6_itemAt_7 ?_
  refine lv_iload_n hx hb dX6_itemAt_8 rfl (lv_at hl 2 rfl) ?_
  refine lv_iadd hx hb dX6_itemAt_9 ?_
  obtain ⟨i_1, hm⟩ := ck_ok hm
  refine va_iald hx hb hK hP 1 0 rfl rfl i_1 dX6_itemAt_10 ?_
  obtain rfl := Option.some.inj hm
  subst hQ
  exact W.iret (v := (gLitems ((a1 * 60) + a2).toNatClampNeg)) hx hb hr (fun t ht hW => ⟨⟨_, (), rfl, rfl, by rw [ht]; exact hP, va_K.moved hW.alike hK, hAe ▸ hD⟩, hS.F ht⟩) hS.2.2 dX6_itemAt_11

set_option maxHeartbeats 4000000 in
set_option maxRecDepth 100000 in
theorem kL_finding (l : Launch) (dC : Nat → ClassId) (dI : Nat → Nat → Nat) (cA : ClassId) (ad : Nat → Nat) (sz : Nat) (a1 : Int32) (xShe_latest : Int32) (u : Int32 × Int32) (hm : fL_finding a1 xShe_latest = some u) : Met l yX6_finding wsX6_finding ({ frames := 0, cells := 0, slots := 0, locals := 0 }) (va_Pc [.ref (ad 38), .int a1] (fun U => U.heap.size = sz ∧ va_P (dC, dI) vwCl [oShe ad xShe_latest] U.heap ∧ va_K (dC, dI) vwCl [(cA, .int)] U ∧ va_D (fun _ => True) [oShe ad xShe_latest])) (va_Qi (fun (r : Int32) (_ : Unit) => r = u.1) (fun (_ : Unit) t => va_P (dC, dI) vwCl [oShe ad u.2] t.heap ∧ va_K (dC, dI) vwCl [(cA, .int)] t ∧ va_D (va_A [oShe ad xShe_latest] sz) [oShe ad u.2]) (va_A [oShe ad xShe_latest] sz)) 0 0 (va_A [oShe ad xShe_latest] sz) := by
  refine Met.ofW (cc := cX6_finding) (maxL := 2) (ret := (some .int)) (by decide) rfl ?_
  intro p e s m args below meth c s₁ B hml hv
  obtain ⟨rfl, hsz, hP, hK, hD0⟩ := hv
  have hx := B.exec
  have hb := B.bytes
  have hr := B.returns
  have hts := atoms_spec (ws := wsX6_finding) B.pre
  have hown : s.vm.findClass RX6 = some m.cls := findClass_of_methodNamed B.named
  have hlocks := B.notSynchronized
  subst hsz
  have hD := hD0.self (sz := s.heap.size)
  generalize hAe : va_A [oShe ad xShe_latest] s.heap.size = A at hD ⊢
  have hA : ∀ q : Nat, s.heap.size ≤ q → A q := fun q h => by rw [← hAe]; exact Or.inr h
  have hS : va_S A s.heap s.heap [] := va_S.rf
  have hl := lv_entry ([.ref (ad 38), .int a1]) (n := 2) (Nat.le_of_ble_eq_true rfl)
  rw [lg_entry_eq]
  generalize (lg_sl ([.ref (ad 38), .int a1]) ++ List.replicate (2 - (lg_sl ([.ref (ad 38), .int a1])).length) Slot.unset).toArray = ls at hl ⊢
  have hl : lv_has ls 2 [(0, .ref (ad 38)), (1, .int a1)] := hl
  refine wk_Q (fun QQ hQ => ?_)
  have hinX6 : ∀ w ∈ wsX60, w ∈ wsX6_finding := fun w h => List.mem_cons_of_mem _ (inlX6 w h)
  have hl_21 := hts (.fieldLink RX6 21 "HandCensus$Shelf" "latest" "I") (List.mem_cons_of_mem _ (in_r6 _ (List.mem_of_getElem? (i := 10) rfl)))
  unfold fL_finding at hm
  refine lv_aload_n hx hb dX6_finding_0 rfl (lv_at hl 0 rfl) ?_
  refine lv_iload_n hx hb dX6_finding_1 rfl (lv_at hl 1 rfl) ?_
  refine va_put (D := (dC, dI)) (ci := 6) (v := .int a1) (ty := .int) (C := RX6) (T := TX6) (N := 4) hx hb hts hinX6 tyX6 tyX6_ok nmX6 hown hK hP hD hS 0 rfl rfl 3 (by decide) hl_21 (fun _ h9 => h9) rfl (by decide +kernel) rfl rfl (Nat.le_of_ble_eq_true rfl) dX6_finding_2 (fun H locs hP hD hS => ?_)
  have hP : va_P (dC, dI) vwCl [oShe ad a1] H := hP
  have hD : va_D A [oShe ad a1] := hD
  refine lv_bipush (v := (-10)) hx hb dX6_finding_5 (by decide) ?_
  refine lv_iload_n hx hb dX6_finding_7 rfl (lv_at hl 1 rfl) ?_
  refine lv_isub hx hb dX6_finding_8 ?_
  obtain rfl := Option.some.inj hm
  subst hQ
  exact W.iret (v := ((-10) - a1)) hx hb hr (fun t ht hW => ⟨⟨_, (), rfl, rfl, by rw [ht]; exact hP, va_K.moved hW.alike hK, hAe ▸ hD⟩, hS.F ht⟩) hS.2.2 dX6_finding_9

set_option maxHeartbeats 4000000 in
set_option maxRecDepth 100000 in
theorem kC_read (l : Launch) (dC : Nat → ClassId) (dI : Nat → Nat → Nat) (cA : ClassId) (ad : Nat → Nat) (sz : Nat) (a1 : Int32) (xHC_first : Int32) (xHC_second : Int32) (xHC_when : Int32) (xHC_ran : Int32) (xHea_size : Int32) (gHwho : Nat → Int32) (gHtimes : Nat → Int32) (xShe_latest : Int32) (gLitems : Nat → Int32) (gLforms : Nat → Int32) (gLsizes : Nat → Int32) (u : Int32 × Int32 × (Nat → Int32) × (Nat → Int32) × Int32) (hm : fC_read a1 xHea_size gHwho gHtimes xShe_latest gLitems gLforms gLsizes = some u) : Met l yX9_read wsX9_read ({ frames := 1, cells := 0, slots := 0, locals := 22 }) (va_Pc [.ref (ad 0), .int a1] (fun U => U.heap.size = sz ∧ va_P (dC, dI) vwCl [oHC ad xHC_first xHC_second xHC_when xHC_ran, oHea ad xHea_size, ar (ad 31) cA 12 gHwho, ar (ad 32) cA 12 gHtimes, oShe ad xShe_latest, ar (ad 39) cA 240 gLitems, ar (ad 40) cA 4 gLforms, ar (ad 41) cA 4 gLsizes] U.heap ∧ va_K (dC, dI) vwCl [(cA, .int)] U ∧ va_D (fun _ => True) [oHC ad xHC_first xHC_second xHC_when xHC_ran, oHea ad xHea_size, ar (ad 31) cA 12 gHwho, ar (ad 32) cA 12 gHtimes, oShe ad xShe_latest, ar (ad 39) cA 240 gLitems, ar (ad 40) cA 4 gLforms, ar (ad 41) cA 4 gLsizes])) (va_Qi (fun (r : Int32) (_ : Unit) => r = u.1) (fun (_ : Unit) t => va_P (dC, dI) vwCl [oHC ad xHC_first xHC_second xHC_when xHC_ran, oHea ad u.2.1, ar (ad 31) cA 12 u.2.2.1, ar (ad 32) cA 12 u.2.2.2.1, oShe ad u.2.2.2.2, ar (ad 39) cA 240 gLitems, ar (ad 40) cA 4 gLforms, ar (ad 41) cA 4 gLsizes] t.heap ∧ va_K (dC, dI) vwCl [(cA, .int)] t ∧ va_D (va_A [oHC ad xHC_first xHC_second xHC_when xHC_ran, oHea ad xHea_size, ar (ad 31) cA 12 gHwho, ar (ad 32) cA 12 gHtimes, oShe ad xShe_latest, ar (ad 39) cA 240 gLitems, ar (ad 40) cA 4 gLforms, ar (ad 41) cA 4 gLsizes] sz) [oHC ad xHC_first xHC_second xHC_when xHC_ran, oHea ad u.2.1, ar (ad 31) cA 12 u.2.2.1, ar (ad 32) cA 12 u.2.2.2.1, oShe ad u.2.2.2.2, ar (ad 39) cA 240 gLitems, ar (ad 40) cA 4 gLforms, ar (ad 41) cA 4 gLsizes]) (va_A [oHC ad xHC_first xHC_second xHC_when xHC_ran, oHea ad xHea_size, ar (ad 31) cA 12 gHwho, ar (ad 32) cA 12 gHtimes, oShe ad xShe_latest, ar (ad 39) cA 240 gLitems, ar (ad 40) cA 4 gLforms, ar (ad 41) cA 4 gLsizes] sz)) 0 0 (va_A [oHC ad xHC_first xHC_second xHC_when xHC_ran, oHea ad xHea_size, ar (ad 31) cA 12 gHwho, ar (ad 32) cA 12 gHtimes, oShe ad xShe_latest, ar (ad 39) cA 240 gLitems, ar (ad 40) cA 4 gLforms, ar (ad 41) cA 4 gLsizes] sz) := by
  refine Met.ofW (cc := cX9_read) (maxL := 5) (ret := (some .int)) (by decide) rfl ?_
  intro p e s m args below meth c s₁ B hml hv
  obtain ⟨rfl, hsz, hP, hK, hD0⟩ := hv
  have hx := B.exec
  have hb := B.bytes
  have hr := B.returns
  have hts := atoms_spec (ws := wsX9_read) B.pre
  have hown : s.vm.findClass RX9 = some m.cls := findClass_of_methodNamed B.named
  have hlocks := B.notSynchronized
  subst hsz
  have hD := hD0.self (sz := s.heap.size)
  generalize hAe : va_A [oHC ad xHC_first xHC_second xHC_when xHC_ran, oHea ad xHea_size, ar (ad 31) cA 12 gHwho, ar (ad 32) cA 12 gHtimes, oShe ad xShe_latest, ar (ad 39) cA 240 gLitems, ar (ad 40) cA 4 gLforms, ar (ad 41) cA 4 gLsizes] s.heap.size = A at hD ⊢
  have hA : ∀ q : Nat, s.heap.size ≤ q → A q := fun q h => by rw [← hAe]; exact Or.inr h
  have hS : va_S A s.heap s.heap [] := va_S.rf
  have hl := lv_entry ([.ref (ad 0), .int a1]) (n := 5) (Nat.le_of_ble_eq_true rfl)
  rw [lg_entry_eq]
  generalize (lg_sl ([.ref (ad 0), .int a1]) ++ List.replicate (5 - (lg_sl ([.ref (ad 0), .int a1])).length) Slot.unset).toArray = ls at hl ⊢
  have hl : lv_has ls 5 [(0, .ref (ad 0)), (1, .int a1)] := hl
  refine wk_Q (fun QQ hQ => ?_)
  have hinX9 : ∀ w ∈ wsX90, w ∈ wsX9_read := fun w h => List.mem_cons_of_mem _ (inlX9 w h)
  have hl_68 := hts (.fieldLink RX9 68 "HandCensus" "shelf" "LHandCensus$Shelf;") (List.mem_cons_of_mem _ (in_r2 _ (List.mem_of_getElem? (i := 22) rfl)))
  have hinX6 : ∀ w ∈ wsX60, w ∈ wsX9_read := fun w h => List.mem_cons_of_mem _ (inlX6 w h)
  have hl_218 := hts (.fieldLink RX9 218 "HandCensus$Shelf" "sizes" "[I") (List.mem_cons_of_mem _ (in_r33 _ (List.mem_of_getElem? (i := 1) rfl)))
  have hl_54 := hts (.fieldLink RX9 54 "HandCensus" "hearsay" "LHandCensus$Hearsay;") (List.mem_cons_of_mem _ (in_r2 _ (List.mem_of_getElem? (i := 14) rfl)))
  have h_34 : ∀ (v1_34 : Int32) (xShe_latest_34 : Int32), ∀ (n_34 : Nat), ∀ (v2_34 : Int32) (v3_34 : Int32) (xHea_size_34 : Int32) (gHwho_34 : Nat → Int32) (gHtimes_34 : Nat → Int32), fC_read_34 v1_34 xShe_latest_34 gLitems gLsizes n_34 v2_34 v3_34 xHea_size_34 gHwho_34 gHtimes_34 = some u → ∀ (H : Heap) (locs : List Loc), va_P (dC, dI) vwCl [oHC ad xHC_first xHC_second xHC_when xHC_ran, oHea ad xHea_size_34, ar (ad 31) cA 12 gHwho_34, ar (ad 32) cA 12 gHtimes_34, oShe ad xShe_latest_34, ar (ad 39) cA 240 gLitems, ar (ad 40) cA 4 gLforms, ar (ad 41) cA 4 gLsizes] H → va_D A [oHC ad xHC_first xHC_second xHC_when xHC_ran, oHea ad xHea_size_34, ar (ad 31) cA 12 gHwho_34, ar (ad 32) cA 12 gHtimes_34, oShe ad xShe_latest_34, ar (ad 39) cA 240 gLitems, ar (ad 40) cA 4 gLforms, ar (ad 41) cA 4 gLsizes] → va_S A s.heap H locs → ∀ ls : Array Slot, lv_has ls 5 [(0, .ref (ad 0)), (1, .int v1_34), (2, .int v2_34), (3, .int v3_34)] → W p l e (headSpec wsX9_read ({ frames := 1, cells := 0, slots := 0, locals := 22 })).room s m ([.ref (ad 0), .int a1] : List Value).toArray below meth c H locs 0 0 QQ (F0 m 34 ls []) := by
    intro v1_34 xShe_latest_34
    intro n_34
    induction n_34 with
    | zero => intro v2_34 v3_34 xHea_size_34 gHwho_34 gHtimes_34 hm; have hm : (none : Option (Int32 × Int32 × (Nat → Int32) × (Nat → Int32) × Int32)) = some u := hm; cases hm
    | succ n_34 ih_34 =>
      intro v2_34 v3_34 xHea_size_34 gHwho_34 gHtimes_34 hm H locs hP hD hS ls hl
      have hm : fC_read_34_b  (fC_read_34  v1_34 xShe_latest_34 gLitems gLsizes n_34) v1_34 xShe_latest_34 gLitems gLsizes v2_34 v3_34 xHea_size_34 gHwho_34 gHtimes_34 = some u := hm
      unfold fC_read_34_b at hm
      refine lv_iconst (v := 2) hx hb dX9_read_34 (by decide) ?_
      refine lv_iload_n hx hb dX9_read_35 rfl (lv_at hl 3 rfl) ?_
      refine lv_imul hx hb dX9_read_36 ?_
      refine lv_iconst (v := 1) hx hb dX9_read_37 (by decide) ?_
      refine lv_iadd hx hb dX9_read_38 ?_
      refine lv_aload_n hx hb dX9_read_39 rfl (lv_at hl 0 rfl) ?_
      refine va_get (D := (dC, dI)) (ci := 9) (v := .ref (ad 38)) (C := RX9) (T := TX9) (N := 12) hx hb hts hinX9 hown hK hP 0 rfl rfl 7 (by decide) hl_68 (fun _ h9 => h9) rfl dX9_read_40 ?_
      refine va_get (D := (dC, dI)) (ci := 6) (v := .ref (ad 41)) (C := RX6) (T := TX6) (N := 4) hx hb hts hinX6 hown hK hP 4 rfl rfl 2 (by decide) hl_218 (fun _ h9 => h9) rfl dX9_read_43 ?_
      refine lv_iload_n hx hb dX9_read_46 rfl (lv_at hl 1 rfl) ?_
      obtain ⟨i_1, hm⟩ := ck_ok hm
      refine va_iald hx hb hK hP 7 0 rfl rfl i_1 dX9_read_47 ?_
      refine lv_icmp_ge (tgt := 101) hx hb dX9_read_48 (by decide) (fun c_2 => ?_) (fun c_2 => ?_)
      · have hm := it_pos c_2 hm
        refine lv_iload_n hx hb dX9_read_101 rfl (lv_at hl 2 rfl) ?_
        obtain rfl := Option.some.inj hm
        subst hQ
        exact W.iret (v := v2_34) hx hb hr (fun t ht hW => ⟨⟨_, (), rfl, rfl, by rw [ht]; exact hP, va_K.moved hW.alike hK, hAe ▸ hD⟩, hS.F ht⟩) hS.2.2 dX9_read_102
      · have hm := it_neg c_2 hm
        refine lv_aload_n hx hb dX9_read_51 rfl (lv_at hl 0 rfl) ?_
        refine va_get (D := (dC, dI)) (ci := 9) (v := .ref (ad 30)) (C := RX9) (T := TX9) (N := 12) hx hb hts hinX9 hown hK hP 0 rfl rfl 5 (by decide) hl_54 (fun _ h9 => h9) rfl dX9_read_52 ?_
        refine lv_aload_n hx hb dX9_read_55 rfl (lv_at hl 0 rfl) ?_
        refine va_get (D := (dC, dI)) (ci := 9) (v := .ref (ad 38)) (C := RX9) (T := TX9) (N := 12) hx hb hts hinX9 hown hK hP 0 rfl rfl 7 (by decide) hl_68 (fun _ h9 => h9) rfl dX9_read_56 ?_
        refine lv_iload_n hx hb dX9_read_59 rfl (lv_at hl 1 rfl) ?_
        refine lv_iconst (v := 2) hx hb dX9_read_60 (by decide) ?_
        refine lv_iload_n hx hb dX9_read_61 rfl (lv_at hl 3 rfl) ?_
        refine lv_imul hx hb dX9_read_62 ?_
        have hPc := hP.sub (ws' := [oShe ad xShe_latest_34, ar (ad 39) cA 240 gLitems]) [4, 5] rfl
        have hDc := hD.sub (ws' := [oShe ad xShe_latest_34, ar (ad 39) cA 240 gLitems]) [4, 5] (by decide) rfl
        have hFc := va_free (wc := [oShe ad xShe_latest_34, ar (ad 39) cA 240 gLitems]) hD hS hA [4, 5] rfl
        obtain ⟨u_3, hc_3, hm⟩ := bd_ok hm
        refine va_calli (va_runV (As := [.int v1_34, .int (2 * v3_34)]) (rest := [.ref (ad 30)]) ⟨hx, hb, hml, hown, hts⟩ (kL_itemAt l dC dI cA ad H.size v1_34 (2 * v3_34) xShe_latest_34 gLitems u_3 hc_3) (cwV 2 hts gX9_read_X6_itemAt rfl rfl rfl (by decide +kernel) ⟨Nat.le_of_ble_eq_true rfl, Nat.le_of_ble_eq_true rfl⟩) ⟨fun a U g mk q => by obtain ⟨q0, q1, qP, qK, qD⟩ := q; exact ⟨q0, q1, qP, va_K.moved (u := U) (U := U.calling g mk a) (Vm.Alike.refl U.vm) qK, qD⟩, va_recv hK hPc (ci := 6) (q0 := 0) rfl rfl, fun U hU hW => ⟨rfl, by rw [hU], by rw [hU]; exact hPc, va_K.moved hW.alike hK, hDc.weaken (fun _ _ _ _ => trivial)⟩⟩ rfl rfl hl.1 rfl (lv_room (Nat.le_of_ble_eq_true rfl)) dX9_read_63 ⟨Nat.le_of_ble_eq_true rfl, Nat.le_of_ble_eq_true rfl⟩) hS (fun q _ h => hFc q h) hFc (fun r_3 _ t H1 locs ht hvm hw hB hz1 hk1 hS => ?_)
        obtain ⟨hP1, hK1, hD1⟩ := hB
        rw [ht] at hP1
        obtain ⟨hP, hD⟩ := va_join (wr := [oHC ad xHC_first xHC_second xHC_when xHC_ran, oHea ad xHea_size_34, ar (ad 31) cA 12 gHwho_34, ar (ad 32) cA 12 gHtimes_34, ar (ad 40) cA 4 gLforms, ar (ad 41) cA 4 gLsizes]) (w1 := [oShe ad xShe_latest_34, ar (ad 39) cA 240 gLitems]) hP hD [4, 5] [0, 1, 2, 3, 6, 7] rfl rfl (by decide) (by decide) hk1 hFc hP1 hD1
        clear hPc hDc hFc hP1 hK1 hD1 hk1 hz1 hvm ht
        generalize H1 = H at hP hS ⊢
        have hP : va_P (dC, dI) vwCl [oHC ad xHC_first xHC_second xHC_when xHC_ran, oHea ad xHea_size_34, ar (ad 31) cA 12 gHwho_34, ar (ad 32) cA 12 gHtimes_34, oShe ad xShe_latest_34, ar (ad 39) cA 240 gLitems, ar (ad 40) cA 4 gLforms, ar (ad 41) cA 4 gLsizes] H := hP.sub [0, 1, 2, 3, 6, 7, 4, 5] rfl
        have hD : va_D A [oHC ad xHC_first xHC_second xHC_when xHC_ran, oHea ad xHea_size_34, ar (ad 31) cA 12 gHwho_34, ar (ad 32) cA 12 gHtimes_34, oShe ad xShe_latest_34, ar (ad 39) cA 240 gLitems, ar (ad 40) cA 4 gLforms, ar (ad 41) cA 4 gLsizes] := hD.sub [0, 1, 2, 3, 6, 7, 4, 5] (by decide) rfl
        have hw := hw.symm
        subst hw
        refine lv_aload_n hx hb dX9_read_66 rfl (lv_at hl 0 rfl) ?_
        refine va_get (D := (dC, dI)) (ci := 9) (v := .ref (ad 38)) (C := RX9) (T := TX9) (N := 12) hx hb hts hinX9 hown hK hP 0 rfl rfl 7 (by decide) hl_68 (fun _ h9 => h9) rfl dX9_read_67 ?_
        refine lv_iload_n hx hb dX9_read_70 rfl (lv_at hl 1 rfl) ?_
        refine lv_iconst (v := 2) hx hb dX9_read_71 (by decide) ?_
        refine lv_iload_n hx hb dX9_read_72 rfl (lv_at hl 3 rfl) ?_
        refine lv_imul hx hb dX9_read_73 ?_
        refine lv_iconst (v := 1) hx hb dX9_read_74 (by decide) ?_
        refine lv_iadd hx hb dX9_read_75 ?_
        have hPc := hP.sub (ws' := [oShe ad xShe_latest_34, ar (ad 39) cA 240 gLitems]) [4, 5] rfl
        have hDc := hD.sub (ws' := [oShe ad xShe_latest_34, ar (ad 39) cA 240 gLitems]) [4, 5] (by decide) rfl
        have hFc := va_free (wc := [oShe ad xShe_latest_34, ar (ad 39) cA 240 gLitems]) hD hS hA [4, 5] rfl
        obtain ⟨u_4, hc_4, hm⟩ := bd_ok hm
        refine va_calli (va_runV (As := [.int v1_34, .int ((2 * v3_34) + 1)]) (rest := [.int u_3, .ref (ad 30)]) ⟨hx, hb, hml, hown, hts⟩ (kL_itemAt l dC dI cA ad H.size v1_34 ((2 * v3_34) + 1) xShe_latest_34 gLitems u_4 hc_4) (cwV 2 hts gX9_read_X6_itemAt rfl rfl rfl (by decide +kernel) ⟨Nat.le_of_ble_eq_true rfl, Nat.le_of_ble_eq_true rfl⟩) ⟨fun a U g mk q => by obtain ⟨q0, q1, qP, qK, qD⟩ := q; exact ⟨q0, q1, qP, va_K.moved (u := U) (U := U.calling g mk a) (Vm.Alike.refl U.vm) qK, qD⟩, va_recv hK hPc (ci := 6) (q0 := 0) rfl rfl, fun U hU hW => ⟨rfl, by rw [hU], by rw [hU]; exact hPc, va_K.moved hW.alike hK, hDc.weaken (fun _ _ _ _ => trivial)⟩⟩ rfl rfl hl.1 rfl (lv_room (Nat.le_of_ble_eq_true rfl)) dX9_read_76 ⟨Nat.le_of_ble_eq_true rfl, Nat.le_of_ble_eq_true rfl⟩) hS (fun q _ h => hFc q h) hFc (fun r_4 _ t H1 locs ht hvm hw hB hz1 hk1 hS => ?_)
        obtain ⟨hP1, hK1, hD1⟩ := hB
        rw [ht] at hP1
        obtain ⟨hP, hD⟩ := va_join (wr := [oHC ad xHC_first xHC_second xHC_when xHC_ran, oHea ad xHea_size_34, ar (ad 31) cA 12 gHwho_34, ar (ad 32) cA 12 gHtimes_34, ar (ad 40) cA 4 gLforms, ar (ad 41) cA 4 gLsizes]) (w1 := [oShe ad xShe_latest_34, ar (ad 39) cA 240 gLitems]) hP hD [4, 5] [0, 1, 2, 3, 6, 7] rfl rfl (by decide) (by decide) hk1 hFc hP1 hD1
        clear hPc hDc hFc hP1 hK1 hD1 hk1 hz1 hvm ht
        generalize H1 = H at hP hS ⊢
        have hP : va_P (dC, dI) vwCl [oHC ad xHC_first xHC_second xHC_when xHC_ran, oHea ad xHea_size_34, ar (ad 31) cA 12 gHwho_34, ar (ad 32) cA 12 gHtimes_34, oShe ad xShe_latest_34, ar (ad 39) cA 240 gLitems, ar (ad 40) cA 4 gLforms, ar (ad 41) cA 4 gLsizes] H := hP.sub [0, 1, 2, 3, 6, 7, 4, 5] rfl
        have hD : va_D A [oHC ad xHC_first xHC_second xHC_when xHC_ran, oHea ad xHea_size_34, ar (ad 31) cA 12 gHwho_34, ar (ad 32) cA 12 gHtimes_34, oShe ad xShe_latest_34, ar (ad 39) cA 240 gLitems, ar (ad 40) cA 4 gLforms, ar (ad 41) cA 4 gLsizes] := hD.sub [0, 1, 2, 3, 6, 7, 4, 5] (by decide) rfl
        have hw := hw.symm
        subst hw
        have hPc := hP.sub (ws' := [oHea ad xHea_size_34, ar (ad 31) cA 12 gHwho_34, ar (ad 32) cA 12 gHtimes_34]) [1, 2, 3] rfl
        have hDc := hD.sub (ws' := [oHea ad xHea_size_34, ar (ad 31) cA 12 gHwho_34, ar (ad 32) cA 12 gHtimes_34]) [1, 2, 3] (by decide) rfl
        have hFc := va_free (wc := [oHea ad xHea_size_34, ar (ad 31) cA 12 gHwho_34, ar (ad 32) cA 12 gHtimes_34]) hD hS hA [1, 2, 3] rfl
        obtain ⟨u_5, hc_5, hm⟩ := bd_ok hm
        refine va_calli (va_runV (As := [.int u_3, .int u_4]) (rest := []) ⟨hx, hb, hml, hown, hts⟩ (kH_take l dC dI cA ad H.size u_3 u_4 xHea_size_34 gHwho_34 gHtimes_34 u_5 hc_5) (cwV 2 hts gX9_read_X2_take rfl rfl rfl (by decide +kernel) ⟨Nat.le_of_ble_eq_true rfl, Nat.le_of_ble_eq_true rfl⟩) ⟨fun a U g mk q => by obtain ⟨q0, q1, qP, qK, qD⟩ := q; exact ⟨q0, q1, qP, va_K.moved (u := U) (U := U.calling g mk a) (Vm.Alike.refl U.vm) qK, qD⟩, va_recv hK hPc (ci := 2) (q0 := 0) rfl rfl, fun U hU hW => ⟨rfl, by rw [hU], by rw [hU]; exact hPc, va_K.moved hW.alike hK, hDc.weaken (fun _ _ _ _ => trivial)⟩⟩ rfl rfl hl.1 rfl (lv_room (Nat.le_of_ble_eq_true rfl)) dX9_read_79 ⟨Nat.le_of_ble_eq_true rfl, Nat.le_of_ble_eq_true rfl⟩) hS (fun q _ h => hFc q h) hFc (fun r_5 _ t H1 locs ht hvm hw hB hz1 hk1 hS => ?_)
        obtain ⟨hP1, hK1, hD1⟩ := hB
        rw [ht] at hP1
        obtain ⟨hP, hD⟩ := va_join (wr := [oHC ad xHC_first xHC_second xHC_when xHC_ran, oShe ad xShe_latest_34, ar (ad 39) cA 240 gLitems, ar (ad 40) cA 4 gLforms, ar (ad 41) cA 4 gLsizes]) (w1 := [oHea ad u_5.2.1, ar (ad 31) cA 12 u_5.2.2.1, ar (ad 32) cA 12 u_5.2.2.2]) hP hD [1, 2, 3] [0, 4, 5, 6, 7] rfl rfl (by decide) (by decide) hk1 hFc hP1 hD1
        clear hPc hDc hFc hP1 hK1 hD1 hk1 hz1 hvm ht
        generalize H1 = H at hP hS ⊢
        have hP : va_P (dC, dI) vwCl [oHC ad xHC_first xHC_second xHC_when xHC_ran, oHea ad u_5.2.1, ar (ad 31) cA 12 u_5.2.2.1, ar (ad 32) cA 12 u_5.2.2.2, oShe ad xShe_latest_34, ar (ad 39) cA 240 gLitems, ar (ad 40) cA 4 gLforms, ar (ad 41) cA 4 gLsizes] H := hP.sub [0, 5, 6, 7, 1, 2, 3, 4] rfl
        have hD : va_D A [oHC ad xHC_first xHC_second xHC_when xHC_ran, oHea ad u_5.2.1, ar (ad 31) cA 12 u_5.2.2.1, ar (ad 32) cA 12 u_5.2.2.2, oShe ad xShe_latest_34, ar (ad 39) cA 240 gLitems, ar (ad 40) cA 4 gLforms, ar (ad 41) cA 4 gLsizes] := hD.sub [0, 5, 6, 7, 1, 2, 3, 4] (by decide) rfl
        have hw := hw.symm
        subst hw
        refine lv_istore (lv' := [(4, .int u_5.1), (0, .ref (ad 0)), (1, .int v1_34), (2, .int v2_34), (3, .int v3_34)]) hx hb dX9_read_82 hl (by decide) rfl (fun ls hl => ?_)
        refine lv_iload hx hb dX9_read_84 (lv_at hl 0 rfl) ?_
        refine lv_if_ge (tgt := 92) hx hb dX9_read_86 (by decide) (fun c_6 => ?_) (fun c_6 => ?_)
        · have hm := it_pos c_6 hm
          refine lv_iinc (v := (v2_34 + 1)) (lv' := [(2, .int (v2_34 + 1)), (4, .int u_5.1), (0, .ref (ad 0)), (1, .int v1_34), (3, .int v3_34)]) hx hb dX9_read_92 hl (k := 3) rfl rfl (by decide) rfl (fun ls hl => ?_)
          refine lv_iinc (v := (v3_34 + 1)) (lv' := [(3, .int (v3_34 + 1)), (2, .int (v2_34 + 1)), (4, .int u_5.1), (0, .ref (ad 0)), (1, .int v1_34)]) hx hb dX9_read_95 hl (k := 4) rfl rfl (by decide) rfl (fun ls hl => ?_)
          refine lv_goto (tgt := 34) hx hb dX9_read_98 (by decide) ?_
          exact ih_34 _ _ _ _ _ hm _ _ hP hD hS _ (lv_sub hl [3, 4, 1, 0] rfl)
        · have hm := it_neg c_6 hm
          refine lv_goto (tgt := 101) hx hb dX9_read_89 (by decide) ?_
          refine lv_iload_n hx hb dX9_read_101 rfl (lv_at hl 3 rfl) ?_
          obtain rfl := Option.some.inj hm
          subst hQ
          exact W.iret (v := v2_34) hx hb hr (fun t ht hW => ⟨⟨_, (), rfl, rfl, by rw [ht]; exact hP, va_K.moved hW.alike hK, hAe ▸ hD⟩, hS.F ht⟩) hS.2.2 dX9_read_102
  unfold fC_read at hm
  refine lv_iload_n hx hb dX9_read_0 rfl (lv_at hl 1 rfl) ?_
  have hPc := hP.sub (ws' := []) [] rfl
  have hDc := hD.sub (ws' := []) [] (by decide) rfl
  have hFc := va_free (wc := []) hD hS hA [] rfl
  obtain ⟨u_7, hc_7, hm⟩ := bd_ok hm
  refine va_calli (va_runS (As := [.int a1]) (rest := []) ⟨hx, hb, hml, hown, hts⟩ (kL_isPlace l dC dI cA ad s.heap.size a1 u_7 hc_7) (va_cwS 1 hts gX9_read_X6_isPlace rfl rfl rfl (by decide +kernel) ⟨Nat.le_of_ble_eq_true rfl, Nat.le_of_ble_eq_true rfl⟩) ⟨fun a U g mk q => by obtain ⟨q0, q1, qP, qK, qD⟩ := q; exact ⟨q0, q1, qP, va_K.moved (u := U) (U := U.calling g mk a) (Vm.Alike.refl U.vm) qK, qD⟩, fun U hU hW => ⟨rfl, by rw [hU], by rw [hU]; exact hPc, va_K.moved hW.alike hK, hDc.weaken (fun _ _ _ _ => trivial)⟩⟩ rfl rfl hl.1 rfl (lv_room (Nat.le_of_ble_eq_true rfl)) dX9_read_1 ⟨Nat.le_of_ble_eq_true rfl, Nat.le_of_ble_eq_true rfl⟩) hS (fun q _ h => hFc q h) hFc (fun r_7 _ t H1 locs ht hvm hw hB hz1 hk1 hS => ?_)
  obtain ⟨hP1, hK1, hD1⟩ := hB
  rw [ht] at hP1
  obtain ⟨hP, hD⟩ := va_join (wr := [oHC ad xHC_first xHC_second xHC_when xHC_ran, oHea ad xHea_size, ar (ad 31) cA 12 gHwho, ar (ad 32) cA 12 gHtimes, oShe ad xShe_latest, ar (ad 39) cA 240 gLitems, ar (ad 40) cA 4 gLforms, ar (ad 41) cA 4 gLsizes]) (w1 := []) hP hD [] [0, 1, 2, 3, 4, 5, 6, 7] rfl rfl (by decide) (by decide) hk1 hFc hP1 hD1
  clear hPc hDc hFc hP1 hK1 hD1 hk1 hz1 hvm ht
  generalize H1 = H at hP hS ⊢
  have hP : va_P (dC, dI) vwCl [oHC ad xHC_first xHC_second xHC_when xHC_ran, oHea ad xHea_size, ar (ad 31) cA 12 gHwho, ar (ad 32) cA 12 gHtimes, oShe ad xShe_latest, ar (ad 39) cA 240 gLitems, ar (ad 40) cA 4 gLforms, ar (ad 41) cA 4 gLsizes] H := hP
  have hD : va_D A [oHC ad xHC_first xHC_second xHC_when xHC_ran, oHea ad xHea_size, ar (ad 31) cA 12 gHwho, ar (ad 32) cA 12 gHtimes, oShe ad xShe_latest, ar (ad 39) cA 240 gLitems, ar (ad 40) cA 4 gLforms, ar (ad 41) cA 4 gLsizes] := hD
  have hw := hw.symm
  subst hw
  refine lv_if_ne (tgt := 10) hx hb dX9_read_4 (by decide) (fun c_8 => ?_) (fun c_8 => ?_)
  · have hm := it_neg c_8 hm
    refine lv_aload_n hx hb dX9_read_10 rfl (lv_at hl 0 rfl) ?_
    refine va_get (D := (dC, dI)) (ci := 9) (v := .ref (ad 38)) (C := RX9) (T := TX9) (N := 12) hx hb hts hinX9 hown hK hP 0 rfl rfl 7 (by decide) hl_68 (fun _ h9 => h9) rfl dX9_read_11 ?_
    refine lv_iload_n hx hb dX9_read_14 rfl (lv_at hl 1 rfl) ?_
    have hPc := hP.sub (ws' := [oShe ad xShe_latest, ar (ad 40) cA 4 gLforms]) [4, 6] rfl
    have hDc := hD.sub (ws' := [oShe ad xShe_latest, ar (ad 40) cA 4 gLforms]) [4, 6] (by decide) rfl
    have hFc := va_free (wc := [oShe ad xShe_latest, ar (ad 40) cA 4 gLforms]) hD hS hA [4, 6] rfl
    obtain ⟨u_9, hc_9, hm⟩ := bd_ok hm
    refine va_calli (va_runV (As := [.int a1]) (rest := []) ⟨hx, hb, hml, hown, hts⟩ (kL_isLost l dC dI cA ad H.size a1 xShe_latest gLforms u_9 hc_9) (cwV 1 hts gX9_read_X6_isLost rfl rfl rfl (by decide +kernel) ⟨Nat.le_of_ble_eq_true rfl, Nat.le_of_ble_eq_true rfl⟩) ⟨fun a U g mk q => by obtain ⟨q0, q1, qP, qK, qD⟩ := q; exact ⟨q0, q1, qP, va_K.moved (u := U) (U := U.calling g mk a) (Vm.Alike.refl U.vm) qK, qD⟩, va_recv hK hPc (ci := 6) (q0 := 0) rfl rfl, fun U hU hW => ⟨rfl, by rw [hU], by rw [hU]; exact hPc, va_K.moved hW.alike hK, hDc.weaken (fun _ _ _ _ => trivial)⟩⟩ rfl rfl hl.1 rfl (lv_room (Nat.le_of_ble_eq_true rfl)) dX9_read_15 ⟨Nat.le_of_ble_eq_true rfl, Nat.le_of_ble_eq_true rfl⟩) hS (fun q _ h => hFc q h) hFc (fun r_9 _ t H1 locs ht hvm hw hB hz1 hk1 hS => ?_)
    obtain ⟨hP1, hK1, hD1⟩ := hB
    rw [ht] at hP1
    obtain ⟨hP, hD⟩ := va_join (wr := [oHC ad xHC_first xHC_second xHC_when xHC_ran, oHea ad xHea_size, ar (ad 31) cA 12 gHwho, ar (ad 32) cA 12 gHtimes, ar (ad 39) cA 240 gLitems, ar (ad 41) cA 4 gLsizes]) (w1 := [oShe ad xShe_latest, ar (ad 40) cA 4 gLforms]) hP hD [4, 6] [0, 1, 2, 3, 5, 7] rfl rfl (by decide) (by decide) hk1 hFc hP1 hD1
    clear hPc hDc hFc hP1 hK1 hD1 hk1 hz1 hvm ht
    generalize H1 = H at hP hS ⊢
    have hP : va_P (dC, dI) vwCl [oHC ad xHC_first xHC_second xHC_when xHC_ran, oHea ad xHea_size, ar (ad 31) cA 12 gHwho, ar (ad 32) cA 12 gHtimes, oShe ad xShe_latest, ar (ad 39) cA 240 gLitems, ar (ad 40) cA 4 gLforms, ar (ad 41) cA 4 gLsizes] H := hP.sub [0, 1, 2, 3, 6, 4, 7, 5] rfl
    have hD : va_D A [oHC ad xHC_first xHC_second xHC_when xHC_ran, oHea ad xHea_size, ar (ad 31) cA 12 gHwho, ar (ad 32) cA 12 gHtimes, oShe ad xShe_latest, ar (ad 39) cA 240 gLitems, ar (ad 40) cA 4 gLforms, ar (ad 41) cA 4 gLsizes] := hD.sub [0, 1, 2, 3, 6, 4, 7, 5] (by decide) rfl
    have hw := hw.symm
    subst hw
    refine lv_if_eq (tgt := 30) hx hb dX9_read_18 (by decide) (fun c_10 => ?_) (fun c_10 => ?_)
    · have hm := it_pos c_10 hm
      refine lv_iconst (v := 0) hx hb dX9_read_30 (by decide) ?_
      refine lv_istore_n (lv' := [(2, .int 0), (0, .ref (ad 0)), (1, .int a1)]) hx hb dX9_read_31 rfl hl (by decide) rfl (fun ls hl => ?_)
      refine lv_iconst (v := 0) hx hb dX9_read_32 (by decide) ?_
      refine lv_istore_n (lv' := [(3, .int 0), (2, .int 0), (0, .ref (ad 0)), (1, .int a1)]) hx hb dX9_read_33 rfl hl (by decide) rfl (fun ls hl => ?_)
      exact h_34 _ _ _ _ _ _ _ _ hm _ _ hP hD hS _ (lv_sub hl [2, 3, 1, 0] rfl)
    · have hm := it_neg c_10 hm
      refine lv_aload_n hx hb dX9_read_21 rfl (lv_at hl 0 rfl) ?_
      refine va_get (D := (dC, dI)) (ci := 9) (v := .ref (ad 38)) (C := RX9) (T := TX9) (N := 12) hx hb hts hinX9 hown hK hP 0 rfl rfl 7 (by decide) hl_68 (fun _ h9 => h9) rfl dX9_read_22 ?_
      refine lv_iconst (v := 1) hx hb dX9_read_25 (by decide) ?_
      have hPc := hP.sub (ws' := [oShe ad xShe_latest]) [4] rfl
      have hDc := hD.sub (ws' := [oShe ad xShe_latest]) [4] (by decide) rfl
      have hFc := va_free (wc := [oShe ad xShe_latest]) hD hS hA [4] rfl
      obtain ⟨u_11, hc_11, hm⟩ := bd_ok hm
      refine va_calli (va_runV (As := [.int 1]) (rest := []) ⟨hx, hb, hml, hown, hts⟩ (kL_finding l dC dI cA ad H.size 1 xShe_latest u_11 hc_11) (cwV 1 hts gX9_read_X6_finding rfl rfl rfl (by decide +kernel) ⟨Nat.le_of_ble_eq_true rfl, Nat.le_of_ble_eq_true rfl⟩) ⟨fun a U g mk q => by obtain ⟨q0, q1, qP, qK, qD⟩ := q; exact ⟨q0, q1, qP, va_K.moved (u := U) (U := U.calling g mk a) (Vm.Alike.refl U.vm) qK, qD⟩, va_recv hK hPc (ci := 6) (q0 := 0) rfl rfl, fun U hU hW => ⟨rfl, by rw [hU], by rw [hU]; exact hPc, va_K.moved hW.alike hK, hDc.weaken (fun _ _ _ _ => trivial)⟩⟩ rfl rfl hl.1 rfl (lv_room (Nat.le_of_ble_eq_true rfl)) dX9_read_26 ⟨Nat.le_of_ble_eq_true rfl, Nat.le_of_ble_eq_true rfl⟩) hS (fun q _ h => hFc q h) hFc (fun r_11 _ t H1 locs ht hvm hw hB hz1 hk1 hS => ?_)
      obtain ⟨hP1, hK1, hD1⟩ := hB
      rw [ht] at hP1
      obtain ⟨hP, hD⟩ := va_join (wr := [oHC ad xHC_first xHC_second xHC_when xHC_ran, oHea ad xHea_size, ar (ad 31) cA 12 gHwho, ar (ad 32) cA 12 gHtimes, ar (ad 39) cA 240 gLitems, ar (ad 40) cA 4 gLforms, ar (ad 41) cA 4 gLsizes]) (w1 := [oShe ad u_11.2]) hP hD [4] [0, 1, 2, 3, 5, 6, 7] rfl rfl (by decide) (by decide) hk1 hFc hP1 hD1
      clear hPc hDc hFc hP1 hK1 hD1 hk1 hz1 hvm ht
      generalize H1 = H at hP hS ⊢
      have hP : va_P (dC, dI) vwCl [oHC ad xHC_first xHC_second xHC_when xHC_ran, oHea ad xHea_size, ar (ad 31) cA 12 gHwho, ar (ad 32) cA 12 gHtimes, oShe ad u_11.2, ar (ad 39) cA 240 gLitems, ar (ad 40) cA 4 gLforms, ar (ad 41) cA 4 gLsizes] H := hP.sub [0, 1, 2, 3, 7, 4, 5, 6] rfl
      have hD : va_D A [oHC ad xHC_first xHC_second xHC_when xHC_ran, oHea ad xHea_size, ar (ad 31) cA 12 gHwho, ar (ad 32) cA 12 gHtimes, oShe ad u_11.2, ar (ad 39) cA 240 gLitems, ar (ad 40) cA 4 gLforms, ar (ad 41) cA 4 gLsizes] := hD.sub [0, 1, 2, 3, 7, 4, 5, 6] (by decide) rfl
      have hw := hw.symm
      subst hw
      obtain rfl := Option.some.inj hm
      subst hQ
      exact W.iret (v := u_11.1) hx hb hr (fun t ht hW => ⟨⟨_, (), rfl, rfl, by rw [ht]; exact hP, va_K.moved hW.alike hK, hAe ▸ hD⟩, hS.F ht⟩) hS.2.2 dX9_read_29
  · have hm := it_pos c_8 hm
    refine lv_bipush (v := (-2)) hx hb dX9_read_7 (by decide) ?_
    obtain rfl := Option.some.inj hm
    subst hQ
    exact W.iret (v := (-2)) hx hb hr (fun t ht hW => ⟨⟨_, (), rfl, rfl, by rw [ht]; exact hP, va_K.moved hW.alike hK, hAe ▸ hD⟩, hS.F ht⟩) hS.2.2 dX9_read_9

set_option maxHeartbeats 4000000 in
set_option maxRecDepth 100000 in
theorem kC_forget (l : Launch) (dC : Nat → ClassId) (dI : Nat → Nat → Nat) (cA : ClassId) (ad : Nat → Nat) (sz : Nat) (xHC_first : Int32) (xHC_second : Int32) (xHC_when : Int32) (xHC_ran : Int32) (xHea_size : Int32) (u : Int32 × Int32) (hm : fC_forget xHea_size = some u) : Met l yX9_forget wsX9_forget ({ frames := 0, cells := 0, slots := 0, locals := 0 }) (va_Pc [.ref (ad 0)] (fun U => U.heap.size = sz ∧ va_P (dC, dI) vwCl [oHC ad xHC_first xHC_second xHC_when xHC_ran, oHea ad xHea_size] U.heap ∧ va_K (dC, dI) vwCl [(cA, .int)] U ∧ va_D (fun _ => True) [oHC ad xHC_first xHC_second xHC_when xHC_ran, oHea ad xHea_size])) (va_Qi (fun (r : Int32) (_ : Unit) => r = u.1) (fun (_ : Unit) t => va_P (dC, dI) vwCl [oHC ad xHC_first xHC_second xHC_when xHC_ran, oHea ad u.2] t.heap ∧ va_K (dC, dI) vwCl [(cA, .int)] t ∧ va_D (va_A [oHC ad xHC_first xHC_second xHC_when xHC_ran, oHea ad xHea_size] sz) [oHC ad xHC_first xHC_second xHC_when xHC_ran, oHea ad u.2]) (va_A [oHC ad xHC_first xHC_second xHC_when xHC_ran, oHea ad xHea_size] sz)) 0 0 (va_A [oHC ad xHC_first xHC_second xHC_when xHC_ran, oHea ad xHea_size] sz) := by
  refine Met.ofW (cc := cX9_forget) (maxL := 2) (ret := (some .int)) (by decide) rfl ?_
  intro p e s m args below meth c s₁ B hml hv
  obtain ⟨rfl, hsz, hP, hK, hD0⟩ := hv
  have hx := B.exec
  have hb := B.bytes
  have hr := B.returns
  have hts := atoms_spec (ws := wsX9_forget) B.pre
  have hown : s.vm.findClass RX9 = some m.cls := findClass_of_methodNamed B.named
  have hlocks := B.notSynchronized
  subst hsz
  have hD := hD0.self (sz := s.heap.size)
  generalize hAe : va_A [oHC ad xHC_first xHC_second xHC_when xHC_ran, oHea ad xHea_size] s.heap.size = A at hD ⊢
  have hA : ∀ q : Nat, s.heap.size ≤ q → A q := fun q h => by rw [← hAe]; exact Or.inr h
  have hS : va_S A s.heap s.heap [] := va_S.rf
  have hl := lv_entry ([.ref (ad 0)]) (n := 2) (Nat.le_of_ble_eq_true rfl)
  rw [lg_entry_eq]
  generalize (lg_sl ([.ref (ad 0)]) ++ List.replicate (2 - (lg_sl ([.ref (ad 0)])).length) Slot.unset).toArray = ls at hl ⊢
  have hl : lv_has ls 2 [(0, .ref (ad 0))] := hl
  refine wk_Q (fun QQ hQ => ?_)
  have hinX9 : ∀ w ∈ wsX90, w ∈ wsX9_forget := fun w h => List.mem_cons_of_mem _ (inlX9 w h)
  have hl_54 := hts (.fieldLink RX9 54 "HandCensus" "hearsay" "LHandCensus$Hearsay;") (List.mem_cons_of_mem _ (in_r2 _ (List.mem_of_getElem? (i := 14) rfl)))
  have hinX2 : ∀ w ∈ wsX20, w ∈ wsX9_forget := fun w h => List.mem_cons_of_mem _ (inlX2 w h)
  have hl_224 := hts (.fieldLink RX9 224 "HandCensus$Hearsay" "size" "I") (List.mem_cons_of_mem _ (in_r34 _ (List.mem_of_getElem? (i := 9) rfl)))
  unfold fC_forget at hm
  refine lv_aload_n hx hb dX9_forget_0 rfl (lv_at hl 0 rfl) ?_
  refine va_get (D := (dC, dI)) (ci := 9) (v := .ref (ad 30)) (C := RX9) (T := TX9) (N := 12) hx hb hts hinX9 hown hK hP 0 rfl rfl 5 (by decide) hl_54 (fun _ h9 => h9) rfl dX9_forget_1 ?_
  refine va_get (D := (dC, dI)) (ci := 2) (v := .int xHea_size) (C := RX2) (T := TX2) (N := 3) hx hb hts hinX2 hown hK hP 1 rfl rfl 2 (by decide) hl_224 (fun _ h9 => h9) rfl dX9_forget_4 ?_
  refine lv_istore_n (lv' := [(1, .int xHea_size), (0, .ref (ad 0))]) hx hb dX9_forget_7 rfl hl (by decide) rfl (fun ls hl => ?_)
  refine lv_aload_n hx hb dX9_forget_8 rfl (lv_at hl 1 rfl) ?_
  refine va_get (D := (dC, dI)) (ci := 9) (v := .ref (ad 30)) (C := RX9) (T := TX9) (N := 12) hx hb hts hinX9 hown hK hP 0 rfl rfl 5 (by decide) hl_54 (fun _ h9 => h9) rfl dX9_forget_9 ?_
  refine lv_iconst (v := 0) hx hb dX9_forget_12 (by decide) ?_
  refine va_put (D := (dC, dI)) (ci := 2) (v := .int 0) (ty := .int) (C := RX2) (T := TX2) (N := 3) hx hb hts hinX2 tyX2 tyX2_ok nmX2 hown hK hP hD hS 1 rfl rfl 2 (by decide) hl_224 (fun _ h9 => h9) rfl (by decide +kernel) rfl rfl (Nat.le_of_ble_eq_true rfl) dX9_forget_13 (fun H locs hP hD hS => ?_)
  have hP : va_P (dC, dI) vwCl [oHC ad xHC_first xHC_second xHC_when xHC_ran, oHea ad 0] H := hP
  have hD : va_D A [oHC ad xHC_first xHC_second xHC_when xHC_ran, oHea ad 0] := hD
  refine lv_iload_n hx hb dX9_forget_16 rfl (lv_at hl 0 rfl) ?_
  obtain rfl := Option.some.inj hm
  subst hQ
  exact W.iret (v := xHea_size) hx hb hr (fun t ht hW => ⟨⟨_, (), rfl, rfl, by rw [ht]; exact hP, va_K.moved hW.alike hK, hAe ▸ hD⟩, hS.F ht⟩) hS.2.2 dX9_forget_17
