/-! ===== constructors ===== -/
set_option maxHeartbeats 8000000 in
set_option maxRecDepth 100000 in
theorem kR_init (l : Launch) (dC : Nat → ClassId) (dI : Nat → Nat → Nat) (cA : ClassId) (h0 : Nat) (sz : Nat) : Met l yX5_init wsX5_init ({ frames := 1, cells := 7, slots := 148, locals := 12 }) (va_Pc [.ref h0] (fun U => U.heap.size = sz ∧ va_P (dC, dI) vwCl [(h0, .inr (5, [.null, .null, .null, .null, .null, .null, .null, .int 0, .int 0, .int 0, .int 0, .int 0, .int 0]))] U.heap ∧ va_K (dC, dI) vwCl [(cA, .int)] U ∧ va_D (fun _ => True) [(h0, .inr (5, [.null, .null, .null, .null, .null, .null, .null, .int 0, .int 0, .int 0, .int 0, .int 0, .int 0]))])) (va_Qv (fun (_ : Nat → Nat) => True) (fun (b : Nat → Nat) t => va_P (dC, dI) vwCl [(h0, .inr (5, [.ref (b 0), .ref (b 1), .ref (b 2), .ref (b 3), .ref (b 4), .ref (b 5), .ref (b 6), .int 0, .int 0, .int 0, .int 0, .int 0, .int (-1)])), ar (b 0) cA 60 (fun _ => 0), ar (b 1) cA 20 (fun _ => 0), ar (b 2) cA 20 (fun _ => 0), ar (b 3) cA 20 (fun _ => 0), ar (b 4) cA 20 (fun _ => 0), ar (b 5) cA 4 (upd (fun _ => 0) (0 : Int32).toNatClampNeg (-1)), ar (b 6) cA 4 (fun _ => 0)] t.heap ∧ va_K (dC, dI) vwCl [(cA, .int)] t ∧ va_D (va_A [(h0, .inr (5, [.null, .null, .null, .null, .null, .null, .null, .int 0, .int 0, .int 0, .int 0, .int 0, .int 0]))] sz) [(h0, .inr (5, [.ref (b 0), .ref (b 1), .ref (b 2), .ref (b 3), .ref (b 4), .ref (b 5), .ref (b 6), .int 0, .int 0, .int 0, .int 0, .int 0, .int (-1)])), ar (b 0) cA 60 (fun _ => 0), ar (b 1) cA 20 (fun _ => 0), ar (b 2) cA 20 (fun _ => 0), ar (b 3) cA 20 (fun _ => 0), ar (b 4) cA 20 (fun _ => 0), ar (b 5) cA 4 (upd (fun _ => 0) (0 : Int32).toNatClampNeg (-1)), ar (b 6) cA 4 (fun _ => 0)]) (va_A [(h0, .inr (5, [.null, .null, .null, .null, .null, .null, .null, .int 0, .int 0, .int 0, .int 0, .int 0, .int 0]))] sz)) 7 148 (va_A [(h0, .inr (5, [.null, .null, .null, .null, .null, .null, .null, .int 0, .int 0, .int 0, .int 0, .int 0, .int 0]))] sz) := by
  refine Met.ofW (cc := cX5_init) (maxL := 1) (ret := none) (by decide) rfl ?_
  intro p e s m args below meth c s₁ B hml hv
  obtain ⟨rfl, hsz, hP, hK, hD0⟩ := hv
  have hx := B.exec
  have hb := B.bytes
  have hr := B.returns
  have hts := atoms_spec (ws := wsX5_init) B.pre
  have hown : s.vm.findClass RX5 = some m.cls := findClass_of_methodNamed B.named
  have hin : meth.name = "<init>" := (name_of_methodNamed B.named B.method).1
  subst hsz
  have hD := hD0.self (sz := s.heap.size)
  generalize hAe : va_A [(h0, .inr (5, [.null, .null, .null, .null, .null, .null, .null, .int 0, .int 0, .int 0, .int 0, .int 0, .int 0]))] s.heap.size = A at hD ⊢
  have hA : ∀ q : Nat, s.heap.size ≤ q → A q := fun q h => by rw [← hAe]; exact Or.inr h
  have hS : va_S A s.heap s.heap [] := va_S.rf
  have hl := lv_entry ([.ref h0]) (n := 1) (Nat.le_of_ble_eq_true rfl)
  rw [lg_entry_eq]
  generalize (lg_sl ([.ref h0]) ++ List.replicate (1 - (lg_sl ([.ref h0])).length) Slot.unset).toArray = ls at hl ⊢
  have hl : lv_has ls 1 [(0, .ref h0)] := hl
  refine wk_Q (fun QQ hQ => ?_)
  have hw_0 := hts (.methodLink RX5 3 objectInit) (List.mem_cons_of_mem _ (in_r3 _ (List.mem_of_getElem? (i := 6) rfl)))
  have hw_1 := hts (.instanceMethod objectInit) (List.mem_cons_of_mem _ (in_r1 _ (List.mem_of_getElem? (i := 10) rfl)))
  have hw_2 := hts (.code objectInit ⟨#[0xb1]⟩ 1 none) (List.mem_cons_of_mem _ (in_r1 _ (List.mem_of_getElem? (i := 11) rfl)))
  have hw_3 := hts (.arrayClass .int) (List.mem_cons_of_mem _ (in_r3 _ (List.mem_of_getElem? (i := 7) rfl)))
  have hinX5 : ∀ w ∈ wsX50, w ∈ wsX5_init := fun w h => List.mem_cons_of_mem _ (inlX5 w h)
  have hw_4 := hts (.fieldLink RX5 11 "HandCensus$Row" "text" "[I") (List.mem_cons_of_mem _ (in_r3 _ (List.mem_of_getElem? (i := 8) rfl)))
  have hw_5 := hts (.fieldLink RX5 15 "HandCensus$Row" "kinds" "[I") (List.mem_cons_of_mem _ (in_r3 _ (List.mem_of_getElem? (i := 9) rfl)))
  have hw_6 := hts (.fieldLink RX5 18 "HandCensus$Row" "lates" "[I") (List.mem_cons_of_mem _ (in_r3 _ (List.mem_of_getElem? (i := 10) rfl)))
  have hw_7 := hts (.fieldLink RX5 21 "HandCensus$Row" "hands" "[I") (List.mem_cons_of_mem _ (in_r3 _ (List.mem_of_getElem? (i := 11) rfl)))
  have hw_8 := hts (.fieldLink RX5 24 "HandCensus$Row" "slow" "[I") (List.mem_cons_of_mem _ (in_r3 _ (List.mem_of_getElem? (i := 12) rfl)))
  have hw_9 := hts (.fieldLink RX5 27 "HandCensus$Row" "ahead" "[I") (List.mem_cons_of_mem _ (in_r3 _ (List.mem_of_getElem? (i := 13) rfl)))
  have hw_10 := hts (.fieldLink RX5 30 "HandCensus$Row" "direct" "[I") (List.mem_cons_of_mem _ (in_r3 _ (List.mem_of_getElem? (i := 14) rfl)))
  have hw_11 := hts (.fieldLink RX5 33 "HandCensus$Row" "faultPlace" "I") (List.mem_cons_of_mem _ (in_r3 _ (List.mem_of_getElem? (i := 15) rfl)))
  refine lv_aload_n hx hb dX5_init_0 rfl (lv_at hl 0 rfl) ?_
  refine W.objInit hx hb hown hw_0 hw_1 hw_2 rfl (by rw [hml]; exact hl.1) rfl dX5_init_1 (Nat.le_of_ble_eq_true rfl) (Nat.le_of_ble_eq_true rfl) ?_
  refine W.eq (g2 := F0 m 4 ls []) rfl ?_
  refine lv_aload_n hx hb dX5_init_4 rfl (lv_at hl 0 rfl) ?_
  refine lv_bipush (v := 60) hx hb dX5_init_5 (by decide) ?_
  refine va_newa (atype := .int) (ty := .int) (N' := 60) (a0 := (60, .inl (fun _ => 0))) hx hb hw_3 rfl hK hP hD hS hA (fun _ => rfl) (by decide) rfl (Nat.le_of_ble_eq_true rfl) (Nat.le_of_ble_eq_true rfl) (Nat.le_of_ble_eq_true rfl) dX5_init_7 (fun q7 cN H hK2 hP hD hS => ?_)
  obtain rfl : cA = cN := va_same hK2 0 1 rfl rfl
  clear hK2
  have hP : va_P (dC, dI) vwCl [(h0, .inr (5, [.null, .null, .null, .null, .null, .null, .null, .int 0, .int 0, .int 0, .int 0, .int 0, .int 0])), ar q7 cA 60 (fun _ => 0)] H := hP
  have hD : va_D A [(h0, .inr (5, [.null, .null, .null, .null, .null, .null, .null, .int 0, .int 0, .int 0, .int 0, .int 0, .int 0])), ar q7 cA 60 (fun _ => 0)] := hD
  refine W.widen (k := 1) (n := 60) (Nat.le_of_ble_eq_true rfl) (Nat.le_of_ble_eq_true rfl) ?_
  refine va_putF (D := (dC, dI)) (ci := 5) (v := .ref q7) (ty := .array .int) (C := RX5) (T := TX5) (N := 13) hx hb hts hinX5 tyX5 tyX5_ok nmX5 hown hK hP hD hS 0 rfl rfl 0 (by decide) hw_4 (fun _ h9 => h9) rfl hin rfl (by decide +kernel) rfl rfl (Nat.le_of_ble_eq_true rfl) dX5_init_9 (fun H locs hP hD hS => ?_)
  have hP : va_P (dC, dI) vwCl [(h0, .inr (5, [.ref q7, .null, .null, .null, .null, .null, .null, .int 0, .int 0, .int 0, .int 0, .int 0, .int 0])), ar q7 cA 60 (fun _ => 0)] H := hP
  have hD : va_D A [(h0, .inr (5, [.ref q7, .null, .null, .null, .null, .null, .null, .int 0, .int 0, .int 0, .int 0, .int 0, .int 0])), ar q7 cA 60 (fun _ => 0)] := hD
  refine lv_aload_n hx hb dX5_init_12 rfl (lv_at hl 0 rfl) ?_
  refine lv_bipush (v := 20) hx hb dX5_init_13 (by decide) ?_
  refine va_newa (atype := .int) (ty := .int) (N' := 20) (a0 := (20, .inl (fun _ => 0))) hx hb hw_3 rfl hK hP hD hS hA (fun _ => rfl) (by decide) rfl (Nat.le_of_ble_eq_true rfl) (Nat.le_of_ble_eq_true rfl) (Nat.le_of_ble_eq_true rfl) dX5_init_15 (fun q15 cN H hK2 hP hD hS => ?_)
  obtain rfl : cA = cN := va_same hK2 0 1 rfl rfl
  clear hK2
  have hP : va_P (dC, dI) vwCl [(h0, .inr (5, [.ref q7, .null, .null, .null, .null, .null, .null, .int 0, .int 0, .int 0, .int 0, .int 0, .int 0])), ar q7 cA 60 (fun _ => 0), ar q15 cA 20 (fun _ => 0)] H := hP
  have hD : va_D A [(h0, .inr (5, [.ref q7, .null, .null, .null, .null, .null, .null, .int 0, .int 0, .int 0, .int 0, .int 0, .int 0])), ar q7 cA 60 (fun _ => 0), ar q15 cA 20 (fun _ => 0)] := hD
  refine W.widen (k := 2) (n := 80) (Nat.le_of_ble_eq_true rfl) (Nat.le_of_ble_eq_true rfl) ?_
  refine va_putF (D := (dC, dI)) (ci := 5) (v := .ref q15) (ty := .array .int) (C := RX5) (T := TX5) (N := 13) hx hb hts hinX5 tyX5 tyX5_ok nmX5 hown hK hP hD hS 0 rfl rfl 1 (by decide) hw_5 (fun _ h9 => h9) rfl hin rfl (by decide +kernel) rfl rfl (Nat.le_of_ble_eq_true rfl) dX5_init_17 (fun H locs hP hD hS => ?_)
  have hP : va_P (dC, dI) vwCl [(h0, .inr (5, [.ref q7, .ref q15, .null, .null, .null, .null, .null, .int 0, .int 0, .int 0, .int 0, .int 0, .int 0])), ar q7 cA 60 (fun _ => 0), ar q15 cA 20 (fun _ => 0)] H := hP
  have hD : va_D A [(h0, .inr (5, [.ref q7, .ref q15, .null, .null, .null, .null, .null, .int 0, .int 0, .int 0, .int 0, .int 0, .int 0])), ar q7 cA 60 (fun _ => 0), ar q15 cA 20 (fun _ => 0)] := hD
  refine lv_aload_n hx hb dX5_init_20 rfl (lv_at hl 0 rfl) ?_
  refine lv_bipush (v := 20) hx hb dX5_init_21 (by decide) ?_
  refine va_newa (atype := .int) (ty := .int) (N' := 20) (a0 := (20, .inl (fun _ => 0))) hx hb hw_3 rfl hK hP hD hS hA (fun _ => rfl) (by decide) rfl (Nat.le_of_ble_eq_true rfl) (Nat.le_of_ble_eq_true rfl) (Nat.le_of_ble_eq_true rfl) dX5_init_23 (fun q23 cN H hK2 hP hD hS => ?_)
  obtain rfl : cA = cN := va_same hK2 0 1 rfl rfl
  clear hK2
  have hP : va_P (dC, dI) vwCl [(h0, .inr (5, [.ref q7, .ref q15, .null, .null, .null, .null, .null, .int 0, .int 0, .int 0, .int 0, .int 0, .int 0])), ar q7 cA 60 (fun _ => 0), ar q15 cA 20 (fun _ => 0), ar q23 cA 20 (fun _ => 0)] H := hP
  have hD : va_D A [(h0, .inr (5, [.ref q7, .ref q15, .null, .null, .null, .null, .null, .int 0, .int 0, .int 0, .int 0, .int 0, .int 0])), ar q7 cA 60 (fun _ => 0), ar q15 cA 20 (fun _ => 0), ar q23 cA 20 (fun _ => 0)] := hD
  refine W.widen (k := 3) (n := 100) (Nat.le_of_ble_eq_true rfl) (Nat.le_of_ble_eq_true rfl) ?_
  refine va_putF (D := (dC, dI)) (ci := 5) (v := .ref q23) (ty := .array .int) (C := RX5) (T := TX5) (N := 13) hx hb hts hinX5 tyX5 tyX5_ok nmX5 hown hK hP hD hS 0 rfl rfl 2 (by decide) hw_6 (fun _ h9 => h9) rfl hin rfl (by decide +kernel) rfl rfl (Nat.le_of_ble_eq_true rfl) dX5_init_25 (fun H locs hP hD hS => ?_)
  have hP : va_P (dC, dI) vwCl [(h0, .inr (5, [.ref q7, .ref q15, .ref q23, .null, .null, .null, .null, .int 0, .int 0, .int 0, .int 0, .int 0, .int 0])), ar q7 cA 60 (fun _ => 0), ar q15 cA 20 (fun _ => 0), ar q23 cA 20 (fun _ => 0)] H := hP
  have hD : va_D A [(h0, .inr (5, [.ref q7, .ref q15, .ref q23, .null, .null, .null, .null, .int 0, .int 0, .int 0, .int 0, .int 0, .int 0])), ar q7 cA 60 (fun _ => 0), ar q15 cA 20 (fun _ => 0), ar q23 cA 20 (fun _ => 0)] := hD
  refine lv_aload_n hx hb dX5_init_28 rfl (lv_at hl 0 rfl) ?_
  refine lv_bipush (v := 20) hx hb dX5_init_29 (by decide) ?_
  refine va_newa (atype := .int) (ty := .int) (N' := 20) (a0 := (20, .inl (fun _ => 0))) hx hb hw_3 rfl hK hP hD hS hA (fun _ => rfl) (by decide) rfl (Nat.le_of_ble_eq_true rfl) (Nat.le_of_ble_eq_true rfl) (Nat.le_of_ble_eq_true rfl) dX5_init_31 (fun q31 cN H hK2 hP hD hS => ?_)
  obtain rfl : cA = cN := va_same hK2 0 1 rfl rfl
  clear hK2
  have hP : va_P (dC, dI) vwCl [(h0, .inr (5, [.ref q7, .ref q15, .ref q23, .null, .null, .null, .null, .int 0, .int 0, .int 0, .int 0, .int 0, .int 0])), ar q7 cA 60 (fun _ => 0), ar q15 cA 20 (fun _ => 0), ar q23 cA 20 (fun _ => 0), ar q31 cA 20 (fun _ => 0)] H := hP
  have hD : va_D A [(h0, .inr (5, [.ref q7, .ref q15, .ref q23, .null, .null, .null, .null, .int 0, .int 0, .int 0, .int 0, .int 0, .int 0])), ar q7 cA 60 (fun _ => 0), ar q15 cA 20 (fun _ => 0), ar q23 cA 20 (fun _ => 0), ar q31 cA 20 (fun _ => 0)] := hD
  refine W.widen (k := 4) (n := 120) (Nat.le_of_ble_eq_true rfl) (Nat.le_of_ble_eq_true rfl) ?_
  refine va_putF (D := (dC, dI)) (ci := 5) (v := .ref q31) (ty := .array .int) (C := RX5) (T := TX5) (N := 13) hx hb hts hinX5 tyX5 tyX5_ok nmX5 hown hK hP hD hS 0 rfl rfl 3 (by decide) hw_7 (fun _ h9 => h9) rfl hin rfl (by decide +kernel) rfl rfl (Nat.le_of_ble_eq_true rfl) dX5_init_33 (fun H locs hP hD hS => ?_)
  have hP : va_P (dC, dI) vwCl [(h0, .inr (5, [.ref q7, .ref q15, .ref q23, .ref q31, .null, .null, .null, .int 0, .int 0, .int 0, .int 0, .int 0, .int 0])), ar q7 cA 60 (fun _ => 0), ar q15 cA 20 (fun _ => 0), ar q23 cA 20 (fun _ => 0), ar q31 cA 20 (fun _ => 0)] H := hP
  have hD : va_D A [(h0, .inr (5, [.ref q7, .ref q15, .ref q23, .ref q31, .null, .null, .null, .int 0, .int 0, .int 0, .int 0, .int 0, .int 0])), ar q7 cA 60 (fun _ => 0), ar q15 cA 20 (fun _ => 0), ar q23 cA 20 (fun _ => 0), ar q31 cA 20 (fun _ => 0)] := hD
  refine lv_aload_n hx hb dX5_init_36 rfl (lv_at hl 0 rfl) ?_
  refine lv_bipush (v := 20) hx hb dX5_init_37 (by decide) ?_
  refine va_newa (atype := .int) (ty := .int) (N' := 20) (a0 := (20, .inl (fun _ => 0))) hx hb hw_3 rfl hK hP hD hS hA (fun _ => rfl) (by decide) rfl (Nat.le_of_ble_eq_true rfl) (Nat.le_of_ble_eq_true rfl) (Nat.le_of_ble_eq_true rfl) dX5_init_39 (fun q39 cN H hK2 hP hD hS => ?_)
  obtain rfl : cA = cN := va_same hK2 0 1 rfl rfl
  clear hK2
  have hP : va_P (dC, dI) vwCl [(h0, .inr (5, [.ref q7, .ref q15, .ref q23, .ref q31, .null, .null, .null, .int 0, .int 0, .int 0, .int 0, .int 0, .int 0])), ar q7 cA 60 (fun _ => 0), ar q15 cA 20 (fun _ => 0), ar q23 cA 20 (fun _ => 0), ar q31 cA 20 (fun _ => 0), ar q39 cA 20 (fun _ => 0)] H := hP
  have hD : va_D A [(h0, .inr (5, [.ref q7, .ref q15, .ref q23, .ref q31, .null, .null, .null, .int 0, .int 0, .int 0, .int 0, .int 0, .int 0])), ar q7 cA 60 (fun _ => 0), ar q15 cA 20 (fun _ => 0), ar q23 cA 20 (fun _ => 0), ar q31 cA 20 (fun _ => 0), ar q39 cA 20 (fun _ => 0)] := hD
  refine W.widen (k := 5) (n := 140) (Nat.le_of_ble_eq_true rfl) (Nat.le_of_ble_eq_true rfl) ?_
  refine va_putF (D := (dC, dI)) (ci := 5) (v := .ref q39) (ty := .array .int) (C := RX5) (T := TX5) (N := 13) hx hb hts hinX5 tyX5 tyX5_ok nmX5 hown hK hP hD hS 0 rfl rfl 4 (by decide) hw_8 (fun _ h9 => h9) rfl hin rfl (by decide +kernel) rfl rfl (Nat.le_of_ble_eq_true rfl) dX5_init_41 (fun H locs hP hD hS => ?_)
  have hP : va_P (dC, dI) vwCl [(h0, .inr (5, [.ref q7, .ref q15, .ref q23, .ref q31, .ref q39, .null, .null, .int 0, .int 0, .int 0, .int 0, .int 0, .int 0])), ar q7 cA 60 (fun _ => 0), ar q15 cA 20 (fun _ => 0), ar q23 cA 20 (fun _ => 0), ar q31 cA 20 (fun _ => 0), ar q39 cA 20 (fun _ => 0)] H := hP
  have hD : va_D A [(h0, .inr (5, [.ref q7, .ref q15, .ref q23, .ref q31, .ref q39, .null, .null, .int 0, .int 0, .int 0, .int 0, .int 0, .int 0])), ar q7 cA 60 (fun _ => 0), ar q15 cA 20 (fun _ => 0), ar q23 cA 20 (fun _ => 0), ar q31 cA 20 (fun _ => 0), ar q39 cA 20 (fun _ => 0)] := hD
  refine lv_aload_n hx hb dX5_init_44 rfl (lv_at hl 0 rfl) ?_
  refine lv_iconst (v := 4) hx hb dX5_init_45 (by decide) ?_
  refine va_newa (atype := .int) (ty := .int) (N' := 4) (a0 := (4, .inl (fun _ => 0))) hx hb hw_3 rfl hK hP hD hS hA (fun _ => rfl) (by decide) rfl (Nat.le_of_ble_eq_true rfl) (Nat.le_of_ble_eq_true rfl) (Nat.le_of_ble_eq_true rfl) dX5_init_46 (fun q46 cN H hK2 hP hD hS => ?_)
  obtain rfl : cA = cN := va_same hK2 0 1 rfl rfl
  clear hK2
  have hP : va_P (dC, dI) vwCl [(h0, .inr (5, [.ref q7, .ref q15, .ref q23, .ref q31, .ref q39, .null, .null, .int 0, .int 0, .int 0, .int 0, .int 0, .int 0])), ar q7 cA 60 (fun _ => 0), ar q15 cA 20 (fun _ => 0), ar q23 cA 20 (fun _ => 0), ar q31 cA 20 (fun _ => 0), ar q39 cA 20 (fun _ => 0), ar q46 cA 4 (fun _ => 0)] H := hP
  have hD : va_D A [(h0, .inr (5, [.ref q7, .ref q15, .ref q23, .ref q31, .ref q39, .null, .null, .int 0, .int 0, .int 0, .int 0, .int 0, .int 0])), ar q7 cA 60 (fun _ => 0), ar q15 cA 20 (fun _ => 0), ar q23 cA 20 (fun _ => 0), ar q31 cA 20 (fun _ => 0), ar q39 cA 20 (fun _ => 0), ar q46 cA 4 (fun _ => 0)] := hD
  refine W.widen (k := 6) (n := 144) (Nat.le_of_ble_eq_true rfl) (Nat.le_of_ble_eq_true rfl) ?_
  refine va_putF (D := (dC, dI)) (ci := 5) (v := .ref q46) (ty := .array .int) (C := RX5) (T := TX5) (N := 13) hx hb hts hinX5 tyX5 tyX5_ok nmX5 hown hK hP hD hS 0 rfl rfl 5 (by decide) hw_9 (fun _ h9 => h9) rfl hin rfl (by decide +kernel) rfl rfl (Nat.le_of_ble_eq_true rfl) dX5_init_48 (fun H locs hP hD hS => ?_)
  have hP : va_P (dC, dI) vwCl [(h0, .inr (5, [.ref q7, .ref q15, .ref q23, .ref q31, .ref q39, .ref q46, .null, .int 0, .int 0, .int 0, .int 0, .int 0, .int 0])), ar q7 cA 60 (fun _ => 0), ar q15 cA 20 (fun _ => 0), ar q23 cA 20 (fun _ => 0), ar q31 cA 20 (fun _ => 0), ar q39 cA 20 (fun _ => 0), ar q46 cA 4 (fun _ => 0)] H := hP
  have hD : va_D A [(h0, .inr (5, [.ref q7, .ref q15, .ref q23, .ref q31, .ref q39, .ref q46, .null, .int 0, .int 0, .int 0, .int 0, .int 0, .int 0])), ar q7 cA 60 (fun _ => 0), ar q15 cA 20 (fun _ => 0), ar q23 cA 20 (fun _ => 0), ar q31 cA 20 (fun _ => 0), ar q39 cA 20 (fun _ => 0), ar q46 cA 4 (fun _ => 0)] := hD
  refine lv_aload_n hx hb dX5_init_51 rfl (lv_at hl 0 rfl) ?_
  refine lv_iconst (v := 4) hx hb dX5_init_52 (by decide) ?_
  refine va_newa (atype := .int) (ty := .int) (N' := 4) (a0 := (4, .inl (fun _ => 0))) hx hb hw_3 rfl hK hP hD hS hA (fun _ => rfl) (by decide) rfl (Nat.le_of_ble_eq_true rfl) (Nat.le_of_ble_eq_true rfl) (Nat.le_of_ble_eq_true rfl) dX5_init_53 (fun q53 cN H hK2 hP hD hS => ?_)
  obtain rfl : cA = cN := va_same hK2 0 1 rfl rfl
  clear hK2
  have hP : va_P (dC, dI) vwCl [(h0, .inr (5, [.ref q7, .ref q15, .ref q23, .ref q31, .ref q39, .ref q46, .null, .int 0, .int 0, .int 0, .int 0, .int 0, .int 0])), ar q7 cA 60 (fun _ => 0), ar q15 cA 20 (fun _ => 0), ar q23 cA 20 (fun _ => 0), ar q31 cA 20 (fun _ => 0), ar q39 cA 20 (fun _ => 0), ar q46 cA 4 (fun _ => 0), ar q53 cA 4 (fun _ => 0)] H := hP
  have hD : va_D A [(h0, .inr (5, [.ref q7, .ref q15, .ref q23, .ref q31, .ref q39, .ref q46, .null, .int 0, .int 0, .int 0, .int 0, .int 0, .int 0])), ar q7 cA 60 (fun _ => 0), ar q15 cA 20 (fun _ => 0), ar q23 cA 20 (fun _ => 0), ar q31 cA 20 (fun _ => 0), ar q39 cA 20 (fun _ => 0), ar q46 cA 4 (fun _ => 0), ar q53 cA 4 (fun _ => 0)] := hD
  refine W.widen (k := 7) (n := 148) (Nat.le_of_ble_eq_true rfl) (Nat.le_of_ble_eq_true rfl) ?_
  refine va_putF (D := (dC, dI)) (ci := 5) (v := .ref q53) (ty := .array .int) (C := RX5) (T := TX5) (N := 13) hx hb hts hinX5 tyX5 tyX5_ok nmX5 hown hK hP hD hS 0 rfl rfl 6 (by decide) hw_10 (fun _ h9 => h9) rfl hin rfl (by decide +kernel) rfl rfl (Nat.le_of_ble_eq_true rfl) dX5_init_55 (fun H locs hP hD hS => ?_)
  have hP : va_P (dC, dI) vwCl [(h0, .inr (5, [.ref q7, .ref q15, .ref q23, .ref q31, .ref q39, .ref q46, .ref q53, .int 0, .int 0, .int 0, .int 0, .int 0, .int 0])), ar q7 cA 60 (fun _ => 0), ar q15 cA 20 (fun _ => 0), ar q23 cA 20 (fun _ => 0), ar q31 cA 20 (fun _ => 0), ar q39 cA 20 (fun _ => 0), ar q46 cA 4 (fun _ => 0), ar q53 cA 4 (fun _ => 0)] H := hP
  have hD : va_D A [(h0, .inr (5, [.ref q7, .ref q15, .ref q23, .ref q31, .ref q39, .ref q46, .ref q53, .int 0, .int 0, .int 0, .int 0, .int 0, .int 0])), ar q7 cA 60 (fun _ => 0), ar q15 cA 20 (fun _ => 0), ar q23 cA 20 (fun _ => 0), ar q31 cA 20 (fun _ => 0), ar q39 cA 20 (fun _ => 0), ar q46 cA 4 (fun _ => 0), ar q53 cA 4 (fun _ => 0)] := hD
  refine lv_aload_n hx hb dX5_init_58 rfl (lv_at hl 0 rfl) ?_
  refine va_get (D := (dC, dI)) (ci := 5) (v := .ref q46) (C := RX5) (T := TX5) (N := 13) hx hb hts hinX5 hown hK hP 0 rfl rfl 5 (by decide) hw_9 (fun _ h9 => h9) rfl dX5_init_59 ?_
  refine lv_iconst (v := 0) hx hb dX5_init_62 (by decide) ?_
  refine lv_iconst (v := (-1)) hx hb dX5_init_63 (by decide) ?_
  refine va_iast hx hb hK hP hD hS 6 0 rfl rfl (show vp_in 0 4 by unfold vp_in; decide) dX5_init_64 (fun H locs hP hD hS => ?_)
  have hP : va_P (dC, dI) vwCl [(h0, .inr (5, [.ref q7, .ref q15, .ref q23, .ref q31, .ref q39, .ref q46, .ref q53, .int 0, .int 0, .int 0, .int 0, .int 0, .int 0])), ar q7 cA 60 (fun _ => 0), ar q15 cA 20 (fun _ => 0), ar q23 cA 20 (fun _ => 0), ar q31 cA 20 (fun _ => 0), ar q39 cA 20 (fun _ => 0), ar q46 cA 4 (upd (fun _ => 0) (0 : Int32).toNatClampNeg (-1)), ar q53 cA 4 (fun _ => 0)] H := hP
  have hD : va_D A [(h0, .inr (5, [.ref q7, .ref q15, .ref q23, .ref q31, .ref q39, .ref q46, .ref q53, .int 0, .int 0, .int 0, .int 0, .int 0, .int 0])), ar q7 cA 60 (fun _ => 0), ar q15 cA 20 (fun _ => 0), ar q23 cA 20 (fun _ => 0), ar q31 cA 20 (fun _ => 0), ar q39 cA 20 (fun _ => 0), ar q46 cA 4 (upd (fun _ => 0) (0 : Int32).toNatClampNeg (-1)), ar q53 cA 4 (fun _ => 0)] := hD
  refine lv_aload_n hx hb dX5_init_65 rfl (lv_at hl 0 rfl) ?_
  refine lv_iconst (v := (-1)) hx hb dX5_init_66 (by decide) ?_
  refine va_put (D := (dC, dI)) (ci := 5) (v := .int (-1)) (ty := .int) (C := RX5) (T := TX5) (N := 13) hx hb hts hinX5 tyX5 tyX5_ok nmX5 hown hK hP hD hS 0 rfl rfl 12 (by decide) hw_11 (fun _ h9 => h9) rfl (by decide +kernel) rfl rfl (Nat.le_of_ble_eq_true rfl) dX5_init_67 (fun H locs hP hD hS => ?_)
  have hP : va_P (dC, dI) vwCl [(h0, .inr (5, [.ref q7, .ref q15, .ref q23, .ref q31, .ref q39, .ref q46, .ref q53, .int 0, .int 0, .int 0, .int 0, .int 0, .int (-1)])), ar q7 cA 60 (fun _ => 0), ar q15 cA 20 (fun _ => 0), ar q23 cA 20 (fun _ => 0), ar q31 cA 20 (fun _ => 0), ar q39 cA 20 (fun _ => 0), ar q46 cA 4 (upd (fun _ => 0) (0 : Int32).toNatClampNeg (-1)), ar q53 cA 4 (fun _ => 0)] H := hP
  have hD : va_D A [(h0, .inr (5, [.ref q7, .ref q15, .ref q23, .ref q31, .ref q39, .ref q46, .ref q53, .int 0, .int 0, .int 0, .int 0, .int 0, .int (-1)])), ar q7 cA 60 (fun _ => 0), ar q15 cA 20 (fun _ => 0), ar q23 cA 20 (fun _ => 0), ar q31 cA 20 (fun _ => 0), ar q39 cA 20 (fun _ => 0), ar q46 cA 4 (upd (fun _ => 0) (0 : Int32).toNatClampNeg (-1)), ar q53 cA 4 (fun _ => 0)] := hD
  subst hQ
  exact W.vret hx hb hr (fun t ht hW => ⟨⟨adl [q7, q15, q23, q31, q39, q46, q53], rfl, trivial, by rw [ht]; exact hP, va_K.moved hW.alike hK, hAe ▸ hD⟩, hS.F ht⟩) hS.2.2 dX5_init_70

set_option maxHeartbeats 8000000 in
set_option maxRecDepth 100000 in
theorem kD_init (l : Launch) (dC : Nat → ClassId) (dI : Nat → Nat → Nat) (cA : ClassId) (h0 : Nat) (sz : Nat) : Met l yX1_init wsX1_init ({ frames := 1, cells := 1, slots := 64, locals := 12 }) (va_Pc [.ref h0] (fun U => U.heap.size = sz ∧ va_P (dC, dI) vwCl [(h0, .inr (1, [.null, .int 0]))] U.heap ∧ va_K (dC, dI) vwCl [(cA, .int)] U ∧ va_D (fun _ => True) [(h0, .inr (1, [.null, .int 0]))])) (va_Qv (fun (_ : Nat → Nat) => True) (fun (b : Nat → Nat) t => va_P (dC, dI) vwCl [(h0, .inr (1, [.ref (b 0), .int 0])), ar (b 0) cA 64 (fun _ => 0)] t.heap ∧ va_K (dC, dI) vwCl [(cA, .int)] t ∧ va_D (va_A [(h0, .inr (1, [.null, .int 0]))] sz) [(h0, .inr (1, [.ref (b 0), .int 0])), ar (b 0) cA 64 (fun _ => 0)]) (va_A [(h0, .inr (1, [.null, .int 0]))] sz)) 1 64 (va_A [(h0, .inr (1, [.null, .int 0]))] sz) := by
  refine Met.ofW (cc := cX1_init) (maxL := 1) (ret := none) (by decide) rfl ?_
  intro p e s m args below meth c s₁ B hml hv
  obtain ⟨rfl, hsz, hP, hK, hD0⟩ := hv
  have hx := B.exec
  have hb := B.bytes
  have hr := B.returns
  have hts := atoms_spec (ws := wsX1_init) B.pre
  have hown : s.vm.findClass RX1 = some m.cls := findClass_of_methodNamed B.named
  have hin : meth.name = "<init>" := (name_of_methodNamed B.named B.method).1
  subst hsz
  have hD := hD0.self (sz := s.heap.size)
  generalize hAe : va_A [(h0, .inr (1, [.null, .int 0]))] s.heap.size = A at hD ⊢
  have hA : ∀ q : Nat, s.heap.size ≤ q → A q := fun q h => by rw [← hAe]; exact Or.inr h
  have hS : va_S A s.heap s.heap [] := va_S.rf
  have hl := lv_entry ([.ref h0]) (n := 1) (Nat.le_of_ble_eq_true rfl)
  rw [lg_entry_eq]
  generalize (lg_sl ([.ref h0]) ++ List.replicate (1 - (lg_sl ([.ref h0])).length) Slot.unset).toArray = ls at hl ⊢
  have hl : lv_has ls 1 [(0, .ref h0)] := hl
  refine wk_Q (fun QQ hQ => ?_)
  have hw_0 := hts (.methodLink RX1 3 objectInit) (List.mem_cons_of_mem _ (in_r3 _ (List.mem_of_getElem? (i := 19) rfl)))
  have hw_1 := hts (.instanceMethod objectInit) (List.mem_cons_of_mem _ (in_r1 _ (List.mem_of_getElem? (i := 10) rfl)))
  have hw_2 := hts (.code objectInit ⟨#[0xb1]⟩ 1 none) (List.mem_cons_of_mem _ (in_r1 _ (List.mem_of_getElem? (i := 11) rfl)))
  have hw_3 := hts (.arrayClass .int) (List.mem_cons_of_mem _ (in_r3 _ (List.mem_of_getElem? (i := 7) rfl)))
  have hinX1 : ∀ w ∈ wsX10, w ∈ wsX1_init := fun w h => List.mem_cons_of_mem _ (inlX1 w h)
  have hw_4 := hts (.fieldLink RX1 9 "HandCensus$Diary" "entries" "[I") (List.mem_cons_of_mem _ (in_r3 _ (List.mem_of_getElem? (i := 20) rfl)))
  have hw_5 := hts (.fieldLink RX1 15 "HandCensus$Diary" "size" "I") (List.mem_cons_of_mem _ (in_r3 _ (List.mem_of_getElem? (i := 21) rfl)))
  refine lv_aload_n hx hb dX1_init_0 rfl (lv_at hl 0 rfl) ?_
  refine W.objInit hx hb hown hw_0 hw_1 hw_2 rfl (by rw [hml]; exact hl.1) rfl dX1_init_1 (Nat.le_of_ble_eq_true rfl) (Nat.le_of_ble_eq_true rfl) ?_
  refine W.eq (g2 := F0 m 4 ls []) rfl ?_
  refine lv_aload_n hx hb dX1_init_4 rfl (lv_at hl 0 rfl) ?_
  refine lv_bipush (v := 64) hx hb dX1_init_5 (by decide) ?_
  refine va_newa (atype := .int) (ty := .int) (N' := 64) (a0 := (64, .inl (fun _ => 0))) hx hb hw_3 rfl hK hP hD hS hA (fun _ => rfl) (by decide) rfl (Nat.le_of_ble_eq_true rfl) (Nat.le_of_ble_eq_true rfl) (Nat.le_of_ble_eq_true rfl) dX1_init_7 (fun q7 cN H hK2 hP hD hS => ?_)
  obtain rfl : cA = cN := va_same hK2 0 1 rfl rfl
  clear hK2
  have hP : va_P (dC, dI) vwCl [(h0, .inr (1, [.null, .int 0])), ar q7 cA 64 (fun _ => 0)] H := hP
  have hD : va_D A [(h0, .inr (1, [.null, .int 0])), ar q7 cA 64 (fun _ => 0)] := hD
  refine W.widen (k := 1) (n := 64) (Nat.le_of_ble_eq_true rfl) (Nat.le_of_ble_eq_true rfl) ?_
  refine va_put (D := (dC, dI)) (ci := 1) (v := .ref q7) (ty := .array .int) (C := RX1) (T := TX1) (N := 2) hx hb hts hinX1 tyX1 tyX1_ok nmX1 hown hK hP hD hS 0 rfl rfl 0 (by decide) hw_4 (fun _ h9 => h9) rfl (by decide +kernel) rfl rfl (Nat.le_of_ble_eq_true rfl) dX1_init_9 (fun H locs hP hD hS => ?_)
  have hP : va_P (dC, dI) vwCl [(h0, .inr (1, [.ref q7, .int 0])), ar q7 cA 64 (fun _ => 0)] H := hP
  have hD : va_D A [(h0, .inr (1, [.ref q7, .int 0])), ar q7 cA 64 (fun _ => 0)] := hD
  refine lv_aload_n hx hb dX1_init_12 rfl (lv_at hl 0 rfl) ?_
  refine lv_iconst (v := 0) hx hb dX1_init_13 (by decide) ?_
  refine va_put (D := (dC, dI)) (ci := 1) (v := .int 0) (ty := .int) (C := RX1) (T := TX1) (N := 2) hx hb hts hinX1 tyX1 tyX1_ok nmX1 hown hK hP hD hS 0 rfl rfl 1 (by decide) hw_5 (fun _ h9 => h9) rfl (by decide +kernel) rfl rfl (Nat.le_of_ble_eq_true rfl) dX1_init_14 (fun H locs hP hD hS => ?_)
  have hP : va_P (dC, dI) vwCl [(h0, .inr (1, [.ref q7, .int 0])), ar q7 cA 64 (fun _ => 0)] H := hP
  have hD : va_D A [(h0, .inr (1, [.ref q7, .int 0])), ar q7 cA 64 (fun _ => 0)] := hD
  subst hQ
  exact W.vret hx hb hr (fun t ht hW => ⟨⟨adl [q7], rfl, trivial, by rw [ht]; exact hP, va_K.moved hW.alike hK, hAe ▸ hD⟩, hS.F ht⟩) hS.2.2 dX1_init_17

set_option maxHeartbeats 8000000 in
set_option maxRecDepth 100000 in
theorem kP_init (l : Launch) (dC : Nat → ClassId) (dI : Nat → Nat → Nat) (cA : ClassId) (h0 : Nat) (sz : Nat) : Met l yX3_init wsX3_init ({ frames := 1, cells := 3, slots := 160, locals := 12 }) (va_Pc [.ref h0] (fun U => U.heap.size = sz ∧ va_P (dC, dI) vwCl [(h0, .inr (3, [.null, .null, .null, .int 0, .int 0, .int 0, .int 0]))] U.heap ∧ va_K (dC, dI) vwCl [(cA, .int)] U ∧ va_D (fun _ => True) [(h0, .inr (3, [.null, .null, .null, .int 0, .int 0, .int 0, .int 0]))])) (va_Qv (fun (_ : Nat → Nat) => True) (fun (b : Nat → Nat) t => va_P (dC, dI) vwCl [(h0, .inr (3, [.ref (b 0), .ref (b 1), .ref (b 2), .int 0, .int 1, .int 9, .int 0])), ar (b 0) cA 20 (fun _ => 0), ar (b 1) cA 20 (fun _ => 0), ar (b 2) cA 120 (fun _ => 0)] t.heap ∧ va_K (dC, dI) vwCl [(cA, .int)] t ∧ va_D (va_A [(h0, .inr (3, [.null, .null, .null, .int 0, .int 0, .int 0, .int 0]))] sz) [(h0, .inr (3, [.ref (b 0), .ref (b 1), .ref (b 2), .int 0, .int 1, .int 9, .int 0])), ar (b 0) cA 20 (fun _ => 0), ar (b 1) cA 20 (fun _ => 0), ar (b 2) cA 120 (fun _ => 0)]) (va_A [(h0, .inr (3, [.null, .null, .null, .int 0, .int 0, .int 0, .int 0]))] sz)) 3 160 (va_A [(h0, .inr (3, [.null, .null, .null, .int 0, .int 0, .int 0, .int 0]))] sz) := by
  refine Met.ofW (cc := cX3_init) (maxL := 1) (ret := none) (by decide) rfl ?_
  intro p e s m args below meth c s₁ B hml hv
  obtain ⟨rfl, hsz, hP, hK, hD0⟩ := hv
  have hx := B.exec
  have hb := B.bytes
  have hr := B.returns
  have hts := atoms_spec (ws := wsX3_init) B.pre
  have hown : s.vm.findClass RX3 = some m.cls := findClass_of_methodNamed B.named
  have hin : meth.name = "<init>" := (name_of_methodNamed B.named B.method).1
  subst hsz
  have hD := hD0.self (sz := s.heap.size)
  generalize hAe : va_A [(h0, .inr (3, [.null, .null, .null, .int 0, .int 0, .int 0, .int 0]))] s.heap.size = A at hD ⊢
  have hA : ∀ q : Nat, s.heap.size ≤ q → A q := fun q h => by rw [← hAe]; exact Or.inr h
  have hS : va_S A s.heap s.heap [] := va_S.rf
  have hl := lv_entry ([.ref h0]) (n := 1) (Nat.le_of_ble_eq_true rfl)
  rw [lg_entry_eq]
  generalize (lg_sl ([.ref h0]) ++ List.replicate (1 - (lg_sl ([.ref h0])).length) Slot.unset).toArray = ls at hl ⊢
  have hl : lv_has ls 1 [(0, .ref h0)] := hl
  refine wk_Q (fun QQ hQ => ?_)
  have hw_0 := hts (.methodLink RX3 3 objectInit) (List.mem_cons_of_mem _ (in_r5 _ (List.mem_of_getElem? (i := 3) rfl)))
  have hw_1 := hts (.instanceMethod objectInit) (List.mem_cons_of_mem _ (in_r1 _ (List.mem_of_getElem? (i := 10) rfl)))
  have hw_2 := hts (.code objectInit ⟨#[0xb1]⟩ 1 none) (List.mem_cons_of_mem _ (in_r1 _ (List.mem_of_getElem? (i := 11) rfl)))
  have hw_3 := hts (.arrayClass .int) (List.mem_cons_of_mem _ (in_r3 _ (List.mem_of_getElem? (i := 7) rfl)))
  have hinX3 : ∀ w ∈ wsX30, w ∈ wsX3_init := fun w h => List.mem_cons_of_mem _ (inlX3 w h)
  have hw_4 := hts (.fieldLink RX3 9 "HandCensus$Posting" "who" "[I") (List.mem_cons_of_mem _ (in_r5 _ (List.mem_of_getElem? (i := 4) rfl)))
  have hw_5 := hts (.fieldLink RX3 15 "HandCensus$Posting" "at" "[I") (List.mem_cons_of_mem _ (in_r5 _ (List.mem_of_getElem? (i := 5) rfl)))
  have hw_6 := hts (.fieldLink RX3 18 "HandCensus$Posting" "least" "[I") (List.mem_cons_of_mem _ (in_r5 _ (List.mem_of_getElem? (i := 6) rfl)))
  have hw_7 := hts (.fieldLink RX3 21 "HandCensus$Posting" "size" "I") (List.mem_cons_of_mem _ (in_r5 _ (List.mem_of_getElem? (i := 7) rfl)))
  have hw_8 := hts (.fieldLink RX3 25 "HandCensus$Posting" "shortest" "I") (List.mem_cons_of_mem _ (in_r5 _ (List.mem_of_getElem? (i := 8) rfl)))
  have hw_9 := hts (.fieldLink RX3 28 "HandCensus$Posting" "longest" "I") (List.mem_cons_of_mem _ (in_r5 _ (List.mem_of_getElem? (i := 9) rfl)))
  have hw_10 := hts (.fieldLink RX3 31 "HandCensus$Posting" "slip" "I") (List.mem_cons_of_mem _ (in_r5 _ (List.mem_of_getElem? (i := 10) rfl)))
  refine lv_aload_n hx hb dX3_init_0 rfl (lv_at hl 0 rfl) ?_
  refine W.objInit hx hb hown hw_0 hw_1 hw_2 rfl (by rw [hml]; exact hl.1) rfl dX3_init_1 (Nat.le_of_ble_eq_true rfl) (Nat.le_of_ble_eq_true rfl) ?_
  refine W.eq (g2 := F0 m 4 ls []) rfl ?_
  refine lv_aload_n hx hb dX3_init_4 rfl (lv_at hl 0 rfl) ?_
  refine lv_bipush (v := 20) hx hb dX3_init_5 (by decide) ?_
  refine va_newa (atype := .int) (ty := .int) (N' := 20) (a0 := (20, .inl (fun _ => 0))) hx hb hw_3 rfl hK hP hD hS hA (fun _ => rfl) (by decide) rfl (Nat.le_of_ble_eq_true rfl) (Nat.le_of_ble_eq_true rfl) (Nat.le_of_ble_eq_true rfl) dX3_init_7 (fun q7 cN H hK2 hP hD hS => ?_)
  obtain rfl : cA = cN := va_same hK2 0 1 rfl rfl
  clear hK2
  have hP : va_P (dC, dI) vwCl [(h0, .inr (3, [.null, .null, .null, .int 0, .int 0, .int 0, .int 0])), ar q7 cA 20 (fun _ => 0)] H := hP
  have hD : va_D A [(h0, .inr (3, [.null, .null, .null, .int 0, .int 0, .int 0, .int 0])), ar q7 cA 20 (fun _ => 0)] := hD
  refine W.widen (k := 1) (n := 20) (Nat.le_of_ble_eq_true rfl) (Nat.le_of_ble_eq_true rfl) ?_
  refine va_putF (D := (dC, dI)) (ci := 3) (v := .ref q7) (ty := .array .int) (C := RX3) (T := TX3) (N := 7) hx hb hts hinX3 tyX3 tyX3_ok nmX3 hown hK hP hD hS 0 rfl rfl 0 (by decide) hw_4 (fun _ h9 => h9) rfl hin rfl (by decide +kernel) rfl rfl (Nat.le_of_ble_eq_true rfl) dX3_init_9 (fun H locs hP hD hS => ?_)
  have hP : va_P (dC, dI) vwCl [(h0, .inr (3, [.ref q7, .null, .null, .int 0, .int 0, .int 0, .int 0])), ar q7 cA 20 (fun _ => 0)] H := hP
  have hD : va_D A [(h0, .inr (3, [.ref q7, .null, .null, .int 0, .int 0, .int 0, .int 0])), ar q7 cA 20 (fun _ => 0)] := hD
  refine lv_aload_n hx hb dX3_init_12 rfl (lv_at hl 0 rfl) ?_
  refine lv_bipush (v := 20) hx hb dX3_init_13 (by decide) ?_
  refine va_newa (atype := .int) (ty := .int) (N' := 20) (a0 := (20, .inl (fun _ => 0))) hx hb hw_3 rfl hK hP hD hS hA (fun _ => rfl) (by decide) rfl (Nat.le_of_ble_eq_true rfl) (Nat.le_of_ble_eq_true rfl) (Nat.le_of_ble_eq_true rfl) dX3_init_15 (fun q15 cN H hK2 hP hD hS => ?_)
  obtain rfl : cA = cN := va_same hK2 0 1 rfl rfl
  clear hK2
  have hP : va_P (dC, dI) vwCl [(h0, .inr (3, [.ref q7, .null, .null, .int 0, .int 0, .int 0, .int 0])), ar q7 cA 20 (fun _ => 0), ar q15 cA 20 (fun _ => 0)] H := hP
  have hD : va_D A [(h0, .inr (3, [.ref q7, .null, .null, .int 0, .int 0, .int 0, .int 0])), ar q7 cA 20 (fun _ => 0), ar q15 cA 20 (fun _ => 0)] := hD
  refine W.widen (k := 2) (n := 40) (Nat.le_of_ble_eq_true rfl) (Nat.le_of_ble_eq_true rfl) ?_
  refine va_putF (D := (dC, dI)) (ci := 3) (v := .ref q15) (ty := .array .int) (C := RX3) (T := TX3) (N := 7) hx hb hts hinX3 tyX3 tyX3_ok nmX3 hown hK hP hD hS 0 rfl rfl 1 (by decide) hw_5 (fun _ h9 => h9) rfl hin rfl (by decide +kernel) rfl rfl (Nat.le_of_ble_eq_true rfl) dX3_init_17 (fun H locs hP hD hS => ?_)
  have hP : va_P (dC, dI) vwCl [(h0, .inr (3, [.ref q7, .ref q15, .null, .int 0, .int 0, .int 0, .int 0])), ar q7 cA 20 (fun _ => 0), ar q15 cA 20 (fun _ => 0)] H := hP
  have hD : va_D A [(h0, .inr (3, [.ref q7, .ref q15, .null, .int 0, .int 0, .int 0, .int 0])), ar q7 cA 20 (fun _ => 0), ar q15 cA 20 (fun _ => 0)] := hD
  refine lv_aload_n hx hb dX3_init_20 rfl (lv_at hl 0 rfl) ?_
  refine lv_bipush (v := 120) hx hb dX3_init_21 (by decide) ?_
  refine va_newa (atype := .int) (ty := .int) (N' := 120) (a0 := (120, .inl (fun _ => 0))) hx hb hw_3 rfl hK hP hD hS hA (fun _ => rfl) (by decide) rfl (Nat.le_of_ble_eq_true rfl) (Nat.le_of_ble_eq_true rfl) (Nat.le_of_ble_eq_true rfl) dX3_init_23 (fun q23 cN H hK2 hP hD hS => ?_)
  obtain rfl : cA = cN := va_same hK2 0 1 rfl rfl
  clear hK2
  have hP : va_P (dC, dI) vwCl [(h0, .inr (3, [.ref q7, .ref q15, .null, .int 0, .int 0, .int 0, .int 0])), ar q7 cA 20 (fun _ => 0), ar q15 cA 20 (fun _ => 0), ar q23 cA 120 (fun _ => 0)] H := hP
  have hD : va_D A [(h0, .inr (3, [.ref q7, .ref q15, .null, .int 0, .int 0, .int 0, .int 0])), ar q7 cA 20 (fun _ => 0), ar q15 cA 20 (fun _ => 0), ar q23 cA 120 (fun _ => 0)] := hD
  refine W.widen (k := 3) (n := 160) (Nat.le_of_ble_eq_true rfl) (Nat.le_of_ble_eq_true rfl) ?_
  refine va_putF (D := (dC, dI)) (ci := 3) (v := .ref q23) (ty := .array .int) (C := RX3) (T := TX3) (N := 7) hx hb hts hinX3 tyX3 tyX3_ok nmX3 hown hK hP hD hS 0 rfl rfl 2 (by decide) hw_6 (fun _ h9 => h9) rfl hin rfl (by decide +kernel) rfl rfl (Nat.le_of_ble_eq_true rfl) dX3_init_25 (fun H locs hP hD hS => ?_)
  have hP : va_P (dC, dI) vwCl [(h0, .inr (3, [.ref q7, .ref q15, .ref q23, .int 0, .int 0, .int 0, .int 0])), ar q7 cA 20 (fun _ => 0), ar q15 cA 20 (fun _ => 0), ar q23 cA 120 (fun _ => 0)] H := hP
  have hD : va_D A [(h0, .inr (3, [.ref q7, .ref q15, .ref q23, .int 0, .int 0, .int 0, .int 0])), ar q7 cA 20 (fun _ => 0), ar q15 cA 20 (fun _ => 0), ar q23 cA 120 (fun _ => 0)] := hD
  refine lv_aload_n hx hb dX3_init_28 rfl (lv_at hl 0 rfl) ?_
  refine lv_iconst (v := 0) hx hb dX3_init_29 (by decide) ?_
  refine va_put (D := (dC, dI)) (ci := 3) (v := .int 0) (ty := .int) (C := RX3) (T := TX3) (N := 7) hx hb hts hinX3 tyX3 tyX3_ok nmX3 hown hK hP hD hS 0 rfl rfl 3 (by decide) hw_7 (fun _ h9 => h9) rfl (by decide +kernel) rfl rfl (Nat.le_of_ble_eq_true rfl) dX3_init_30 (fun H locs hP hD hS => ?_)
  have hP : va_P (dC, dI) vwCl [(h0, .inr (3, [.ref q7, .ref q15, .ref q23, .int 0, .int 0, .int 0, .int 0])), ar q7 cA 20 (fun _ => 0), ar q15 cA 20 (fun _ => 0), ar q23 cA 120 (fun _ => 0)] H := hP
  have hD : va_D A [(h0, .inr (3, [.ref q7, .ref q15, .ref q23, .int 0, .int 0, .int 0, .int 0])), ar q7 cA 20 (fun _ => 0), ar q15 cA 20 (fun _ => 0), ar q23 cA 120 (fun _ => 0)] := hD
  refine lv_aload_n hx hb dX3_init_33 rfl (lv_at hl 0 rfl) ?_
  refine lv_iconst (v := 1) hx hb dX3_init_34 (by decide) ?_
  refine va_put (D := (dC, dI)) (ci := 3) (v := .int 1) (ty := .int) (C := RX3) (T := TX3) (N := 7) hx hb hts hinX3 tyX3 tyX3_ok nmX3 hown hK hP hD hS 0 rfl rfl 4 (by decide) hw_8 (fun _ h9 => h9) rfl (by decide +kernel) rfl rfl (Nat.le_of_ble_eq_true rfl) dX3_init_35 (fun H locs hP hD hS => ?_)
  have hP : va_P (dC, dI) vwCl [(h0, .inr (3, [.ref q7, .ref q15, .ref q23, .int 0, .int 1, .int 0, .int 0])), ar q7 cA 20 (fun _ => 0), ar q15 cA 20 (fun _ => 0), ar q23 cA 120 (fun _ => 0)] H := hP
  have hD : va_D A [(h0, .inr (3, [.ref q7, .ref q15, .ref q23, .int 0, .int 1, .int 0, .int 0])), ar q7 cA 20 (fun _ => 0), ar q15 cA 20 (fun _ => 0), ar q23 cA 120 (fun _ => 0)] := hD
  refine lv_aload_n hx hb dX3_init_38 rfl (lv_at hl 0 rfl) ?_
  refine lv_bipush (v := 9) hx hb dX3_init_39 (by decide) ?_
  refine va_put (D := (dC, dI)) (ci := 3) (v := .int 9) (ty := .int) (C := RX3) (T := TX3) (N := 7) hx hb hts hinX3 tyX3 tyX3_ok nmX3 hown hK hP hD hS 0 rfl rfl 5 (by decide) hw_9 (fun _ h9 => h9) rfl (by decide +kernel) rfl rfl (Nat.le_of_ble_eq_true rfl) dX3_init_41 (fun H locs hP hD hS => ?_)
  have hP : va_P (dC, dI) vwCl [(h0, .inr (3, [.ref q7, .ref q15, .ref q23, .int 0, .int 1, .int 9, .int 0])), ar q7 cA 20 (fun _ => 0), ar q15 cA 20 (fun _ => 0), ar q23 cA 120 (fun _ => 0)] H := hP
  have hD : va_D A [(h0, .inr (3, [.ref q7, .ref q15, .ref q23, .int 0, .int 1, .int 9, .int 0])), ar q7 cA 20 (fun _ => 0), ar q15 cA 20 (fun _ => 0), ar q23 cA 120 (fun _ => 0)] := hD
  refine lv_aload_n hx hb dX3_init_44 rfl (lv_at hl 0 rfl) ?_
  refine lv_iconst (v := 0) hx hb dX3_init_45 (by decide) ?_
  refine va_put (D := (dC, dI)) (ci := 3) (v := .int 0) (ty := .int) (C := RX3) (T := TX3) (N := 7) hx hb hts hinX3 tyX3 tyX3_ok nmX3 hown hK hP hD hS 0 rfl rfl 6 (by decide) hw_10 (fun _ h9 => h9) rfl (by decide +kernel) rfl rfl (Nat.le_of_ble_eq_true rfl) dX3_init_46 (fun H locs hP hD hS => ?_)
  have hP : va_P (dC, dI) vwCl [(h0, .inr (3, [.ref q7, .ref q15, .ref q23, .int 0, .int 1, .int 9, .int 0])), ar q7 cA 20 (fun _ => 0), ar q15 cA 20 (fun _ => 0), ar q23 cA 120 (fun _ => 0)] H := hP
  have hD : va_D A [(h0, .inr (3, [.ref q7, .ref q15, .ref q23, .int 0, .int 1, .int 9, .int 0])), ar q7 cA 20 (fun _ => 0), ar q15 cA 20 (fun _ => 0), ar q23 cA 120 (fun _ => 0)] := hD
  subst hQ
  exact W.vret hx hb hr (fun t ht hW => ⟨⟨adl [q7, q15, q23], rfl, trivial, by rw [ht]; exact hP, va_K.moved hW.alike hK, hAe ▸ hD⟩, hS.F ht⟩) hS.2.2 dX3_init_49

set_option maxHeartbeats 8000000 in
set_option maxRecDepth 100000 in
theorem kH_init (l : Launch) (dC : Nat → ClassId) (dI : Nat → Nat → Nat) (cA : ClassId) (h0 : Nat) (sz : Nat) : Met l yX2_init wsX2_init ({ frames := 1, cells := 2, slots := 24, locals := 12 }) (va_Pc [.ref h0] (fun U => U.heap.size = sz ∧ va_P (dC, dI) vwCl [(h0, .inr (2, [.null, .null, .int 0]))] U.heap ∧ va_K (dC, dI) vwCl [(cA, .int)] U ∧ va_D (fun _ => True) [(h0, .inr (2, [.null, .null, .int 0]))])) (va_Qv (fun (_ : Nat → Nat) => True) (fun (b : Nat → Nat) t => va_P (dC, dI) vwCl [(h0, .inr (2, [.ref (b 0), .ref (b 1), .int 0])), ar (b 0) cA 12 (fun _ => 0), ar (b 1) cA 12 (fun _ => 0)] t.heap ∧ va_K (dC, dI) vwCl [(cA, .int)] t ∧ va_D (va_A [(h0, .inr (2, [.null, .null, .int 0]))] sz) [(h0, .inr (2, [.ref (b 0), .ref (b 1), .int 0])), ar (b 0) cA 12 (fun _ => 0), ar (b 1) cA 12 (fun _ => 0)]) (va_A [(h0, .inr (2, [.null, .null, .int 0]))] sz)) 2 24 (va_A [(h0, .inr (2, [.null, .null, .int 0]))] sz) := by
  refine Met.ofW (cc := cX2_init) (maxL := 1) (ret := none) (by decide) rfl ?_
  intro p e s m args below meth c s₁ B hml hv
  obtain ⟨rfl, hsz, hP, hK, hD0⟩ := hv
  have hx := B.exec
  have hb := B.bytes
  have hr := B.returns
  have hts := atoms_spec (ws := wsX2_init) B.pre
  have hown : s.vm.findClass RX2 = some m.cls := findClass_of_methodNamed B.named
  have hin : meth.name = "<init>" := (name_of_methodNamed B.named B.method).1
  subst hsz
  have hD := hD0.self (sz := s.heap.size)
  generalize hAe : va_A [(h0, .inr (2, [.null, .null, .int 0]))] s.heap.size = A at hD ⊢
  have hA : ∀ q : Nat, s.heap.size ≤ q → A q := fun q h => by rw [← hAe]; exact Or.inr h
  have hS : va_S A s.heap s.heap [] := va_S.rf
  have hl := lv_entry ([.ref h0]) (n := 1) (Nat.le_of_ble_eq_true rfl)
  rw [lg_entry_eq]
  generalize (lg_sl ([.ref h0]) ++ List.replicate (1 - (lg_sl ([.ref h0])).length) Slot.unset).toArray = ls at hl ⊢
  have hl : lv_has ls 1 [(0, .ref h0)] := hl
  refine wk_Q (fun QQ hQ => ?_)
  have hw_0 := hts (.methodLink RX2 3 objectInit) (List.mem_cons_of_mem _ (in_r5 _ (List.mem_of_getElem? (i := 14) rfl)))
  have hw_1 := hts (.instanceMethod objectInit) (List.mem_cons_of_mem _ (in_r1 _ (List.mem_of_getElem? (i := 10) rfl)))
  have hw_2 := hts (.code objectInit ⟨#[0xb1]⟩ 1 none) (List.mem_cons_of_mem _ (in_r1 _ (List.mem_of_getElem? (i := 11) rfl)))
  have hw_3 := hts (.arrayClass .int) (List.mem_cons_of_mem _ (in_r3 _ (List.mem_of_getElem? (i := 7) rfl)))
  have hinX2 : ∀ w ∈ wsX20, w ∈ wsX2_init := fun w h => List.mem_cons_of_mem _ (inlX2 w h)
  have hw_4 := hts (.fieldLink RX2 11 "HandCensus$Hearsay" "who" "[I") (List.mem_cons_of_mem _ (in_r5 _ (List.mem_of_getElem? (i := 15) rfl)))
  have hw_5 := hts (.fieldLink RX2 15 "HandCensus$Hearsay" "times" "[I") (List.mem_cons_of_mem _ (in_r5 _ (List.mem_of_getElem? (i := 16) rfl)))
  have hw_6 := hts (.fieldLink RX2 18 "HandCensus$Hearsay" "size" "I") (List.mem_cons_of_mem _ (in_r5 _ (List.mem_of_getElem? (i := 17) rfl)))
  refine lv_aload_n hx hb dX2_init_0 rfl (lv_at hl 0 rfl) ?_
  refine W.objInit hx hb hown hw_0 hw_1 hw_2 rfl (by rw [hml]; exact hl.1) rfl dX2_init_1 (Nat.le_of_ble_eq_true rfl) (Nat.le_of_ble_eq_true rfl) ?_
  refine W.eq (g2 := F0 m 4 ls []) rfl ?_
  refine lv_aload_n hx hb dX2_init_4 rfl (lv_at hl 0 rfl) ?_
  refine lv_bipush (v := 12) hx hb dX2_init_5 (by decide) ?_
  refine va_newa (atype := .int) (ty := .int) (N' := 12) (a0 := (12, .inl (fun _ => 0))) hx hb hw_3 rfl hK hP hD hS hA (fun _ => rfl) (by decide) rfl (Nat.le_of_ble_eq_true rfl) (Nat.le_of_ble_eq_true rfl) (Nat.le_of_ble_eq_true rfl) dX2_init_7 (fun q7 cN H hK2 hP hD hS => ?_)
  obtain rfl : cA = cN := va_same hK2 0 1 rfl rfl
  clear hK2
  have hP : va_P (dC, dI) vwCl [(h0, .inr (2, [.null, .null, .int 0])), ar q7 cA 12 (fun _ => 0)] H := hP
  have hD : va_D A [(h0, .inr (2, [.null, .null, .int 0])), ar q7 cA 12 (fun _ => 0)] := hD
  refine W.widen (k := 1) (n := 12) (Nat.le_of_ble_eq_true rfl) (Nat.le_of_ble_eq_true rfl) ?_
  refine va_putF (D := (dC, dI)) (ci := 2) (v := .ref q7) (ty := .array .int) (C := RX2) (T := TX2) (N := 3) hx hb hts hinX2 tyX2 tyX2_ok nmX2 hown hK hP hD hS 0 rfl rfl 0 (by decide) hw_4 (fun _ h9 => h9) rfl hin rfl (by decide +kernel) rfl rfl (Nat.le_of_ble_eq_true rfl) dX2_init_9 (fun H locs hP hD hS => ?_)
  have hP : va_P (dC, dI) vwCl [(h0, .inr (2, [.ref q7, .null, .int 0])), ar q7 cA 12 (fun _ => 0)] H := hP
  have hD : va_D A [(h0, .inr (2, [.ref q7, .null, .int 0])), ar q7 cA 12 (fun _ => 0)] := hD
  refine lv_aload_n hx hb dX2_init_12 rfl (lv_at hl 0 rfl) ?_
  refine lv_bipush (v := 12) hx hb dX2_init_13 (by decide) ?_
  refine va_newa (atype := .int) (ty := .int) (N' := 12) (a0 := (12, .inl (fun _ => 0))) hx hb hw_3 rfl hK hP hD hS hA (fun _ => rfl) (by decide) rfl (Nat.le_of_ble_eq_true rfl) (Nat.le_of_ble_eq_true rfl) (Nat.le_of_ble_eq_true rfl) dX2_init_15 (fun q15 cN H hK2 hP hD hS => ?_)
  obtain rfl : cA = cN := va_same hK2 0 1 rfl rfl
  clear hK2
  have hP : va_P (dC, dI) vwCl [(h0, .inr (2, [.ref q7, .null, .int 0])), ar q7 cA 12 (fun _ => 0), ar q15 cA 12 (fun _ => 0)] H := hP
  have hD : va_D A [(h0, .inr (2, [.ref q7, .null, .int 0])), ar q7 cA 12 (fun _ => 0), ar q15 cA 12 (fun _ => 0)] := hD
  refine W.widen (k := 2) (n := 24) (Nat.le_of_ble_eq_true rfl) (Nat.le_of_ble_eq_true rfl) ?_
  refine va_putF (D := (dC, dI)) (ci := 2) (v := .ref q15) (ty := .array .int) (C := RX2) (T := TX2) (N := 3) hx hb hts hinX2 tyX2 tyX2_ok nmX2 hown hK hP hD hS 0 rfl rfl 1 (by decide) hw_5 (fun _ h9 => h9) rfl hin rfl (by decide +kernel) rfl rfl (Nat.le_of_ble_eq_true rfl) dX2_init_17 (fun H locs hP hD hS => ?_)
  have hP : va_P (dC, dI) vwCl [(h0, .inr (2, [.ref q7, .ref q15, .int 0])), ar q7 cA 12 (fun _ => 0), ar q15 cA 12 (fun _ => 0)] H := hP
  have hD : va_D A [(h0, .inr (2, [.ref q7, .ref q15, .int 0])), ar q7 cA 12 (fun _ => 0), ar q15 cA 12 (fun _ => 0)] := hD
  refine lv_aload_n hx hb dX2_init_20 rfl (lv_at hl 0 rfl) ?_
  refine lv_iconst (v := 0) hx hb dX2_init_21 (by decide) ?_
  refine va_put (D := (dC, dI)) (ci := 2) (v := .int 0) (ty := .int) (C := RX2) (T := TX2) (N := 3) hx hb hts hinX2 tyX2 tyX2_ok nmX2 hown hK hP hD hS 0 rfl rfl 2 (by decide) hw_6 (fun _ h9 => h9) rfl (by decide +kernel) rfl rfl (Nat.le_of_ble_eq_true rfl) dX2_init_22 (fun H locs hP hD hS => ?_)
  have hP : va_P (dC, dI) vwCl [(h0, .inr (2, [.ref q7, .ref q15, .int 0])), ar q7 cA 12 (fun _ => 0), ar q15 cA 12 (fun _ => 0)] H := hP
  have hD : va_D A [(h0, .inr (2, [.ref q7, .ref q15, .int 0])), ar q7 cA 12 (fun _ => 0), ar q15 cA 12 (fun _ => 0)] := hD
  subst hQ
  exact W.vret hx hb hr (fun t ht hW => ⟨⟨adl [q7, q15], rfl, trivial, by rw [ht]; exact hP, va_K.moved hW.alike hK, hAe ▸ hD⟩, hS.F ht⟩) hS.2.2 dX2_init_25

set_option maxHeartbeats 8000000 in
set_option maxRecDepth 100000 in
theorem kG_init (l : Launch) (dC : Nat → ClassId) (dI : Nat → Nat → Nat) (cA : ClassId) (h0 : Nat) (sz : Nat) : Met l yX4_init wsX4_init ({ frames := 1, cells := 4, slots := 124, locals := 12 }) (va_Pc [.ref h0] (fun U => U.heap.size = sz ∧ va_P (dC, dI) vwCl [(h0, .inr (4, [.null, .null, .null, .null, .int 0]))] U.heap ∧ va_K (dC, dI) vwCl [(cA, .int)] U ∧ va_D (fun _ => True) [(h0, .inr (4, [.null, .null, .null, .null, .int 0]))])) (va_Qv (fun (_ : Nat → Nat) => True) (fun (b : Nat → Nat) t => va_P (dC, dI) vwCl [(h0, .inr (4, [.ref (b 0), .ref (b 1), .ref (b 2), .ref (b 3), .int 0])), ar (b 0) cA 8 (fun _ => 0), ar (b 1) cA 8 (fun _ => 0), ar (b 2) cA 100 (fun _ => 0), ar (b 3) cA 8 (fun _ => 0)] t.heap ∧ va_K (dC, dI) vwCl [(cA, .int)] t ∧ va_D (va_A [(h0, .inr (4, [.null, .null, .null, .null, .int 0]))] sz) [(h0, .inr (4, [.ref (b 0), .ref (b 1), .ref (b 2), .ref (b 3), .int 0])), ar (b 0) cA 8 (fun _ => 0), ar (b 1) cA 8 (fun _ => 0), ar (b 2) cA 100 (fun _ => 0), ar (b 3) cA 8 (fun _ => 0)]) (va_A [(h0, .inr (4, [.null, .null, .null, .null, .int 0]))] sz)) 4 124 (va_A [(h0, .inr (4, [.null, .null, .null, .null, .int 0]))] sz) := by
  refine Met.ofW (cc := cX4_init) (maxL := 1) (ret := none) (by decide) rfl ?_
  intro p e s m args below meth c s₁ B hml hv
  obtain ⟨rfl, hsz, hP, hK, hD0⟩ := hv
  have hx := B.exec
  have hb := B.bytes
  have hr := B.returns
  have hts := atoms_spec (ws := wsX4_init) B.pre
  have hown : s.vm.findClass RX4 = some m.cls := findClass_of_methodNamed B.named
  have hin : meth.name = "<init>" := (name_of_methodNamed B.named B.method).1
  subst hsz
  have hD := hD0.self (sz := s.heap.size)
  generalize hAe : va_A [(h0, .inr (4, [.null, .null, .null, .null, .int 0]))] s.heap.size = A at hD ⊢
  have hA : ∀ q : Nat, s.heap.size ≤ q → A q := fun q h => by rw [← hAe]; exact Or.inr h
  have hS : va_S A s.heap s.heap [] := va_S.rf
  have hl := lv_entry ([.ref h0]) (n := 1) (Nat.le_of_ble_eq_true rfl)
  rw [lg_entry_eq]
  generalize (lg_sl ([.ref h0]) ++ List.replicate (1 - (lg_sl ([.ref h0])).length) Slot.unset).toArray = ls at hl ⊢
  have hl : lv_has ls 1 [(0, .ref h0)] := hl
  refine wk_Q (fun QQ hQ => ?_)
  have hw_0 := hts (.methodLink RX4 3 objectInit) (List.mem_cons_of_mem _ (in_r5 _ (List.mem_of_getElem? (i := 21) rfl)))
  have hw_1 := hts (.instanceMethod objectInit) (List.mem_cons_of_mem _ (in_r1 _ (List.mem_of_getElem? (i := 10) rfl)))
  have hw_2 := hts (.code objectInit ⟨#[0xb1]⟩ 1 none) (List.mem_cons_of_mem _ (in_r1 _ (List.mem_of_getElem? (i := 11) rfl)))
  have hw_3 := hts (.arrayClass .int) (List.mem_cons_of_mem _ (in_r3 _ (List.mem_of_getElem? (i := 7) rfl)))
  have hinX4 : ∀ w ∈ wsX40, w ∈ wsX4_init := fun w h => List.mem_cons_of_mem _ (inlX4 w h)
  have hw_4 := hts (.fieldLink RX4 11 "HandCensus$Register" "years" "[I") (List.mem_cons_of_mem _ (in_r5 _ (List.mem_of_getElem? (i := 22) rfl)))
  have hw_5 := hts (.fieldLink RX4 15 "HandCensus$Register" "counted" "[I") (List.mem_cons_of_mem _ (in_r5 _ (List.mem_of_getElem? (i := 23) rfl)))
  have hw_6 := hts (.fieldLink RX4 18 "HandCensus$Register" "born" "[I") (List.mem_cons_of_mem _ (in_r6 _ (List.mem_of_getElem? (i := 0) rfl)))
  have hw_7 := hts (.fieldLink RX4 21 "HandCensus$Register" "conflicts" "[I") (List.mem_cons_of_mem _ (in_r6 _ (List.mem_of_getElem? (i := 1) rfl)))
  have hw_8 := hts (.fieldLink RX4 24 "HandCensus$Register" "size" "I") (List.mem_cons_of_mem _ (in_r6 _ (List.mem_of_getElem? (i := 2) rfl)))
  refine lv_aload_n hx hb dX4_init_0 rfl (lv_at hl 0 rfl) ?_
  refine W.objInit hx hb hown hw_0 hw_1 hw_2 rfl (by rw [hml]; exact hl.1) rfl dX4_init_1 (Nat.le_of_ble_eq_true rfl) (Nat.le_of_ble_eq_true rfl) ?_
  refine W.eq (g2 := F0 m 4 ls []) rfl ?_
  refine lv_aload_n hx hb dX4_init_4 rfl (lv_at hl 0 rfl) ?_
  refine lv_bipush (v := 8) hx hb dX4_init_5 (by decide) ?_
  refine va_newa (atype := .int) (ty := .int) (N' := 8) (a0 := (8, .inl (fun _ => 0))) hx hb hw_3 rfl hK hP hD hS hA (fun _ => rfl) (by decide) rfl (Nat.le_of_ble_eq_true rfl) (Nat.le_of_ble_eq_true rfl) (Nat.le_of_ble_eq_true rfl) dX4_init_7 (fun q7 cN H hK2 hP hD hS => ?_)
  obtain rfl : cA = cN := va_same hK2 0 1 rfl rfl
  clear hK2
  have hP : va_P (dC, dI) vwCl [(h0, .inr (4, [.null, .null, .null, .null, .int 0])), ar q7 cA 8 (fun _ => 0)] H := hP
  have hD : va_D A [(h0, .inr (4, [.null, .null, .null, .null, .int 0])), ar q7 cA 8 (fun _ => 0)] := hD
  refine W.widen (k := 1) (n := 8) (Nat.le_of_ble_eq_true rfl) (Nat.le_of_ble_eq_true rfl) ?_
  refine va_putF (D := (dC, dI)) (ci := 4) (v := .ref q7) (ty := .array .int) (C := RX4) (T := TX4) (N := 5) hx hb hts hinX4 tyX4 tyX4_ok nmX4 hown hK hP hD hS 0 rfl rfl 0 (by decide) hw_4 (fun _ h9 => h9) rfl hin rfl (by decide +kernel) rfl rfl (Nat.le_of_ble_eq_true rfl) dX4_init_9 (fun H locs hP hD hS => ?_)
  have hP : va_P (dC, dI) vwCl [(h0, .inr (4, [.ref q7, .null, .null, .null, .int 0])), ar q7 cA 8 (fun _ => 0)] H := hP
  have hD : va_D A [(h0, .inr (4, [.ref q7, .null, .null, .null, .int 0])), ar q7 cA 8 (fun _ => 0)] := hD
  refine lv_aload_n hx hb dX4_init_12 rfl (lv_at hl 0 rfl) ?_
  refine lv_bipush (v := 8) hx hb dX4_init_13 (by decide) ?_
  refine va_newa (atype := .int) (ty := .int) (N' := 8) (a0 := (8, .inl (fun _ => 0))) hx hb hw_3 rfl hK hP hD hS hA (fun _ => rfl) (by decide) rfl (Nat.le_of_ble_eq_true rfl) (Nat.le_of_ble_eq_true rfl) (Nat.le_of_ble_eq_true rfl) dX4_init_15 (fun q15 cN H hK2 hP hD hS => ?_)
  obtain rfl : cA = cN := va_same hK2 0 1 rfl rfl
  clear hK2
  have hP : va_P (dC, dI) vwCl [(h0, .inr (4, [.ref q7, .null, .null, .null, .int 0])), ar q7 cA 8 (fun _ => 0), ar q15 cA 8 (fun _ => 0)] H := hP
  have hD : va_D A [(h0, .inr (4, [.ref q7, .null, .null, .null, .int 0])), ar q7 cA 8 (fun _ => 0), ar q15 cA 8 (fun _ => 0)] := hD
  refine W.widen (k := 2) (n := 16) (Nat.le_of_ble_eq_true rfl) (Nat.le_of_ble_eq_true rfl) ?_
  refine va_putF (D := (dC, dI)) (ci := 4) (v := .ref q15) (ty := .array .int) (C := RX4) (T := TX4) (N := 5) hx hb hts hinX4 tyX4 tyX4_ok nmX4 hown hK hP hD hS 0 rfl rfl 1 (by decide) hw_5 (fun _ h9 => h9) rfl hin rfl (by decide +kernel) rfl rfl (Nat.le_of_ble_eq_true rfl) dX4_init_17 (fun H locs hP hD hS => ?_)
  have hP : va_P (dC, dI) vwCl [(h0, .inr (4, [.ref q7, .ref q15, .null, .null, .int 0])), ar q7 cA 8 (fun _ => 0), ar q15 cA 8 (fun _ => 0)] H := hP
  have hD : va_D A [(h0, .inr (4, [.ref q7, .ref q15, .null, .null, .int 0])), ar q7 cA 8 (fun _ => 0), ar q15 cA 8 (fun _ => 0)] := hD
  refine lv_aload_n hx hb dX4_init_20 rfl (lv_at hl 0 rfl) ?_
  refine lv_bipush (v := 100) hx hb dX4_init_21 (by decide) ?_
  refine va_newa (atype := .int) (ty := .int) (N' := 100) (a0 := (100, .inl (fun _ => 0))) hx hb hw_3 rfl hK hP hD hS hA (fun _ => rfl) (by decide) rfl (Nat.le_of_ble_eq_true rfl) (Nat.le_of_ble_eq_true rfl) (Nat.le_of_ble_eq_true rfl) dX4_init_23 (fun q23 cN H hK2 hP hD hS => ?_)
  obtain rfl : cA = cN := va_same hK2 0 1 rfl rfl
  clear hK2
  have hP : va_P (dC, dI) vwCl [(h0, .inr (4, [.ref q7, .ref q15, .null, .null, .int 0])), ar q7 cA 8 (fun _ => 0), ar q15 cA 8 (fun _ => 0), ar q23 cA 100 (fun _ => 0)] H := hP
  have hD : va_D A [(h0, .inr (4, [.ref q7, .ref q15, .null, .null, .int 0])), ar q7 cA 8 (fun _ => 0), ar q15 cA 8 (fun _ => 0), ar q23 cA 100 (fun _ => 0)] := hD
  refine W.widen (k := 3) (n := 116) (Nat.le_of_ble_eq_true rfl) (Nat.le_of_ble_eq_true rfl) ?_
  refine va_putF (D := (dC, dI)) (ci := 4) (v := .ref q23) (ty := .array .int) (C := RX4) (T := TX4) (N := 5) hx hb hts hinX4 tyX4 tyX4_ok nmX4 hown hK hP hD hS 0 rfl rfl 2 (by decide) hw_6 (fun _ h9 => h9) rfl hin rfl (by decide +kernel) rfl rfl (Nat.le_of_ble_eq_true rfl) dX4_init_25 (fun H locs hP hD hS => ?_)
  have hP : va_P (dC, dI) vwCl [(h0, .inr (4, [.ref q7, .ref q15, .ref q23, .null, .int 0])), ar q7 cA 8 (fun _ => 0), ar q15 cA 8 (fun _ => 0), ar q23 cA 100 (fun _ => 0)] H := hP
  have hD : va_D A [(h0, .inr (4, [.ref q7, .ref q15, .ref q23, .null, .int 0])), ar q7 cA 8 (fun _ => 0), ar q15 cA 8 (fun _ => 0), ar q23 cA 100 (fun _ => 0)] := hD
  refine lv_aload_n hx hb dX4_init_28 rfl (lv_at hl 0 rfl) ?_
  refine lv_bipush (v := 8) hx hb dX4_init_29 (by decide) ?_
  refine va_newa (atype := .int) (ty := .int) (N' := 8) (a0 := (8, .inl (fun _ => 0))) hx hb hw_3 rfl hK hP hD hS hA (fun _ => rfl) (by decide) rfl (Nat.le_of_ble_eq_true rfl) (Nat.le_of_ble_eq_true rfl) (Nat.le_of_ble_eq_true rfl) dX4_init_31 (fun q31 cN H hK2 hP hD hS => ?_)
  obtain rfl : cA = cN := va_same hK2 0 1 rfl rfl
  clear hK2
  have hP : va_P (dC, dI) vwCl [(h0, .inr (4, [.ref q7, .ref q15, .ref q23, .null, .int 0])), ar q7 cA 8 (fun _ => 0), ar q15 cA 8 (fun _ => 0), ar q23 cA 100 (fun _ => 0), ar q31 cA 8 (fun _ => 0)] H := hP
  have hD : va_D A [(h0, .inr (4, [.ref q7, .ref q15, .ref q23, .null, .int 0])), ar q7 cA 8 (fun _ => 0), ar q15 cA 8 (fun _ => 0), ar q23 cA 100 (fun _ => 0), ar q31 cA 8 (fun _ => 0)] := hD
  refine W.widen (k := 4) (n := 124) (Nat.le_of_ble_eq_true rfl) (Nat.le_of_ble_eq_true rfl) ?_
  refine va_putF (D := (dC, dI)) (ci := 4) (v := .ref q31) (ty := .array .int) (C := RX4) (T := TX4) (N := 5) hx hb hts hinX4 tyX4 tyX4_ok nmX4 hown hK hP hD hS 0 rfl rfl 3 (by decide) hw_7 (fun _ h9 => h9) rfl hin rfl (by decide +kernel) rfl rfl (Nat.le_of_ble_eq_true rfl) dX4_init_33 (fun H locs hP hD hS => ?_)
  have hP : va_P (dC, dI) vwCl [(h0, .inr (4, [.ref q7, .ref q15, .ref q23, .ref q31, .int 0])), ar q7 cA 8 (fun _ => 0), ar q15 cA 8 (fun _ => 0), ar q23 cA 100 (fun _ => 0), ar q31 cA 8 (fun _ => 0)] H := hP
  have hD : va_D A [(h0, .inr (4, [.ref q7, .ref q15, .ref q23, .ref q31, .int 0])), ar q7 cA 8 (fun _ => 0), ar q15 cA 8 (fun _ => 0), ar q23 cA 100 (fun _ => 0), ar q31 cA 8 (fun _ => 0)] := hD
  refine lv_aload_n hx hb dX4_init_36 rfl (lv_at hl 0 rfl) ?_
  refine lv_iconst (v := 0) hx hb dX4_init_37 (by decide) ?_
  refine va_put (D := (dC, dI)) (ci := 4) (v := .int 0) (ty := .int) (C := RX4) (T := TX4) (N := 5) hx hb hts hinX4 tyX4 tyX4_ok nmX4 hown hK hP hD hS 0 rfl rfl 4 (by decide) hw_8 (fun _ h9 => h9) rfl (by decide +kernel) rfl rfl (Nat.le_of_ble_eq_true rfl) dX4_init_38 (fun H locs hP hD hS => ?_)
  have hP : va_P (dC, dI) vwCl [(h0, .inr (4, [.ref q7, .ref q15, .ref q23, .ref q31, .int 0])), ar q7 cA 8 (fun _ => 0), ar q15 cA 8 (fun _ => 0), ar q23 cA 100 (fun _ => 0), ar q31 cA 8 (fun _ => 0)] H := hP
  have hD : va_D A [(h0, .inr (4, [.ref q7, .ref q15, .ref q23, .ref q31, .int 0])), ar q7 cA 8 (fun _ => 0), ar q15 cA 8 (fun _ => 0), ar q23 cA 100 (fun _ => 0), ar q31 cA 8 (fun _ => 0)] := hD
  subst hQ
  exact W.vret hx hb hr (fun t ht hW => ⟨⟨adl [q7, q15, q23, q31], rfl, trivial, by rw [ht]; exact hP, va_K.moved hW.alike hK, hAe ▸ hD⟩, hS.F ht⟩) hS.2.2 dX4_init_41

set_option maxHeartbeats 8000000 in
set_option maxRecDepth 100000 in
theorem kL_init (l : Launch) (dC : Nat → ClassId) (dI : Nat → Nat → Nat) (cA : ClassId) (h0 : Nat) (sz : Nat) : Met l yX6_init wsX6_init ({ frames := 1, cells := 3, slots := 248, locals := 23 }) (va_Pc [.ref h0] (fun U => U.heap.size = sz ∧ va_P (dC, dI) vwCl [(h0, .inr (6, [.null, .null, .null, .int 0]))] U.heap ∧ va_K (dC, dI) vwCl [(cA, .int)] U ∧ va_D (fun _ => True) [(h0, .inr (6, [.null, .null, .null, .int 0]))])) (va_Qv (fun (_ : Nat → Nat) => True) (fun (b : Nat → Nat) t => va_P (dC, dI) vwCl [(h0, .inr (6, [.ref (b 0), .ref (b 1), .ref (b 2), .int 0])), ar (b 0) cA 240 (fun _ => 0), ar (b 2) cA 4 (fun _ => 0), ar (b 1) cA 4 (fun k => if k < 4 then (-1) else (fun _ => 0) k)] t.heap ∧ va_K (dC, dI) vwCl [(cA, .int)] t ∧ va_D (va_A [(h0, .inr (6, [.null, .null, .null, .int 0]))] sz) [(h0, .inr (6, [.ref (b 0), .ref (b 1), .ref (b 2), .int 0])), ar (b 0) cA 240 (fun _ => 0), ar (b 2) cA 4 (fun _ => 0), ar (b 1) cA 4 (fun k => if k < 4 then (-1) else (fun _ => 0) k)]) (va_A [(h0, .inr (6, [.null, .null, .null, .int 0]))] sz)) 3 248 (va_A [(h0, .inr (6, [.null, .null, .null, .int 0]))] sz) := by
  refine Met.ofW (cc := cX6_init) (maxL := 1) (ret := none) (by decide) rfl ?_
  intro p e s m args below meth c s₁ B hml hv
  obtain ⟨rfl, hsz, hP, hK, hD0⟩ := hv
  have hx := B.exec
  have hb := B.bytes
  have hr := B.returns
  have hts := atoms_spec (ws := wsX6_init) B.pre
  have hown : s.vm.findClass RX6 = some m.cls := findClass_of_methodNamed B.named
  have hin : meth.name = "<init>" := (name_of_methodNamed B.named B.method).1
  subst hsz
  have hD := hD0.self (sz := s.heap.size)
  generalize hAe : va_A [(h0, .inr (6, [.null, .null, .null, .int 0]))] s.heap.size = A at hD ⊢
  have hA : ∀ q : Nat, s.heap.size ≤ q → A q := fun q h => by rw [← hAe]; exact Or.inr h
  have hS : va_S A s.heap s.heap [] := va_S.rf
  have hl := lv_entry ([.ref h0]) (n := 1) (Nat.le_of_ble_eq_true rfl)
  rw [lg_entry_eq]
  generalize (lg_sl ([.ref h0]) ++ List.replicate (1 - (lg_sl ([.ref h0])).length) Slot.unset).toArray = ls at hl ⊢
  have hl : lv_has ls 1 [(0, .ref h0)] := hl
  refine wk_Q (fun QQ hQ => ?_)
  have hw_0 := hts (.methodLink RX6 3 objectInit) (List.mem_cons_of_mem _ (in_r6 _ (List.mem_of_getElem? (i := 6) rfl)))
  have hw_1 := hts (.instanceMethod objectInit) (List.mem_cons_of_mem _ (in_r1 _ (List.mem_of_getElem? (i := 10) rfl)))
  have hw_2 := hts (.code objectInit ⟨#[0xb1]⟩ 1 none) (List.mem_cons_of_mem _ (in_r1 _ (List.mem_of_getElem? (i := 11) rfl)))
  have hw_3 := hts (.arrayClass .int) (List.mem_cons_of_mem _ (in_r3 _ (List.mem_of_getElem? (i := 7) rfl)))
  have hinX6 : ∀ w ∈ wsX60, w ∈ wsX6_init := fun w h => List.mem_cons_of_mem _ (inlX6 w h)
  have hw_4 := hts (.fieldLink RX6 11 "HandCensus$Shelf" "items" "[I") (List.mem_cons_of_mem _ (in_r6 _ (List.mem_of_getElem? (i := 7) rfl)))
  have hw_5 := hts (.fieldLink RX6 15 "HandCensus$Shelf" "forms" "[I") (List.mem_cons_of_mem _ (in_r6 _ (List.mem_of_getElem? (i := 8) rfl)))
  have hw_6 := hts (.fieldLink RX6 18 "HandCensus$Shelf" "sizes" "[I") (List.mem_cons_of_mem _ (in_r6 _ (List.mem_of_getElem? (i := 9) rfl)))
  have hw_7 := hts (.fieldLink RX6 21 "HandCensus$Shelf" "latest" "I") (List.mem_cons_of_mem _ (in_r6 _ (List.mem_of_getElem? (i := 10) rfl)))
  refine lv_aload_n hx hb dX6_init_0 rfl (lv_at hl 0 rfl) ?_
  refine W.objInit hx hb hown hw_0 hw_1 hw_2 rfl (by rw [hml]; exact hl.1) rfl dX6_init_1 (Nat.le_of_ble_eq_true rfl) (Nat.le_of_ble_eq_true rfl) ?_
  refine W.eq (g2 := F0 m 4 ls []) rfl ?_
  refine lv_aload_n hx hb dX6_init_4 rfl (lv_at hl 0 rfl) ?_
  refine lv_sipush (v := 240) hx hb dX6_init_5 (by decide) ?_
  refine va_newa (atype := .int) (ty := .int) (N' := 240) (a0 := (240, .inl (fun _ => 0))) hx hb hw_3 rfl hK hP hD hS hA (fun _ => rfl) (by decide) rfl (Nat.le_of_ble_eq_true rfl) (Nat.le_of_ble_eq_true rfl) (Nat.le_of_ble_eq_true rfl) dX6_init_8 (fun q8 cN H hK2 hP hD hS => ?_)
  obtain rfl : cA = cN := va_same hK2 0 1 rfl rfl
  clear hK2
  have hP : va_P (dC, dI) vwCl [(h0, .inr (6, [.null, .null, .null, .int 0])), ar q8 cA 240 (fun _ => 0)] H := hP
  have hD : va_D A [(h0, .inr (6, [.null, .null, .null, .int 0])), ar q8 cA 240 (fun _ => 0)] := hD
  refine W.widen (k := 1) (n := 240) (Nat.le_of_ble_eq_true rfl) (Nat.le_of_ble_eq_true rfl) ?_
  refine va_putF (D := (dC, dI)) (ci := 6) (v := .ref q8) (ty := .array .int) (C := RX6) (T := TX6) (N := 4) hx hb hts hinX6 tyX6 tyX6_ok nmX6 hown hK hP hD hS 0 rfl rfl 0 (by decide) hw_4 (fun _ h9 => h9) rfl hin rfl (by decide +kernel) rfl rfl (Nat.le_of_ble_eq_true rfl) dX6_init_10 (fun H locs hP hD hS => ?_)
  have hP : va_P (dC, dI) vwCl [(h0, .inr (6, [.ref q8, .null, .null, .int 0])), ar q8 cA 240 (fun _ => 0)] H := hP
  have hD : va_D A [(h0, .inr (6, [.ref q8, .null, .null, .int 0])), ar q8 cA 240 (fun _ => 0)] := hD
  refine lv_aload_n hx hb dX6_init_13 rfl (lv_at hl 0 rfl) ?_
  refine lv_iconst (v := 4) hx hb dX6_init_14 (by decide) ?_
  refine va_newa (atype := .int) (ty := .int) (N' := 4) (a0 := (4, .inl (fun _ => 0))) hx hb hw_3 rfl hK hP hD hS hA (fun _ => rfl) (by decide) rfl (Nat.le_of_ble_eq_true rfl) (Nat.le_of_ble_eq_true rfl) (Nat.le_of_ble_eq_true rfl) dX6_init_15 (fun q15 cN H hK2 hP hD hS => ?_)
  obtain rfl : cA = cN := va_same hK2 0 1 rfl rfl
  clear hK2
  have hP : va_P (dC, dI) vwCl [(h0, .inr (6, [.ref q8, .null, .null, .int 0])), ar q8 cA 240 (fun _ => 0), ar q15 cA 4 (fun _ => 0)] H := hP
  have hD : va_D A [(h0, .inr (6, [.ref q8, .null, .null, .int 0])), ar q8 cA 240 (fun _ => 0), ar q15 cA 4 (fun _ => 0)] := hD
  refine W.widen (k := 2) (n := 244) (Nat.le_of_ble_eq_true rfl) (Nat.le_of_ble_eq_true rfl) ?_
  refine va_putF (D := (dC, dI)) (ci := 6) (v := .ref q15) (ty := .array .int) (C := RX6) (T := TX6) (N := 4) hx hb hts hinX6 tyX6 tyX6_ok nmX6 hown hK hP hD hS 0 rfl rfl 1 (by decide) hw_5 (fun _ h9 => h9) rfl hin rfl (by decide +kernel) rfl rfl (Nat.le_of_ble_eq_true rfl) dX6_init_17 (fun H locs hP hD hS => ?_)
  have hP : va_P (dC, dI) vwCl [(h0, .inr (6, [.ref q8, .ref q15, .null, .int 0])), ar q8 cA 240 (fun _ => 0), ar q15 cA 4 (fun _ => 0)] H := hP
  have hD : va_D A [(h0, .inr (6, [.ref q8, .ref q15, .null, .int 0])), ar q8 cA 240 (fun _ => 0), ar q15 cA 4 (fun _ => 0)] := hD
  refine lv_aload_n hx hb dX6_init_20 rfl (lv_at hl 0 rfl) ?_
  refine lv_iconst (v := 4) hx hb dX6_init_21 (by decide) ?_
  refine va_newa (atype := .int) (ty := .int) (N' := 4) (a0 := (4, .inl (fun _ => 0))) hx hb hw_3 rfl hK hP hD hS hA (fun _ => rfl) (by decide) rfl (Nat.le_of_ble_eq_true rfl) (Nat.le_of_ble_eq_true rfl) (Nat.le_of_ble_eq_true rfl) dX6_init_22 (fun q22 cN H hK2 hP hD hS => ?_)
  obtain rfl : cA = cN := va_same hK2 0 1 rfl rfl
  clear hK2
  have hP : va_P (dC, dI) vwCl [(h0, .inr (6, [.ref q8, .ref q15, .null, .int 0])), ar q8 cA 240 (fun _ => 0), ar q15 cA 4 (fun _ => 0), ar q22 cA 4 (fun _ => 0)] H := hP
  have hD : va_D A [(h0, .inr (6, [.ref q8, .ref q15, .null, .int 0])), ar q8 cA 240 (fun _ => 0), ar q15 cA 4 (fun _ => 0), ar q22 cA 4 (fun _ => 0)] := hD
  refine W.widen (k := 3) (n := 248) (Nat.le_of_ble_eq_true rfl) (Nat.le_of_ble_eq_true rfl) ?_
  refine va_putF (D := (dC, dI)) (ci := 6) (v := .ref q22) (ty := .array .int) (C := RX6) (T := TX6) (N := 4) hx hb hts hinX6 tyX6 tyX6_ok nmX6 hown hK hP hD hS 0 rfl rfl 2 (by decide) hw_6 (fun _ h9 => h9) rfl hin rfl (by decide +kernel) rfl rfl (Nat.le_of_ble_eq_true rfl) dX6_init_24 (fun H locs hP hD hS => ?_)
  have hP : va_P (dC, dI) vwCl [(h0, .inr (6, [.ref q8, .ref q15, .ref q22, .int 0])), ar q8 cA 240 (fun _ => 0), ar q15 cA 4 (fun _ => 0), ar q22 cA 4 (fun _ => 0)] H := hP
  have hD : va_D A [(h0, .inr (6, [.ref q8, .ref q15, .ref q22, .int 0])), ar q8 cA 240 (fun _ => 0), ar q15 cA 4 (fun _ => 0), ar q22 cA 4 (fun _ => 0)] := hD
  refine lv_aload_n hx hb dX6_init_27 rfl (lv_at hl 0 rfl) ?_
  refine lv_iconst (v := 0) hx hb dX6_init_28 (by decide) ?_
  refine va_put (D := (dC, dI)) (ci := 6) (v := .int 0) (ty := .int) (C := RX6) (T := TX6) (N := 4) hx hb hts hinX6 tyX6 tyX6_ok nmX6 hown hK hP hD hS 0 rfl rfl 3 (by decide) hw_7 (fun _ h9 => h9) rfl (by decide +kernel) rfl rfl (Nat.le_of_ble_eq_true rfl) dX6_init_29 (fun H locs hP hD hS => ?_)
  have hP : va_P (dC, dI) vwCl [(h0, .inr (6, [.ref q8, .ref q15, .ref q22, .int 0])), ar q8 cA 240 (fun _ => 0), ar q15 cA 4 (fun _ => 0), ar q22 cA 4 (fun _ => 0)] H := hP
  have hD : va_D A [(h0, .inr (6, [.ref q8, .ref q15, .ref q22, .int 0])), ar q8 cA 240 (fun _ => 0), ar q15 cA 4 (fun _ => 0), ar q22 cA 4 (fun _ => 0)] := hD
  refine lv_aload_n hx hb dX6_init_32 rfl (lv_at hl 0 rfl) ?_
  refine va_get (D := (dC, dI)) (ci := 6) (v := .ref q15) (C := RX6) (T := TX6) (N := 4) hx hb hts hinX6 hown hK hP 0 rfl rfl 1 (by decide) hw_5 (fun _ h9 => h9) rfl dX6_init_33 ?_
  refine lv_iconst (v := (-1)) hx hb dX6_init_36 (by decide) ?_
  have hPc := hP.sub (ws' := [ar q15 cA 4 (fun _ => 0)]) [2] rfl
  have hDc := hD.sub (ws' := [ar q15 cA 4 (fun _ => 0)]) [2] (by decide) rfl
  have hFc := va_free (wc := [ar q15 cA 4 (fun _ => 0)]) hD hS hA [2] rfl
  refine va_callv (va_runS (As := [.ref q15, .int (-1)]) (rest := []) ⟨hx, hb, hml, hown, hts⟩ (kJ_fill l dC dI cA q15 H.size (-1) 4 (fun _ => 0) (fun k => if k < 4 then (-1) else (fun _ => 0) k) (J_fill_eq (-1) 4 (fun _ => 0) (by decide))) (va_cwS 2 hts gX6_init_J7_fill_53178 rfl rfl rfl (by decide +kernel) ⟨Nat.le_of_ble_eq_true rfl, Nat.le_of_ble_eq_true rfl⟩) ⟨fun a U g mk q => by obtain ⟨q0, q1, qP, qK, qD⟩ := q; exact ⟨q0, q1, qP, va_K.moved (u := U) (U := U.calling g mk a) (Vm.Alike.refl U.vm) qK, qD⟩, fun U hU hW => ⟨rfl, by rw [hU], by rw [hU]; exact hPc, va_K.moved hW.alike hK, hDc.weaken (fun _ _ _ _ => trivial)⟩⟩ rfl rfl hl.1 rfl (lv_room (Nat.le_of_ble_eq_true rfl)) dX6_init_37 ⟨Nat.le_of_ble_eq_true rfl, Nat.le_of_ble_eq_true rfl⟩) hS (fun q _ h => hFc q h) hFc (fun _ t H1 locs ht hvm hw hB hz1 hk1 hS => ?_)
  obtain ⟨hP1, hK1, hD1⟩ := hB
  rw [ht] at hP1
  obtain ⟨hP, hD⟩ := va_join (wr := [(h0, .inr (6, [.ref q8, .ref q15, .ref q22, .int 0])), ar q8 cA 240 (fun _ => 0), ar q22 cA 4 (fun _ => 0)]) (w1 := [ar q15 cA 4 (fun k => if k < 4 then (-1) else (fun _ => 0) k)]) hP hD [2] [0, 1, 3] rfl rfl (by decide) (by decide) hk1 hFc hP1 hD1
  clear hPc hDc hFc hP1 hK1 hD1 hk1 hz1 hvm ht
  generalize H1 = H at hP hS ⊢
  have hP : va_P (dC, dI) vwCl [(h0, .inr (6, [.ref q8, .ref q15, .ref q22, .int 0])), ar q8 cA 240 (fun _ => 0), ar q22 cA 4 (fun _ => 0), ar q15 cA 4 (fun k => if k < 4 then (-1) else (fun _ => 0) k)] H := hP
  have hD : va_D A [(h0, .inr (6, [.ref q8, .ref q15, .ref q22, .int 0])), ar q8 cA 240 (fun _ => 0), ar q22 cA 4 (fun _ => 0), ar q15 cA 4 (fun k => if k < 4 then (-1) else (fun _ => 0) k)] := hD
  refine W.widen (k := 3) (n := 248) (Nat.le_of_ble_eq_true rfl) (Nat.le_of_ble_eq_true rfl) ?_
  subst hQ
  exact W.vret hx hb hr (fun t ht hW => ⟨⟨adl [q8, q15, q22], rfl, trivial, by rw [ht]; exact hP, va_K.moved hW.alike hK, hAe ▸ hD⟩, hS.F ht⟩) hS.2.2 dX6_init_40

set_option maxHeartbeats 8000000 in
set_option maxRecDepth 100000 in
theorem kS_init_T (l : Launch) (dC : Nat → ClassId) (dI : Nat → Nat → Nat) (cA : ClassId) (h0 : Nat) (p1 : Nat) (p2 : Nat) (sz : Nat) : Met l yX8_init wsX8_init ({ frames := 1, cells := 5, slots := 720, locals := 12 }) (va_Pc [.ref h0, .ref p1, .ref p2] (fun U => U.heap.size = sz ∧ va_P (dC, dI) vwCl [(h0, .inr (8, [.null, .null, .null, .null, .null, .null, .null, .int 0, .int 0, .int 0]))] U.heap ∧ va_K (dC, dI) vwCl [(cA, .int)] U ∧ va_D (fun _ => True) [(h0, .inr (8, [.null, .null, .null, .null, .null, .null, .null, .int 0, .int 0, .int 0]))])) (va_Qv (fun (_ : Nat → Nat) => True) (fun (b : Nat → Nat) t => va_P (dC, dI) vwCl [(h0, .inr (8, [.ref p1, .ref p2, .ref (b 0), .ref (b 1), .ref (b 2), .ref (b 3), .ref (b 4), .int 0, .int 0, .int 0])), ar (b 0) cA 640 (fun _ => 0), ar (b 1) cA 20 (fun _ => 0), ar (b 2) cA 20 (fun _ => 0), ar (b 3) cA 20 (fun _ => 0), ar (b 4) cA 20 (fun _ => 0)] t.heap ∧ va_K (dC, dI) vwCl [(cA, .int)] t ∧ va_D (va_A [(h0, .inr (8, [.null, .null, .null, .null, .null, .null, .null, .int 0, .int 0, .int 0]))] sz) [(h0, .inr (8, [.ref p1, .ref p2, .ref (b 0), .ref (b 1), .ref (b 2), .ref (b 3), .ref (b 4), .int 0, .int 0, .int 0])), ar (b 0) cA 640 (fun _ => 0), ar (b 1) cA 20 (fun _ => 0), ar (b 2) cA 20 (fun _ => 0), ar (b 3) cA 20 (fun _ => 0), ar (b 4) cA 20 (fun _ => 0)]) (va_A [(h0, .inr (8, [.null, .null, .null, .null, .null, .null, .null, .int 0, .int 0, .int 0]))] sz)) 5 720 (va_A [(h0, .inr (8, [.null, .null, .null, .null, .null, .null, .null, .int 0, .int 0, .int 0]))] sz) := by
  refine Met.ofW (cc := cX8_init) (maxL := 3) (ret := none) (by decide) rfl ?_
  intro p e s m args below meth c s₁ B hml hv
  obtain ⟨rfl, hsz, hP, hK, hD0⟩ := hv
  have hx := B.exec
  have hb := B.bytes
  have hr := B.returns
  have hts := atoms_spec (ws := wsX8_init) B.pre
  have hown : s.vm.findClass RX8 = some m.cls := findClass_of_methodNamed B.named
  have hin : meth.name = "<init>" := (name_of_methodNamed B.named B.method).1
  subst hsz
  have hD := hD0.self (sz := s.heap.size)
  generalize hAe : va_A [(h0, .inr (8, [.null, .null, .null, .null, .null, .null, .null, .int 0, .int 0, .int 0]))] s.heap.size = A at hD ⊢
  have hA : ∀ q : Nat, s.heap.size ≤ q → A q := fun q h => by rw [← hAe]; exact Or.inr h
  have hS : va_S A s.heap s.heap [] := va_S.rf
  have hl := lv_entry ([.ref h0, .ref p1, .ref p2]) (n := 3) (Nat.le_of_ble_eq_true rfl)
  rw [lg_entry_eq]
  generalize (lg_sl ([.ref h0, .ref p1, .ref p2]) ++ List.replicate (3 - (lg_sl ([.ref h0, .ref p1, .ref p2])).length) Slot.unset).toArray = ls at hl ⊢
  have hl : lv_has ls 3 [(0, .ref h0), (1, .ref p1), (2, .ref p2)] := hl
  refine wk_Q (fun QQ hQ => ?_)
  have hw_0 := hts (.methodLink RX8 3 objectInit) (List.mem_cons_of_mem _ (in_r4 _ (List.mem_of_getElem? (i := 1) rfl)))
  have hw_1 := hts (.instanceMethod objectInit) (List.mem_cons_of_mem _ (in_r1 _ (List.mem_of_getElem? (i := 10) rfl)))
  have hw_2 := hts (.code objectInit ⟨#[0xb1]⟩ 1 none) (List.mem_cons_of_mem _ (in_r1 _ (List.mem_of_getElem? (i := 11) rfl)))
  have hinX8 : ∀ w ∈ wsX80, w ∈ wsX8_init := fun w h => List.mem_cons_of_mem _ (inlX8 w h)
  have hw_3 := hts (.fieldLink RX8 9 "HandCensus$Squeeze" "row" "LHandCensus$Row;") (List.mem_cons_of_mem _ (in_r4 _ (List.mem_of_getElem? (i := 2) rfl)))
  have hw_4 := hts (.fieldLink RX8 15 "HandCensus$Squeeze" "diary" "LHandCensus$Diary;") (List.mem_cons_of_mem _ (in_r4 _ (List.mem_of_getElem? (i := 3) rfl)))
  have hw_5 := hts (.arrayClass .int) (List.mem_cons_of_mem _ (in_r3 _ (List.mem_of_getElem? (i := 7) rfl)))
  have hw_6 := hts (.fieldLink RX8 19 "HandCensus$Squeeze" "due" "[I") (List.mem_cons_of_mem _ (in_r4 _ (List.mem_of_getElem? (i := 4) rfl)))
  have hw_7 := hts (.fieldLink RX8 23 "HandCensus$Squeeze" "busyUpTo" "[I") (List.mem_cons_of_mem _ (in_r4 _ (List.mem_of_getElem? (i := 5) rfl)))
  have hw_8 := hts (.fieldLink RX8 26 "HandCensus$Squeeze" "feltMany" "[I") (List.mem_cons_of_mem _ (in_r4 _ (List.mem_of_getElem? (i := 6) rfl)))
  have hw_9 := hts (.fieldLink RX8 29 "HandCensus$Squeeze" "lostMany" "[I") (List.mem_cons_of_mem _ (in_r4 _ (List.mem_of_getElem? (i := 7) rfl)))
  have hw_10 := hts (.fieldLink RX8 32 "HandCensus$Squeeze" "firstAt" "[I") (List.mem_cons_of_mem _ (in_r4 _ (List.mem_of_getElem? (i := 8) rfl)))
  refine lv_aload_n hx hb dX8_init_0 rfl (lv_at hl 0 rfl) ?_
  refine W.objInit hx hb hown hw_0 hw_1 hw_2 rfl (by rw [hml]; exact hl.1) rfl dX8_init_1 (Nat.le_of_ble_eq_true rfl) (Nat.le_of_ble_eq_true rfl) ?_
  refine W.eq (g2 := F0 m 4 ls []) rfl ?_
  refine lv_aload_n hx hb dX8_init_4 rfl (lv_at hl 0 rfl) ?_
  refine lv_aload_n hx hb dX8_init_5 rfl (lv_at hl 1 rfl) ?_
  refine va_putF (D := (dC, dI)) (ci := 8) (v := .ref p1) (ty := .object "HandCensus$Row") (C := RX8) (T := TX8) (N := 10) hx hb hts hinX8 tyX8 tyX8_ok nmX8 hown hK hP hD hS 0 rfl rfl 0 (by decide) hw_3 (fun _ h9 => h9) rfl hin rfl (by decide +kernel) rfl rfl (Nat.le_of_ble_eq_true rfl) dX8_init_6 (fun H locs hP hD hS => ?_)
  have hP : va_P (dC, dI) vwCl [(h0, .inr (8, [.ref p1, .null, .null, .null, .null, .null, .null, .int 0, .int 0, .int 0]))] H := hP
  have hD : va_D A [(h0, .inr (8, [.ref p1, .null, .null, .null, .null, .null, .null, .int 0, .int 0, .int 0]))] := hD
  refine lv_aload_n hx hb dX8_init_9 rfl (lv_at hl 0 rfl) ?_
  refine lv_aload_n hx hb dX8_init_10 rfl (lv_at hl 2 rfl) ?_
  refine va_putF (D := (dC, dI)) (ci := 8) (v := .ref p2) (ty := .object "HandCensus$Diary") (C := RX8) (T := TX8) (N := 10) hx hb hts hinX8 tyX8 tyX8_ok nmX8 hown hK hP hD hS 0 rfl rfl 1 (by decide) hw_4 (fun _ h9 => h9) rfl hin rfl (by decide +kernel) rfl rfl (Nat.le_of_ble_eq_true rfl) dX8_init_11 (fun H locs hP hD hS => ?_)
  have hP : va_P (dC, dI) vwCl [(h0, .inr (8, [.ref p1, .ref p2, .null, .null, .null, .null, .null, .int 0, .int 0, .int 0]))] H := hP
  have hD : va_D A [(h0, .inr (8, [.ref p1, .ref p2, .null, .null, .null, .null, .null, .int 0, .int 0, .int 0]))] := hD
  refine lv_aload_n hx hb dX8_init_14 rfl (lv_at hl 0 rfl) ?_
  refine lv_sipush (v := 640) hx hb dX8_init_15 (by decide) ?_
  refine va_newa (atype := .int) (ty := .int) (N' := 640) (a0 := (640, .inl (fun _ => 0))) hx hb hw_5 rfl hK hP hD hS hA (fun _ => rfl) (by decide) rfl (Nat.le_of_ble_eq_true rfl) (Nat.le_of_ble_eq_true rfl) (Nat.le_of_ble_eq_true rfl) dX8_init_18 (fun q18 cN H hK2 hP hD hS => ?_)
  obtain rfl : cA = cN := va_same hK2 0 1 rfl rfl
  clear hK2
  have hP : va_P (dC, dI) vwCl [(h0, .inr (8, [.ref p1, .ref p2, .null, .null, .null, .null, .null, .int 0, .int 0, .int 0])), ar q18 cA 640 (fun _ => 0)] H := hP
  have hD : va_D A [(h0, .inr (8, [.ref p1, .ref p2, .null, .null, .null, .null, .null, .int 0, .int 0, .int 0])), ar q18 cA 640 (fun _ => 0)] := hD
  refine W.widen (k := 1) (n := 640) (Nat.le_of_ble_eq_true rfl) (Nat.le_of_ble_eq_true rfl) ?_
  refine va_putF (D := (dC, dI)) (ci := 8) (v := .ref q18) (ty := .array .int) (C := RX8) (T := TX8) (N := 10) hx hb hts hinX8 tyX8 tyX8_ok nmX8 hown hK hP hD hS 0 rfl rfl 2 (by decide) hw_6 (fun _ h9 => h9) rfl hin rfl (by decide +kernel) rfl rfl (Nat.le_of_ble_eq_true rfl) dX8_init_20 (fun H locs hP hD hS => ?_)
  have hP : va_P (dC, dI) vwCl [(h0, .inr (8, [.ref p1, .ref p2, .ref q18, .null, .null, .null, .null, .int 0, .int 0, .int 0])), ar q18 cA 640 (fun _ => 0)] H := hP
  have hD : va_D A [(h0, .inr (8, [.ref p1, .ref p2, .ref q18, .null, .null, .null, .null, .int 0, .int 0, .int 0])), ar q18 cA 640 (fun _ => 0)] := hD
  refine lv_aload_n hx hb dX8_init_23 rfl (lv_at hl 0 rfl) ?_
  refine lv_bipush (v := 20) hx hb dX8_init_24 (by decide) ?_
  refine va_newa (atype := .int) (ty := .int) (N' := 20) (a0 := (20, .inl (fun _ => 0))) hx hb hw_5 rfl hK hP hD hS hA (fun _ => rfl) (by decide) rfl (Nat.le_of_ble_eq_true rfl) (Nat.le_of_ble_eq_true rfl) (Nat.le_of_ble_eq_true rfl) dX8_init_26 (fun q26 cN H hK2 hP hD hS => ?_)
  obtain rfl : cA = cN := va_same hK2 0 1 rfl rfl
  clear hK2
  have hP : va_P (dC, dI) vwCl [(h0, .inr (8, [.ref p1, .ref p2, .ref q18, .null, .null, .null, .null, .int 0, .int 0, .int 0])), ar q18 cA 640 (fun _ => 0), ar q26 cA 20 (fun _ => 0)] H := hP
  have hD : va_D A [(h0, .inr (8, [.ref p1, .ref p2, .ref q18, .null, .null, .null, .null, .int 0, .int 0, .int 0])), ar q18 cA 640 (fun _ => 0), ar q26 cA 20 (fun _ => 0)] := hD
  refine W.widen (k := 2) (n := 660) (Nat.le_of_ble_eq_true rfl) (Nat.le_of_ble_eq_true rfl) ?_
  refine va_putF (D := (dC, dI)) (ci := 8) (v := .ref q26) (ty := .array .int) (C := RX8) (T := TX8) (N := 10) hx hb hts hinX8 tyX8 tyX8_ok nmX8 hown hK hP hD hS 0 rfl rfl 3 (by decide) hw_7 (fun _ h9 => h9) rfl hin rfl (by decide +kernel) rfl rfl (Nat.le_of_ble_eq_true rfl) dX8_init_28 (fun H locs hP hD hS => ?_)
  have hP : va_P (dC, dI) vwCl [(h0, .inr (8, [.ref p1, .ref p2, .ref q18, .ref q26, .null, .null, .null, .int 0, .int 0, .int 0])), ar q18 cA 640 (fun _ => 0), ar q26 cA 20 (fun _ => 0)] H := hP
  have hD : va_D A [(h0, .inr (8, [.ref p1, .ref p2, .ref q18, .ref q26, .null, .null, .null, .int 0, .int 0, .int 0])), ar q18 cA 640 (fun _ => 0), ar q26 cA 20 (fun _ => 0)] := hD
  refine lv_aload_n hx hb dX8_init_31 rfl (lv_at hl 0 rfl) ?_
  refine lv_bipush (v := 20) hx hb dX8_init_32 (by decide) ?_
  refine va_newa (atype := .int) (ty := .int) (N' := 20) (a0 := (20, .inl (fun _ => 0))) hx hb hw_5 rfl hK hP hD hS hA (fun _ => rfl) (by decide) rfl (Nat.le_of_ble_eq_true rfl) (Nat.le_of_ble_eq_true rfl) (Nat.le_of_ble_eq_true rfl) dX8_init_34 (fun q34 cN H hK2 hP hD hS => ?_)
  obtain rfl : cA = cN := va_same hK2 0 1 rfl rfl
  clear hK2
  have hP : va_P (dC, dI) vwCl [(h0, .inr (8, [.ref p1, .ref p2, .ref q18, .ref q26, .null, .null, .null, .int 0, .int 0, .int 0])), ar q18 cA 640 (fun _ => 0), ar q26 cA 20 (fun _ => 0), ar q34 cA 20 (fun _ => 0)] H := hP
  have hD : va_D A [(h0, .inr (8, [.ref p1, .ref p2, .ref q18, .ref q26, .null, .null, .null, .int 0, .int 0, .int 0])), ar q18 cA 640 (fun _ => 0), ar q26 cA 20 (fun _ => 0), ar q34 cA 20 (fun _ => 0)] := hD
  refine W.widen (k := 3) (n := 680) (Nat.le_of_ble_eq_true rfl) (Nat.le_of_ble_eq_true rfl) ?_
  refine va_putF (D := (dC, dI)) (ci := 8) (v := .ref q34) (ty := .array .int) (C := RX8) (T := TX8) (N := 10) hx hb hts hinX8 tyX8 tyX8_ok nmX8 hown hK hP hD hS 0 rfl rfl 4 (by decide) hw_8 (fun _ h9 => h9) rfl hin rfl (by decide +kernel) rfl rfl (Nat.le_of_ble_eq_true rfl) dX8_init_36 (fun H locs hP hD hS => ?_)
  have hP : va_P (dC, dI) vwCl [(h0, .inr (8, [.ref p1, .ref p2, .ref q18, .ref q26, .ref q34, .null, .null, .int 0, .int 0, .int 0])), ar q18 cA 640 (fun _ => 0), ar q26 cA 20 (fun _ => 0), ar q34 cA 20 (fun _ => 0)] H := hP
  have hD : va_D A [(h0, .inr (8, [.ref p1, .ref p2, .ref q18, .ref q26, .ref q34, .null, .null, .int 0, .int 0, .int 0])), ar q18 cA 640 (fun _ => 0), ar q26 cA 20 (fun _ => 0), ar q34 cA 20 (fun _ => 0)] := hD
  refine lv_aload_n hx hb dX8_init_39 rfl (lv_at hl 0 rfl) ?_
  refine lv_bipush (v := 20) hx hb dX8_init_40 (by decide) ?_
  refine va_newa (atype := .int) (ty := .int) (N' := 20) (a0 := (20, .inl (fun _ => 0))) hx hb hw_5 rfl hK hP hD hS hA (fun _ => rfl) (by decide) rfl (Nat.le_of_ble_eq_true rfl) (Nat.le_of_ble_eq_true rfl) (Nat.le_of_ble_eq_true rfl) dX8_init_42 (fun q42 cN H hK2 hP hD hS => ?_)
  obtain rfl : cA = cN := va_same hK2 0 1 rfl rfl
  clear hK2
  have hP : va_P (dC, dI) vwCl [(h0, .inr (8, [.ref p1, .ref p2, .ref q18, .ref q26, .ref q34, .null, .null, .int 0, .int 0, .int 0])), ar q18 cA 640 (fun _ => 0), ar q26 cA 20 (fun _ => 0), ar q34 cA 20 (fun _ => 0), ar q42 cA 20 (fun _ => 0)] H := hP
  have hD : va_D A [(h0, .inr (8, [.ref p1, .ref p2, .ref q18, .ref q26, .ref q34, .null, .null, .int 0, .int 0, .int 0])), ar q18 cA 640 (fun _ => 0), ar q26 cA 20 (fun _ => 0), ar q34 cA 20 (fun _ => 0), ar q42 cA 20 (fun _ => 0)] := hD
  refine W.widen (k := 4) (n := 700) (Nat.le_of_ble_eq_true rfl) (Nat.le_of_ble_eq_true rfl) ?_
  refine va_putF (D := (dC, dI)) (ci := 8) (v := .ref q42) (ty := .array .int) (C := RX8) (T := TX8) (N := 10) hx hb hts hinX8 tyX8 tyX8_ok nmX8 hown hK hP hD hS 0 rfl rfl 5 (by decide) hw_9 (fun _ h9 => h9) rfl hin rfl (by decide +kernel) rfl rfl (Nat.le_of_ble_eq_true rfl) dX8_init_44 (fun H locs hP hD hS => ?_)
  have hP : va_P (dC, dI) vwCl [(h0, .inr (8, [.ref p1, .ref p2, .ref q18, .ref q26, .ref q34, .ref q42, .null, .int 0, .int 0, .int 0])), ar q18 cA 640 (fun _ => 0), ar q26 cA 20 (fun _ => 0), ar q34 cA 20 (fun _ => 0), ar q42 cA 20 (fun _ => 0)] H := hP
  have hD : va_D A [(h0, .inr (8, [.ref p1, .ref p2, .ref q18, .ref q26, .ref q34, .ref q42, .null, .int 0, .int 0, .int 0])), ar q18 cA 640 (fun _ => 0), ar q26 cA 20 (fun _ => 0), ar q34 cA 20 (fun _ => 0), ar q42 cA 20 (fun _ => 0)] := hD
  refine lv_aload_n hx hb dX8_init_47 rfl (lv_at hl 0 rfl) ?_
  refine lv_bipush (v := 20) hx hb dX8_init_48 (by decide) ?_
  refine va_newa (atype := .int) (ty := .int) (N' := 20) (a0 := (20, .inl (fun _ => 0))) hx hb hw_5 rfl hK hP hD hS hA (fun _ => rfl) (by decide) rfl (Nat.le_of_ble_eq_true rfl) (Nat.le_of_ble_eq_true rfl) (Nat.le_of_ble_eq_true rfl) dX8_init_50 (fun q50 cN H hK2 hP hD hS => ?_)
  obtain rfl : cA = cN := va_same hK2 0 1 rfl rfl
  clear hK2
  have hP : va_P (dC, dI) vwCl [(h0, .inr (8, [.ref p1, .ref p2, .ref q18, .ref q26, .ref q34, .ref q42, .null, .int 0, .int 0, .int 0])), ar q18 cA 640 (fun _ => 0), ar q26 cA 20 (fun _ => 0), ar q34 cA 20 (fun _ => 0), ar q42 cA 20 (fun _ => 0), ar q50 cA 20 (fun _ => 0)] H := hP
  have hD : va_D A [(h0, .inr (8, [.ref p1, .ref p2, .ref q18, .ref q26, .ref q34, .ref q42, .null, .int 0, .int 0, .int 0])), ar q18 cA 640 (fun _ => 0), ar q26 cA 20 (fun _ => 0), ar q34 cA 20 (fun _ => 0), ar q42 cA 20 (fun _ => 0), ar q50 cA 20 (fun _ => 0)] := hD
  refine W.widen (k := 5) (n := 720) (Nat.le_of_ble_eq_true rfl) (Nat.le_of_ble_eq_true rfl) ?_
  refine va_putF (D := (dC, dI)) (ci := 8) (v := .ref q50) (ty := .array .int) (C := RX8) (T := TX8) (N := 10) hx hb hts hinX8 tyX8 tyX8_ok nmX8 hown hK hP hD hS 0 rfl rfl 6 (by decide) hw_10 (fun _ h9 => h9) rfl hin rfl (by decide +kernel) rfl rfl (Nat.le_of_ble_eq_true rfl) dX8_init_52 (fun H locs hP hD hS => ?_)
  have hP : va_P (dC, dI) vwCl [(h0, .inr (8, [.ref p1, .ref p2, .ref q18, .ref q26, .ref q34, .ref q42, .ref q50, .int 0, .int 0, .int 0])), ar q18 cA 640 (fun _ => 0), ar q26 cA 20 (fun _ => 0), ar q34 cA 20 (fun _ => 0), ar q42 cA 20 (fun _ => 0), ar q50 cA 20 (fun _ => 0)] H := hP
  have hD : va_D A [(h0, .inr (8, [.ref p1, .ref p2, .ref q18, .ref q26, .ref q34, .ref q42, .ref q50, .int 0, .int 0, .int 0])), ar q18 cA 640 (fun _ => 0), ar q26 cA 20 (fun _ => 0), ar q34 cA 20 (fun _ => 0), ar q42 cA 20 (fun _ => 0), ar q50 cA 20 (fun _ => 0)] := hD
  subst hQ
  exact W.vret hx hb hr (fun t ht hW => ⟨⟨adl [q18, q26, q34, q42, q50], rfl, trivial, by rw [ht]; exact hP, va_K.moved hW.alike hK, hAe ▸ hD⟩, hS.F ht⟩) hS.2.2 dX8_init_55

set_option maxHeartbeats 8000000 in
set_option maxRecDepth 100000 in
theorem kS_init_U (l : Launch) (dC : Nat → ClassId) (dI : Nat → Nat → Nat) (cA : ClassId) (h0 : Nat) (p1 : Nat) (sz : Nat) : Met l yX8_init wsX8_init ({ frames := 1, cells := 5, slots := 720, locals := 12 }) (va_Pc [.ref h0, .ref p1, .null] (fun U => U.heap.size = sz ∧ va_P (dC, dI) vwCl [(h0, .inr (8, [.null, .null, .null, .null, .null, .null, .null, .int 0, .int 0, .int 0]))] U.heap ∧ va_K (dC, dI) vwCl [(cA, .int)] U ∧ va_D (fun _ => True) [(h0, .inr (8, [.null, .null, .null, .null, .null, .null, .null, .int 0, .int 0, .int 0]))])) (va_Qv (fun (_ : Nat → Nat) => True) (fun (b : Nat → Nat) t => va_P (dC, dI) vwCl [(h0, .inr (8, [.ref p1, .null, .ref (b 0), .ref (b 1), .ref (b 2), .ref (b 3), .ref (b 4), .int 0, .int 0, .int 0])), ar (b 0) cA 640 (fun _ => 0), ar (b 1) cA 20 (fun _ => 0), ar (b 2) cA 20 (fun _ => 0), ar (b 3) cA 20 (fun _ => 0), ar (b 4) cA 20 (fun _ => 0)] t.heap ∧ va_K (dC, dI) vwCl [(cA, .int)] t ∧ va_D (va_A [(h0, .inr (8, [.null, .null, .null, .null, .null, .null, .null, .int 0, .int 0, .int 0]))] sz) [(h0, .inr (8, [.ref p1, .null, .ref (b 0), .ref (b 1), .ref (b 2), .ref (b 3), .ref (b 4), .int 0, .int 0, .int 0])), ar (b 0) cA 640 (fun _ => 0), ar (b 1) cA 20 (fun _ => 0), ar (b 2) cA 20 (fun _ => 0), ar (b 3) cA 20 (fun _ => 0), ar (b 4) cA 20 (fun _ => 0)]) (va_A [(h0, .inr (8, [.null, .null, .null, .null, .null, .null, .null, .int 0, .int 0, .int 0]))] sz)) 5 720 (va_A [(h0, .inr (8, [.null, .null, .null, .null, .null, .null, .null, .int 0, .int 0, .int 0]))] sz) := by
  refine Met.ofW (cc := cX8_init) (maxL := 3) (ret := none) (by decide) rfl ?_
  intro p e s m args below meth c s₁ B hml hv
  obtain ⟨rfl, hsz, hP, hK, hD0⟩ := hv
  have hx := B.exec
  have hb := B.bytes
  have hr := B.returns
  have hts := atoms_spec (ws := wsX8_init) B.pre
  have hown : s.vm.findClass RX8 = some m.cls := findClass_of_methodNamed B.named
  have hin : meth.name = "<init>" := (name_of_methodNamed B.named B.method).1
  subst hsz
  have hD := hD0.self (sz := s.heap.size)
  generalize hAe : va_A [(h0, .inr (8, [.null, .null, .null, .null, .null, .null, .null, .int 0, .int 0, .int 0]))] s.heap.size = A at hD ⊢
  have hA : ∀ q : Nat, s.heap.size ≤ q → A q := fun q h => by rw [← hAe]; exact Or.inr h
  have hS : va_S A s.heap s.heap [] := va_S.rf
  have hl := lv_entry ([.ref h0, .ref p1, .null]) (n := 3) (Nat.le_of_ble_eq_true rfl)
  rw [lg_entry_eq]
  generalize (lg_sl ([.ref h0, .ref p1, .null]) ++ List.replicate (3 - (lg_sl ([.ref h0, .ref p1, .null])).length) Slot.unset).toArray = ls at hl ⊢
  have hl : lv_has ls 3 [(0, .ref h0), (1, .ref p1), (2, .null)] := hl
  refine wk_Q (fun QQ hQ => ?_)
  have hw_0 := hts (.methodLink RX8 3 objectInit) (List.mem_cons_of_mem _ (in_r4 _ (List.mem_of_getElem? (i := 1) rfl)))
  have hw_1 := hts (.instanceMethod objectInit) (List.mem_cons_of_mem _ (in_r1 _ (List.mem_of_getElem? (i := 10) rfl)))
  have hw_2 := hts (.code objectInit ⟨#[0xb1]⟩ 1 none) (List.mem_cons_of_mem _ (in_r1 _ (List.mem_of_getElem? (i := 11) rfl)))
  have hinX8 : ∀ w ∈ wsX80, w ∈ wsX8_init := fun w h => List.mem_cons_of_mem _ (inlX8 w h)
  have hw_3 := hts (.fieldLink RX8 9 "HandCensus$Squeeze" "row" "LHandCensus$Row;") (List.mem_cons_of_mem _ (in_r4 _ (List.mem_of_getElem? (i := 2) rfl)))
  have hw_4 := hts (.fieldLink RX8 15 "HandCensus$Squeeze" "diary" "LHandCensus$Diary;") (List.mem_cons_of_mem _ (in_r4 _ (List.mem_of_getElem? (i := 3) rfl)))
  have hw_5 := hts (.arrayClass .int) (List.mem_cons_of_mem _ (in_r3 _ (List.mem_of_getElem? (i := 7) rfl)))
  have hw_6 := hts (.fieldLink RX8 19 "HandCensus$Squeeze" "due" "[I") (List.mem_cons_of_mem _ (in_r4 _ (List.mem_of_getElem? (i := 4) rfl)))
  have hw_7 := hts (.fieldLink RX8 23 "HandCensus$Squeeze" "busyUpTo" "[I") (List.mem_cons_of_mem _ (in_r4 _ (List.mem_of_getElem? (i := 5) rfl)))
  have hw_8 := hts (.fieldLink RX8 26 "HandCensus$Squeeze" "feltMany" "[I") (List.mem_cons_of_mem _ (in_r4 _ (List.mem_of_getElem? (i := 6) rfl)))
  have hw_9 := hts (.fieldLink RX8 29 "HandCensus$Squeeze" "lostMany" "[I") (List.mem_cons_of_mem _ (in_r4 _ (List.mem_of_getElem? (i := 7) rfl)))
  have hw_10 := hts (.fieldLink RX8 32 "HandCensus$Squeeze" "firstAt" "[I") (List.mem_cons_of_mem _ (in_r4 _ (List.mem_of_getElem? (i := 8) rfl)))
  refine lv_aload_n hx hb dX8_init_0 rfl (lv_at hl 0 rfl) ?_
  refine W.objInit hx hb hown hw_0 hw_1 hw_2 rfl (by rw [hml]; exact hl.1) rfl dX8_init_1 (Nat.le_of_ble_eq_true rfl) (Nat.le_of_ble_eq_true rfl) ?_
  refine W.eq (g2 := F0 m 4 ls []) rfl ?_
  refine lv_aload_n hx hb dX8_init_4 rfl (lv_at hl 0 rfl) ?_
  refine lv_aload_n hx hb dX8_init_5 rfl (lv_at hl 1 rfl) ?_
  refine va_putF (D := (dC, dI)) (ci := 8) (v := .ref p1) (ty := .object "HandCensus$Row") (C := RX8) (T := TX8) (N := 10) hx hb hts hinX8 tyX8 tyX8_ok nmX8 hown hK hP hD hS 0 rfl rfl 0 (by decide) hw_3 (fun _ h9 => h9) rfl hin rfl (by decide +kernel) rfl rfl (Nat.le_of_ble_eq_true rfl) dX8_init_6 (fun H locs hP hD hS => ?_)
  have hP : va_P (dC, dI) vwCl [(h0, .inr (8, [.ref p1, .null, .null, .null, .null, .null, .null, .int 0, .int 0, .int 0]))] H := hP
  have hD : va_D A [(h0, .inr (8, [.ref p1, .null, .null, .null, .null, .null, .null, .int 0, .int 0, .int 0]))] := hD
  refine lv_aload_n hx hb dX8_init_9 rfl (lv_at hl 0 rfl) ?_
  refine lv_aload_nN hx hb dX8_init_10 rfl (lv_at hl 2 rfl) ?_
  refine va_putF (D := (dC, dI)) (ci := 8) (v := .null) (ty := .object "HandCensus$Diary") (C := RX8) (T := TX8) (N := 10) hx hb hts hinX8 tyX8 tyX8_ok nmX8 hown hK hP hD hS 0 rfl rfl 1 (by decide) hw_4 (fun _ h9 => h9) rfl hin rfl (by decide +kernel) rfl rfl (Nat.le_of_ble_eq_true rfl) dX8_init_11 (fun H locs hP hD hS => ?_)
  have hP : va_P (dC, dI) vwCl [(h0, .inr (8, [.ref p1, .null, .null, .null, .null, .null, .null, .int 0, .int 0, .int 0]))] H := hP
  have hD : va_D A [(h0, .inr (8, [.ref p1, .null, .null, .null, .null, .null, .null, .int 0, .int 0, .int 0]))] := hD
  refine lv_aload_n hx hb dX8_init_14 rfl (lv_at hl 0 rfl) ?_
  refine lv_sipush (v := 640) hx hb dX8_init_15 (by decide) ?_
  refine va_newa (atype := .int) (ty := .int) (N' := 640) (a0 := (640, .inl (fun _ => 0))) hx hb hw_5 rfl hK hP hD hS hA (fun _ => rfl) (by decide) rfl (Nat.le_of_ble_eq_true rfl) (Nat.le_of_ble_eq_true rfl) (Nat.le_of_ble_eq_true rfl) dX8_init_18 (fun q18 cN H hK2 hP hD hS => ?_)
  obtain rfl : cA = cN := va_same hK2 0 1 rfl rfl
  clear hK2
  have hP : va_P (dC, dI) vwCl [(h0, .inr (8, [.ref p1, .null, .null, .null, .null, .null, .null, .int 0, .int 0, .int 0])), ar q18 cA 640 (fun _ => 0)] H := hP
  have hD : va_D A [(h0, .inr (8, [.ref p1, .null, .null, .null, .null, .null, .null, .int 0, .int 0, .int 0])), ar q18 cA 640 (fun _ => 0)] := hD
  refine W.widen (k := 1) (n := 640) (Nat.le_of_ble_eq_true rfl) (Nat.le_of_ble_eq_true rfl) ?_
  refine va_putF (D := (dC, dI)) (ci := 8) (v := .ref q18) (ty := .array .int) (C := RX8) (T := TX8) (N := 10) hx hb hts hinX8 tyX8 tyX8_ok nmX8 hown hK hP hD hS 0 rfl rfl 2 (by decide) hw_6 (fun _ h9 => h9) rfl hin rfl (by decide +kernel) rfl rfl (Nat.le_of_ble_eq_true rfl) dX8_init_20 (fun H locs hP hD hS => ?_)
  have hP : va_P (dC, dI) vwCl [(h0, .inr (8, [.ref p1, .null, .ref q18, .null, .null, .null, .null, .int 0, .int 0, .int 0])), ar q18 cA 640 (fun _ => 0)] H := hP
  have hD : va_D A [(h0, .inr (8, [.ref p1, .null, .ref q18, .null, .null, .null, .null, .int 0, .int 0, .int 0])), ar q18 cA 640 (fun _ => 0)] := hD
  refine lv_aload_n hx hb dX8_init_23 rfl (lv_at hl 0 rfl) ?_
  refine lv_bipush (v := 20) hx hb dX8_init_24 (by decide) ?_
  refine va_newa (atype := .int) (ty := .int) (N' := 20) (a0 := (20, .inl (fun _ => 0))) hx hb hw_5 rfl hK hP hD hS hA (fun _ => rfl) (by decide) rfl (Nat.le_of_ble_eq_true rfl) (Nat.le_of_ble_eq_true rfl) (Nat.le_of_ble_eq_true rfl) dX8_init_26 (fun q26 cN H hK2 hP hD hS => ?_)
  obtain rfl : cA = cN := va_same hK2 0 1 rfl rfl
  clear hK2
  have hP : va_P (dC, dI) vwCl [(h0, .inr (8, [.ref p1, .null, .ref q18, .null, .null, .null, .null, .int 0, .int 0, .int 0])), ar q18 cA 640 (fun _ => 0), ar q26 cA 20 (fun _ => 0)] H := hP
  have hD : va_D A [(h0, .inr (8, [.ref p1, .null, .ref q18, .null, .null, .null, .null, .int 0, .int 0, .int 0])), ar q18 cA 640 (fun _ => 0), ar q26 cA 20 (fun _ => 0)] := hD
  refine W.widen (k := 2) (n := 660) (Nat.le_of_ble_eq_true rfl) (Nat.le_of_ble_eq_true rfl) ?_
  refine va_putF (D := (dC, dI)) (ci := 8) (v := .ref q26) (ty := .array .int) (C := RX8) (T := TX8) (N := 10) hx hb hts hinX8 tyX8 tyX8_ok nmX8 hown hK hP hD hS 0 rfl rfl 3 (by decide) hw_7 (fun _ h9 => h9) rfl hin rfl (by decide +kernel) rfl rfl (Nat.le_of_ble_eq_true rfl) dX8_init_28 (fun H locs hP hD hS => ?_)
  have hP : va_P (dC, dI) vwCl [(h0, .inr (8, [.ref p1, .null, .ref q18, .ref q26, .null, .null, .null, .int 0, .int 0, .int 0])), ar q18 cA 640 (fun _ => 0), ar q26 cA 20 (fun _ => 0)] H := hP
  have hD : va_D A [(h0, .inr (8, [.ref p1, .null, .ref q18, .ref q26, .null, .null, .null, .int 0, .int 0, .int 0])), ar q18 cA 640 (fun _ => 0), ar q26 cA 20 (fun _ => 0)] := hD
  refine lv_aload_n hx hb dX8_init_31 rfl (lv_at hl 0 rfl) ?_
  refine lv_bipush (v := 20) hx hb dX8_init_32 (by decide) ?_
  refine va_newa (atype := .int) (ty := .int) (N' := 20) (a0 := (20, .inl (fun _ => 0))) hx hb hw_5 rfl hK hP hD hS hA (fun _ => rfl) (by decide) rfl (Nat.le_of_ble_eq_true rfl) (Nat.le_of_ble_eq_true rfl) (Nat.le_of_ble_eq_true rfl) dX8_init_34 (fun q34 cN H hK2 hP hD hS => ?_)
  obtain rfl : cA = cN := va_same hK2 0 1 rfl rfl
  clear hK2
  have hP : va_P (dC, dI) vwCl [(h0, .inr (8, [.ref p1, .null, .ref q18, .ref q26, .null, .null, .null, .int 0, .int 0, .int 0])), ar q18 cA 640 (fun _ => 0), ar q26 cA 20 (fun _ => 0), ar q34 cA 20 (fun _ => 0)] H := hP
  have hD : va_D A [(h0, .inr (8, [.ref p1, .null, .ref q18, .ref q26, .null, .null, .null, .int 0, .int 0, .int 0])), ar q18 cA 640 (fun _ => 0), ar q26 cA 20 (fun _ => 0), ar q34 cA 20 (fun _ => 0)] := hD
  refine W.widen (k := 3) (n := 680) (Nat.le_of_ble_eq_true rfl) (Nat.le_of_ble_eq_true rfl) ?_
  refine va_putF (D := (dC, dI)) (ci := 8) (v := .ref q34) (ty := .array .int) (C := RX8) (T := TX8) (N := 10) hx hb hts hinX8 tyX8 tyX8_ok nmX8 hown hK hP hD hS 0 rfl rfl 4 (by decide) hw_8 (fun _ h9 => h9) rfl hin rfl (by decide +kernel) rfl rfl (Nat.le_of_ble_eq_true rfl) dX8_init_36 (fun H locs hP hD hS => ?_)
  have hP : va_P (dC, dI) vwCl [(h0, .inr (8, [.ref p1, .null, .ref q18, .ref q26, .ref q34, .null, .null, .int 0, .int 0, .int 0])), ar q18 cA 640 (fun _ => 0), ar q26 cA 20 (fun _ => 0), ar q34 cA 20 (fun _ => 0)] H := hP
  have hD : va_D A [(h0, .inr (8, [.ref p1, .null, .ref q18, .ref q26, .ref q34, .null, .null, .int 0, .int 0, .int 0])), ar q18 cA 640 (fun _ => 0), ar q26 cA 20 (fun _ => 0), ar q34 cA 20 (fun _ => 0)] := hD
  refine lv_aload_n hx hb dX8_init_39 rfl (lv_at hl 0 rfl) ?_
  refine lv_bipush (v := 20) hx hb dX8_init_40 (by decide) ?_
  refine va_newa (atype := .int) (ty := .int) (N' := 20) (a0 := (20, .inl (fun _ => 0))) hx hb hw_5 rfl hK hP hD hS hA (fun _ => rfl) (by decide) rfl (Nat.le_of_ble_eq_true rfl) (Nat.le_of_ble_eq_true rfl) (Nat.le_of_ble_eq_true rfl) dX8_init_42 (fun q42 cN H hK2 hP hD hS => ?_)
  obtain rfl : cA = cN := va_same hK2 0 1 rfl rfl
  clear hK2
  have hP : va_P (dC, dI) vwCl [(h0, .inr (8, [.ref p1, .null, .ref q18, .ref q26, .ref q34, .null, .null, .int 0, .int 0, .int 0])), ar q18 cA 640 (fun _ => 0), ar q26 cA 20 (fun _ => 0), ar q34 cA 20 (fun _ => 0), ar q42 cA 20 (fun _ => 0)] H := hP
  have hD : va_D A [(h0, .inr (8, [.ref p1, .null, .ref q18, .ref q26, .ref q34, .null, .null, .int 0, .int 0, .int 0])), ar q18 cA 640 (fun _ => 0), ar q26 cA 20 (fun _ => 0), ar q34 cA 20 (fun _ => 0), ar q42 cA 20 (fun _ => 0)] := hD
  refine W.widen (k := 4) (n := 700) (Nat.le_of_ble_eq_true rfl) (Nat.le_of_ble_eq_true rfl) ?_
  refine va_putF (D := (dC, dI)) (ci := 8) (v := .ref q42) (ty := .array .int) (C := RX8) (T := TX8) (N := 10) hx hb hts hinX8 tyX8 tyX8_ok nmX8 hown hK hP hD hS 0 rfl rfl 5 (by decide) hw_9 (fun _ h9 => h9) rfl hin rfl (by decide +kernel) rfl rfl (Nat.le_of_ble_eq_true rfl) dX8_init_44 (fun H locs hP hD hS => ?_)
  have hP : va_P (dC, dI) vwCl [(h0, .inr (8, [.ref p1, .null, .ref q18, .ref q26, .ref q34, .ref q42, .null, .int 0, .int 0, .int 0])), ar q18 cA 640 (fun _ => 0), ar q26 cA 20 (fun _ => 0), ar q34 cA 20 (fun _ => 0), ar q42 cA 20 (fun _ => 0)] H := hP
  have hD : va_D A [(h0, .inr (8, [.ref p1, .null, .ref q18, .ref q26, .ref q34, .ref q42, .null, .int 0, .int 0, .int 0])), ar q18 cA 640 (fun _ => 0), ar q26 cA 20 (fun _ => 0), ar q34 cA 20 (fun _ => 0), ar q42 cA 20 (fun _ => 0)] := hD
  refine lv_aload_n hx hb dX8_init_47 rfl (lv_at hl 0 rfl) ?_
  refine lv_bipush (v := 20) hx hb dX8_init_48 (by decide) ?_
  refine va_newa (atype := .int) (ty := .int) (N' := 20) (a0 := (20, .inl (fun _ => 0))) hx hb hw_5 rfl hK hP hD hS hA (fun _ => rfl) (by decide) rfl (Nat.le_of_ble_eq_true rfl) (Nat.le_of_ble_eq_true rfl) (Nat.le_of_ble_eq_true rfl) dX8_init_50 (fun q50 cN H hK2 hP hD hS => ?_)
  obtain rfl : cA = cN := va_same hK2 0 1 rfl rfl
  clear hK2
  have hP : va_P (dC, dI) vwCl [(h0, .inr (8, [.ref p1, .null, .ref q18, .ref q26, .ref q34, .ref q42, .null, .int 0, .int 0, .int 0])), ar q18 cA 640 (fun _ => 0), ar q26 cA 20 (fun _ => 0), ar q34 cA 20 (fun _ => 0), ar q42 cA 20 (fun _ => 0), ar q50 cA 20 (fun _ => 0)] H := hP
  have hD : va_D A [(h0, .inr (8, [.ref p1, .null, .ref q18, .ref q26, .ref q34, .ref q42, .null, .int 0, .int 0, .int 0])), ar q18 cA 640 (fun _ => 0), ar q26 cA 20 (fun _ => 0), ar q34 cA 20 (fun _ => 0), ar q42 cA 20 (fun _ => 0), ar q50 cA 20 (fun _ => 0)] := hD
  refine W.widen (k := 5) (n := 720) (Nat.le_of_ble_eq_true rfl) (Nat.le_of_ble_eq_true rfl) ?_
  refine va_putF (D := (dC, dI)) (ci := 8) (v := .ref q50) (ty := .array .int) (C := RX8) (T := TX8) (N := 10) hx hb hts hinX8 tyX8 tyX8_ok nmX8 hown hK hP hD hS 0 rfl rfl 6 (by decide) hw_10 (fun _ h9 => h9) rfl hin rfl (by decide +kernel) rfl rfl (Nat.le_of_ble_eq_true rfl) dX8_init_52 (fun H locs hP hD hS => ?_)
  have hP : va_P (dC, dI) vwCl [(h0, .inr (8, [.ref p1, .null, .ref q18, .ref q26, .ref q34, .ref q42, .ref q50, .int 0, .int 0, .int 0])), ar q18 cA 640 (fun _ => 0), ar q26 cA 20 (fun _ => 0), ar q34 cA 20 (fun _ => 0), ar q42 cA 20 (fun _ => 0), ar q50 cA 20 (fun _ => 0)] H := hP
  have hD : va_D A [(h0, .inr (8, [.ref p1, .null, .ref q18, .ref q26, .ref q34, .ref q42, .ref q50, .int 0, .int 0, .int 0])), ar q18 cA 640 (fun _ => 0), ar q26 cA 20 (fun _ => 0), ar q34 cA 20 (fun _ => 0), ar q42 cA 20 (fun _ => 0), ar q50 cA 20 (fun _ => 0)] := hD
  subst hQ
  exact W.vret hx hb hr (fun t ht hW => ⟨⟨adl [q18, q26, q34, q42, q50], rfl, trivial, by rw [ht]; exact hP, va_K.moved hW.alike hK, hAe ▸ hD⟩, hS.F ht⟩) hS.2.2 dX8_init_55

set_option maxHeartbeats 8000000 in
set_option maxRecDepth 100000 in
theorem kB_init (l : Launch) (dC : Nat → ClassId) (dI : Nat → Nat → Nat) (cA : ClassId) (h0 : Nat) (p1 : Nat) (p2 : Nat) (sz : Nat) : Met l yX0_init wsX0_init ({ frames := 1, cells := 0, slots := 0, locals := 12 }) (va_Pc [.ref h0, .ref p1, .ref p2] (fun U => U.heap.size = sz ∧ va_P (dC, dI) vwCl [(h0, .inr (0, [.null, .null, .int 0, .int 0, .int 0, .int 0]))] U.heap ∧ va_K (dC, dI) vwCl [(cA, .int)] U ∧ va_D (fun _ => True) [(h0, .inr (0, [.null, .null, .int 0, .int 0, .int 0, .int 0]))])) (va_Qv (fun (_ : Nat → Nat) => True) (fun (b : Nat → Nat) t => va_P (dC, dI) vwCl [(h0, .inr (0, [.ref p1, .ref p2, .int 0, .int 0, .int 0, .int 0]))] t.heap ∧ va_K (dC, dI) vwCl [(cA, .int)] t ∧ va_D (va_A [(h0, .inr (0, [.null, .null, .int 0, .int 0, .int 0, .int 0]))] sz) [(h0, .inr (0, [.ref p1, .ref p2, .int 0, .int 0, .int 0, .int 0]))]) (va_A [(h0, .inr (0, [.null, .null, .int 0, .int 0, .int 0, .int 0]))] sz)) 0 0 (va_A [(h0, .inr (0, [.null, .null, .int 0, .int 0, .int 0, .int 0]))] sz) := by
  refine Met.ofW (cc := cX0_init) (maxL := 3) (ret := none) (by decide) rfl ?_
  intro p e s m args below meth c s₁ B hml hv
  obtain ⟨rfl, hsz, hP, hK, hD0⟩ := hv
  have hx := B.exec
  have hb := B.bytes
  have hr := B.returns
  have hts := atoms_spec (ws := wsX0_init) B.pre
  have hown : s.vm.findClass RX0 = some m.cls := findClass_of_methodNamed B.named
  have hin : meth.name = "<init>" := (name_of_methodNamed B.named B.method).1
  subst hsz
  have hD := hD0.self (sz := s.heap.size)
  generalize hAe : va_A [(h0, .inr (0, [.null, .null, .int 0, .int 0, .int 0, .int 0]))] s.heap.size = A at hD ⊢
  have hA : ∀ q : Nat, s.heap.size ≤ q → A q := fun q h => by rw [← hAe]; exact Or.inr h
  have hS : va_S A s.heap s.heap [] := va_S.rf
  have hl := lv_entry ([.ref h0, .ref p1, .ref p2]) (n := 3) (Nat.le_of_ble_eq_true rfl)
  rw [lg_entry_eq]
  generalize (lg_sl ([.ref h0, .ref p1, .ref p2]) ++ List.replicate (3 - (lg_sl ([.ref h0, .ref p1, .ref p2])).length) Slot.unset).toArray = ls at hl ⊢
  have hl : lv_has ls 3 [(0, .ref h0), (1, .ref p1), (2, .ref p2)] := hl
  refine wk_Q (fun QQ hQ => ?_)
  have hw_0 := hts (.methodLink RX0 3 objectInit) (List.mem_cons_of_mem _ (in_r4 _ (List.mem_of_getElem? (i := 12) rfl)))
  have hw_1 := hts (.instanceMethod objectInit) (List.mem_cons_of_mem _ (in_r1 _ (List.mem_of_getElem? (i := 10) rfl)))
  have hw_2 := hts (.code objectInit ⟨#[0xb1]⟩ 1 none) (List.mem_cons_of_mem _ (in_r1 _ (List.mem_of_getElem? (i := 11) rfl)))
  have hinX0 : ∀ w ∈ wsX00, w ∈ wsX0_init := fun w h => List.mem_cons_of_mem _ (inlX0 w h)
  have hw_3 := hts (.fieldLink RX0 9 "HandCensus$Beginning" "row" "LHandCensus$Row;") (List.mem_cons_of_mem _ (in_r4 _ (List.mem_of_getElem? (i := 13) rfl)))
  have hw_4 := hts (.fieldLink RX0 15 "HandCensus$Beginning" "trial" "LHandCensus$Squeeze;") (List.mem_cons_of_mem _ (in_r4 _ (List.mem_of_getElem? (i := 14) rfl)))
  have hw_5 := hts (.fieldLink RX0 19 "HandCensus$Beginning" "known" "Z") (List.mem_cons_of_mem _ (in_r4 _ (List.mem_of_getElem? (i := 15) rfl)))
  refine lv_aload_n hx hb dX0_init_0 rfl (lv_at hl 0 rfl) ?_
  refine W.objInit hx hb hown hw_0 hw_1 hw_2 rfl (by rw [hml]; exact hl.1) rfl dX0_init_1 (Nat.le_of_ble_eq_true rfl) (Nat.le_of_ble_eq_true rfl) ?_
  refine W.eq (g2 := F0 m 4 ls []) rfl ?_
  refine lv_aload_n hx hb dX0_init_4 rfl (lv_at hl 0 rfl) ?_
  refine lv_aload_n hx hb dX0_init_5 rfl (lv_at hl 1 rfl) ?_
  refine va_putF (D := (dC, dI)) (ci := 0) (v := .ref p1) (ty := .object "HandCensus$Row") (C := RX0) (T := TX0) (N := 6) hx hb hts hinX0 tyX0 tyX0_ok nmX0 hown hK hP hD hS 0 rfl rfl 0 (by decide) hw_3 (fun _ h9 => h9) rfl hin rfl (by decide +kernel) rfl rfl (Nat.le_of_ble_eq_true rfl) dX0_init_6 (fun H locs hP hD hS => ?_)
  have hP : va_P (dC, dI) vwCl [(h0, .inr (0, [.ref p1, .null, .int 0, .int 0, .int 0, .int 0]))] H := hP
  have hD : va_D A [(h0, .inr (0, [.ref p1, .null, .int 0, .int 0, .int 0, .int 0]))] := hD
  refine lv_aload_n hx hb dX0_init_9 rfl (lv_at hl 0 rfl) ?_
  refine lv_aload_n hx hb dX0_init_10 rfl (lv_at hl 2 rfl) ?_
  refine va_putF (D := (dC, dI)) (ci := 0) (v := .ref p2) (ty := .object "HandCensus$Squeeze") (C := RX0) (T := TX0) (N := 6) hx hb hts hinX0 tyX0 tyX0_ok nmX0 hown hK hP hD hS 0 rfl rfl 1 (by decide) hw_4 (fun _ h9 => h9) rfl hin rfl (by decide +kernel) rfl rfl (Nat.le_of_ble_eq_true rfl) dX0_init_11 (fun H locs hP hD hS => ?_)
  have hP : va_P (dC, dI) vwCl [(h0, .inr (0, [.ref p1, .ref p2, .int 0, .int 0, .int 0, .int 0]))] H := hP
  have hD : va_D A [(h0, .inr (0, [.ref p1, .ref p2, .int 0, .int 0, .int 0, .int 0]))] := hD
  refine lv_aload_n hx hb dX0_init_14 rfl (lv_at hl 0 rfl) ?_
  refine lv_iconst (v := 0) hx hb dX0_init_15 (by decide) ?_
  refine va_put (D := (dC, dI)) (ci := 0) (v := .int 0) (ty := .boolean) (C := RX0) (T := TX0) (N := 6) hx hb hts hinX0 tyX0 tyX0_ok nmX0 hown hK hP hD hS 0 rfl rfl 5 (by decide) hw_5 (fun _ h9 => h9) rfl (by decide +kernel) rfl rfl (Nat.le_of_ble_eq_true rfl) dX0_init_16 (fun H locs hP hD hS => ?_)
  have hP : va_P (dC, dI) vwCl [(h0, .inr (0, [.ref p1, .ref p2, .int 0, .int 0, .int 0, .int 0]))] H := hP
  have hD : va_D A [(h0, .inr (0, [.ref p1, .ref p2, .int 0, .int 0, .int 0, .int 0]))] := hD
  subst hQ
  exact W.vret hx hb hr (fun t ht hW => ⟨⟨adl [], rfl, trivial, by rw [ht]; exact hP, va_K.moved hW.alike hK, hAe ▸ hD⟩, hS.F ht⟩) hS.2.2 dX0_init_19

set_option maxHeartbeats 8000000 in
set_option maxRecDepth 100000 in
theorem kZ_init (l : Launch) (dC : Nat → ClassId) (dI : Nat → Nat → Nat) (cA : ClassId) (h0 : Nat) (p1 : Nat) (p2 : Nat) (sz : Nat) : Met l yX7_init wsX7_init ({ frames := 1, cells := 1, slots := 400, locals := 12 }) (va_Pc [.ref h0, .ref p1, .ref p2] (fun U => U.heap.size = sz ∧ va_P (dC, dI) vwCl [(h0, .inr (7, [.null, .null, .null, .int 0]))] U.heap ∧ va_K (dC, dI) vwCl [(cA, .int)] U ∧ va_D (fun _ => True) [(h0, .inr (7, [.null, .null, .null, .int 0]))])) (va_Qv (fun (_ : Nat → Nat) => True) (fun (b : Nat → Nat) t => va_P (dC, dI) vwCl [(h0, .inr (7, [.ref p1, .ref p2, .ref (b 0), .int 0])), ar (b 0) cA 400 (fun _ => 0)] t.heap ∧ va_K (dC, dI) vwCl [(cA, .int)] t ∧ va_D (va_A [(h0, .inr (7, [.null, .null, .null, .int 0]))] sz) [(h0, .inr (7, [.ref p1, .ref p2, .ref (b 0), .int 0])), ar (b 0) cA 400 (fun _ => 0)]) (va_A [(h0, .inr (7, [.null, .null, .null, .int 0]))] sz)) 1 400 (va_A [(h0, .inr (7, [.null, .null, .null, .int 0]))] sz) := by
  refine Met.ofW (cc := cX7_init) (maxL := 3) (ret := none) (by decide) rfl ?_
  intro p e s m args below meth c s₁ B hml hv
  obtain ⟨rfl, hsz, hP, hK, hD0⟩ := hv
  have hx := B.exec
  have hb := B.bytes
  have hr := B.returns
  have hts := atoms_spec (ws := wsX7_init) B.pre
  have hown : s.vm.findClass RX7 = some m.cls := findClass_of_methodNamed B.named
  have hin : meth.name = "<init>" := (name_of_methodNamed B.named B.method).1
  subst hsz
  have hD := hD0.self (sz := s.heap.size)
  generalize hAe : va_A [(h0, .inr (7, [.null, .null, .null, .int 0]))] s.heap.size = A at hD ⊢
  have hA : ∀ q : Nat, s.heap.size ≤ q → A q := fun q h => by rw [← hAe]; exact Or.inr h
  have hS : va_S A s.heap s.heap [] := va_S.rf
  have hl := lv_entry ([.ref h0, .ref p1, .ref p2]) (n := 3) (Nat.le_of_ble_eq_true rfl)
  rw [lg_entry_eq]
  generalize (lg_sl ([.ref h0, .ref p1, .ref p2]) ++ List.replicate (3 - (lg_sl ([.ref h0, .ref p1, .ref p2])).length) Slot.unset).toArray = ls at hl ⊢
  have hl : lv_has ls 3 [(0, .ref h0), (1, .ref p1), (2, .ref p2)] := hl
  refine wk_Q (fun QQ hQ => ?_)
  have hw_0 := hts (.methodLink RX7 3 objectInit) (List.mem_cons_of_mem _ (in_r4 _ (List.mem_of_getElem? (i := 19) rfl)))
  have hw_1 := hts (.instanceMethod objectInit) (List.mem_cons_of_mem _ (in_r1 _ (List.mem_of_getElem? (i := 10) rfl)))
  have hw_2 := hts (.code objectInit ⟨#[0xb1]⟩ 1 none) (List.mem_cons_of_mem _ (in_r1 _ (List.mem_of_getElem? (i := 11) rfl)))
  have hinX7 : ∀ w ∈ wsX70, w ∈ wsX7_init := fun w h => List.mem_cons_of_mem _ (inlX7 w h)
  have hw_3 := hts (.fieldLink RX7 9 "HandCensus$Sleepers" "row" "LHandCensus$Row;") (List.mem_cons_of_mem _ (in_r4 _ (List.mem_of_getElem? (i := 20) rfl)))
  have hw_4 := hts (.fieldLink RX7 15 "HandCensus$Sleepers" "trial" "LHandCensus$Squeeze;") (List.mem_cons_of_mem _ (in_r4 _ (List.mem_of_getElem? (i := 21) rfl)))
  have hw_5 := hts (.arrayClass .int) (List.mem_cons_of_mem _ (in_r3 _ (List.mem_of_getElem? (i := 7) rfl)))
  have hw_6 := hts (.fieldLink RX7 19 "HandCensus$Sleepers" "times" "[I") (List.mem_cons_of_mem _ (in_r4 _ (List.mem_of_getElem? (i := 22) rfl)))
  have hw_7 := hts (.fieldLink RX7 23 "HandCensus$Sleepers" "known" "Z") (List.mem_cons_of_mem _ (in_r4 _ (List.mem_of_getElem? (i := 23) rfl)))
  refine lv_aload_n hx hb dX7_init_0 rfl (lv_at hl 0 rfl) ?_
  refine W.objInit hx hb hown hw_0 hw_1 hw_2 rfl (by rw [hml]; exact hl.1) rfl dX7_init_1 (Nat.le_of_ble_eq_true rfl) (Nat.le_of_ble_eq_true rfl) ?_
  refine W.eq (g2 := F0 m 4 ls []) rfl ?_
  refine lv_aload_n hx hb dX7_init_4 rfl (lv_at hl 0 rfl) ?_
  refine lv_aload_n hx hb dX7_init_5 rfl (lv_at hl 1 rfl) ?_
  refine va_putF (D := (dC, dI)) (ci := 7) (v := .ref p1) (ty := .object "HandCensus$Row") (C := RX7) (T := TX7) (N := 4) hx hb hts hinX7 tyX7 tyX7_ok nmX7 hown hK hP hD hS 0 rfl rfl 0 (by decide) hw_3 (fun _ h9 => h9) rfl hin rfl (by decide +kernel) rfl rfl (Nat.le_of_ble_eq_true rfl) dX7_init_6 (fun H locs hP hD hS => ?_)
  have hP : va_P (dC, dI) vwCl [(h0, .inr (7, [.ref p1, .null, .null, .int 0]))] H := hP
  have hD : va_D A [(h0, .inr (7, [.ref p1, .null, .null, .int 0]))] := hD
  refine lv_aload_n hx hb dX7_init_9 rfl (lv_at hl 0 rfl) ?_
  refine lv_aload_n hx hb dX7_init_10 rfl (lv_at hl 2 rfl) ?_
  refine va_putF (D := (dC, dI)) (ci := 7) (v := .ref p2) (ty := .object "HandCensus$Squeeze") (C := RX7) (T := TX7) (N := 4) hx hb hts hinX7 tyX7 tyX7_ok nmX7 hown hK hP hD hS 0 rfl rfl 1 (by decide) hw_4 (fun _ h9 => h9) rfl hin rfl (by decide +kernel) rfl rfl (Nat.le_of_ble_eq_true rfl) dX7_init_11 (fun H locs hP hD hS => ?_)
  have hP : va_P (dC, dI) vwCl [(h0, .inr (7, [.ref p1, .ref p2, .null, .int 0]))] H := hP
  have hD : va_D A [(h0, .inr (7, [.ref p1, .ref p2, .null, .int 0]))] := hD
  refine lv_aload_n hx hb dX7_init_14 rfl (lv_at hl 0 rfl) ?_
  refine lv_sipush (v := 400) hx hb dX7_init_15 (by decide) ?_
  refine va_newa (atype := .int) (ty := .int) (N' := 400) (a0 := (400, .inl (fun _ => 0))) hx hb hw_5 rfl hK hP hD hS hA (fun _ => rfl) (by decide) rfl (Nat.le_of_ble_eq_true rfl) (Nat.le_of_ble_eq_true rfl) (Nat.le_of_ble_eq_true rfl) dX7_init_18 (fun q18 cN H hK2 hP hD hS => ?_)
  obtain rfl : cA = cN := va_same hK2 0 1 rfl rfl
  clear hK2
  have hP : va_P (dC, dI) vwCl [(h0, .inr (7, [.ref p1, .ref p2, .null, .int 0])), ar q18 cA 400 (fun _ => 0)] H := hP
  have hD : va_D A [(h0, .inr (7, [.ref p1, .ref p2, .null, .int 0])), ar q18 cA 400 (fun _ => 0)] := hD
  refine W.widen (k := 1) (n := 400) (Nat.le_of_ble_eq_true rfl) (Nat.le_of_ble_eq_true rfl) ?_
  refine va_putF (D := (dC, dI)) (ci := 7) (v := .ref q18) (ty := .array .int) (C := RX7) (T := TX7) (N := 4) hx hb hts hinX7 tyX7 tyX7_ok nmX7 hown hK hP hD hS 0 rfl rfl 2 (by decide) hw_6 (fun _ h9 => h9) rfl hin rfl (by decide +kernel) rfl rfl (Nat.le_of_ble_eq_true rfl) dX7_init_20 (fun H locs hP hD hS => ?_)
  have hP : va_P (dC, dI) vwCl [(h0, .inr (7, [.ref p1, .ref p2, .ref q18, .int 0])), ar q18 cA 400 (fun _ => 0)] H := hP
  have hD : va_D A [(h0, .inr (7, [.ref p1, .ref p2, .ref q18, .int 0])), ar q18 cA 400 (fun _ => 0)] := hD
  refine lv_aload_n hx hb dX7_init_23 rfl (lv_at hl 0 rfl) ?_
  refine lv_iconst (v := 0) hx hb dX7_init_24 (by decide) ?_
  refine va_put (D := (dC, dI)) (ci := 7) (v := .int 0) (ty := .boolean) (C := RX7) (T := TX7) (N := 4) hx hb hts hinX7 tyX7 tyX7_ok nmX7 hown hK hP hD hS 0 rfl rfl 3 (by decide) hw_7 (fun _ h9 => h9) rfl (by decide +kernel) rfl rfl (Nat.le_of_ble_eq_true rfl) dX7_init_25 (fun H locs hP hD hS => ?_)
  have hP : va_P (dC, dI) vwCl [(h0, .inr (7, [.ref p1, .ref p2, .ref q18, .int 0])), ar q18 cA 400 (fun _ => 0)] H := hP
  have hD : va_D A [(h0, .inr (7, [.ref p1, .ref p2, .ref q18, .int 0])), ar q18 cA 400 (fun _ => 0)] := hD
  subst hQ
  exact W.vret hx hb hr (fun t ht hW => ⟨⟨adl [q18], rfl, trivial, by rw [ht]; exact hP, va_K.moved hW.alike hK, hAe ▸ hD⟩, hS.F ht⟩) hS.2.2 dX7_init_28
