set_option maxHeartbeats 4000000 in
set_option maxRecDepth 100000 in
theorem kC_sheet (l : Launch) (dC : Nat → ClassId) (dI : Nat → Nat → Nat) (cA : ClassId) (ad : Nat → Nat) (sz : Nat) (a1 : Int32) (a2 : Int32) (a3 : Int32) (xHC_first : Int32) (xHC_second : Int32) (xHC_when : Int32) (xHC_ran : Int32) (xShe_latest : Int32) (gLitems : Nat → Int32) (gLforms : Nat → Int32) (gLsizes : Nat → Int32) (u : Int32 × Int32 × (Nat → Int32) × (Nat → Int32) × (Nat → Int32)) (hm : fC_sheet a1 a2 a3 xShe_latest gLitems gLforms gLsizes = some u) : Met l yX9_sheet wsX9_sheet ({ frames := 2, cells := 0, slots := 0, locals := 48 }) (va_Pc [.ref (ad 0), .int a1, .int a2, .int a3] (fun U => U.heap.size = sz ∧ va_P (dC, dI) vwCl [oHC ad xHC_first xHC_second xHC_when xHC_ran, oShe ad xShe_latest, ar (ad 39) cA 240 gLitems, ar (ad 40) cA 4 gLforms, ar (ad 41) cA 4 gLsizes] U.heap ∧ va_K (dC, dI) vwCl [(cA, .int)] U ∧ va_D (fun _ => True) [oHC ad xHC_first xHC_second xHC_when xHC_ran, oShe ad xShe_latest, ar (ad 39) cA 240 gLitems, ar (ad 40) cA 4 gLforms, ar (ad 41) cA 4 gLsizes])) (va_Qi (fun (r : Int32) (_ : Unit) => r = u.1) (fun (_ : Unit) t => va_P (dC, dI) vwCl [oHC ad xHC_first xHC_second xHC_when xHC_ran, oShe ad u.2.1, ar (ad 39) cA 240 u.2.2.1, ar (ad 40) cA 4 u.2.2.2.1, ar (ad 41) cA 4 u.2.2.2.2] t.heap ∧ va_K (dC, dI) vwCl [(cA, .int)] t ∧ va_D (va_A [oHC ad xHC_first xHC_second xHC_when xHC_ran, oShe ad xShe_latest, ar (ad 39) cA 240 gLitems, ar (ad 40) cA 4 gLforms, ar (ad 41) cA 4 gLsizes] sz) [oHC ad xHC_first xHC_second xHC_when xHC_ran, oShe ad u.2.1, ar (ad 39) cA 240 u.2.2.1, ar (ad 40) cA 4 u.2.2.2.1, ar (ad 41) cA 4 u.2.2.2.2]) (va_A [oHC ad xHC_first xHC_second xHC_when xHC_ran, oShe ad xShe_latest, ar (ad 39) cA 240 gLitems, ar (ad 40) cA 4 gLforms, ar (ad 41) cA 4 gLsizes] sz)) 0 0 (va_A [oHC ad xHC_first xHC_second xHC_when xHC_ran, oShe ad xShe_latest, ar (ad 39) cA 240 gLitems, ar (ad 40) cA 4 gLforms, ar (ad 41) cA 4 gLsizes] sz) := by
  refine Met.ofW (cc := cX9_sheet) (maxL := 4) (ret := (some .int)) (by decide) rfl ?_
  intro p e s m args below meth c s₁ B hml hv
  obtain ⟨rfl, hsz, hP, hK, hD0⟩ := hv
  have hx := B.exec
  have hb := B.bytes
  have hr := B.returns
  have hts := atoms_spec (ws := wsX9_sheet) B.pre
  have hown : s.vm.findClass RX9 = some m.cls := findClass_of_methodNamed B.named
  have hlocks := B.notSynchronized
  subst hsz
  have hD := hD0.self (sz := s.heap.size)
  generalize hAe : va_A [oHC ad xHC_first xHC_second xHC_when xHC_ran, oShe ad xShe_latest, ar (ad 39) cA 240 gLitems, ar (ad 40) cA 4 gLforms, ar (ad 41) cA 4 gLsizes] s.heap.size = A at hD ⊢
  have hA : ∀ q : Nat, s.heap.size ≤ q → A q := fun q h => by rw [← hAe]; exact Or.inr h
  have hS : va_S A s.heap s.heap [] := va_S.rf
  have hl := lv_entry ([.ref (ad 0), .int a1, .int a2, .int a3]) (n := 4) (Nat.le_of_ble_eq_true rfl)
  rw [lg_entry_eq]
  generalize (lg_sl ([.ref (ad 0), .int a1, .int a2, .int a3]) ++ List.replicate (4 - (lg_sl ([.ref (ad 0), .int a1, .int a2, .int a3])).length) Slot.unset).toArray = ls at hl ⊢
  have hl : lv_has ls 4 [(0, .ref (ad 0)), (1, .int a1), (2, .int a2), (3, .int a3)] := hl
  refine wk_Q (fun QQ hQ => ?_)
  have hinX9 : ∀ w ∈ wsX90, w ∈ wsX9_sheet := fun w h => List.mem_cons_of_mem _ (inlX9 w h)
  have hl_68 := hts (.fieldLink RX9 68 "HandCensus" "shelf" "LHandCensus$Shelf;") (List.mem_cons_of_mem _ (in_r2 _ (List.mem_of_getElem? (i := 22) rfl)))
  unfold fC_sheet at hm
  refine lv_iload_n hx hb dX9_sheet_0 rfl (lv_at hl 1 rfl) ?_
  have hPc := hP.sub (ws' := []) [] rfl
  have hDc := hD.sub (ws' := []) [] (by decide) rfl
  have hFc := va_free (wc := []) hD hS hA [] rfl
  obtain ⟨u_1, hc_1, hm⟩ := bd_ok hm
  refine va_calli (va_runS (As := [.int a1]) (rest := []) ⟨hx, hb, hml, hown, hts⟩ (kL_isPlace l dC dI cA ad s.heap.size a1 u_1 hc_1) (va_cwS 1 hts gX9_sheet_X6_isPlace rfl rfl rfl (by decide +kernel) ⟨Nat.le_of_ble_eq_true rfl, Nat.le_of_ble_eq_true rfl⟩) ⟨fun a U g mk q => by obtain ⟨q0, q1, qP, qK, qD⟩ := q; exact ⟨q0, q1, qP, va_K.moved (u := U) (U := U.calling g mk a) (Vm.Alike.refl U.vm) qK, qD⟩, fun U hU hW => ⟨rfl, by rw [hU], by rw [hU]; exact hPc, va_K.moved hW.alike hK, hDc.weaken (fun _ _ _ _ => trivial)⟩⟩ rfl rfl hl.1 rfl (lv_room (Nat.le_of_ble_eq_true rfl)) dX9_sheet_1 ⟨Nat.le_of_ble_eq_true rfl, Nat.le_of_ble_eq_true rfl⟩) hS (fun q _ h => hFc q h) hFc (fun r_1 _ t H1 locs ht hvm hw hB hz1 hk1 hS => ?_)
  obtain ⟨hP1, hK1, hD1⟩ := hB
  rw [ht] at hP1
  obtain ⟨hP, hD⟩ := va_join (wr := [oHC ad xHC_first xHC_second xHC_when xHC_ran, oShe ad xShe_latest, ar (ad 39) cA 240 gLitems, ar (ad 40) cA 4 gLforms, ar (ad 41) cA 4 gLsizes]) (w1 := []) hP hD [] [0, 1, 2, 3, 4] rfl rfl (by decide) (by decide) hk1 hFc hP1 hD1
  clear hPc hDc hFc hP1 hK1 hD1 hk1 hz1 hvm ht
  generalize H1 = H at hP hS ⊢
  have hP : va_P (dC, dI) vwCl [oHC ad xHC_first xHC_second xHC_when xHC_ran, oShe ad xShe_latest, ar (ad 39) cA 240 gLitems, ar (ad 40) cA 4 gLforms, ar (ad 41) cA 4 gLsizes] H := hP
  have hD : va_D A [oHC ad xHC_first xHC_second xHC_when xHC_ran, oShe ad xShe_latest, ar (ad 39) cA 240 gLitems, ar (ad 40) cA 4 gLforms, ar (ad 41) cA 4 gLsizes] := hD
  have hw := hw.symm
  subst hw
  refine lv_if_eq (tgt := 20) hx hb dX9_sheet_4 (by decide) (fun c_2 => ?_) (fun c_2 => ?_)
  · have hm := it_pos c_2 hm
    refine lv_bipush (v := (-2)) hx hb dX9_sheet_20 (by decide) ?_
    obtain rfl := Option.some.inj hm
    subst hQ
    exact W.iret (v := (-2)) hx hb hr (fun t ht hW => ⟨⟨_, (), rfl, rfl, by rw [ht]; exact hP, va_K.moved hW.alike hK, hAe ▸ hD⟩, hS.F ht⟩) hS.2.2 dX9_sheet_22
  · have hm := it_neg c_2 hm
    refine lv_iload_n hx hb dX9_sheet_7 rfl (lv_at hl 2 rfl) ?_
    have hPc := hP.sub (ws' := []) [] rfl
    have hDc := hD.sub (ws' := []) [] (by decide) rfl
    have hFc := va_free (wc := []) hD hS hA [] rfl
    obtain ⟨u_3, hc_3, hm⟩ := bd_ok hm
    refine va_calli (va_runS (As := [.int a2]) (rest := []) ⟨hx, hb, hml, hown, hts⟩ (kL_isForm l dC dI cA ad H.size a2 u_3 hc_3) (va_cwS 1 hts gX9_sheet_X6_isForm rfl rfl rfl (by decide +kernel) ⟨Nat.le_of_ble_eq_true rfl, Nat.le_of_ble_eq_true rfl⟩) ⟨fun a U g mk q => by obtain ⟨q0, q1, qP, qK, qD⟩ := q; exact ⟨q0, q1, qP, va_K.moved (u := U) (U := U.calling g mk a) (Vm.Alike.refl U.vm) qK, qD⟩, fun U hU hW => ⟨rfl, by rw [hU], by rw [hU]; exact hPc, va_K.moved hW.alike hK, hDc.weaken (fun _ _ _ _ => trivial)⟩⟩ rfl rfl hl.1 rfl (lv_room (Nat.le_of_ble_eq_true rfl)) dX9_sheet_8 ⟨Nat.le_of_ble_eq_true rfl, Nat.le_of_ble_eq_true rfl⟩) hS (fun q _ h => hFc q h) hFc (fun r_3 _ t H1 locs ht hvm hw hB hz1 hk1 hS => ?_)
    obtain ⟨hP1, hK1, hD1⟩ := hB
    rw [ht] at hP1
    obtain ⟨hP, hD⟩ := va_join (wr := [oHC ad xHC_first xHC_second xHC_when xHC_ran, oShe ad xShe_latest, ar (ad 39) cA 240 gLitems, ar (ad 40) cA 4 gLforms, ar (ad 41) cA 4 gLsizes]) (w1 := []) hP hD [] [0, 1, 2, 3, 4] rfl rfl (by decide) (by decide) hk1 hFc hP1 hD1
    clear hPc hDc hFc hP1 hK1 hD1 hk1 hz1 hvm ht
    generalize H1 = H at hP hS ⊢
    have hP : va_P (dC, dI) vwCl [oHC ad xHC_first xHC_second xHC_when xHC_ran, oShe ad xShe_latest, ar (ad 39) cA 240 gLitems, ar (ad 40) cA 4 gLforms, ar (ad 41) cA 4 gLsizes] H := hP
    have hD : va_D A [oHC ad xHC_first xHC_second xHC_when xHC_ran, oShe ad xShe_latest, ar (ad 39) cA 240 gLitems, ar (ad 40) cA 4 gLforms, ar (ad 41) cA 4 gLsizes] := hD
    have hw := hw.symm
    subst hw
    refine lv_if_eq (tgt := 20) hx hb dX9_sheet_11 (by decide) (fun c_4 => ?_) (fun c_4 => ?_)
    · have hm := it_pos c_4 hm
      refine lv_bipush (v := (-2)) hx hb dX9_sheet_20 (by decide) ?_
      obtain rfl := Option.some.inj hm
      subst hQ
      exact W.iret (v := (-2)) hx hb hr (fun t ht hW => ⟨⟨_, (), rfl, rfl, by rw [ht]; exact hP, va_K.moved hW.alike hK, hAe ▸ hD⟩, hS.F ht⟩) hS.2.2 dX9_sheet_22
    · have hm := it_neg c_4 hm
      refine lv_iload_n hx hb dX9_sheet_14 rfl (lv_at hl 3 rfl) ?_
      refine lv_bipush (v := 60) hx hb dX9_sheet_15 (by decide) ?_
      refine lv_icmp_le (tgt := 23) hx hb dX9_sheet_17 (by decide) (fun c_5 => ?_) (fun c_5 => ?_)
      · have hm := it_pos c_5 hm
        refine lv_aload_n hx hb dX9_sheet_23 rfl (lv_at hl 0 rfl) ?_
        refine va_get (D := (dC, dI)) (ci := 9) (v := .ref (ad 38)) (C := RX9) (T := TX9) (N := 12) hx hb hts hinX9 hown hK hP 0 rfl rfl 7 (by decide) hl_68 (fun _ h9 => h9) rfl dX9_sheet_24 ?_
        refine lv_iload_n hx hb dX9_sheet_27 rfl (lv_at hl 1 rfl) ?_
        refine lv_iload_n hx hb dX9_sheet_28 rfl (lv_at hl 2 rfl) ?_
        refine lv_iload_n hx hb dX9_sheet_29 rfl (lv_at hl 3 rfl) ?_
        have hPc := hP.sub (ws' := [oShe ad xShe_latest, ar (ad 39) cA 240 gLitems, ar (ad 40) cA 4 gLforms, ar (ad 41) cA 4 gLsizes]) [1, 2, 3, 4] rfl
        have hDc := hD.sub (ws' := [oShe ad xShe_latest, ar (ad 39) cA 240 gLitems, ar (ad 40) cA 4 gLforms, ar (ad 41) cA 4 gLsizes]) [1, 2, 3, 4] (by decide) rfl
        have hFc := va_free (wc := [oShe ad xShe_latest, ar (ad 39) cA 240 gLitems, ar (ad 40) cA 4 gLforms, ar (ad 41) cA 4 gLsizes]) hD hS hA [1, 2, 3, 4] rfl
        obtain ⟨u_6, hc_6, hm⟩ := bd_ok hm
        refine va_calli (va_runV (As := [.int a1, .int a2, .int a3]) (rest := []) ⟨hx, hb, hml, hown, hts⟩ (kL_layOut l dC dI cA ad H.size a1 a2 a3 xShe_latest gLitems gLforms gLsizes u_6 hc_6) (cwV 3 hts gX9_sheet_X6_layOut rfl rfl rfl (by decide +kernel) ⟨Nat.le_of_ble_eq_true rfl, Nat.le_of_ble_eq_true rfl⟩) ⟨fun a U g mk q => by obtain ⟨q0, q1, qP, qK, qD⟩ := q; exact ⟨q0, q1, qP, va_K.moved (u := U) (U := U.calling g mk a) (Vm.Alike.refl U.vm) qK, qD⟩, va_recv hK hPc (ci := 6) (q0 := 0) rfl rfl, fun U hU hW => ⟨rfl, by rw [hU], by rw [hU]; exact hPc, va_K.moved hW.alike hK, hDc.weaken (fun _ _ _ _ => trivial)⟩⟩ rfl rfl hl.1 rfl (lv_room (Nat.le_of_ble_eq_true rfl)) dX9_sheet_30 ⟨Nat.le_of_ble_eq_true rfl, Nat.le_of_ble_eq_true rfl⟩) hS (fun q _ h => hFc q h) hFc (fun r_6 _ t H1 locs ht hvm hw hB hz1 hk1 hS => ?_)
        obtain ⟨hP1, hK1, hD1⟩ := hB
        rw [ht] at hP1
        obtain ⟨hP, hD⟩ := va_join (wr := [oHC ad xHC_first xHC_second xHC_when xHC_ran]) (w1 := [oShe ad u_6.2.1, ar (ad 39) cA 240 u_6.2.2.1, ar (ad 40) cA 4 u_6.2.2.2.1, ar (ad 41) cA 4 u_6.2.2.2.2]) hP hD [1, 2, 3, 4] [0] rfl rfl (by decide) (by decide) hk1 hFc hP1 hD1
        clear hPc hDc hFc hP1 hK1 hD1 hk1 hz1 hvm ht
        generalize H1 = H at hP hS ⊢
        have hP : va_P (dC, dI) vwCl [oHC ad xHC_first xHC_second xHC_when xHC_ran, oShe ad u_6.2.1, ar (ad 39) cA 240 u_6.2.2.1, ar (ad 40) cA 4 u_6.2.2.2.1, ar (ad 41) cA 4 u_6.2.2.2.2] H := hP
        have hD : va_D A [oHC ad xHC_first xHC_second xHC_when xHC_ran, oShe ad u_6.2.1, ar (ad 39) cA 240 u_6.2.2.1, ar (ad 40) cA 4 u_6.2.2.2.1, ar (ad 41) cA 4 u_6.2.2.2.2] := hD
        have hw := hw.symm
        subst hw
        obtain rfl := Option.some.inj hm
        subst hQ
        exact W.iret (v := u_6.1) hx hb hr (fun t ht hW => ⟨⟨_, (), rfl, rfl, by rw [ht]; exact hP, va_K.moved hW.alike hK, hAe ▸ hD⟩, hS.F ht⟩) hS.2.2 dX9_sheet_33
      · have hm := it_neg c_5 hm
        refine lv_bipush (v := (-2)) hx hb dX9_sheet_20 (by decide) ?_
        obtain rfl := Option.some.inj hm
        subst hQ
        exact W.iret (v := (-2)) hx hb hr (fun t ht hW => ⟨⟨_, (), rfl, rfl, by rw [ht]; exact hP, va_K.moved hW.alike hK, hAe ▸ hD⟩, hS.F ht⟩) hS.2.2 dX9_sheet_22

set_option maxHeartbeats 4000000 in
set_option maxRecDepth 100000 in
theorem kL_takeAway (l : Launch) (dC : Nat → ClassId) (dI : Nat → Nat → Nat) (cA : ClassId) (ad : Nat → Nat) (sz : Nat) (a1 : Int32) (xShe_latest : Int32) (gLforms : Nat → Int32) (gLsizes : Nat → Int32) (u : Int32 × Int32 × (Nat → Int32)) (hm : fL_takeAway a1 xShe_latest gLforms gLsizes = some u) : Met l yX6_takeAway wsX6_takeAway ({ frames := 1, cells := 0, slots := 0, locals := 21 }) (va_Pc [.ref (ad 38), .int a1] (fun U => U.heap.size = sz ∧ va_P (dC, dI) vwCl [oShe ad xShe_latest, ar (ad 40) cA 4 gLforms, ar (ad 41) cA 4 gLsizes] U.heap ∧ va_K (dC, dI) vwCl [(cA, .int)] U ∧ va_D (fun _ => True) [oShe ad xShe_latest, ar (ad 40) cA 4 gLforms, ar (ad 41) cA 4 gLsizes])) (va_Qi (fun (r : Int32) (_ : Unit) => r = u.1) (fun (_ : Unit) t => va_P (dC, dI) vwCl [oShe ad u.2.1, ar (ad 40) cA 4 u.2.2, ar (ad 41) cA 4 gLsizes] t.heap ∧ va_K (dC, dI) vwCl [(cA, .int)] t ∧ va_D (va_A [oShe ad xShe_latest, ar (ad 40) cA 4 gLforms, ar (ad 41) cA 4 gLsizes] sz) [oShe ad u.2.1, ar (ad 40) cA 4 u.2.2, ar (ad 41) cA 4 gLsizes]) (va_A [oShe ad xShe_latest, ar (ad 40) cA 4 gLforms, ar (ad 41) cA 4 gLsizes] sz)) 0 0 (va_A [oShe ad xShe_latest, ar (ad 40) cA 4 gLforms, ar (ad 41) cA 4 gLsizes] sz) := by
  refine Met.ofW (cc := cX6_takeAway) (maxL := 2) (ret := (some .int)) (by decide) rfl ?_
  intro p e s m args below meth c s₁ B hml hv
  obtain ⟨rfl, hsz, hP, hK, hD0⟩ := hv
  have hx := B.exec
  have hb := B.bytes
  have hr := B.returns
  have hts := atoms_spec (ws := wsX6_takeAway) B.pre
  have hown : s.vm.findClass RX6 = some m.cls := findClass_of_methodNamed B.named
  have hlocks := B.notSynchronized
  subst hsz
  have hD := hD0.self (sz := s.heap.size)
  generalize hAe : va_A [oShe ad xShe_latest, ar (ad 40) cA 4 gLforms, ar (ad 41) cA 4 gLsizes] s.heap.size = A at hD ⊢
  have hA : ∀ q : Nat, s.heap.size ≤ q → A q := fun q h => by rw [← hAe]; exact Or.inr h
  have hS : va_S A s.heap s.heap [] := va_S.rf
  have hl := lv_entry ([.ref (ad 38), .int a1]) (n := 2) (Nat.le_of_ble_eq_true rfl)
  rw [lg_entry_eq]
  generalize (lg_sl ([.ref (ad 38), .int a1]) ++ List.replicate (2 - (lg_sl ([.ref (ad 38), .int a1])).length) Slot.unset).toArray = ls at hl ⊢
  have hl : lv_has ls 2 [(0, .ref (ad 38)), (1, .int a1)] := hl
  refine wk_Q (fun QQ hQ => ?_)
  have hinX6 : ∀ w ∈ wsX60, w ∈ wsX6_takeAway := fun w h => List.mem_cons_of_mem _ (inlX6 w h)
  have hl_15 := hts (.fieldLink RX6 15 "HandCensus$Shelf" "forms" "[I") (List.mem_cons_of_mem _ (in_r6 _ (List.mem_of_getElem? (i := 8) rfl)))
  have hl_18 := hts (.fieldLink RX6 18 "HandCensus$Shelf" "sizes" "[I") (List.mem_cons_of_mem _ (in_r6 _ (List.mem_of_getElem? (i := 9) rfl)))
  unfold fL_takeAway at hm
  refine lv_aload_n hx hb dX6_takeAway_0 rfl (lv_at hl 0 rfl) ?_
  refine lv_iload_n hx hb dX6_takeAway_1 rfl (lv_at hl 1 rfl) ?_
  have hPc := hP.sub (ws' := [oShe ad xShe_latest, ar (ad 40) cA 4 gLforms]) [0, 1] rfl
  have hDc := hD.sub (ws' := [oShe ad xShe_latest, ar (ad 40) cA 4 gLforms]) [0, 1] (by decide) rfl
  have hFc := va_free (wc := [oShe ad xShe_latest, ar (ad 40) cA 4 gLforms]) hD hS hA [0, 1] rfl
  obtain ⟨u_1, hc_1, hm⟩ := bd_ok hm
  refine va_calli (va_runV (As := [.int a1]) (rest := []) ⟨hx, hb, hml, hown, hts⟩ (kL_isLost l dC dI cA ad s.heap.size a1 xShe_latest gLforms u_1 hc_1) (cwV 1 hts gX6_takeAway_X6_isLost rfl rfl rfl (by decide +kernel) ⟨Nat.le_of_ble_eq_true rfl, Nat.le_of_ble_eq_true rfl⟩) ⟨fun a U g mk q => by obtain ⟨q0, q1, qP, qK, qD⟩ := q; exact ⟨q0, q1, qP, va_K.moved (u := U) (U := U.calling g mk a) (Vm.Alike.refl U.vm) qK, qD⟩, va_recv hK hPc (ci := 6) (q0 := 0) rfl rfl, fun U hU hW => ⟨rfl, by rw [hU], by rw [hU]; exact hPc, va_K.moved hW.alike hK, hDc.weaken (fun _ _ _ _ => trivial)⟩⟩ rfl rfl hl.1 rfl (lv_room (Nat.le_of_ble_eq_true rfl)) dX6_takeAway_2 ⟨Nat.le_of_ble_eq_true rfl, Nat.le_of_ble_eq_true rfl⟩) hS (fun q _ h => hFc q h) hFc (fun r_1 _ t H1 locs ht hvm hw hB hz1 hk1 hS => ?_)
  obtain ⟨hP1, hK1, hD1⟩ := hB
  rw [ht] at hP1
  obtain ⟨hP, hD⟩ := va_join (wr := [ar (ad 41) cA 4 gLsizes]) (w1 := [oShe ad xShe_latest, ar (ad 40) cA 4 gLforms]) hP hD [0, 1] [2] rfl rfl (by decide) (by decide) hk1 hFc hP1 hD1
  clear hPc hDc hFc hP1 hK1 hD1 hk1 hz1 hvm ht
  generalize H1 = H at hP hS ⊢
  have hP : va_P (dC, dI) vwCl [oShe ad xShe_latest, ar (ad 40) cA 4 gLforms, ar (ad 41) cA 4 gLsizes] H := hP.sub [1, 2, 0] rfl
  have hD : va_D A [oShe ad xShe_latest, ar (ad 40) cA 4 gLforms, ar (ad 41) cA 4 gLsizes] := hD.sub [1, 2, 0] (by decide) rfl
  have hw := hw.symm
  subst hw
  refine lv_if_eq (tgt := 14) hx hb dX6_takeAway_5 (by decide) (fun c_2 => ?_) (fun c_2 => ?_)
  · have hm := it_pos c_2 hm
    refine lv_aload_n hx hb dX6_takeAway_14 rfl (lv_at hl 0 rfl) ?_
    refine va_get (D := (dC, dI)) (ci := 6) (v := .ref (ad 40)) (C := RX6) (T := TX6) (N := 4) hx hb hts hinX6 hown hK hP 0 rfl rfl 1 (by decide) hl_15 (fun _ h9 => h9) rfl dX6_takeAway_15 ?_
    refine lv_iload_n hx hb dX6_takeAway_18 rfl (lv_at hl 1 rfl) ?_
    refine lv_iconst (v := (-1)) hx hb dX6_takeAway_19 (by decide) ?_
    obtain ⟨i_3, hm⟩ := ck_ok hm
    refine va_iast hx hb hK hP hD hS 1 0 rfl rfl i_3 dX6_takeAway_20 (fun H locs hP hD hS => ?_)
    have hP : va_P (dC, dI) vwCl [oShe ad xShe_latest, ar (ad 40) cA 4 (upd gLforms a1.toNatClampNeg (-1)), ar (ad 41) cA 4 gLsizes] H := hP
    have hD : va_D A [oShe ad xShe_latest, ar (ad 40) cA 4 (upd gLforms a1.toNatClampNeg (-1)), ar (ad 41) cA 4 gLsizes] := hD
    refine lv_aload_n hx hb dX6_takeAway_21 rfl (lv_at hl 0 rfl) ?_
    refine va_get (D := (dC, dI)) (ci := 6) (v := .ref (ad 41)) (C := RX6) (T := TX6) (N := 4) hx hb hts hinX6 hown hK hP 0 rfl rfl 2 (by decide) hl_18 (fun _ h9 => h9) rfl dX6_takeAway_22 ?_
    refine lv_iload_n hx hb dX6_takeAway_25 rfl (lv_at hl 1 rfl) ?_
    obtain ⟨i_4, hm⟩ := ck_ok hm
    refine va_iald hx hb hK hP 2 0 rfl rfl i_4 dX6_takeAway_26 ?_
    obtain rfl := Option.some.inj hm
    subst hQ
    exact W.iret (v := (gLsizes a1.toNatClampNeg)) hx hb hr (fun t ht hW => ⟨⟨_, (), rfl, rfl, by rw [ht]; exact hP, va_K.moved hW.alike hK, hAe ▸ hD⟩, hS.F ht⟩) hS.2.2 dX6_takeAway_27
  · have hm := it_neg c_2 hm
    refine lv_aload_n hx hb dX6_takeAway_8 rfl (lv_at hl 0 rfl) ?_
    refine lv_iconst (v := 1) hx hb dX6_takeAway_9 (by decide) ?_
    have hPc := hP.sub (ws' := [oShe ad xShe_latest]) [0] rfl
    have hDc := hD.sub (ws' := [oShe ad xShe_latest]) [0] (by decide) rfl
    have hFc := va_free (wc := [oShe ad xShe_latest]) hD hS hA [0] rfl
    obtain ⟨u_5, hc_5, hm⟩ := bd_ok hm
    refine va_calli (va_runV (As := [.int 1]) (rest := []) ⟨hx, hb, hml, hown, hts⟩ (kL_finding l dC dI cA ad H.size 1 xShe_latest u_5 hc_5) (cwV 1 hts gX6_takeAway_X6_finding rfl rfl rfl (by decide +kernel) ⟨Nat.le_of_ble_eq_true rfl, Nat.le_of_ble_eq_true rfl⟩) ⟨fun a U g mk q => by obtain ⟨q0, q1, qP, qK, qD⟩ := q; exact ⟨q0, q1, qP, va_K.moved (u := U) (U := U.calling g mk a) (Vm.Alike.refl U.vm) qK, qD⟩, va_recv hK hPc (ci := 6) (q0 := 0) rfl rfl, fun U hU hW => ⟨rfl, by rw [hU], by rw [hU]; exact hPc, va_K.moved hW.alike hK, hDc.weaken (fun _ _ _ _ => trivial)⟩⟩ rfl rfl hl.1 rfl (lv_room (Nat.le_of_ble_eq_true rfl)) dX6_takeAway_10 ⟨Nat.le_of_ble_eq_true rfl, Nat.le_of_ble_eq_true rfl⟩) hS (fun q _ h => hFc q h) hFc (fun r_5 _ t H1 locs ht hvm hw hB hz1 hk1 hS => ?_)
    obtain ⟨hP1, hK1, hD1⟩ := hB
    rw [ht] at hP1
    obtain ⟨hP, hD⟩ := va_join (wr := [ar (ad 40) cA 4 gLforms, ar (ad 41) cA 4 gLsizes]) (w1 := [oShe ad u_5.2]) hP hD [0] [1, 2] rfl rfl (by decide) (by decide) hk1 hFc hP1 hD1
    clear hPc hDc hFc hP1 hK1 hD1 hk1 hz1 hvm ht
    generalize H1 = H at hP hS ⊢
    have hP : va_P (dC, dI) vwCl [oShe ad u_5.2, ar (ad 40) cA 4 gLforms, ar (ad 41) cA 4 gLsizes] H := hP.sub [2, 0, 1] rfl
    have hD : va_D A [oShe ad u_5.2, ar (ad 40) cA 4 gLforms, ar (ad 41) cA 4 gLsizes] := hD.sub [2, 0, 1] (by decide) rfl
    have hw := hw.symm
    subst hw
    obtain rfl := Option.some.inj hm
    subst hQ
    exact W.iret (v := u_5.1) hx hb hr (fun t ht hW => ⟨⟨_, (), rfl, rfl, by rw [ht]; exact hP, va_K.moved hW.alike hK, hAe ▸ hD⟩, hS.F ht⟩) hS.2.2 dX6_takeAway_13

set_option maxHeartbeats 4000000 in
set_option maxRecDepth 100000 in
theorem kC_lose (l : Launch) (dC : Nat → ClassId) (dI : Nat → Nat → Nat) (cA : ClassId) (ad : Nat → Nat) (sz : Nat) (a1 : Int32) (xHC_first : Int32) (xHC_second : Int32) (xHC_when : Int32) (xHC_ran : Int32) (xShe_latest : Int32) (gLforms : Nat → Int32) (gLsizes : Nat → Int32) (u : Int32 × Int32 × (Nat → Int32)) (hm : fC_lose a1 xShe_latest gLforms gLsizes = some u) : Met l yX9_lose wsX9_lose ({ frames := 2, cells := 0, slots := 0, locals := 42 }) (va_Pc [.ref (ad 0), .int a1] (fun U => U.heap.size = sz ∧ va_P (dC, dI) vwCl [oHC ad xHC_first xHC_second xHC_when xHC_ran, oShe ad xShe_latest, ar (ad 40) cA 4 gLforms, ar (ad 41) cA 4 gLsizes] U.heap ∧ va_K (dC, dI) vwCl [(cA, .int)] U ∧ va_D (fun _ => True) [oHC ad xHC_first xHC_second xHC_when xHC_ran, oShe ad xShe_latest, ar (ad 40) cA 4 gLforms, ar (ad 41) cA 4 gLsizes])) (va_Qi (fun (r : Int32) (_ : Unit) => r = u.1) (fun (_ : Unit) t => va_P (dC, dI) vwCl [oHC ad xHC_first xHC_second xHC_when xHC_ran, oShe ad u.2.1, ar (ad 40) cA 4 u.2.2, ar (ad 41) cA 4 gLsizes] t.heap ∧ va_K (dC, dI) vwCl [(cA, .int)] t ∧ va_D (va_A [oHC ad xHC_first xHC_second xHC_when xHC_ran, oShe ad xShe_latest, ar (ad 40) cA 4 gLforms, ar (ad 41) cA 4 gLsizes] sz) [oHC ad xHC_first xHC_second xHC_when xHC_ran, oShe ad u.2.1, ar (ad 40) cA 4 u.2.2, ar (ad 41) cA 4 gLsizes]) (va_A [oHC ad xHC_first xHC_second xHC_when xHC_ran, oShe ad xShe_latest, ar (ad 40) cA 4 gLforms, ar (ad 41) cA 4 gLsizes] sz)) 0 0 (va_A [oHC ad xHC_first xHC_second xHC_when xHC_ran, oShe ad xShe_latest, ar (ad 40) cA 4 gLforms, ar (ad 41) cA 4 gLsizes] sz) := by
  refine Met.ofW (cc := cX9_lose) (maxL := 2) (ret := (some .int)) (by decide) rfl ?_
  intro p e s m args below meth c s₁ B hml hv
  obtain ⟨rfl, hsz, hP, hK, hD0⟩ := hv
  have hx := B.exec
  have hb := B.bytes
  have hr := B.returns
  have hts := atoms_spec (ws := wsX9_lose) B.pre
  have hown : s.vm.findClass RX9 = some m.cls := findClass_of_methodNamed B.named
  have hlocks := B.notSynchronized
  subst hsz
  have hD := hD0.self (sz := s.heap.size)
  generalize hAe : va_A [oHC ad xHC_first xHC_second xHC_when xHC_ran, oShe ad xShe_latest, ar (ad 40) cA 4 gLforms, ar (ad 41) cA 4 gLsizes] s.heap.size = A at hD ⊢
  have hA : ∀ q : Nat, s.heap.size ≤ q → A q := fun q h => by rw [← hAe]; exact Or.inr h
  have hS : va_S A s.heap s.heap [] := va_S.rf
  have hl := lv_entry ([.ref (ad 0), .int a1]) (n := 2) (Nat.le_of_ble_eq_true rfl)
  rw [lg_entry_eq]
  generalize (lg_sl ([.ref (ad 0), .int a1]) ++ List.replicate (2 - (lg_sl ([.ref (ad 0), .int a1])).length) Slot.unset).toArray = ls at hl ⊢
  have hl : lv_has ls 2 [(0, .ref (ad 0)), (1, .int a1)] := hl
  refine wk_Q (fun QQ hQ => ?_)
  have hinX9 : ∀ w ∈ wsX90, w ∈ wsX9_lose := fun w h => List.mem_cons_of_mem _ (inlX9 w h)
  have hl_68 := hts (.fieldLink RX9 68 "HandCensus" "shelf" "LHandCensus$Shelf;") (List.mem_cons_of_mem _ (in_r2 _ (List.mem_of_getElem? (i := 22) rfl)))
  unfold fC_lose at hm
  refine lv_iload_n hx hb dX9_lose_0 rfl (lv_at hl 1 rfl) ?_
  have hPc := hP.sub (ws' := []) [] rfl
  have hDc := hD.sub (ws' := []) [] (by decide) rfl
  have hFc := va_free (wc := []) hD hS hA [] rfl
  obtain ⟨u_1, hc_1, hm⟩ := bd_ok hm
  refine va_calli (va_runS (As := [.int a1]) (rest := []) ⟨hx, hb, hml, hown, hts⟩ (kL_isPlace l dC dI cA ad s.heap.size a1 u_1 hc_1) (va_cwS 1 hts gX9_lose_X6_isPlace rfl rfl rfl (by decide +kernel) ⟨Nat.le_of_ble_eq_true rfl, Nat.le_of_ble_eq_true rfl⟩) ⟨fun a U g mk q => by obtain ⟨q0, q1, qP, qK, qD⟩ := q; exact ⟨q0, q1, qP, va_K.moved (u := U) (U := U.calling g mk a) (Vm.Alike.refl U.vm) qK, qD⟩, fun U hU hW => ⟨rfl, by rw [hU], by rw [hU]; exact hPc, va_K.moved hW.alike hK, hDc.weaken (fun _ _ _ _ => trivial)⟩⟩ rfl rfl hl.1 rfl (lv_room (Nat.le_of_ble_eq_true rfl)) dX9_lose_1 ⟨Nat.le_of_ble_eq_true rfl, Nat.le_of_ble_eq_true rfl⟩) hS (fun q _ h => hFc q h) hFc (fun r_1 _ t H1 locs ht hvm hw hB hz1 hk1 hS => ?_)
  obtain ⟨hP1, hK1, hD1⟩ := hB
  rw [ht] at hP1
  obtain ⟨hP, hD⟩ := va_join (wr := [oHC ad xHC_first xHC_second xHC_when xHC_ran, oShe ad xShe_latest, ar (ad 40) cA 4 gLforms, ar (ad 41) cA 4 gLsizes]) (w1 := []) hP hD [] [0, 1, 2, 3] rfl rfl (by decide) (by decide) hk1 hFc hP1 hD1
  clear hPc hDc hFc hP1 hK1 hD1 hk1 hz1 hvm ht
  generalize H1 = H at hP hS ⊢
  have hP : va_P (dC, dI) vwCl [oHC ad xHC_first xHC_second xHC_when xHC_ran, oShe ad xShe_latest, ar (ad 40) cA 4 gLforms, ar (ad 41) cA 4 gLsizes] H := hP
  have hD : va_D A [oHC ad xHC_first xHC_second xHC_when xHC_ran, oShe ad xShe_latest, ar (ad 40) cA 4 gLforms, ar (ad 41) cA 4 gLsizes] := hD
  have hw := hw.symm
  subst hw
  refine lv_if_eq (tgt := 18) hx hb dX9_lose_4 (by decide) (fun c_2 => ?_) (fun c_2 => ?_)
  · have hm := it_pos c_2 hm
    refine lv_bipush (v := (-2)) hx hb dX9_lose_18 (by decide) ?_
    obtain rfl := Option.some.inj hm
    subst hQ
    exact W.iret (v := (-2)) hx hb hr (fun t ht hW => ⟨⟨_, (), rfl, rfl, by rw [ht]; exact hP, va_K.moved hW.alike hK, hAe ▸ hD⟩, hS.F ht⟩) hS.2.2 dX9_lose_20
  · have hm := it_neg c_2 hm
    refine lv_aload_n hx hb dX9_lose_7 rfl (lv_at hl 0 rfl) ?_
    refine va_get (D := (dC, dI)) (ci := 9) (v := .ref (ad 38)) (C := RX9) (T := TX9) (N := 12) hx hb hts hinX9 hown hK hP 0 rfl rfl 7 (by decide) hl_68 (fun _ h9 => h9) rfl dX9_lose_8 ?_
    refine lv_iload_n hx hb dX9_lose_11 rfl (lv_at hl 1 rfl) ?_
    have hPc := hP.sub (ws' := [oShe ad xShe_latest, ar (ad 40) cA 4 gLforms, ar (ad 41) cA 4 gLsizes]) [1, 2, 3] rfl
    have hDc := hD.sub (ws' := [oShe ad xShe_latest, ar (ad 40) cA 4 gLforms, ar (ad 41) cA 4 gLsizes]) [1, 2, 3] (by decide) rfl
    have hFc := va_free (wc := [oShe ad xShe_latest, ar (ad 40) cA 4 gLforms, ar (ad 41) cA 4 gLsizes]) hD hS hA [1, 2, 3] rfl
    obtain ⟨u_3, hc_3, hm⟩ := bd_ok hm
    refine va_calli (va_runV (As := [.int a1]) (rest := []) ⟨hx, hb, hml, hown, hts⟩ (kL_takeAway l dC dI cA ad H.size a1 xShe_latest gLforms gLsizes u_3 hc_3) (cwV 1 hts gX9_lose_X6_takeAway rfl rfl rfl (by decide +kernel) ⟨Nat.le_of_ble_eq_true rfl, Nat.le_of_ble_eq_true rfl⟩) ⟨fun a U g mk q => by obtain ⟨q0, q1, qP, qK, qD⟩ := q; exact ⟨q0, q1, qP, va_K.moved (u := U) (U := U.calling g mk a) (Vm.Alike.refl U.vm) qK, qD⟩, va_recv hK hPc (ci := 6) (q0 := 0) rfl rfl, fun U hU hW => ⟨rfl, by rw [hU], by rw [hU]; exact hPc, va_K.moved hW.alike hK, hDc.weaken (fun _ _ _ _ => trivial)⟩⟩ rfl rfl hl.1 rfl (lv_room (Nat.le_of_ble_eq_true rfl)) dX9_lose_12 ⟨Nat.le_of_ble_eq_true rfl, Nat.le_of_ble_eq_true rfl⟩) hS (fun q _ h => hFc q h) hFc (fun r_3 _ t H1 locs ht hvm hw hB hz1 hk1 hS => ?_)
    obtain ⟨hP1, hK1, hD1⟩ := hB
    rw [ht] at hP1
    obtain ⟨hP, hD⟩ := va_join (wr := [oHC ad xHC_first xHC_second xHC_when xHC_ran]) (w1 := [oShe ad u_3.2.1, ar (ad 40) cA 4 u_3.2.2, ar (ad 41) cA 4 gLsizes]) hP hD [1, 2, 3] [0] rfl rfl (by decide) (by decide) hk1 hFc hP1 hD1
    clear hPc hDc hFc hP1 hK1 hD1 hk1 hz1 hvm ht
    generalize H1 = H at hP hS ⊢
    have hP : va_P (dC, dI) vwCl [oHC ad xHC_first xHC_second xHC_when xHC_ran, oShe ad u_3.2.1, ar (ad 40) cA 4 u_3.2.2, ar (ad 41) cA 4 gLsizes] H := hP
    have hD : va_D A [oHC ad xHC_first xHC_second xHC_when xHC_ran, oShe ad u_3.2.1, ar (ad 40) cA 4 u_3.2.2, ar (ad 41) cA 4 gLsizes] := hD
    have hw := hw.symm
    subst hw
    refine lv_goto (tgt := 20) hx hb dX9_lose_15 (by decide) ?_
    obtain rfl := Option.some.inj hm
    subst hQ
    exact W.iret (v := u_3.1) hx hb hr (fun t ht hW => ⟨⟨_, (), rfl, rfl, by rw [ht]; exact hP, va_K.moved hW.alike hK, hAe ▸ hD⟩, hS.F ht⟩) hS.2.2 dX9_lose_20

set_option maxHeartbeats 4000000 in
set_option maxRecDepth 100000 in
theorem kL_findingAt (l : Launch) (dC : Nat → ClassId) (dI : Nat → Nat → Nat) (cA : ClassId) (ad : Nat → Nat) (sz : Nat) (a1 : Int32) (a2 : Int32) (a3 : Int32) (xShe_latest : Int32) (gLforms : Nat → Int32) (gLsizes : Nat → Int32) (u : Int32) (hm : fL_findingAt a1 a2 a3 gLforms gLsizes = some u) : Met l yX6_findingAt wsX6_findingAt ({ frames := 1, cells := 0, slots := 0, locals := 21 }) (va_Pc [.ref (ad 38), .int a1, .int a2, .int a3] (fun U => U.heap.size = sz ∧ va_P (dC, dI) vwCl [oShe ad xShe_latest, ar (ad 40) cA 4 gLforms, ar (ad 41) cA 4 gLsizes] U.heap ∧ va_K (dC, dI) vwCl [(cA, .int)] U ∧ va_D (fun _ => True) [oShe ad xShe_latest, ar (ad 40) cA 4 gLforms, ar (ad 41) cA 4 gLsizes])) (va_Qi (fun (r : Int32) (_ : Unit) => r = u) (fun (_ : Unit) t => va_P (dC, dI) vwCl [oShe ad xShe_latest, ar (ad 40) cA 4 gLforms, ar (ad 41) cA 4 gLsizes] t.heap ∧ va_K (dC, dI) vwCl [(cA, .int)] t ∧ va_D (va_A [oShe ad xShe_latest, ar (ad 40) cA 4 gLforms, ar (ad 41) cA 4 gLsizes] sz) [oShe ad xShe_latest, ar (ad 40) cA 4 gLforms, ar (ad 41) cA 4 gLsizes]) (va_A [oShe ad xShe_latest, ar (ad 40) cA 4 gLforms, ar (ad 41) cA 4 gLsizes] sz)) 0 0 (va_A [oShe ad xShe_latest, ar (ad 40) cA 4 gLforms, ar (ad 41) cA 4 gLsizes] sz) := by
  refine Met.ofW (cc := cX6_findingAt) (maxL := 4) (ret := (some .int)) (by decide) rfl ?_
  intro p e s m args below meth c s₁ B hml hv
  obtain ⟨rfl, hsz, hP, hK, hD0⟩ := hv
  have hx := B.exec
  have hb := B.bytes
  have hr := B.returns
  have hts := atoms_spec (ws := wsX6_findingAt) B.pre
  have hown : s.vm.findClass RX6 = some m.cls := findClass_of_methodNamed B.named
  have hlocks := B.notSynchronized
  subst hsz
  have hD := hD0.self (sz := s.heap.size)
  generalize hAe : va_A [oShe ad xShe_latest, ar (ad 40) cA 4 gLforms, ar (ad 41) cA 4 gLsizes] s.heap.size = A at hD ⊢
  have hA : ∀ q : Nat, s.heap.size ≤ q → A q := fun q h => by rw [← hAe]; exact Or.inr h
  have hS : va_S A s.heap s.heap [] := va_S.rf
  have hl := lv_entry ([.ref (ad 38), .int a1, .int a2, .int a3]) (n := 4) (Nat.le_of_ble_eq_true rfl)
  rw [lg_entry_eq]
  generalize (lg_sl ([.ref (ad 38), .int a1, .int a2, .int a3]) ++ List.replicate (4 - (lg_sl ([.ref (ad 38), .int a1, .int a2, .int a3])).length) Slot.unset).toArray = ls at hl ⊢
  have hl : lv_has ls 4 [(0, .ref (ad 38)), (1, .int a1), (2, .int a2), (3, .int a3)] := hl
  refine wk_Q (fun QQ hQ => ?_)
  have hinX6 : ∀ w ∈ wsX60, w ∈ wsX6_findingAt := fun w h => List.mem_cons_of_mem _ (inlX6 w h)
  have hl_15 := hts (.fieldLink RX6 15 "HandCensus$Shelf" "forms" "[I") (List.mem_cons_of_mem _ (in_r6 _ (List.mem_of_getElem? (i := 8) rfl)))
  have hl_18 := hts (.fieldLink RX6 18 "HandCensus$Shelf" "sizes" "[I") (List.mem_cons_of_mem _ (in_r6 _ (List.mem_of_getElem? (i := 9) rfl)))
  have b_36 : fL_findingAt_36 = some u → ∀ (H : Heap) (locs : List Loc), va_P (dC, dI) vwCl [oShe ad xShe_latest, ar (ad 40) cA 4 gLforms, ar (ad 41) cA 4 gLsizes] H → va_D A [oShe ad xShe_latest, ar (ad 40) cA 4 gLforms, ar (ad 41) cA 4 gLsizes] → va_S A s.heap H locs → ∀ ls : Array Slot, lv_has ls 4 [] → W p l e (headSpec wsX6_findingAt ({ frames := 1, cells := 0, slots := 0, locals := 21 })).room s m ([.ref (ad 38), .int a1, .int a2, .int a3] : List Value).toArray below meth c H locs 0 0 QQ (F0 m 36 ls []) := by
    intro  hm H locs hP hD hS ls hl
    unfold fL_findingAt_36 at hm
    refine lv_iconst (v := 2) hx hb dX6_findingAt_36 (by decide) ?_
    refine lv_goto (tgt := 41) hx hb dX6_findingAt_37 (by decide) ?_
    obtain rfl := Option.some.inj hm
    subst hQ
    exact W.iret (v := 2) hx hb hr (fun t ht hW => ⟨⟨_, (), rfl, rfl, by rw [ht]; exact hP, va_K.moved hW.alike hK, hAe ▸ hD⟩, hS.F ht⟩) hS.2.2 dX6_findingAt_41
  unfold fL_findingAt at hm
  refine lv_aload_n hx hb dX6_findingAt_0 rfl (lv_at hl 0 rfl) ?_
  refine lv_iload_n hx hb dX6_findingAt_1 rfl (lv_at hl 1 rfl) ?_
  have hPc := hP.sub (ws' := [oShe ad xShe_latest, ar (ad 40) cA 4 gLforms]) [0, 1] rfl
  have hDc := hD.sub (ws' := [oShe ad xShe_latest, ar (ad 40) cA 4 gLforms]) [0, 1] (by decide) rfl
  have hFc := va_free (wc := [oShe ad xShe_latest, ar (ad 40) cA 4 gLforms]) hD hS hA [0, 1] rfl
  obtain ⟨u_1, hc_1, hm⟩ := bd_ok hm
  refine va_calli (va_runV (As := [.int a1]) (rest := []) ⟨hx, hb, hml, hown, hts⟩ (kL_isLost l dC dI cA ad s.heap.size a1 xShe_latest gLforms u_1 hc_1) (cwV 1 hts gX6_findingAt_X6_isLost rfl rfl rfl (by decide +kernel) ⟨Nat.le_of_ble_eq_true rfl, Nat.le_of_ble_eq_true rfl⟩) ⟨fun a U g mk q => by obtain ⟨q0, q1, qP, qK, qD⟩ := q; exact ⟨q0, q1, qP, va_K.moved (u := U) (U := U.calling g mk a) (Vm.Alike.refl U.vm) qK, qD⟩, va_recv hK hPc (ci := 6) (q0 := 0) rfl rfl, fun U hU hW => ⟨rfl, by rw [hU], by rw [hU]; exact hPc, va_K.moved hW.alike hK, hDc.weaken (fun _ _ _ _ => trivial)⟩⟩ rfl rfl hl.1 rfl (lv_room (Nat.le_of_ble_eq_true rfl)) dX6_findingAt_2 ⟨Nat.le_of_ble_eq_true rfl, Nat.le_of_ble_eq_true rfl⟩) hS (fun q _ h => hFc q h) hFc (fun r_1 _ t H1 locs ht hvm hw hB hz1 hk1 hS => ?_)
  obtain ⟨hP1, hK1, hD1⟩ := hB
  rw [ht] at hP1
  obtain ⟨hP, hD⟩ := va_join (wr := [ar (ad 41) cA 4 gLsizes]) (w1 := [oShe ad xShe_latest, ar (ad 40) cA 4 gLforms]) hP hD [0, 1] [2] rfl rfl (by decide) (by decide) hk1 hFc hP1 hD1
  clear hPc hDc hFc hP1 hK1 hD1 hk1 hz1 hvm ht
  generalize H1 = H at hP hS ⊢
  have hP : va_P (dC, dI) vwCl [oShe ad xShe_latest, ar (ad 40) cA 4 gLforms, ar (ad 41) cA 4 gLsizes] H := hP.sub [1, 2, 0] rfl
  have hD : va_D A [oShe ad xShe_latest, ar (ad 40) cA 4 gLforms, ar (ad 41) cA 4 gLsizes] := hD.sub [1, 2, 0] (by decide) rfl
  have hw := hw.symm
  subst hw
  refine lv_if_eq (tgt := 10) hx hb dX6_findingAt_5 (by decide) (fun c_2 => ?_) (fun c_2 => ?_)
  · have hm := it_pos c_2 hm
    refine lv_aload_n hx hb dX6_findingAt_10 rfl (lv_at hl 0 rfl) ?_
    refine va_get (D := (dC, dI)) (ci := 6) (v := .ref (ad 40)) (C := RX6) (T := TX6) (N := 4) hx hb hts hinX6 hown hK hP 0 rfl rfl 1 (by decide) hl_15 (fun _ h9 => h9) rfl dX6_findingAt_11 ?_
    refine lv_iload_n hx hb dX6_findingAt_14 rfl (lv_at hl 1 rfl) ?_
    obtain ⟨i_3, hm⟩ := ck_ok hm
    refine va_iald hx hb hK hP 1 0 rfl rfl i_3 dX6_findingAt_15 ?_
    refine lv_iload_n hx hb dX6_findingAt_16 rfl (lv_at hl 2 rfl) ?_
    refine lv_icmp_eq (tgt := 22) hx hb dX6_findingAt_17 (by decide) (fun c_4 => ?_) (fun c_4 => ?_)
    · have hm := it_pos c_4 hm
      refine lv_iload_n hx hb dX6_findingAt_22 rfl (lv_at hl 3 rfl) ?_
      refine lv_if_lt (tgt := 36) hx hb dX6_findingAt_23 (by decide) (fun c_5 => ?_) (fun c_5 => ?_)
      · have hm := it_pos c_5 hm
        exact b_36 hm _ _ hP hD hS _ (lv_sub hl [] rfl)
      · have hm := it_neg c_5 hm
        refine lv_iload_n hx hb dX6_findingAt_26 rfl (lv_at hl 3 rfl) ?_
        refine lv_aload_n hx hb dX6_findingAt_27 rfl (lv_at hl 0 rfl) ?_
        refine va_get (D := (dC, dI)) (ci := 6) (v := .ref (ad 41)) (C := RX6) (T := TX6) (N := 4) hx hb hts hinX6 hown hK hP 0 rfl rfl 2 (by decide) hl_18 (fun _ h9 => h9) rfl dX6_findingAt_28 ?_
        refine lv_iload_n hx hb dX6_findingAt_31 rfl (lv_at hl 1 rfl) ?_
        obtain ⟨i_6, hm⟩ := ck_ok hm
        refine va_iald hx hb hK hP 2 0 rfl rfl i_6 dX6_findingAt_32 ?_
        refine lv_icmp_lt (tgt := 40) hx hb dX6_findingAt_33 (by decide) (fun c_7 => ?_) (fun c_7 => ?_)
        · have hm := it_pos c_7 hm
          refine lv_iconst (v := 0) hx hb dX6_findingAt_40 (by decide) ?_
          obtain rfl := Option.some.inj hm
          subst hQ
          exact W.iret (v := 0) hx hb hr (fun t ht hW => ⟨⟨_, (), rfl, rfl, by rw [ht]; exact hP, va_K.moved hW.alike hK, hAe ▸ hD⟩, hS.F ht⟩) hS.2.2 dX6_findingAt_41
        · have hm := it_neg c_7 hm
          exact b_36 hm _ _ hP hD hS _ (lv_sub hl [] rfl)
    · have hm := it_neg c_4 hm
      refine lv_iconst (v := 3) hx hb dX6_findingAt_20 (by decide) ?_
      obtain rfl := Option.some.inj hm
      subst hQ
      exact W.iret (v := 3) hx hb hr (fun t ht hW => ⟨⟨_, (), rfl, rfl, by rw [ht]; exact hP, va_K.moved hW.alike hK, hAe ▸ hD⟩, hS.F ht⟩) hS.2.2 dX6_findingAt_21
  · have hm := it_neg c_2 hm
    refine lv_iconst (v := 1) hx hb dX6_findingAt_8 (by decide) ?_
    obtain rfl := Option.some.inj hm
    subst hQ
    exact W.iret (v := 1) hx hb hr (fun t ht hW => ⟨⟨_, (), rfl, rfl, by rw [ht]; exact hP, va_K.moved hW.alike hK, hAe ▸ hD⟩, hS.F ht⟩) hS.2.2 dX6_findingAt_9

set_option maxHeartbeats 4000000 in
set_option maxRecDepth 100000 in
theorem kC_put (l : Launch) (dC : Nat → ClassId) (dI : Nat → Nat → Nat) (cA : ClassId) (ad : Nat → Nat) (sz : Nat) (a1 : Int32) (a2 : Int32) (a3 : Int32) (a4 : Int32) (xHC_first : Int32) (xHC_second : Int32) (xHC_when : Int32) (xHC_ran : Int32) (xShe_latest : Int32) (gLitems : Nat → Int32) (gLforms : Nat → Int32) (gLsizes : Nat → Int32) (u : Int32 × Int32 × (Nat → Int32)) (hm : fC_put a1 a2 a3 a4 xShe_latest gLitems gLforms gLsizes = some u) : Met l yX9_put wsX9_put ({ frames := 2, cells := 0, slots := 0, locals := 44 }) (va_Pc [.ref (ad 0), .int a1, .int a2, .int a3, .int a4] (fun U => U.heap.size = sz ∧ va_P (dC, dI) vwCl [oHC ad xHC_first xHC_second xHC_when xHC_ran, oShe ad xShe_latest, ar (ad 39) cA 240 gLitems, ar (ad 40) cA 4 gLforms, ar (ad 41) cA 4 gLsizes] U.heap ∧ va_K (dC, dI) vwCl [(cA, .int)] U ∧ va_D (fun _ => True) [oHC ad xHC_first xHC_second xHC_when xHC_ran, oShe ad xShe_latest, ar (ad 39) cA 240 gLitems, ar (ad 40) cA 4 gLforms, ar (ad 41) cA 4 gLsizes])) (va_Qi (fun (r : Int32) (_ : Unit) => r = u.1) (fun (_ : Unit) t => va_P (dC, dI) vwCl [oHC ad xHC_first xHC_second xHC_when xHC_ran, oShe ad u.2.1, ar (ad 39) cA 240 u.2.2, ar (ad 40) cA 4 gLforms, ar (ad 41) cA 4 gLsizes] t.heap ∧ va_K (dC, dI) vwCl [(cA, .int)] t ∧ va_D (va_A [oHC ad xHC_first xHC_second xHC_when xHC_ran, oShe ad xShe_latest, ar (ad 39) cA 240 gLitems, ar (ad 40) cA 4 gLforms, ar (ad 41) cA 4 gLsizes] sz) [oHC ad xHC_first xHC_second xHC_when xHC_ran, oShe ad u.2.1, ar (ad 39) cA 240 u.2.2, ar (ad 40) cA 4 gLforms, ar (ad 41) cA 4 gLsizes]) (va_A [oHC ad xHC_first xHC_second xHC_when xHC_ran, oShe ad xShe_latest, ar (ad 39) cA 240 gLitems, ar (ad 40) cA 4 gLforms, ar (ad 41) cA 4 gLsizes] sz)) 0 0 (va_A [oHC ad xHC_first xHC_second xHC_when xHC_ran, oShe ad xShe_latest, ar (ad 39) cA 240 gLitems, ar (ad 40) cA 4 gLforms, ar (ad 41) cA 4 gLsizes] sz) := by
  refine Met.ofW (cc := cX9_put) (maxL := 6) (ret := (some .int)) (by decide) rfl ?_
  intro p e s m args below meth c s₁ B hml hv
  obtain ⟨rfl, hsz, hP, hK, hD0⟩ := hv
  have hx := B.exec
  have hb := B.bytes
  have hr := B.returns
  have hts := atoms_spec (ws := wsX9_put) B.pre
  have hown : s.vm.findClass RX9 = some m.cls := findClass_of_methodNamed B.named
  have hlocks := B.notSynchronized
  subst hsz
  have hD := hD0.self (sz := s.heap.size)
  generalize hAe : va_A [oHC ad xHC_first xHC_second xHC_when xHC_ran, oShe ad xShe_latest, ar (ad 39) cA 240 gLitems, ar (ad 40) cA 4 gLforms, ar (ad 41) cA 4 gLsizes] s.heap.size = A at hD ⊢
  have hA : ∀ q : Nat, s.heap.size ≤ q → A q := fun q h => by rw [← hAe]; exact Or.inr h
  have hS : va_S A s.heap s.heap [] := va_S.rf
  have hl := lv_entry ([.ref (ad 0), .int a1, .int a2, .int a3, .int a4]) (n := 6) (Nat.le_of_ble_eq_true rfl)
  rw [lg_entry_eq]
  generalize (lg_sl ([.ref (ad 0), .int a1, .int a2, .int a3, .int a4]) ++ List.replicate (6 - (lg_sl ([.ref (ad 0), .int a1, .int a2, .int a3, .int a4])).length) Slot.unset).toArray = ls at hl ⊢
  have hl : lv_has ls 6 [(0, .ref (ad 0)), (1, .int a1), (2, .int a2), (3, .int a3), (4, .int a4)] := hl
  refine wk_Q (fun QQ hQ => ?_)
  have hinX9 : ∀ w ∈ wsX90, w ∈ wsX9_put := fun w h => List.mem_cons_of_mem _ (inlX9 w h)
  have hl_68 := hts (.fieldLink RX9 68 "HandCensus" "shelf" "LHandCensus$Shelf;") (List.mem_cons_of_mem _ (in_r2 _ (List.mem_of_getElem? (i := 22) rfl)))
  unfold fC_put at hm
  refine lv_iload_n hx hb dX9_put_0 rfl (lv_at hl 1 rfl) ?_
  have hPc := hP.sub (ws' := []) [] rfl
  have hDc := hD.sub (ws' := []) [] (by decide) rfl
  have hFc := va_free (wc := []) hD hS hA [] rfl
  obtain ⟨u_1, hc_1, hm⟩ := bd_ok hm
  refine va_calli (va_runS (As := [.int a1]) (rest := []) ⟨hx, hb, hml, hown, hts⟩ (kL_isPlace l dC dI cA ad s.heap.size a1 u_1 hc_1) (va_cwS 1 hts gX9_put_X6_isPlace rfl rfl rfl (by decide +kernel) ⟨Nat.le_of_ble_eq_true rfl, Nat.le_of_ble_eq_true rfl⟩) ⟨fun a U g mk q => by obtain ⟨q0, q1, qP, qK, qD⟩ := q; exact ⟨q0, q1, qP, va_K.moved (u := U) (U := U.calling g mk a) (Vm.Alike.refl U.vm) qK, qD⟩, fun U hU hW => ⟨rfl, by rw [hU], by rw [hU]; exact hPc, va_K.moved hW.alike hK, hDc.weaken (fun _ _ _ _ => trivial)⟩⟩ rfl rfl hl.1 rfl (lv_room (Nat.le_of_ble_eq_true rfl)) dX9_put_1 ⟨Nat.le_of_ble_eq_true rfl, Nat.le_of_ble_eq_true rfl⟩) hS (fun q _ h => hFc q h) hFc (fun r_1 _ t H1 locs ht hvm hw hB hz1 hk1 hS => ?_)
  obtain ⟨hP1, hK1, hD1⟩ := hB
  rw [ht] at hP1
  obtain ⟨hP, hD⟩ := va_join (wr := [oHC ad xHC_first xHC_second xHC_when xHC_ran, oShe ad xShe_latest, ar (ad 39) cA 240 gLitems, ar (ad 40) cA 4 gLforms, ar (ad 41) cA 4 gLsizes]) (w1 := []) hP hD [] [0, 1, 2, 3, 4] rfl rfl (by decide) (by decide) hk1 hFc hP1 hD1
  clear hPc hDc hFc hP1 hK1 hD1 hk1 hz1 hvm ht
  generalize H1 = H at hP hS ⊢
  have hP : va_P (dC, dI) vwCl [oHC ad xHC_first xHC_second xHC_when xHC_ran, oShe ad xShe_latest, ar (ad 39) cA 240 gLitems, ar (ad 40) cA 4 gLforms, ar (ad 41) cA 4 gLsizes] H := hP
  have hD : va_D A [oHC ad xHC_first xHC_second xHC_when xHC_ran, oShe ad xShe_latest, ar (ad 39) cA 240 gLitems, ar (ad 40) cA 4 gLforms, ar (ad 41) cA 4 gLsizes] := hD
  have hw := hw.symm
  subst hw
  refine lv_if_eq (tgt := 14) hx hb dX9_put_4 (by decide) (fun c_2 => ?_) (fun c_2 => ?_)
  · have hm := it_pos c_2 hm
    refine lv_bipush (v := (-2)) hx hb dX9_put_14 (by decide) ?_
    obtain rfl := Option.some.inj hm
    subst hQ
    exact W.iret (v := (-2)) hx hb hr (fun t ht hW => ⟨⟨_, (), rfl, rfl, by rw [ht]; exact hP, va_K.moved hW.alike hK, hAe ▸ hD⟩, hS.F ht⟩) hS.2.2 dX9_put_16
  · have hm := it_neg c_2 hm
    refine lv_iload_n hx hb dX9_put_7 rfl (lv_at hl 2 rfl) ?_
    have hPc := hP.sub (ws' := []) [] rfl
    have hDc := hD.sub (ws' := []) [] (by decide) rfl
    have hFc := va_free (wc := []) hD hS hA [] rfl
    obtain ⟨u_3, hc_3, hm⟩ := bd_ok hm
    refine va_calli (va_runS (As := [.int a2]) (rest := []) ⟨hx, hb, hml, hown, hts⟩ (kL_isForm l dC dI cA ad H.size a2 u_3 hc_3) (va_cwS 1 hts gX9_put_X6_isForm rfl rfl rfl (by decide +kernel) ⟨Nat.le_of_ble_eq_true rfl, Nat.le_of_ble_eq_true rfl⟩) ⟨fun a U g mk q => by obtain ⟨q0, q1, qP, qK, qD⟩ := q; exact ⟨q0, q1, qP, va_K.moved (u := U) (U := U.calling g mk a) (Vm.Alike.refl U.vm) qK, qD⟩, fun U hU hW => ⟨rfl, by rw [hU], by rw [hU]; exact hPc, va_K.moved hW.alike hK, hDc.weaken (fun _ _ _ _ => trivial)⟩⟩ rfl rfl hl.1 rfl (lv_room (Nat.le_of_ble_eq_true rfl)) dX9_put_8 ⟨Nat.le_of_ble_eq_true rfl, Nat.le_of_ble_eq_true rfl⟩) hS (fun q _ h => hFc q h) hFc (fun r_3 _ t H1 locs ht hvm hw hB hz1 hk1 hS => ?_)
    obtain ⟨hP1, hK1, hD1⟩ := hB
    rw [ht] at hP1
    obtain ⟨hP, hD⟩ := va_join (wr := [oHC ad xHC_first xHC_second xHC_when xHC_ran, oShe ad xShe_latest, ar (ad 39) cA 240 gLitems, ar (ad 40) cA 4 gLforms, ar (ad 41) cA 4 gLsizes]) (w1 := []) hP hD [] [0, 1, 2, 3, 4] rfl rfl (by decide) (by decide) hk1 hFc hP1 hD1
    clear hPc hDc hFc hP1 hK1 hD1 hk1 hz1 hvm ht
    generalize H1 = H at hP hS ⊢
    have hP : va_P (dC, dI) vwCl [oHC ad xHC_first xHC_second xHC_when xHC_ran, oShe ad xShe_latest, ar (ad 39) cA 240 gLitems, ar (ad 40) cA 4 gLforms, ar (ad 41) cA 4 gLsizes] H := hP
    have hD : va_D A [oHC ad xHC_first xHC_second xHC_when xHC_ran, oShe ad xShe_latest, ar (ad 39) cA 240 gLitems, ar (ad 40) cA 4 gLforms, ar (ad 41) cA 4 gLsizes] := hD
    have hw := hw.symm
    subst hw
    refine lv_if_ne (tgt := 17) hx hb dX9_put_11 (by decide) (fun c_4 => ?_) (fun c_4 => ?_)
    · have hm := it_neg c_4 hm
      refine lv_aload_n hx hb dX9_put_17 rfl (lv_at hl 0 rfl) ?_
      refine va_get (D := (dC, dI)) (ci := 9) (v := .ref (ad 38)) (C := RX9) (T := TX9) (N := 12) hx hb hts hinX9 hown hK hP 0 rfl rfl 7 (by decide) hl_68 (fun _ h9 => h9) rfl dX9_put_18 ?_
      refine lv_iload_n hx hb dX9_put_21 rfl (lv_at hl 1 rfl) ?_
      refine lv_iload_n hx hb dX9_put_22 rfl (lv_at hl 2 rfl) ?_
      refine lv_iload_n hx hb dX9_put_23 rfl (lv_at hl 3 rfl) ?_
      have hPc := hP.sub (ws' := [oShe ad xShe_latest, ar (ad 40) cA 4 gLforms, ar (ad 41) cA 4 gLsizes]) [1, 3, 4] rfl
      have hDc := hD.sub (ws' := [oShe ad xShe_latest, ar (ad 40) cA 4 gLforms, ar (ad 41) cA 4 gLsizes]) [1, 3, 4] (by decide) rfl
      have hFc := va_free (wc := [oShe ad xShe_latest, ar (ad 40) cA 4 gLforms, ar (ad 41) cA 4 gLsizes]) hD hS hA [1, 3, 4] rfl
      obtain ⟨u_5, hc_5, hm⟩ := bd_ok hm
      refine va_calli (va_runV (As := [.int a1, .int a2, .int a3]) (rest := []) ⟨hx, hb, hml, hown, hts⟩ (kL_findingAt l dC dI cA ad H.size a1 a2 a3 xShe_latest gLforms gLsizes u_5 hc_5) (cwV 3 hts gX9_put_X6_findingAt rfl rfl rfl (by decide +kernel) ⟨Nat.le_of_ble_eq_true rfl, Nat.le_of_ble_eq_true rfl⟩) ⟨fun a U g mk q => by obtain ⟨q0, q1, qP, qK, qD⟩ := q; exact ⟨q0, q1, qP, va_K.moved (u := U) (U := U.calling g mk a) (Vm.Alike.refl U.vm) qK, qD⟩, va_recv hK hPc (ci := 6) (q0 := 0) rfl rfl, fun U hU hW => ⟨rfl, by rw [hU], by rw [hU]; exact hPc, va_K.moved hW.alike hK, hDc.weaken (fun _ _ _ _ => trivial)⟩⟩ rfl rfl hl.1 rfl (lv_room (Nat.le_of_ble_eq_true rfl)) dX9_put_24 ⟨Nat.le_of_ble_eq_true rfl, Nat.le_of_ble_eq_true rfl⟩) hS (fun q _ h => hFc q h) hFc (fun r_5 _ t H1 locs ht hvm hw hB hz1 hk1 hS => ?_)
      obtain ⟨hP1, hK1, hD1⟩ := hB
      rw [ht] at hP1
      obtain ⟨hP, hD⟩ := va_join (wr := [oHC ad xHC_first xHC_second xHC_when xHC_ran, ar (ad 39) cA 240 gLitems]) (w1 := [oShe ad xShe_latest, ar (ad 40) cA 4 gLforms, ar (ad 41) cA 4 gLsizes]) hP hD [1, 3, 4] [0, 2] rfl rfl (by decide) (by decide) hk1 hFc hP1 hD1
      clear hPc hDc hFc hP1 hK1 hD1 hk1 hz1 hvm ht
      generalize H1 = H at hP hS ⊢
      have hP : va_P (dC, dI) vwCl [oHC ad xHC_first xHC_second xHC_when xHC_ran, oShe ad xShe_latest, ar (ad 39) cA 240 gLitems, ar (ad 40) cA 4 gLforms, ar (ad 41) cA 4 gLsizes] H := hP.sub [0, 2, 1, 3, 4] rfl
      have hD : va_D A [oHC ad xHC_first xHC_second xHC_when xHC_ran, oShe ad xShe_latest, ar (ad 39) cA 240 gLitems, ar (ad 40) cA 4 gLforms, ar (ad 41) cA 4 gLsizes] := hD.sub [0, 2, 1, 3, 4] (by decide) rfl
      have hw := hw.symm
      subst hw
      refine lv_istore (lv' := [(5, .int u_5), (0, .ref (ad 0)), (1, .int a1), (2, .int a2), (3, .int a3), (4, .int a4)]) hx hb dX9_put_27 hl (by decide) rfl (fun ls hl => ?_)
      refine lv_iload hx hb dX9_put_29 (lv_at hl 0 rfl) ?_
      refine lv_if_eq (tgt := 44) hx hb dX9_put_31 (by decide) (fun c_6 => ?_) (fun c_6 => ?_)
      · have hm := it_pos c_6 hm
        refine lv_aload_n hx hb dX9_put_44 rfl (lv_at hl 1 rfl) ?_
        refine va_get (D := (dC, dI)) (ci := 9) (v := .ref (ad 38)) (C := RX9) (T := TX9) (N := 12) hx hb hts hinX9 hown hK hP 0 rfl rfl 7 (by decide) hl_68 (fun _ h9 => h9) rfl dX9_put_45 ?_
        refine lv_iload_n hx hb dX9_put_48 rfl (lv_at hl 2 rfl) ?_
        refine lv_iload_n hx hb dX9_put_49 rfl (lv_at hl 4 rfl) ?_
        refine lv_iload hx hb dX9_put_50 (lv_at hl 5 rfl) ?_
        have hPc := hP.sub (ws' := [oShe ad xShe_latest, ar (ad 39) cA 240 gLitems, ar (ad 40) cA 4 gLforms]) [1, 2, 3] rfl
        have hDc := hD.sub (ws' := [oShe ad xShe_latest, ar (ad 39) cA 240 gLitems, ar (ad 40) cA 4 gLforms]) [1, 2, 3] (by decide) rfl
        have hFc := va_free (wc := [oShe ad xShe_latest, ar (ad 39) cA 240 gLitems, ar (ad 40) cA 4 gLforms]) hD hS hA [1, 2, 3] rfl
        obtain ⟨u_7, hc_7, hm⟩ := bd_ok hm
        refine va_callv (va_runV (As := [.int a1, .int a3, .int a4]) (rest := []) ⟨hx, hb, hml, hown, hts⟩ (kL_store l dC dI cA ad H.size a1 a3 a4 xShe_latest gLitems gLforms u_7 hc_7) (cwV 3 hts gX9_put_X6_store rfl rfl rfl (by decide +kernel) ⟨Nat.le_of_ble_eq_true rfl, Nat.le_of_ble_eq_true rfl⟩) ⟨fun a U g mk q => by obtain ⟨q0, q1, qP, qK, qD⟩ := q; exact ⟨q0, q1, qP, va_K.moved (u := U) (U := U.calling g mk a) (Vm.Alike.refl U.vm) qK, qD⟩, va_recv hK hPc (ci := 6) (q0 := 0) rfl rfl, fun U hU hW => ⟨rfl, by rw [hU], by rw [hU]; exact hPc, va_K.moved hW.alike hK, hDc.weaken (fun _ _ _ _ => trivial)⟩⟩ rfl rfl hl.1 rfl (lv_room (Nat.le_of_ble_eq_true rfl)) dX9_put_52 ⟨Nat.le_of_ble_eq_true rfl, Nat.le_of_ble_eq_true rfl⟩) hS (fun q _ h => hFc q h) hFc (fun _ t H1 locs ht hvm hw hB hz1 hk1 hS => ?_)
        obtain ⟨hP1, hK1, hD1⟩ := hB
        rw [ht] at hP1
        obtain ⟨hP, hD⟩ := va_join (wr := [oHC ad xHC_first xHC_second xHC_when xHC_ran, ar (ad 41) cA 4 gLsizes]) (w1 := [oShe ad xShe_latest, ar (ad 39) cA 240 u_7, ar (ad 40) cA 4 gLforms]) hP hD [1, 2, 3] [0, 4] rfl rfl (by decide) (by decide) hk1 hFc hP1 hD1
        clear hPc hDc hFc hP1 hK1 hD1 hk1 hz1 hvm ht
        generalize H1 = H at hP hS ⊢
        have hP : va_P (dC, dI) vwCl [oHC ad xHC_first xHC_second xHC_when xHC_ran, oShe ad xShe_latest, ar (ad 39) cA 240 u_7, ar (ad 40) cA 4 gLforms, ar (ad 41) cA 4 gLsizes] H := hP.sub [0, 2, 3, 4, 1] rfl
        have hD : va_D A [oHC ad xHC_first xHC_second xHC_when xHC_ran, oShe ad xShe_latest, ar (ad 39) cA 240 u_7, ar (ad 40) cA 4 gLforms, ar (ad 41) cA 4 gLsizes] := hD.sub [0, 2, 3, 4, 1] (by decide) rfl
        refine lv_iconst (v := 1) hx hb dX9_put_55 (by decide) ?_
        obtain rfl := Option.some.inj hm
        subst hQ
        exact W.iret (v := 1) hx hb hr (fun t ht hW => ⟨⟨_, (), rfl, rfl, by rw [ht]; exact hP, va_K.moved hW.alike hK, hAe ▸ hD⟩, hS.F ht⟩) hS.2.2 dX9_put_56
      · have hm := it_neg c_6 hm
        refine lv_aload_n hx hb dX9_put_34 rfl (lv_at hl 1 rfl) ?_
        refine va_get (D := (dC, dI)) (ci := 9) (v := .ref (ad 38)) (C := RX9) (T := TX9) (N := 12) hx hb hts hinX9 hown hK hP 0 rfl rfl 7 (by decide) hl_68 (fun _ h9 => h9) rfl dX9_put_35 ?_
        refine lv_iload hx hb dX9_put_38 (lv_at hl 0 rfl) ?_
        have hPc := hP.sub (ws' := [oShe ad xShe_latest]) [1] rfl
        have hDc := hD.sub (ws' := [oShe ad xShe_latest]) [1] (by decide) rfl
        have hFc := va_free (wc := [oShe ad xShe_latest]) hD hS hA [1] rfl
        obtain ⟨u_8, hc_8, hm⟩ := bd_ok hm
        refine va_calli (va_runV (As := [.int u_5]) (rest := []) ⟨hx, hb, hml, hown, hts⟩ (kL_finding l dC dI cA ad H.size u_5 xShe_latest u_8 hc_8) (cwV 1 hts gX9_put_X6_finding rfl rfl rfl (by decide +kernel) ⟨Nat.le_of_ble_eq_true rfl, Nat.le_of_ble_eq_true rfl⟩) ⟨fun a U g mk q => by obtain ⟨q0, q1, qP, qK, qD⟩ := q; exact ⟨q0, q1, qP, va_K.moved (u := U) (U := U.calling g mk a) (Vm.Alike.refl U.vm) qK, qD⟩, va_recv hK hPc (ci := 6) (q0 := 0) rfl rfl, fun U hU hW => ⟨rfl, by rw [hU], by rw [hU]; exact hPc, va_K.moved hW.alike hK, hDc.weaken (fun _ _ _ _ => trivial)⟩⟩ rfl rfl hl.1 rfl (lv_room (Nat.le_of_ble_eq_true rfl)) dX9_put_40 ⟨Nat.le_of_ble_eq_true rfl, Nat.le_of_ble_eq_true rfl⟩) hS (fun q _ h => hFc q h) hFc (fun r_8 _ t H1 locs ht hvm hw hB hz1 hk1 hS => ?_)
        obtain ⟨hP1, hK1, hD1⟩ := hB
        rw [ht] at hP1
        obtain ⟨hP, hD⟩ := va_join (wr := [oHC ad xHC_first xHC_second xHC_when xHC_ran, ar (ad 39) cA 240 gLitems, ar (ad 40) cA 4 gLforms, ar (ad 41) cA 4 gLsizes]) (w1 := [oShe ad u_8.2]) hP hD [1] [0, 2, 3, 4] rfl rfl (by decide) (by decide) hk1 hFc hP1 hD1
        clear hPc hDc hFc hP1 hK1 hD1 hk1 hz1 hvm ht
        generalize H1 = H at hP hS ⊢
        have hP : va_P (dC, dI) vwCl [oHC ad xHC_first xHC_second xHC_when xHC_ran, oShe ad u_8.2, ar (ad 39) cA 240 gLitems, ar (ad 40) cA 4 gLforms, ar (ad 41) cA 4 gLsizes] H := hP.sub [0, 4, 1, 2, 3] rfl
        have hD : va_D A [oHC ad xHC_first xHC_second xHC_when xHC_ran, oShe ad u_8.2, ar (ad 39) cA 240 gLitems, ar (ad 40) cA 4 gLforms, ar (ad 41) cA 4 gLsizes] := hD.sub [0, 4, 1, 2, 3] (by decide) rfl
        have hw := hw.symm
        subst hw
        obtain rfl := Option.some.inj hm
        subst hQ
        exact W.iret (v := u_8.1) hx hb hr (fun t ht hW => ⟨⟨_, (), rfl, rfl, by rw [ht]; exact hP, va_K.moved hW.alike hK, hAe ▸ hD⟩, hS.F ht⟩) hS.2.2 dX9_put_43
    · have hm := it_pos c_4 hm
      refine lv_bipush (v := (-2)) hx hb dX9_put_14 (by decide) ?_
      obtain rfl := Option.some.inj hm
      subst hQ
      exact W.iret (v := (-2)) hx hb hr (fun t ht hW => ⟨⟨_, (), rfl, rfl, by rw [ht]; exact hP, va_K.moved hW.alike hK, hAe ▸ hD⟩, hS.F ht⟩) hS.2.2 dX9_put_16

set_option maxHeartbeats 4000000 in
set_option maxRecDepth 100000 in
theorem kC_get (l : Launch) (dC : Nat → ClassId) (dI : Nat → Nat → Nat) (cA : ClassId) (ad : Nat → Nat) (sz : Nat) (a1 : Int32) (a2 : Int32) (a3 : Int32) (xHC_first : Int32) (xHC_second : Int32) (xHC_when : Int32) (xHC_ran : Int32) (xShe_latest : Int32) (gLitems : Nat → Int32) (gLforms : Nat → Int32) (gLsizes : Nat → Int32) (u : Int32 × Int32) (hm : fC_get a1 a2 a3 xShe_latest gLitems gLforms gLsizes = some u) : Met l yX9_get wsX9_get ({ frames := 2, cells := 0, slots := 0, locals := 44 }) (va_Pc [.ref (ad 0), .int a1, .int a2, .int a3] (fun U => U.heap.size = sz ∧ va_P (dC, dI) vwCl [oHC ad xHC_first xHC_second xHC_when xHC_ran, oShe ad xShe_latest, ar (ad 39) cA 240 gLitems, ar (ad 40) cA 4 gLforms, ar (ad 41) cA 4 gLsizes] U.heap ∧ va_K (dC, dI) vwCl [(cA, .int)] U ∧ va_D (fun _ => True) [oHC ad xHC_first xHC_second xHC_when xHC_ran, oShe ad xShe_latest, ar (ad 39) cA 240 gLitems, ar (ad 40) cA 4 gLforms, ar (ad 41) cA 4 gLsizes])) (va_Qi (fun (r : Int32) (_ : Unit) => r = u.1) (fun (_ : Unit) t => va_P (dC, dI) vwCl [oHC ad xHC_first xHC_second xHC_when xHC_ran, oShe ad u.2, ar (ad 39) cA 240 gLitems, ar (ad 40) cA 4 gLforms, ar (ad 41) cA 4 gLsizes] t.heap ∧ va_K (dC, dI) vwCl [(cA, .int)] t ∧ va_D (va_A [oHC ad xHC_first xHC_second xHC_when xHC_ran, oShe ad xShe_latest, ar (ad 39) cA 240 gLitems, ar (ad 40) cA 4 gLforms, ar (ad 41) cA 4 gLsizes] sz) [oHC ad xHC_first xHC_second xHC_when xHC_ran, oShe ad u.2, ar (ad 39) cA 240 gLitems, ar (ad 40) cA 4 gLforms, ar (ad 41) cA 4 gLsizes]) (va_A [oHC ad xHC_first xHC_second xHC_when xHC_ran, oShe ad xShe_latest, ar (ad 39) cA 240 gLitems, ar (ad 40) cA 4 gLforms, ar (ad 41) cA 4 gLsizes] sz)) 0 0 (va_A [oHC ad xHC_first xHC_second xHC_when xHC_ran, oShe ad xShe_latest, ar (ad 39) cA 240 gLitems, ar (ad 40) cA 4 gLforms, ar (ad 41) cA 4 gLsizes] sz) := by
  refine Met.ofW (cc := cX9_get) (maxL := 5) (ret := (some .int)) (by decide) rfl ?_
  intro p e s m args below meth c s₁ B hml hv
  obtain ⟨rfl, hsz, hP, hK, hD0⟩ := hv
  have hx := B.exec
  have hb := B.bytes
  have hr := B.returns
  have hts := atoms_spec (ws := wsX9_get) B.pre
  have hown : s.vm.findClass RX9 = some m.cls := findClass_of_methodNamed B.named
  have hlocks := B.notSynchronized
  subst hsz
  have hD := hD0.self (sz := s.heap.size)
  generalize hAe : va_A [oHC ad xHC_first xHC_second xHC_when xHC_ran, oShe ad xShe_latest, ar (ad 39) cA 240 gLitems, ar (ad 40) cA 4 gLforms, ar (ad 41) cA 4 gLsizes] s.heap.size = A at hD ⊢
  have hA : ∀ q : Nat, s.heap.size ≤ q → A q := fun q h => by rw [← hAe]; exact Or.inr h
  have hS : va_S A s.heap s.heap [] := va_S.rf
  have hl := lv_entry ([.ref (ad 0), .int a1, .int a2, .int a3]) (n := 5) (Nat.le_of_ble_eq_true rfl)
  rw [lg_entry_eq]
  generalize (lg_sl ([.ref (ad 0), .int a1, .int a2, .int a3]) ++ List.replicate (5 - (lg_sl ([.ref (ad 0), .int a1, .int a2, .int a3])).length) Slot.unset).toArray = ls at hl ⊢
  have hl : lv_has ls 5 [(0, .ref (ad 0)), (1, .int a1), (2, .int a2), (3, .int a3)] := hl
  refine wk_Q (fun QQ hQ => ?_)
  have hw_0 := hts (.constant RX9 281 (-2147483648)) (List.mem_cons_of_mem _ (in_r42 _ (List.mem_of_getElem? (i := 13) rfl)))
  have hinX9 : ∀ w ∈ wsX90, w ∈ wsX9_get := fun w h => List.mem_cons_of_mem _ (inlX9 w h)
  have hl_68 := hts (.fieldLink RX9 68 "HandCensus" "shelf" "LHandCensus$Shelf;") (List.mem_cons_of_mem _ (in_r2 _ (List.mem_of_getElem? (i := 22) rfl)))
  have b_14 : ∀ (xShe_latest_14 : Int32), fC_get_14 xShe_latest_14 = some u → ∀ (H : Heap) (locs : List Loc), va_P (dC, dI) vwCl [oHC ad xHC_first xHC_second xHC_when xHC_ran, oShe ad xShe_latest_14, ar (ad 39) cA 240 gLitems, ar (ad 40) cA 4 gLforms, ar (ad 41) cA 4 gLsizes] H → va_D A [oHC ad xHC_first xHC_second xHC_when xHC_ran, oShe ad xShe_latest_14, ar (ad 39) cA 240 gLitems, ar (ad 40) cA 4 gLforms, ar (ad 41) cA 4 gLsizes] → va_S A s.heap H locs → ∀ ls : Array Slot, lv_has ls 5 [] → W p l e (headSpec wsX9_get ({ frames := 2, cells := 0, slots := 0, locals := 44 })).room s m ([.ref (ad 0), .int a1, .int a2, .int a3] : List Value).toArray below meth c H locs 0 0 QQ (F0 m 14 ls []) := by
    intro xShe_latest_14 hm H locs hP hD hS ls hl
    unfold fC_get_14 at hm
    refine lv_ldcw hx hb hown hw_0 dX9_get_14 ?_
    obtain rfl := Option.some.inj hm
    subst hQ
    exact W.iret (v := (-2147483648)) hx hb hr (fun t ht hW => ⟨⟨_, (), rfl, rfl, by rw [ht]; exact hP, va_K.moved hW.alike hK, hAe ▸ hD⟩, hS.F ht⟩) hS.2.2 dX9_get_17
  unfold fC_get at hm
  refine lv_iload_n hx hb dX9_get_0 rfl (lv_at hl 1 rfl) ?_
  have hPc := hP.sub (ws' := []) [] rfl
  have hDc := hD.sub (ws' := []) [] (by decide) rfl
  have hFc := va_free (wc := []) hD hS hA [] rfl
  obtain ⟨u_1, hc_1, hm⟩ := bd_ok hm
  refine va_calli (va_runS (As := [.int a1]) (rest := []) ⟨hx, hb, hml, hown, hts⟩ (kL_isPlace l dC dI cA ad s.heap.size a1 u_1 hc_1) (va_cwS 1 hts gX9_get_X6_isPlace rfl rfl rfl (by decide +kernel) ⟨Nat.le_of_ble_eq_true rfl, Nat.le_of_ble_eq_true rfl⟩) ⟨fun a U g mk q => by obtain ⟨q0, q1, qP, qK, qD⟩ := q; exact ⟨q0, q1, qP, va_K.moved (u := U) (U := U.calling g mk a) (Vm.Alike.refl U.vm) qK, qD⟩, fun U hU hW => ⟨rfl, by rw [hU], by rw [hU]; exact hPc, va_K.moved hW.alike hK, hDc.weaken (fun _ _ _ _ => trivial)⟩⟩ rfl rfl hl.1 rfl (lv_room (Nat.le_of_ble_eq_true rfl)) dX9_get_1 ⟨Nat.le_of_ble_eq_true rfl, Nat.le_of_ble_eq_true rfl⟩) hS (fun q _ h => hFc q h) hFc (fun r_1 _ t H1 locs ht hvm hw hB hz1 hk1 hS => ?_)
  obtain ⟨hP1, hK1, hD1⟩ := hB
  rw [ht] at hP1
  obtain ⟨hP, hD⟩ := va_join (wr := [oHC ad xHC_first xHC_second xHC_when xHC_ran, oShe ad xShe_latest, ar (ad 39) cA 240 gLitems, ar (ad 40) cA 4 gLforms, ar (ad 41) cA 4 gLsizes]) (w1 := []) hP hD [] [0, 1, 2, 3, 4] rfl rfl (by decide) (by decide) hk1 hFc hP1 hD1
  clear hPc hDc hFc hP1 hK1 hD1 hk1 hz1 hvm ht
  generalize H1 = H at hP hS ⊢
  have hP : va_P (dC, dI) vwCl [oHC ad xHC_first xHC_second xHC_when xHC_ran, oShe ad xShe_latest, ar (ad 39) cA 240 gLitems, ar (ad 40) cA 4 gLforms, ar (ad 41) cA 4 gLsizes] H := hP
  have hD : va_D A [oHC ad xHC_first xHC_second xHC_when xHC_ran, oShe ad xShe_latest, ar (ad 39) cA 240 gLitems, ar (ad 40) cA 4 gLforms, ar (ad 41) cA 4 gLsizes] := hD
  have hw := hw.symm
  subst hw
  refine lv_if_eq (tgt := 14) hx hb dX9_get_4 (by decide) (fun c_2 => ?_) (fun c_2 => ?_)
  · have hm := it_pos c_2 hm
    exact b_14 _ hm _ _ hP hD hS _ (lv_sub hl [] rfl)
  · have hm := it_neg c_2 hm
    refine lv_iload_n hx hb dX9_get_7 rfl (lv_at hl 2 rfl) ?_
    have hPc := hP.sub (ws' := []) [] rfl
    have hDc := hD.sub (ws' := []) [] (by decide) rfl
    have hFc := va_free (wc := []) hD hS hA [] rfl
    obtain ⟨u_3, hc_3, hm⟩ := bd_ok hm
    refine va_calli (va_runS (As := [.int a2]) (rest := []) ⟨hx, hb, hml, hown, hts⟩ (kL_isForm l dC dI cA ad H.size a2 u_3 hc_3) (va_cwS 1 hts gX9_get_X6_isForm rfl rfl rfl (by decide +kernel) ⟨Nat.le_of_ble_eq_true rfl, Nat.le_of_ble_eq_true rfl⟩) ⟨fun a U g mk q => by obtain ⟨q0, q1, qP, qK, qD⟩ := q; exact ⟨q0, q1, qP, va_K.moved (u := U) (U := U.calling g mk a) (Vm.Alike.refl U.vm) qK, qD⟩, fun U hU hW => ⟨rfl, by rw [hU], by rw [hU]; exact hPc, va_K.moved hW.alike hK, hDc.weaken (fun _ _ _ _ => trivial)⟩⟩ rfl rfl hl.1 rfl (lv_room (Nat.le_of_ble_eq_true rfl)) dX9_get_8 ⟨Nat.le_of_ble_eq_true rfl, Nat.le_of_ble_eq_true rfl⟩) hS (fun q _ h => hFc q h) hFc (fun r_3 _ t H1 locs ht hvm hw hB hz1 hk1 hS => ?_)
    obtain ⟨hP1, hK1, hD1⟩ := hB
    rw [ht] at hP1
    obtain ⟨hP, hD⟩ := va_join (wr := [oHC ad xHC_first xHC_second xHC_when xHC_ran, oShe ad xShe_latest, ar (ad 39) cA 240 gLitems, ar (ad 40) cA 4 gLforms, ar (ad 41) cA 4 gLsizes]) (w1 := []) hP hD [] [0, 1, 2, 3, 4] rfl rfl (by decide) (by decide) hk1 hFc hP1 hD1
    clear hPc hDc hFc hP1 hK1 hD1 hk1 hz1 hvm ht
    generalize H1 = H at hP hS ⊢
    have hP : va_P (dC, dI) vwCl [oHC ad xHC_first xHC_second xHC_when xHC_ran, oShe ad xShe_latest, ar (ad 39) cA 240 gLitems, ar (ad 40) cA 4 gLforms, ar (ad 41) cA 4 gLsizes] H := hP
    have hD : va_D A [oHC ad xHC_first xHC_second xHC_when xHC_ran, oShe ad xShe_latest, ar (ad 39) cA 240 gLitems, ar (ad 40) cA 4 gLforms, ar (ad 41) cA 4 gLsizes] := hD
    have hw := hw.symm
    subst hw
    refine lv_if_ne (tgt := 18) hx hb dX9_get_11 (by decide) (fun c_4 => ?_) (fun c_4 => ?_)
    · have hm := it_neg c_4 hm
      refine lv_aload_n hx hb dX9_get_18 rfl (lv_at hl 0 rfl) ?_
      refine va_get (D := (dC, dI)) (ci := 9) (v := .ref (ad 38)) (C := RX9) (T := TX9) (N := 12) hx hb hts hinX9 hown hK hP 0 rfl rfl 7 (by decide) hl_68 (fun _ h9 => h9) rfl dX9_get_19 ?_
      refine lv_iload_n hx hb dX9_get_22 rfl (lv_at hl 1 rfl) ?_
      refine lv_iload_n hx hb dX9_get_23 rfl (lv_at hl 2 rfl) ?_
      refine lv_iload_n hx hb dX9_get_24 rfl (lv_at hl 3 rfl) ?_
      have hPc := hP.sub (ws' := [oShe ad xShe_latest, ar (ad 40) cA 4 gLforms, ar (ad 41) cA 4 gLsizes]) [1, 3, 4] rfl
      have hDc := hD.sub (ws' := [oShe ad xShe_latest, ar (ad 40) cA 4 gLforms, ar (ad 41) cA 4 gLsizes]) [1, 3, 4] (by decide) rfl
      have hFc := va_free (wc := [oShe ad xShe_latest, ar (ad 40) cA 4 gLforms, ar (ad 41) cA 4 gLsizes]) hD hS hA [1, 3, 4] rfl
      obtain ⟨u_5, hc_5, hm⟩ := bd_ok hm
      refine va_calli (va_runV (As := [.int a1, .int a2, .int a3]) (rest := []) ⟨hx, hb, hml, hown, hts⟩ (kL_findingAt l dC dI cA ad H.size a1 a2 a3 xShe_latest gLforms gLsizes u_5 hc_5) (cwV 3 hts gX9_get_X6_findingAt rfl rfl rfl (by decide +kernel) ⟨Nat.le_of_ble_eq_true rfl, Nat.le_of_ble_eq_true rfl⟩) ⟨fun a U g mk q => by obtain ⟨q0, q1, qP, qK, qD⟩ := q; exact ⟨q0, q1, qP, va_K.moved (u := U) (U := U.calling g mk a) (Vm.Alike.refl U.vm) qK, qD⟩, va_recv hK hPc (ci := 6) (q0 := 0) rfl rfl, fun U hU hW => ⟨rfl, by rw [hU], by rw [hU]; exact hPc, va_K.moved hW.alike hK, hDc.weaken (fun _ _ _ _ => trivial)⟩⟩ rfl rfl hl.1 rfl (lv_room (Nat.le_of_ble_eq_true rfl)) dX9_get_25 ⟨Nat.le_of_ble_eq_true rfl, Nat.le_of_ble_eq_true rfl⟩) hS (fun q _ h => hFc q h) hFc (fun r_5 _ t H1 locs ht hvm hw hB hz1 hk1 hS => ?_)
      obtain ⟨hP1, hK1, hD1⟩ := hB
      rw [ht] at hP1
      obtain ⟨hP, hD⟩ := va_join (wr := [oHC ad xHC_first xHC_second xHC_when xHC_ran, ar (ad 39) cA 240 gLitems]) (w1 := [oShe ad xShe_latest, ar (ad 40) cA 4 gLforms, ar (ad 41) cA 4 gLsizes]) hP hD [1, 3, 4] [0, 2] rfl rfl (by decide) (by decide) hk1 hFc hP1 hD1
      clear hPc hDc hFc hP1 hK1 hD1 hk1 hz1 hvm ht
      generalize H1 = H at hP hS ⊢
      have hP : va_P (dC, dI) vwCl [oHC ad xHC_first xHC_second xHC_when xHC_ran, oShe ad xShe_latest, ar (ad 39) cA 240 gLitems, ar (ad 40) cA 4 gLforms, ar (ad 41) cA 4 gLsizes] H := hP.sub [0, 2, 1, 3, 4] rfl
      have hD : va_D A [oHC ad xHC_first xHC_second xHC_when xHC_ran, oShe ad xShe_latest, ar (ad 39) cA 240 gLitems, ar (ad 40) cA 4 gLforms, ar (ad 41) cA 4 gLsizes] := hD.sub [0, 2, 1, 3, 4] (by decide) rfl
      have hw := hw.symm
      subst hw
      refine lv_istore (lv' := [(4, .int u_5), (0, .ref (ad 0)), (1, .int a1), (2, .int a2), (3, .int a3)]) hx hb dX9_get_28 hl (by decide) rfl (fun ls hl => ?_)
      refine lv_iload hx hb dX9_get_30 (lv_at hl 0 rfl) ?_
      refine lv_if_eq (tgt := 49) hx hb dX9_get_32 (by decide) (fun c_6 => ?_) (fun c_6 => ?_)
      · have hm := it_pos c_6 hm
        refine lv_aload_n hx hb dX9_get_49 rfl (lv_at hl 1 rfl) ?_
        refine va_get (D := (dC, dI)) (ci := 9) (v := .ref (ad 38)) (C := RX9) (T := TX9) (N := 12) hx hb hts hinX9 hown hK hP 0 rfl rfl 7 (by decide) hl_68 (fun _ h9 => h9) rfl dX9_get_50 ?_
        refine lv_iload_n hx hb dX9_get_53 rfl (lv_at hl 2 rfl) ?_
        refine lv_iload_n hx hb dX9_get_54 rfl (lv_at hl 4 rfl) ?_
        have hPc := hP.sub (ws' := [oShe ad xShe_latest, ar (ad 39) cA 240 gLitems]) [1, 2] rfl
        have hDc := hD.sub (ws' := [oShe ad xShe_latest, ar (ad 39) cA 240 gLitems]) [1, 2] (by decide) rfl
        have hFc := va_free (wc := [oShe ad xShe_latest, ar (ad 39) cA 240 gLitems]) hD hS hA [1, 2] rfl
        obtain ⟨u_7, hc_7, hm⟩ := bd_ok hm
        refine va_calli (va_runV (As := [.int a1, .int a3]) (rest := []) ⟨hx, hb, hml, hown, hts⟩ (kL_itemAt l dC dI cA ad H.size a1 a3 xShe_latest gLitems u_7 hc_7) (cwV 2 hts gX9_get_X6_itemAt rfl rfl rfl (by decide +kernel) ⟨Nat.le_of_ble_eq_true rfl, Nat.le_of_ble_eq_true rfl⟩) ⟨fun a U g mk q => by obtain ⟨q0, q1, qP, qK, qD⟩ := q; exact ⟨q0, q1, qP, va_K.moved (u := U) (U := U.calling g mk a) (Vm.Alike.refl U.vm) qK, qD⟩, va_recv hK hPc (ci := 6) (q0 := 0) rfl rfl, fun U hU hW => ⟨rfl, by rw [hU], by rw [hU]; exact hPc, va_K.moved hW.alike hK, hDc.weaken (fun _ _ _ _ => trivial)⟩⟩ rfl rfl hl.1 rfl (lv_room (Nat.le_of_ble_eq_true rfl)) dX9_get_55 ⟨Nat.le_of_ble_eq_true rfl, Nat.le_of_ble_eq_true rfl⟩) hS (fun q _ h => hFc q h) hFc (fun r_7 _ t H1 locs ht hvm hw hB hz1 hk1 hS => ?_)
        obtain ⟨hP1, hK1, hD1⟩ := hB
        rw [ht] at hP1
        obtain ⟨hP, hD⟩ := va_join (wr := [oHC ad xHC_first xHC_second xHC_when xHC_ran, ar (ad 40) cA 4 gLforms, ar (ad 41) cA 4 gLsizes]) (w1 := [oShe ad xShe_latest, ar (ad 39) cA 240 gLitems]) hP hD [1, 2] [0, 3, 4] rfl rfl (by decide) (by decide) hk1 hFc hP1 hD1
        clear hPc hDc hFc hP1 hK1 hD1 hk1 hz1 hvm ht
        generalize H1 = H at hP hS ⊢
        have hP : va_P (dC, dI) vwCl [oHC ad xHC_first xHC_second xHC_when xHC_ran, oShe ad xShe_latest, ar (ad 39) cA 240 gLitems, ar (ad 40) cA 4 gLforms, ar (ad 41) cA 4 gLsizes] H := hP.sub [0, 3, 4, 1, 2] rfl
        have hD : va_D A [oHC ad xHC_first xHC_second xHC_when xHC_ran, oShe ad xShe_latest, ar (ad 39) cA 240 gLitems, ar (ad 40) cA 4 gLforms, ar (ad 41) cA 4 gLsizes] := hD.sub [0, 3, 4, 1, 2] (by decide) rfl
        have hw := hw.symm
        subst hw
        obtain rfl := Option.some.inj hm
        subst hQ
        exact W.iret (v := u_7) hx hb hr (fun t ht hW => ⟨⟨_, (), rfl, rfl, by rw [ht]; exact hP, va_K.moved hW.alike hK, hAe ▸ hD⟩, hS.F ht⟩) hS.2.2 dX9_get_58
      · have hm := it_neg c_6 hm
        refine lv_aload_n hx hb dX9_get_35 rfl (lv_at hl 1 rfl) ?_
        refine va_get (D := (dC, dI)) (ci := 9) (v := .ref (ad 38)) (C := RX9) (T := TX9) (N := 12) hx hb hts hinX9 hown hK hP 0 rfl rfl 7 (by decide) hl_68 (fun _ h9 => h9) rfl dX9_get_36 ?_
        refine lv_iload hx hb dX9_get_39 (lv_at hl 0 rfl) ?_
        have hPc := hP.sub (ws' := [oShe ad xShe_latest]) [1] rfl
        have hDc := hD.sub (ws' := [oShe ad xShe_latest]) [1] (by decide) rfl
        have hFc := va_free (wc := [oShe ad xShe_latest]) hD hS hA [1] rfl
        obtain ⟨u_8, hc_8, hm⟩ := bd_ok hm
        refine va_calli (va_runV (As := [.int u_5]) (rest := []) ⟨hx, hb, hml, hown, hts⟩ (kL_finding l dC dI cA ad H.size u_5 xShe_latest u_8 hc_8) (cwV 1 hts gX9_get_X6_finding rfl rfl rfl (by decide +kernel) ⟨Nat.le_of_ble_eq_true rfl, Nat.le_of_ble_eq_true rfl⟩) ⟨fun a U g mk q => by obtain ⟨q0, q1, qP, qK, qD⟩ := q; exact ⟨q0, q1, qP, va_K.moved (u := U) (U := U.calling g mk a) (Vm.Alike.refl U.vm) qK, qD⟩, va_recv hK hPc (ci := 6) (q0 := 0) rfl rfl, fun U hU hW => ⟨rfl, by rw [hU], by rw [hU]; exact hPc, va_K.moved hW.alike hK, hDc.weaken (fun _ _ _ _ => trivial)⟩⟩ rfl rfl hl.1 rfl (lv_room (Nat.le_of_ble_eq_true rfl)) dX9_get_41 ⟨Nat.le_of_ble_eq_true rfl, Nat.le_of_ble_eq_true rfl⟩) hS (fun q _ h => hFc q h) hFc (fun r_8 _ t H1 locs ht hvm hw hB hz1 hk1 hS => ?_)
        obtain ⟨hP1, hK1, hD1⟩ := hB
        rw [ht] at hP1
        obtain ⟨hP, hD⟩ := va_join (wr := [oHC ad xHC_first xHC_second xHC_when xHC_ran, ar (ad 39) cA 240 gLitems, ar (ad 40) cA 4 gLforms, ar (ad 41) cA 4 gLsizes]) (w1 := [oShe ad u_8.2]) hP hD [1] [0, 2, 3, 4] rfl rfl (by decide) (by decide) hk1 hFc hP1 hD1
        clear hPc hDc hFc hP1 hK1 hD1 hk1 hz1 hvm ht
        generalize H1 = H at hP hS ⊢
        have hP : va_P (dC, dI) vwCl [oHC ad xHC_first xHC_second xHC_when xHC_ran, oShe ad u_8.2, ar (ad 39) cA 240 gLitems, ar (ad 40) cA 4 gLforms, ar (ad 41) cA 4 gLsizes] H := hP.sub [0, 4, 1, 2, 3] rfl
        have hD : va_D A [oHC ad xHC_first xHC_second xHC_when xHC_ran, oShe ad u_8.2, ar (ad 39) cA 240 gLitems, ar (ad 40) cA 4 gLforms, ar (ad 41) cA 4 gLsizes] := hD.sub [0, 4, 1, 2, 3] (by decide) rfl
        have hw := hw.symm
        subst hw
        refine lv_pop hx hb dX9_get_44 rfl ?_
        refine lv_ldcw hx hb hown hw_0 dX9_get_45 ?_
        obtain rfl := Option.some.inj hm
        subst hQ
        exact W.iret (v := (-2147483648)) hx hb hr (fun t ht hW => ⟨⟨_, (), rfl, rfl, by rw [ht]; exact hP, va_K.moved hW.alike hK, hAe ▸ hD⟩, hS.F ht⟩) hS.2.2 dX9_get_48
    · have hm := it_pos c_4 hm
      exact b_14 _ hm _ _ hP hD hS _ (lv_sub hl [] rfl)

set_option maxHeartbeats 4000000 in
set_option maxRecDepth 100000 in
theorem kL_hasItems (l : Launch) (dC : Nat → ClassId) (dI : Nat → Nat → Nat) (cA : ClassId) (ad : Nat → Nat) (sz : Nat) (a1 : Int32) (a2 : Int32) (a3 : Int32) (xShe_latest : Int32) (gLsizes : Nat → Int32) (u : Int32) (hm : fL_hasItems a1 a2 a3 gLsizes = some u) : Met l yX6_hasItems wsX6_hasItems ({ frames := 0, cells := 0, slots := 0, locals := 0 }) (va_Pc [.ref (ad 38), .int a1, .int a2, .int a3] (fun U => U.heap.size = sz ∧ va_P (dC, dI) vwCl [oShe ad xShe_latest, ar (ad 41) cA 4 gLsizes] U.heap ∧ va_K (dC, dI) vwCl [(cA, .int)] U ∧ va_D (fun _ => True) [oShe ad xShe_latest, ar (ad 41) cA 4 gLsizes])) (va_Qi (fun (r : Int32) (_ : Unit) => r = u) (fun (_ : Unit) t => va_P (dC, dI) vwCl [oShe ad xShe_latest, ar (ad 41) cA 4 gLsizes] t.heap ∧ va_K (dC, dI) vwCl [(cA, .int)] t ∧ va_D (va_A [oShe ad xShe_latest, ar (ad 41) cA 4 gLsizes] sz) [oShe ad xShe_latest, ar (ad 41) cA 4 gLsizes]) (va_A [oShe ad xShe_latest, ar (ad 41) cA 4 gLsizes] sz)) 0 0 (va_A [oShe ad xShe_latest, ar (ad 41) cA 4 gLsizes] sz) := by
  refine Met.ofW (cc := cX6_hasItems) (maxL := 4) (ret := (some .boolean)) (by decide) rfl ?_
  intro p e s m args below meth c s₁ B hml hv
  obtain ⟨rfl, hsz, hP, hK, hD0⟩ := hv
  have hx := B.exec
  have hb := B.bytes
  have hr := B.returns
  have hts := atoms_spec (ws := wsX6_hasItems) B.pre
  have hown : s.vm.findClass RX6 = some m.cls := findClass_of_methodNamed B.named
  have hlocks := B.notSynchronized
  subst hsz
  have hD := hD0.self (sz := s.heap.size)
  generalize hAe : va_A [oShe ad xShe_latest, ar (ad 41) cA 4 gLsizes] s.heap.size = A at hD ⊢
  have hA : ∀ q : Nat, s.heap.size ≤ q → A q := fun q h => by rw [← hAe]; exact Or.inr h
  have hS : va_S A s.heap s.heap [] := va_S.rf
  have hl := lv_entry ([.ref (ad 38), .int a1, .int a2, .int a3]) (n := 4) (Nat.le_of_ble_eq_true rfl)
  rw [lg_entry_eq]
  generalize (lg_sl ([.ref (ad 38), .int a1, .int a2, .int a3]) ++ List.replicate (4 - (lg_sl ([.ref (ad 38), .int a1, .int a2, .int a3])).length) Slot.unset).toArray = ls at hl ⊢
  have hl : lv_has ls 4 [(0, .ref (ad 38)), (1, .int a1), (2, .int a2), (3, .int a3)] := hl
  refine wk_Q (fun QQ hQ => ?_)
  have hinX6 : ∀ w ∈ wsX60, w ∈ wsX6_hasItems := fun w h => List.mem_cons_of_mem _ (inlX6 w h)
  have hl_18 := hts (.fieldLink RX6 18 "HandCensus$Shelf" "sizes" "[I") (List.mem_cons_of_mem _ (in_r6 _ (List.mem_of_getElem? (i := 9) rfl)))
  unfold fL_hasItems at hm
  refine lv_iload_n hx hb dX6_hasItems_0 rfl (lv_at hl 2 rfl) ?_
  refine lv_if_lt (tgt := 34) hx hb dX6_hasItems_1 (by decide) (fun c_1 => ?_) (fun c_1 => ?_)
  · have hm := it_pos c_1 hm
    refine lv_iconst (v := 0) hx hb dX6_hasItems_34 (by decide) ?_
    obtain rfl := Option.some.inj hm
    subst hQ
    exact W.zret (v := 0) hx hb hr rfl (fun t ht hW => ⟨⟨_, (), rfl, rfl, by rw [ht]; exact hP, va_K.moved hW.alike hK, hAe ▸ hD⟩, hS.F ht⟩) hS.2.2 dX6_hasItems_35
  · have hm := it_neg c_1 hm
    refine lv_iload_n hx hb dX6_hasItems_4 rfl (lv_at hl 3 rfl) ?_
    refine lv_if_lt (tgt := 34) hx hb dX6_hasItems_5 (by decide) (fun c_2 => ?_) (fun c_2 => ?_)
    · have hm := it_pos c_2 hm
      refine lv_iconst (v := 0) hx hb dX6_hasItems_34 (by decide) ?_
      obtain rfl := Option.some.inj hm
      subst hQ
      exact W.zret (v := 0) hx hb hr rfl (fun t ht hW => ⟨⟨_, (), rfl, rfl, by rw [ht]; exact hP, va_K.moved hW.alike hK, hAe ▸ hD⟩, hS.F ht⟩) hS.2.2 dX6_hasItems_35
    · have hm := it_neg c_2 hm
      refine lv_iload_n hx hb dX6_hasItems_8 rfl (lv_at hl 3 rfl) ?_
      refine lv_aload_n hx hb dX6_hasItems_9 rfl (lv_at hl 0 rfl) ?_
      refine va_get (D := (dC, dI)) (ci := 6) (v := .ref (ad 41)) (C := RX6) (T := TX6) (N := 4) hx hb hts hinX6 hown hK hP 0 rfl rfl 2 (by decide) hl_18 (fun _ h9 => h9) rfl dX6_hasItems_10 ?_
      refine lv_iload_n hx hb dX6_hasItems_13 rfl (lv_at hl 1 rfl) ?_
      obtain ⟨i_3, hm⟩ := ck_ok hm
      refine va_iald hx hb hK hP 1 0 rfl rfl i_3 dX6_hasItems_14 ?_
      refine lv_icmp_gt (tgt := 34) hx hb dX6_hasItems_15 (by decide) (fun c_4 => ?_) (fun c_4 => ?_)
      · have hm := it_pos c_4 hm
        refine lv_iconst (v := 0) hx hb dX6_hasItems_34 (by decide) ?_
        obtain rfl := Option.some.inj hm
        subst hQ
        exact W.zret (v := 0) hx hb hr rfl (fun t ht hW => ⟨⟨_, (), rfl, rfl, by rw [ht]; exact hP, va_K.moved hW.alike hK, hAe ▸ hD⟩, hS.F ht⟩) hS.2.2 dX6_hasItems_35
      · have hm := it_neg c_4 hm
        refine lv_iload_n hx hb dX6_hasItems_18 rfl (lv_at hl 2 rfl) ?_
        refine lv_aload_n hx hb dX6_hasItems_19 rfl (lv_at hl 0 rfl) ?_
        refine va_get (D := (dC, dI)) (ci := 6) (v := .ref (ad 41)) (C := RX6) (T := TX6) (N := 4) hx hb hts hinX6 hown hK hP 0 rfl rfl 2 (by decide) hl_18 (fun _ h9 => h9) rfl dX6_hasItems_20 ?_
        refine lv_iload_n hx hb dX6_hasItems_23 rfl (lv_at hl 1 rfl) ?_
        obtain ⟨i_5, hm⟩ := ck_ok hm
        refine va_iald hx hb hK hP 1 0 rfl rfl i_5 dX6_hasItems_24 ?_
        refine lv_iload_n hx hb dX6_hasItems_25 rfl (lv_at hl 3 rfl) ?_
        refine lv_isub hx hb dX6_hasItems_26 ?_
        refine lv_icmp_gt (tgt := 34) hx hb dX6_hasItems_27 (by decide) (fun c_6 => ?_) (fun c_6 => ?_)
        · have hm := it_pos c_6 hm
          refine lv_iconst (v := 0) hx hb dX6_hasItems_34 (by decide) ?_
          obtain rfl := Option.some.inj hm
          subst hQ
          exact W.zret (v := 0) hx hb hr rfl (fun t ht hW => ⟨⟨_, (), rfl, rfl, by rw [ht]; exact hP, va_K.moved hW.alike hK, hAe ▸ hD⟩, hS.F ht⟩) hS.2.2 dX6_hasItems_35
        · have hm := it_neg c_6 hm
          refine lv_iconst (v := 1) hx hb dX6_hasItems_30 (by decide) ?_
          refine lv_goto (tgt := 35) hx hb dX6_hasItems_31 (by decide) ?_
          obtain rfl := Option.some.inj hm
          subst hQ
          exact W.zret (v := 1) hx hb hr rfl (fun t ht hW => ⟨⟨_, (), rfl, rfl, by rw [ht]; exact hP, va_K.moved hW.alike hK, hAe ▸ hD⟩, hS.F ht⟩) hS.2.2 dX6_hasItems_35

set_option maxHeartbeats 4000000 in
set_option maxRecDepth 100000 in
theorem kL_copyItems (l : Launch) (dC : Nat → ClassId) (dI : Nat → Nat → Nat) (cA : ClassId) (ad : Nat → Nat) (sz : Nat) (a1 : Int32) (a2 : Int32) (a3 : Int32) (a4 : Int32) (a5 : Int32) (xShe_latest : Int32) (gLitems : Nat → Int32) (gLforms : Nat → Int32) (gLsizes : Nat → Int32) (u : Int32 × Int32 × (Nat → Int32)) (hm : fL_copyItems a1 a2 a3 a4 a5 xShe_latest gLitems gLforms gLsizes = some u) : Met l yX6_copyItems wsX6_copyItems ({ frames := 1, cells := 0, slots := 0, locals := 26 }) (va_Pc [.ref (ad 38), .int a1, .int a2, .int a3, .int a4, .int a5] (fun U => U.heap.size = sz ∧ va_P (dC, dI) vwCl [oShe ad xShe_latest, ar (ad 39) cA 240 gLitems, ar (ad 40) cA 4 gLforms, ar (ad 41) cA 4 gLsizes] U.heap ∧ va_K (dC, dI) vwCl [(cA, .int)] U ∧ va_D (fun _ => True) [oShe ad xShe_latest, ar (ad 39) cA 240 gLitems, ar (ad 40) cA 4 gLforms, ar (ad 41) cA 4 gLsizes])) (va_Qi (fun (r : Int32) (_ : Unit) => r = u.1) (fun (_ : Unit) t => va_P (dC, dI) vwCl [oShe ad u.2.1, ar (ad 39) cA 240 u.2.2, ar (ad 40) cA 4 gLforms, ar (ad 41) cA 4 gLsizes] t.heap ∧ va_K (dC, dI) vwCl [(cA, .int)] t ∧ va_D (va_A [oShe ad xShe_latest, ar (ad 39) cA 240 gLitems, ar (ad 40) cA 4 gLforms, ar (ad 41) cA 4 gLsizes] sz) [oShe ad u.2.1, ar (ad 39) cA 240 u.2.2, ar (ad 40) cA 4 gLforms, ar (ad 41) cA 4 gLsizes]) (va_A [oShe ad xShe_latest, ar (ad 39) cA 240 gLitems, ar (ad 40) cA 4 gLforms, ar (ad 41) cA 4 gLsizes] sz)) 0 0 (va_A [oShe ad xShe_latest, ar (ad 39) cA 240 gLitems, ar (ad 40) cA 4 gLforms, ar (ad 41) cA 4 gLsizes] sz) := by
  refine Met.ofW (cc := cX6_copyItems) (maxL := 6) (ret := (some .int)) (by decide) rfl ?_
  intro p e s m args below meth c s₁ B hml hv
  obtain ⟨rfl, hsz, hP, hK, hD0⟩ := hv
  have hx := B.exec
  have hb := B.bytes
  have hr := B.returns
  have hts := atoms_spec (ws := wsX6_copyItems) B.pre
  have hown : s.vm.findClass RX6 = some m.cls := findClass_of_methodNamed B.named
  have hlocks := B.notSynchronized
  subst hsz
  have hD := hD0.self (sz := s.heap.size)
  generalize hAe : va_A [oShe ad xShe_latest, ar (ad 39) cA 240 gLitems, ar (ad 40) cA 4 gLforms, ar (ad 41) cA 4 gLsizes] s.heap.size = A at hD ⊢
  have hA : ∀ q : Nat, s.heap.size ≤ q → A q := fun q h => by rw [← hAe]; exact Or.inr h
  have hS : va_S A s.heap s.heap [] := va_S.rf
  have hl := lv_entry ([.ref (ad 38), .int a1, .int a2, .int a3, .int a4, .int a5]) (n := 6) (Nat.le_of_ble_eq_true rfl)
  rw [lg_entry_eq]
  generalize (lg_sl ([.ref (ad 38), .int a1, .int a2, .int a3, .int a4, .int a5]) ++ List.replicate (6 - (lg_sl ([.ref (ad 38), .int a1, .int a2, .int a3, .int a4, .int a5])).length) Slot.unset).toArray = ls at hl ⊢
  have hl : lv_has ls 6 [(0, .ref (ad 38)), (1, .int a1), (2, .int a2), (3, .int a3), (4, .int a4), (5, .int a5)] := hl
  refine wk_Q (fun QQ hQ => ?_)
  have hinX6 : ∀ w ∈ wsX60, w ∈ wsX6_copyItems := fun w h => List.mem_cons_of_mem _ (inlX6 w h)
  have hl_15 := hts (.fieldLink RX6 15 "HandCensus$Shelf" "forms" "[I") (List.mem_cons_of_mem _ (in_r6 _ (List.mem_of_getElem? (i := 8) rfl)))
  have hl_11 := hts (.fieldLink RX6 11 "HandCensus$Shelf" "items" "[I") (List.mem_cons_of_mem _ (in_r6 _ (List.mem_of_getElem? (i := 7) rfl)))
  have hw_2 := hts (.methodLink RX6 47 arraycopyName) (List.mem_cons_of_mem _ (in_r43 _ (List.mem_of_getElem? (i := 3) rfl)))
  have hw_3 := hts (.native arraycopyName) (List.mem_cons_of_mem _ (in_r16 _ (List.mem_of_getElem? (i := 3) rfl)))
  have hw_4 := hts (.static arraycopyName) (List.mem_cons_of_mem _ (in_r16 _ (List.mem_of_getElem? (i := 4) rfl)))
  have hw_5 := hts (.initialized "java/lang/System") (List.mem_cons_of_mem _ (in_r16 _ (List.mem_of_getElem? (i := 5) rfl)))
  have b_66 : ∀ (xShe_latest_66 : Int32) (gLitems_66 : Nat → Int32), fL_copyItems_66 xShe_latest_66 gLitems_66 = some u → ∀ (H : Heap) (locs : List Loc), va_P (dC, dI) vwCl [oShe ad xShe_latest_66, ar (ad 39) cA 240 gLitems_66, ar (ad 40) cA 4 gLforms, ar (ad 41) cA 4 gLsizes] H → va_D A [oShe ad xShe_latest_66, ar (ad 39) cA 240 gLitems_66, ar (ad 40) cA 4 gLforms, ar (ad 41) cA 4 gLsizes] → va_S A s.heap H locs → ∀ ls : Array Slot, lv_has ls 6 [(0, .ref (ad 38))] → W p l e (headSpec wsX6_copyItems ({ frames := 1, cells := 0, slots := 0, locals := 26 })).room s m ([.ref (ad 38), .int a1, .int a2, .int a3, .int a4, .int a5] : List Value).toArray below meth c H locs 0 0 QQ (F0 m 66 ls []) := by
    intro xShe_latest_66 gLitems_66 hm H locs hP hD hS ls hl
    unfold fL_copyItems_66 at hm
    refine lv_aload_n hx hb dX6_copyItems_66 rfl (lv_at hl 0 rfl) ?_
    refine lv_iconst (v := 2) hx hb dX6_copyItems_67 (by decide) ?_
    have hPc := hP.sub (ws' := [oShe ad xShe_latest_66]) [0] rfl
    have hDc := hD.sub (ws' := [oShe ad xShe_latest_66]) [0] (by decide) rfl
    have hFc := va_free (wc := [oShe ad xShe_latest_66]) hD hS hA [0] rfl
    obtain ⟨u_1, hc_1, hm⟩ := bd_ok hm
    refine va_calli (va_runV (As := [.int 2]) (rest := []) ⟨hx, hb, hml, hown, hts⟩ (kL_finding l dC dI cA ad H.size 2 xShe_latest_66 u_1 hc_1) (cwV 1 hts gX6_copyItems_X6_finding rfl rfl rfl (by decide +kernel) ⟨Nat.le_of_ble_eq_true rfl, Nat.le_of_ble_eq_true rfl⟩) ⟨fun a U g mk q => by obtain ⟨q0, q1, qP, qK, qD⟩ := q; exact ⟨q0, q1, qP, va_K.moved (u := U) (U := U.calling g mk a) (Vm.Alike.refl U.vm) qK, qD⟩, va_recv hK hPc (ci := 6) (q0 := 0) rfl rfl, fun U hU hW => ⟨rfl, by rw [hU], by rw [hU]; exact hPc, va_K.moved hW.alike hK, hDc.weaken (fun _ _ _ _ => trivial)⟩⟩ rfl rfl hl.1 rfl (lv_room (Nat.le_of_ble_eq_true rfl)) dX6_copyItems_68 ⟨Nat.le_of_ble_eq_true rfl, Nat.le_of_ble_eq_true rfl⟩) hS (fun q _ h => hFc q h) hFc (fun r_1 _ t H1 locs ht hvm hw hB hz1 hk1 hS => ?_)
    obtain ⟨hP1, hK1, hD1⟩ := hB
    rw [ht] at hP1
    obtain ⟨hP, hD⟩ := va_join (wr := [ar (ad 39) cA 240 gLitems_66, ar (ad 40) cA 4 gLforms, ar (ad 41) cA 4 gLsizes]) (w1 := [oShe ad u_1.2]) hP hD [0] [1, 2, 3] rfl rfl (by decide) (by decide) hk1 hFc hP1 hD1
    clear hPc hDc hFc hP1 hK1 hD1 hk1 hz1 hvm ht
    generalize H1 = H at hP hS ⊢
    have hP : va_P (dC, dI) vwCl [oShe ad u_1.2, ar (ad 39) cA 240 gLitems_66, ar (ad 40) cA 4 gLforms, ar (ad 41) cA 4 gLsizes] H := hP.sub [3, 0, 1, 2] rfl
    have hD : va_D A [oShe ad u_1.2, ar (ad 39) cA 240 gLitems_66, ar (ad 40) cA 4 gLforms, ar (ad 41) cA 4 gLsizes] := hD.sub [3, 0, 1, 2] (by decide) rfl
    have hw := hw.symm
    subst hw
    obtain rfl := Option.some.inj hm
    subst hQ
    exact W.iret (v := u_1.1) hx hb hr (fun t ht hW => ⟨⟨_, (), rfl, rfl, by rw [ht]; exact hP, va_K.moved hW.alike hK, hAe ▸ hD⟩, hS.F ht⟩) hS.2.2 dX6_copyItems_71
  have b_16 : ∀ (xShe_latest_16 : Int32) (gLitems_16 : Nat → Int32), fL_copyItems_16 xShe_latest_16 gLitems_16 = some u → ∀ (H : Heap) (locs : List Loc), va_P (dC, dI) vwCl [oShe ad xShe_latest_16, ar (ad 39) cA 240 gLitems_16, ar (ad 40) cA 4 gLforms, ar (ad 41) cA 4 gLsizes] H → va_D A [oShe ad xShe_latest_16, ar (ad 39) cA 240 gLitems_16, ar (ad 40) cA 4 gLforms, ar (ad 41) cA 4 gLsizes] → va_S A s.heap H locs → ∀ ls : Array Slot, lv_has ls 6 [(0, .ref (ad 38))] → W p l e (headSpec wsX6_copyItems ({ frames := 1, cells := 0, slots := 0, locals := 26 })).room s m ([.ref (ad 38), .int a1, .int a2, .int a3, .int a4, .int a5] : List Value).toArray below meth c H locs 0 0 QQ (F0 m 16 ls []) := by
    intro xShe_latest_16 gLitems_16 hm H locs hP hD hS ls hl
    unfold fL_copyItems_16 at hm
    refine lv_aload_n hx hb dX6_copyItems_16 rfl (lv_at hl 0 rfl) ?_
    refine lv_iconst (v := 1) hx hb dX6_copyItems_17 (by decide) ?_
    have hPc := hP.sub (ws' := [oShe ad xShe_latest_16]) [0] rfl
    have hDc := hD.sub (ws' := [oShe ad xShe_latest_16]) [0] (by decide) rfl
    have hFc := va_free (wc := [oShe ad xShe_latest_16]) hD hS hA [0] rfl
    obtain ⟨u_2, hc_2, hm⟩ := bd_ok hm
    refine va_calli (va_runV (As := [.int 1]) (rest := []) ⟨hx, hb, hml, hown, hts⟩ (kL_finding l dC dI cA ad H.size 1 xShe_latest_16 u_2 hc_2) (cwV 1 hts gX6_copyItems_X6_finding rfl rfl rfl (by decide +kernel) ⟨Nat.le_of_ble_eq_true rfl, Nat.le_of_ble_eq_true rfl⟩) ⟨fun a U g mk q => by obtain ⟨q0, q1, qP, qK, qD⟩ := q; exact ⟨q0, q1, qP, va_K.moved (u := U) (U := U.calling g mk a) (Vm.Alike.refl U.vm) qK, qD⟩, va_recv hK hPc (ci := 6) (q0 := 0) rfl rfl, fun U hU hW => ⟨rfl, by rw [hU], by rw [hU]; exact hPc, va_K.moved hW.alike hK, hDc.weaken (fun _ _ _ _ => trivial)⟩⟩ rfl rfl hl.1 rfl (lv_room (Nat.le_of_ble_eq_true rfl)) dX6_copyItems_18 ⟨Nat.le_of_ble_eq_true rfl, Nat.le_of_ble_eq_true rfl⟩) hS (fun q _ h => hFc q h) hFc (fun r_2 _ t H1 locs ht hvm hw hB hz1 hk1 hS => ?_)
    obtain ⟨hP1, hK1, hD1⟩ := hB
    rw [ht] at hP1
    obtain ⟨hP, hD⟩ := va_join (wr := [ar (ad 39) cA 240 gLitems_16, ar (ad 40) cA 4 gLforms, ar (ad 41) cA 4 gLsizes]) (w1 := [oShe ad u_2.2]) hP hD [0] [1, 2, 3] rfl rfl (by decide) (by decide) hk1 hFc hP1 hD1
    clear hPc hDc hFc hP1 hK1 hD1 hk1 hz1 hvm ht
    generalize H1 = H at hP hS ⊢
    have hP : va_P (dC, dI) vwCl [oShe ad u_2.2, ar (ad 39) cA 240 gLitems_16, ar (ad 40) cA 4 gLforms, ar (ad 41) cA 4 gLsizes] H := hP.sub [3, 0, 1, 2] rfl
    have hD : va_D A [oShe ad u_2.2, ar (ad 39) cA 240 gLitems_16, ar (ad 40) cA 4 gLforms, ar (ad 41) cA 4 gLsizes] := hD.sub [3, 0, 1, 2] (by decide) rfl
    have hw := hw.symm
    subst hw
    obtain rfl := Option.some.inj hm
    subst hQ
    exact W.iret (v := u_2.1) hx hb hr (fun t ht hW => ⟨⟨_, (), rfl, rfl, by rw [ht]; exact hP, va_K.moved hW.alike hK, hAe ▸ hD⟩, hS.F ht⟩) hS.2.2 dX6_copyItems_21
  unfold fL_copyItems at hm
  refine lv_aload_n hx hb dX6_copyItems_0 rfl (lv_at hl 0 rfl) ?_
  refine lv_iload_n hx hb dX6_copyItems_1 rfl (lv_at hl 1 rfl) ?_
  have hPc := hP.sub (ws' := [oShe ad xShe_latest, ar (ad 40) cA 4 gLforms]) [0, 2] rfl
  have hDc := hD.sub (ws' := [oShe ad xShe_latest, ar (ad 40) cA 4 gLforms]) [0, 2] (by decide) rfl
  have hFc := va_free (wc := [oShe ad xShe_latest, ar (ad 40) cA 4 gLforms]) hD hS hA [0, 2] rfl
  obtain ⟨u_3, hc_3, hm⟩ := bd_ok hm
  refine va_calli (va_runV (As := [.int a1]) (rest := []) ⟨hx, hb, hml, hown, hts⟩ (kL_isLost l dC dI cA ad s.heap.size a1 xShe_latest gLforms u_3 hc_3) (cwV 1 hts gX6_copyItems_X6_isLost rfl rfl rfl (by decide +kernel) ⟨Nat.le_of_ble_eq_true rfl, Nat.le_of_ble_eq_true rfl⟩) ⟨fun a U g mk q => by obtain ⟨q0, q1, qP, qK, qD⟩ := q; exact ⟨q0, q1, qP, va_K.moved (u := U) (U := U.calling g mk a) (Vm.Alike.refl U.vm) qK, qD⟩, va_recv hK hPc (ci := 6) (q0 := 0) rfl rfl, fun U hU hW => ⟨rfl, by rw [hU], by rw [hU]; exact hPc, va_K.moved hW.alike hK, hDc.weaken (fun _ _ _ _ => trivial)⟩⟩ rfl rfl hl.1 rfl (lv_room (Nat.le_of_ble_eq_true rfl)) dX6_copyItems_2 ⟨Nat.le_of_ble_eq_true rfl, Nat.le_of_ble_eq_true rfl⟩) hS (fun q _ h => hFc q h) hFc (fun r_3 _ t H1 locs ht hvm hw hB hz1 hk1 hS => ?_)
  obtain ⟨hP1, hK1, hD1⟩ := hB
  rw [ht] at hP1
  obtain ⟨hP, hD⟩ := va_join (wr := [ar (ad 39) cA 240 gLitems, ar (ad 41) cA 4 gLsizes]) (w1 := [oShe ad xShe_latest, ar (ad 40) cA 4 gLforms]) hP hD [0, 2] [1, 3] rfl rfl (by decide) (by decide) hk1 hFc hP1 hD1
  clear hPc hDc hFc hP1 hK1 hD1 hk1 hz1 hvm ht
  generalize H1 = H at hP hS ⊢
  have hP : va_P (dC, dI) vwCl [oShe ad xShe_latest, ar (ad 39) cA 240 gLitems, ar (ad 40) cA 4 gLforms, ar (ad 41) cA 4 gLsizes] H := hP.sub [2, 0, 3, 1] rfl
  have hD : va_D A [oShe ad xShe_latest, ar (ad 39) cA 240 gLitems, ar (ad 40) cA 4 gLforms, ar (ad 41) cA 4 gLsizes] := hD.sub [2, 0, 3, 1] (by decide) rfl
  have hw := hw.symm
  subst hw
  refine lv_if_ne (tgt := 16) hx hb dX6_copyItems_5 (by decide) (fun c_4 => ?_) (fun c_4 => ?_)
  · have hm := it_neg c_4 hm
    exact b_16 _ _ hm _ _ hP hD hS _ (lv_sub hl [0] rfl)
  · have hm := it_pos c_4 hm
    refine lv_aload_n hx hb dX6_copyItems_8 rfl (lv_at hl 0 rfl) ?_
    refine lv_iload_n hx hb dX6_copyItems_9 rfl (lv_at hl 3 rfl) ?_
    have hPc := hP.sub (ws' := [oShe ad xShe_latest, ar (ad 40) cA 4 gLforms]) [0, 2] rfl
    have hDc := hD.sub (ws' := [oShe ad xShe_latest, ar (ad 40) cA 4 gLforms]) [0, 2] (by decide) rfl
    have hFc := va_free (wc := [oShe ad xShe_latest, ar (ad 40) cA 4 gLforms]) hD hS hA [0, 2] rfl
    obtain ⟨u_5, hc_5, hm⟩ := bd_ok hm
    refine va_calli (va_runV (As := [.int a3]) (rest := []) ⟨hx, hb, hml, hown, hts⟩ (kL_isLost l dC dI cA ad H.size a3 xShe_latest gLforms u_5 hc_5) (cwV 1 hts gX6_copyItems_X6_isLost rfl rfl rfl (by decide +kernel) ⟨Nat.le_of_ble_eq_true rfl, Nat.le_of_ble_eq_true rfl⟩) ⟨fun a U g mk q => by obtain ⟨q0, q1, qP, qK, qD⟩ := q; exact ⟨q0, q1, qP, va_K.moved (u := U) (U := U.calling g mk a) (Vm.Alike.refl U.vm) qK, qD⟩, va_recv hK hPc (ci := 6) (q0 := 0) rfl rfl, fun U hU hW => ⟨rfl, by rw [hU], by rw [hU]; exact hPc, va_K.moved hW.alike hK, hDc.weaken (fun _ _ _ _ => trivial)⟩⟩ rfl rfl hl.1 rfl (lv_room (Nat.le_of_ble_eq_true rfl)) dX6_copyItems_10 ⟨Nat.le_of_ble_eq_true rfl, Nat.le_of_ble_eq_true rfl⟩) hS (fun q _ h => hFc q h) hFc (fun r_5 _ t H1 locs ht hvm hw hB hz1 hk1 hS => ?_)
    obtain ⟨hP1, hK1, hD1⟩ := hB
    rw [ht] at hP1
    obtain ⟨hP, hD⟩ := va_join (wr := [ar (ad 39) cA 240 gLitems, ar (ad 41) cA 4 gLsizes]) (w1 := [oShe ad xShe_latest, ar (ad 40) cA 4 gLforms]) hP hD [0, 2] [1, 3] rfl rfl (by decide) (by decide) hk1 hFc hP1 hD1
    clear hPc hDc hFc hP1 hK1 hD1 hk1 hz1 hvm ht
    generalize H1 = H at hP hS ⊢
    have hP : va_P (dC, dI) vwCl [oShe ad xShe_latest, ar (ad 39) cA 240 gLitems, ar (ad 40) cA 4 gLforms, ar (ad 41) cA 4 gLsizes] H := hP.sub [2, 0, 3, 1] rfl
    have hD : va_D A [oShe ad xShe_latest, ar (ad 39) cA 240 gLitems, ar (ad 40) cA 4 gLforms, ar (ad 41) cA 4 gLsizes] := hD.sub [2, 0, 3, 1] (by decide) rfl
    have hw := hw.symm
    subst hw
    refine lv_if_eq (tgt := 22) hx hb dX6_copyItems_13 (by decide) (fun c_6 => ?_) (fun c_6 => ?_)
    · have hm := it_pos c_6 hm
      refine lv_aload_n hx hb dX6_copyItems_22 rfl (lv_at hl 0 rfl) ?_
      refine va_get (D := (dC, dI)) (ci := 6) (v := .ref (ad 40)) (C := RX6) (T := TX6) (N := 4) hx hb hts hinX6 hown hK hP 0 rfl rfl 1 (by decide) hl_15 (fun _ h9 => h9) rfl dX6_copyItems_23 ?_
      refine lv_iload_n hx hb dX6_copyItems_26 rfl (lv_at hl 1 rfl) ?_
      obtain ⟨i_7, hm⟩ := ck_ok hm
      refine va_iald hx hb hK hP 2 0 rfl rfl i_7 dX6_copyItems_27 ?_
      refine lv_aload_n hx hb dX6_copyItems_28 rfl (lv_at hl 0 rfl) ?_
      refine va_get (D := (dC, dI)) (ci := 6) (v := .ref (ad 40)) (C := RX6) (T := TX6) (N := 4) hx hb hts hinX6 hown hK hP 0 rfl rfl 1 (by decide) hl_15 (fun _ h9 => h9) rfl dX6_copyItems_29 ?_
      refine lv_iload_n hx hb dX6_copyItems_32 rfl (lv_at hl 3 rfl) ?_
      obtain ⟨i_8, hm⟩ := ck_ok hm
      refine va_iald hx hb hK hP 2 0 rfl rfl i_8 dX6_copyItems_33 ?_
      refine lv_icmp_eq (tgt := 43) hx hb dX6_copyItems_34 (by decide) (fun c_9 => ?_) (fun c_9 => ?_)
      · have hm := it_pos c_9 hm
        refine lv_aload_n hx hb dX6_copyItems_43 rfl (lv_at hl 0 rfl) ?_
        refine lv_iload_n hx hb dX6_copyItems_44 rfl (lv_at hl 1 rfl) ?_
        refine lv_iload_n hx hb dX6_copyItems_45 rfl (lv_at hl 2 rfl) ?_
        refine lv_iload hx hb dX6_copyItems_46 (lv_at hl 5 rfl) ?_
        have hPc := hP.sub (ws' := [oShe ad xShe_latest, ar (ad 41) cA 4 gLsizes]) [0, 3] rfl
        have hDc := hD.sub (ws' := [oShe ad xShe_latest, ar (ad 41) cA 4 gLsizes]) [0, 3] (by decide) rfl
        have hFc := va_free (wc := [oShe ad xShe_latest, ar (ad 41) cA 4 gLsizes]) hD hS hA [0, 3] rfl
        obtain ⟨u_10, hc_10, hm⟩ := bd_ok hm
        refine va_calli (va_runV (As := [.int a1, .int a2, .int a5]) (rest := []) ⟨hx, hb, hml, hown, hts⟩ (kL_hasItems l dC dI cA ad H.size a1 a2 a5 xShe_latest gLsizes u_10 hc_10) (cwV 3 hts gX6_copyItems_X6_hasItems rfl rfl rfl (by decide +kernel) ⟨Nat.le_of_ble_eq_true rfl, Nat.le_of_ble_eq_true rfl⟩) ⟨fun a U g mk q => by obtain ⟨q0, q1, qP, qK, qD⟩ := q; exact ⟨q0, q1, qP, va_K.moved (u := U) (U := U.calling g mk a) (Vm.Alike.refl U.vm) qK, qD⟩, va_recv hK hPc (ci := 6) (q0 := 0) rfl rfl, fun U hU hW => ⟨rfl, by rw [hU], by rw [hU]; exact hPc, va_K.moved hW.alike hK, hDc.weaken (fun _ _ _ _ => trivial)⟩⟩ rfl rfl hl.1 rfl (lv_room (Nat.le_of_ble_eq_true rfl)) dX6_copyItems_48 ⟨Nat.le_of_ble_eq_true rfl, Nat.le_of_ble_eq_true rfl⟩) hS (fun q _ h => hFc q h) hFc (fun r_10 _ t H1 locs ht hvm hw hB hz1 hk1 hS => ?_)
        obtain ⟨hP1, hK1, hD1⟩ := hB
        rw [ht] at hP1
        obtain ⟨hP, hD⟩ := va_join (wr := [ar (ad 39) cA 240 gLitems, ar (ad 40) cA 4 gLforms]) (w1 := [oShe ad xShe_latest, ar (ad 41) cA 4 gLsizes]) hP hD [0, 3] [1, 2] rfl rfl (by decide) (by decide) hk1 hFc hP1 hD1
        clear hPc hDc hFc hP1 hK1 hD1 hk1 hz1 hvm ht
        generalize H1 = H at hP hS ⊢
        have hP : va_P (dC, dI) vwCl [oShe ad xShe_latest, ar (ad 39) cA 240 gLitems, ar (ad 40) cA 4 gLforms, ar (ad 41) cA 4 gLsizes] H := hP.sub [2, 0, 1, 3] rfl
        have hD : va_D A [oShe ad xShe_latest, ar (ad 39) cA 240 gLitems, ar (ad 40) cA 4 gLforms, ar (ad 41) cA 4 gLsizes] := hD.sub [2, 0, 1, 3] (by decide) rfl
        have hw := hw.symm
        subst hw
        refine lv_if_eq (tgt := 66) hx hb dX6_copyItems_51 (by decide) (fun c_11 => ?_) (fun c_11 => ?_)
        · have hm := it_pos c_11 hm
          exact b_66 _ _ hm _ _ hP hD hS _ (lv_sub hl [0] rfl)
        · have hm := it_neg c_11 hm
          refine lv_aload_n hx hb dX6_copyItems_54 rfl (lv_at hl 0 rfl) ?_
          refine lv_iload_n hx hb dX6_copyItems_55 rfl (lv_at hl 3 rfl) ?_
          refine lv_iload hx hb dX6_copyItems_56 (lv_at hl 4 rfl) ?_
          refine lv_iload hx hb dX6_copyItems_58 (lv_at hl 5 rfl) ?_
          have hPc := hP.sub (ws' := [oShe ad xShe_latest, ar (ad 41) cA 4 gLsizes]) [0, 3] rfl
          have hDc := hD.sub (ws' := [oShe ad xShe_latest, ar (ad 41) cA 4 gLsizes]) [0, 3] (by decide) rfl
          have hFc := va_free (wc := [oShe ad xShe_latest, ar (ad 41) cA 4 gLsizes]) hD hS hA [0, 3] rfl
          obtain ⟨u_12, hc_12, hm⟩ := bd_ok hm
          refine va_calli (va_runV (As := [.int a3, .int a4, .int a5]) (rest := []) ⟨hx, hb, hml, hown, hts⟩ (kL_hasItems l dC dI cA ad H.size a3 a4 a5 xShe_latest gLsizes u_12 hc_12) (cwV 3 hts gX6_copyItems_X6_hasItems rfl rfl rfl (by decide +kernel) ⟨Nat.le_of_ble_eq_true rfl, Nat.le_of_ble_eq_true rfl⟩) ⟨fun a U g mk q => by obtain ⟨q0, q1, qP, qK, qD⟩ := q; exact ⟨q0, q1, qP, va_K.moved (u := U) (U := U.calling g mk a) (Vm.Alike.refl U.vm) qK, qD⟩, va_recv hK hPc (ci := 6) (q0 := 0) rfl rfl, fun U hU hW => ⟨rfl, by rw [hU], by rw [hU]; exact hPc, va_K.moved hW.alike hK, hDc.weaken (fun _ _ _ _ => trivial)⟩⟩ rfl rfl hl.1 rfl (lv_room (Nat.le_of_ble_eq_true rfl)) dX6_copyItems_60 ⟨Nat.le_of_ble_eq_true rfl, Nat.le_of_ble_eq_true rfl⟩) hS (fun q _ h => hFc q h) hFc (fun r_12 _ t H1 locs ht hvm hw hB hz1 hk1 hS => ?_)
          obtain ⟨hP1, hK1, hD1⟩ := hB
          rw [ht] at hP1
          obtain ⟨hP, hD⟩ := va_join (wr := [ar (ad 39) cA 240 gLitems, ar (ad 40) cA 4 gLforms]) (w1 := [oShe ad xShe_latest, ar (ad 41) cA 4 gLsizes]) hP hD [0, 3] [1, 2] rfl rfl (by decide) (by decide) hk1 hFc hP1 hD1
          clear hPc hDc hFc hP1 hK1 hD1 hk1 hz1 hvm ht
          generalize H1 = H at hP hS ⊢
          have hP : va_P (dC, dI) vwCl [oShe ad xShe_latest, ar (ad 39) cA 240 gLitems, ar (ad 40) cA 4 gLforms, ar (ad 41) cA 4 gLsizes] H := hP.sub [2, 0, 1, 3] rfl
          have hD : va_D A [oShe ad xShe_latest, ar (ad 39) cA 240 gLitems, ar (ad 40) cA 4 gLforms, ar (ad 41) cA 4 gLsizes] := hD.sub [2, 0, 1, 3] (by decide) rfl
          have hw := hw.symm
          subst hw
          refine lv_if_ne (tgt := 72) hx hb dX6_copyItems_63 (by decide) (fun c_13 => ?_) (fun c_13 => ?_)
          · have hm := it_neg c_13 hm
            refine lv_aload_n hx hb dX6_copyItems_72 rfl (lv_at hl 0 rfl) ?_
            refine va_get (D := (dC, dI)) (ci := 6) (v := .ref (ad 39)) (C := RX6) (T := TX6) (N := 4) hx hb hts hinX6 hown hK hP 0 rfl rfl 0 (by decide) hl_11 (fun _ h9 => h9) rfl dX6_copyItems_73 ?_
            refine lv_iload_n hx hb dX6_copyItems_76 rfl (lv_at hl 1 rfl) ?_
            refine lv_bipush (v := 60) hx hb dX6_copyItems_77 (by decide) ?_
            refine lv_imul hx hb dX6_copyItems_79 ?_
            refine lv_iload_n hx hb dX6_copyItems_80 rfl (lv_at hl 2 rfl) ?_
            refine lv_iadd hx hb dX6_copyItems_81 ?_
            refine lv_aload_n hx hb dX6_copyItems_82 rfl (lv_at hl 0 rfl) ?_
            refine va_get (D := (dC, dI)) (ci := 6) (v := .ref (ad 39)) (C := RX6) (T := TX6) (N := 4) hx hb hts hinX6 hown hK hP 0 rfl rfl 0 (by decide) hl_11 (fun _ h9 => h9) rfl dX6_copyItems_83 ?_
            refine lv_iload_n hx hb dX6_copyItems_86 rfl (lv_at hl 3 rfl) ?_
            refine lv_bipush (v := 60) hx hb dX6_copyItems_87 (by decide) ?_
            refine lv_imul hx hb dX6_copyItems_89 ?_
            refine lv_iload hx hb dX6_copyItems_90 (lv_at hl 4 rfl) ?_
            refine lv_iadd hx hb dX6_copyItems_92 ?_
            refine lv_iload hx hb dX6_copyItems_93 (lv_at hl 5 rfl) ?_
            obtain ⟨⟨y1_14, y2_14, y3_14, y4_14, y5_14⟩, hm⟩ := ac_ok hm
            refine va_copyi hx hb (by rw [hml]; exact hl.1.symm) hown hw_2 hw_3 hw_4 hw_5 hK hP hD hS 1 1 0 0 rfl rfl rfl rfl rfl y1_14 y2_14 y3_14 y4_14 y5_14 (fun _ _ => rfl) (Nat.le_of_ble_eq_true rfl) (Nat.le_of_ble_eq_true rfl) dX6_copyItems_95 (fun H locs hP hD hS => ?_)
            have hP : va_P (dC, dI) vwCl [oShe ad xShe_latest, ar (ad 39) cA 240 (va_cpy gLitems gLitems ((a1 * 60) + a2).toNatClampNeg ((a3 * 60) + a4).toNatClampNeg a5.toNatClampNeg), ar (ad 40) cA 4 gLforms, ar (ad 41) cA 4 gLsizes] H := hP
            have hD : va_D A [oShe ad xShe_latest, ar (ad 39) cA 240 (va_cpy gLitems gLitems ((a1 * 60) + a2).toNatClampNeg ((a3 * 60) + a4).toNatClampNeg a5.toNatClampNeg), ar (ad 40) cA 4 gLforms, ar (ad 41) cA 4 gLsizes] := hD
            refine lv_iconst (v := 1) hx hb dX6_copyItems_98 (by decide) ?_
            obtain rfl := Option.some.inj hm
            subst hQ
            exact W.iret (v := 1) hx hb hr (fun t ht hW => ⟨⟨_, (), rfl, rfl, by rw [ht]; exact hP, va_K.moved hW.alike hK, hAe ▸ hD⟩, hS.F ht⟩) hS.2.2 dX6_copyItems_99
          · have hm := it_pos c_13 hm
            exact b_66 _ _ hm _ _ hP hD hS _ (lv_sub hl [0] rfl)
      · have hm := it_neg c_9 hm
        refine lv_aload_n hx hb dX6_copyItems_37 rfl (lv_at hl 0 rfl) ?_
        refine lv_iconst (v := 4) hx hb dX6_copyItems_38 (by decide) ?_
        have hPc := hP.sub (ws' := [oShe ad xShe_latest]) [0] rfl
        have hDc := hD.sub (ws' := [oShe ad xShe_latest]) [0] (by decide) rfl
        have hFc := va_free (wc := [oShe ad xShe_latest]) hD hS hA [0] rfl
        obtain ⟨u_15, hc_15, hm⟩ := bd_ok hm
        refine va_calli (va_runV (As := [.int 4]) (rest := []) ⟨hx, hb, hml, hown, hts⟩ (kL_finding l dC dI cA ad H.size 4 xShe_latest u_15 hc_15) (cwV 1 hts gX6_copyItems_X6_finding rfl rfl rfl (by decide +kernel) ⟨Nat.le_of_ble_eq_true rfl, Nat.le_of_ble_eq_true rfl⟩) ⟨fun a U g mk q => by obtain ⟨q0, q1, qP, qK, qD⟩ := q; exact ⟨q0, q1, qP, va_K.moved (u := U) (U := U.calling g mk a) (Vm.Alike.refl U.vm) qK, qD⟩, va_recv hK hPc (ci := 6) (q0 := 0) rfl rfl, fun U hU hW => ⟨rfl, by rw [hU], by rw [hU]; exact hPc, va_K.moved hW.alike hK, hDc.weaken (fun _ _ _ _ => trivial)⟩⟩ rfl rfl hl.1 rfl (lv_room (Nat.le_of_ble_eq_true rfl)) dX6_copyItems_39 ⟨Nat.le_of_ble_eq_true rfl, Nat.le_of_ble_eq_true rfl⟩) hS (fun q _ h => hFc q h) hFc (fun r_15 _ t H1 locs ht hvm hw hB hz1 hk1 hS => ?_)
        obtain ⟨hP1, hK1, hD1⟩ := hB
        rw [ht] at hP1
        obtain ⟨hP, hD⟩ := va_join (wr := [ar (ad 39) cA 240 gLitems, ar (ad 40) cA 4 gLforms, ar (ad 41) cA 4 gLsizes]) (w1 := [oShe ad u_15.2]) hP hD [0] [1, 2, 3] rfl rfl (by decide) (by decide) hk1 hFc hP1 hD1
        clear hPc hDc hFc hP1 hK1 hD1 hk1 hz1 hvm ht
        generalize H1 = H at hP hS ⊢
        have hP : va_P (dC, dI) vwCl [oShe ad u_15.2, ar (ad 39) cA 240 gLitems, ar (ad 40) cA 4 gLforms, ar (ad 41) cA 4 gLsizes] H := hP.sub [3, 0, 1, 2] rfl
        have hD : va_D A [oShe ad u_15.2, ar (ad 39) cA 240 gLitems, ar (ad 40) cA 4 gLforms, ar (ad 41) cA 4 gLsizes] := hD.sub [3, 0, 1, 2] (by decide) rfl
        have hw := hw.symm
        subst hw
        obtain rfl := Option.some.inj hm
        subst hQ
        exact W.iret (v := u_15.1) hx hb hr (fun t ht hW => ⟨⟨_, (), rfl, rfl, by rw [ht]; exact hP, va_K.moved hW.alike hK, hAe ▸ hD⟩, hS.F ht⟩) hS.2.2 dX6_copyItems_42
    · have hm := it_neg c_6 hm
      exact b_16 _ _ hm _ _ hP hD hS _ (lv_sub hl [0] rfl)

set_option maxHeartbeats 4000000 in
set_option maxRecDepth 100000 in
theorem kC_copy (l : Launch) (dC : Nat → ClassId) (dI : Nat → Nat → Nat) (cA : ClassId) (ad : Nat → Nat) (sz : Nat) (a1 : Int32) (a2 : Int32) (a3 : Int32) (a4 : Int32) (a5 : Int32) (xHC_first : Int32) (xHC_second : Int32) (xHC_when : Int32) (xHC_ran : Int32) (xShe_latest : Int32) (gLitems : Nat → Int32) (gLforms : Nat → Int32) (gLsizes : Nat → Int32) (u : Int32 × Int32 × (Nat → Int32)) (hm : fC_copy a1 a2 a3 a4 a5 xShe_latest gLitems gLforms gLsizes = some u) : Met l yX9_copy wsX9_copy ({ frames := 2, cells := 0, slots := 0, locals := 51 }) (va_Pc [.ref (ad 0), .int a1, .int a2, .int a3, .int a4, .int a5] (fun U => U.heap.size = sz ∧ va_P (dC, dI) vwCl [oHC ad xHC_first xHC_second xHC_when xHC_ran, oShe ad xShe_latest, ar (ad 39) cA 240 gLitems, ar (ad 40) cA 4 gLforms, ar (ad 41) cA 4 gLsizes] U.heap ∧ va_K (dC, dI) vwCl [(cA, .int)] U ∧ va_D (fun _ => True) [oHC ad xHC_first xHC_second xHC_when xHC_ran, oShe ad xShe_latest, ar (ad 39) cA 240 gLitems, ar (ad 40) cA 4 gLforms, ar (ad 41) cA 4 gLsizes])) (va_Qi (fun (r : Int32) (_ : Unit) => r = u.1) (fun (_ : Unit) t => va_P (dC, dI) vwCl [oHC ad xHC_first xHC_second xHC_when xHC_ran, oShe ad u.2.1, ar (ad 39) cA 240 u.2.2, ar (ad 40) cA 4 gLforms, ar (ad 41) cA 4 gLsizes] t.heap ∧ va_K (dC, dI) vwCl [(cA, .int)] t ∧ va_D (va_A [oHC ad xHC_first xHC_second xHC_when xHC_ran, oShe ad xShe_latest, ar (ad 39) cA 240 gLitems, ar (ad 40) cA 4 gLforms, ar (ad 41) cA 4 gLsizes] sz) [oHC ad xHC_first xHC_second xHC_when xHC_ran, oShe ad u.2.1, ar (ad 39) cA 240 u.2.2, ar (ad 40) cA 4 gLforms, ar (ad 41) cA 4 gLsizes]) (va_A [oHC ad xHC_first xHC_second xHC_when xHC_ran, oShe ad xShe_latest, ar (ad 39) cA 240 gLitems, ar (ad 40) cA 4 gLforms, ar (ad 41) cA 4 gLsizes] sz)) 0 0 (va_A [oHC ad xHC_first xHC_second xHC_when xHC_ran, oShe ad xShe_latest, ar (ad 39) cA 240 gLitems, ar (ad 40) cA 4 gLforms, ar (ad 41) cA 4 gLsizes] sz) := by
  refine Met.ofW (cc := cX9_copy) (maxL := 6) (ret := (some .int)) (by decide) rfl ?_
  intro p e s m args below meth c s₁ B hml hv
  obtain ⟨rfl, hsz, hP, hK, hD0⟩ := hv
  have hx := B.exec
  have hb := B.bytes
  have hr := B.returns
  have hts := atoms_spec (ws := wsX9_copy) B.pre
  have hown : s.vm.findClass RX9 = some m.cls := findClass_of_methodNamed B.named
  have hlocks := B.notSynchronized
  subst hsz
  have hD := hD0.self (sz := s.heap.size)
  generalize hAe : va_A [oHC ad xHC_first xHC_second xHC_when xHC_ran, oShe ad xShe_latest, ar (ad 39) cA 240 gLitems, ar (ad 40) cA 4 gLforms, ar (ad 41) cA 4 gLsizes] s.heap.size = A at hD ⊢
  have hA : ∀ q : Nat, s.heap.size ≤ q → A q := fun q h => by rw [← hAe]; exact Or.inr h
  have hS : va_S A s.heap s.heap [] := va_S.rf
  have hl := lv_entry ([.ref (ad 0), .int a1, .int a2, .int a3, .int a4, .int a5]) (n := 6) (Nat.le_of_ble_eq_true rfl)
  rw [lg_entry_eq]
  generalize (lg_sl ([.ref (ad 0), .int a1, .int a2, .int a3, .int a4, .int a5]) ++ List.replicate (6 - (lg_sl ([.ref (ad 0), .int a1, .int a2, .int a3, .int a4, .int a5])).length) Slot.unset).toArray = ls at hl ⊢
  have hl : lv_has ls 6 [(0, .ref (ad 0)), (1, .int a1), (2, .int a2), (3, .int a3), (4, .int a4), (5, .int a5)] := hl
  refine wk_Q (fun QQ hQ => ?_)
  have hinX9 : ∀ w ∈ wsX90, w ∈ wsX9_copy := fun w h => List.mem_cons_of_mem _ (inlX9 w h)
  have hl_68 := hts (.fieldLink RX9 68 "HandCensus" "shelf" "LHandCensus$Shelf;") (List.mem_cons_of_mem _ (in_r2 _ (List.mem_of_getElem? (i := 22) rfl)))
  unfold fC_copy at hm
  refine lv_iload_n hx hb dX9_copy_0 rfl (lv_at hl 1 rfl) ?_
  have hPc := hP.sub (ws' := []) [] rfl
  have hDc := hD.sub (ws' := []) [] (by decide) rfl
  have hFc := va_free (wc := []) hD hS hA [] rfl
  obtain ⟨u_1, hc_1, hm⟩ := bd_ok hm
  refine va_calli (va_runS (As := [.int a1]) (rest := []) ⟨hx, hb, hml, hown, hts⟩ (kL_isPlace l dC dI cA ad s.heap.size a1 u_1 hc_1) (va_cwS 1 hts gX9_copy_X6_isPlace rfl rfl rfl (by decide +kernel) ⟨Nat.le_of_ble_eq_true rfl, Nat.le_of_ble_eq_true rfl⟩) ⟨fun a U g mk q => by obtain ⟨q0, q1, qP, qK, qD⟩ := q; exact ⟨q0, q1, qP, va_K.moved (u := U) (U := U.calling g mk a) (Vm.Alike.refl U.vm) qK, qD⟩, fun U hU hW => ⟨rfl, by rw [hU], by rw [hU]; exact hPc, va_K.moved hW.alike hK, hDc.weaken (fun _ _ _ _ => trivial)⟩⟩ rfl rfl hl.1 rfl (lv_room (Nat.le_of_ble_eq_true rfl)) dX9_copy_1 ⟨Nat.le_of_ble_eq_true rfl, Nat.le_of_ble_eq_true rfl⟩) hS (fun q _ h => hFc q h) hFc (fun r_1 _ t H1 locs ht hvm hw hB hz1 hk1 hS => ?_)
  obtain ⟨hP1, hK1, hD1⟩ := hB
  rw [ht] at hP1
  obtain ⟨hP, hD⟩ := va_join (wr := [oHC ad xHC_first xHC_second xHC_when xHC_ran, oShe ad xShe_latest, ar (ad 39) cA 240 gLitems, ar (ad 40) cA 4 gLforms, ar (ad 41) cA 4 gLsizes]) (w1 := []) hP hD [] [0, 1, 2, 3, 4] rfl rfl (by decide) (by decide) hk1 hFc hP1 hD1
  clear hPc hDc hFc hP1 hK1 hD1 hk1 hz1 hvm ht
  generalize H1 = H at hP hS ⊢
  have hP : va_P (dC, dI) vwCl [oHC ad xHC_first xHC_second xHC_when xHC_ran, oShe ad xShe_latest, ar (ad 39) cA 240 gLitems, ar (ad 40) cA 4 gLforms, ar (ad 41) cA 4 gLsizes] H := hP
  have hD : va_D A [oHC ad xHC_first xHC_second xHC_when xHC_ran, oShe ad xShe_latest, ar (ad 39) cA 240 gLitems, ar (ad 40) cA 4 gLforms, ar (ad 41) cA 4 gLsizes] := hD
  have hw := hw.symm
  subst hw
  refine lv_if_eq (tgt := 14) hx hb dX9_copy_4 (by decide) (fun c_2 => ?_) (fun c_2 => ?_)
  · have hm := it_pos c_2 hm
    refine lv_bipush (v := (-2)) hx hb dX9_copy_14 (by decide) ?_
    obtain rfl := Option.some.inj hm
    subst hQ
    exact W.iret (v := (-2)) hx hb hr (fun t ht hW => ⟨⟨_, (), rfl, rfl, by rw [ht]; exact hP, va_K.moved hW.alike hK, hAe ▸ hD⟩, hS.F ht⟩) hS.2.2 dX9_copy_16
  · have hm := it_neg c_2 hm
    refine lv_iload_n hx hb dX9_copy_7 rfl (lv_at hl 3 rfl) ?_
    have hPc := hP.sub (ws' := []) [] rfl
    have hDc := hD.sub (ws' := []) [] (by decide) rfl
    have hFc := va_free (wc := []) hD hS hA [] rfl
    obtain ⟨u_3, hc_3, hm⟩ := bd_ok hm
    refine va_calli (va_runS (As := [.int a3]) (rest := []) ⟨hx, hb, hml, hown, hts⟩ (kL_isPlace l dC dI cA ad H.size a3 u_3 hc_3) (va_cwS 1 hts gX9_copy_X6_isPlace rfl rfl rfl (by decide +kernel) ⟨Nat.le_of_ble_eq_true rfl, Nat.le_of_ble_eq_true rfl⟩) ⟨fun a U g mk q => by obtain ⟨q0, q1, qP, qK, qD⟩ := q; exact ⟨q0, q1, qP, va_K.moved (u := U) (U := U.calling g mk a) (Vm.Alike.refl U.vm) qK, qD⟩, fun U hU hW => ⟨rfl, by rw [hU], by rw [hU]; exact hPc, va_K.moved hW.alike hK, hDc.weaken (fun _ _ _ _ => trivial)⟩⟩ rfl rfl hl.1 rfl (lv_room (Nat.le_of_ble_eq_true rfl)) dX9_copy_8 ⟨Nat.le_of_ble_eq_true rfl, Nat.le_of_ble_eq_true rfl⟩) hS (fun q _ h => hFc q h) hFc (fun r_3 _ t H1 locs ht hvm hw hB hz1 hk1 hS => ?_)
    obtain ⟨hP1, hK1, hD1⟩ := hB
    rw [ht] at hP1
    obtain ⟨hP, hD⟩ := va_join (wr := [oHC ad xHC_first xHC_second xHC_when xHC_ran, oShe ad xShe_latest, ar (ad 39) cA 240 gLitems, ar (ad 40) cA 4 gLforms, ar (ad 41) cA 4 gLsizes]) (w1 := []) hP hD [] [0, 1, 2, 3, 4] rfl rfl (by decide) (by decide) hk1 hFc hP1 hD1
    clear hPc hDc hFc hP1 hK1 hD1 hk1 hz1 hvm ht
    generalize H1 = H at hP hS ⊢
    have hP : va_P (dC, dI) vwCl [oHC ad xHC_first xHC_second xHC_when xHC_ran, oShe ad xShe_latest, ar (ad 39) cA 240 gLitems, ar (ad 40) cA 4 gLforms, ar (ad 41) cA 4 gLsizes] H := hP
    have hD : va_D A [oHC ad xHC_first xHC_second xHC_when xHC_ran, oShe ad xShe_latest, ar (ad 39) cA 240 gLitems, ar (ad 40) cA 4 gLforms, ar (ad 41) cA 4 gLsizes] := hD
    have hw := hw.symm
    subst hw
    refine lv_if_ne (tgt := 17) hx hb dX9_copy_11 (by decide) (fun c_4 => ?_) (fun c_4 => ?_)
    · have hm := it_neg c_4 hm
      refine lv_aload_n hx hb dX9_copy_17 rfl (lv_at hl 0 rfl) ?_
      refine va_get (D := (dC, dI)) (ci := 9) (v := .ref (ad 38)) (C := RX9) (T := TX9) (N := 12) hx hb hts hinX9 hown hK hP 0 rfl rfl 7 (by decide) hl_68 (fun _ h9 => h9) rfl dX9_copy_18 ?_
      refine lv_iload_n hx hb dX9_copy_21 rfl (lv_at hl 1 rfl) ?_
      refine lv_iload_n hx hb dX9_copy_22 rfl (lv_at hl 2 rfl) ?_
      refine lv_iload_n hx hb dX9_copy_23 rfl (lv_at hl 3 rfl) ?_
      refine lv_iload hx hb dX9_copy_24 (lv_at hl 4 rfl) ?_
      refine lv_iload hx hb dX9_copy_26 (lv_at hl 5 rfl) ?_
      have hPc := hP.sub (ws' := [oShe ad xShe_latest, ar (ad 39) cA 240 gLitems, ar (ad 40) cA 4 gLforms, ar (ad 41) cA 4 gLsizes]) [1, 2, 3, 4] rfl
      have hDc := hD.sub (ws' := [oShe ad xShe_latest, ar (ad 39) cA 240 gLitems, ar (ad 40) cA 4 gLforms, ar (ad 41) cA 4 gLsizes]) [1, 2, 3, 4] (by decide) rfl
      have hFc := va_free (wc := [oShe ad xShe_latest, ar (ad 39) cA 240 gLitems, ar (ad 40) cA 4 gLforms, ar (ad 41) cA 4 gLsizes]) hD hS hA [1, 2, 3, 4] rfl
      obtain ⟨u_5, hc_5, hm⟩ := bd_ok hm
      refine va_calli (va_runV (As := [.int a1, .int a2, .int a3, .int a4, .int a5]) (rest := []) ⟨hx, hb, hml, hown, hts⟩ (kL_copyItems l dC dI cA ad H.size a1 a2 a3 a4 a5 xShe_latest gLitems gLforms gLsizes u_5 hc_5) (cwV 5 hts gX9_copy_X6_copyItems rfl rfl rfl (by decide +kernel) ⟨Nat.le_of_ble_eq_true rfl, Nat.le_of_ble_eq_true rfl⟩) ⟨fun a U g mk q => by obtain ⟨q0, q1, qP, qK, qD⟩ := q; exact ⟨q0, q1, qP, va_K.moved (u := U) (U := U.calling g mk a) (Vm.Alike.refl U.vm) qK, qD⟩, va_recv hK hPc (ci := 6) (q0 := 0) rfl rfl, fun U hU hW => ⟨rfl, by rw [hU], by rw [hU]; exact hPc, va_K.moved hW.alike hK, hDc.weaken (fun _ _ _ _ => trivial)⟩⟩ rfl rfl hl.1 rfl (lv_room (Nat.le_of_ble_eq_true rfl)) dX9_copy_28 ⟨Nat.le_of_ble_eq_true rfl, Nat.le_of_ble_eq_true rfl⟩) hS (fun q _ h => hFc q h) hFc (fun r_5 _ t H1 locs ht hvm hw hB hz1 hk1 hS => ?_)
      obtain ⟨hP1, hK1, hD1⟩ := hB
      rw [ht] at hP1
      obtain ⟨hP, hD⟩ := va_join (wr := [oHC ad xHC_first xHC_second xHC_when xHC_ran]) (w1 := [oShe ad u_5.2.1, ar (ad 39) cA 240 u_5.2.2, ar (ad 40) cA 4 gLforms, ar (ad 41) cA 4 gLsizes]) hP hD [1, 2, 3, 4] [0] rfl rfl (by decide) (by decide) hk1 hFc hP1 hD1
      clear hPc hDc hFc hP1 hK1 hD1 hk1 hz1 hvm ht
      generalize H1 = H at hP hS ⊢
      have hP : va_P (dC, dI) vwCl [oHC ad xHC_first xHC_second xHC_when xHC_ran, oShe ad u_5.2.1, ar (ad 39) cA 240 u_5.2.2, ar (ad 40) cA 4 gLforms, ar (ad 41) cA 4 gLsizes] H := hP
      have hD : va_D A [oHC ad xHC_first xHC_second xHC_when xHC_ran, oShe ad u_5.2.1, ar (ad 39) cA 240 u_5.2.2, ar (ad 40) cA 4 gLforms, ar (ad 41) cA 4 gLsizes] := hD
      have hw := hw.symm
      subst hw
      obtain rfl := Option.some.inj hm
      subst hQ
      exact W.iret (v := u_5.1) hx hb hr (fun t ht hW => ⟨⟨_, (), rfl, rfl, by rw [ht]; exact hP, va_K.moved hW.alike hK, hAe ▸ hD⟩, hS.F ht⟩) hS.2.2 dX9_copy_31
    · have hm := it_pos c_4 hm
      refine lv_bipush (v := (-2)) hx hb dX9_copy_14 (by decide) ?_
      obtain rfl := Option.some.inj hm
      subst hQ
      exact W.iret (v := (-2)) hx hb hr (fun t ht hW => ⟨⟨_, (), rfl, rfl, by rw [ht]; exact hP, va_K.moved hW.alike hK, hAe ▸ hD⟩, hS.F ht⟩) hS.2.2 dX9_copy_16

set_option maxHeartbeats 4000000 in
set_option maxRecDepth 100000 in
theorem kC_write (l : Launch) (dC : Nat → ClassId) (dI : Nat → Nat → Nat) (cA : ClassId) (ad : Nat → Nat) (qe : Nat) (sz : Nat) (a1 : Int32) (xHC_first : Int32) (xHC_second : Int32) (xHC_when : Int32) (xHC_ran : Int32) (xRow_depth : Int32) (xRow_length : Int32) (xRow_people : Int32) (xRow_scarves : Int32) (xRow_main : Int32) (xRow_faultPlace : Int32) (gRkinds : Nat → Int32) (gRlates : Nat → Int32) (gRhands : Nat → Int32) (gRslow : Nat → Int32) (xST_sleeper : Int32) (xST_lastDue : Int32) (xST_unreached : Int32) (gSTdue : Nat → Int32) (gSTbusy : Nat → Int32) (gSTfelt : Nat → Int32) (gSTlost : Nat → Int32) (gSTfirst : Nat → Int32) (xDia_size : Int32) (ne : Nat) (gDent : Nat → Int32) (xShe_latest : Int32) (gLitems : Nat → Int32) (gLforms : Nat → Int32) (gLsizes : Nat → Int32) (u : Int32 × Int32 × Int32 × Int32 × Int32 × (Nat → Int32) × (Nat → Int32) × (Nat → Int32) × (Nat → Int32) × (Nat → Int32) × Int32 × Nat × (Nat → Int32) × Int32 × (Nat → Int32)) (hm : fC_write a1 xHC_first xHC_second xHC_when xHC_ran xRow_people gRkinds gRlates gRhands gRslow xST_sleeper xST_lastDue xST_unreached gSTdue gSTbusy gSTfelt gSTlost gSTfirst xDia_size ne gDent xShe_latest gLitems gLforms gLsizes = some u) : Met l yX9_write wsX9_write ({ frames := 5, cells := (u.2.2.2.2.2.2.2.2.2.2.2.1 - ne), slots := (2 * (u.2.2.2.2.2.2.2.2.2.2.2.1 - ne)), locals := 123 }) (va_Pc [.ref (ad 0), .int a1] (fun U => U.heap.size = sz ∧ va_P (dC, dI) vwCl [oHC ad xHC_first xHC_second xHC_when xHC_ran, oRow ad xRow_depth xRow_length xRow_people xRow_scarves xRow_main xRow_faultPlace, ar (ad 3) cA 20 gRkinds, ar (ad 4) cA 20 gRlates, ar (ad 5) cA 20 gRhands, ar (ad 6) cA 20 gRslow, oST ad xST_sleeper xST_lastDue xST_unreached, ar (ad 10) cA 640 gSTdue, ar (ad 11) cA 20 gSTbusy, ar (ad 12) cA 20 gSTfelt, ar (ad 13) cA 20 gSTlost, ar (ad 14) cA 20 gSTfirst, oDia ad qe xDia_size, ar qe cA ne gDent, oShe ad xShe_latest, ar (ad 39) cA 240 gLitems, ar (ad 40) cA 4 gLforms, ar (ad 41) cA 4 gLsizes] U.heap ∧ va_K (dC, dI) vwCl [(cA, .int)] U ∧ va_D (fun _ => True) [oHC ad xHC_first xHC_second xHC_when xHC_ran, oRow ad xRow_depth xRow_length xRow_people xRow_scarves xRow_main xRow_faultPlace, ar (ad 3) cA 20 gRkinds, ar (ad 4) cA 20 gRlates, ar (ad 5) cA 20 gRhands, ar (ad 6) cA 20 gRslow, oST ad xST_sleeper xST_lastDue xST_unreached, ar (ad 10) cA 640 gSTdue, ar (ad 11) cA 20 gSTbusy, ar (ad 12) cA 20 gSTfelt, ar (ad 13) cA 20 gSTlost, ar (ad 14) cA 20 gSTfirst, oDia ad qe xDia_size, ar qe cA ne gDent, oShe ad xShe_latest, ar (ad 39) cA 240 gLitems, ar (ad 40) cA 4 gLforms, ar (ad 41) cA 4 gLsizes])) (va_Qi (fun (r : Int32) (_ : Nat) => r = u.1) (fun (qe2 : Nat) t => va_P (dC, dI) vwCl [oHC ad xHC_first xHC_second xHC_when u.2.1, oRow ad xRow_depth xRow_length xRow_people xRow_scarves xRow_main xRow_faultPlace, ar (ad 3) cA 20 gRkinds, ar (ad 4) cA 20 gRlates, ar (ad 5) cA 20 gRhands, ar (ad 6) cA 20 gRslow, oST ad u.2.2.1 u.2.2.2.1 u.2.2.2.2.1, ar (ad 10) cA 640 u.2.2.2.2.2.1, ar (ad 11) cA 20 u.2.2.2.2.2.2.1, ar (ad 12) cA 20 u.2.2.2.2.2.2.2.1, ar (ad 13) cA 20 u.2.2.2.2.2.2.2.2.1, ar (ad 14) cA 20 u.2.2.2.2.2.2.2.2.2.1, oDia ad qe2 u.2.2.2.2.2.2.2.2.2.2.1, ar qe2 cA u.2.2.2.2.2.2.2.2.2.2.2.1 u.2.2.2.2.2.2.2.2.2.2.2.2.1, oShe ad u.2.2.2.2.2.2.2.2.2.2.2.2.2.1, ar (ad 39) cA 240 u.2.2.2.2.2.2.2.2.2.2.2.2.2.2, ar (ad 40) cA 4 gLforms, ar (ad 41) cA 4 gLsizes] t.heap ∧ va_K (dC, dI) vwCl [(cA, .int)] t ∧ va_D (va_A [oHC ad xHC_first xHC_second xHC_when xHC_ran, oRow ad xRow_depth xRow_length xRow_people xRow_scarves xRow_main xRow_faultPlace, ar (ad 3) cA 20 gRkinds, ar (ad 4) cA 20 gRlates, ar (ad 5) cA 20 gRhands, ar (ad 6) cA 20 gRslow, oST ad xST_sleeper xST_lastDue xST_unreached, ar (ad 10) cA 640 gSTdue, ar (ad 11) cA 20 gSTbusy, ar (ad 12) cA 20 gSTfelt, ar (ad 13) cA 20 gSTlost, ar (ad 14) cA 20 gSTfirst, oDia ad qe xDia_size, ar qe cA ne gDent, oShe ad xShe_latest, ar (ad 39) cA 240 gLitems, ar (ad 40) cA 4 gLforms, ar (ad 41) cA 4 gLsizes] sz) [oHC ad xHC_first xHC_second xHC_when u.2.1, oRow ad xRow_depth xRow_length xRow_people xRow_scarves xRow_main xRow_faultPlace, ar (ad 3) cA 20 gRkinds, ar (ad 4) cA 20 gRlates, ar (ad 5) cA 20 gRhands, ar (ad 6) cA 20 gRslow, oST ad u.2.2.1 u.2.2.2.1 u.2.2.2.2.1, ar (ad 10) cA 640 u.2.2.2.2.2.1, ar (ad 11) cA 20 u.2.2.2.2.2.2.1, ar (ad 12) cA 20 u.2.2.2.2.2.2.2.1, ar (ad 13) cA 20 u.2.2.2.2.2.2.2.2.1, ar (ad 14) cA 20 u.2.2.2.2.2.2.2.2.2.1, oDia ad qe2 u.2.2.2.2.2.2.2.2.2.2.1, ar qe2 cA u.2.2.2.2.2.2.2.2.2.2.2.1 u.2.2.2.2.2.2.2.2.2.2.2.2.1, oShe ad u.2.2.2.2.2.2.2.2.2.2.2.2.2.1, ar (ad 39) cA 240 u.2.2.2.2.2.2.2.2.2.2.2.2.2.2, ar (ad 40) cA 4 gLforms, ar (ad 41) cA 4 gLsizes]) (va_A [oHC ad xHC_first xHC_second xHC_when xHC_ran, oRow ad xRow_depth xRow_length xRow_people xRow_scarves xRow_main xRow_faultPlace, ar (ad 3) cA 20 gRkinds, ar (ad 4) cA 20 gRlates, ar (ad 5) cA 20 gRhands, ar (ad 6) cA 20 gRslow, oST ad xST_sleeper xST_lastDue xST_unreached, ar (ad 10) cA 640 gSTdue, ar (ad 11) cA 20 gSTbusy, ar (ad 12) cA 20 gSTfelt, ar (ad 13) cA 20 gSTlost, ar (ad 14) cA 20 gSTfirst, oDia ad qe xDia_size, ar qe cA ne gDent, oShe ad xShe_latest, ar (ad 39) cA 240 gLitems, ar (ad 40) cA 4 gLforms, ar (ad 41) cA 4 gLsizes] sz)) (u.2.2.2.2.2.2.2.2.2.2.2.1 - ne) (2 * (u.2.2.2.2.2.2.2.2.2.2.2.1 - ne)) (va_A [oHC ad xHC_first xHC_second xHC_when xHC_ran, oRow ad xRow_depth xRow_length xRow_people xRow_scarves xRow_main xRow_faultPlace, ar (ad 3) cA 20 gRkinds, ar (ad 4) cA 20 gRlates, ar (ad 5) cA 20 gRhands, ar (ad 6) cA 20 gRslow, oST ad xST_sleeper xST_lastDue xST_unreached, ar (ad 10) cA 640 gSTdue, ar (ad 11) cA 20 gSTbusy, ar (ad 12) cA 20 gSTfelt, ar (ad 13) cA 20 gSTlost, ar (ad 14) cA 20 gSTfirst, oDia ad qe xDia_size, ar qe cA ne gDent, oShe ad xShe_latest, ar (ad 39) cA 240 gLitems, ar (ad 40) cA 4 gLforms, ar (ad 41) cA 4 gLsizes] sz) := by
  refine Met.ofW (cc := cX9_write) (maxL := 5) (ret := (some .int)) (by decide) rfl ?_
  intro p e s m args below meth c s₁ B hml hv
  obtain ⟨rfl, hsz, hP, hK, hD0⟩ := hv
  have hx := B.exec
  have hb := B.bytes
  have hr := B.returns
  have hts := atoms_spec (ws := wsX9_write) B.pre
  have hown : s.vm.findClass RX9 = some m.cls := findClass_of_methodNamed B.named
  have hlocks := B.notSynchronized
  subst hsz
  have hD := hD0.self (sz := s.heap.size)
  generalize hAe : va_A [oHC ad xHC_first xHC_second xHC_when xHC_ran, oRow ad xRow_depth xRow_length xRow_people xRow_scarves xRow_main xRow_faultPlace, ar (ad 3) cA 20 gRkinds, ar (ad 4) cA 20 gRlates, ar (ad 5) cA 20 gRhands, ar (ad 6) cA 20 gRslow, oST ad xST_sleeper xST_lastDue xST_unreached, ar (ad 10) cA 640 gSTdue, ar (ad 11) cA 20 gSTbusy, ar (ad 12) cA 20 gSTfelt, ar (ad 13) cA 20 gSTlost, ar (ad 14) cA 20 gSTfirst, oDia ad qe xDia_size, ar qe cA ne gDent, oShe ad xShe_latest, ar (ad 39) cA 240 gLitems, ar (ad 40) cA 4 gLforms, ar (ad 41) cA 4 gLsizes] s.heap.size = A at hD ⊢
  have hA : ∀ q : Nat, s.heap.size ≤ q → A q := fun q h => by rw [← hAe]; exact Or.inr h
  have hS : va_S A s.heap s.heap [] := va_S.rf
  have hl := lv_entry ([.ref (ad 0), .int a1]) (n := 5) (Nat.le_of_ble_eq_true rfl)
  rw [lg_entry_eq]
  generalize (lg_sl ([.ref (ad 0), .int a1]) ++ List.replicate (5 - (lg_sl ([.ref (ad 0), .int a1])).length) Slot.unset).toArray = ls at hl ⊢
  have hl : lv_has ls 5 [(0, .ref (ad 0)), (1, .int a1)] := hl
  refine wk_Q (fun QQ hQ => ?_)
  have hinX9 : ∀ w ∈ wsX90, w ∈ wsX9_write := fun w h => List.mem_cons_of_mem _ (inlX9 w h)
  have hl_68 := hts (.fieldLink RX9 68 "HandCensus" "shelf" "LHandCensus$Shelf;") (List.mem_cons_of_mem _ (in_r2 _ (List.mem_of_getElem? (i := 22) rfl)))
  have hinX6 : ∀ w ∈ wsX60, w ∈ wsX9_write := fun w h => List.mem_cons_of_mem _ (inlX6 w h)
  have hl_218 := hts (.fieldLink RX9 218 "HandCensus$Shelf" "sizes" "[I") (List.mem_cons_of_mem _ (in_r33 _ (List.mem_of_getElem? (i := 1) rfl)))
  have hl_10 := hts (.fieldLink RX9 10 "HandCensus" "row" "LHandCensus$Row;") (List.mem_cons_of_mem _ (in_r1 _ (List.mem_of_getElem? (i := 15) rfl)))
  have hinX5 : ∀ w ∈ wsX50, w ∈ wsX9_write := fun w h => List.mem_cons_of_mem _ (inlX5 w h)
  have hl_233 := hts (.fieldLink RX9 233 "HandCensus$Row" "people" "I") (List.mem_cons_of_mem _ (in_r13 _ (List.mem_of_getElem? (i := 9) rfl)))
  have hw_4 := hts (.methodLink RX9 286 Lib.Math.min.name) (List.mem_cons_of_mem _ (in_r43 _ (List.mem_of_getElem? (i := 16) rfl)))
  have hw_5 := hts (.static Lib.Math.min.name) (List.mem_cons_of_mem _ (in_r15 _ (List.mem_of_getElem? (i := 10) rfl)))
  have hw_6 := hts (.initialized "java/lang/Math") (List.mem_cons_of_mem _ (in_r15 _ (List.mem_of_getElem? (i := 11) rfl)))
  have hw_7 := hts (.code Lib.Math.min.name Lib.Math.min.code 2 (some .int)) (List.mem_cons_of_mem _ (in_r15 _ (List.mem_of_getElem? (i := 12) rfl)))
  have hinX8 : ∀ w ∈ wsX80, w ∈ wsX9_write := fun w h => List.mem_cons_of_mem _ (inlX8 w h)
  have hl_154 := hts (.fieldLink RX9 154 "HandCensus$Squeeze" "firstAt" "[I") (List.mem_cons_of_mem _ (in_r24 _ (List.mem_of_getElem? (i := 11) rfl)))
  have h_61 : ∀ (v1_61 : Int32) (v2_61 : Int32) (xHC_ran_61 : Int32) (xST_sleeper_61 : Int32) (xST_lastDue_61 : Int32) (xST_unreached_61 : Int32) (gSTdue_61 : Nat → Int32) (gSTbusy_61 : Nat → Int32) (gSTfelt_61 : Nat → Int32) (gSTlost_61 : Nat → Int32) (gSTfirst_61 : Nat → Int32) (xDia_size_61 : Int32) (ne_61 : Nat) (gDent_61 : Nat → Int32) (xShe_latest_61 : Int32), ∀ (n_61 : Nat), ∀ (v4_61 : Int32) (gLitems_61 : Nat → Int32), fC_write_61 v1_61 v2_61 xHC_ran_61 xST_sleeper_61 xST_lastDue_61 xST_unreached_61 gSTdue_61 gSTbusy_61 gSTfelt_61 gSTlost_61 gSTfirst_61 xDia_size_61 ne_61 gDent_61 xShe_latest_61 gLforms n_61 v4_61 gLitems_61 = some u → ∀ (qe_61 : Nat) (H : Heap) (locs : List Loc), ne ≤ ne_61 → ne_61 ≤ u.2.2.2.2.2.2.2.2.2.2.2.1 → va_P (dC, dI) vwCl [oHC ad xHC_first xHC_second xHC_when xHC_ran_61, oRow ad xRow_depth xRow_length xRow_people xRow_scarves xRow_main xRow_faultPlace, ar (ad 3) cA 20 gRkinds, ar (ad 4) cA 20 gRlates, ar (ad 5) cA 20 gRhands, ar (ad 6) cA 20 gRslow, oST ad xST_sleeper_61 xST_lastDue_61 xST_unreached_61, ar (ad 10) cA 640 gSTdue_61, ar (ad 11) cA 20 gSTbusy_61, ar (ad 12) cA 20 gSTfelt_61, ar (ad 13) cA 20 gSTlost_61, ar (ad 14) cA 20 gSTfirst_61, oDia ad qe_61 xDia_size_61, ar qe_61 cA ne_61 gDent_61, oShe ad xShe_latest_61, ar (ad 39) cA 240 gLitems_61, ar (ad 40) cA 4 gLforms, ar (ad 41) cA 4 gLsizes] H → va_D A [oHC ad xHC_first xHC_second xHC_when xHC_ran_61, oRow ad xRow_depth xRow_length xRow_people xRow_scarves xRow_main xRow_faultPlace, ar (ad 3) cA 20 gRkinds, ar (ad 4) cA 20 gRlates, ar (ad 5) cA 20 gRhands, ar (ad 6) cA 20 gRslow, oST ad xST_sleeper_61 xST_lastDue_61 xST_unreached_61, ar (ad 10) cA 640 gSTdue_61, ar (ad 11) cA 20 gSTbusy_61, ar (ad 12) cA 20 gSTfelt_61, ar (ad 13) cA 20 gSTlost_61, ar (ad 14) cA 20 gSTfirst_61, oDia ad qe_61 xDia_size_61, ar qe_61 cA ne_61 gDent_61, oShe ad xShe_latest_61, ar (ad 39) cA 240 gLitems_61, ar (ad 40) cA 4 gLforms, ar (ad 41) cA 4 gLsizes] → va_S A s.heap H locs → ∀ ls : Array Slot, lv_has ls 5 [(0, .ref (ad 0)), (1, .int v1_61), (2, .int v2_61), (3, .ref (ad 14)), (4, .int v4_61)] → W p l e (headSpec wsX9_write ({ frames := 5, cells := (u.2.2.2.2.2.2.2.2.2.2.2.1 - ne), slots := (2 * (u.2.2.2.2.2.2.2.2.2.2.2.1 - ne)), locals := 123 })).room s m ([.ref (ad 0), .int a1] : List Value).toArray below meth c H locs (ne_61 - ne) (2 * (ne_61 - ne)) QQ (F0 m 61 ls []) := by
    intro v1_61 v2_61 xHC_ran_61 xST_sleeper_61 xST_lastDue_61 xST_unreached_61 gSTdue_61 gSTbusy_61 gSTfelt_61 gSTlost_61 gSTfirst_61 xDia_size_61 ne_61 gDent_61 xShe_latest_61
    intro n_61
    induction n_61 with
    | zero => intro v4_61 gLitems_61 hm; have hm : (none : Option (Int32 × Int32 × Int32 × Int32 × Int32 × (Nat → Int32) × (Nat → Int32) × (Nat → Int32) × (Nat → Int32) × (Nat → Int32) × Int32 × Nat × (Nat → Int32) × Int32 × (Nat → Int32))) = some u := hm; cases hm
    | succ n_61 ih_61 =>
      intro v4_61 gLitems_61 hm qe_61 H locs hne hnu hP hD hS ls hl
      have hm : fC_write_61_b  (fC_write_61  v1_61 v2_61 xHC_ran_61 xST_sleeper_61 xST_lastDue_61 xST_unreached_61 gSTdue_61 gSTbusy_61 gSTfelt_61 gSTlost_61 gSTfirst_61 xDia_size_61 ne_61 gDent_61 xShe_latest_61 gLforms n_61) v1_61 v2_61 xHC_ran_61 xST_sleeper_61 xST_lastDue_61 xST_unreached_61 gSTdue_61 gSTbusy_61 gSTfelt_61 gSTlost_61 gSTfirst_61 xDia_size_61 ne_61 gDent_61 xShe_latest_61 gLforms v4_61 gLitems_61 = some u := hm
      unfold fC_write_61_b at hm
      refine lv_iload hx hb dX9_write_61 (lv_at hl 4 rfl) ?_
      refine lv_iload_n hx hb dX9_write_63 rfl (lv_at hl 2 rfl) ?_
      refine lv_icmp_ge (tgt := 87) hx hb dX9_write_64 (by decide) (fun c_1 => ?_) (fun c_1 => ?_)
      · have hm := it_pos c_1 hm
        refine lv_iload_n hx hb dX9_write_87 rfl (lv_at hl 2 rfl) ?_
        obtain rfl := Option.some.inj hm
        subst hQ
        refine W.widen (k := ne_61 - ne) (n := 2 * (ne_61 - ne)) (by first | exact Nat.le_refl _ | omega) (by first | exact Nat.le_refl _ | omega) ?_
        exact W.iret (v := v2_61) hx hb hr (fun t ht hW => ⟨⟨_, qe_61, rfl, rfl, by rw [ht]; exact hP, va_K.moved hW.alike hK, hAe ▸ hD⟩, hS.F ht⟩) hS.2.2 dX9_write_88
      · have hm := it_neg c_1 hm
        refine lv_aload_n hx hb dX9_write_67 rfl (lv_at hl 0 rfl) ?_
        refine va_get (D := (dC, dI)) (ci := 9) (v := .ref (ad 38)) (C := RX9) (T := TX9) (N := 12) hx hb hts hinX9 hown hK hP 0 rfl rfl 7 (by decide) hl_68 (fun _ h9 => h9) rfl dX9_write_68 ?_
        refine lv_iload_n hx hb dX9_write_71 rfl (lv_at hl 1 rfl) ?_
        refine lv_iload hx hb dX9_write_72 (lv_at hl 4 rfl) ?_
        refine lv_aload_n hx hb dX9_write_74 rfl (lv_at hl 3 rfl) ?_
        refine lv_iload hx hb dX9_write_75 (lv_at hl 4 rfl) ?_
        obtain ⟨i_2, hm⟩ := ck_ok hm
        refine va_iald hx hb hK hP 11 0 rfl rfl i_2 dX9_write_77 ?_
        have hPc := hP.sub (ws' := [oShe ad xShe_latest_61, ar (ad 39) cA 240 gLitems_61, ar (ad 40) cA 4 gLforms]) [14, 15, 16] rfl
        have hDc := hD.sub (ws' := [oShe ad xShe_latest_61, ar (ad 39) cA 240 gLitems_61, ar (ad 40) cA 4 gLforms]) [14, 15, 16] (by decide) rfl
        have hFc := va_free (wc := [oShe ad xShe_latest_61, ar (ad 39) cA 240 gLitems_61, ar (ad 40) cA 4 gLforms]) hD hS hA [14, 15, 16] rfl
        obtain ⟨u_3, hc_3, hm⟩ := bd_ok hm
        refine va_callv (va_runV (As := [.int v1_61, .int v4_61, .int (gSTfirst_61 v4_61.toNatClampNeg)]) (rest := []) ⟨hx, hb, hml, hown, hts⟩ (kL_store l dC dI cA ad H.size v1_61 v4_61 (gSTfirst_61 v4_61.toNatClampNeg) xShe_latest_61 gLitems_61 gLforms u_3 hc_3) (cwV 3 hts gX9_write_X6_store rfl rfl rfl (by decide +kernel) ⟨Nat.le_of_ble_eq_true rfl, Nat.le_of_ble_eq_true rfl⟩) ⟨fun a U g mk q => by obtain ⟨q0, q1, qP, qK, qD⟩ := q; exact ⟨q0, q1, qP, va_K.moved (u := U) (U := U.calling g mk a) (Vm.Alike.refl U.vm) qK, qD⟩, va_recv hK hPc (ci := 6) (q0 := 0) rfl rfl, fun U hU hW => ⟨rfl, by rw [hU], by rw [hU]; exact hPc, va_K.moved hW.alike hK, hDc.weaken (fun _ _ _ _ => trivial)⟩⟩ rfl rfl hl.1 rfl (lv_room (Nat.le_of_ble_eq_true rfl)) dX9_write_78 ⟨by (show _ ≤ _ - _); omega, by (show _ ≤ 2 * (_ - _)); omega⟩) hS (fun q _ h => hFc q h) hFc (fun _ t H1 locs ht hvm hw hB hz1 hk1 hS => ?_)
        obtain ⟨hP1, hK1, hD1⟩ := hB
        rw [ht] at hP1
        obtain ⟨hP, hD⟩ := va_join (wr := [oHC ad xHC_first xHC_second xHC_when xHC_ran_61, oRow ad xRow_depth xRow_length xRow_people xRow_scarves xRow_main xRow_faultPlace, ar (ad 3) cA 20 gRkinds, ar (ad 4) cA 20 gRlates, ar (ad 5) cA 20 gRhands, ar (ad 6) cA 20 gRslow, oST ad xST_sleeper_61 xST_lastDue_61 xST_unreached_61, ar (ad 10) cA 640 gSTdue_61, ar (ad 11) cA 20 gSTbusy_61, ar (ad 12) cA 20 gSTfelt_61, ar (ad 13) cA 20 gSTlost_61, ar (ad 14) cA 20 gSTfirst_61, oDia ad qe_61 xDia_size_61, ar qe_61 cA ne_61 gDent_61, ar (ad 41) cA 4 gLsizes]) (w1 := [oShe ad xShe_latest_61, ar (ad 39) cA 240 u_3, ar (ad 40) cA 4 gLforms]) hP hD [14, 15, 16] [0, 1, 2, 3, 4, 5, 6, 7, 8, 9, 10, 11, 12, 13, 17] rfl rfl (by decide) (by decide) hk1 hFc hP1 hD1
        clear hPc hDc hFc hP1 hK1 hD1 hk1 hz1 hvm ht
        generalize H1 = H at hP hS ⊢
        have hP : va_P (dC, dI) vwCl [oHC ad xHC_first xHC_second xHC_when xHC_ran_61, oRow ad xRow_depth xRow_length xRow_people xRow_scarves xRow_main xRow_faultPlace, ar (ad 3) cA 20 gRkinds, ar (ad 4) cA 20 gRlates, ar (ad 5) cA 20 gRhands, ar (ad 6) cA 20 gRslow, oST ad xST_sleeper_61 xST_lastDue_61 xST_unreached_61, ar (ad 10) cA 640 gSTdue_61, ar (ad 11) cA 20 gSTbusy_61, ar (ad 12) cA 20 gSTfelt_61, ar (ad 13) cA 20 gSTlost_61, ar (ad 14) cA 20 gSTfirst_61, oDia ad qe_61 xDia_size_61, ar qe_61 cA ne_61 gDent_61, oShe ad xShe_latest_61, ar (ad 39) cA 240 u_3, ar (ad 40) cA 4 gLforms, ar (ad 41) cA 4 gLsizes] H := hP.sub [0, 1, 2, 3, 4, 5, 6, 7, 8, 9, 10, 11, 12, 13, 15, 16, 17, 14] rfl
        have hD : va_D A [oHC ad xHC_first xHC_second xHC_when xHC_ran_61, oRow ad xRow_depth xRow_length xRow_people xRow_scarves xRow_main xRow_faultPlace, ar (ad 3) cA 20 gRkinds, ar (ad 4) cA 20 gRlates, ar (ad 5) cA 20 gRhands, ar (ad 6) cA 20 gRslow, oST ad xST_sleeper_61 xST_lastDue_61 xST_unreached_61, ar (ad 10) cA 640 gSTdue_61, ar (ad 11) cA 20 gSTbusy_61, ar (ad 12) cA 20 gSTfelt_61, ar (ad 13) cA 20 gSTlost_61, ar (ad 14) cA 20 gSTfirst_61, oDia ad qe_61 xDia_size_61, ar qe_61 cA ne_61 gDent_61, oShe ad xShe_latest_61, ar (ad 39) cA 240 u_3, ar (ad 40) cA 4 gLforms, ar (ad 41) cA 4 gLsizes] := hD.sub [0, 1, 2, 3, 4, 5, 6, 7, 8, 9, 10, 11, 12, 13, 15, 16, 17, 14] (by decide) rfl
        refine lv_iinc (v := (v4_61 + 1)) (lv' := [(4, .int (v4_61 + 1)), (0, .ref (ad 0)), (1, .int v1_61), (2, .int v2_61), (3, .ref (ad 14))]) hx hb dX9_write_81 hl (k := 4) rfl rfl (by decide) rfl (fun ls hl => ?_)
        refine lv_goto (tgt := 61) hx hb dX9_write_84 (by decide) ?_
        refine W.widen (k := ne_61 - ne) (n := 2 * (ne_61 - ne)) (by first | exact Nat.le_refl _ | omega) (by first | exact Nat.le_refl _ | omega) ?_
        exact ih_61 _ _ hm _ _ _ (by omega) (by omega) hP hD hS _ (lv_sub hl [1, 2, 3, 4, 0] rfl)
  unfold fC_write at hm
  obtain ⟨hz0, hm⟩ := mz_ok hm
  have hz0 : ne ≤ u.2.2.2.2.2.2.2.2.2.2.2.1 := hz0
  refine lv_iload_n hx hb dX9_write_0 rfl (lv_at hl 1 rfl) ?_
  have hPc := hP.sub (ws' := []) [] rfl
  have hDc := hD.sub (ws' := []) [] (by decide) rfl
  have hFc := va_free (wc := []) hD hS hA [] rfl
  obtain ⟨u_4, hc_4, hm⟩ := bd_ok hm
  refine va_calli (va_runS (As := [.int a1]) (rest := []) ⟨hx, hb, hml, hown, hts⟩ (kL_isPlace l dC dI cA ad s.heap.size a1 u_4 hc_4) (va_cwS 1 hts gX9_write_X6_isPlace rfl rfl rfl (by decide +kernel) ⟨Nat.le_of_ble_eq_true rfl, Nat.le_of_ble_eq_true rfl⟩) ⟨fun a U g mk q => by obtain ⟨q0, q1, qP, qK, qD⟩ := q; exact ⟨q0, q1, qP, va_K.moved (u := U) (U := U.calling g mk a) (Vm.Alike.refl U.vm) qK, qD⟩, fun U hU hW => ⟨rfl, by rw [hU], by rw [hU]; exact hPc, va_K.moved hW.alike hK, hDc.weaken (fun _ _ _ _ => trivial)⟩⟩ rfl rfl hl.1 rfl (lv_room (Nat.le_of_ble_eq_true rfl)) dX9_write_1 ⟨by (show _ ≤ _ - _); omega, by (show _ ≤ 2 * (_ - _)); omega⟩) hS (fun q _ h => hFc q h) hFc (fun r_4 _ t H1 locs ht hvm hw hB hz1 hk1 hS => ?_)
  obtain ⟨hP1, hK1, hD1⟩ := hB
  rw [ht] at hP1
  obtain ⟨hP, hD⟩ := va_join (wr := [oHC ad xHC_first xHC_second xHC_when xHC_ran, oRow ad xRow_depth xRow_length xRow_people xRow_scarves xRow_main xRow_faultPlace, ar (ad 3) cA 20 gRkinds, ar (ad 4) cA 20 gRlates, ar (ad 5) cA 20 gRhands, ar (ad 6) cA 20 gRslow, oST ad xST_sleeper xST_lastDue xST_unreached, ar (ad 10) cA 640 gSTdue, ar (ad 11) cA 20 gSTbusy, ar (ad 12) cA 20 gSTfelt, ar (ad 13) cA 20 gSTlost, ar (ad 14) cA 20 gSTfirst, oDia ad qe xDia_size, ar qe cA ne gDent, oShe ad xShe_latest, ar (ad 39) cA 240 gLitems, ar (ad 40) cA 4 gLforms, ar (ad 41) cA 4 gLsizes]) (w1 := []) hP hD [] [0, 1, 2, 3, 4, 5, 6, 7, 8, 9, 10, 11, 12, 13, 14, 15, 16, 17] rfl rfl (by decide) (by decide) hk1 hFc hP1 hD1
  clear hPc hDc hFc hP1 hK1 hD1 hk1 hz1 hvm ht
  generalize H1 = H at hP hS ⊢
  have hP : va_P (dC, dI) vwCl [oHC ad xHC_first xHC_second xHC_when xHC_ran, oRow ad xRow_depth xRow_length xRow_people xRow_scarves xRow_main xRow_faultPlace, ar (ad 3) cA 20 gRkinds, ar (ad 4) cA 20 gRlates, ar (ad 5) cA 20 gRhands, ar (ad 6) cA 20 gRslow, oST ad xST_sleeper xST_lastDue xST_unreached, ar (ad 10) cA 640 gSTdue, ar (ad 11) cA 20 gSTbusy, ar (ad 12) cA 20 gSTfelt, ar (ad 13) cA 20 gSTlost, ar (ad 14) cA 20 gSTfirst, oDia ad qe xDia_size, ar qe cA ne gDent, oShe ad xShe_latest, ar (ad 39) cA 240 gLitems, ar (ad 40) cA 4 gLforms, ar (ad 41) cA 4 gLsizes] H := hP
  have hD : va_D A [oHC ad xHC_first xHC_second xHC_when xHC_ran, oRow ad xRow_depth xRow_length xRow_people xRow_scarves xRow_main xRow_faultPlace, ar (ad 3) cA 20 gRkinds, ar (ad 4) cA 20 gRlates, ar (ad 5) cA 20 gRhands, ar (ad 6) cA 20 gRslow, oST ad xST_sleeper xST_lastDue xST_unreached, ar (ad 10) cA 640 gSTdue, ar (ad 11) cA 20 gSTbusy, ar (ad 12) cA 20 gSTfelt, ar (ad 13) cA 20 gSTlost, ar (ad 14) cA 20 gSTfirst, oDia ad qe xDia_size, ar qe cA ne gDent, oShe ad xShe_latest, ar (ad 39) cA 240 gLitems, ar (ad 40) cA 4 gLforms, ar (ad 41) cA 4 gLsizes] := hD
  have hw := hw.symm
  subst hw
  refine lv_if_ne (tgt := 10) hx hb dX9_write_4 (by decide) (fun c_5 => ?_) (fun c_5 => ?_)
  · have hm := it_neg c_5 hm
    refine lv_aload_n hx hb dX9_write_10 rfl (lv_at hl 0 rfl) ?_
    refine va_get (D := (dC, dI)) (ci := 9) (v := .ref (ad 38)) (C := RX9) (T := TX9) (N := 12) hx hb hts hinX9 hown hK hP 0 rfl rfl 7 (by decide) hl_68 (fun _ h9 => h9) rfl dX9_write_11 ?_
    refine lv_iload_n hx hb dX9_write_14 rfl (lv_at hl 1 rfl) ?_
    have hPc := hP.sub (ws' := [oShe ad xShe_latest, ar (ad 40) cA 4 gLforms]) [14, 16] rfl
    have hDc := hD.sub (ws' := [oShe ad xShe_latest, ar (ad 40) cA 4 gLforms]) [14, 16] (by decide) rfl
    have hFc := va_free (wc := [oShe ad xShe_latest, ar (ad 40) cA 4 gLforms]) hD hS hA [14, 16] rfl
    obtain ⟨u_6, hc_6, hm⟩ := bd_ok hm
    refine va_calli (va_runV (As := [.int a1]) (rest := []) ⟨hx, hb, hml, hown, hts⟩ (kL_isLost l dC dI cA ad H.size a1 xShe_latest gLforms u_6 hc_6) (cwV 1 hts gX9_write_X6_isLost rfl rfl rfl (by decide +kernel) ⟨Nat.le_of_ble_eq_true rfl, Nat.le_of_ble_eq_true rfl⟩) ⟨fun a U g mk q => by obtain ⟨q0, q1, qP, qK, qD⟩ := q; exact ⟨q0, q1, qP, va_K.moved (u := U) (U := U.calling g mk a) (Vm.Alike.refl U.vm) qK, qD⟩, va_recv hK hPc (ci := 6) (q0 := 0) rfl rfl, fun U hU hW => ⟨rfl, by rw [hU], by rw [hU]; exact hPc, va_K.moved hW.alike hK, hDc.weaken (fun _ _ _ _ => trivial)⟩⟩ rfl rfl hl.1 rfl (lv_room (Nat.le_of_ble_eq_true rfl)) dX9_write_15 ⟨by (show _ ≤ _ - _); omega, by (show _ ≤ 2 * (_ - _)); omega⟩) hS (fun q _ h => hFc q h) hFc (fun r_6 _ t H1 locs ht hvm hw hB hz1 hk1 hS => ?_)
    obtain ⟨hP1, hK1, hD1⟩ := hB
    rw [ht] at hP1
    obtain ⟨hP, hD⟩ := va_join (wr := [oHC ad xHC_first xHC_second xHC_when xHC_ran, oRow ad xRow_depth xRow_length xRow_people xRow_scarves xRow_main xRow_faultPlace, ar (ad 3) cA 20 gRkinds, ar (ad 4) cA 20 gRlates, ar (ad 5) cA 20 gRhands, ar (ad 6) cA 20 gRslow, oST ad xST_sleeper xST_lastDue xST_unreached, ar (ad 10) cA 640 gSTdue, ar (ad 11) cA 20 gSTbusy, ar (ad 12) cA 20 gSTfelt, ar (ad 13) cA 20 gSTlost, ar (ad 14) cA 20 gSTfirst, oDia ad qe xDia_size, ar qe cA ne gDent, ar (ad 39) cA 240 gLitems, ar (ad 41) cA 4 gLsizes]) (w1 := [oShe ad xShe_latest, ar (ad 40) cA 4 gLforms]) hP hD [14, 16] [0, 1, 2, 3, 4, 5, 6, 7, 8, 9, 10, 11, 12, 13, 15, 17] rfl rfl (by decide) (by decide) hk1 hFc hP1 hD1
    clear hPc hDc hFc hP1 hK1 hD1 hk1 hz1 hvm ht
    generalize H1 = H at hP hS ⊢
    have hP : va_P (dC, dI) vwCl [oHC ad xHC_first xHC_second xHC_when xHC_ran, oRow ad xRow_depth xRow_length xRow_people xRow_scarves xRow_main xRow_faultPlace, ar (ad 3) cA 20 gRkinds, ar (ad 4) cA 20 gRlates, ar (ad 5) cA 20 gRhands, ar (ad 6) cA 20 gRslow, oST ad xST_sleeper xST_lastDue xST_unreached, ar (ad 10) cA 640 gSTdue, ar (ad 11) cA 20 gSTbusy, ar (ad 12) cA 20 gSTfelt, ar (ad 13) cA 20 gSTlost, ar (ad 14) cA 20 gSTfirst, oDia ad qe xDia_size, ar qe cA ne gDent, oShe ad xShe_latest, ar (ad 39) cA 240 gLitems, ar (ad 40) cA 4 gLforms, ar (ad 41) cA 4 gLsizes] H := hP.sub [0, 1, 2, 3, 4, 5, 6, 7, 8, 9, 10, 11, 12, 13, 16, 14, 17, 15] rfl
    have hD : va_D A [oHC ad xHC_first xHC_second xHC_when xHC_ran, oRow ad xRow_depth xRow_length xRow_people xRow_scarves xRow_main xRow_faultPlace, ar (ad 3) cA 20 gRkinds, ar (ad 4) cA 20 gRlates, ar (ad 5) cA 20 gRhands, ar (ad 6) cA 20 gRslow, oST ad xST_sleeper xST_lastDue xST_unreached, ar (ad 10) cA 640 gSTdue, ar (ad 11) cA 20 gSTbusy, ar (ad 12) cA 20 gSTfelt, ar (ad 13) cA 20 gSTlost, ar (ad 14) cA 20 gSTfirst, oDia ad qe xDia_size, ar qe cA ne gDent, oShe ad xShe_latest, ar (ad 39) cA 240 gLitems, ar (ad 40) cA 4 gLforms, ar (ad 41) cA 4 gLsizes] := hD.sub [0, 1, 2, 3, 4, 5, 6, 7, 8, 9, 10, 11, 12, 13, 16, 14, 17, 15] (by decide) rfl
    have hw := hw.symm
    subst hw
    refine lv_if_eq (tgt := 30) hx hb dX9_write_18 (by decide) (fun c_7 => ?_) (fun c_7 => ?_)
    · have hm := it_pos c_7 hm
      refine lv_aload_n hx hb dX9_write_30 rfl (lv_at hl 0 rfl) ?_
      refine va_get (D := (dC, dI)) (ci := 9) (v := .ref (ad 38)) (C := RX9) (T := TX9) (N := 12) hx hb hts hinX9 hown hK hP 0 rfl rfl 7 (by decide) hl_68 (fun _ h9 => h9) rfl dX9_write_31 ?_
      refine va_get (D := (dC, dI)) (ci := 6) (v := .ref (ad 41)) (C := RX6) (T := TX6) (N := 4) hx hb hts hinX6 hown hK hP 14 rfl rfl 2 (by decide) hl_218 (fun _ h9 => h9) rfl dX9_write_34 ?_
      refine lv_iload_n hx hb dX9_write_37 rfl (lv_at hl 1 rfl) ?_
      obtain ⟨i_8, hm⟩ := ck_ok hm
      refine va_iald hx hb hK hP 17 0 rfl rfl i_8 dX9_write_38 ?_
      refine lv_aload_n hx hb dX9_write_39 rfl (lv_at hl 0 rfl) ?_
      refine va_get (D := (dC, dI)) (ci := 9) (v := .ref (ad 1)) (C := RX9) (T := TX9) (N := 12) hx hb hts hinX9 hown hK hP 0 rfl rfl 0 (by decide) hl_10 (fun _ h9 => h9) rfl dX9_write_40 ?_
      refine va_get (D := (dC, dI)) (ci := 5) (v := .int xRow_people) (C := RX5) (T := TX5) (N := 13) hx hb hts hinX5 hown hK hP 1 rfl rfl 9 (by decide) hl_233 (fun _ h9 => h9) rfl dX9_write_43 ?_
      refine va_mmin hx hb (by rw [hml]; exact hl.1.symm) hown hw_4 hw_5 hw_6 hw_7 (Nat.le_of_ble_eq_true rfl) (Nat.le_of_ble_eq_true rfl) (by first | exact Nat.zero_le _ | (show _ ≤ _ - _; omega)) (by first | exact Nat.zero_le _ | (show _ ≤ 2 * (_ - _); omega)) dX9_write_46 ?_
      refine lv_topi (fun y9 ey9 => ?_)
      have hm := nm_in ey9 hm
      refine lv_istore_n (lv' := [(2, .int y9), (0, .ref (ad 0)), (1, .int a1)]) hx hb dX9_write_49 rfl hl (by decide) rfl (fun ls hl => ?_)
      refine lv_aload_n hx hb dX9_write_50 rfl (lv_at hl 1 rfl) ?_
      have hPc := hP.sub (ws' := [oHC ad xHC_first xHC_second xHC_when xHC_ran, oRow ad xRow_depth xRow_length xRow_people xRow_scarves xRow_main xRow_faultPlace, ar (ad 3) cA 20 gRkinds, ar (ad 4) cA 20 gRlates, ar (ad 5) cA 20 gRhands, ar (ad 6) cA 20 gRslow, oST ad xST_sleeper xST_lastDue xST_unreached, ar (ad 10) cA 640 gSTdue, ar (ad 11) cA 20 gSTbusy, ar (ad 12) cA 20 gSTfelt, ar (ad 13) cA 20 gSTlost, ar (ad 14) cA 20 gSTfirst, oDia ad qe xDia_size, ar qe cA ne gDent]) [0, 1, 2, 3, 4, 5, 6, 7, 8, 9, 10, 11, 12, 13] rfl
      have hDc := hD.sub (ws' := [oHC ad xHC_first xHC_second xHC_when xHC_ran, oRow ad xRow_depth xRow_length xRow_people xRow_scarves xRow_main xRow_faultPlace, ar (ad 3) cA 20 gRkinds, ar (ad 4) cA 20 gRlates, ar (ad 5) cA 20 gRhands, ar (ad 6) cA 20 gRslow, oST ad xST_sleeper xST_lastDue xST_unreached, ar (ad 10) cA 640 gSTdue, ar (ad 11) cA 20 gSTbusy, ar (ad 12) cA 20 gSTfelt, ar (ad 13) cA 20 gSTlost, ar (ad 14) cA 20 gSTfirst, oDia ad qe xDia_size, ar qe cA ne gDent]) [0, 1, 2, 3, 4, 5, 6, 7, 8, 9, 10, 11, 12, 13] (by decide) rfl
      have hFc := va_free (wc := [oHC ad xHC_first xHC_second xHC_when xHC_ran, oRow ad xRow_depth xRow_length xRow_people xRow_scarves xRow_main xRow_faultPlace, ar (ad 3) cA 20 gRkinds, ar (ad 4) cA 20 gRlates, ar (ad 5) cA 20 gRhands, ar (ad 6) cA 20 gRslow, oST ad xST_sleeper xST_lastDue xST_unreached, ar (ad 10) cA 640 gSTdue, ar (ad 11) cA 20 gSTbusy, ar (ad 12) cA 20 gSTfelt, ar (ad 13) cA 20 gSTlost, ar (ad 14) cA 20 gSTfirst, oDia ad qe xDia_size, ar qe cA ne gDent]) hD hS hA [0, 1, 2, 3, 4, 5, 6, 7, 8, 9, 10, 11, 12, 13] rfl
      obtain ⟨u_10, hc_10, hn1_10, hn2_10, hm⟩ := bm_ok hm
      have hn1_10 : ne ≤ u_10.2.2.2.2.2.2.2.2.2.2.1 := hn1_10
      have hn2_10 : u_10.2.2.2.2.2.2.2.2.2.2.1 ≤ u.2.2.2.2.2.2.2.2.2.2.2.1 := hn2_10
      refine va_callr (va_runV (As := []) (rest := []) ⟨hx, hb, hml, hown, hts⟩ (kC_asTold l dC dI cA ad qe H.size xHC_first xHC_second xHC_when xHC_ran xRow_depth xRow_length xRow_people xRow_scarves xRow_main xRow_faultPlace gRkinds gRlates gRhands gRslow xST_sleeper xST_lastDue xST_unreached gSTdue gSTbusy gSTfelt gSTlost gSTfirst xDia_size ne gDent u_10 hc_10) (cwV 0 hts gX9_write_X9_asTold rfl rfl rfl (by decide +kernel) ⟨Nat.le_of_ble_eq_true rfl, Nat.le_of_ble_eq_true rfl⟩) ⟨fun a U g mk q => by obtain ⟨q0, q1, qP, qK, qD⟩ := q; exact ⟨q0, q1, qP, va_K.moved (u := U) (U := U.calling g mk a) (Vm.Alike.refl U.vm) qK, qD⟩, va_recv hK hPc (ci := 9) (q0 := 0) rfl rfl, fun U hU hW => ⟨rfl, by rw [hU], by rw [hU]; exact hPc, va_K.moved hW.alike hK, hDc.weaken (fun _ _ _ _ => trivial)⟩⟩ rfl rfl hl.1 rfl (lv_room (Nat.le_of_ble_eq_true rfl)) dX9_write_51 ⟨by (show _ ≤ _ - _); omega, by (show _ ≤ 2 * (_ - _)); omega⟩) hS (fun q _ h => hFc q h) hFc (fun qe_1010 ra_10 t H1 locs ht hvm hw hB hz1 hk1 hS => ?_)
      obtain ⟨hra_10, hP1, hK1, hD1⟩ := hB
      subst hra_10
      rw [ht] at hP1
      obtain ⟨hP, hD⟩ := va_join (wr := [oShe ad xShe_latest, ar (ad 39) cA 240 gLitems, ar (ad 40) cA 4 gLforms, ar (ad 41) cA 4 gLsizes]) (w1 := [oHC ad xHC_first xHC_second xHC_when u_10.1, oRow ad xRow_depth xRow_length xRow_people xRow_scarves xRow_main xRow_faultPlace, ar (ad 3) cA 20 gRkinds, ar (ad 4) cA 20 gRlates, ar (ad 5) cA 20 gRhands, ar (ad 6) cA 20 gRslow, oST ad u_10.2.1 u_10.2.2.1 u_10.2.2.2.1, ar (ad 10) cA 640 u_10.2.2.2.2.1, ar (ad 11) cA 20 u_10.2.2.2.2.2.1, ar (ad 12) cA 20 u_10.2.2.2.2.2.2.1, ar (ad 13) cA 20 u_10.2.2.2.2.2.2.2.1, ar (ad 14) cA 20 u_10.2.2.2.2.2.2.2.2.1, oDia ad qe_1010 u_10.2.2.2.2.2.2.2.2.2.1, ar qe_1010 cA u_10.2.2.2.2.2.2.2.2.2.2.1 u_10.2.2.2.2.2.2.2.2.2.2.2]) hP hD [0, 1, 2, 3, 4, 5, 6, 7, 8, 9, 10, 11, 12, 13] [14, 15, 16, 17] rfl rfl (by decide) (by decide) hk1 hFc hP1 hD1
      clear hPc hDc hFc hP1 hK1 hD1 hk1 hz1 hvm ht
      generalize H1 = H at hP hS ⊢
      have hP : va_P (dC, dI) vwCl [oHC ad xHC_first xHC_second xHC_when u_10.1, oRow ad xRow_depth xRow_length xRow_people xRow_scarves xRow_main xRow_faultPlace, ar (ad 3) cA 20 gRkinds, ar (ad 4) cA 20 gRlates, ar (ad 5) cA 20 gRhands, ar (ad 6) cA 20 gRslow, oST ad u_10.2.1 u_10.2.2.1 u_10.2.2.2.1, ar (ad 10) cA 640 u_10.2.2.2.2.1, ar (ad 11) cA 20 u_10.2.2.2.2.2.1, ar (ad 12) cA 20 u_10.2.2.2.2.2.2.1, ar (ad 13) cA 20 u_10.2.2.2.2.2.2.2.1, ar (ad 14) cA 20 u_10.2.2.2.2.2.2.2.2.1, oDia ad qe_1010 u_10.2.2.2.2.2.2.2.2.2.1, ar qe_1010 cA u_10.2.2.2.2.2.2.2.2.2.2.1 u_10.2.2.2.2.2.2.2.2.2.2.2, oShe ad xShe_latest, ar (ad 39) cA 240 gLitems, ar (ad 40) cA 4 gLforms, ar (ad 41) cA 4 gLsizes] H := hP.sub [4, 5, 6, 7, 8, 9, 10, 11, 12, 13, 14, 15, 16, 17, 0, 1, 2, 3] rfl
      have hD : va_D A [oHC ad xHC_first xHC_second xHC_when u_10.1, oRow ad xRow_depth xRow_length xRow_people xRow_scarves xRow_main xRow_faultPlace, ar (ad 3) cA 20 gRkinds, ar (ad 4) cA 20 gRlates, ar (ad 5) cA 20 gRhands, ar (ad 6) cA 20 gRslow, oST ad u_10.2.1 u_10.2.2.1 u_10.2.2.2.1, ar (ad 10) cA 640 u_10.2.2.2.2.1, ar (ad 11) cA 20 u_10.2.2.2.2.2.1, ar (ad 12) cA 20 u_10.2.2.2.2.2.2.1, ar (ad 13) cA 20 u_10.2.2.2.2.2.2.2.1, ar (ad 14) cA 20 u_10.2.2.2.2.2.2.2.2.1, oDia ad qe_1010 u_10.2.2.2.2.2.2.2.2.2.1, ar qe_1010 cA u_10.2.2.2.2.2.2.2.2.2.2.1 u_10.2.2.2.2.2.2.2.2.2.2.2, oShe ad xShe_latest, ar (ad 39) cA 240 gLitems, ar (ad 40) cA 4 gLforms, ar (ad 41) cA 4 gLsizes] := hD.sub [4, 5, 6, 7, 8, 9, 10, 11, 12, 13, 14, 15, 16, 17, 0, 1, 2, 3] (by decide) rfl
      refine W.widen (k := u_10.2.2.2.2.2.2.2.2.2.2.1 - ne) (n := 2 * (u_10.2.2.2.2.2.2.2.2.2.2.1 - ne)) (by omega) (by omega) ?_
      refine va_get (D := (dC, dI)) (ci := 8) (v := .ref (ad 14)) (C := RX8) (T := TX8) (N := 10) hx hb hts hinX8 hown hK hP 6 rfl rfl 6 (by decide) hl_154 (fun _ h9 => h9) rfl dX9_write_54 ?_
      refine lv_astore_n (lv' := [(3, .ref (ad 14)), (2, .int y9), (0, .ref (ad 0)), (1, .int a1)]) hx hb dX9_write_57 rfl hl (by decide) rfl (fun ls hl => ?_)
      refine lv_iconst (v := 0) hx hb dX9_write_58 (by decide) ?_
      refine lv_istore (lv' := [(4, .int 0), (3, .ref (ad 14)), (2, .int y9), (0, .ref (ad 0)), (1, .int a1)]) hx hb dX9_write_59 hl (by decide) rfl (fun ls hl => ?_)
      refine W.widen (k := u_10.2.2.2.2.2.2.2.2.2.2.1 - ne) (n := 2 * (u_10.2.2.2.2.2.2.2.2.2.2.1 - ne)) (by first | exact Nat.le_refl _ | omega) (by first | exact Nat.le_refl _ | omega) ?_
      exact h_61 _ _ _ _ _ _ _ _ _ _ _ _ _ _ _ _ _ _ hm _ _ _ (by omega) (by omega) hP hD hS _ (lv_sub hl [3, 4, 2, 1, 0] rfl)
    · have hm := it_neg c_7 hm
      refine lv_aload_n hx hb dX9_write_21 rfl (lv_at hl 0 rfl) ?_
      refine va_get (D := (dC, dI)) (ci := 9) (v := .ref (ad 38)) (C := RX9) (T := TX9) (N := 12) hx hb hts hinX9 hown hK hP 0 rfl rfl 7 (by decide) hl_68 (fun _ h9 => h9) rfl dX9_write_22 ?_
      refine lv_iconst (v := 1) hx hb dX9_write_25 (by decide) ?_
      have hPc := hP.sub (ws' := [oShe ad xShe_latest]) [14] rfl
      have hDc := hD.sub (ws' := [oShe ad xShe_latest]) [14] (by decide) rfl
      have hFc := va_free (wc := [oShe ad xShe_latest]) hD hS hA [14] rfl
      obtain ⟨u_11, hc_11, hm⟩ := bd_ok hm
      refine va_calli (va_runV (As := [.int 1]) (rest := []) ⟨hx, hb, hml, hown, hts⟩ (kL_finding l dC dI cA ad H.size 1 xShe_latest u_11 hc_11) (cwV 1 hts gX9_write_X6_finding rfl rfl rfl (by decide +kernel) ⟨Nat.le_of_ble_eq_true rfl, Nat.le_of_ble_eq_true rfl⟩) ⟨fun a U g mk q => by obtain ⟨q0, q1, qP, qK, qD⟩ := q; exact ⟨q0, q1, qP, va_K.moved (u := U) (U := U.calling g mk a) (Vm.Alike.refl U.vm) qK, qD⟩, va_recv hK hPc (ci := 6) (q0 := 0) rfl rfl, fun U hU hW => ⟨rfl, by rw [hU], by rw [hU]; exact hPc, va_K.moved hW.alike hK, hDc.weaken (fun _ _ _ _ => trivial)⟩⟩ rfl rfl hl.1 rfl (lv_room (Nat.le_of_ble_eq_true rfl)) dX9_write_26 ⟨by (show _ ≤ _ - _); omega, by (show _ ≤ 2 * (_ - _)); omega⟩) hS (fun q _ h => hFc q h) hFc (fun r_11 _ t H1 locs ht hvm hw hB hz1 hk1 hS => ?_)
      obtain ⟨hP1, hK1, hD1⟩ := hB
      rw [ht] at hP1
      obtain ⟨hP, hD⟩ := va_join (wr := [oHC ad xHC_first xHC_second xHC_when xHC_ran, oRow ad xRow_depth xRow_length xRow_people xRow_scarves xRow_main xRow_faultPlace, ar (ad 3) cA 20 gRkinds, ar (ad 4) cA 20 gRlates, ar (ad 5) cA 20 gRhands, ar (ad 6) cA 20 gRslow, oST ad xST_sleeper xST_lastDue xST_unreached, ar (ad 10) cA 640 gSTdue, ar (ad 11) cA 20 gSTbusy, ar (ad 12) cA 20 gSTfelt, ar (ad 13) cA 20 gSTlost, ar (ad 14) cA 20 gSTfirst, oDia ad qe xDia_size, ar qe cA ne gDent, ar (ad 39) cA 240 gLitems, ar (ad 40) cA 4 gLforms, ar (ad 41) cA 4 gLsizes]) (w1 := [oShe ad u_11.2]) hP hD [14] [0, 1, 2, 3, 4, 5, 6, 7, 8, 9, 10, 11, 12, 13, 15, 16, 17] rfl rfl (by decide) (by decide) hk1 hFc hP1 hD1
      clear hPc hDc hFc hP1 hK1 hD1 hk1 hz1 hvm ht
      generalize H1 = H at hP hS ⊢
      have hP : va_P (dC, dI) vwCl [oHC ad xHC_first xHC_second xHC_when xHC_ran, oRow ad xRow_depth xRow_length xRow_people xRow_scarves xRow_main xRow_faultPlace, ar (ad 3) cA 20 gRkinds, ar (ad 4) cA 20 gRlates, ar (ad 5) cA 20 gRhands, ar (ad 6) cA 20 gRslow, oST ad xST_sleeper xST_lastDue xST_unreached, ar (ad 10) cA 640 gSTdue, ar (ad 11) cA 20 gSTbusy, ar (ad 12) cA 20 gSTfelt, ar (ad 13) cA 20 gSTlost, ar (ad 14) cA 20 gSTfirst, oDia ad qe xDia_size, ar qe cA ne gDent, oShe ad u_11.2, ar (ad 39) cA 240 gLitems, ar (ad 40) cA 4 gLforms, ar (ad 41) cA 4 gLsizes] H := hP.sub [0, 1, 2, 3, 4, 5, 6, 7, 8, 9, 10, 11, 12, 13, 17, 14, 15, 16] rfl
      have hD : va_D A [oHC ad xHC_first xHC_second xHC_when xHC_ran, oRow ad xRow_depth xRow_length xRow_people xRow_scarves xRow_main xRow_faultPlace, ar (ad 3) cA 20 gRkinds, ar (ad 4) cA 20 gRlates, ar (ad 5) cA 20 gRhands, ar (ad 6) cA 20 gRslow, oST ad xST_sleeper xST_lastDue xST_unreached, ar (ad 10) cA 640 gSTdue, ar (ad 11) cA 20 gSTbusy, ar (ad 12) cA 20 gSTfelt, ar (ad 13) cA 20 gSTlost, ar (ad 14) cA 20 gSTfirst, oDia ad qe xDia_size, ar qe cA ne gDent, oShe ad u_11.2, ar (ad 39) cA 240 gLitems, ar (ad 40) cA 4 gLforms, ar (ad 41) cA 4 gLsizes] := hD.sub [0, 1, 2, 3, 4, 5, 6, 7, 8, 9, 10, 11, 12, 13, 17, 14, 15, 16] (by decide) rfl
      have hw := hw.symm
      subst hw
      obtain rfl := Option.some.inj hm
      subst hQ
      refine W.widen (k := ne - ne) (n := 2 * (ne - ne)) (by first | exact Nat.le_refl _ | omega) (by first | exact Nat.le_refl _ | omega) ?_
      exact W.iret (v := u_11.1) hx hb hr (fun t ht hW => ⟨⟨_, qe, rfl, rfl, by rw [ht]; exact hP, va_K.moved hW.alike hK, hAe ▸ hD⟩, hS.F ht⟩) hS.2.2 dX9_write_29
  · have hm := it_pos c_5 hm
    refine lv_bipush (v := (-2)) hx hb dX9_write_7 (by decide) ?_
    obtain rfl := Option.some.inj hm
    subst hQ
    refine W.widen (k := ne - ne) (n := 2 * (ne - ne)) (by first | exact Nat.le_refl _ | omega) (by first | exact Nat.le_refl _ | omega) ?_
    exact W.iret (v := (-2)) hx hb hr (fun t ht hW => ⟨⟨_, qe, rfl, rfl, by rw [ht]; exact hP, va_K.moved hW.alike hK, hAe ▸ hD⟩, hS.F ht⟩) hS.2.2 dX9_write_9

set_option maxHeartbeats 4000000 in
set_option maxRecDepth 100000 in
theorem kS_allLost_T (l : Launch) (dC : Nat → ClassId) (dI : Nat → Nat → Nat) (cA : ClassId) (ad : Nat → Nat) (sz : Nat) (xRow_depth : Int32) (xRow_length : Int32) (xRow_people : Int32) (xRow_scarves : Int32) (xRow_main : Int32) (xRow_faultPlace : Int32) (xST_sleeper : Int32) (xST_lastDue : Int32) (xST_unreached : Int32) (gSTlost : Nat → Int32) (u : Int32) (hm : fS_allLost_T xRow_people gSTlost = some u) : Met l yX8_allLost wsX8_allLost ({ frames := 0, cells := 0, slots := 0, locals := 0 }) (va_Pc [.ref (ad 9)] (fun U => U.heap.size = sz ∧ va_P (dC, dI) vwCl [oRow ad xRow_depth xRow_length xRow_people xRow_scarves xRow_main xRow_faultPlace, oST ad xST_sleeper xST_lastDue xST_unreached, ar (ad 13) cA 20 gSTlost] U.heap ∧ va_K (dC, dI) vwCl [(cA, .int)] U ∧ va_D (fun _ => True) [oRow ad xRow_depth xRow_length xRow_people xRow_scarves xRow_main xRow_faultPlace, oST ad xST_sleeper xST_lastDue xST_unreached, ar (ad 13) cA 20 gSTlost])) (va_Qi (fun (r : Int32) (_ : Unit) => r = u) (fun (_ : Unit) t => va_P (dC, dI) vwCl [oRow ad xRow_depth xRow_length xRow_people xRow_scarves xRow_main xRow_faultPlace, oST ad xST_sleeper xST_lastDue xST_unreached, ar (ad 13) cA 20 gSTlost] t.heap ∧ va_K (dC, dI) vwCl [(cA, .int)] t ∧ va_D (va_A [oRow ad xRow_depth xRow_length xRow_people xRow_scarves xRow_main xRow_faultPlace, oST ad xST_sleeper xST_lastDue xST_unreached, ar (ad 13) cA 20 gSTlost] sz) [oRow ad xRow_depth xRow_length xRow_people xRow_scarves xRow_main xRow_faultPlace, oST ad xST_sleeper xST_lastDue xST_unreached, ar (ad 13) cA 20 gSTlost]) (va_A [oRow ad xRow_depth xRow_length xRow_people xRow_scarves xRow_main xRow_faultPlace, oST ad xST_sleeper xST_lastDue xST_unreached, ar (ad 13) cA 20 gSTlost] sz)) 0 0 (va_A [oRow ad xRow_depth xRow_length xRow_people xRow_scarves xRow_main xRow_faultPlace, oST ad xST_sleeper xST_lastDue xST_unreached, ar (ad 13) cA 20 gSTlost] sz) := by
  refine Met.ofW (cc := cX8_allLost) (maxL := 3) (ret := (some .int)) (by decide) rfl ?_
  intro p e s m args below meth c s₁ B hml hv
  obtain ⟨rfl, hsz, hP, hK, hD0⟩ := hv
  have hx := B.exec
  have hb := B.bytes
  have hr := B.returns
  have hts := atoms_spec (ws := wsX8_allLost) B.pre
  have hown : s.vm.findClass RX8 = some m.cls := findClass_of_methodNamed B.named
  have hlocks := B.notSynchronized
  subst hsz
  have hD := hD0.self (sz := s.heap.size)
  generalize hAe : va_A [oRow ad xRow_depth xRow_length xRow_people xRow_scarves xRow_main xRow_faultPlace, oST ad xST_sleeper xST_lastDue xST_unreached, ar (ad 13) cA 20 gSTlost] s.heap.size = A at hD ⊢
  have hA : ∀ q : Nat, s.heap.size ≤ q → A q := fun q h => by rw [← hAe]; exact Or.inr h
  have hS : va_S A s.heap s.heap [] := va_S.rf
  have hl := lv_entry ([.ref (ad 9)]) (n := 3) (Nat.le_of_ble_eq_true rfl)
  rw [lg_entry_eq]
  generalize (lg_sl ([.ref (ad 9)]) ++ List.replicate (3 - (lg_sl ([.ref (ad 9)])).length) Slot.unset).toArray = ls at hl ⊢
  have hl : lv_has ls 3 [(0, .ref (ad 9))] := hl
  refine wk_Q (fun QQ hQ => ?_)
  have hinX8 : ∀ w ∈ wsX80, w ∈ wsX8_allLost := fun w h => List.mem_cons_of_mem _ (inlX8 w h)
  have hl_9 := hts (.fieldLink RX8 9 "HandCensus$Squeeze" "row" "LHandCensus$Row;") (List.mem_cons_of_mem _ (in_r4 _ (List.mem_of_getElem? (i := 2) rfl)))
  have hinX5 : ∀ w ∈ wsX50, w ∈ wsX8_allLost := fun w h => List.mem_cons_of_mem _ (inlX5 w h)
  have hl_42 := hts (.fieldLink RX8 42 "HandCensus$Row" "people" "I") (List.mem_cons_of_mem _ (in_r14 _ (List.mem_of_getElem? (i := 19) rfl)))
  have hl_29 := hts (.fieldLink RX8 29 "HandCensus$Squeeze" "lostMany" "[I") (List.mem_cons_of_mem _ (in_r4 _ (List.mem_of_getElem? (i := 7) rfl)))
  have h_4 : ∀ (n_4 : Nat), ∀ (v1_4 : Int32) (v2_4 : Int32), fS_allLost_T_4 xRow_people gSTlost n_4 v1_4 v2_4 = some u → ∀ (H : Heap) (locs : List Loc), va_P (dC, dI) vwCl [oRow ad xRow_depth xRow_length xRow_people xRow_scarves xRow_main xRow_faultPlace, oST ad xST_sleeper xST_lastDue xST_unreached, ar (ad 13) cA 20 gSTlost] H → va_D A [oRow ad xRow_depth xRow_length xRow_people xRow_scarves xRow_main xRow_faultPlace, oST ad xST_sleeper xST_lastDue xST_unreached, ar (ad 13) cA 20 gSTlost] → va_S A s.heap H locs → ∀ ls : Array Slot, lv_has ls 3 [(0, .ref (ad 9)), (1, .int v1_4), (2, .int v2_4)] → W p l e (headSpec wsX8_allLost ({ frames := 0, cells := 0, slots := 0, locals := 0 })).room s m ([.ref (ad 9)] : List Value).toArray below meth c H locs 0 0 QQ (F0 m 4 ls []) := by
    intro n_4
    induction n_4 with
    | zero => intro v1_4 v2_4 hm; have hm : (none : Option (Int32)) = some u := hm; cases hm
    | succ n_4 ih_4 =>
      intro v1_4 v2_4 hm H locs hP hD hS ls hl
      have hm : fS_allLost_T_4_b  (fS_allLost_T_4  xRow_people gSTlost n_4) xRow_people gSTlost v1_4 v2_4 = some u := hm
      unfold fS_allLost_T_4_b at hm
      refine lv_iload_n hx hb dX8_allLost_4 rfl (lv_at hl 2 rfl) ?_
      refine lv_aload_n hx hb dX8_allLost_5 rfl (lv_at hl 0 rfl) ?_
      refine va_get (D := (dC, dI)) (ci := 8) (v := .ref (ad 1)) (C := RX8) (T := TX8) (N := 10) hx hb hts hinX8 hown hK hP 1 rfl rfl 0 (by decide) hl_9 (fun _ h9 => h9) rfl dX8_allLost_6 ?_
      refine va_get (D := (dC, dI)) (ci := 5) (v := .int xRow_people) (C := RX5) (T := TX5) (N := 13) hx hb hts hinX5 hown hK hP 0 rfl rfl 9 (by decide) hl_42 (fun _ h9 => h9) rfl dX8_allLost_9 ?_
      refine lv_icmp_ge (tgt := 30) hx hb dX8_allLost_12 (by decide) (fun c_1 => ?_) (fun c_1 => ?_)
      · have hm := it_pos c_1 hm
        refine lv_iload_n hx hb dX8_allLost_30 rfl (lv_at hl 1 rfl) ?_
        obtain rfl := Option.some.inj hm
        subst hQ
        exact W.iret (v := v1_4) hx hb hr (fun t ht hW => ⟨⟨_, (), rfl, rfl, by rw [ht]; exact hP, va_K.moved hW.alike hK, hAe ▸ hD⟩, hS.F ht⟩) hS.2.2 dX8_allLost_31
      · have hm := it_neg c_1 hm
        refine lv_iload_n hx hb dX8_allLost_15 rfl (lv_at hl 1 rfl) ?_
        refine lv_aload_n hx hb dX8_allLost_16 rfl (lv_at hl 0 rfl) ?_
        refine va_get (D := (dC, dI)) (ci := 8) (v := .ref (ad 13)) (C := RX8) (T := TX8) (N := 10) hx hb hts hinX8 hown hK hP 1 rfl rfl 5 (by decide) hl_29 (fun _ h9 => h9) rfl dX8_allLost_17 ?_
        refine lv_iload_n hx hb dX8_allLost_20 rfl (lv_at hl 2 rfl) ?_
        obtain ⟨i_2, hm⟩ := ck_ok hm
        refine va_iald hx hb hK hP 2 0 rfl rfl i_2 dX8_allLost_21 ?_
        refine lv_iadd hx hb dX8_allLost_22 ?_
        refine lv_istore_n (lv' := [(1, .int (v1_4 + (gSTlost v2_4.toNatClampNeg))), (0, .ref (ad 9)), (2, .int v2_4)]) hx hb dX8_allLost_23 rfl hl (by decide) rfl (fun ls hl => ?_)
        refine lv_iinc (v := (v2_4 + 1)) (lv' := [(2, .int (v2_4 + 1)), (1, .int (v1_4 + (gSTlost v2_4.toNatClampNeg))), (0, .ref (ad 9))]) hx hb dX8_allLost_24 hl (k := 2) rfl rfl (by decide) rfl (fun ls hl => ?_)
        refine lv_goto (tgt := 4) hx hb dX8_allLost_27 (by decide) ?_
        exact ih_4 _ _ hm _ _ hP hD hS _ (lv_sub hl [2, 1, 0] rfl)
  unfold fS_allLost_T at hm
  refine lv_iconst (v := 0) hx hb dX8_allLost_0 (by decide) ?_
  refine lv_istore_n (lv' := [(1, .int 0), (0, .ref (ad 9))]) hx hb dX8_allLost_1 rfl hl (by decide) rfl (fun ls hl => ?_)
  refine lv_iconst (v := 0) hx hb dX8_allLost_2 (by decide) ?_
  refine lv_istore_n (lv' := [(2, .int 0), (1, .int 0), (0, .ref (ad 9))]) hx hb dX8_allLost_3 rfl hl (by decide) rfl (fun ls hl => ?_)
  exact h_4 _ _ _ hm _ _ hP hD hS _ (lv_sub hl [2, 1, 0] rfl)

set_option maxHeartbeats 4000000 in
set_option maxRecDepth 100000 in
theorem kR_pairs (l : Launch) (dC : Nat → ClassId) (dI : Nat → Nat → Nat) (cA : ClassId) (ad : Nat → Nat) (sz : Nat) (xRow_depth : Int32) (xRow_length : Int32) (xRow_people : Int32) (xRow_scarves : Int32) (xRow_main : Int32) (xRow_faultPlace : Int32) (gRhands : Nat → Int32) (u : Int32) (hm : fR_pairs xRow_people gRhands = some u) : Met l yX5_pairs wsX5_pairs ({ frames := 1, cells := 0, slots := 0, locals := 20 }) (va_Pc [.ref (ad 1)] (fun U => U.heap.size = sz ∧ va_P (dC, dI) vwCl [oRow ad xRow_depth xRow_length xRow_people xRow_scarves xRow_main xRow_faultPlace, ar (ad 5) cA 20 gRhands] U.heap ∧ va_K (dC, dI) vwCl [(cA, .int)] U ∧ va_D (fun _ => True) [oRow ad xRow_depth xRow_length xRow_people xRow_scarves xRow_main xRow_faultPlace, ar (ad 5) cA 20 gRhands])) (va_Qi (fun (r : Int32) (_ : Unit) => r = u) (fun (_ : Unit) t => va_P (dC, dI) vwCl [oRow ad xRow_depth xRow_length xRow_people xRow_scarves xRow_main xRow_faultPlace, ar (ad 5) cA 20 gRhands] t.heap ∧ va_K (dC, dI) vwCl [(cA, .int)] t ∧ va_D (va_A [oRow ad xRow_depth xRow_length xRow_people xRow_scarves xRow_main xRow_faultPlace, ar (ad 5) cA 20 gRhands] sz) [oRow ad xRow_depth xRow_length xRow_people xRow_scarves xRow_main xRow_faultPlace, ar (ad 5) cA 20 gRhands]) (va_A [oRow ad xRow_depth xRow_length xRow_people xRow_scarves xRow_main xRow_faultPlace, ar (ad 5) cA 20 gRhands] sz)) 0 0 (va_A [oRow ad xRow_depth xRow_length xRow_people xRow_scarves xRow_main xRow_faultPlace, ar (ad 5) cA 20 gRhands] sz) := by
  refine Met.ofW (cc := cX5_pairs) (maxL := 3) (ret := (some .int)) (by decide) rfl ?_
  intro p e s m args below meth c s₁ B hml hv
  obtain ⟨rfl, hsz, hP, hK, hD0⟩ := hv
  have hx := B.exec
  have hb := B.bytes
  have hr := B.returns
  have hts := atoms_spec (ws := wsX5_pairs) B.pre
  have hown : s.vm.findClass RX5 = some m.cls := findClass_of_methodNamed B.named
  have hlocks := B.notSynchronized
  subst hsz
  have hD := hD0.self (sz := s.heap.size)
  generalize hAe : va_A [oRow ad xRow_depth xRow_length xRow_people xRow_scarves xRow_main xRow_faultPlace, ar (ad 5) cA 20 gRhands] s.heap.size = A at hD ⊢
  have hA : ∀ q : Nat, s.heap.size ≤ q → A q := fun q h => by rw [← hAe]; exact Or.inr h
  have hS : va_S A s.heap s.heap [] := va_S.rf
  have hl := lv_entry ([.ref (ad 1)]) (n := 3) (Nat.le_of_ble_eq_true rfl)
  rw [lg_entry_eq]
  generalize (lg_sl ([.ref (ad 1)]) ++ List.replicate (3 - (lg_sl ([.ref (ad 1)])).length) Slot.unset).toArray = ls at hl ⊢
  have hl : lv_has ls 3 [(0, .ref (ad 1))] := hl
  refine wk_Q (fun QQ hQ => ?_)
  have hinX5 : ∀ w ∈ wsX50, w ∈ wsX5_pairs := fun w h => List.mem_cons_of_mem _ (inlX5 w h)
  have hl_43 := hts (.fieldLink RX5 43 "HandCensus$Row" "people" "I") (List.mem_cons_of_mem _ (in_r8 _ (List.mem_of_getElem? (i := 18) rfl)))
  have hl_21 := hts (.fieldLink RX5 21 "HandCensus$Row" "hands" "[I") (List.mem_cons_of_mem _ (in_r3 _ (List.mem_of_getElem? (i := 11) rfl)))
  have h_4 : ∀ (n_4 : Nat), ∀ (v1_4 : Int32) (v2_4 : Int32), fR_pairs_4 xRow_people gRhands n_4 v1_4 v2_4 = some u → ∀ (H : Heap) (locs : List Loc), va_P (dC, dI) vwCl [oRow ad xRow_depth xRow_length xRow_people xRow_scarves xRow_main xRow_faultPlace, ar (ad 5) cA 20 gRhands] H → va_D A [oRow ad xRow_depth xRow_length xRow_people xRow_scarves xRow_main xRow_faultPlace, ar (ad 5) cA 20 gRhands] → va_S A s.heap H locs → ∀ ls : Array Slot, lv_has ls 3 [(0, .ref (ad 1)), (1, .int v1_4), (2, .int v2_4)] → W p l e (headSpec wsX5_pairs ({ frames := 1, cells := 0, slots := 0, locals := 20 })).room s m ([.ref (ad 1)] : List Value).toArray below meth c H locs 0 0 QQ (F0 m 4 ls []) := by
    intro n_4
    induction n_4 with
    | zero => intro v1_4 v2_4 hm; have hm : (none : Option (Int32)) = some u := hm; cases hm
    | succ n_4 ih_4 =>
      intro v1_4 v2_4 hm H locs hP hD hS ls hl
      have hm : fR_pairs_4_b  (fR_pairs_4  xRow_people gRhands n_4) xRow_people gRhands v1_4 v2_4 = some u := hm
      unfold fR_pairs_4_b at hm
      refine lv_iload_n hx hb dX5_pairs_4 rfl (lv_at hl 2 rfl) ?_
      refine lv_aload_n hx hb dX5_pairs_5 rfl (lv_at hl 0 rfl) ?_
      refine va_get (D := (dC, dI)) (ci := 5) (v := .int xRow_people) (C := RX5) (T := TX5) (N := 13) hx hb hts hinX5 hown hK hP 0 rfl rfl 9 (by decide) hl_43 (fun _ h9 => h9) rfl dX5_pairs_6 ?_
      refine lv_icmp_ge (tgt := 30) hx hb dX5_pairs_9 (by decide) (fun c_1 => ?_) (fun c_1 => ?_)
      · have hm := it_pos c_1 hm
        refine lv_iload_n hx hb dX5_pairs_30 rfl (lv_at hl 1 rfl) ?_
        refine lv_iconst (v := 2) hx hb dX5_pairs_31 (by decide) ?_
        refine lv_idiv hx hb dX5_pairs_32 (by decide) ?_
        obtain rfl := Option.some.inj hm
        subst hQ
        exact W.iret (v := (v1_4 / 2)) hx hb hr (fun t ht hW => ⟨⟨_, (), rfl, rfl, by rw [ht]; exact hP, va_K.moved hW.alike hK, hAe ▸ hD⟩, hS.F ht⟩) hS.2.2 dX5_pairs_33
      · have hm := it_neg c_1 hm
        refine lv_iload_n hx hb dX5_pairs_12 rfl (lv_at hl 1 rfl) ?_
        refine lv_aload_n hx hb dX5_pairs_13 rfl (lv_at hl 0 rfl) ?_
        refine va_get (D := (dC, dI)) (ci := 5) (v := .ref (ad 5)) (C := RX5) (T := TX5) (N := 13) hx hb hts hinX5 hown hK hP 0 rfl rfl 3 (by decide) hl_21 (fun _ h9 => h9) rfl dX5_pairs_14 ?_
        refine lv_iload_n hx hb dX5_pairs_17 rfl (lv_at hl 2 rfl) ?_
        obtain ⟨i_3, hm⟩ := ck_ok hm
        refine va_iald hx hb hK hP 1 0 rfl rfl i_3 dX5_pairs_18 ?_
        have hPc := hP.sub (ws' := []) [] rfl
        have hDc := hD.sub (ws' := []) [] (by decide) rfl
        have hFc := va_free (wc := []) hD hS hA [] rfl
        obtain ⟨u_4, hc_4, hm⟩ := bd_ok hm
        refine va_calli (va_runS (As := [.int (gRhands v2_4.toNatClampNeg)]) (rest := [.int v1_4]) ⟨hx, hb, hml, hown, hts⟩ (kJ_bitCount l dC dI cA H.size (gRhands v2_4.toNatClampNeg) u_4 hc_4) (va_cwS 1 hts gX5_pairs_J6_bitCount_0f7a4 rfl rfl rfl (by decide +kernel) ⟨Nat.le_of_ble_eq_true rfl, Nat.le_of_ble_eq_true rfl⟩) ⟨fun a U g mk q => by obtain ⟨q0, q1, qP, qK, qD⟩ := q; exact ⟨q0, q1, qP, va_K.moved (u := U) (U := U.calling g mk a) (Vm.Alike.refl U.vm) qK, qD⟩, fun U hU hW => ⟨rfl, by rw [hU], by rw [hU]; exact hPc, va_K.moved hW.alike hK, hDc.weaken (fun _ _ _ _ => trivial)⟩⟩ rfl rfl hl.1 rfl (lv_room (Nat.le_of_ble_eq_true rfl)) dX5_pairs_19 ⟨Nat.le_of_ble_eq_true rfl, Nat.le_of_ble_eq_true rfl⟩) hS (fun q _ h => hFc q h) hFc (fun r_4 _ t H1 locs ht hvm hw hB hz1 hk1 hS => ?_)
        obtain ⟨hP1, hK1, hD1⟩ := hB
        rw [ht] at hP1
        obtain ⟨hP, hD⟩ := va_join (wr := [oRow ad xRow_depth xRow_length xRow_people xRow_scarves xRow_main xRow_faultPlace, ar (ad 5) cA 20 gRhands]) (w1 := []) hP hD [] [0, 1] rfl rfl (by decide) (by decide) hk1 hFc hP1 hD1
        clear hPc hDc hFc hP1 hK1 hD1 hk1 hz1 hvm ht
        generalize H1 = H at hP hS ⊢
        have hP : va_P (dC, dI) vwCl [oRow ad xRow_depth xRow_length xRow_people xRow_scarves xRow_main xRow_faultPlace, ar (ad 5) cA 20 gRhands] H := hP
        have hD : va_D A [oRow ad xRow_depth xRow_length xRow_people xRow_scarves xRow_main xRow_faultPlace, ar (ad 5) cA 20 gRhands] := hD
        have hw := hw.symm
        subst hw
        refine lv_iadd hx hb dX5_pairs_22 ?_
        refine lv_istore_n (lv' := [(1, .int (v1_4 + u_4)), (0, .ref (ad 1)), (2, .int v2_4)]) hx hb dX5_pairs_23 rfl hl (by decide) rfl (fun ls hl => ?_)
        refine lv_iinc (v := (v2_4 + 1)) (lv' := [(2, .int (v2_4 + 1)), (1, .int (v1_4 + u_4)), (0, .ref (ad 1))]) hx hb dX5_pairs_24 hl (k := 2) rfl rfl (by decide) rfl (fun ls hl => ?_)
        refine lv_goto (tgt := 4) hx hb dX5_pairs_27 (by decide) ?_
        exact ih_4 _ _ hm _ _ hP hD hS _ (lv_sub hl [2, 1, 0] rfl)
  unfold fR_pairs at hm
  refine lv_iconst (v := 0) hx hb dX5_pairs_0 (by decide) ?_
  refine lv_istore_n (lv' := [(1, .int 0), (0, .ref (ad 1))]) hx hb dX5_pairs_1 rfl hl (by decide) rfl (fun ls hl => ?_)
  refine lv_iconst (v := 0) hx hb dX5_pairs_2 (by decide) ?_
  refine lv_istore_n (lv' := [(2, .int 0), (1, .int 0), (0, .ref (ad 1))]) hx hb dX5_pairs_3 rfl hl (by decide) rfl (fun ls hl => ?_)
  exact h_4 _ _ _ hm _ _ hP hD hS _ (lv_sub hl [2, 1, 0] rfl)

set_option maxHeartbeats 4000000 in
set_option maxRecDepth 100000 in
theorem kC_count (l : Launch) (dC : Nat → ClassId) (dI : Nat → Nat → Nat) (cA : ClassId) (ad : Nat → Nat) (qe : Nat) (sz : Nat) (a1 : Int32) (xHC_first : Int32) (xHC_second : Int32) (xHC_when : Int32) (xHC_ran : Int32) (xRow_depth : Int32) (xRow_length : Int32) (xRow_people : Int32) (xRow_scarves : Int32) (xRow_main : Int32) (xRow_faultPlace : Int32) (gRkinds : Nat → Int32) (gRlates : Nat → Int32) (gRhands : Nat → Int32) (gRslow : Nat → Int32) (xST_sleeper : Int32) (xST_lastDue : Int32) (xST_unreached : Int32) (gSTdue : Nat → Int32) (gSTbusy : Nat → Int32) (gSTfelt : Nat → Int32) (gSTlost : Nat → Int32) (gSTfirst : Nat → Int32) (xDia_size : Int32) (ne : Nat) (gDent : Nat → Int32) (xHea_size : Int32) (xReg_size : Int32) (gGborn : Nat → Int32) (xShe_latest : Int32) (u : Int32 × Int32 × Int32 × Int32 × Int32 × (Nat → Int32) × (Nat → Int32) × (Nat → Int32) × (Nat → Int32) × (Nat → Int32) × Int32 × Nat × (Nat → Int32)) (hm : fC_count a1 xHC_first xHC_second xHC_when xHC_ran xRow_length xRow_people xRow_main gRkinds gRlates gRhands gRslow xST_sleeper xST_lastDue xST_unreached gSTdue gSTbusy gSTfelt gSTlost gSTfirst xDia_size ne gDent xHea_size xReg_size gGborn xShe_latest = some u) : Met l yX9_count wsX9_count ({ frames := 5, cells := (u.2.2.2.2.2.2.2.2.2.2.2.1 - ne), slots := (2 * (u.2.2.2.2.2.2.2.2.2.2.2.1 - ne)), locals := 123 }) (va_Pc [.ref (ad 0), .int a1] (fun U => U.heap.size = sz ∧ va_P (dC, dI) vwCl [oHC ad xHC_first xHC_second xHC_when xHC_ran, oRow ad xRow_depth xRow_length xRow_people xRow_scarves xRow_main xRow_faultPlace, ar (ad 3) cA 20 gRkinds, ar (ad 4) cA 20 gRlates, ar (ad 5) cA 20 gRhands, ar (ad 6) cA 20 gRslow, oST ad xST_sleeper xST_lastDue xST_unreached, ar (ad 10) cA 640 gSTdue, ar (ad 11) cA 20 gSTbusy, ar (ad 12) cA 20 gSTfelt, ar (ad 13) cA 20 gSTlost, ar (ad 14) cA 20 gSTfirst, oDia ad qe xDia_size, ar qe cA ne gDent, oHea ad xHea_size, oReg ad xReg_size, ar (ad 36) cA 100 gGborn, oShe ad xShe_latest] U.heap ∧ va_K (dC, dI) vwCl [(cA, .int)] U ∧ va_D (fun _ => True) [oHC ad xHC_first xHC_second xHC_when xHC_ran, oRow ad xRow_depth xRow_length xRow_people xRow_scarves xRow_main xRow_faultPlace, ar (ad 3) cA 20 gRkinds, ar (ad 4) cA 20 gRlates, ar (ad 5) cA 20 gRhands, ar (ad 6) cA 20 gRslow, oST ad xST_sleeper xST_lastDue xST_unreached, ar (ad 10) cA 640 gSTdue, ar (ad 11) cA 20 gSTbusy, ar (ad 12) cA 20 gSTfelt, ar (ad 13) cA 20 gSTlost, ar (ad 14) cA 20 gSTfirst, oDia ad qe xDia_size, ar qe cA ne gDent, oHea ad xHea_size, oReg ad xReg_size, ar (ad 36) cA 100 gGborn, oShe ad xShe_latest])) (va_Qi (fun (r : Int32) (_ : Nat) => r = u.1) (fun (qe2 : Nat) t => va_P (dC, dI) vwCl [oHC ad xHC_first xHC_second xHC_when u.2.1, oRow ad xRow_depth xRow_length xRow_people xRow_scarves xRow_main xRow_faultPlace, ar (ad 3) cA 20 gRkinds, ar (ad 4) cA 20 gRlates, ar (ad 5) cA 20 gRhands, ar (ad 6) cA 20 gRslow, oST ad u.2.2.1 u.2.2.2.1 u.2.2.2.2.1, ar (ad 10) cA 640 u.2.2.2.2.2.1, ar (ad 11) cA 20 u.2.2.2.2.2.2.1, ar (ad 12) cA 20 u.2.2.2.2.2.2.2.1, ar (ad 13) cA 20 u.2.2.2.2.2.2.2.2.1, ar (ad 14) cA 20 u.2.2.2.2.2.2.2.2.2.1, oDia ad qe2 u.2.2.2.2.2.2.2.2.2.2.1, ar qe2 cA u.2.2.2.2.2.2.2.2.2.2.2.1 u.2.2.2.2.2.2.2.2.2.2.2.2, oHea ad xHea_size, oReg ad xReg_size, ar (ad 36) cA 100 gGborn, oShe ad xShe_latest] t.heap ∧ va_K (dC, dI) vwCl [(cA, .int)] t ∧ va_D (va_A [oHC ad xHC_first xHC_second xHC_when xHC_ran, oRow ad xRow_depth xRow_length xRow_people xRow_scarves xRow_main xRow_faultPlace, ar (ad 3) cA 20 gRkinds, ar (ad 4) cA 20 gRlates, ar (ad 5) cA 20 gRhands, ar (ad 6) cA 20 gRslow, oST ad xST_sleeper xST_lastDue xST_unreached, ar (ad 10) cA 640 gSTdue, ar (ad 11) cA 20 gSTbusy, ar (ad 12) cA 20 gSTfelt, ar (ad 13) cA 20 gSTlost, ar (ad 14) cA 20 gSTfirst, oDia ad qe xDia_size, ar qe cA ne gDent, oHea ad xHea_size, oReg ad xReg_size, ar (ad 36) cA 100 gGborn, oShe ad xShe_latest] sz) [oHC ad xHC_first xHC_second xHC_when u.2.1, oRow ad xRow_depth xRow_length xRow_people xRow_scarves xRow_main xRow_faultPlace, ar (ad 3) cA 20 gRkinds, ar (ad 4) cA 20 gRlates, ar (ad 5) cA 20 gRhands, ar (ad 6) cA 20 gRslow, oST ad u.2.2.1 u.2.2.2.1 u.2.2.2.2.1, ar (ad 10) cA 640 u.2.2.2.2.2.1, ar (ad 11) cA 20 u.2.2.2.2.2.2.1, ar (ad 12) cA 20 u.2.2.2.2.2.2.2.1, ar (ad 13) cA 20 u.2.2.2.2.2.2.2.2.1, ar (ad 14) cA 20 u.2.2.2.2.2.2.2.2.2.1, oDia ad qe2 u.2.2.2.2.2.2.2.2.2.2.1, ar qe2 cA u.2.2.2.2.2.2.2.2.2.2.2.1 u.2.2.2.2.2.2.2.2.2.2.2.2, oHea ad xHea_size, oReg ad xReg_size, ar (ad 36) cA 100 gGborn, oShe ad xShe_latest]) (va_A [oHC ad xHC_first xHC_second xHC_when xHC_ran, oRow ad xRow_depth xRow_length xRow_people xRow_scarves xRow_main xRow_faultPlace, ar (ad 3) cA 20 gRkinds, ar (ad 4) cA 20 gRlates, ar (ad 5) cA 20 gRhands, ar (ad 6) cA 20 gRslow, oST ad xST_sleeper xST_lastDue xST_unreached, ar (ad 10) cA 640 gSTdue, ar (ad 11) cA 20 gSTbusy, ar (ad 12) cA 20 gSTfelt, ar (ad 13) cA 20 gSTlost, ar (ad 14) cA 20 gSTfirst, oDia ad qe xDia_size, ar qe cA ne gDent, oHea ad xHea_size, oReg ad xReg_size, ar (ad 36) cA 100 gGborn, oShe ad xShe_latest] sz)) (u.2.2.2.2.2.2.2.2.2.2.2.1 - ne) (2 * (u.2.2.2.2.2.2.2.2.2.2.2.1 - ne)) (va_A [oHC ad xHC_first xHC_second xHC_when xHC_ran, oRow ad xRow_depth xRow_length xRow_people xRow_scarves xRow_main xRow_faultPlace, ar (ad 3) cA 20 gRkinds, ar (ad 4) cA 20 gRlates, ar (ad 5) cA 20 gRhands, ar (ad 6) cA 20 gRslow, oST ad xST_sleeper xST_lastDue xST_unreached, ar (ad 10) cA 640 gSTdue, ar (ad 11) cA 20 gSTbusy, ar (ad 12) cA 20 gSTfelt, ar (ad 13) cA 20 gSTlost, ar (ad 14) cA 20 gSTfirst, oDia ad qe xDia_size, ar qe cA ne gDent, oHea ad xHea_size, oReg ad xReg_size, ar (ad 36) cA 100 gGborn, oShe ad xShe_latest] sz) := by
  refine Met.ofW (cc := cX9_count) (maxL := 2) (ret := (some .int)) (by decide) rfl ?_
  intro p e s m args below meth c s₁ B hml hv
  obtain ⟨rfl, hsz, hP, hK, hD0⟩ := hv
  have hx := B.exec
  have hb := B.bytes
  have hr := B.returns
  have hts := atoms_spec (ws := wsX9_count) B.pre
  have hown : s.vm.findClass RX9 = some m.cls := findClass_of_methodNamed B.named
  have hlocks := B.notSynchronized
  subst hsz
  have hD := hD0.self (sz := s.heap.size)
  generalize hAe : va_A [oHC ad xHC_first xHC_second xHC_when xHC_ran, oRow ad xRow_depth xRow_length xRow_people xRow_scarves xRow_main xRow_faultPlace, ar (ad 3) cA 20 gRkinds, ar (ad 4) cA 20 gRlates, ar (ad 5) cA 20 gRhands, ar (ad 6) cA 20 gRslow, oST ad xST_sleeper xST_lastDue xST_unreached, ar (ad 10) cA 640 gSTdue, ar (ad 11) cA 20 gSTbusy, ar (ad 12) cA 20 gSTfelt, ar (ad 13) cA 20 gSTlost, ar (ad 14) cA 20 gSTfirst, oDia ad qe xDia_size, ar qe cA ne gDent, oHea ad xHea_size, oReg ad xReg_size, ar (ad 36) cA 100 gGborn, oShe ad xShe_latest] s.heap.size = A at hD ⊢
  have hA : ∀ q : Nat, s.heap.size ≤ q → A q := fun q h => by rw [← hAe]; exact Or.inr h
  have hS : va_S A s.heap s.heap [] := va_S.rf
  have hl := lv_entry ([.ref (ad 0), .int a1]) (n := 2) (Nat.le_of_ble_eq_true rfl)
  rw [lg_entry_eq]
  generalize (lg_sl ([.ref (ad 0), .int a1]) ++ List.replicate (2 - (lg_sl ([.ref (ad 0), .int a1])).length) Slot.unset).toArray = ls at hl ⊢
  have hl : lv_has ls 2 [(0, .ref (ad 0)), (1, .int a1)] := hl
  refine wk_Q (fun QQ hQ => ?_)
  have hinX9 : ∀ w ∈ wsX90, w ∈ wsX9_count := fun w h => List.mem_cons_of_mem _ (inlX9 w h)
  have hl_10 := hts (.fieldLink RX9 10 "HandCensus" "row" "LHandCensus$Row;") (List.mem_cons_of_mem _ (in_r1 _ (List.mem_of_getElem? (i := 15) rfl)))
  have hinX5 : ∀ w ∈ wsX50, w ∈ wsX9_count := fun w h => List.mem_cons_of_mem _ (inlX5 w h)
  have hl_233 := hts (.fieldLink RX9 233 "HandCensus$Row" "people" "I") (List.mem_cons_of_mem _ (in_r13 _ (List.mem_of_getElem? (i := 9) rfl)))
  have hl_93 := hts (.fieldLink RX9 93 "HandCensus$Row" "length" "I") (List.mem_cons_of_mem _ (in_r8 _ (List.mem_of_getElem? (i := 7) rfl)))
  have hl_118 := hts (.fieldLink RX9 118 "HandCensus$Row" "main" "I") (List.mem_cons_of_mem _ (in_r13 _ (List.mem_of_getElem? (i := 4) rfl)))
  have hl_54 := hts (.fieldLink RX9 54 "HandCensus" "hearsay" "LHandCensus$Hearsay;") (List.mem_cons_of_mem _ (in_r2 _ (List.mem_of_getElem? (i := 14) rfl)))
  have hinX2 : ∀ w ∈ wsX20, w ∈ wsX9_count := fun w h => List.mem_cons_of_mem _ (inlX2 w h)
  have hl_224 := hts (.fieldLink RX9 224 "HandCensus$Hearsay" "size" "I") (List.mem_cons_of_mem _ (in_r34 _ (List.mem_of_getElem? (i := 9) rfl)))
  have hl_61 := hts (.fieldLink RX9 61 "HandCensus" "register" "LHandCensus$Register;") (List.mem_cons_of_mem _ (in_r2 _ (List.mem_of_getElem? (i := 18) rfl)))
  have hinX4 : ∀ w ∈ wsX40, w ∈ wsX9_count := fun w h => List.mem_cons_of_mem _ (inlX4 w h)
  have hl_292 := hts (.fieldLink RX9 292 "HandCensus$Register" "size" "I") (List.mem_cons_of_mem _ (in_r44 _ (List.mem_of_getElem? (i := 1) rfl)))
  have hl_68 := hts (.fieldLink RX9 68 "HandCensus" "shelf" "LHandCensus$Shelf;") (List.mem_cons_of_mem _ (in_r2 _ (List.mem_of_getElem? (i := 22) rfl)))
  have hinX6 : ∀ w ∈ wsX60, w ∈ wsX9_count := fun w h => List.mem_cons_of_mem _ (inlX6 w h)
  have hl_299 := hts (.fieldLink RX9 299 "HandCensus$Shelf" "latest" "I") (List.mem_cons_of_mem _ (in_r44 _ (List.mem_of_getElem? (i := 2) rfl)))
  unfold fC_count at hm
  obtain ⟨hz0, hm⟩ := mz_ok hm
  have hz0 : ne ≤ u.2.2.2.2.2.2.2.2.2.2.2.1 := hz0
  refine lv_iload_n hx hb dX9_count_0 rfl (lv_at hl 1 rfl) ?_
  by_cases s_1_0 : a1 = 0
  · have hm := it_pos s_1_0 hm
    refine lv_tableIn (tgt := 52) (off := 51) hx hb dX9_count_1 (by rw [s_1_0]; decide) (by rw [s_1_0]; decide) (by rw [s_1_0]; rfl) (by decide) ?_
    refine lv_aload_n hx hb dX9_count_52 rfl (lv_at hl 0 rfl) ?_
    refine va_get (D := (dC, dI)) (ci := 9) (v := .ref (ad 1)) (C := RX9) (T := TX9) (N := 12) hx hb hts hinX9 hown hK hP 0 rfl rfl 0 (by decide) hl_10 (fun _ h9 => h9) rfl dX9_count_53 ?_
    refine va_get (D := (dC, dI)) (ci := 5) (v := .int xRow_people) (C := RX5) (T := TX5) (N := 13) hx hb hts hinX5 hown hK hP 1 rfl rfl 9 (by decide) hl_233 (fun _ h9 => h9) rfl dX9_count_56 ?_
    obtain rfl := Option.some.inj hm
    subst hQ
    refine W.widen (k := ne - ne) (n := 2 * (ne - ne)) (by first | exact Nat.le_refl _ | omega) (by first | exact Nat.le_refl _ | omega) ?_
    exact W.iret (v := xRow_people) hx hb hr (fun t ht hW => ⟨⟨_, qe, rfl, rfl, by rw [ht]; exact hP, va_K.moved hW.alike hK, hAe ▸ hD⟩, hS.F ht⟩) hS.2.2 dX9_count_59
  · have hm := it_neg s_1_0 hm
    by_cases s_1_1 : a1 = 1
    · have hm := it_pos s_1_1 hm
      refine lv_tableIn (tgt := 60) (off := 59) hx hb dX9_count_1 (by rw [s_1_1]; decide) (by rw [s_1_1]; decide) (by rw [s_1_1]; rfl) (by decide) ?_
      refine lv_aload_n hx hb dX9_count_60 rfl (lv_at hl 0 rfl) ?_
      refine va_get (D := (dC, dI)) (ci := 9) (v := .ref (ad 1)) (C := RX9) (T := TX9) (N := 12) hx hb hts hinX9 hown hK hP 0 rfl rfl 0 (by decide) hl_10 (fun _ h9 => h9) rfl dX9_count_61 ?_
      refine va_get (D := (dC, dI)) (ci := 5) (v := .int xRow_length) (C := RX5) (T := TX5) (N := 13) hx hb hts hinX5 hown hK hP 1 rfl rfl 8 (by decide) hl_93 (fun _ h9 => h9) rfl dX9_count_64 ?_
      obtain rfl := Option.some.inj hm
      subst hQ
      refine W.widen (k := ne - ne) (n := 2 * (ne - ne)) (by first | exact Nat.le_refl _ | omega) (by first | exact Nat.le_refl _ | omega) ?_
      exact W.iret (v := xRow_length) hx hb hr (fun t ht hW => ⟨⟨_, qe, rfl, rfl, by rw [ht]; exact hP, va_K.moved hW.alike hK, hAe ▸ hD⟩, hS.F ht⟩) hS.2.2 dX9_count_67
    · have hm := it_neg s_1_1 hm
      by_cases s_1_2 : a1 = 2
      · have hm := it_pos s_1_2 hm
        refine lv_tableIn (tgt := 68) (off := 67) hx hb dX9_count_1 (by rw [s_1_2]; decide) (by rw [s_1_2]; decide) (by rw [s_1_2]; rfl) (by decide) ?_
        refine lv_aload_n hx hb dX9_count_68 rfl (lv_at hl 0 rfl) ?_
        refine va_get (D := (dC, dI)) (ci := 9) (v := .ref (ad 1)) (C := RX9) (T := TX9) (N := 12) hx hb hts hinX9 hown hK hP 0 rfl rfl 0 (by decide) hl_10 (fun _ h9 => h9) rfl dX9_count_69 ?_
        refine va_get (D := (dC, dI)) (ci := 5) (v := .int xRow_main) (C := RX5) (T := TX5) (N := 13) hx hb hts hinX5 hown hK hP 1 rfl rfl 11 (by decide) hl_118 (fun _ h9 => h9) rfl dX9_count_72 ?_
        have hPc := hP.sub (ws' := []) [] rfl
        have hDc := hD.sub (ws' := []) [] (by decide) rfl
        have hFc := va_free (wc := []) hD hS hA [] rfl
        obtain ⟨u_2, hc_2, hm⟩ := bd_ok hm
        refine va_calli (va_runS (As := [.int xRow_main]) (rest := []) ⟨hx, hb, hml, hown, hts⟩ (kJ_bitCount l dC dI cA s.heap.size xRow_main u_2 hc_2) (va_cwS 1 hts gX9_count_J6_bitCount_0f7a4 rfl rfl rfl (by decide +kernel) ⟨Nat.le_of_ble_eq_true rfl, Nat.le_of_ble_eq_true rfl⟩) ⟨fun a U g mk q => by obtain ⟨q0, q1, qP, qK, qD⟩ := q; exact ⟨q0, q1, qP, va_K.moved (u := U) (U := U.calling g mk a) (Vm.Alike.refl U.vm) qK, qD⟩, fun U hU hW => ⟨rfl, by rw [hU], by rw [hU]; exact hPc, va_K.moved hW.alike hK, hDc.weaken (fun _ _ _ _ => trivial)⟩⟩ rfl rfl hl.1 rfl (lv_room (Nat.le_of_ble_eq_true rfl)) dX9_count_75 ⟨by (show _ ≤ _ - _); omega, by (show _ ≤ 2 * (_ - _)); omega⟩) hS (fun q _ h => hFc q h) hFc (fun r_2 _ t H1 locs ht hvm hw hB hz1 hk1 hS => ?_)
        obtain ⟨hP1, hK1, hD1⟩ := hB
        rw [ht] at hP1
        obtain ⟨hP, hD⟩ := va_join (wr := [oHC ad xHC_first xHC_second xHC_when xHC_ran, oRow ad xRow_depth xRow_length xRow_people xRow_scarves xRow_main xRow_faultPlace, ar (ad 3) cA 20 gRkinds, ar (ad 4) cA 20 gRlates, ar (ad 5) cA 20 gRhands, ar (ad 6) cA 20 gRslow, oST ad xST_sleeper xST_lastDue xST_unreached, ar (ad 10) cA 640 gSTdue, ar (ad 11) cA 20 gSTbusy, ar (ad 12) cA 20 gSTfelt, ar (ad 13) cA 20 gSTlost, ar (ad 14) cA 20 gSTfirst, oDia ad qe xDia_size, ar qe cA ne gDent, oHea ad xHea_size, oReg ad xReg_size, ar (ad 36) cA 100 gGborn, oShe ad xShe_latest]) (w1 := []) hP hD [] [0, 1, 2, 3, 4, 5, 6, 7, 8, 9, 10, 11, 12, 13, 14, 15, 16, 17] rfl rfl (by decide) (by decide) hk1 hFc hP1 hD1
        clear hPc hDc hFc hP1 hK1 hD1 hk1 hz1 hvm ht
        generalize H1 = H at hP hS ⊢
        have hP : va_P (dC, dI) vwCl [oHC ad xHC_first xHC_second xHC_when xHC_ran, oRow ad xRow_depth xRow_length xRow_people xRow_scarves xRow_main xRow_faultPlace, ar (ad 3) cA 20 gRkinds, ar (ad 4) cA 20 gRlates, ar (ad 5) cA 20 gRhands, ar (ad 6) cA 20 gRslow, oST ad xST_sleeper xST_lastDue xST_unreached, ar (ad 10) cA 640 gSTdue, ar (ad 11) cA 20 gSTbusy, ar (ad 12) cA 20 gSTfelt, ar (ad 13) cA 20 gSTlost, ar (ad 14) cA 20 gSTfirst, oDia ad qe xDia_size, ar qe cA ne gDent, oHea ad xHea_size, oReg ad xReg_size, ar (ad 36) cA 100 gGborn, oShe ad xShe_latest] H := hP
        have hD : va_D A [oHC ad xHC_first xHC_second xHC_when xHC_ran, oRow ad xRow_depth xRow_length xRow_people xRow_scarves xRow_main xRow_faultPlace, ar (ad 3) cA 20 gRkinds, ar (ad 4) cA 20 gRlates, ar (ad 5) cA 20 gRhands, ar (ad 6) cA 20 gRslow, oST ad xST_sleeper xST_lastDue xST_unreached, ar (ad 10) cA 640 gSTdue, ar (ad 11) cA 20 gSTbusy, ar (ad 12) cA 20 gSTfelt, ar (ad 13) cA 20 gSTlost, ar (ad 14) cA 20 gSTfirst, oDia ad qe xDia_size, ar qe cA ne gDent, oHea ad xHea_size, oReg ad xReg_size, ar (ad 36) cA 100 gGborn, oShe ad xShe_latest] := hD
        have hw := hw.symm
        subst hw
        obtain rfl := Option.some.inj hm
        subst hQ
        refine W.widen (k := ne - ne) (n := 2 * (ne - ne)) (by first | exact Nat.le_refl _ | omega) (by first | exact Nat.le_refl _ | omega) ?_
        exact W.iret (v := u_2) hx hb hr (fun t ht hW => ⟨⟨_, qe, rfl, rfl, by rw [ht]; exact hP, va_K.moved hW.alike hK, hAe ▸ hD⟩, hS.F ht⟩) hS.2.2 dX9_count_78
      · have hm := it_neg s_1_2 hm
        by_cases s_1_3 : a1 = 3
        · have hm := it_pos s_1_3 hm
          refine lv_tableIn (tgt := 79) (off := 78) hx hb dX9_count_1 (by rw [s_1_3]; decide) (by rw [s_1_3]; decide) (by rw [s_1_3]; rfl) (by decide) ?_
          refine lv_aload_n hx hb dX9_count_79 rfl (lv_at hl 0 rfl) ?_
          refine va_get (D := (dC, dI)) (ci := 9) (v := .ref (ad 1)) (C := RX9) (T := TX9) (N := 12) hx hb hts hinX9 hown hK hP 0 rfl rfl 0 (by decide) hl_10 (fun _ h9 => h9) rfl dX9_count_80 ?_
          have hPc := hP.sub (ws' := [oRow ad xRow_depth xRow_length xRow_people xRow_scarves xRow_main xRow_faultPlace, ar (ad 5) cA 20 gRhands]) [1, 4] rfl
          have hDc := hD.sub (ws' := [oRow ad xRow_depth xRow_length xRow_people xRow_scarves xRow_main xRow_faultPlace, ar (ad 5) cA 20 gRhands]) [1, 4] (by decide) rfl
          have hFc := va_free (wc := [oRow ad xRow_depth xRow_length xRow_people xRow_scarves xRow_main xRow_faultPlace, ar (ad 5) cA 20 gRhands]) hD hS hA [1, 4] rfl
          obtain ⟨u_3, hc_3, hm⟩ := bd_ok hm
          refine va_calli (va_runV (As := []) (rest := []) ⟨hx, hb, hml, hown, hts⟩ (kR_pairs l dC dI cA ad s.heap.size xRow_depth xRow_length xRow_people xRow_scarves xRow_main xRow_faultPlace gRhands u_3 hc_3) (cwV 0 hts gX9_count_X5_pairs rfl rfl rfl (by decide +kernel) ⟨Nat.le_of_ble_eq_true rfl, Nat.le_of_ble_eq_true rfl⟩) ⟨fun a U g mk q => by obtain ⟨q0, q1, qP, qK, qD⟩ := q; exact ⟨q0, q1, qP, va_K.moved (u := U) (U := U.calling g mk a) (Vm.Alike.refl U.vm) qK, qD⟩, va_recv hK hPc (ci := 5) (q0 := 0) rfl rfl, fun U hU hW => ⟨rfl, by rw [hU], by rw [hU]; exact hPc, va_K.moved hW.alike hK, hDc.weaken (fun _ _ _ _ => trivial)⟩⟩ rfl rfl hl.1 rfl (lv_room (Nat.le_of_ble_eq_true rfl)) dX9_count_83 ⟨by (show _ ≤ _ - _); omega, by (show _ ≤ 2 * (_ - _)); omega⟩) hS (fun q _ h => hFc q h) hFc (fun r_3 _ t H1 locs ht hvm hw hB hz1 hk1 hS => ?_)
          obtain ⟨hP1, hK1, hD1⟩ := hB
          rw [ht] at hP1
          obtain ⟨hP, hD⟩ := va_join (wr := [oHC ad xHC_first xHC_second xHC_when xHC_ran, ar (ad 3) cA 20 gRkinds, ar (ad 4) cA 20 gRlates, ar (ad 6) cA 20 gRslow, oST ad xST_sleeper xST_lastDue xST_unreached, ar (ad 10) cA 640 gSTdue, ar (ad 11) cA 20 gSTbusy, ar (ad 12) cA 20 gSTfelt, ar (ad 13) cA 20 gSTlost, ar (ad 14) cA 20 gSTfirst, oDia ad qe xDia_size, ar qe cA ne gDent, oHea ad xHea_size, oReg ad xReg_size, ar (ad 36) cA 100 gGborn, oShe ad xShe_latest]) (w1 := [oRow ad xRow_depth xRow_length xRow_people xRow_scarves xRow_main xRow_faultPlace, ar (ad 5) cA 20 gRhands]) hP hD [1, 4] [0, 2, 3, 5, 6, 7, 8, 9, 10, 11, 12, 13, 14, 15, 16, 17] rfl rfl (by decide) (by decide) hk1 hFc hP1 hD1
          clear hPc hDc hFc hP1 hK1 hD1 hk1 hz1 hvm ht
          generalize H1 = H at hP hS ⊢
          have hP : va_P (dC, dI) vwCl [oHC ad xHC_first xHC_second xHC_when xHC_ran, oRow ad xRow_depth xRow_length xRow_people xRow_scarves xRow_main xRow_faultPlace, ar (ad 3) cA 20 gRkinds, ar (ad 4) cA 20 gRlates, ar (ad 5) cA 20 gRhands, ar (ad 6) cA 20 gRslow, oST ad xST_sleeper xST_lastDue xST_unreached, ar (ad 10) cA 640 gSTdue, ar (ad 11) cA 20 gSTbusy, ar (ad 12) cA 20 gSTfelt, ar (ad 13) cA 20 gSTlost, ar (ad 14) cA 20 gSTfirst, oDia ad qe xDia_size, ar qe cA ne gDent, oHea ad xHea_size, oReg ad xReg_size, ar (ad 36) cA 100 gGborn, oShe ad xShe_latest] H := hP.sub [0, 16, 1, 2, 17, 3, 4, 5, 6, 7, 8, 9, 10, 11, 12, 13, 14, 15] rfl
          have hD : va_D A [oHC ad xHC_first xHC_second xHC_when xHC_ran, oRow ad xRow_depth xRow_length xRow_people xRow_scarves xRow_main xRow_faultPlace, ar (ad 3) cA 20 gRkinds, ar (ad 4) cA 20 gRlates, ar (ad 5) cA 20 gRhands, ar (ad 6) cA 20 gRslow, oST ad xST_sleeper xST_lastDue xST_unreached, ar (ad 10) cA 640 gSTdue, ar (ad 11) cA 20 gSTbusy, ar (ad 12) cA 20 gSTfelt, ar (ad 13) cA 20 gSTlost, ar (ad 14) cA 20 gSTfirst, oDia ad qe xDia_size, ar qe cA ne gDent, oHea ad xHea_size, oReg ad xReg_size, ar (ad 36) cA 100 gGborn, oShe ad xShe_latest] := hD.sub [0, 16, 1, 2, 17, 3, 4, 5, 6, 7, 8, 9, 10, 11, 12, 13, 14, 15] (by decide) rfl
          have hw := hw.symm
          subst hw
          obtain rfl := Option.some.inj hm
          subst hQ
          refine W.widen (k := ne - ne) (n := 2 * (ne - ne)) (by first | exact Nat.le_refl _ | omega) (by first | exact Nat.le_refl _ | omega) ?_
          exact W.iret (v := u_3) hx hb hr (fun t ht hW => ⟨⟨_, qe, rfl, rfl, by rw [ht]; exact hP, va_K.moved hW.alike hK, hAe ▸ hD⟩, hS.F ht⟩) hS.2.2 dX9_count_86
        · have hm := it_neg s_1_3 hm
          by_cases s_1_4 : a1 = 4
          · have hm := it_pos s_1_4 hm
            refine lv_tableIn (tgt := 87) (off := 86) hx hb dX9_count_1 (by rw [s_1_4]; decide) (by rw [s_1_4]; decide) (by rw [s_1_4]; rfl) (by decide) ?_
            refine lv_aload_n hx hb dX9_count_87 rfl (lv_at hl 0 rfl) ?_
            refine va_get (D := (dC, dI)) (ci := 9) (v := .ref (ad 30)) (C := RX9) (T := TX9) (N := 12) hx hb hts hinX9 hown hK hP 0 rfl rfl 5 (by decide) hl_54 (fun _ h9 => h9) rfl dX9_count_88 ?_
            refine va_get (D := (dC, dI)) (ci := 2) (v := .int xHea_size) (C := RX2) (T := TX2) (N := 3) hx hb hts hinX2 hown hK hP 14 rfl rfl 2 (by decide) hl_224 (fun _ h9 => h9) rfl dX9_count_91 ?_
            obtain rfl := Option.some.inj hm
            subst hQ
            refine W.widen (k := ne - ne) (n := 2 * (ne - ne)) (by first | exact Nat.le_refl _ | omega) (by first | exact Nat.le_refl _ | omega) ?_
            exact W.iret (v := xHea_size) hx hb hr (fun t ht hW => ⟨⟨_, qe, rfl, rfl, by rw [ht]; exact hP, va_K.moved hW.alike hK, hAe ▸ hD⟩, hS.F ht⟩) hS.2.2 dX9_count_94
          · have hm := it_neg s_1_4 hm
            by_cases s_1_5 : a1 = 5
            · have hm := it_pos s_1_5 hm
              refine lv_tableIn (tgt := 95) (off := 94) hx hb dX9_count_1 (by rw [s_1_5]; decide) (by rw [s_1_5]; decide) (by rw [s_1_5]; rfl) (by decide) ?_
              refine lv_aload_n hx hb dX9_count_95 rfl (lv_at hl 0 rfl) ?_
              refine va_get (D := (dC, dI)) (ci := 9) (v := .ref (ad 33)) (C := RX9) (T := TX9) (N := 12) hx hb hts hinX9 hown hK hP 0 rfl rfl 6 (by decide) hl_61 (fun _ h9 => h9) rfl dX9_count_96 ?_
              refine va_get (D := (dC, dI)) (ci := 4) (v := .int xReg_size) (C := RX4) (T := TX4) (N := 5) hx hb hts hinX4 hown hK hP 15 rfl rfl 4 (by decide) hl_292 (fun _ h9 => h9) rfl dX9_count_99 ?_
              obtain rfl := Option.some.inj hm
              subst hQ
              refine W.widen (k := ne - ne) (n := 2 * (ne - ne)) (by first | exact Nat.le_refl _ | omega) (by first | exact Nat.le_refl _ | omega) ?_
              exact W.iret (v := xReg_size) hx hb hr (fun t ht hW => ⟨⟨_, qe, rfl, rfl, by rw [ht]; exact hP, va_K.moved hW.alike hK, hAe ▸ hD⟩, hS.F ht⟩) hS.2.2 dX9_count_102
            · have hm := it_neg s_1_5 hm
              by_cases s_1_6 : a1 = 6
              · have hm := it_pos s_1_6 hm
                refine lv_tableIn (tgt := 103) (off := 102) hx hb dX9_count_1 (by rw [s_1_6]; decide) (by rw [s_1_6]; decide) (by rw [s_1_6]; rfl) (by decide) ?_
                refine lv_aload_n hx hb dX9_count_103 rfl (lv_at hl 0 rfl) ?_
                refine va_get (D := (dC, dI)) (ci := 9) (v := .ref (ad 33)) (C := RX9) (T := TX9) (N := 12) hx hb hts hinX9 hown hK hP 0 rfl rfl 6 (by decide) hl_61 (fun _ h9 => h9) rfl dX9_count_104 ?_
                refine lv_iconst (v := 0) hx hb dX9_count_107 (by decide) ?_
                refine lv_bipush (v := 100) hx hb dX9_count_108 (by decide) ?_
                have hPc := hP.sub (ws' := [oReg ad xReg_size, ar (ad 36) cA 100 gGborn]) [15, 16] rfl
                have hDc := hD.sub (ws' := [oReg ad xReg_size, ar (ad 36) cA 100 gGborn]) [15, 16] (by decide) rfl
                have hFc := va_free (wc := [oReg ad xReg_size, ar (ad 36) cA 100 gGborn]) hD hS hA [15, 16] rfl
                obtain ⟨u_4, hc_4, hm⟩ := bd_ok hm
                refine va_calli (va_runV (As := [.int 0, .int 100]) (rest := []) ⟨hx, hb, hml, hown, hts⟩ (kG_birthsOf l dC dI cA ad s.heap.size 0 100 xReg_size gGborn u_4 hc_4) (cwV 2 hts gX9_count_X4_birthsOf rfl rfl rfl (by decide +kernel) ⟨Nat.le_of_ble_eq_true rfl, Nat.le_of_ble_eq_true rfl⟩) ⟨fun a U g mk q => by obtain ⟨q0, q1, qP, qK, qD⟩ := q; exact ⟨q0, q1, qP, va_K.moved (u := U) (U := U.calling g mk a) (Vm.Alike.refl U.vm) qK, qD⟩, va_recv hK hPc (ci := 4) (q0 := 0) rfl rfl, fun U hU hW => ⟨rfl, by rw [hU], by rw [hU]; exact hPc, va_K.moved hW.alike hK, hDc.weaken (fun _ _ _ _ => trivial)⟩⟩ rfl rfl hl.1 rfl (lv_room (Nat.le_of_ble_eq_true rfl)) dX9_count_110 ⟨by (show _ ≤ _ - _); omega, by (show _ ≤ 2 * (_ - _)); omega⟩) hS (fun q _ h => hFc q h) hFc (fun r_4 _ t H1 locs ht hvm hw hB hz1 hk1 hS => ?_)
                obtain ⟨hP1, hK1, hD1⟩ := hB
                rw [ht] at hP1
                obtain ⟨hP, hD⟩ := va_join (wr := [oHC ad xHC_first xHC_second xHC_when xHC_ran, oRow ad xRow_depth xRow_length xRow_people xRow_scarves xRow_main xRow_faultPlace, ar (ad 3) cA 20 gRkinds, ar (ad 4) cA 20 gRlates, ar (ad 5) cA 20 gRhands, ar (ad 6) cA 20 gRslow, oST ad xST_sleeper xST_lastDue xST_unreached, ar (ad 10) cA 640 gSTdue, ar (ad 11) cA 20 gSTbusy, ar (ad 12) cA 20 gSTfelt, ar (ad 13) cA 20 gSTlost, ar (ad 14) cA 20 gSTfirst, oDia ad qe xDia_size, ar qe cA ne gDent, oHea ad xHea_size, oShe ad xShe_latest]) (w1 := [oReg ad xReg_size, ar (ad 36) cA 100 gGborn]) hP hD [15, 16] [0, 1, 2, 3, 4, 5, 6, 7, 8, 9, 10, 11, 12, 13, 14, 17] rfl rfl (by decide) (by decide) hk1 hFc hP1 hD1
                clear hPc hDc hFc hP1 hK1 hD1 hk1 hz1 hvm ht
                generalize H1 = H at hP hS ⊢
                have hP : va_P (dC, dI) vwCl [oHC ad xHC_first xHC_second xHC_when xHC_ran, oRow ad xRow_depth xRow_length xRow_people xRow_scarves xRow_main xRow_faultPlace, ar (ad 3) cA 20 gRkinds, ar (ad 4) cA 20 gRlates, ar (ad 5) cA 20 gRhands, ar (ad 6) cA 20 gRslow, oST ad xST_sleeper xST_lastDue xST_unreached, ar (ad 10) cA 640 gSTdue, ar (ad 11) cA 20 gSTbusy, ar (ad 12) cA 20 gSTfelt, ar (ad 13) cA 20 gSTlost, ar (ad 14) cA 20 gSTfirst, oDia ad qe xDia_size, ar qe cA ne gDent, oHea ad xHea_size, oReg ad xReg_size, ar (ad 36) cA 100 gGborn, oShe ad xShe_latest] H := hP.sub [0, 1, 2, 3, 4, 5, 6, 7, 8, 9, 10, 11, 12, 13, 14, 16, 17, 15] rfl
                have hD : va_D A [oHC ad xHC_first xHC_second xHC_when xHC_ran, oRow ad xRow_depth xRow_length xRow_people xRow_scarves xRow_main xRow_faultPlace, ar (ad 3) cA 20 gRkinds, ar (ad 4) cA 20 gRlates, ar (ad 5) cA 20 gRhands, ar (ad 6) cA 20 gRslow, oST ad xST_sleeper xST_lastDue xST_unreached, ar (ad 10) cA 640 gSTdue, ar (ad 11) cA 20 gSTbusy, ar (ad 12) cA 20 gSTfelt, ar (ad 13) cA 20 gSTlost, ar (ad 14) cA 20 gSTfirst, oDia ad qe xDia_size, ar qe cA ne gDent, oHea ad xHea_size, oReg ad xReg_size, ar (ad 36) cA 100 gGborn, oShe ad xShe_latest] := hD.sub [0, 1, 2, 3, 4, 5, 6, 7, 8, 9, 10, 11, 12, 13, 14, 16, 17, 15] (by decide) rfl
                have hw := hw.symm
                subst hw
                obtain rfl := Option.some.inj hm
                subst hQ
                refine W.widen (k := ne - ne) (n := 2 * (ne - ne)) (by first | exact Nat.le_refl _ | omega) (by first | exact Nat.le_refl _ | omega) ?_
                exact W.iret (v := u_4) hx hb hr (fun t ht hW => ⟨⟨_, qe, rfl, rfl, by rw [ht]; exact hP, va_K.moved hW.alike hK, hAe ▸ hD⟩, hS.F ht⟩) hS.2.2 dX9_count_113
              · have hm := it_neg s_1_6 hm
                by_cases s_1_7 : a1 = 7
                · have hm := it_pos s_1_7 hm
                  refine lv_tableIn (tgt := 114) (off := 113) hx hb dX9_count_1 (by rw [s_1_7]; decide) (by rw [s_1_7]; decide) (by rw [s_1_7]; rfl) (by decide) ?_
                  refine lv_aload_n hx hb dX9_count_114 rfl (lv_at hl 0 rfl) ?_
                  have hPc := hP.sub (ws' := [oHC ad xHC_first xHC_second xHC_when xHC_ran, oRow ad xRow_depth xRow_length xRow_people xRow_scarves xRow_main xRow_faultPlace, ar (ad 3) cA 20 gRkinds, ar (ad 4) cA 20 gRlates, ar (ad 5) cA 20 gRhands, ar (ad 6) cA 20 gRslow, oST ad xST_sleeper xST_lastDue xST_unreached, ar (ad 10) cA 640 gSTdue, ar (ad 11) cA 20 gSTbusy, ar (ad 12) cA 20 gSTfelt, ar (ad 13) cA 20 gSTlost, ar (ad 14) cA 20 gSTfirst, oDia ad qe xDia_size, ar qe cA ne gDent]) [0, 1, 2, 3, 4, 5, 6, 7, 8, 9, 10, 11, 12, 13] rfl
                  have hDc := hD.sub (ws' := [oHC ad xHC_first xHC_second xHC_when xHC_ran, oRow ad xRow_depth xRow_length xRow_people xRow_scarves xRow_main xRow_faultPlace, ar (ad 3) cA 20 gRkinds, ar (ad 4) cA 20 gRlates, ar (ad 5) cA 20 gRhands, ar (ad 6) cA 20 gRslow, oST ad xST_sleeper xST_lastDue xST_unreached, ar (ad 10) cA 640 gSTdue, ar (ad 11) cA 20 gSTbusy, ar (ad 12) cA 20 gSTfelt, ar (ad 13) cA 20 gSTlost, ar (ad 14) cA 20 gSTfirst, oDia ad qe xDia_size, ar qe cA ne gDent]) [0, 1, 2, 3, 4, 5, 6, 7, 8, 9, 10, 11, 12, 13] (by decide) rfl
                  have hFc := va_free (wc := [oHC ad xHC_first xHC_second xHC_when xHC_ran, oRow ad xRow_depth xRow_length xRow_people xRow_scarves xRow_main xRow_faultPlace, ar (ad 3) cA 20 gRkinds, ar (ad 4) cA 20 gRlates, ar (ad 5) cA 20 gRhands, ar (ad 6) cA 20 gRslow, oST ad xST_sleeper xST_lastDue xST_unreached, ar (ad 10) cA 640 gSTdue, ar (ad 11) cA 20 gSTbusy, ar (ad 12) cA 20 gSTfelt, ar (ad 13) cA 20 gSTlost, ar (ad 14) cA 20 gSTfirst, oDia ad qe xDia_size, ar qe cA ne gDent]) hD hS hA [0, 1, 2, 3, 4, 5, 6, 7, 8, 9, 10, 11, 12, 13] rfl
                  obtain ⟨u_5, hc_5, hn1_5, hn2_5, hm⟩ := bm_ok hm
                  have hn1_5 : ne ≤ u_5.2.2.2.2.2.2.2.2.2.2.1 := hn1_5
                  have hn2_5 : u_5.2.2.2.2.2.2.2.2.2.2.1 ≤ u.2.2.2.2.2.2.2.2.2.2.2.1 := hn2_5
                  refine va_callr (va_runV (As := []) (rest := []) ⟨hx, hb, hml, hown, hts⟩ (kC_asTold l dC dI cA ad qe s.heap.size xHC_first xHC_second xHC_when xHC_ran xRow_depth xRow_length xRow_people xRow_scarves xRow_main xRow_faultPlace gRkinds gRlates gRhands gRslow xST_sleeper xST_lastDue xST_unreached gSTdue gSTbusy gSTfelt gSTlost gSTfirst xDia_size ne gDent u_5 hc_5) (cwV 0 hts gX9_count_X9_asTold rfl rfl rfl (by decide +kernel) ⟨Nat.le_of_ble_eq_true rfl, Nat.le_of_ble_eq_true rfl⟩) ⟨fun a U g mk q => by obtain ⟨q0, q1, qP, qK, qD⟩ := q; exact ⟨q0, q1, qP, va_K.moved (u := U) (U := U.calling g mk a) (Vm.Alike.refl U.vm) qK, qD⟩, va_recv hK hPc (ci := 9) (q0 := 0) rfl rfl, fun U hU hW => ⟨rfl, by rw [hU], by rw [hU]; exact hPc, va_K.moved hW.alike hK, hDc.weaken (fun _ _ _ _ => trivial)⟩⟩ rfl rfl hl.1 rfl (lv_room (Nat.le_of_ble_eq_true rfl)) dX9_count_115 ⟨by (show _ ≤ _ - _); omega, by (show _ ≤ 2 * (_ - _)); omega⟩) hS (fun q _ h => hFc q h) hFc (fun qe_1005 ra_5 t H1 locs ht hvm hw hB hz1 hk1 hS => ?_)
                  obtain ⟨hra_5, hP1, hK1, hD1⟩ := hB
                  subst hra_5
                  rw [ht] at hP1
                  obtain ⟨hP, hD⟩ := va_join (wr := [oHea ad xHea_size, oReg ad xReg_size, ar (ad 36) cA 100 gGborn, oShe ad xShe_latest]) (w1 := [oHC ad xHC_first xHC_second xHC_when u_5.1, oRow ad xRow_depth xRow_length xRow_people xRow_scarves xRow_main xRow_faultPlace, ar (ad 3) cA 20 gRkinds, ar (ad 4) cA 20 gRlates, ar (ad 5) cA 20 gRhands, ar (ad 6) cA 20 gRslow, oST ad u_5.2.1 u_5.2.2.1 u_5.2.2.2.1, ar (ad 10) cA 640 u_5.2.2.2.2.1, ar (ad 11) cA 20 u_5.2.2.2.2.2.1, ar (ad 12) cA 20 u_5.2.2.2.2.2.2.1, ar (ad 13) cA 20 u_5.2.2.2.2.2.2.2.1, ar (ad 14) cA 20 u_5.2.2.2.2.2.2.2.2.1, oDia ad qe_1005 u_5.2.2.2.2.2.2.2.2.2.1, ar qe_1005 cA u_5.2.2.2.2.2.2.2.2.2.2.1 u_5.2.2.2.2.2.2.2.2.2.2.2]) hP hD [0, 1, 2, 3, 4, 5, 6, 7, 8, 9, 10, 11, 12, 13] [14, 15, 16, 17] rfl rfl (by decide) (by decide) hk1 hFc hP1 hD1
                  clear hPc hDc hFc hP1 hK1 hD1 hk1 hz1 hvm ht
                  generalize H1 = H at hP hS ⊢
                  have hP : va_P (dC, dI) vwCl [oHC ad xHC_first xHC_second xHC_when u_5.1, oRow ad xRow_depth xRow_length xRow_people xRow_scarves xRow_main xRow_faultPlace, ar (ad 3) cA 20 gRkinds, ar (ad 4) cA 20 gRlates, ar (ad 5) cA 20 gRhands, ar (ad 6) cA 20 gRslow, oST ad u_5.2.1 u_5.2.2.1 u_5.2.2.2.1, ar (ad 10) cA 640 u_5.2.2.2.2.1, ar (ad 11) cA 20 u_5.2.2.2.2.2.1, ar (ad 12) cA 20 u_5.2.2.2.2.2.2.1, ar (ad 13) cA 20 u_5.2.2.2.2.2.2.2.1, ar (ad 14) cA 20 u_5.2.2.2.2.2.2.2.2.1, oDia ad qe_1005 u_5.2.2.2.2.2.2.2.2.2.1, ar qe_1005 cA u_5.2.2.2.2.2.2.2.2.2.2.1 u_5.2.2.2.2.2.2.2.2.2.2.2, oHea ad xHea_size, oReg ad xReg_size, ar (ad 36) cA 100 gGborn, oShe ad xShe_latest] H := hP.sub [4, 5, 6, 7, 8, 9, 10, 11, 12, 13, 14, 15, 16, 17, 0, 1, 2, 3] rfl
                  have hD : va_D A [oHC ad xHC_first xHC_second xHC_when u_5.1, oRow ad xRow_depth xRow_length xRow_people xRow_scarves xRow_main xRow_faultPlace, ar (ad 3) cA 20 gRkinds, ar (ad 4) cA 20 gRlates, ar (ad 5) cA 20 gRhands, ar (ad 6) cA 20 gRslow, oST ad u_5.2.1 u_5.2.2.1 u_5.2.2.2.1, ar (ad 10) cA 640 u_5.2.2.2.2.1, ar (ad 11) cA 20 u_5.2.2.2.2.2.1, ar (ad 12) cA 20 u_5.2.2.2.2.2.2.1, ar (ad 13) cA 20 u_5.2.2.2.2.2.2.2.1, ar (ad 14) cA 20 u_5.2.2.2.2.2.2.2.2.1, oDia ad qe_1005 u_5.2.2.2.2.2.2.2.2.2.1, ar qe_1005 cA u_5.2.2.2.2.2.2.2.2.2.2.1 u_5.2.2.2.2.2.2.2.2.2.2.2, oHea ad xHea_size, oReg ad xReg_size, ar (ad 36) cA 100 gGborn, oShe ad xShe_latest] := hD.sub [4, 5, 6, 7, 8, 9, 10, 11, 12, 13, 14, 15, 16, 17, 0, 1, 2, 3] (by decide) rfl
                  refine W.widen (k := u_5.2.2.2.2.2.2.2.2.2.2.1 - ne) (n := 2 * (u_5.2.2.2.2.2.2.2.2.2.2.1 - ne)) (by omega) (by omega) ?_
                  have hPc := hP.sub (ws' := [oRow ad xRow_depth xRow_length xRow_people xRow_scarves xRow_main xRow_faultPlace, oST ad u_5.2.1 u_5.2.2.1 u_5.2.2.2.1, ar (ad 13) cA 20 u_5.2.2.2.2.2.2.2.1]) [1, 6, 10] rfl
                  have hDc := hD.sub (ws' := [oRow ad xRow_depth xRow_length xRow_people xRow_scarves xRow_main xRow_faultPlace, oST ad u_5.2.1 u_5.2.2.1 u_5.2.2.2.1, ar (ad 13) cA 20 u_5.2.2.2.2.2.2.2.1]) [1, 6, 10] (by decide) rfl
                  have hFc := va_free (wc := [oRow ad xRow_depth xRow_length xRow_people xRow_scarves xRow_main xRow_faultPlace, oST ad u_5.2.1 u_5.2.2.1 u_5.2.2.2.1, ar (ad 13) cA 20 u_5.2.2.2.2.2.2.2.1]) hD hS hA [1, 6, 10] rfl
                  obtain ⟨u_6, hc_6, hm⟩ := bd_ok hm
                  refine va_calli (va_runV (As := []) (rest := []) ⟨hx, hb, hml, hown, hts⟩ (kS_allLost_T l dC dI cA ad H.size xRow_depth xRow_length xRow_people xRow_scarves xRow_main xRow_faultPlace u_5.2.1 u_5.2.2.1 u_5.2.2.2.1 u_5.2.2.2.2.2.2.2.1 u_6 hc_6) (cwV 0 hts gX9_count_X8_allLost rfl rfl rfl (by decide +kernel) ⟨Nat.le_of_ble_eq_true rfl, Nat.le_of_ble_eq_true rfl⟩) ⟨fun a U g mk q => by obtain ⟨q0, q1, qP, qK, qD⟩ := q; exact ⟨q0, q1, qP, va_K.moved (u := U) (U := U.calling g mk a) (Vm.Alike.refl U.vm) qK, qD⟩, va_recv hK hPc (ci := 8) (q0 := 1) rfl rfl, fun U hU hW => ⟨rfl, by rw [hU], by rw [hU]; exact hPc, va_K.moved hW.alike hK, hDc.weaken (fun _ _ _ _ => trivial)⟩⟩ rfl rfl hl.1 rfl (lv_room (Nat.le_of_ble_eq_true rfl)) dX9_count_118 ⟨by (show _ ≤ _ - _); omega, by (show _ ≤ 2 * (_ - _)); omega⟩) hS (fun q _ h => hFc q h) hFc (fun r_6 _ t H1 locs ht hvm hw hB hz1 hk1 hS => ?_)
                  obtain ⟨hP1, hK1, hD1⟩ := hB
                  rw [ht] at hP1
                  obtain ⟨hP, hD⟩ := va_join (wr := [oHC ad xHC_first xHC_second xHC_when u_5.1, ar (ad 3) cA 20 gRkinds, ar (ad 4) cA 20 gRlates, ar (ad 5) cA 20 gRhands, ar (ad 6) cA 20 gRslow, ar (ad 10) cA 640 u_5.2.2.2.2.1, ar (ad 11) cA 20 u_5.2.2.2.2.2.1, ar (ad 12) cA 20 u_5.2.2.2.2.2.2.1, ar (ad 14) cA 20 u_5.2.2.2.2.2.2.2.2.1, oDia ad qe_1005 u_5.2.2.2.2.2.2.2.2.2.1, ar qe_1005 cA u_5.2.2.2.2.2.2.2.2.2.2.1 u_5.2.2.2.2.2.2.2.2.2.2.2, oHea ad xHea_size, oReg ad xReg_size, ar (ad 36) cA 100 gGborn, oShe ad xShe_latest]) (w1 := [oRow ad xRow_depth xRow_length xRow_people xRow_scarves xRow_main xRow_faultPlace, oST ad u_5.2.1 u_5.2.2.1 u_5.2.2.2.1, ar (ad 13) cA 20 u_5.2.2.2.2.2.2.2.1]) hP hD [1, 6, 10] [0, 2, 3, 4, 5, 7, 8, 9, 11, 12, 13, 14, 15, 16, 17] rfl rfl (by decide) (by decide) hk1 hFc hP1 hD1
                  clear hPc hDc hFc hP1 hK1 hD1 hk1 hz1 hvm ht
                  generalize H1 = H at hP hS ⊢
                  have hP : va_P (dC, dI) vwCl [oHC ad xHC_first xHC_second xHC_when u_5.1, oRow ad xRow_depth xRow_length xRow_people xRow_scarves xRow_main xRow_faultPlace, ar (ad 3) cA 20 gRkinds, ar (ad 4) cA 20 gRlates, ar (ad 5) cA 20 gRhands, ar (ad 6) cA 20 gRslow, oST ad u_5.2.1 u_5.2.2.1 u_5.2.2.2.1, ar (ad 10) cA 640 u_5.2.2.2.2.1, ar (ad 11) cA 20 u_5.2.2.2.2.2.1, ar (ad 12) cA 20 u_5.2.2.2.2.2.2.1, ar (ad 13) cA 20 u_5.2.2.2.2.2.2.2.1, ar (ad 14) cA 20 u_5.2.2.2.2.2.2.2.2.1, oDia ad qe_1005 u_5.2.2.2.2.2.2.2.2.2.1, ar qe_1005 cA u_5.2.2.2.2.2.2.2.2.2.2.1 u_5.2.2.2.2.2.2.2.2.2.2.2, oHea ad xHea_size, oReg ad xReg_size, ar (ad 36) cA 100 gGborn, oShe ad xShe_latest] H := hP.sub [0, 15, 1, 2, 3, 4, 16, 5, 6, 7, 17, 8, 9, 10, 11, 12, 13, 14] rfl
                  have hD : va_D A [oHC ad xHC_first xHC_second xHC_when u_5.1, oRow ad xRow_depth xRow_length xRow_people xRow_scarves xRow_main xRow_faultPlace, ar (ad 3) cA 20 gRkinds, ar (ad 4) cA 20 gRlates, ar (ad 5) cA 20 gRhands, ar (ad 6) cA 20 gRslow, oST ad u_5.2.1 u_5.2.2.1 u_5.2.2.2.1, ar (ad 10) cA 640 u_5.2.2.2.2.1, ar (ad 11) cA 20 u_5.2.2.2.2.2.1, ar (ad 12) cA 20 u_5.2.2.2.2.2.2.1, ar (ad 13) cA 20 u_5.2.2.2.2.2.2.2.1, ar (ad 14) cA 20 u_5.2.2.2.2.2.2.2.2.1, oDia ad qe_1005 u_5.2.2.2.2.2.2.2.2.2.1, ar qe_1005 cA u_5.2.2.2.2.2.2.2.2.2.2.1 u_5.2.2.2.2.2.2.2.2.2.2.2, oHea ad xHea_size, oReg ad xReg_size, ar (ad 36) cA 100 gGborn, oShe ad xShe_latest] := hD.sub [0, 15, 1, 2, 3, 4, 16, 5, 6, 7, 17, 8, 9, 10, 11, 12, 13, 14] (by decide) rfl
                  have hw := hw.symm
                  subst hw
                  obtain rfl := Option.some.inj hm
                  subst hQ
                  refine W.widen (k := u_5.2.2.2.2.2.2.2.2.2.2.1 - ne) (n := 2 * (u_5.2.2.2.2.2.2.2.2.2.2.1 - ne)) (by first | exact Nat.le_refl _ | omega) (by first | exact Nat.le_refl _ | omega) ?_
                  exact W.iret (v := u_6) hx hb hr (fun t ht hW => ⟨⟨_, qe_1005, rfl, rfl, by rw [ht]; exact hP, va_K.moved hW.alike hK, hAe ▸ hD⟩, hS.F ht⟩) hS.2.2 dX9_count_121
                · have hm := it_neg s_1_7 hm
                  by_cases s_1_8 : a1 = 8
                  · have hm := it_pos s_1_8 hm
                    refine lv_tableIn (tgt := 122) (off := 121) hx hb dX9_count_1 (by rw [s_1_8]; decide) (by rw [s_1_8]; decide) (by rw [s_1_8]; rfl) (by decide) ?_
                    refine lv_aload_n hx hb dX9_count_122 rfl (lv_at hl 0 rfl) ?_
                    refine va_get (D := (dC, dI)) (ci := 9) (v := .ref (ad 38)) (C := RX9) (T := TX9) (N := 12) hx hb hts hinX9 hown hK hP 0 rfl rfl 7 (by decide) hl_68 (fun _ h9 => h9) rfl dX9_count_123 ?_
                    refine va_get (D := (dC, dI)) (ci := 6) (v := .int xShe_latest) (C := RX6) (T := TX6) (N := 4) hx hb hts hinX6 hown hK hP 17 rfl rfl 3 (by decide) hl_299 (fun _ h9 => h9) rfl dX9_count_126 ?_
                    obtain rfl := Option.some.inj hm
                    subst hQ
                    refine W.widen (k := ne - ne) (n := 2 * (ne - ne)) (by first | exact Nat.le_refl _ | omega) (by first | exact Nat.le_refl _ | omega) ?_
                    exact W.iret (v := xShe_latest) hx hb hr (fun t ht hW => ⟨⟨_, qe, rfl, rfl, by rw [ht]; exact hP, va_K.moved hW.alike hK, hAe ▸ hD⟩, hS.F ht⟩) hS.2.2 dX9_count_129
                  · have hm := it_neg s_1_8 hm
                    have sn_1_0 := lv_neT s_1_0 (a := 0) rfl
                    have sn_1_1 := lv_neT s_1_1 (a := 1) rfl
                    have sn_1_2 := lv_neT s_1_2 (a := 2) rfl
                    have sn_1_3 := lv_neT s_1_3 (a := 3) rfl
                    have sn_1_4 := lv_neT s_1_4 (a := 4) rfl
                    have sn_1_5 := lv_neT s_1_5 (a := 5) rfl
                    have sn_1_6 := lv_neT s_1_6 (a := 6) rfl
                    have sn_1_7 := lv_neT s_1_7 (a := 7) rfl
                    have sn_1_8 := lv_neT s_1_8 (a := 8) rfl
                    refine lv_tableOut (tgt := 130) hx hb dX9_count_1 (by omega) (by decide) ?_
                    refine lv_bipush (v := (-2)) hx hb dX9_count_130 (by decide) ?_
                    obtain rfl := Option.some.inj hm
                    subst hQ
                    refine W.widen (k := ne - ne) (n := 2 * (ne - ne)) (by first | exact Nat.le_refl _ | omega) (by first | exact Nat.le_refl _ | omega) ?_
                    exact W.iret (v := (-2)) hx hb hr (fun t ht hW => ⟨⟨_, qe, rfl, rfl, by rw [ht]; exact hP, va_K.moved hW.alike hK, hAe ▸ hD⟩, hS.F ht⟩) hS.2.2 dX9_count_132
