set_option maxHeartbeats 4000000 in
set_option maxRecDepth 100000 in
theorem kS_clear_T (l : Launch) (dC : Nat → ClassId) (dI : Nat → Nat → Nat) (cA : ClassId) (ad : Nat → Nat) (qe : Nat) (sz : Nat) (xRow_depth : Int32) (xRow_length : Int32) (xRow_people : Int32) (xRow_scarves : Int32) (xRow_main : Int32) (xRow_faultPlace : Int32) (xST_sleeper : Int32) (xST_lastDue : Int32) (xST_unreached : Int32) (gSTdue : Nat → Int32) (gSTbusy : Nat → Int32) (gSTfelt : Nat → Int32) (gSTlost : Nat → Int32) (gSTfirst : Nat → Int32) (xDia_size : Int32) (u : Int32 × Int32 × (Nat → Int32) × (Nat → Int32) × (Nat → Int32) × (Nat → Int32) × (Nat → Int32) × Int32) (hm : fS_clear_T xRow_people xST_lastDue xST_unreached gSTdue gSTbusy gSTfelt gSTlost gSTfirst xDia_size = some u) : Met l yX8_clear wsX8_clear ({ frames := 1, cells := 0, slots := 0, locals := 23 }) (va_Pc [.ref (ad 9)] (fun U => U.heap.size = sz ∧ va_P (dC, dI) vwCl [oRow ad xRow_depth xRow_length xRow_people xRow_scarves xRow_main xRow_faultPlace, oST ad xST_sleeper xST_lastDue xST_unreached, ar (ad 10) cA 640 gSTdue, ar (ad 11) cA 20 gSTbusy, ar (ad 12) cA 20 gSTfelt, ar (ad 13) cA 20 gSTlost, ar (ad 14) cA 20 gSTfirst, oDia ad qe xDia_size] U.heap ∧ va_K (dC, dI) vwCl [(cA, .int)] U ∧ va_D (fun _ => True) [oRow ad xRow_depth xRow_length xRow_people xRow_scarves xRow_main xRow_faultPlace, oST ad xST_sleeper xST_lastDue xST_unreached, ar (ad 10) cA 640 gSTdue, ar (ad 11) cA 20 gSTbusy, ar (ad 12) cA 20 gSTfelt, ar (ad 13) cA 20 gSTlost, ar (ad 14) cA 20 gSTfirst, oDia ad qe xDia_size])) (va_Qv (fun (_ : Unit) => True) (fun (_ : Unit) t => va_P (dC, dI) vwCl [oRow ad xRow_depth xRow_length xRow_people xRow_scarves xRow_main xRow_faultPlace, oST ad xST_sleeper u.1 u.2.1, ar (ad 10) cA 640 u.2.2.1, ar (ad 11) cA 20 u.2.2.2.1, ar (ad 12) cA 20 u.2.2.2.2.1, ar (ad 13) cA 20 u.2.2.2.2.2.1, ar (ad 14) cA 20 u.2.2.2.2.2.2.1, oDia ad qe u.2.2.2.2.2.2.2] t.heap ∧ va_K (dC, dI) vwCl [(cA, .int)] t ∧ va_D (va_A [oRow ad xRow_depth xRow_length xRow_people xRow_scarves xRow_main xRow_faultPlace, oST ad xST_sleeper xST_lastDue xST_unreached, ar (ad 10) cA 640 gSTdue, ar (ad 11) cA 20 gSTbusy, ar (ad 12) cA 20 gSTfelt, ar (ad 13) cA 20 gSTlost, ar (ad 14) cA 20 gSTfirst, oDia ad qe xDia_size] sz) [oRow ad xRow_depth xRow_length xRow_people xRow_scarves xRow_main xRow_faultPlace, oST ad xST_sleeper u.1 u.2.1, ar (ad 10) cA 640 u.2.2.1, ar (ad 11) cA 20 u.2.2.2.1, ar (ad 12) cA 20 u.2.2.2.2.1, ar (ad 13) cA 20 u.2.2.2.2.2.1, ar (ad 14) cA 20 u.2.2.2.2.2.2.1, oDia ad qe u.2.2.2.2.2.2.2]) (va_A [oRow ad xRow_depth xRow_length xRow_people xRow_scarves xRow_main xRow_faultPlace, oST ad xST_sleeper xST_lastDue xST_unreached, ar (ad 10) cA 640 gSTdue, ar (ad 11) cA 20 gSTbusy, ar (ad 12) cA 20 gSTfelt, ar (ad 13) cA 20 gSTlost, ar (ad 14) cA 20 gSTfirst, oDia ad qe xDia_size] sz)) 0 0 (va_A [oRow ad xRow_depth xRow_length xRow_people xRow_scarves xRow_main xRow_faultPlace, oST ad xST_sleeper xST_lastDue xST_unreached, ar (ad 10) cA 640 gSTdue, ar (ad 11) cA 20 gSTbusy, ar (ad 12) cA 20 gSTfelt, ar (ad 13) cA 20 gSTlost, ar (ad 14) cA 20 gSTfirst, oDia ad qe xDia_size] sz) := by
  refine Met.ofW (cc := cX8_clear) (maxL := 1) (ret := none) (by decide) rfl ?_
  intro p e s m args below meth c s₁ B hml hv
  obtain ⟨rfl, hsz, hP, hK, hD0⟩ := hv
  have hx := B.exec
  have hb := B.bytes
  have hr := B.returns
  have hts := atoms_spec (ws := wsX8_clear) B.pre
  have hown : s.vm.findClass RX8 = some m.cls := findClass_of_methodNamed B.named
  have hlocks := B.notSynchronized
  subst hsz
  have hD := hD0.self (sz := s.heap.size)
  generalize hAe : va_A [oRow ad xRow_depth xRow_length xRow_people xRow_scarves xRow_main xRow_faultPlace, oST ad xST_sleeper xST_lastDue xST_unreached, ar (ad 10) cA 640 gSTdue, ar (ad 11) cA 20 gSTbusy, ar (ad 12) cA 20 gSTfelt, ar (ad 13) cA 20 gSTlost, ar (ad 14) cA 20 gSTfirst, oDia ad qe xDia_size] s.heap.size = A at hD ⊢
  have hA : ∀ q : Nat, s.heap.size ≤ q → A q := fun q h => by rw [← hAe]; exact Or.inr h
  have hS : va_S A s.heap s.heap [] := va_S.rf
  have hl := lv_entry ([.ref (ad 9)]) (n := 1) (Nat.le_of_ble_eq_true rfl)
  rw [lg_entry_eq]
  generalize (lg_sl ([.ref (ad 9)]) ++ List.replicate (1 - (lg_sl ([.ref (ad 9)])).length) Slot.unset).toArray = ls at hl ⊢
  have hl : lv_has ls 1 [(0, .ref (ad 9))] := hl
  refine wk_Q (fun QQ hQ => ?_)
  have hinX8 : ∀ w ∈ wsX80, w ∈ wsX8_clear := fun w h => List.mem_cons_of_mem _ (inlX8 w h)
  have hl_19 := hts (.fieldLink RX8 19 "HandCensus$Squeeze" "due" "[I") (List.mem_cons_of_mem _ (in_r4 _ (List.mem_of_getElem? (i := 4) rfl)))
  have hl_23 := hts (.fieldLink RX8 23 "HandCensus$Squeeze" "busyUpTo" "[I") (List.mem_cons_of_mem _ (in_r4 _ (List.mem_of_getElem? (i := 5) rfl)))
  have hl_26 := hts (.fieldLink RX8 26 "HandCensus$Squeeze" "feltMany" "[I") (List.mem_cons_of_mem _ (in_r4 _ (List.mem_of_getElem? (i := 6) rfl)))
  have hl_29 := hts (.fieldLink RX8 29 "HandCensus$Squeeze" "lostMany" "[I") (List.mem_cons_of_mem _ (in_r4 _ (List.mem_of_getElem? (i := 7) rfl)))
  have hl_32 := hts (.fieldLink RX8 32 "HandCensus$Squeeze" "firstAt" "[I") (List.mem_cons_of_mem _ (in_r4 _ (List.mem_of_getElem? (i := 8) rfl)))
  have hl_47 := hts (.fieldLink RX8 47 "HandCensus$Squeeze" "lastDue" "I") (List.mem_cons_of_mem _ (in_r14 _ (List.mem_of_getElem? (i := 20) rfl)))
  have hl_9 := hts (.fieldLink RX8 9 "HandCensus$Squeeze" "row" "LHandCensus$Row;") (List.mem_cons_of_mem _ (in_r4 _ (List.mem_of_getElem? (i := 2) rfl)))
  have hinX5 : ∀ w ∈ wsX50, w ∈ wsX8_clear := fun w h => List.mem_cons_of_mem _ (inlX5 w h)
  have hl_42 := hts (.fieldLink RX8 42 "HandCensus$Row" "people" "I") (List.mem_cons_of_mem _ (in_r14 _ (List.mem_of_getElem? (i := 19) rfl)))
  have hl_50 := hts (.fieldLink RX8 50 "HandCensus$Squeeze" "unreached" "I") (List.mem_cons_of_mem _ (in_r14 _ (List.mem_of_getElem? (i := 21) rfl)))
  have hl_15 := hts (.fieldLink RX8 15 "HandCensus$Squeeze" "diary" "LHandCensus$Diary;") (List.mem_cons_of_mem _ (in_r4 _ (List.mem_of_getElem? (i := 3) rfl)))
  have hinX1 : ∀ w ∈ wsX10, w ∈ wsX8_clear := fun w h => List.mem_cons_of_mem _ (inlX1 w h)
  have hl_69 := hts (.fieldLink RX8 69 "HandCensus$Diary" "size" "I") (List.mem_cons_of_mem _ (in_r15 _ (List.mem_of_getElem? (i := 2) rfl)))
  unfold fS_clear_T at hm
  refine lv_aload_n hx hb dX8_clear_0 rfl (lv_at hl 0 rfl) ?_
  refine va_get (D := (dC, dI)) (ci := 8) (v := .ref (ad 10)) (C := RX8) (T := TX8) (N := 10) hx hb hts hinX8 hown hK hP 1 rfl rfl 2 (by decide) hl_19 (fun _ h9 => h9) rfl dX8_clear_1 ?_
  refine lv_iconst (v := 0) hx hb dX8_clear_4 (by decide) ?_
  have hPc := hP.sub (ws' := [ar (ad 10) cA 640 gSTdue]) [2] rfl
  have hDc := hD.sub (ws' := [ar (ad 10) cA 640 gSTdue]) [2] (by decide) rfl
  have hFc := va_free (wc := [ar (ad 10) cA 640 gSTdue]) hD hS hA [2] rfl
  obtain ⟨u_1, hc_1, hm⟩ := bd_ok hm
  refine va_callv (va_runS (As := [.ref (ad 10), .int 0]) (rest := []) ⟨hx, hb, hml, hown, hts⟩ (kJ_fill l dC dI cA (ad 10) s.heap.size 0 640 gSTdue u_1 hc_1) (va_cwS 2 hts gX8_clear_J7_fill_53178 rfl rfl rfl (by decide +kernel) ⟨Nat.le_of_ble_eq_true rfl, Nat.le_of_ble_eq_true rfl⟩) ⟨fun a U g mk q => by obtain ⟨q0, q1, qP, qK, qD⟩ := q; exact ⟨q0, q1, qP, va_K.moved (u := U) (U := U.calling g mk a) (Vm.Alike.refl U.vm) qK, qD⟩, fun U hU hW => ⟨rfl, by rw [hU], by rw [hU]; exact hPc, va_K.moved hW.alike hK, hDc.weaken (fun _ _ _ _ => trivial)⟩⟩ rfl rfl hl.1 rfl (lv_room (Nat.le_of_ble_eq_true rfl)) dX8_clear_5 ⟨Nat.le_of_ble_eq_true rfl, Nat.le_of_ble_eq_true rfl⟩) hS (fun q _ h => hFc q h) hFc (fun _ t H1 locs ht hvm hw hB hz1 hk1 hS => ?_)
  obtain ⟨hP1, hK1, hD1⟩ := hB
  rw [ht] at hP1
  obtain ⟨hP, hD⟩ := va_join (wr := [oRow ad xRow_depth xRow_length xRow_people xRow_scarves xRow_main xRow_faultPlace, oST ad xST_sleeper xST_lastDue xST_unreached, ar (ad 11) cA 20 gSTbusy, ar (ad 12) cA 20 gSTfelt, ar (ad 13) cA 20 gSTlost, ar (ad 14) cA 20 gSTfirst, oDia ad qe xDia_size]) (w1 := [ar (ad 10) cA 640 u_1]) hP hD [2] [0, 1, 3, 4, 5, 6, 7] rfl rfl (by decide) (by decide) hk1 hFc hP1 hD1
  clear hPc hDc hFc hP1 hK1 hD1 hk1 hz1 hvm ht
  generalize H1 = H at hP hS ⊢
  have hP : va_P (dC, dI) vwCl [oRow ad xRow_depth xRow_length xRow_people xRow_scarves xRow_main xRow_faultPlace, oST ad xST_sleeper xST_lastDue xST_unreached, ar (ad 10) cA 640 u_1, ar (ad 11) cA 20 gSTbusy, ar (ad 12) cA 20 gSTfelt, ar (ad 13) cA 20 gSTlost, ar (ad 14) cA 20 gSTfirst, oDia ad qe xDia_size] H := hP.sub [0, 1, 7, 2, 3, 4, 5, 6] rfl
  have hD : va_D A [oRow ad xRow_depth xRow_length xRow_people xRow_scarves xRow_main xRow_faultPlace, oST ad xST_sleeper xST_lastDue xST_unreached, ar (ad 10) cA 640 u_1, ar (ad 11) cA 20 gSTbusy, ar (ad 12) cA 20 gSTfelt, ar (ad 13) cA 20 gSTlost, ar (ad 14) cA 20 gSTfirst, oDia ad qe xDia_size] := hD.sub [0, 1, 7, 2, 3, 4, 5, 6] (by decide) rfl
  refine lv_aload_n hx hb dX8_clear_8 rfl (lv_at hl 0 rfl) ?_
  refine va_get (D := (dC, dI)) (ci := 8) (v := .ref (ad 11)) (C := RX8) (T := TX8) (N := 10) hx hb hts hinX8 hown hK hP 1 rfl rfl 3 (by decide) hl_23 (fun _ h9 => h9) rfl dX8_clear_9 ?_
  refine lv_iconst (v := 0) hx hb dX8_clear_12 (by decide) ?_
  have hPc := hP.sub (ws' := [ar (ad 11) cA 20 gSTbusy]) [3] rfl
  have hDc := hD.sub (ws' := [ar (ad 11) cA 20 gSTbusy]) [3] (by decide) rfl
  have hFc := va_free (wc := [ar (ad 11) cA 20 gSTbusy]) hD hS hA [3] rfl
  obtain ⟨u_2, hc_2, hm⟩ := bd_ok hm
  refine va_callv (va_runS (As := [.ref (ad 11), .int 0]) (rest := []) ⟨hx, hb, hml, hown, hts⟩ (kJ_fill l dC dI cA (ad 11) H.size 0 20 gSTbusy u_2 hc_2) (va_cwS 2 hts gX8_clear_J7_fill_53178 rfl rfl rfl (by decide +kernel) ⟨Nat.le_of_ble_eq_true rfl, Nat.le_of_ble_eq_true rfl⟩) ⟨fun a U g mk q => by obtain ⟨q0, q1, qP, qK, qD⟩ := q; exact ⟨q0, q1, qP, va_K.moved (u := U) (U := U.calling g mk a) (Vm.Alike.refl U.vm) qK, qD⟩, fun U hU hW => ⟨rfl, by rw [hU], by rw [hU]; exact hPc, va_K.moved hW.alike hK, hDc.weaken (fun _ _ _ _ => trivial)⟩⟩ rfl rfl hl.1 rfl (lv_room (Nat.le_of_ble_eq_true rfl)) dX8_clear_13 ⟨Nat.le_of_ble_eq_true rfl, Nat.le_of_ble_eq_true rfl⟩) hS (fun q _ h => hFc q h) hFc (fun _ t H1 locs ht hvm hw hB hz1 hk1 hS => ?_)
  obtain ⟨hP1, hK1, hD1⟩ := hB
  rw [ht] at hP1
  obtain ⟨hP, hD⟩ := va_join (wr := [oRow ad xRow_depth xRow_length xRow_people xRow_scarves xRow_main xRow_faultPlace, oST ad xST_sleeper xST_lastDue xST_unreached, ar (ad 10) cA 640 u_1, ar (ad 12) cA 20 gSTfelt, ar (ad 13) cA 20 gSTlost, ar (ad 14) cA 20 gSTfirst, oDia ad qe xDia_size]) (w1 := [ar (ad 11) cA 20 u_2]) hP hD [3] [0, 1, 2, 4, 5, 6, 7] rfl rfl (by decide) (by decide) hk1 hFc hP1 hD1
  clear hPc hDc hFc hP1 hK1 hD1 hk1 hz1 hvm ht
  generalize H1 = H at hP hS ⊢
  have hP : va_P (dC, dI) vwCl [oRow ad xRow_depth xRow_length xRow_people xRow_scarves xRow_main xRow_faultPlace, oST ad xST_sleeper xST_lastDue xST_unreached, ar (ad 10) cA 640 u_1, ar (ad 11) cA 20 u_2, ar (ad 12) cA 20 gSTfelt, ar (ad 13) cA 20 gSTlost, ar (ad 14) cA 20 gSTfirst, oDia ad qe xDia_size] H := hP.sub [0, 1, 2, 7, 3, 4, 5, 6] rfl
  have hD : va_D A [oRow ad xRow_depth xRow_length xRow_people xRow_scarves xRow_main xRow_faultPlace, oST ad xST_sleeper xST_lastDue xST_unreached, ar (ad 10) cA 640 u_1, ar (ad 11) cA 20 u_2, ar (ad 12) cA 20 gSTfelt, ar (ad 13) cA 20 gSTlost, ar (ad 14) cA 20 gSTfirst, oDia ad qe xDia_size] := hD.sub [0, 1, 2, 7, 3, 4, 5, 6] (by decide) rfl
  refine lv_aload_n hx hb dX8_clear_16 rfl (lv_at hl 0 rfl) ?_
  refine va_get (D := (dC, dI)) (ci := 8) (v := .ref (ad 12)) (C := RX8) (T := TX8) (N := 10) hx hb hts hinX8 hown hK hP 1 rfl rfl 4 (by decide) hl_26 (fun _ h9 => h9) rfl dX8_clear_17 ?_
  refine lv_iconst (v := 0) hx hb dX8_clear_20 (by decide) ?_
  have hPc := hP.sub (ws' := [ar (ad 12) cA 20 gSTfelt]) [4] rfl
  have hDc := hD.sub (ws' := [ar (ad 12) cA 20 gSTfelt]) [4] (by decide) rfl
  have hFc := va_free (wc := [ar (ad 12) cA 20 gSTfelt]) hD hS hA [4] rfl
  obtain ⟨u_3, hc_3, hm⟩ := bd_ok hm
  refine va_callv (va_runS (As := [.ref (ad 12), .int 0]) (rest := []) ⟨hx, hb, hml, hown, hts⟩ (kJ_fill l dC dI cA (ad 12) H.size 0 20 gSTfelt u_3 hc_3) (va_cwS 2 hts gX8_clear_J7_fill_53178 rfl rfl rfl (by decide +kernel) ⟨Nat.le_of_ble_eq_true rfl, Nat.le_of_ble_eq_true rfl⟩) ⟨fun a U g mk q => by obtain ⟨q0, q1, qP, qK, qD⟩ := q; exact ⟨q0, q1, qP, va_K.moved (u := U) (U := U.calling g mk a) (Vm.Alike.refl U.vm) qK, qD⟩, fun U hU hW => ⟨rfl, by rw [hU], by rw [hU]; exact hPc, va_K.moved hW.alike hK, hDc.weaken (fun _ _ _ _ => trivial)⟩⟩ rfl rfl hl.1 rfl (lv_room (Nat.le_of_ble_eq_true rfl)) dX8_clear_21 ⟨Nat.le_of_ble_eq_true rfl, Nat.le_of_ble_eq_true rfl⟩) hS (fun q _ h => hFc q h) hFc (fun _ t H1 locs ht hvm hw hB hz1 hk1 hS => ?_)
  obtain ⟨hP1, hK1, hD1⟩ := hB
  rw [ht] at hP1
  obtain ⟨hP, hD⟩ := va_join (wr := [oRow ad xRow_depth xRow_length xRow_people xRow_scarves xRow_main xRow_faultPlace, oST ad xST_sleeper xST_lastDue xST_unreached, ar (ad 10) cA 640 u_1, ar (ad 11) cA 20 u_2, ar (ad 13) cA 20 gSTlost, ar (ad 14) cA 20 gSTfirst, oDia ad qe xDia_size]) (w1 := [ar (ad 12) cA 20 u_3]) hP hD [4] [0, 1, 2, 3, 5, 6, 7] rfl rfl (by decide) (by decide) hk1 hFc hP1 hD1
  clear hPc hDc hFc hP1 hK1 hD1 hk1 hz1 hvm ht
  generalize H1 = H at hP hS ⊢
  have hP : va_P (dC, dI) vwCl [oRow ad xRow_depth xRow_length xRow_people xRow_scarves xRow_main xRow_faultPlace, oST ad xST_sleeper xST_lastDue xST_unreached, ar (ad 10) cA 640 u_1, ar (ad 11) cA 20 u_2, ar (ad 12) cA 20 u_3, ar (ad 13) cA 20 gSTlost, ar (ad 14) cA 20 gSTfirst, oDia ad qe xDia_size] H := hP.sub [0, 1, 2, 3, 7, 4, 5, 6] rfl
  have hD : va_D A [oRow ad xRow_depth xRow_length xRow_people xRow_scarves xRow_main xRow_faultPlace, oST ad xST_sleeper xST_lastDue xST_unreached, ar (ad 10) cA 640 u_1, ar (ad 11) cA 20 u_2, ar (ad 12) cA 20 u_3, ar (ad 13) cA 20 gSTlost, ar (ad 14) cA 20 gSTfirst, oDia ad qe xDia_size] := hD.sub [0, 1, 2, 3, 7, 4, 5, 6] (by decide) rfl
  refine lv_aload_n hx hb dX8_clear_24 rfl (lv_at hl 0 rfl) ?_
  refine va_get (D := (dC, dI)) (ci := 8) (v := .ref (ad 13)) (C := RX8) (T := TX8) (N := 10) hx hb hts hinX8 hown hK hP 1 rfl rfl 5 (by decide) hl_29 (fun _ h9 => h9) rfl dX8_clear_25 ?_
  refine lv_iconst (v := 0) hx hb dX8_clear_28 (by decide) ?_
  have hPc := hP.sub (ws' := [ar (ad 13) cA 20 gSTlost]) [5] rfl
  have hDc := hD.sub (ws' := [ar (ad 13) cA 20 gSTlost]) [5] (by decide) rfl
  have hFc := va_free (wc := [ar (ad 13) cA 20 gSTlost]) hD hS hA [5] rfl
  obtain ⟨u_4, hc_4, hm⟩ := bd_ok hm
  refine va_callv (va_runS (As := [.ref (ad 13), .int 0]) (rest := []) ⟨hx, hb, hml, hown, hts⟩ (kJ_fill l dC dI cA (ad 13) H.size 0 20 gSTlost u_4 hc_4) (va_cwS 2 hts gX8_clear_J7_fill_53178 rfl rfl rfl (by decide +kernel) ⟨Nat.le_of_ble_eq_true rfl, Nat.le_of_ble_eq_true rfl⟩) ⟨fun a U g mk q => by obtain ⟨q0, q1, qP, qK, qD⟩ := q; exact ⟨q0, q1, qP, va_K.moved (u := U) (U := U.calling g mk a) (Vm.Alike.refl U.vm) qK, qD⟩, fun U hU hW => ⟨rfl, by rw [hU], by rw [hU]; exact hPc, va_K.moved hW.alike hK, hDc.weaken (fun _ _ _ _ => trivial)⟩⟩ rfl rfl hl.1 rfl (lv_room (Nat.le_of_ble_eq_true rfl)) dX8_clear_29 ⟨Nat.le_of_ble_eq_true rfl, Nat.le_of_ble_eq_true rfl⟩) hS (fun q _ h => hFc q h) hFc (fun _ t H1 locs ht hvm hw hB hz1 hk1 hS => ?_)
  obtain ⟨hP1, hK1, hD1⟩ := hB
  rw [ht] at hP1
  obtain ⟨hP, hD⟩ := va_join (wr := [oRow ad xRow_depth xRow_length xRow_people xRow_scarves xRow_main xRow_faultPlace, oST ad xST_sleeper xST_lastDue xST_unreached, ar (ad 10) cA 640 u_1, ar (ad 11) cA 20 u_2, ar (ad 12) cA 20 u_3, ar (ad 14) cA 20 gSTfirst, oDia ad qe xDia_size]) (w1 := [ar (ad 13) cA 20 u_4]) hP hD [5] [0, 1, 2, 3, 4, 6, 7] rfl rfl (by decide) (by decide) hk1 hFc hP1 hD1
  clear hPc hDc hFc hP1 hK1 hD1 hk1 hz1 hvm ht
  generalize H1 = H at hP hS ⊢
  have hP : va_P (dC, dI) vwCl [oRow ad xRow_depth xRow_length xRow_people xRow_scarves xRow_main xRow_faultPlace, oST ad xST_sleeper xST_lastDue xST_unreached, ar (ad 10) cA 640 u_1, ar (ad 11) cA 20 u_2, ar (ad 12) cA 20 u_3, ar (ad 13) cA 20 u_4, ar (ad 14) cA 20 gSTfirst, oDia ad qe xDia_size] H := hP.sub [0, 1, 2, 3, 4, 7, 5, 6] rfl
  have hD : va_D A [oRow ad xRow_depth xRow_length xRow_people xRow_scarves xRow_main xRow_faultPlace, oST ad xST_sleeper xST_lastDue xST_unreached, ar (ad 10) cA 640 u_1, ar (ad 11) cA 20 u_2, ar (ad 12) cA 20 u_3, ar (ad 13) cA 20 u_4, ar (ad 14) cA 20 gSTfirst, oDia ad qe xDia_size] := hD.sub [0, 1, 2, 3, 4, 7, 5, 6] (by decide) rfl
  refine lv_aload_n hx hb dX8_clear_32 rfl (lv_at hl 0 rfl) ?_
  refine va_get (D := (dC, dI)) (ci := 8) (v := .ref (ad 14)) (C := RX8) (T := TX8) (N := 10) hx hb hts hinX8 hown hK hP 1 rfl rfl 6 (by decide) hl_32 (fun _ h9 => h9) rfl dX8_clear_33 ?_
  refine lv_iconst (v := (-1)) hx hb dX8_clear_36 (by decide) ?_
  have hPc := hP.sub (ws' := [ar (ad 14) cA 20 gSTfirst]) [6] rfl
  have hDc := hD.sub (ws' := [ar (ad 14) cA 20 gSTfirst]) [6] (by decide) rfl
  have hFc := va_free (wc := [ar (ad 14) cA 20 gSTfirst]) hD hS hA [6] rfl
  obtain ⟨u_5, hc_5, hm⟩ := bd_ok hm
  refine va_callv (va_runS (As := [.ref (ad 14), .int (-1)]) (rest := []) ⟨hx, hb, hml, hown, hts⟩ (kJ_fill l dC dI cA (ad 14) H.size (-1) 20 gSTfirst u_5 hc_5) (va_cwS 2 hts gX8_clear_J7_fill_53178 rfl rfl rfl (by decide +kernel) ⟨Nat.le_of_ble_eq_true rfl, Nat.le_of_ble_eq_true rfl⟩) ⟨fun a U g mk q => by obtain ⟨q0, q1, qP, qK, qD⟩ := q; exact ⟨q0, q1, qP, va_K.moved (u := U) (U := U.calling g mk a) (Vm.Alike.refl U.vm) qK, qD⟩, fun U hU hW => ⟨rfl, by rw [hU], by rw [hU]; exact hPc, va_K.moved hW.alike hK, hDc.weaken (fun _ _ _ _ => trivial)⟩⟩ rfl rfl hl.1 rfl (lv_room (Nat.le_of_ble_eq_true rfl)) dX8_clear_37 ⟨Nat.le_of_ble_eq_true rfl, Nat.le_of_ble_eq_true rfl⟩) hS (fun q _ h => hFc q h) hFc (fun _ t H1 locs ht hvm hw hB hz1 hk1 hS => ?_)
  obtain ⟨hP1, hK1, hD1⟩ := hB
  rw [ht] at hP1
  obtain ⟨hP, hD⟩ := va_join (wr := [oRow ad xRow_depth xRow_length xRow_people xRow_scarves xRow_main xRow_faultPlace, oST ad xST_sleeper xST_lastDue xST_unreached, ar (ad 10) cA 640 u_1, ar (ad 11) cA 20 u_2, ar (ad 12) cA 20 u_3, ar (ad 13) cA 20 u_4, oDia ad qe xDia_size]) (w1 := [ar (ad 14) cA 20 u_5]) hP hD [6] [0, 1, 2, 3, 4, 5, 7] rfl rfl (by decide) (by decide) hk1 hFc hP1 hD1
  clear hPc hDc hFc hP1 hK1 hD1 hk1 hz1 hvm ht
  generalize H1 = H at hP hS ⊢
  have hP : va_P (dC, dI) vwCl [oRow ad xRow_depth xRow_length xRow_people xRow_scarves xRow_main xRow_faultPlace, oST ad xST_sleeper xST_lastDue xST_unreached, ar (ad 10) cA 640 u_1, ar (ad 11) cA 20 u_2, ar (ad 12) cA 20 u_3, ar (ad 13) cA 20 u_4, ar (ad 14) cA 20 u_5, oDia ad qe xDia_size] H := hP.sub [0, 1, 2, 3, 4, 5, 7, 6] rfl
  have hD : va_D A [oRow ad xRow_depth xRow_length xRow_people xRow_scarves xRow_main xRow_faultPlace, oST ad xST_sleeper xST_lastDue xST_unreached, ar (ad 10) cA 640 u_1, ar (ad 11) cA 20 u_2, ar (ad 12) cA 20 u_3, ar (ad 13) cA 20 u_4, ar (ad 14) cA 20 u_5, oDia ad qe xDia_size] := hD.sub [0, 1, 2, 3, 4, 5, 7, 6] (by decide) rfl
  refine lv_aload_n hx hb dX8_clear_40 rfl (lv_at hl 0 rfl) ?_
  refine lv_iconst (v := (-1)) hx hb dX8_clear_41 (by decide) ?_
  refine va_put (D := (dC, dI)) (ci := 8) (v := .int (-1)) (ty := .int) (C := RX8) (T := TX8) (N := 10) hx hb hts hinX8 tyX8 tyX8_ok nmX8 hown hK hP hD hS 1 rfl rfl 8 (by decide) hl_47 (fun _ h9 => h9) rfl (by decide +kernel) rfl rfl (Nat.le_of_ble_eq_true rfl) dX8_clear_42 (fun H locs hP hD hS => ?_)
  have hP : va_P (dC, dI) vwCl [oRow ad xRow_depth xRow_length xRow_people xRow_scarves xRow_main xRow_faultPlace, oST ad xST_sleeper (-1) xST_unreached, ar (ad 10) cA 640 u_1, ar (ad 11) cA 20 u_2, ar (ad 12) cA 20 u_3, ar (ad 13) cA 20 u_4, ar (ad 14) cA 20 u_5, oDia ad qe xDia_size] H := hP
  have hD : va_D A [oRow ad xRow_depth xRow_length xRow_people xRow_scarves xRow_main xRow_faultPlace, oST ad xST_sleeper (-1) xST_unreached, ar (ad 10) cA 640 u_1, ar (ad 11) cA 20 u_2, ar (ad 12) cA 20 u_3, ar (ad 13) cA 20 u_4, ar (ad 14) cA 20 u_5, oDia ad qe xDia_size] := hD
  refine lv_aload_n hx hb dX8_clear_45 rfl (lv_at hl 0 rfl) ?_
  refine lv_aload_n hx hb dX8_clear_46 rfl (lv_at hl 0 rfl) ?_
  refine va_get (D := (dC, dI)) (ci := 8) (v := .ref (ad 1)) (C := RX8) (T := TX8) (N := 10) hx hb hts hinX8 hown hK hP 1 rfl rfl 0 (by decide) hl_9 (fun _ h9 => h9) rfl dX8_clear_47 ?_
  refine va_get (D := (dC, dI)) (ci := 5) (v := .int xRow_people) (C := RX5) (T := TX5) (N := 13) hx hb hts hinX5 hown hK hP 0 rfl rfl 9 (by decide) hl_42 (fun _ h9 => h9) rfl dX8_clear_50 ?_
  refine va_put (D := (dC, dI)) (ci := 8) (v := .int xRow_people) (ty := .int) (C := RX8) (T := TX8) (N := 10) hx hb hts hinX8 tyX8 tyX8_ok nmX8 hown hK hP hD hS 1 rfl rfl 9 (by decide) hl_50 (fun _ h9 => h9) rfl (by decide +kernel) rfl rfl (Nat.le_of_ble_eq_true rfl) dX8_clear_53 (fun H locs hP hD hS => ?_)
  have hP : va_P (dC, dI) vwCl [oRow ad xRow_depth xRow_length xRow_people xRow_scarves xRow_main xRow_faultPlace, oST ad xST_sleeper (-1) xRow_people, ar (ad 10) cA 640 u_1, ar (ad 11) cA 20 u_2, ar (ad 12) cA 20 u_3, ar (ad 13) cA 20 u_4, ar (ad 14) cA 20 u_5, oDia ad qe xDia_size] H := hP
  have hD : va_D A [oRow ad xRow_depth xRow_length xRow_people xRow_scarves xRow_main xRow_faultPlace, oST ad xST_sleeper (-1) xRow_people, ar (ad 10) cA 640 u_1, ar (ad 11) cA 20 u_2, ar (ad 12) cA 20 u_3, ar (ad 13) cA 20 u_4, ar (ad 14) cA 20 u_5, oDia ad qe xDia_size] := hD
  refine lv_aload_n hx hb dX8_clear_56 rfl (lv_at hl 0 rfl) ?_
  refine va_get (D := (dC, dI)) (ci := 8) (v := .ref (ad 15)) (C := RX8) (T := TX8) (N := 10) hx hb hts hinX8 hown hK hP 1 rfl rfl 1 (by decide) hl_15 (fun _ h9 => h9) rfl dX8_clear_57 ?_
  refine lv_ifnull hx hb dX8_clear_60 ?_
  refine lv_aload_n hx hb dX8_clear_63 rfl (lv_at hl 0 rfl) ?_
  refine va_get (D := (dC, dI)) (ci := 8) (v := .ref (ad 15)) (C := RX8) (T := TX8) (N := 10) hx hb hts hinX8 hown hK hP 1 rfl rfl 1 (by decide) hl_15 (fun _ h9 => h9) rfl dX8_clear_64 ?_
  refine lv_iconst (v := 0) hx hb dX8_clear_67 (by decide) ?_
  refine va_put (D := (dC, dI)) (ci := 1) (v := .int 0) (ty := .int) (C := RX1) (T := TX1) (N := 2) hx hb hts hinX1 tyX1 tyX1_ok nmX1 hown hK hP hD hS 7 rfl rfl 1 (by decide) hl_69 (fun _ h9 => h9) rfl (by decide +kernel) rfl rfl (Nat.le_of_ble_eq_true rfl) dX8_clear_68 (fun H locs hP hD hS => ?_)
  have hP : va_P (dC, dI) vwCl [oRow ad xRow_depth xRow_length xRow_people xRow_scarves xRow_main xRow_faultPlace, oST ad xST_sleeper (-1) xRow_people, ar (ad 10) cA 640 u_1, ar (ad 11) cA 20 u_2, ar (ad 12) cA 20 u_3, ar (ad 13) cA 20 u_4, ar (ad 14) cA 20 u_5, oDia ad qe 0] H := hP
  have hD : va_D A [oRow ad xRow_depth xRow_length xRow_people xRow_scarves xRow_main xRow_faultPlace, oST ad xST_sleeper (-1) xRow_people, ar (ad 10) cA 640 u_1, ar (ad 11) cA 20 u_2, ar (ad 12) cA 20 u_3, ar (ad 13) cA 20 u_4, ar (ad 14) cA 20 u_5, oDia ad qe 0] := hD
  obtain rfl := Option.some.inj hm
  subst hQ
  exact W.vret hx hb hr (fun t ht hW => ⟨⟨(), rfl, trivial, by rw [ht]; exact hP, va_K.moved hW.alike hK, hAe ▸ hD⟩, hS.F ht⟩) hS.2.2 dX8_clear_71

set_option maxHeartbeats 4000000 in
set_option maxRecDepth 100000 in
theorem kJ_copyOf (l : Launch) (dC : Nat → ClassId) (dI : Nat → Nat → Nat) (cA : ClassId) (qa : Nat) (sz : Nat) (a1 : Int32) (na : Nat) (gA0 : Nat → Int32) (h0 : ¬ a1 < 0) (h1 : na < a1.toNatClampNeg) (h2 : a1.toNatClampNeg ≤ 100000) : Met l yJ7_copyOf_59c91 wsJ7_copyOf_59c91 ({ frames := 1, cells := 1, slots := a1.toNatClampNeg, locals := 26 }) (va_Pc [.ref qa, .int a1] (fun U => U.heap.size = sz ∧ va_P (dC, dI) vwCl [ar qa cA na gA0] U.heap ∧ va_K (dC, dI) vwCl [(cA, .int)] U ∧ va_D (fun _ => True) [ar qa cA na gA0])) (va_Qr (fun (_ : Unit) => True) (fun (_ : Unit) (a : Nat) t => va_P (dC, dI) vwCl [ar qa cA na gA0, ar a cA a1.toNatClampNeg (va_cpy gA0 (fun _ => 0) 0 0 na)] t.heap ∧ va_K (dC, dI) vwCl [(cA, .int)] t ∧ va_D (va_A [ar qa cA na gA0] sz) [ar qa cA na gA0, ar a cA a1.toNatClampNeg (va_cpy gA0 (fun _ => 0) 0 0 na)]) (va_A [ar qa cA na gA0] sz)) 1 a1.toNatClampNeg (va_A [ar qa cA na gA0] sz) := by
  refine Met.ofW (cc := cJ7_copyOf_59c91) (maxL := 3) (ret := (some (.array .int))) (by decide) rfl ?_
  intro p e s m args below meth c s₁ B hml hv
  obtain ⟨rfl, hsz, hP, hK, hD0⟩ := hv
  have hx := B.exec
  have hb := B.bytes
  have hr := B.returns
  have hts := atoms_spec (ws := wsJ7_copyOf_59c91) B.pre
  have hown : s.vm.findClass RJ7 = some m.cls := findClass_of_methodNamed B.named
  subst hsz
  have hD := hD0.self (sz := s.heap.size)
  generalize hAe : va_A [ar qa cA na gA0] s.heap.size = A at hD ⊢
  have hA : ∀ q : Nat, s.heap.size ≤ q → A q := fun q h => by rw [← hAe]; exact Or.inr h
  have hS : va_S A s.heap s.heap [] := va_S.rf
  have hl := lv_entry ([.ref qa, .int a1]) (n := 3) (Nat.le_of_ble_eq_true rfl)
  rw [lg_entry_eq]
  generalize (lg_sl ([.ref qa, .int a1]) ++ List.replicate (3 - (lg_sl ([.ref qa, .int a1])).length) Slot.unset).toArray = ls at hl ⊢
  have hl : lv_has ls 3 [(0, .ref qa), (1, .int a1)] := hl
  refine wk_Q (fun QQ hQ => ?_)
  have hw_0 := hts (.arrayClass .int) (List.mem_cons_of_mem _ (in_r3 _ (List.mem_of_getElem? (i := 7) rfl)))
  have hw_1 := hts (.methodLink RJ7 304 Lib.Math.min.name) (List.mem_cons_of_mem _ (in_r16 _ (List.mem_of_getElem? (i := 1) rfl)))
  have hw_2 := hts (.static Lib.Math.min.name) (List.mem_cons_of_mem _ (in_r15 _ (List.mem_of_getElem? (i := 10) rfl)))
  have hw_3 := hts (.initialized "java/lang/Math") (List.mem_cons_of_mem _ (in_r15 _ (List.mem_of_getElem? (i := 11) rfl)))
  have hw_4 := hts (.code Lib.Math.min.name Lib.Math.min.code 2 (some .int)) (List.mem_cons_of_mem _ (in_r15 _ (List.mem_of_getElem? (i := 12) rfl)))
  have hw_5 := hts (.methodLink RJ7 150 arraycopyName) (List.mem_cons_of_mem _ (in_r16 _ (List.mem_of_getElem? (i := 2) rfl)))
  have hw_6 := hts (.native arraycopyName) (List.mem_cons_of_mem _ (in_r16 _ (List.mem_of_getElem? (i := 3) rfl)))
  have hw_7 := hts (.static arraycopyName) (List.mem_cons_of_mem _ (in_r16 _ (List.mem_of_getElem? (i := 4) rfl)))
  have hw_8 := hts (.initialized "java/lang/System") (List.mem_cons_of_mem _ (in_r16 _ (List.mem_of_getElem? (i := 5) rfl)))
  have e1 : a1 = nI a1.toNatClampNeg := by
    obtain ⟨j, hj, e⟩ := nI_of h0
    rw [e, nI_clamp hj]
  have hne : ¬ a1 = Int32.ofNat na := by
    intro h
    have h3 : a1.toNatClampNeg = na := by rw [h]; exact nI_clamp (by omega)
    omega
  have hmin : (if a1 < Int32.ofNat na then a1 else Int32.ofNat na) = nI na := by
    rw [if_neg]
    · rfl
    · rw [e1]; exact nI_nlt (by omega) (by omega)
  refine lv_iload_n hx hb dJ7_copyOf_59c91_0 rfl (lv_at hl 1 rfl) ?_
  refine lv_aload_n hx hb dJ7_copyOf_59c91_1 rfl (lv_at hl 0 rfl) ?_
  refine va_alen (v := (Int32.ofNat na)) hx hb hK hP 0 0 rfl rfl rfl dJ7_copyOf_59c91_2 ?_
  refine lv_icmp_ne (tgt := 14) hx hb dJ7_copyOf_59c91_3 (by decide) (fun c_2 => ?_) (fun c_2 => absurd c_2 hne)
  refine lv_iload_n hx hb dJ7_copyOf_59c91_14 rfl (lv_at hl 1 rfl) ?_
  refine va_newa (atype := .int) (ty := .int) (N' := a1.toNatClampNeg) (a0 := (a1.toNatClampNeg, .inl (fun _ => 0))) hx hb hw_0 rfl hK hP hD hS hA (fun _ => rfl) h0 rfl (by (show _ * 4 ≤ _); omega) (Nat.le_refl _) (by (show 0 + _ ≤ a1.toNatClampNeg); omega) dJ7_copyOf_59c91_15 (fun q cN H hK2 hP hD hS => ?_)
  obtain rfl : cA = cN := va_same hK2 0 1 rfl rfl
  clear hK2
  have hP : va_P (dC, dI) vwCl [ar qa cA na gA0, ar q cA a1.toNatClampNeg (fun _ => 0)] H := hP
  have hD : va_D A [ar qa cA na gA0, ar q cA a1.toNatClampNeg (fun _ => 0)] := hD
  refine lv_astore_n (lv' := [(2, .ref q), (0, .ref qa), (1, .int a1)]) hx hb dJ7_copyOf_59c91_17 rfl hl (by decide) rfl (fun ls hl => ?_)
  refine lv_aload_n hx hb dJ7_copyOf_59c91_18 rfl (lv_at hl 1 rfl) ?_
  refine lv_iconst (v := 0) hx hb dJ7_copyOf_59c91_19 (by decide) ?_
  refine lv_aload_n hx hb dJ7_copyOf_59c91_20 rfl (lv_at hl 0 rfl) ?_
  refine lv_iconst (v := 0) hx hb dJ7_copyOf_59c91_21 (by decide) ?_
  refine lv_aload_n hx hb dJ7_copyOf_59c91_22 rfl (lv_at hl 1 rfl) ?_
  refine va_alen (v := (Int32.ofNat na)) hx hb hK hP 0 0 rfl rfl rfl dJ7_copyOf_59c91_23 ?_
  refine lv_iload_n hx hb dJ7_copyOf_59c91_24 rfl (lv_at hl 2 rfl) ?_
  refine va_mmin hx hb (by rw [hml]; exact hl.1.symm) hown hw_1 hw_2 hw_3 hw_4 (Nat.le_of_ble_eq_true rfl) (Nat.le_of_ble_eq_true rfl) (Nat.le_refl _) (by (show 0 + _ ≤ a1.toNatClampNeg); omega) dJ7_copyOf_59c91_25 ?_
  rw [hmin]
  have hcl : (nI na).toNatClampNeg = na := nI_clamp (by omega)
  refine va_copyi hx hb (by rw [hml]; exact hl.1.symm) hown hw_5 hw_6 hw_7 hw_8 hK hP hD hS 0 1 0 0 rfl rfl rfl rfl rfl (by decide) (by decide) (nI_pos (by omega)) (by rw [hcl]; (show 0 + _ ≤ _); omega) (by rw [hcl]; (show 0 + _ ≤ _); omega) (fun _ _ => rfl) (Nat.le_of_ble_eq_true rfl) (Nat.le_of_ble_eq_true rfl) dJ7_copyOf_59c91_28 (fun H locs hP hD hS => ?_)
  rw [hcl] at hP hD
  have hP : va_P (dC, dI) vwCl [ar qa cA na gA0, ar q cA a1.toNatClampNeg (va_cpy gA0 (fun _ => 0) 0 0 na)] H := hP
  have hD : va_D A [ar qa cA na gA0, ar q cA a1.toNatClampNeg (va_cpy gA0 (fun _ => 0) 0 0 na)] := hD
  refine lv_aload_n hx hb dJ7_copyOf_59c91_31 rfl (lv_at hl 0 rfl) ?_
  subst hQ
  refine W.widen (k := 1) (n := a1.toNatClampNeg) (Nat.le_refl _) (by omega) ?_
  exact W.aret hx hb hr (Or.inr ⟨_, rfl⟩) (Or.inr ⟨_, rfl⟩) (fun t ht hW => ⟨⟨(), _, rfl, trivial, by rw [ht]; exact hP, va_K.moved hW.alike hK, hAe ▸ hD⟩, hS.F ht⟩) hS.2.2 dJ7_copyOf_59c91_32
set_option maxHeartbeats 4000000 in
set_option maxRecDepth 100000 in
theorem kD_makeRoom (l : Launch) (dC : Nat → ClassId) (dI : Nat → Nat → Nat) (cA : ClassId) (ad : Nat → Nat) (qe : Nat) (sz : Nat) (a1 : Int32) (xDia_size : Int32) (ne : Nat) (gDent : Nat → Int32) (u : Nat × (Nat → Int32)) (hm : fD_makeRoom a1 xDia_size ne gDent = some u) : Met l yX1_makeRoom wsX1_makeRoom ({ frames := 2, cells := (u.1 - ne), slots := (2 * (u.1 - ne)), locals := 48 }) (va_Pc [.ref (ad 15), .int a1] (fun U => U.heap.size = sz ∧ va_P (dC, dI) vwCl [oDia ad qe xDia_size, ar qe cA ne gDent] U.heap ∧ va_K (dC, dI) vwCl [(cA, .int)] U ∧ va_D (fun _ => True) [oDia ad qe xDia_size, ar qe cA ne gDent])) (va_Qv (fun (_ : Nat) => True) (fun (qe2 : Nat) t => va_P (dC, dI) vwCl [oDia ad qe2 xDia_size, ar qe2 cA u.1 u.2] t.heap ∧ va_K (dC, dI) vwCl [(cA, .int)] t ∧ va_D (va_A [oDia ad qe xDia_size, ar qe cA ne gDent] sz) [oDia ad qe2 xDia_size, ar qe2 cA u.1 u.2]) (va_A [oDia ad qe xDia_size, ar qe cA ne gDent] sz)) (u.1 - ne) (2 * (u.1 - ne)) (va_A [oDia ad qe xDia_size, ar qe cA ne gDent] sz) := by
  refine Met.ofW (cc := cX1_makeRoom) (maxL := 3) (ret := none) (by decide) rfl ?_
  intro p e s m args below meth c s₁ B hml hv
  obtain ⟨rfl, hsz, hP, hK, hD0⟩ := hv
  have hx := B.exec
  have hb := B.bytes
  have hr := B.returns
  have hts := atoms_spec (ws := wsX1_makeRoom) B.pre
  have hown : s.vm.findClass RX1 = some m.cls := findClass_of_methodNamed B.named
  have hlocks := B.notSynchronized
  subst hsz
  have hD := hD0.self (sz := s.heap.size)
  generalize hAe : va_A [oDia ad qe xDia_size, ar qe cA ne gDent] s.heap.size = A at hD ⊢
  have hA : ∀ q : Nat, s.heap.size ≤ q → A q := fun q h => by rw [← hAe]; exact Or.inr h
  have hS : va_S A s.heap s.heap [] := va_S.rf
  have hl := lv_entry ([.ref (ad 15), .int a1]) (n := 3) (Nat.le_of_ble_eq_true rfl)
  rw [lg_entry_eq]
  generalize (lg_sl ([.ref (ad 15), .int a1]) ++ List.replicate (3 - (lg_sl ([.ref (ad 15), .int a1])).length) Slot.unset).toArray = ls at hl ⊢
  have hl : lv_has ls 3 [(0, .ref (ad 15)), (1, .int a1)] := hl
  refine wk_Q (fun QQ hQ => ?_)
  have hinX1 : ∀ w ∈ wsX10, w ∈ wsX1_makeRoom := fun w h => List.mem_cons_of_mem _ (inlX1 w h)
  have hl_15 := hts (.fieldLink RX1 15 "HandCensus$Diary" "size" "I") (List.mem_cons_of_mem _ (in_r3 _ (List.mem_of_getElem? (i := 21) rfl)))
  have hw_1 := hts (.constant RX1 19 (32768)) (List.mem_cons_of_mem _ (in_r15 _ (List.mem_of_getElem? (i := 8) rfl)))
  have hw_2 := hts (.methodLink RX1 20 Lib.Math.min.name) (List.mem_cons_of_mem _ (in_r15 _ (List.mem_of_getElem? (i := 9) rfl)))
  have hw_3 := hts (.static Lib.Math.min.name) (List.mem_cons_of_mem _ (in_r15 _ (List.mem_of_getElem? (i := 10) rfl)))
  have hw_4 := hts (.initialized "java/lang/Math") (List.mem_cons_of_mem _ (in_r15 _ (List.mem_of_getElem? (i := 11) rfl)))
  have hw_5 := hts (.code Lib.Math.min.name Lib.Math.min.code 2 (some .int)) (List.mem_cons_of_mem _ (in_r15 _ (List.mem_of_getElem? (i := 12) rfl)))
  have hl_9 := hts (.fieldLink RX1 9 "HandCensus$Diary" "entries" "[I") (List.mem_cons_of_mem _ (in_r3 _ (List.mem_of_getElem? (i := 20) rfl)))
  have hw_7 := hts (.methodLink RX1 26 Lib.Math.max.name) (List.mem_cons_of_mem _ (in_r15 _ (List.mem_of_getElem? (i := 13) rfl)))
  have hw_8 := hts (.static Lib.Math.max.name) (List.mem_cons_of_mem _ (in_r15 _ (List.mem_of_getElem? (i := 14) rfl)))
  have hw_9 := hts (.code Lib.Math.max.name Lib.Math.max.code 2 (some .int)) (List.mem_cons_of_mem _ (in_r15 _ (List.mem_of_getElem? (i := 15) rfl)))
  unfold fD_makeRoom at hm
  obtain ⟨hz0, hm⟩ := mz_ok hm
  have hz0 : ne ≤ u.1 := hz0
  refine lv_aload_n hx hb dX1_makeRoom_0 rfl (lv_at hl 0 rfl) ?_
  refine va_get (D := (dC, dI)) (ci := 1) (v := .int xDia_size) (C := RX1) (T := TX1) (N := 2) hx hb hts hinX1 hown hK hP 0 rfl rfl 1 (by decide) hl_15 (fun _ h9 => h9) rfl dX1_makeRoom_1 ?_
  refine lv_iload_n hx hb dX1_makeRoom_4 rfl (lv_at hl 1 rfl) ?_
  refine lv_iadd hx hb dX1_makeRoom_5 ?_
  refine lv_ldc hx hb hown hw_1 dX1_makeRoom_6 ?_
  refine va_mmin hx hb (by rw [hml]; exact hl.1.symm) hown hw_2 hw_3 hw_4 hw_5 (Nat.le_of_ble_eq_true rfl) (Nat.le_of_ble_eq_true rfl) (by first | exact Nat.zero_le _ | (show _ ≤ _ - _; omega)) (by first | exact Nat.zero_le _ | (show _ ≤ 2 * (_ - _); omega)) dX1_makeRoom_8 ?_
  refine lv_topi (fun y1 ey1 => ?_)
  have hm := nm_in ey1 hm
  refine lv_istore_n (lv' := [(2, .int y1), (0, .ref (ad 15)), (1, .int a1)]) hx hb dX1_makeRoom_11 rfl hl (by decide) rfl (fun ls hl => ?_)
  refine lv_iload_n hx hb dX1_makeRoom_12 rfl (lv_at hl 0 rfl) ?_
  refine lv_aload_n hx hb dX1_makeRoom_13 rfl (lv_at hl 1 rfl) ?_
  refine va_get (D := (dC, dI)) (ci := 1) (v := .ref qe) (C := RX1) (T := TX1) (N := 2) hx hb hts hinX1 hown hK hP 0 rfl rfl 0 (by decide) hl_9 (fun _ h9 => h9) rfl dX1_makeRoom_14 ?_
  refine va_alen (v := (Int32.ofNat ne)) hx hb hK hP 1 0 rfl rfl rfl dX1_makeRoom_17 ?_
  refine lv_icmp_le (tgt := 43) hx hb dX1_makeRoom_18 (by decide) (fun c_2 => ?_) (fun c_2 => ?_)
  · have hm := it_pos c_2 hm
    obtain rfl := Option.some.inj hm
    subst hQ
    refine W.widen (k := ne - ne) (n := 2 * (ne - ne)) (by first | exact Nat.le_refl _ | omega) (by first | exact Nat.le_refl _ | omega) ?_
    exact W.vret hx hb hr (fun t ht hW => ⟨⟨qe, rfl, trivial, by rw [ht]; exact hP, va_K.moved hW.alike hK, hAe ▸ hD⟩, hS.F ht⟩) hS.2.2 dX1_makeRoom_43
  · have hm := it_neg c_2 hm
    refine lv_aload_n hx hb dX1_makeRoom_21 rfl (lv_at hl 1 rfl) ?_
    refine lv_aload_n hx hb dX1_makeRoom_22 rfl (lv_at hl 1 rfl) ?_
    refine va_get (D := (dC, dI)) (ci := 1) (v := .ref qe) (C := RX1) (T := TX1) (N := 2) hx hb hts hinX1 hown hK hP 0 rfl rfl 0 (by decide) hl_9 (fun _ h9 => h9) rfl dX1_makeRoom_23 ?_
    refine lv_iload_n hx hb dX1_makeRoom_26 rfl (lv_at hl 0 rfl) ?_
    refine lv_iconst (v := 2) hx hb dX1_makeRoom_27 (by decide) ?_
    refine lv_aload_n hx hb dX1_makeRoom_28 rfl (lv_at hl 1 rfl) ?_
    refine va_get (D := (dC, dI)) (ci := 1) (v := .ref qe) (C := RX1) (T := TX1) (N := 2) hx hb hts hinX1 hown hK hP 0 rfl rfl 0 (by decide) hl_9 (fun _ h9 => h9) rfl dX1_makeRoom_29 ?_
    refine va_alen (v := (Int32.ofNat ne)) hx hb hK hP 1 0 rfl rfl rfl dX1_makeRoom_32 ?_
    refine lv_imul hx hb dX1_makeRoom_33 ?_
    refine va_mmax hx hb (by rw [hml]; exact hl.1.symm) hown hw_7 hw_8 hw_4 hw_9 (Nat.le_of_ble_eq_true rfl) (Nat.le_of_ble_eq_true rfl) (by first | exact Nat.zero_le _ | (show _ ≤ _ - _; omega)) (by first | exact Nat.zero_le _ | (show _ ≤ 2 * (_ - _); omega)) dX1_makeRoom_34 ?_
    obtain ⟨⟨zz1, zz2, zz3, zz4⟩, hm⟩ := cp_ok hm
    have zz5 : (if y1 < (2 * (Int32.ofNat ne)) then (2 * (Int32.ofNat ne)) else y1).toNatClampNeg - ne ≤ (if y1 < (2 * (Int32.ofNat ne)) then (2 * (Int32.ofNat ne)) else y1).toNatClampNeg - ne := Nat.le_refl _
    have hPc := hP.sub (ws' := [ar qe cA ne gDent]) [1] rfl
    have hDc := hD.sub (ws' := [ar qe cA ne gDent]) [1] (by decide) rfl
    have hFc := va_free (wc := [ar qe cA ne gDent]) hD hS hA [1] rfl
    obtain rfl := Option.some.inj hm
    refine va_callr (va_runS (As := [.ref qe, .int (if y1 < (2 * (Int32.ofNat ne)) then (2 * (Int32.ofNat ne)) else y1)]) (rest := [.ref (ad 15)]) ⟨hx, hb, hml, hown, hts⟩ (kJ_copyOf l dC dI cA qe s.heap.size (if y1 < (2 * (Int32.ofNat ne)) then (2 * (Int32.ofNat ne)) else y1) ne gDent zz1 (by omega) zz4) (va_cwS 2 hts gX1_makeRoom_J7_copyOf_59c91 rfl rfl rfl (by decide +kernel) ⟨Nat.le_of_ble_eq_true rfl, Nat.le_of_ble_eq_true rfl⟩) ⟨fun a U g mk q => by obtain ⟨q0, q1, qP, qK, qD⟩ := q; exact ⟨q0, q1, qP, va_K.moved (u := U) (U := U.calling g mk a) (Vm.Alike.refl U.vm) qK, qD⟩, fun U hU hW => ⟨rfl, by rw [hU], by rw [hU]; exact hPc, va_K.moved hW.alike hK, hDc.weaken (fun _ _ _ _ => trivial)⟩⟩ rfl rfl hl.1 rfl (lv_room (Nat.le_of_ble_eq_true rfl)) dX1_makeRoom_37 ⟨by (show _ ≤ (if y1 < (2 * (Int32.ofNat ne)) then (2 * (Int32.ofNat ne)) else y1).toNatClampNeg - ne); omega, by (show _ ≤ 2 * ((if y1 < (2 * (Int32.ofNat ne)) then (2 * (Int32.ofNat ne)) else y1).toNatClampNeg - ne)); omega⟩) hS (fun q _ h => hFc q h) hFc (fun _ ra t H1 locs ht hvm hw hB hz1 hk1 hS => ?_)
    obtain ⟨hP1, hK1, hD1⟩ := hB
    rw [ht] at hP1
    obtain ⟨hP, hD⟩ := va_join (wr := [oDia ad qe xDia_size]) (w1 := [ar qe cA ne gDent, ar ra cA (if y1 < (2 * (Int32.ofNat ne)) then (2 * (Int32.ofNat ne)) else y1).toNatClampNeg (va_cpy gDent (fun _ => 0) 0 0 ne)]) hP hD [1] [0] rfl rfl (by decide) (by decide) hk1 hFc hP1 hD1
    clear hPc hDc hFc hP1 hK1 hD1 hk1 hz1 hvm ht
    generalize H1 = H at hP hS ⊢
    have hP : va_P (dC, dI) vwCl [oDia ad qe xDia_size, ar qe cA ne gDent, ar ra cA (if y1 < (2 * (Int32.ofNat ne)) then (2 * (Int32.ofNat ne)) else y1).toNatClampNeg (va_cpy gDent (fun _ => 0) 0 0 ne)] H := hP
    have hD : va_D A [oDia ad qe xDia_size, ar qe cA ne gDent, ar ra cA (if y1 < (2 * (Int32.ofNat ne)) then (2 * (Int32.ofNat ne)) else y1).toNatClampNeg (va_cpy gDent (fun _ => 0) 0 0 ne)] := hD
    refine va_put (D := (dC, dI)) (ci := 1) (v := .ref ra) (ty := .array .int) (C := RX1) (T := TX1) (N := 2) hx hb hts hinX1 tyX1 tyX1_ok nmX1 hown hK hP hD hS 0 rfl rfl 0 (by decide) hl_9 (fun _ h9 => h9) rfl (by decide +kernel) rfl rfl (Nat.le_of_ble_eq_true rfl) dX1_makeRoom_40 (fun H locs hP hD hS => ?_)
    have hP : va_P (dC, dI) vwCl [oDia ad ra xDia_size, ar ra cA (if y1 < (2 * (Int32.ofNat ne)) then (2 * (Int32.ofNat ne)) else y1).toNatClampNeg (va_cpy gDent (fun _ => 0) 0 0 ne)] H := hP.sub [0, 2] rfl
    have hD : va_D A [oDia ad ra xDia_size, ar ra cA (if y1 < (2 * (Int32.ofNat ne)) then (2 * (Int32.ofNat ne)) else y1).toNatClampNeg (va_cpy gDent (fun _ => 0) 0 0 ne)] := hD.sub [0, 2] (by decide) rfl
    subst hQ
    refine W.widen (k := (if y1 < (2 * (Int32.ofNat ne)) then (2 * (Int32.ofNat ne)) else y1).toNatClampNeg - ne) (n := 2 * ((if y1 < (2 * (Int32.ofNat ne)) then (2 * (Int32.ofNat ne)) else y1).toNatClampNeg - ne)) (by omega) (by omega) ?_
    exact W.vret hx hb hr (fun t ht hW => ⟨⟨ra, rfl, trivial, by rw [ht]; exact hP, va_K.moved hW.alike hK, hAe ▸ hD⟩, hS.F ht⟩) hS.2.2 dX1_makeRoom_43

set_option maxHeartbeats 4000000 in
set_option maxRecDepth 100000 in
theorem kD_note (l : Launch) (dC : Nat → ClassId) (dI : Nat → Nat → Nat) (cA : ClassId) (ad : Nat → Nat) (qe : Nat) (sz : Nat) (a1 : Int32) (a2 : Int32) (a3 : Int32) (a4 : Int32) (xDia_size : Int32) (ne : Nat) (gDent : Nat → Int32) (u : Int32 × (Nat → Int32)) (hm : fD_note a1 a2 a3 a4 xDia_size ne gDent = some u) : Met l yX1_note wsX1_note ({ frames := 0, cells := 0, slots := 0, locals := 0 }) (va_Pc [.ref (ad 15), .int a1, .int a2, .int a3, .int a4] (fun U => U.heap.size = sz ∧ va_P (dC, dI) vwCl [oDia ad qe xDia_size, ar qe cA ne gDent] U.heap ∧ va_K (dC, dI) vwCl [(cA, .int)] U ∧ va_D (fun _ => True) [oDia ad qe xDia_size, ar qe cA ne gDent])) (va_Qv (fun (_ : Unit) => True) (fun (_ : Unit) t => va_P (dC, dI) vwCl [oDia ad qe u.1, ar qe cA ne u.2] t.heap ∧ va_K (dC, dI) vwCl [(cA, .int)] t ∧ va_D (va_A [oDia ad qe xDia_size, ar qe cA ne gDent] sz) [oDia ad qe u.1, ar qe cA ne u.2]) (va_A [oDia ad qe xDia_size, ar qe cA ne gDent] sz)) 0 0 (va_A [oDia ad qe xDia_size, ar qe cA ne gDent] sz) := by
  refine Met.ofW (cc := cX1_note) (maxL := 5) (ret := none) (by decide) rfl ?_
  intro p e s m args below meth c s₁ B hml hv
  obtain ⟨rfl, hsz, hP, hK, hD0⟩ := hv
  have hx := B.exec
  have hb := B.bytes
  have hr := B.returns
  have hts := atoms_spec (ws := wsX1_note) B.pre
  have hown : s.vm.findClass RX1 = some m.cls := findClass_of_methodNamed B.named
  have hlocks := B.notSynchronized
  subst hsz
  have hD := hD0.self (sz := s.heap.size)
  generalize hAe : va_A [oDia ad qe xDia_size, ar qe cA ne gDent] s.heap.size = A at hD ⊢
  have hA : ∀ q : Nat, s.heap.size ≤ q → A q := fun q h => by rw [← hAe]; exact Or.inr h
  have hS : va_S A s.heap s.heap [] := va_S.rf
  have hl := lv_entry ([.ref (ad 15), .int a1, .int a2, .int a3, .int a4]) (n := 5) (Nat.le_of_ble_eq_true rfl)
  rw [lg_entry_eq]
  generalize (lg_sl ([.ref (ad 15), .int a1, .int a2, .int a3, .int a4]) ++ List.replicate (5 - (lg_sl ([.ref (ad 15), .int a1, .int a2, .int a3, .int a4])).length) Slot.unset).toArray = ls at hl ⊢
  have hl : lv_has ls 5 [(0, .ref (ad 15)), (1, .int a1), (2, .int a2), (3, .int a3), (4, .int a4)] := hl
  refine wk_Q (fun QQ hQ => ?_)
  have hinX1 : ∀ w ∈ wsX10, w ∈ wsX1_note := fun w h => List.mem_cons_of_mem _ (inlX1 w h)
  have hl_15 := hts (.fieldLink RX1 15 "HandCensus$Diary" "size" "I") (List.mem_cons_of_mem _ (in_r3 _ (List.mem_of_getElem? (i := 21) rfl)))
  have hl_9 := hts (.fieldLink RX1 9 "HandCensus$Diary" "entries" "[I") (List.mem_cons_of_mem _ (in_r3 _ (List.mem_of_getElem? (i := 20) rfl)))
  unfold fD_note at hm
  refine lv_aload_n hx hb dX1_note_0 rfl (lv_at hl 0 rfl) ?_
  refine va_get (D := (dC, dI)) (ci := 1) (v := .int xDia_size) (C := RX1) (T := TX1) (N := 2) hx hb hts hinX1 hown hK hP 0 rfl rfl 1 (by decide) hl_15 (fun _ h9 => h9) rfl dX1_note_1 ?_
  refine lv_aload_n hx hb dX1_note_4 rfl (lv_at hl 0 rfl) ?_
  refine va_get (D := (dC, dI)) (ci := 1) (v := .ref qe) (C := RX1) (T := TX1) (N := 2) hx hb hts hinX1 hown hK hP 0 rfl rfl 0 (by decide) hl_9 (fun _ h9 => h9) rfl dX1_note_5 ?_
  refine va_alen (v := (Int32.ofNat ne)) hx hb hK hP 1 0 rfl rfl rfl dX1_note_8 ?_
  refine lv_icmp_ge (tgt := 49) hx hb dX1_note_9 (by decide) (fun c_1 => ?_) (fun c_1 => ?_)
  · have hm := it_pos c_1 hm
    obtain rfl := Option.some.inj hm
    subst hQ
    exact W.vret hx hb hr (fun t ht hW => ⟨⟨(), rfl, trivial, by rw [ht]; exact hP, va_K.moved hW.alike hK, hAe ▸ hD⟩, hS.F ht⟩) hS.2.2 dX1_note_49
  · have hm := it_neg c_1 hm
    refine lv_aload_n hx hb dX1_note_12 rfl (lv_at hl 0 rfl) ?_
    refine va_get (D := (dC, dI)) (ci := 1) (v := .ref qe) (C := RX1) (T := TX1) (N := 2) hx hb hts hinX1 hown hK hP 0 rfl rfl 0 (by decide) hl_9 (fun _ h9 => h9) rfl dX1_note_13 ?_
    refine lv_aload_n hx hb dX1_note_16 rfl (lv_at hl 0 rfl) ?_
    refine va_get (D := (dC, dI)) (ci := 1) (v := .int xDia_size) (C := RX1) (T := TX1) (N := 2) hx hb hts hinX1 hown hK hP 0 rfl rfl 1 (by decide) hl_15 (fun _ h9 => h9) rfl dX1_note_17 ?_
    refine lv_iload_n hx hb dX1_note_20 rfl (lv_at hl 1 rfl) ?_
    refine lv_bipush (v := 11) hx hb dX1_note_21 (by decide) ?_
    refine lv_ishl hx hb dX1_note_23 ?_
    refine lv_iload_n hx hb dX1_note_24 rfl (lv_at hl 2 rfl) ?_
    refine lv_bipush (v := 6) hx hb dX1_note_25 (by decide) ?_
    refine lv_ishl hx hb dX1_note_27 ?_
    refine lv_ior hx hb dX1_note_28 ?_
    refine lv_iload_n hx hb dX1_note_29 rfl (lv_at hl 3 rfl) ?_
    refine lv_iconst (v := 1) hx hb dX1_note_30 (by decide) ?_
    refine lv_iadd hx hb dX1_note_31 ?_
    refine lv_iconst (v := 1) hx hb dX1_note_32 (by decide) ?_
    refine lv_ishl hx hb dX1_note_33 ?_
    refine lv_ior hx hb dX1_note_34 ?_
    refine lv_iload hx hb dX1_note_35 (lv_at hl 4 rfl) ?_
    refine lv_ior hx hb dX1_note_37 ?_
    obtain ⟨i_2, hm⟩ := ck_ok hm
    refine va_iast hx hb hK hP hD hS 1 0 rfl rfl i_2 dX1_note_38 (fun H locs hP hD hS => ?_)
    have hP : va_P (dC, dI) vwCl [oDia ad qe xDia_size, ar qe cA ne (upd gDent xDia_size.toNatClampNeg ((((a1 <<< (11 &&& 31)) ||| (a2 <<< (6 &&& 31))) ||| ((a3 + 1) <<< (1 &&& 31))) ||| a4))] H := hP
    have hD : va_D A [oDia ad qe xDia_size, ar qe cA ne (upd gDent xDia_size.toNatClampNeg ((((a1 <<< (11 &&& 31)) ||| (a2 <<< (6 &&& 31))) ||| ((a3 + 1) <<< (1 &&& 31))) ||| a4))] := hD
    refine lv_aload_n hx hb dX1_note_39 rfl (lv_at hl 0 rfl) ?_
    refine lv_dup hx hb dX1_note_40 rfl ?_
    refine va_get (D := (dC, dI)) (ci := 1) (v := .int xDia_size) (C := RX1) (T := TX1) (N := 2) hx hb hts hinX1 hown hK hP 0 rfl rfl 1 (by decide) hl_15 (fun _ h9 => h9) rfl dX1_note_41 ?_
    refine lv_iconst (v := 1) hx hb dX1_note_44 (by decide) ?_
    refine lv_iadd hx hb dX1_note_45 ?_
    refine va_put (D := (dC, dI)) (ci := 1) (v := .int (xDia_size + 1)) (ty := .int) (C := RX1) (T := TX1) (N := 2) hx hb hts hinX1 tyX1 tyX1_ok nmX1 hown hK hP hD hS 0 rfl rfl 1 (by decide) hl_15 (fun _ h9 => h9) rfl (by decide +kernel) rfl rfl (Nat.le_of_ble_eq_true rfl) dX1_note_46 (fun H locs hP hD hS => ?_)
    have hP : va_P (dC, dI) vwCl [oDia ad qe (xDia_size + 1), ar qe cA ne (upd gDent xDia_size.toNatClampNeg ((((a1 <<< (11 &&& 31)) ||| (a2 <<< (6 &&& 31))) ||| ((a3 + 1) <<< (1 &&& 31))) ||| a4))] H := hP
    have hD : va_D A [oDia ad qe (xDia_size + 1), ar qe cA ne (upd gDent xDia_size.toNatClampNeg ((((a1 <<< (11 &&& 31)) ||| (a2 <<< (6 &&& 31))) ||| ((a3 + 1) <<< (1 &&& 31))) ||| a4))] := hD
    obtain rfl := Option.some.inj hm
    subst hQ
    exact W.vret hx hb hr (fun t ht hW => ⟨⟨(), rfl, trivial, by rw [ht]; exact hP, va_K.moved hW.alike hK, hAe ▸ hD⟩, hS.F ht⟩) hS.2.2 dX1_note_49

set_option maxHeartbeats 4000000 in
set_option maxRecDepth 100000 in
theorem kS_passOn_T (l : Launch) (dC : Nat → ClassId) (dI : Nat → Nat → Nat) (cA : ClassId) (ad : Nat → Nat) (sz : Nat) (a1 : Int32) (a2 : Int32) (a3 : Int32) (xRow_depth : Int32) (xRow_length : Int32) (xRow_people : Int32) (xRow_scarves : Int32) (xRow_main : Int32) (xRow_faultPlace : Int32) (gRhands : Nat → Int32) (gRslow : Nat → Int32) (xST_sleeper : Int32) (xST_lastDue : Int32) (xST_unreached : Int32) (gSTdue : Nat → Int32) (u : Int32 × (Nat → Int32)) (hm : fS_passOn_T a1 a2 a3 xRow_people gRhands gRslow xST_lastDue gSTdue = some u) : Met l yX8_passOn wsX8_passOn ({ frames := 0, cells := 0, slots := 0, locals := 0 }) (va_Pc [.ref (ad 9), .int a1, .int a2, .int a3] (fun U => U.heap.size = sz ∧ va_P (dC, dI) vwCl [oRow ad xRow_depth xRow_length xRow_people xRow_scarves xRow_main xRow_faultPlace, ar (ad 5) cA 20 gRhands, ar (ad 6) cA 20 gRslow, oST ad xST_sleeper xST_lastDue xST_unreached, ar (ad 10) cA 640 gSTdue] U.heap ∧ va_K (dC, dI) vwCl [(cA, .int)] U ∧ va_D (fun _ => True) [oRow ad xRow_depth xRow_length xRow_people xRow_scarves xRow_main xRow_faultPlace, ar (ad 5) cA 20 gRhands, ar (ad 6) cA 20 gRslow, oST ad xST_sleeper xST_lastDue xST_unreached, ar (ad 10) cA 640 gSTdue])) (va_Qv (fun (_ : Unit) => True) (fun (_ : Unit) t => va_P (dC, dI) vwCl [oRow ad xRow_depth xRow_length xRow_people xRow_scarves xRow_main xRow_faultPlace, ar (ad 5) cA 20 gRhands, ar (ad 6) cA 20 gRslow, oST ad xST_sleeper u.1 xST_unreached, ar (ad 10) cA 640 u.2] t.heap ∧ va_K (dC, dI) vwCl [(cA, .int)] t ∧ va_D (va_A [oRow ad xRow_depth xRow_length xRow_people xRow_scarves xRow_main xRow_faultPlace, ar (ad 5) cA 20 gRhands, ar (ad 6) cA 20 gRslow, oST ad xST_sleeper xST_lastDue xST_unreached, ar (ad 10) cA 640 gSTdue] sz) [oRow ad xRow_depth xRow_length xRow_people xRow_scarves xRow_main xRow_faultPlace, ar (ad 5) cA 20 gRhands, ar (ad 6) cA 20 gRslow, oST ad xST_sleeper u.1 xST_unreached, ar (ad 10) cA 640 u.2]) (va_A [oRow ad xRow_depth xRow_length xRow_people xRow_scarves xRow_main xRow_faultPlace, ar (ad 5) cA 20 gRhands, ar (ad 6) cA 20 gRslow, oST ad xST_sleeper xST_lastDue xST_unreached, ar (ad 10) cA 640 gSTdue] sz)) 0 0 (va_A [oRow ad xRow_depth xRow_length xRow_people xRow_scarves xRow_main xRow_faultPlace, ar (ad 5) cA 20 gRhands, ar (ad 6) cA 20 gRslow, oST ad xST_sleeper xST_lastDue xST_unreached, ar (ad 10) cA 640 gSTdue] sz) := by
  refine Met.ofW (cc := cX8_passOn) (maxL := 6) (ret := none) (by decide) rfl ?_
  intro p e s m args below meth c s₁ B hml hv
  obtain ⟨rfl, hsz, hP, hK, hD0⟩ := hv
  have hx := B.exec
  have hb := B.bytes
  have hr := B.returns
  have hts := atoms_spec (ws := wsX8_passOn) B.pre
  have hown : s.vm.findClass RX8 = some m.cls := findClass_of_methodNamed B.named
  have hlocks := B.notSynchronized
  subst hsz
  have hD := hD0.self (sz := s.heap.size)
  generalize hAe : va_A [oRow ad xRow_depth xRow_length xRow_people xRow_scarves xRow_main xRow_faultPlace, ar (ad 5) cA 20 gRhands, ar (ad 6) cA 20 gRslow, oST ad xST_sleeper xST_lastDue xST_unreached, ar (ad 10) cA 640 gSTdue] s.heap.size = A at hD ⊢
  have hA : ∀ q : Nat, s.heap.size ≤ q → A q := fun q h => by rw [← hAe]; exact Or.inr h
  have hS : va_S A s.heap s.heap [] := va_S.rf
  have hl := lv_entry ([.ref (ad 9), .int a1, .int a2, .int a3]) (n := 6) (Nat.le_of_ble_eq_true rfl)
  rw [lg_entry_eq]
  generalize (lg_sl ([.ref (ad 9), .int a1, .int a2, .int a3]) ++ List.replicate (6 - (lg_sl ([.ref (ad 9), .int a1, .int a2, .int a3])).length) Slot.unset).toArray = ls at hl ⊢
  have hl : lv_has ls 6 [(0, .ref (ad 9)), (1, .int a1), (2, .int a2), (3, .int a3)] := hl
  refine wk_Q (fun QQ hQ => ?_)
  have hinX8 : ∀ w ∈ wsX80, w ∈ wsX8_passOn := fun w h => List.mem_cons_of_mem _ (inlX8 w h)
  have hl_47 := hts (.fieldLink RX8 47 "HandCensus$Squeeze" "lastDue" "I") (List.mem_cons_of_mem _ (in_r14 _ (List.mem_of_getElem? (i := 20) rfl)))
  have hl_19 := hts (.fieldLink RX8 19 "HandCensus$Squeeze" "due" "[I") (List.mem_cons_of_mem _ (in_r4 _ (List.mem_of_getElem? (i := 4) rfl)))
  have hl_9 := hts (.fieldLink RX8 9 "HandCensus$Squeeze" "row" "LHandCensus$Row;") (List.mem_cons_of_mem _ (in_r4 _ (List.mem_of_getElem? (i := 2) rfl)))
  have hinX5 : ∀ w ∈ wsX50, w ∈ wsX8_passOn := fun w h => List.mem_cons_of_mem _ (inlX5 w h)
  have hl_42 := hts (.fieldLink RX8 42 "HandCensus$Row" "people" "I") (List.mem_cons_of_mem _ (in_r14 _ (List.mem_of_getElem? (i := 19) rfl)))
  have hl_89 := hts (.fieldLink RX8 89 "HandCensus$Row" "hands" "[I") (List.mem_cons_of_mem _ (in_r17 _ (List.mem_of_getElem? (i := 0) rfl)))
  have hl_92 := hts (.fieldLink RX8 92 "HandCensus$Row" "slow" "[I") (List.mem_cons_of_mem _ (in_r17 _ (List.mem_of_getElem? (i := 1) rfl)))
  have h_3 : ∀ (v1_3 : Int32) (v2_3 : Int32) (v3_3 : Int32), ∀ (n_3 : Nat), ∀ (v4_3 : Int32) (xST_lastDue_3 : Int32) (gSTdue_3 : Nat → Int32), fS_passOn_T_3 v1_3 v2_3 v3_3 xRow_people gRhands gRslow n_3 v4_3 xST_lastDue_3 gSTdue_3 = some u → ∀ (H : Heap) (locs : List Loc), va_P (dC, dI) vwCl [oRow ad xRow_depth xRow_length xRow_people xRow_scarves xRow_main xRow_faultPlace, ar (ad 5) cA 20 gRhands, ar (ad 6) cA 20 gRslow, oST ad xST_sleeper xST_lastDue_3 xST_unreached, ar (ad 10) cA 640 gSTdue_3] H → va_D A [oRow ad xRow_depth xRow_length xRow_people xRow_scarves xRow_main xRow_faultPlace, ar (ad 5) cA 20 gRhands, ar (ad 6) cA 20 gRslow, oST ad xST_sleeper xST_lastDue_3 xST_unreached, ar (ad 10) cA 640 gSTdue_3] → va_S A s.heap H locs → ∀ ls : Array Slot, lv_has ls 6 [(0, .ref (ad 9)), (1, .int v1_3), (2, .int v2_3), (3, .int v3_3), (4, .int v4_3)] → W p l e (headSpec wsX8_passOn ({ frames := 0, cells := 0, slots := 0, locals := 0 })).room s m ([.ref (ad 9), .int a1, .int a2, .int a3] : List Value).toArray below meth c H locs 0 0 QQ (F0 m 3 ls []) := by
    intro v1_3 v2_3 v3_3
    intro n_3
    induction n_3 with
    | zero => intro v4_3 xST_lastDue_3 gSTdue_3 hm; have hm : (none : Option (Int32 × (Nat → Int32))) = some u := hm; cases hm
    | succ n_3 ih_3 =>
      have b_121 : ∀ (v4_121 : Int32) (xST_lastDue_121 : Int32) (gSTdue_121 : Nat → Int32), fS_passOn_T_121 (fS_passOn_T_3  v1_3 v2_3 v3_3 xRow_people gRhands gRslow n_3) v1_3 v2_3 v3_3 v4_121 xRow_people gRhands gRslow xST_lastDue_121 gSTdue_121 = some u → ∀ (H : Heap) (locs : List Loc), va_P (dC, dI) vwCl [oRow ad xRow_depth xRow_length xRow_people xRow_scarves xRow_main xRow_faultPlace, ar (ad 5) cA 20 gRhands, ar (ad 6) cA 20 gRslow, oST ad xST_sleeper xST_lastDue_121 xST_unreached, ar (ad 10) cA 640 gSTdue_121] H → va_D A [oRow ad xRow_depth xRow_length xRow_people xRow_scarves xRow_main xRow_faultPlace, ar (ad 5) cA 20 gRhands, ar (ad 6) cA 20 gRslow, oST ad xST_sleeper xST_lastDue_121 xST_unreached, ar (ad 10) cA 640 gSTdue_121] → va_S A s.heap H locs → ∀ ls : Array Slot, lv_has ls 6 [(0, .ref (ad 9)), (1, .int v1_3), (2, .int v2_3), (3, .int v3_3), (4, .int v4_121)] → W p l e (headSpec wsX8_passOn ({ frames := 0, cells := 0, slots := 0, locals := 0 })).room s m ([.ref (ad 9), .int a1, .int a2, .int a3] : List Value).toArray below meth c H locs 0 0 QQ (F0 m 121 ls []) := by
        intro v4_121 xST_lastDue_121 gSTdue_121 hm H locs hP hD hS ls hl
        unfold fS_passOn_T_121 at hm
        refine lv_iinc (v := (v4_121 + 1)) (lv' := [(4, .int (v4_121 + 1)), (0, .ref (ad 9)), (1, .int v1_3), (2, .int v2_3), (3, .int v3_3)]) hx hb dX8_passOn_121 hl (k := 4) rfl rfl (by decide) rfl (fun ls hl => ?_)
        refine lv_goto (tgt := 3) hx hb dX8_passOn_124 (by decide) ?_
        exact ih_3 _ _ _ hm _ _ hP hD hS _ (lv_sub hl [1, 2, 3, 4, 0] rfl)
      have b_118 : ∀ (v4_118 : Int32) (s1_118 : Int32) (xST_lastDue_118 : Int32) (gSTdue_118 : Nat → Int32), fS_passOn_T_118 (fS_passOn_T_3  v1_3 v2_3 v3_3 xRow_people gRhands gRslow n_3) v1_3 v2_3 v3_3 v4_118 s1_118 xRow_people gRhands gRslow xST_lastDue_118 gSTdue_118 = some u → ∀ (H : Heap) (locs : List Loc), va_P (dC, dI) vwCl [oRow ad xRow_depth xRow_length xRow_people xRow_scarves xRow_main xRow_faultPlace, ar (ad 5) cA 20 gRhands, ar (ad 6) cA 20 gRslow, oST ad xST_sleeper xST_lastDue_118 xST_unreached, ar (ad 10) cA 640 gSTdue_118] H → va_D A [oRow ad xRow_depth xRow_length xRow_people xRow_scarves xRow_main xRow_faultPlace, ar (ad 5) cA 20 gRhands, ar (ad 6) cA 20 gRslow, oST ad xST_sleeper xST_lastDue_118 xST_unreached, ar (ad 10) cA 640 gSTdue_118] → va_S A s.heap H locs → ∀ ls : Array Slot, lv_has ls 6 [(0, .ref (ad 9)), (1, .int v1_3), (2, .int v2_3), (3, .int v3_3), (4, .int v4_118)] → W p l e (headSpec wsX8_passOn ({ frames := 0, cells := 0, slots := 0, locals := 0 })).room s m ([.ref (ad 9), .int a1, .int a2, .int a3] : List Value).toArray below meth c H locs 0 0 QQ (F0 m 118 ls [.int s1_118, .ref (ad 9)]) := by
        intro v4_118 s1_118 xST_lastDue_118 gSTdue_118 hm H locs hP hD hS ls hl
        unfold fS_passOn_T_118 at hm
        refine va_put (D := (dC, dI)) (ci := 8) (v := .int s1_118) (ty := .int) (C := RX8) (T := TX8) (N := 10) hx hb hts hinX8 tyX8 tyX8_ok nmX8 hown hK hP hD hS 3 rfl rfl 8 (by decide) hl_47 (fun _ h9 => h9) rfl (by decide +kernel) rfl rfl (Nat.le_of_ble_eq_true rfl) dX8_passOn_118 (fun H locs hP hD hS => ?_)
        have hP : va_P (dC, dI) vwCl [oRow ad xRow_depth xRow_length xRow_people xRow_scarves xRow_main xRow_faultPlace, ar (ad 5) cA 20 gRhands, ar (ad 6) cA 20 gRslow, oST ad xST_sleeper s1_118 xST_unreached, ar (ad 10) cA 640 gSTdue_118] H := hP
        have hD : va_D A [oRow ad xRow_depth xRow_length xRow_people xRow_scarves xRow_main xRow_faultPlace, ar (ad 5) cA 20 gRhands, ar (ad 6) cA 20 gRslow, oST ad xST_sleeper s1_118 xST_unreached, ar (ad 10) cA 640 gSTdue_118] := hD
        exact b_121 _ _ _ hm _ _ hP hD hS _ (lv_sub hl [0, 1, 2, 3, 4] rfl)
      have b_65 : ∀ (v4_65 : Int32) (s0_65 : Int32) (xST_lastDue_65 : Int32) (gSTdue_65 : Nat → Int32), fS_passOn_T_65 (fS_passOn_T_3  v1_3 v2_3 v3_3 xRow_people gRhands gRslow n_3) v1_3 v2_3 v3_3 v4_65 s0_65 xRow_people gRhands gRslow xST_lastDue_65 gSTdue_65 = some u → ∀ (H : Heap) (locs : List Loc), va_P (dC, dI) vwCl [oRow ad xRow_depth xRow_length xRow_people xRow_scarves xRow_main xRow_faultPlace, ar (ad 5) cA 20 gRhands, ar (ad 6) cA 20 gRslow, oST ad xST_sleeper xST_lastDue_65 xST_unreached, ar (ad 10) cA 640 gSTdue_65] H → va_D A [oRow ad xRow_depth xRow_length xRow_people xRow_scarves xRow_main xRow_faultPlace, ar (ad 5) cA 20 gRhands, ar (ad 6) cA 20 gRslow, oST ad xST_sleeper xST_lastDue_65 xST_unreached, ar (ad 10) cA 640 gSTdue_65] → va_S A s.heap H locs → ∀ ls : Array Slot, lv_has ls 6 [(0, .ref (ad 9)), (1, .int v1_3), (2, .int v2_3), (3, .int v3_3), (4, .int v4_65)] → W p l e (headSpec wsX8_passOn ({ frames := 0, cells := 0, slots := 0, locals := 0 })).room s m ([.ref (ad 9), .int a1, .int a2, .int a3] : List Value).toArray below meth c H locs 0 0 QQ (F0 m 65 ls [.int s0_65]) := by
        intro v4_65 s0_65 xST_lastDue_65 gSTdue_65 hm H locs hP hD hS ls hl
        unfold fS_passOn_T_65 at hm
        refine lv_istore (lv' := [(5, .int s0_65), (0, .ref (ad 9)), (1, .int v1_3), (2, .int v2_3), (3, .int v3_3), (4, .int v4_65)]) hx hb dX8_passOn_65 hl (by decide) rfl (fun ls hl => ?_)
        refine lv_iload hx hb dX8_passOn_67 (lv_at hl 0 rfl) ?_
        refine lv_sipush (v := 400) hx hb dX8_passOn_69 (by decide) ?_
        refine lv_icmp_gt (tgt := 121) hx hb dX8_passOn_72 (by decide) (fun c_1 => ?_) (fun c_1 => ?_)
        · have hm := it_pos c_1 hm
          exact b_121 _ _ _ hm _ _ hP hD hS _ (lv_sub hl [1, 2, 3, 4, 5] rfl)
        · have hm := it_neg c_1 hm
          refine lv_aload_n hx hb dX8_passOn_75 rfl (lv_at hl 1 rfl) ?_
          refine va_get (D := (dC, dI)) (ci := 8) (v := .ref (ad 10)) (C := RX8) (T := TX8) (N := 10) hx hb hts hinX8 hown hK hP 3 rfl rfl 2 (by decide) hl_19 (fun _ h9 => h9) rfl dX8_passOn_76 ?_
          refine lv_iload hx hb dX8_passOn_79 (lv_at hl 0 rfl) ?_
          refine lv_bipush (v := 32) hx hb dX8_passOn_81 (by decide) ?_
          refine lv_irem hx hb dX8_passOn_83 (by decide) ?_
          refine lv_bipush (v := 20) hx hb dX8_passOn_84 (by decide) ?_
          refine lv_imul hx hb dX8_passOn_86 ?_
          refine lv_iload hx hb dX8_passOn_87 (lv_at hl 5 rfl) ?_
          refine lv_iadd hx hb dX8_passOn_89 ?_
          refine lv_dup2_11 hx hb dX8_passOn_90 rfl rfl ?_
          obtain ⟨i_3, hm⟩ := ck_ok hm
          refine va_iald hx hb hK hP 4 0 rfl rfl i_3 dX8_passOn_91 ?_
          refine lv_iconst (v := 1) hx hb dX8_passOn_92 (by decide) ?_
          refine lv_iload_n hx hb dX8_passOn_93 rfl (lv_at hl 2 rfl) ?_
          refine lv_iconst (v := 2) hx hb dX8_passOn_94 (by decide) ?_
          refine lv_iadd hx hb dX8_passOn_95 ?_
          refine lv_ishl hx hb dX8_passOn_96 ?_
          refine lv_ior hx hb dX8_passOn_97 ?_
          obtain ⟨i_4, hm⟩ := ck_ok hm
          refine va_iast hx hb hK hP hD hS 4 0 rfl rfl i_4 dX8_passOn_98 (fun H locs hP hD hS => ?_)
          have hP : va_P (dC, dI) vwCl [oRow ad xRow_depth xRow_length xRow_people xRow_scarves xRow_main xRow_faultPlace, ar (ad 5) cA 20 gRhands, ar (ad 6) cA 20 gRslow, oST ad xST_sleeper xST_lastDue_65 xST_unreached, ar (ad 10) cA 640 (upd gSTdue_65 (((s0_65 - s0_65 / 32 * 32) * 20) + v4_65).toNatClampNeg ((gSTdue_65 (((s0_65 - s0_65 / 32 * 32) * 20) + v4_65).toNatClampNeg) ||| (1 <<< ((v1_3 + 2) &&& 31))))] H := hP
          have hD : va_D A [oRow ad xRow_depth xRow_length xRow_people xRow_scarves xRow_main xRow_faultPlace, ar (ad 5) cA 20 gRhands, ar (ad 6) cA 20 gRslow, oST ad xST_sleeper xST_lastDue_65 xST_unreached, ar (ad 10) cA 640 (upd gSTdue_65 (((s0_65 - s0_65 / 32 * 32) * 20) + v4_65).toNatClampNeg ((gSTdue_65 (((s0_65 - s0_65 / 32 * 32) * 20) + v4_65).toNatClampNeg) ||| (1 <<< ((v1_3 + 2) &&& 31))))] := hD
          refine lv_aload_n hx hb dX8_passOn_99 rfl (lv_at hl 1 rfl) ?_
          refine lv_iload hx hb dX8_passOn_100 (lv_at hl 0 rfl) ?_
          refine lv_aload_n hx hb dX8_passOn_102 rfl (lv_at hl 1 rfl) ?_
          refine va_get (D := (dC, dI)) (ci := 8) (v := .int xST_lastDue_65) (C := RX8) (T := TX8) (N := 10) hx hb hts hinX8 hown hK hP 3 rfl rfl 8 (by decide) hl_47 (fun _ h9 => h9) rfl dX8_passOn_103 ?_
          refine lv_icmp_le (tgt := 114) hx hb dX8_passOn_106 (by decide) (fun c_5 => ?_) (fun c_5 => ?_)
          · have hm := it_pos c_5 hm
            refine lv_aload_n hx hb dX8_passOn_114 rfl (lv_at hl 1 rfl) ?_
            refine va_get (D := (dC, dI)) (ci := 8) (v := .int xST_lastDue_65) (C := RX8) (T := TX8) (N := 10) hx hb hts hinX8 hown hK hP 3 rfl rfl 8 (by decide) hl_47 (fun _ h9 => h9) rfl dX8_passOn_115 ?_
            exact b_118 _ _ _ _ hm _ _ hP hD hS _ (lv_sub hl [1, 2, 3, 4, 5] rfl)
          · have hm := it_neg c_5 hm
            refine lv_iload hx hb dX8_passOn_109 (lv_at hl 0 rfl) ?_
            refine lv_goto (tgt := 118) hx hb dX8_passOn_111 (by decide) ?_
            exact b_118 _ _ _ _ hm _ _ hP hD hS _ (lv_sub hl [1, 2, 3, 4, 5] rfl)
      intro v4_3 xST_lastDue_3 gSTdue_3 hm H locs hP hD hS ls hl
      have hm : fS_passOn_T_3_b  (fS_passOn_T_3  v1_3 v2_3 v3_3 xRow_people gRhands gRslow n_3) v1_3 v2_3 v3_3 xRow_people gRhands gRslow v4_3 xST_lastDue_3 gSTdue_3 = some u := hm
      unfold fS_passOn_T_3_b at hm
      refine lv_iload hx hb dX8_passOn_3 (lv_at hl 4 rfl) ?_
      refine lv_aload_n hx hb dX8_passOn_5 rfl (lv_at hl 0 rfl) ?_
      refine va_get (D := (dC, dI)) (ci := 8) (v := .ref (ad 1)) (C := RX8) (T := TX8) (N := 10) hx hb hts hinX8 hown hK hP 3 rfl rfl 0 (by decide) hl_9 (fun _ h9 => h9) rfl dX8_passOn_6 ?_
      refine va_get (D := (dC, dI)) (ci := 5) (v := .int xRow_people) (C := RX5) (T := TX5) (N := 13) hx hb hts hinX5 hown hK hP 0 rfl rfl 9 (by decide) hl_42 (fun _ h9 => h9) rfl dX8_passOn_9 ?_
      refine lv_icmp_ge (tgt := 127) hx hb dX8_passOn_12 (by decide) (fun c_6 => ?_) (fun c_6 => ?_)
      · have hm := it_pos c_6 hm
        obtain rfl := Option.some.inj hm
        subst hQ
        exact W.vret hx hb hr (fun t ht hW => ⟨⟨(), rfl, trivial, by rw [ht]; exact hP, va_K.moved hW.alike hK, hAe ▸ hD⟩, hS.F ht⟩) hS.2.2 dX8_passOn_127
      · have hm := it_neg c_6 hm
        refine lv_iload hx hb dX8_passOn_15 (lv_at hl 4 rfl) ?_
        refine lv_iload_n hx hb dX8_passOn_17 rfl (lv_at hl 3 rfl) ?_
        refine lv_icmp_eq (tgt := 121) hx hb dX8_passOn_18 (by decide) (fun c_7 => ?_) (fun c_7 => ?_)
        · have hm := it_pos c_7 hm
          exact b_121 _ _ _ hm _ _ hP hD hS _ (lv_sub hl [0, 1, 2, 3, 4] rfl)
        · have hm := it_neg c_7 hm
          refine lv_aload_n hx hb dX8_passOn_21 rfl (lv_at hl 0 rfl) ?_
          refine va_get (D := (dC, dI)) (ci := 8) (v := .ref (ad 1)) (C := RX8) (T := TX8) (N := 10) hx hb hts hinX8 hown hK hP 3 rfl rfl 0 (by decide) hl_9 (fun _ h9 => h9) rfl dX8_passOn_22 ?_
          refine va_get (D := (dC, dI)) (ci := 5) (v := .ref (ad 5)) (C := RX5) (T := TX5) (N := 13) hx hb hts hinX5 hown hK hP 0 rfl rfl 3 (by decide) hl_89 (fun _ h9 => h9) rfl dX8_passOn_25 ?_
          refine lv_iload_n hx hb dX8_passOn_28 rfl (lv_at hl 1 rfl) ?_
          obtain ⟨i_8, hm⟩ := ck_ok hm
          refine va_iald hx hb hK hP 1 0 rfl rfl i_8 dX8_passOn_29 ?_
          refine lv_iload hx hb dX8_passOn_30 (lv_at hl 4 rfl) ?_
          refine lv_ishr hx hb dX8_passOn_32 ?_
          refine lv_iconst (v := 1) hx hb dX8_passOn_33 (by decide) ?_
          refine lv_iand hx hb dX8_passOn_34 ?_
          refine lv_if_ne (tgt := 41) hx hb dX8_passOn_35 (by decide) (fun c_9 => ?_) (fun c_9 => ?_)
          · have hm := it_neg c_9 hm
            refine lv_aload_n hx hb dX8_passOn_41 rfl (lv_at hl 0 rfl) ?_
            refine va_get (D := (dC, dI)) (ci := 8) (v := .ref (ad 1)) (C := RX8) (T := TX8) (N := 10) hx hb hts hinX8 hown hK hP 3 rfl rfl 0 (by decide) hl_9 (fun _ h9 => h9) rfl dX8_passOn_42 ?_
            refine va_get (D := (dC, dI)) (ci := 5) (v := .ref (ad 6)) (C := RX5) (T := TX5) (N := 13) hx hb hts hinX5 hown hK hP 0 rfl rfl 4 (by decide) hl_92 (fun _ h9 => h9) rfl dX8_passOn_45 ?_
            refine lv_iload_n hx hb dX8_passOn_48 rfl (lv_at hl 1 rfl) ?_
            obtain ⟨i_10, hm⟩ := ck_ok hm
            refine va_iald hx hb hK hP 2 0 rfl rfl i_10 dX8_passOn_49 ?_
            refine lv_iload hx hb dX8_passOn_50 (lv_at hl 4 rfl) ?_
            refine lv_ishr hx hb dX8_passOn_52 ?_
            refine lv_iconst (v := 1) hx hb dX8_passOn_53 (by decide) ?_
            refine lv_iand hx hb dX8_passOn_54 ?_
            refine lv_if_ne (tgt := 62) hx hb dX8_passOn_55 (by decide) (fun c_11 => ?_) (fun c_11 => ?_)
            · have hm := it_neg c_11 hm
              refine lv_iload_n hx hb dX8_passOn_62 rfl (lv_at hl 2 rfl) ?_
              refine lv_iconst (v := 3) hx hb dX8_passOn_63 (by decide) ?_
              refine lv_iadd hx hb dX8_passOn_64 ?_
              exact b_65 _ _ _ _ hm _ _ hP hD hS _ (lv_sub hl [0, 1, 2, 3, 4] rfl)
            · have hm := it_pos c_11 hm
              refine lv_iload_n hx hb dX8_passOn_58 rfl (lv_at hl 2 rfl) ?_
              refine lv_goto (tgt := 65) hx hb dX8_passOn_59 (by decide) ?_
              exact b_65 _ _ _ _ hm _ _ hP hD hS _ (lv_sub hl [0, 1, 2, 3, 4] rfl)
          · have hm := it_pos c_9 hm
            refine lv_goto (tgt := 121) hx hb dX8_passOn_38 (by decide) ?_
            exact b_121 _ _ _ hm _ _ hP hD hS _ (lv_sub hl [0, 1, 2, 3, 4] rfl)
  unfold fS_passOn_T at hm
  refine lv_iconst (v := 0) hx hb dX8_passOn_0 (by decide) ?_
  refine lv_istore (lv' := [(4, .int 0), (0, .ref (ad 9)), (1, .int a1), (2, .int a2), (3, .int a3)]) hx hb dX8_passOn_1 hl (by decide) rfl (fun ls hl => ?_)
  exact h_3 _ _ _ _ _ _ _ hm _ _ hP hD hS _ (lv_sub hl [1, 2, 3, 4, 0] rfl)

set_option maxHeartbeats 4000000 in
set_option maxRecDepth 100000 in
theorem kS_feelOne_T (l : Launch) (dC : Nat → ClassId) (dI : Nat → Nat → Nat) (cA : ClassId) (ad : Nat → Nat) (qe : Nat) (sz : Nat) (a1 : Int32) (a2 : Int32) (a3 : Int32) (xRow_depth : Int32) (xRow_length : Int32) (xRow_people : Int32) (xRow_scarves : Int32) (xRow_main : Int32) (xRow_faultPlace : Int32) (gRkinds : Nat → Int32) (gRlates : Nat → Int32) (gRhands : Nat → Int32) (gRslow : Nat → Int32) (xST_sleeper : Int32) (xST_lastDue : Int32) (xST_unreached : Int32) (gSTdue : Nat → Int32) (gSTbusy : Nat → Int32) (gSTfelt : Nat → Int32) (gSTlost : Nat → Int32) (gSTfirst : Nat → Int32) (xDia_size : Int32) (ne : Nat) (gDent : Nat → Int32) (u : Int32 × Int32 × (Nat → Int32) × (Nat → Int32) × (Nat → Int32) × (Nat → Int32) × (Nat → Int32) × Int32 × (Nat → Int32)) (hm : fS_feelOne_T a1 a2 a3 xRow_people gRkinds gRlates gRhands gRslow xST_sleeper xST_lastDue xST_unreached gSTdue gSTbusy gSTfelt gSTlost gSTfirst xDia_size ne gDent = some u) : Met l yX8_feelOne wsX8_feelOne ({ frames := 1, cells := 0, slots := 0, locals := 25 }) (va_Pc [.ref (ad 9), .int a1, .int a2, .int a3] (fun U => U.heap.size = sz ∧ va_P (dC, dI) vwCl [oRow ad xRow_depth xRow_length xRow_people xRow_scarves xRow_main xRow_faultPlace, ar (ad 3) cA 20 gRkinds, ar (ad 4) cA 20 gRlates, ar (ad 5) cA 20 gRhands, ar (ad 6) cA 20 gRslow, oST ad xST_sleeper xST_lastDue xST_unreached, ar (ad 10) cA 640 gSTdue, ar (ad 11) cA 20 gSTbusy, ar (ad 12) cA 20 gSTfelt, ar (ad 13) cA 20 gSTlost, ar (ad 14) cA 20 gSTfirst, oDia ad qe xDia_size, ar qe cA ne gDent] U.heap ∧ va_K (dC, dI) vwCl [(cA, .int)] U ∧ va_D (fun _ => True) [oRow ad xRow_depth xRow_length xRow_people xRow_scarves xRow_main xRow_faultPlace, ar (ad 3) cA 20 gRkinds, ar (ad 4) cA 20 gRlates, ar (ad 5) cA 20 gRhands, ar (ad 6) cA 20 gRslow, oST ad xST_sleeper xST_lastDue xST_unreached, ar (ad 10) cA 640 gSTdue, ar (ad 11) cA 20 gSTbusy, ar (ad 12) cA 20 gSTfelt, ar (ad 13) cA 20 gSTlost, ar (ad 14) cA 20 gSTfirst, oDia ad qe xDia_size, ar qe cA ne gDent])) (va_Qv (fun (_ : Unit) => True) (fun (_ : Unit) t => va_P (dC, dI) vwCl [oRow ad xRow_depth xRow_length xRow_people xRow_scarves xRow_main xRow_faultPlace, ar (ad 3) cA 20 gRkinds, ar (ad 4) cA 20 gRlates, ar (ad 5) cA 20 gRhands, ar (ad 6) cA 20 gRslow, oST ad xST_sleeper u.1 u.2.1, ar (ad 10) cA 640 u.2.2.1, ar (ad 11) cA 20 u.2.2.2.1, ar (ad 12) cA 20 u.2.2.2.2.1, ar (ad 13) cA 20 u.2.2.2.2.2.1, ar (ad 14) cA 20 u.2.2.2.2.2.2.1, oDia ad qe u.2.2.2.2.2.2.2.1, ar qe cA ne u.2.2.2.2.2.2.2.2] t.heap ∧ va_K (dC, dI) vwCl [(cA, .int)] t ∧ va_D (va_A [oRow ad xRow_depth xRow_length xRow_people xRow_scarves xRow_main xRow_faultPlace, ar (ad 3) cA 20 gRkinds, ar (ad 4) cA 20 gRlates, ar (ad 5) cA 20 gRhands, ar (ad 6) cA 20 gRslow, oST ad xST_sleeper xST_lastDue xST_unreached, ar (ad 10) cA 640 gSTdue, ar (ad 11) cA 20 gSTbusy, ar (ad 12) cA 20 gSTfelt, ar (ad 13) cA 20 gSTlost, ar (ad 14) cA 20 gSTfirst, oDia ad qe xDia_size, ar qe cA ne gDent] sz) [oRow ad xRow_depth xRow_length xRow_people xRow_scarves xRow_main xRow_faultPlace, ar (ad 3) cA 20 gRkinds, ar (ad 4) cA 20 gRlates, ar (ad 5) cA 20 gRhands, ar (ad 6) cA 20 gRslow, oST ad xST_sleeper u.1 u.2.1, ar (ad 10) cA 640 u.2.2.1, ar (ad 11) cA 20 u.2.2.2.1, ar (ad 12) cA 20 u.2.2.2.2.1, ar (ad 13) cA 20 u.2.2.2.2.2.1, ar (ad 14) cA 20 u.2.2.2.2.2.2.1, oDia ad qe u.2.2.2.2.2.2.2.1, ar qe cA ne u.2.2.2.2.2.2.2.2]) (va_A [oRow ad xRow_depth xRow_length xRow_people xRow_scarves xRow_main xRow_faultPlace, ar (ad 3) cA 20 gRkinds, ar (ad 4) cA 20 gRlates, ar (ad 5) cA 20 gRhands, ar (ad 6) cA 20 gRslow, oST ad xST_sleeper xST_lastDue xST_unreached, ar (ad 10) cA 640 gSTdue, ar (ad 11) cA 20 gSTbusy, ar (ad 12) cA 20 gSTfelt, ar (ad 13) cA 20 gSTlost, ar (ad 14) cA 20 gSTfirst, oDia ad qe xDia_size, ar qe cA ne gDent] sz)) 0 0 (va_A [oRow ad xRow_depth xRow_length xRow_people xRow_scarves xRow_main xRow_faultPlace, ar (ad 3) cA 20 gRkinds, ar (ad 4) cA 20 gRlates, ar (ad 5) cA 20 gRhands, ar (ad 6) cA 20 gRslow, oST ad xST_sleeper xST_lastDue xST_unreached, ar (ad 10) cA 640 gSTdue, ar (ad 11) cA 20 gSTbusy, ar (ad 12) cA 20 gSTfelt, ar (ad 13) cA 20 gSTlost, ar (ad 14) cA 20 gSTfirst, oDia ad qe xDia_size, ar qe cA ne gDent] sz) := by
  refine Met.ofW (cc := cX8_feelOne) (maxL := 7) (ret := none) (by decide) rfl ?_
  intro p e s m args below meth c s₁ B hml hv
  obtain ⟨rfl, hsz, hP, hK, hD0⟩ := hv
  have hx := B.exec
  have hb := B.bytes
  have hr := B.returns
  have hts := atoms_spec (ws := wsX8_feelOne) B.pre
  have hown : s.vm.findClass RX8 = some m.cls := findClass_of_methodNamed B.named
  have hlocks := B.notSynchronized
  subst hsz
  have hD := hD0.self (sz := s.heap.size)
  generalize hAe : va_A [oRow ad xRow_depth xRow_length xRow_people xRow_scarves xRow_main xRow_faultPlace, ar (ad 3) cA 20 gRkinds, ar (ad 4) cA 20 gRlates, ar (ad 5) cA 20 gRhands, ar (ad 6) cA 20 gRslow, oST ad xST_sleeper xST_lastDue xST_unreached, ar (ad 10) cA 640 gSTdue, ar (ad 11) cA 20 gSTbusy, ar (ad 12) cA 20 gSTfelt, ar (ad 13) cA 20 gSTlost, ar (ad 14) cA 20 gSTfirst, oDia ad qe xDia_size, ar qe cA ne gDent] s.heap.size = A at hD ⊢
  have hA : ∀ q : Nat, s.heap.size ≤ q → A q := fun q h => by rw [← hAe]; exact Or.inr h
  have hS : va_S A s.heap s.heap [] := va_S.rf
  have hl := lv_entry ([.ref (ad 9), .int a1, .int a2, .int a3]) (n := 7) (Nat.le_of_ble_eq_true rfl)
  rw [lg_entry_eq]
  generalize (lg_sl ([.ref (ad 9), .int a1, .int a2, .int a3]) ++ List.replicate (7 - (lg_sl ([.ref (ad 9), .int a1, .int a2, .int a3])).length) Slot.unset).toArray = ls at hl ⊢
  have hl : lv_has ls 7 [(0, .ref (ad 9)), (1, .int a1), (2, .int a2), (3, .int a3)] := hl
  refine wk_Q (fun QQ hQ => ?_)
  have hinX8 : ∀ w ∈ wsX80, w ∈ wsX8_feelOne := fun w h => List.mem_cons_of_mem _ (inlX8 w h)
  have hl_9 := hts (.fieldLink RX8 9 "HandCensus$Squeeze" "row" "LHandCensus$Row;") (List.mem_cons_of_mem _ (in_r4 _ (List.mem_of_getElem? (i := 2) rfl)))
  have hinX5 : ∀ w ∈ wsX50, w ∈ wsX8_feelOne := fun w h => List.mem_cons_of_mem _ (inlX5 w h)
  have hl_83 := hts (.fieldLink RX8 83 "HandCensus$Row" "lates" "[I") (List.mem_cons_of_mem _ (in_r16 _ (List.mem_of_getElem? (i := 15) rfl)))
  have hl_23 := hts (.fieldLink RX8 23 "HandCensus$Squeeze" "busyUpTo" "[I") (List.mem_cons_of_mem _ (in_r4 _ (List.mem_of_getElem? (i := 5) rfl)))
  have hl_26 := hts (.fieldLink RX8 26 "HandCensus$Squeeze" "feltMany" "[I") (List.mem_cons_of_mem _ (in_r4 _ (List.mem_of_getElem? (i := 6) rfl)))
  have hl_38 := hts (.fieldLink RX8 38 "HandCensus$Squeeze" "sleeper" "I") (List.mem_cons_of_mem _ (in_r14 _ (List.mem_of_getElem? (i := 18) rfl)))
  have hl_80 := hts (.fieldLink RX8 80 "HandCensus$Row" "kinds" "[I") (List.mem_cons_of_mem _ (in_r16 _ (List.mem_of_getElem? (i := 14) rfl)))
  have hl_32 := hts (.fieldLink RX8 32 "HandCensus$Squeeze" "firstAt" "[I") (List.mem_cons_of_mem _ (in_r4 _ (List.mem_of_getElem? (i := 8) rfl)))
  have hl_50 := hts (.fieldLink RX8 50 "HandCensus$Squeeze" "unreached" "I") (List.mem_cons_of_mem _ (in_r14 _ (List.mem_of_getElem? (i := 21) rfl)))
  have hl_29 := hts (.fieldLink RX8 29 "HandCensus$Squeeze" "lostMany" "[I") (List.mem_cons_of_mem _ (in_r4 _ (List.mem_of_getElem? (i := 7) rfl)))
  have hl_15 := hts (.fieldLink RX8 15 "HandCensus$Squeeze" "diary" "LHandCensus$Diary;") (List.mem_cons_of_mem _ (in_r4 _ (List.mem_of_getElem? (i := 3) rfl)))
  have b_145 : ∀ (v1_145 : Int32) (v2_145 : Int32) (v3_145 : Int32) (v5_145 : Int32) (xST_lastDue_145 : Int32) (xST_unreached_145 : Int32) (gSTdue_145 : Nat → Int32) (gSTbusy_145 : Nat → Int32) (gSTfelt_145 : Nat → Int32) (gSTlost_145 : Nat → Int32) (gSTfirst_145 : Nat → Int32) (xDia_size_145 : Int32) (gDent_145 : Nat → Int32), fS_feelOne_T_145 v1_145 v2_145 v3_145 v5_145 xRow_people gRlates gRhands gRslow xST_lastDue_145 xST_unreached_145 gSTdue_145 gSTbusy_145 gSTfelt_145 gSTlost_145 gSTfirst_145 xDia_size_145 gDent_145 = some u → ∀ (H : Heap) (locs : List Loc), va_P (dC, dI) vwCl [oRow ad xRow_depth xRow_length xRow_people xRow_scarves xRow_main xRow_faultPlace, ar (ad 3) cA 20 gRkinds, ar (ad 4) cA 20 gRlates, ar (ad 5) cA 20 gRhands, ar (ad 6) cA 20 gRslow, oST ad xST_sleeper xST_lastDue_145 xST_unreached_145, ar (ad 10) cA 640 gSTdue_145, ar (ad 11) cA 20 gSTbusy_145, ar (ad 12) cA 20 gSTfelt_145, ar (ad 13) cA 20 gSTlost_145, ar (ad 14) cA 20 gSTfirst_145, oDia ad qe xDia_size_145, ar qe cA ne gDent_145] H → va_D A [oRow ad xRow_depth xRow_length xRow_people xRow_scarves xRow_main xRow_faultPlace, ar (ad 3) cA 20 gRkinds, ar (ad 4) cA 20 gRlates, ar (ad 5) cA 20 gRhands, ar (ad 6) cA 20 gRslow, oST ad xST_sleeper xST_lastDue_145 xST_unreached_145, ar (ad 10) cA 640 gSTdue_145, ar (ad 11) cA 20 gSTbusy_145, ar (ad 12) cA 20 gSTfelt_145, ar (ad 13) cA 20 gSTlost_145, ar (ad 14) cA 20 gSTfirst_145, oDia ad qe xDia_size_145, ar qe cA ne gDent_145] → va_S A s.heap H locs → ∀ ls : Array Slot, lv_has ls 7 [(0, .ref (ad 9)), (1, .int v1_145), (2, .int v2_145), (3, .int v3_145), (5, .int v5_145)] → W p l e (headSpec wsX8_feelOne ({ frames := 1, cells := 0, slots := 0, locals := 25 })).room s m ([.ref (ad 9), .int a1, .int a2, .int a3] : List Value).toArray below meth c H locs 0 0 QQ (F0 m 145 ls []) := by
    intro v1_145 v2_145 v3_145 v5_145 xST_lastDue_145 xST_unreached_145 gSTdue_145 gSTbusy_145 gSTfelt_145 gSTlost_145 gSTfirst_145 xDia_size_145 gDent_145 hm H locs hP hD hS ls hl
    unfold fS_feelOne_T_145 at hm
    refine lv_aload_n hx hb dX8_feelOne_145 rfl (lv_at hl 0 rfl) ?_
    refine va_get (D := (dC, dI)) (ci := 8) (v := .ref (ad 1)) (C := RX8) (T := TX8) (N := 10) hx hb hts hinX8 hown hK hP 5 rfl rfl 0 (by decide) hl_9 (fun _ h9 => h9) rfl dX8_feelOne_146 ?_
    refine va_get (D := (dC, dI)) (ci := 5) (v := .ref (ad 4)) (C := RX5) (T := TX5) (N := 13) hx hb hts hinX5 hown hK hP 0 rfl rfl 2 (by decide) hl_83 (fun _ h9 => h9) rfl dX8_feelOne_149 ?_
    refine lv_iload_n hx hb dX8_feelOne_152 rfl (lv_at hl 1 rfl) ?_
    obtain ⟨i_1, hm⟩ := ck_ok hm
    refine va_iald hx hb hK hP 2 0 rfl rfl i_1 dX8_feelOne_153 ?_
    refine lv_istore (lv' := [(6, .int (gRlates v1_145.toNatClampNeg)), (0, .ref (ad 9)), (1, .int v1_145), (2, .int v2_145), (3, .int v3_145), (5, .int v5_145)]) hx hb dX8_feelOne_154 hl (by decide) rfl (fun ls hl => ?_)
    refine lv_aload_n hx hb dX8_feelOne_156 rfl (lv_at hl 1 rfl) ?_
    refine lv_iload_n hx hb dX8_feelOne_157 rfl (lv_at hl 2 rfl) ?_
    refine lv_iload_n hx hb dX8_feelOne_158 rfl (lv_at hl 3 rfl) ?_
    refine lv_iload hx hb dX8_feelOne_159 (lv_at hl 0 rfl) ?_
    refine lv_iadd hx hb dX8_feelOne_161 ?_
    refine lv_iload_n hx hb dX8_feelOne_162 rfl (lv_at hl 4 rfl) ?_
    have hPc := hP.sub (ws' := [oRow ad xRow_depth xRow_length xRow_people xRow_scarves xRow_main xRow_faultPlace, ar (ad 5) cA 20 gRhands, ar (ad 6) cA 20 gRslow, oST ad xST_sleeper xST_lastDue_145 xST_unreached_145, ar (ad 10) cA 640 gSTdue_145]) [0, 3, 4, 5, 6] rfl
    have hDc := hD.sub (ws' := [oRow ad xRow_depth xRow_length xRow_people xRow_scarves xRow_main xRow_faultPlace, ar (ad 5) cA 20 gRhands, ar (ad 6) cA 20 gRslow, oST ad xST_sleeper xST_lastDue_145 xST_unreached_145, ar (ad 10) cA 640 gSTdue_145]) [0, 3, 4, 5, 6] (by decide) rfl
    have hFc := va_free (wc := [oRow ad xRow_depth xRow_length xRow_people xRow_scarves xRow_main xRow_faultPlace, ar (ad 5) cA 20 gRhands, ar (ad 6) cA 20 gRslow, oST ad xST_sleeper xST_lastDue_145 xST_unreached_145, ar (ad 10) cA 640 gSTdue_145]) hD hS hA [0, 3, 4, 5, 6] rfl
    obtain ⟨u_2, hc_2, hm⟩ := bd_ok hm
    refine va_callv (va_runV (As := [.int v1_145, .int (v2_145 + (gRlates v1_145.toNatClampNeg)), .int v3_145]) (rest := []) ⟨hx, hb, hml, hown, hts⟩ (kS_passOn_T l dC dI cA ad H.size v1_145 (v2_145 + (gRlates v1_145.toNatClampNeg)) v3_145 xRow_depth xRow_length xRow_people xRow_scarves xRow_main xRow_faultPlace gRhands gRslow xST_sleeper xST_lastDue_145 xST_unreached_145 gSTdue_145 u_2 hc_2) (cwV 3 hts gX8_feelOne_X8_passOn rfl rfl rfl (by decide +kernel) ⟨Nat.le_of_ble_eq_true rfl, Nat.le_of_ble_eq_true rfl⟩) ⟨fun a U g mk q => by obtain ⟨q0, q1, qP, qK, qD⟩ := q; exact ⟨q0, q1, qP, va_K.moved (u := U) (U := U.calling g mk a) (Vm.Alike.refl U.vm) qK, qD⟩, va_recv hK hPc (ci := 8) (q0 := 3) rfl rfl, fun U hU hW => ⟨rfl, by rw [hU], by rw [hU]; exact hPc, va_K.moved hW.alike hK, hDc.weaken (fun _ _ _ _ => trivial)⟩⟩ rfl rfl hl.1 rfl (lv_room (Nat.le_of_ble_eq_true rfl)) dX8_feelOne_163 ⟨Nat.le_of_ble_eq_true rfl, Nat.le_of_ble_eq_true rfl⟩) hS (fun q _ h => hFc q h) hFc (fun _ t H1 locs ht hvm hw hB hz1 hk1 hS => ?_)
    obtain ⟨hP1, hK1, hD1⟩ := hB
    rw [ht] at hP1
    obtain ⟨hP, hD⟩ := va_join (wr := [ar (ad 3) cA 20 gRkinds, ar (ad 4) cA 20 gRlates, ar (ad 11) cA 20 gSTbusy_145, ar (ad 12) cA 20 gSTfelt_145, ar (ad 13) cA 20 gSTlost_145, ar (ad 14) cA 20 gSTfirst_145, oDia ad qe xDia_size_145, ar qe cA ne gDent_145]) (w1 := [oRow ad xRow_depth xRow_length xRow_people xRow_scarves xRow_main xRow_faultPlace, ar (ad 5) cA 20 gRhands, ar (ad 6) cA 20 gRslow, oST ad xST_sleeper u_2.1 xST_unreached_145, ar (ad 10) cA 640 u_2.2]) hP hD [0, 3, 4, 5, 6] [1, 2, 7, 8, 9, 10, 11, 12] rfl rfl (by decide) (by decide) hk1 hFc hP1 hD1
    clear hPc hDc hFc hP1 hK1 hD1 hk1 hz1 hvm ht
    generalize H1 = H at hP hS ⊢
    have hP : va_P (dC, dI) vwCl [oRow ad xRow_depth xRow_length xRow_people xRow_scarves xRow_main xRow_faultPlace, ar (ad 3) cA 20 gRkinds, ar (ad 4) cA 20 gRlates, ar (ad 5) cA 20 gRhands, ar (ad 6) cA 20 gRslow, oST ad xST_sleeper u_2.1 xST_unreached_145, ar (ad 10) cA 640 u_2.2, ar (ad 11) cA 20 gSTbusy_145, ar (ad 12) cA 20 gSTfelt_145, ar (ad 13) cA 20 gSTlost_145, ar (ad 14) cA 20 gSTfirst_145, oDia ad qe xDia_size_145, ar qe cA ne gDent_145] H := hP.sub [8, 0, 1, 9, 10, 11, 12, 2, 3, 4, 5, 6, 7] rfl
    have hD : va_D A [oRow ad xRow_depth xRow_length xRow_people xRow_scarves xRow_main xRow_faultPlace, ar (ad 3) cA 20 gRkinds, ar (ad 4) cA 20 gRlates, ar (ad 5) cA 20 gRhands, ar (ad 6) cA 20 gRslow, oST ad xST_sleeper u_2.1 xST_unreached_145, ar (ad 10) cA 640 u_2.2, ar (ad 11) cA 20 gSTbusy_145, ar (ad 12) cA 20 gSTfelt_145, ar (ad 13) cA 20 gSTlost_145, ar (ad 14) cA 20 gSTfirst_145, oDia ad qe xDia_size_145, ar qe cA ne gDent_145] := hD.sub [8, 0, 1, 9, 10, 11, 12, 2, 3, 4, 5, 6, 7] (by decide) rfl
    refine lv_aload_n hx hb dX8_feelOne_166 rfl (lv_at hl 1 rfl) ?_
    refine va_get (D := (dC, dI)) (ci := 8) (v := .ref (ad 11)) (C := RX8) (T := TX8) (N := 10) hx hb hts hinX8 hown hK hP 5 rfl rfl 3 (by decide) hl_23 (fun _ h9 => h9) rfl dX8_feelOne_167 ?_
    refine lv_iload_n hx hb dX8_feelOne_170 rfl (lv_at hl 2 rfl) ?_
    refine lv_iload_n hx hb dX8_feelOne_171 rfl (lv_at hl 3 rfl) ?_
    refine lv_iload hx hb dX8_feelOne_172 (lv_at hl 0 rfl) ?_
    refine lv_iadd hx hb dX8_feelOne_174 ?_
    obtain ⟨i_3, hm⟩ := ck_ok hm
    refine va_iast hx hb hK hP hD hS 7 0 rfl rfl i_3 dX8_feelOne_175 (fun H locs hP hD hS => ?_)
    have hP : va_P (dC, dI) vwCl [oRow ad xRow_depth xRow_length xRow_people xRow_scarves xRow_main xRow_faultPlace, ar (ad 3) cA 20 gRkinds, ar (ad 4) cA 20 gRlates, ar (ad 5) cA 20 gRhands, ar (ad 6) cA 20 gRslow, oST ad xST_sleeper u_2.1 xST_unreached_145, ar (ad 10) cA 640 u_2.2, ar (ad 11) cA 20 (upd gSTbusy_145 v1_145.toNatClampNeg (v2_145 + (gRlates v1_145.toNatClampNeg))), ar (ad 12) cA 20 gSTfelt_145, ar (ad 13) cA 20 gSTlost_145, ar (ad 14) cA 20 gSTfirst_145, oDia ad qe xDia_size_145, ar qe cA ne gDent_145] H := hP
    have hD : va_D A [oRow ad xRow_depth xRow_length xRow_people xRow_scarves xRow_main xRow_faultPlace, ar (ad 3) cA 20 gRkinds, ar (ad 4) cA 20 gRlates, ar (ad 5) cA 20 gRhands, ar (ad 6) cA 20 gRslow, oST ad xST_sleeper u_2.1 xST_unreached_145, ar (ad 10) cA 640 u_2.2, ar (ad 11) cA 20 (upd gSTbusy_145 v1_145.toNatClampNeg (v2_145 + (gRlates v1_145.toNatClampNeg))), ar (ad 12) cA 20 gSTfelt_145, ar (ad 13) cA 20 gSTlost_145, ar (ad 14) cA 20 gSTfirst_145, oDia ad qe xDia_size_145, ar qe cA ne gDent_145] := hD
    refine lv_iload hx hb dX8_feelOne_176 (lv_at hl 5 rfl) ?_
    refine lv_iconst (v := 1) hx hb dX8_feelOne_178 (by decide) ?_
    refine lv_icmp_ne (tgt := 206) hx hb dX8_feelOne_179 (by decide) (fun c_4 => ?_) (fun c_4 => ?_)
    · have hm := it_neg c_4 hm
      obtain rfl := Option.some.inj hm
      subst hQ
      exact W.vret hx hb hr (fun t ht hW => ⟨⟨(), rfl, trivial, by rw [ht]; exact hP, va_K.moved hW.alike hK, hAe ▸ hD⟩, hS.F ht⟩) hS.2.2 dX8_feelOne_206
    · have hm := it_pos c_4 hm
      refine lv_aload_n hx hb dX8_feelOne_182 rfl (lv_at hl 1 rfl) ?_
      refine lv_iload_n hx hb dX8_feelOne_183 rfl (lv_at hl 2 rfl) ?_
      refine lv_iload_n hx hb dX8_feelOne_184 rfl (lv_at hl 3 rfl) ?_
      refine lv_iconst (v := 2) hx hb dX8_feelOne_185 (by decide) ?_
      refine lv_iload hx hb dX8_feelOne_186 (lv_at hl 0 rfl) ?_
      refine lv_imul hx hb dX8_feelOne_188 ?_
      refine lv_iadd hx hb dX8_feelOne_189 ?_
      refine lv_iload_n hx hb dX8_feelOne_190 rfl (lv_at hl 4 rfl) ?_
      have hPc := hP.sub (ws' := [oRow ad xRow_depth xRow_length xRow_people xRow_scarves xRow_main xRow_faultPlace, ar (ad 5) cA 20 gRhands, ar (ad 6) cA 20 gRslow, oST ad xST_sleeper u_2.1 xST_unreached_145, ar (ad 10) cA 640 u_2.2]) [0, 3, 4, 5, 6] rfl
      have hDc := hD.sub (ws' := [oRow ad xRow_depth xRow_length xRow_people xRow_scarves xRow_main xRow_faultPlace, ar (ad 5) cA 20 gRhands, ar (ad 6) cA 20 gRslow, oST ad xST_sleeper u_2.1 xST_unreached_145, ar (ad 10) cA 640 u_2.2]) [0, 3, 4, 5, 6] (by decide) rfl
      have hFc := va_free (wc := [oRow ad xRow_depth xRow_length xRow_people xRow_scarves xRow_main xRow_faultPlace, ar (ad 5) cA 20 gRhands, ar (ad 6) cA 20 gRslow, oST ad xST_sleeper u_2.1 xST_unreached_145, ar (ad 10) cA 640 u_2.2]) hD hS hA [0, 3, 4, 5, 6] rfl
      obtain ⟨u_5, hc_5, hm⟩ := bd_ok hm
      refine va_callv (va_runV (As := [.int v1_145, .int (v2_145 + (2 * (gRlates v1_145.toNatClampNeg))), .int v3_145]) (rest := []) ⟨hx, hb, hml, hown, hts⟩ (kS_passOn_T l dC dI cA ad H.size v1_145 (v2_145 + (2 * (gRlates v1_145.toNatClampNeg))) v3_145 xRow_depth xRow_length xRow_people xRow_scarves xRow_main xRow_faultPlace gRhands gRslow xST_sleeper u_2.1 xST_unreached_145 u_2.2 u_5 hc_5) (cwV 3 hts gX8_feelOne_X8_passOn rfl rfl rfl (by decide +kernel) ⟨Nat.le_of_ble_eq_true rfl, Nat.le_of_ble_eq_true rfl⟩) ⟨fun a U g mk q => by obtain ⟨q0, q1, qP, qK, qD⟩ := q; exact ⟨q0, q1, qP, va_K.moved (u := U) (U := U.calling g mk a) (Vm.Alike.refl U.vm) qK, qD⟩, va_recv hK hPc (ci := 8) (q0 := 3) rfl rfl, fun U hU hW => ⟨rfl, by rw [hU], by rw [hU]; exact hPc, va_K.moved hW.alike hK, hDc.weaken (fun _ _ _ _ => trivial)⟩⟩ rfl rfl hl.1 rfl (lv_room (Nat.le_of_ble_eq_true rfl)) dX8_feelOne_191 ⟨Nat.le_of_ble_eq_true rfl, Nat.le_of_ble_eq_true rfl⟩) hS (fun q _ h => hFc q h) hFc (fun _ t H1 locs ht hvm hw hB hz1 hk1 hS => ?_)
      obtain ⟨hP1, hK1, hD1⟩ := hB
      rw [ht] at hP1
      obtain ⟨hP, hD⟩ := va_join (wr := [ar (ad 3) cA 20 gRkinds, ar (ad 4) cA 20 gRlates, ar (ad 11) cA 20 (upd gSTbusy_145 v1_145.toNatClampNeg (v2_145 + (gRlates v1_145.toNatClampNeg))), ar (ad 12) cA 20 gSTfelt_145, ar (ad 13) cA 20 gSTlost_145, ar (ad 14) cA 20 gSTfirst_145, oDia ad qe xDia_size_145, ar qe cA ne gDent_145]) (w1 := [oRow ad xRow_depth xRow_length xRow_people xRow_scarves xRow_main xRow_faultPlace, ar (ad 5) cA 20 gRhands, ar (ad 6) cA 20 gRslow, oST ad xST_sleeper u_5.1 xST_unreached_145, ar (ad 10) cA 640 u_5.2]) hP hD [0, 3, 4, 5, 6] [1, 2, 7, 8, 9, 10, 11, 12] rfl rfl (by decide) (by decide) hk1 hFc hP1 hD1
      clear hPc hDc hFc hP1 hK1 hD1 hk1 hz1 hvm ht
      generalize H1 = H at hP hS ⊢
      have hP : va_P (dC, dI) vwCl [oRow ad xRow_depth xRow_length xRow_people xRow_scarves xRow_main xRow_faultPlace, ar (ad 3) cA 20 gRkinds, ar (ad 4) cA 20 gRlates, ar (ad 5) cA 20 gRhands, ar (ad 6) cA 20 gRslow, oST ad xST_sleeper u_5.1 xST_unreached_145, ar (ad 10) cA 640 u_5.2, ar (ad 11) cA 20 (upd gSTbusy_145 v1_145.toNatClampNeg (v2_145 + (gRlates v1_145.toNatClampNeg))), ar (ad 12) cA 20 gSTfelt_145, ar (ad 13) cA 20 gSTlost_145, ar (ad 14) cA 20 gSTfirst_145, oDia ad qe xDia_size_145, ar qe cA ne gDent_145] H := hP.sub [8, 0, 1, 9, 10, 11, 12, 2, 3, 4, 5, 6, 7] rfl
      have hD : va_D A [oRow ad xRow_depth xRow_length xRow_people xRow_scarves xRow_main xRow_faultPlace, ar (ad 3) cA 20 gRkinds, ar (ad 4) cA 20 gRlates, ar (ad 5) cA 20 gRhands, ar (ad 6) cA 20 gRslow, oST ad xST_sleeper u_5.1 xST_unreached_145, ar (ad 10) cA 640 u_5.2, ar (ad 11) cA 20 (upd gSTbusy_145 v1_145.toNatClampNeg (v2_145 + (gRlates v1_145.toNatClampNeg))), ar (ad 12) cA 20 gSTfelt_145, ar (ad 13) cA 20 gSTlost_145, ar (ad 14) cA 20 gSTfirst_145, oDia ad qe xDia_size_145, ar qe cA ne gDent_145] := hD.sub [8, 0, 1, 9, 10, 11, 12, 2, 3, 4, 5, 6, 7] (by decide) rfl
      refine lv_aload_n hx hb dX8_feelOne_194 rfl (lv_at hl 1 rfl) ?_
      refine va_get (D := (dC, dI)) (ci := 8) (v := .ref (ad 11)) (C := RX8) (T := TX8) (N := 10) hx hb hts hinX8 hown hK hP 5 rfl rfl 3 (by decide) hl_23 (fun _ h9 => h9) rfl dX8_feelOne_195 ?_
      refine lv_iload_n hx hb dX8_feelOne_198 rfl (lv_at hl 2 rfl) ?_
      refine lv_iload_n hx hb dX8_feelOne_199 rfl (lv_at hl 3 rfl) ?_
      refine lv_iconst (v := 2) hx hb dX8_feelOne_200 (by decide) ?_
      refine lv_iload hx hb dX8_feelOne_201 (lv_at hl 0 rfl) ?_
      refine lv_imul hx hb dX8_feelOne_203 ?_
      refine lv_iadd hx hb dX8_feelOne_204 ?_
      obtain ⟨i_6, hm⟩ := ck_ok hm
      refine va_iast hx hb hK hP hD hS 7 0 rfl rfl i_6 dX8_feelOne_205 (fun H locs hP hD hS => ?_)
      have hP : va_P (dC, dI) vwCl [oRow ad xRow_depth xRow_length xRow_people xRow_scarves xRow_main xRow_faultPlace, ar (ad 3) cA 20 gRkinds, ar (ad 4) cA 20 gRlates, ar (ad 5) cA 20 gRhands, ar (ad 6) cA 20 gRslow, oST ad xST_sleeper u_5.1 xST_unreached_145, ar (ad 10) cA 640 u_5.2, ar (ad 11) cA 20 (upd (upd gSTbusy_145 v1_145.toNatClampNeg (v2_145 + (gRlates v1_145.toNatClampNeg))) v1_145.toNatClampNeg (v2_145 + (2 * (gRlates v1_145.toNatClampNeg)))), ar (ad 12) cA 20 gSTfelt_145, ar (ad 13) cA 20 gSTlost_145, ar (ad 14) cA 20 gSTfirst_145, oDia ad qe xDia_size_145, ar qe cA ne gDent_145] H := hP
      have hD : va_D A [oRow ad xRow_depth xRow_length xRow_people xRow_scarves xRow_main xRow_faultPlace, ar (ad 3) cA 20 gRkinds, ar (ad 4) cA 20 gRlates, ar (ad 5) cA 20 gRhands, ar (ad 6) cA 20 gRslow, oST ad xST_sleeper u_5.1 xST_unreached_145, ar (ad 10) cA 640 u_5.2, ar (ad 11) cA 20 (upd (upd gSTbusy_145 v1_145.toNatClampNeg (v2_145 + (gRlates v1_145.toNatClampNeg))) v1_145.toNatClampNeg (v2_145 + (2 * (gRlates v1_145.toNatClampNeg)))), ar (ad 12) cA 20 gSTfelt_145, ar (ad 13) cA 20 gSTlost_145, ar (ad 14) cA 20 gSTfirst_145, oDia ad qe xDia_size_145, ar qe cA ne gDent_145] := hD
      obtain rfl := Option.some.inj hm
      subst hQ
      exact W.vret hx hb hr (fun t ht hW => ⟨⟨(), rfl, trivial, by rw [ht]; exact hP, va_K.moved hW.alike hK, hAe ▸ hD⟩, hS.F ht⟩) hS.2.2 dX8_feelOne_206
  have b_118 : ∀ (v1_118 : Int32) (v2_118 : Int32) (v3_118 : Int32) (s0_118 : Int32) (xST_lastDue_118 : Int32) (xST_unreached_118 : Int32) (gSTdue_118 : Nat → Int32) (gSTbusy_118 : Nat → Int32) (gSTfelt_118 : Nat → Int32) (gSTlost_118 : Nat → Int32) (gSTfirst_118 : Nat → Int32) (xDia_size_118 : Int32) (gDent_118 : Nat → Int32), fS_feelOne_T_118 v1_118 v2_118 v3_118 s0_118 xRow_people gRlates gRhands gRslow xST_lastDue_118 xST_unreached_118 gSTdue_118 gSTbusy_118 gSTfelt_118 gSTlost_118 gSTfirst_118 xDia_size_118 gDent_118 = some u → ∀ (H : Heap) (locs : List Loc), va_P (dC, dI) vwCl [oRow ad xRow_depth xRow_length xRow_people xRow_scarves xRow_main xRow_faultPlace, ar (ad 3) cA 20 gRkinds, ar (ad 4) cA 20 gRlates, ar (ad 5) cA 20 gRhands, ar (ad 6) cA 20 gRslow, oST ad xST_sleeper xST_lastDue_118 xST_unreached_118, ar (ad 10) cA 640 gSTdue_118, ar (ad 11) cA 20 gSTbusy_118, ar (ad 12) cA 20 gSTfelt_118, ar (ad 13) cA 20 gSTlost_118, ar (ad 14) cA 20 gSTfirst_118, oDia ad qe xDia_size_118, ar qe cA ne gDent_118] H → va_D A [oRow ad xRow_depth xRow_length xRow_people xRow_scarves xRow_main xRow_faultPlace, ar (ad 3) cA 20 gRkinds, ar (ad 4) cA 20 gRlates, ar (ad 5) cA 20 gRhands, ar (ad 6) cA 20 gRslow, oST ad xST_sleeper xST_lastDue_118 xST_unreached_118, ar (ad 10) cA 640 gSTdue_118, ar (ad 11) cA 20 gSTbusy_118, ar (ad 12) cA 20 gSTfelt_118, ar (ad 13) cA 20 gSTlost_118, ar (ad 14) cA 20 gSTfirst_118, oDia ad qe xDia_size_118, ar qe cA ne gDent_118] → va_S A s.heap H locs → ∀ ls : Array Slot, lv_has ls 7 [(0, .ref (ad 9)), (1, .int v1_118), (2, .int v2_118), (3, .int v3_118)] → W p l e (headSpec wsX8_feelOne ({ frames := 1, cells := 0, slots := 0, locals := 25 })).room s m ([.ref (ad 9), .int a1, .int a2, .int a3] : List Value).toArray below meth c H locs 0 0 QQ (F0 m 118 ls [.int s0_118]) := by
    intro v1_118 v2_118 v3_118 s0_118 xST_lastDue_118 xST_unreached_118 gSTdue_118 gSTbusy_118 gSTfelt_118 gSTlost_118 gSTfirst_118 xDia_size_118 gDent_118 hm H locs hP hD hS ls hl
    unfold fS_feelOne_T_118 at hm
    refine lv_istore (lv' := [(5, .int s0_118), (0, .ref (ad 9)), (1, .int v1_118), (2, .int v2_118), (3, .int v3_118)]) hx hb dX8_feelOne_118 hl (by decide) rfl (fun ls hl => ?_)
    refine lv_iload hx hb dX8_feelOne_120 (lv_at hl 0 rfl) ?_
    refine lv_iconst (v := 3) hx hb dX8_feelOne_122 (by decide) ?_
    refine lv_icmp_eq (tgt := 144) hx hb dX8_feelOne_123 (by decide) (fun c_7 => ?_) (fun c_7 => ?_)
    · have hm := it_pos c_7 hm
      obtain rfl := Option.some.inj hm
      subst hQ
      exact W.vret hx hb hr (fun t ht hW => ⟨⟨(), rfl, trivial, by rw [ht]; exact hP, va_K.moved hW.alike hK, hAe ▸ hD⟩, hS.F ht⟩) hS.2.2 dX8_feelOne_144
    · have hm := it_neg c_7 hm
      refine lv_iload hx hb dX8_feelOne_126 (lv_at hl 0 rfl) ?_
      refine lv_iconst (v := 2) hx hb dX8_feelOne_128 (by decide) ?_
      refine lv_icmp_ne (tgt := 145) hx hb dX8_feelOne_129 (by decide) (fun c_8 => ?_) (fun c_8 => ?_)
      · have hm := it_neg c_8 hm
        exact b_145 _ _ _ _ _ _ _ _ _ _ _ _ _ hm _ _ hP hD hS _ (lv_sub hl [1, 2, 3, 4, 0] rfl)
      · have hm := it_pos c_8 hm
        refine lv_aload_n hx hb dX8_feelOne_132 rfl (lv_at hl 1 rfl) ?_
        refine va_get (D := (dC, dI)) (ci := 8) (v := .ref (ad 12)) (C := RX8) (T := TX8) (N := 10) hx hb hts hinX8 hown hK hP 5 rfl rfl 4 (by decide) hl_26 (fun _ h9 => h9) rfl dX8_feelOne_133 ?_
        refine lv_iload_n hx hb dX8_feelOne_136 rfl (lv_at hl 2 rfl) ?_
        obtain ⟨i_9, hm⟩ := ck_ok hm
        refine va_iald hx hb hK hP 8 0 rfl rfl i_9 dX8_feelOne_137 ?_
        refine lv_iconst (v := 2) hx hb dX8_feelOne_138 (by decide) ?_
        refine lv_irem hx hb dX8_feelOne_139 (by decide) ?_
        refine lv_iconst (v := 1) hx hb dX8_feelOne_140 (by decide) ?_
        refine lv_icmp_ne (tgt := 145) hx hb dX8_feelOne_141 (by decide) (fun c_11 => ?_) (fun c_11 => ?_)
        · have hm := it_neg c_11 hm
          exact b_145 _ _ _ _ _ _ _ _ _ _ _ _ _ hm _ _ hP hD hS _ (lv_sub hl [1, 2, 3, 4, 0] rfl)
        · have hm := it_pos c_11 hm
          obtain rfl := Option.some.inj hm
          subst hQ
          exact W.vret hx hb hr (fun t ht hW => ⟨⟨(), rfl, trivial, by rw [ht]; exact hP, va_K.moved hW.alike hK, hAe ▸ hD⟩, hS.F ht⟩) hS.2.2 dX8_feelOne_144
  have b_97 : ∀ (v1_97 : Int32) (v2_97 : Int32) (v3_97 : Int32) (xST_lastDue_97 : Int32) (xST_unreached_97 : Int32) (gSTdue_97 : Nat → Int32) (gSTbusy_97 : Nat → Int32) (gSTfelt_97 : Nat → Int32) (gSTlost_97 : Nat → Int32) (gSTfirst_97 : Nat → Int32) (xDia_size_97 : Int32) (gDent_97 : Nat → Int32), fS_feelOne_T_97 v1_97 v2_97 v3_97 xRow_people gRkinds gRlates gRhands gRslow xST_sleeper xST_lastDue_97 xST_unreached_97 gSTdue_97 gSTbusy_97 gSTfelt_97 gSTlost_97 gSTfirst_97 xDia_size_97 gDent_97 = some u → ∀ (H : Heap) (locs : List Loc), va_P (dC, dI) vwCl [oRow ad xRow_depth xRow_length xRow_people xRow_scarves xRow_main xRow_faultPlace, ar (ad 3) cA 20 gRkinds, ar (ad 4) cA 20 gRlates, ar (ad 5) cA 20 gRhands, ar (ad 6) cA 20 gRslow, oST ad xST_sleeper xST_lastDue_97 xST_unreached_97, ar (ad 10) cA 640 gSTdue_97, ar (ad 11) cA 20 gSTbusy_97, ar (ad 12) cA 20 gSTfelt_97, ar (ad 13) cA 20 gSTlost_97, ar (ad 14) cA 20 gSTfirst_97, oDia ad qe xDia_size_97, ar qe cA ne gDent_97] H → va_D A [oRow ad xRow_depth xRow_length xRow_people xRow_scarves xRow_main xRow_faultPlace, ar (ad 3) cA 20 gRkinds, ar (ad 4) cA 20 gRlates, ar (ad 5) cA 20 gRhands, ar (ad 6) cA 20 gRslow, oST ad xST_sleeper xST_lastDue_97 xST_unreached_97, ar (ad 10) cA 640 gSTdue_97, ar (ad 11) cA 20 gSTbusy_97, ar (ad 12) cA 20 gSTfelt_97, ar (ad 13) cA 20 gSTlost_97, ar (ad 14) cA 20 gSTfirst_97, oDia ad qe xDia_size_97, ar qe cA ne gDent_97] → va_S A s.heap H locs → ∀ ls : Array Slot, lv_has ls 7 [(0, .ref (ad 9)), (1, .int v1_97), (2, .int v2_97), (3, .int v3_97)] → W p l e (headSpec wsX8_feelOne ({ frames := 1, cells := 0, slots := 0, locals := 25 })).room s m ([.ref (ad 9), .int a1, .int a2, .int a3] : List Value).toArray below meth c H locs 0 0 QQ (F0 m 97 ls []) := by
    intro v1_97 v2_97 v3_97 xST_lastDue_97 xST_unreached_97 gSTdue_97 gSTbusy_97 gSTfelt_97 gSTlost_97 gSTfirst_97 xDia_size_97 gDent_97 hm H locs hP hD hS ls hl
    unfold fS_feelOne_T_97 at hm
    refine lv_iload_n hx hb dX8_feelOne_97 rfl (lv_at hl 1 rfl) ?_
    refine lv_aload_n hx hb dX8_feelOne_98 rfl (lv_at hl 0 rfl) ?_
    refine va_get (D := (dC, dI)) (ci := 8) (v := .int xST_sleeper) (C := RX8) (T := TX8) (N := 10) hx hb hts hinX8 hown hK hP 5 rfl rfl 7 (by decide) hl_38 (fun _ h9 => h9) rfl dX8_feelOne_99 ?_
    refine lv_icmp_ne (tgt := 109) hx hb dX8_feelOne_102 (by decide) (fun c_12 => ?_) (fun c_12 => ?_)
    · have hm := it_neg c_12 hm
      refine lv_aload_n hx hb dX8_feelOne_109 rfl (lv_at hl 0 rfl) ?_
      refine va_get (D := (dC, dI)) (ci := 8) (v := .ref (ad 1)) (C := RX8) (T := TX8) (N := 10) hx hb hts hinX8 hown hK hP 5 rfl rfl 0 (by decide) hl_9 (fun _ h9 => h9) rfl dX8_feelOne_110 ?_
      refine va_get (D := (dC, dI)) (ci := 5) (v := .ref (ad 3)) (C := RX5) (T := TX5) (N := 13) hx hb hts hinX5 hown hK hP 0 rfl rfl 1 (by decide) hl_80 (fun _ h9 => h9) rfl dX8_feelOne_113 ?_
      refine lv_iload_n hx hb dX8_feelOne_116 rfl (lv_at hl 1 rfl) ?_
      obtain ⟨i_13, hm⟩ := ck_ok hm
      refine va_iald hx hb hK hP 1 0 rfl rfl i_13 dX8_feelOne_117 ?_
      exact b_118 _ _ _ _ _ _ _ _ _ _ _ _ _ hm _ _ hP hD hS _ (lv_sub hl [0, 1, 2, 3] rfl)
    · have hm := it_pos c_12 hm
      refine lv_iconst (v := 3) hx hb dX8_feelOne_105 (by decide) ?_
      refine lv_goto (tgt := 118) hx hb dX8_feelOne_106 (by decide) ?_
      exact b_118 _ _ _ _ _ _ _ _ _ _ _ _ _ hm _ _ hP hD hS _ (lv_sub hl [0, 1, 2, 3] rfl)
  have b_41 : ∀ (v1_41 : Int32) (v2_41 : Int32) (v3_41 : Int32) (v4_41 : Int32) (s1_41 : Int32) (s2_41 : Int32) (s3_41 : Int32) (s4_41 : Int32) (xST_lastDue_41 : Int32) (xST_unreached_41 : Int32) (gSTdue_41 : Nat → Int32) (gSTbusy_41 : Nat → Int32) (gSTfelt_41 : Nat → Int32) (gSTlost_41 : Nat → Int32) (gSTfirst_41 : Nat → Int32) (xDia_size_41 : Int32) (gDent_41 : Nat → Int32), fS_feelOne_T_41 v1_41 v2_41 v3_41 v4_41 s1_41 s2_41 s3_41 s4_41 xRow_people gRkinds gRlates gRhands gRslow xST_sleeper xST_lastDue_41 xST_unreached_41 gSTdue_41 gSTbusy_41 gSTfelt_41 gSTlost_41 gSTfirst_41 xDia_size_41 ne gDent_41 = some u → ∀ (H : Heap) (locs : List Loc), va_P (dC, dI) vwCl [oRow ad xRow_depth xRow_length xRow_people xRow_scarves xRow_main xRow_faultPlace, ar (ad 3) cA 20 gRkinds, ar (ad 4) cA 20 gRlates, ar (ad 5) cA 20 gRhands, ar (ad 6) cA 20 gRslow, oST ad xST_sleeper xST_lastDue_41 xST_unreached_41, ar (ad 10) cA 640 gSTdue_41, ar (ad 11) cA 20 gSTbusy_41, ar (ad 12) cA 20 gSTfelt_41, ar (ad 13) cA 20 gSTlost_41, ar (ad 14) cA 20 gSTfirst_41, oDia ad qe xDia_size_41, ar qe cA ne gDent_41] H → va_D A [oRow ad xRow_depth xRow_length xRow_people xRow_scarves xRow_main xRow_faultPlace, ar (ad 3) cA 20 gRkinds, ar (ad 4) cA 20 gRlates, ar (ad 5) cA 20 gRhands, ar (ad 6) cA 20 gRslow, oST ad xST_sleeper xST_lastDue_41 xST_unreached_41, ar (ad 10) cA 640 gSTdue_41, ar (ad 11) cA 20 gSTbusy_41, ar (ad 12) cA 20 gSTfelt_41, ar (ad 13) cA 20 gSTlost_41, ar (ad 14) cA 20 gSTfirst_41, oDia ad qe xDia_size_41, ar qe cA ne gDent_41] → va_S A s.heap H locs → ∀ ls : Array Slot, lv_has ls 7 [(0, .ref (ad 9)), (1, .int v1_41), (2, .int v2_41), (3, .int v3_41), (4, .int v4_41)] → W p l e (headSpec wsX8_feelOne ({ frames := 1, cells := 0, slots := 0, locals := 25 })).room s m ([.ref (ad 9), .int a1, .int a2, .int a3] : List Value).toArray below meth c H locs 0 0 QQ (F0 m 41 ls [.int s4_41, .int s3_41, .int s2_41, .int s1_41, .ref (ad 15)]) := by
    intro v1_41 v2_41 v3_41 v4_41 s1_41 s2_41 s3_41 s4_41 xST_lastDue_41 xST_unreached_41 gSTdue_41 gSTbusy_41 gSTfelt_41 gSTlost_41 gSTfirst_41 xDia_size_41 gDent_41 hm H locs hP hD hS ls hl
    unfold fS_feelOne_T_41 at hm
    have hPc := hP.sub (ws' := [oDia ad qe xDia_size_41, ar qe cA ne gDent_41]) [11, 12] rfl
    have hDc := hD.sub (ws' := [oDia ad qe xDia_size_41, ar qe cA ne gDent_41]) [11, 12] (by decide) rfl
    have hFc := va_free (wc := [oDia ad qe xDia_size_41, ar qe cA ne gDent_41]) hD hS hA [11, 12] rfl
    obtain ⟨u_14, hc_14, hm⟩ := bd_ok hm
    refine va_callv (va_runV (As := [.int s1_41, .int s2_41, .int s3_41, .int s4_41]) (rest := []) ⟨hx, hb, hml, hown, hts⟩ (kD_note l dC dI cA ad qe H.size s1_41 s2_41 s3_41 s4_41 xDia_size_41 ne gDent_41 u_14 hc_14) (cwV 4 hts gX8_feelOne_X1_note rfl rfl rfl (by decide +kernel) ⟨Nat.le_of_ble_eq_true rfl, Nat.le_of_ble_eq_true rfl⟩) ⟨fun a U g mk q => by obtain ⟨q0, q1, qP, qK, qD⟩ := q; exact ⟨q0, q1, qP, va_K.moved (u := U) (U := U.calling g mk a) (Vm.Alike.refl U.vm) qK, qD⟩, va_recv hK hPc (ci := 1) (q0 := 0) rfl rfl, fun U hU hW => ⟨rfl, by rw [hU], by rw [hU]; exact hPc, va_K.moved hW.alike hK, hDc.weaken (fun _ _ _ _ => trivial)⟩⟩ rfl rfl hl.1 rfl (lv_room (Nat.le_of_ble_eq_true rfl)) dX8_feelOne_41 ⟨Nat.le_of_ble_eq_true rfl, Nat.le_of_ble_eq_true rfl⟩) hS (fun q _ h => hFc q h) hFc (fun _ t H1 locs ht hvm hw hB hz1 hk1 hS => ?_)
    obtain ⟨hP1, hK1, hD1⟩ := hB
    rw [ht] at hP1
    obtain ⟨hP, hD⟩ := va_join (wr := [oRow ad xRow_depth xRow_length xRow_people xRow_scarves xRow_main xRow_faultPlace, ar (ad 3) cA 20 gRkinds, ar (ad 4) cA 20 gRlates, ar (ad 5) cA 20 gRhands, ar (ad 6) cA 20 gRslow, oST ad xST_sleeper xST_lastDue_41 xST_unreached_41, ar (ad 10) cA 640 gSTdue_41, ar (ad 11) cA 20 gSTbusy_41, ar (ad 12) cA 20 gSTfelt_41, ar (ad 13) cA 20 gSTlost_41, ar (ad 14) cA 20 gSTfirst_41]) (w1 := [oDia ad qe u_14.1, ar qe cA ne u_14.2]) hP hD [11, 12] [0, 1, 2, 3, 4, 5, 6, 7, 8, 9, 10] rfl rfl (by decide) (by decide) hk1 hFc hP1 hD1
    clear hPc hDc hFc hP1 hK1 hD1 hk1 hz1 hvm ht
    generalize H1 = H at hP hS ⊢
    have hP : va_P (dC, dI) vwCl [oRow ad xRow_depth xRow_length xRow_people xRow_scarves xRow_main xRow_faultPlace, ar (ad 3) cA 20 gRkinds, ar (ad 4) cA 20 gRlates, ar (ad 5) cA 20 gRhands, ar (ad 6) cA 20 gRslow, oST ad xST_sleeper xST_lastDue_41 xST_unreached_41, ar (ad 10) cA 640 gSTdue_41, ar (ad 11) cA 20 gSTbusy_41, ar (ad 12) cA 20 gSTfelt_41, ar (ad 13) cA 20 gSTlost_41, ar (ad 14) cA 20 gSTfirst_41, oDia ad qe u_14.1, ar qe cA ne u_14.2] H := hP
    have hD : va_D A [oRow ad xRow_depth xRow_length xRow_people xRow_scarves xRow_main xRow_faultPlace, ar (ad 3) cA 20 gRkinds, ar (ad 4) cA 20 gRlates, ar (ad 5) cA 20 gRhands, ar (ad 6) cA 20 gRslow, oST ad xST_sleeper xST_lastDue_41 xST_unreached_41, ar (ad 10) cA 640 gSTdue_41, ar (ad 11) cA 20 gSTbusy_41, ar (ad 12) cA 20 gSTfelt_41, ar (ad 13) cA 20 gSTlost_41, ar (ad 14) cA 20 gSTfirst_41, oDia ad qe u_14.1, ar qe cA ne u_14.2] := hD
    refine lv_iload hx hb dX8_feelOne_44 (lv_at hl 4 rfl) ?_
    refine lv_if_eq (tgt := 60) hx hb dX8_feelOne_46 (by decide) (fun c_15 => ?_) (fun c_15 => ?_)
    · have hm := it_pos c_15 hm
      refine lv_aload_n hx hb dX8_feelOne_60 rfl (lv_at hl 0 rfl) ?_
      refine va_get (D := (dC, dI)) (ci := 8) (v := .ref (ad 12)) (C := RX8) (T := TX8) (N := 10) hx hb hts hinX8 hown hK hP 5 rfl rfl 4 (by decide) hl_26 (fun _ h9 => h9) rfl dX8_feelOne_61 ?_
      refine lv_iload_n hx hb dX8_feelOne_64 rfl (lv_at hl 1 rfl) ?_
      refine lv_dup2_11 hx hb dX8_feelOne_65 rfl rfl ?_
      obtain ⟨i_16, hm⟩ := ck_ok hm
      refine va_iald hx hb hK hP 8 0 rfl rfl i_16 dX8_feelOne_66 ?_
      refine lv_iconst (v := 1) hx hb dX8_feelOne_67 (by decide) ?_
      refine lv_iadd hx hb dX8_feelOne_68 ?_
      obtain ⟨i_17, hm⟩ := ck_ok hm
      refine va_iast hx hb hK hP hD hS 8 0 rfl rfl i_17 dX8_feelOne_69 (fun H locs hP hD hS => ?_)
      have hP : va_P (dC, dI) vwCl [oRow ad xRow_depth xRow_length xRow_people xRow_scarves xRow_main xRow_faultPlace, ar (ad 3) cA 20 gRkinds, ar (ad 4) cA 20 gRlates, ar (ad 5) cA 20 gRhands, ar (ad 6) cA 20 gRslow, oST ad xST_sleeper xST_lastDue_41 xST_unreached_41, ar (ad 10) cA 640 gSTdue_41, ar (ad 11) cA 20 gSTbusy_41, ar (ad 12) cA 20 (upd gSTfelt_41 v1_41.toNatClampNeg ((gSTfelt_41 v1_41.toNatClampNeg) + 1)), ar (ad 13) cA 20 gSTlost_41, ar (ad 14) cA 20 gSTfirst_41, oDia ad qe u_14.1, ar qe cA ne u_14.2] H := hP
      have hD : va_D A [oRow ad xRow_depth xRow_length xRow_people xRow_scarves xRow_main xRow_faultPlace, ar (ad 3) cA 20 gRkinds, ar (ad 4) cA 20 gRlates, ar (ad 5) cA 20 gRhands, ar (ad 6) cA 20 gRslow, oST ad xST_sleeper xST_lastDue_41 xST_unreached_41, ar (ad 10) cA 640 gSTdue_41, ar (ad 11) cA 20 gSTbusy_41, ar (ad 12) cA 20 (upd gSTfelt_41 v1_41.toNatClampNeg ((gSTfelt_41 v1_41.toNatClampNeg) + 1)), ar (ad 13) cA 20 gSTlost_41, ar (ad 14) cA 20 gSTfirst_41, oDia ad qe u_14.1, ar qe cA ne u_14.2] := hD
      refine lv_aload_n hx hb dX8_feelOne_70 rfl (lv_at hl 0 rfl) ?_
      refine va_get (D := (dC, dI)) (ci := 8) (v := .ref (ad 14)) (C := RX8) (T := TX8) (N := 10) hx hb hts hinX8 hown hK hP 5 rfl rfl 6 (by decide) hl_32 (fun _ h9 => h9) rfl dX8_feelOne_71 ?_
      refine lv_iload_n hx hb dX8_feelOne_74 rfl (lv_at hl 1 rfl) ?_
      obtain ⟨i_18, hm⟩ := ck_ok hm
      refine va_iald hx hb hK hP 10 0 rfl rfl i_18 dX8_feelOne_75 ?_
      refine lv_iconst (v := (-1)) hx hb dX8_feelOne_76 (by decide) ?_
      refine lv_icmp_ne (tgt := 97) hx hb dX8_feelOne_77 (by decide) (fun c_19 => ?_) (fun c_19 => ?_)
      · have hm := it_neg c_19 hm
        exact b_97 _ _ _ _ _ _ _ _ _ _ _ _ hm _ _ hP hD hS _ (lv_sub hl [0, 1, 2, 3] rfl)
      · have hm := it_pos c_19 hm
        refine lv_aload_n hx hb dX8_feelOne_80 rfl (lv_at hl 0 rfl) ?_
        refine va_get (D := (dC, dI)) (ci := 8) (v := .ref (ad 14)) (C := RX8) (T := TX8) (N := 10) hx hb hts hinX8 hown hK hP 5 rfl rfl 6 (by decide) hl_32 (fun _ h9 => h9) rfl dX8_feelOne_81 ?_
        refine lv_iload_n hx hb dX8_feelOne_84 rfl (lv_at hl 1 rfl) ?_
        refine lv_iload_n hx hb dX8_feelOne_85 rfl (lv_at hl 2 rfl) ?_
        obtain ⟨i_20, hm⟩ := ck_ok hm
        refine va_iast hx hb hK hP hD hS 10 0 rfl rfl i_20 dX8_feelOne_86 (fun H locs hP hD hS => ?_)
        have hP : va_P (dC, dI) vwCl [oRow ad xRow_depth xRow_length xRow_people xRow_scarves xRow_main xRow_faultPlace, ar (ad 3) cA 20 gRkinds, ar (ad 4) cA 20 gRlates, ar (ad 5) cA 20 gRhands, ar (ad 6) cA 20 gRslow, oST ad xST_sleeper xST_lastDue_41 xST_unreached_41, ar (ad 10) cA 640 gSTdue_41, ar (ad 11) cA 20 gSTbusy_41, ar (ad 12) cA 20 (upd gSTfelt_41 v1_41.toNatClampNeg ((gSTfelt_41 v1_41.toNatClampNeg) + 1)), ar (ad 13) cA 20 gSTlost_41, ar (ad 14) cA 20 (upd gSTfirst_41 v1_41.toNatClampNeg v2_41), oDia ad qe u_14.1, ar qe cA ne u_14.2] H := hP
        have hD : va_D A [oRow ad xRow_depth xRow_length xRow_people xRow_scarves xRow_main xRow_faultPlace, ar (ad 3) cA 20 gRkinds, ar (ad 4) cA 20 gRlates, ar (ad 5) cA 20 gRhands, ar (ad 6) cA 20 gRslow, oST ad xST_sleeper xST_lastDue_41 xST_unreached_41, ar (ad 10) cA 640 gSTdue_41, ar (ad 11) cA 20 gSTbusy_41, ar (ad 12) cA 20 (upd gSTfelt_41 v1_41.toNatClampNeg ((gSTfelt_41 v1_41.toNatClampNeg) + 1)), ar (ad 13) cA 20 gSTlost_41, ar (ad 14) cA 20 (upd gSTfirst_41 v1_41.toNatClampNeg v2_41), oDia ad qe u_14.1, ar qe cA ne u_14.2] := hD
        refine lv_aload_n hx hb dX8_feelOne_87 rfl (lv_at hl 0 rfl) ?_
        refine lv_dup hx hb dX8_feelOne_88 rfl ?_
        refine va_get (D := (dC, dI)) (ci := 8) (v := .int xST_unreached_41) (C := RX8) (T := TX8) (N := 10) hx hb hts hinX8 hown hK hP 5 rfl rfl 9 (by decide) hl_50 (fun _ h9 => h9) rfl dX8_feelOne_89 ?_
        refine lv_iconst (v := 1) hx hb dX8_feelOne_92 (by decide) ?_
        refine lv_isub hx hb dX8_feelOne_93 ?_
        refine va_put (D := (dC, dI)) (ci := 8) (v := .int (xST_unreached_41 - 1)) (ty := .int) (C := RX8) (T := TX8) (N := 10) hx hb hts hinX8 tyX8 tyX8_ok nmX8 hown hK hP hD hS 5 rfl rfl 9 (by decide) hl_50 (fun _ h9 => h9) rfl (by decide +kernel) rfl rfl (Nat.le_of_ble_eq_true rfl) dX8_feelOne_94 (fun H locs hP hD hS => ?_)
        have hP : va_P (dC, dI) vwCl [oRow ad xRow_depth xRow_length xRow_people xRow_scarves xRow_main xRow_faultPlace, ar (ad 3) cA 20 gRkinds, ar (ad 4) cA 20 gRlates, ar (ad 5) cA 20 gRhands, ar (ad 6) cA 20 gRslow, oST ad xST_sleeper xST_lastDue_41 (xST_unreached_41 - 1), ar (ad 10) cA 640 gSTdue_41, ar (ad 11) cA 20 gSTbusy_41, ar (ad 12) cA 20 (upd gSTfelt_41 v1_41.toNatClampNeg ((gSTfelt_41 v1_41.toNatClampNeg) + 1)), ar (ad 13) cA 20 gSTlost_41, ar (ad 14) cA 20 (upd gSTfirst_41 v1_41.toNatClampNeg v2_41), oDia ad qe u_14.1, ar qe cA ne u_14.2] H := hP
        have hD : va_D A [oRow ad xRow_depth xRow_length xRow_people xRow_scarves xRow_main xRow_faultPlace, ar (ad 3) cA 20 gRkinds, ar (ad 4) cA 20 gRlates, ar (ad 5) cA 20 gRhands, ar (ad 6) cA 20 gRslow, oST ad xST_sleeper xST_lastDue_41 (xST_unreached_41 - 1), ar (ad 10) cA 640 gSTdue_41, ar (ad 11) cA 20 gSTbusy_41, ar (ad 12) cA 20 (upd gSTfelt_41 v1_41.toNatClampNeg ((gSTfelt_41 v1_41.toNatClampNeg) + 1)), ar (ad 13) cA 20 gSTlost_41, ar (ad 14) cA 20 (upd gSTfirst_41 v1_41.toNatClampNeg v2_41), oDia ad qe u_14.1, ar qe cA ne u_14.2] := hD
        exact b_97 _ _ _ _ _ _ _ _ _ _ _ _ hm _ _ hP hD hS _ (lv_sub hl [0, 1, 2, 3] rfl)
    · have hm := it_neg c_15 hm
      refine lv_aload_n hx hb dX8_feelOne_49 rfl (lv_at hl 0 rfl) ?_
      refine va_get (D := (dC, dI)) (ci := 8) (v := .ref (ad 13)) (C := RX8) (T := TX8) (N := 10) hx hb hts hinX8 hown hK hP 5 rfl rfl 5 (by decide) hl_29 (fun _ h9 => h9) rfl dX8_feelOne_50 ?_
      refine lv_iload_n hx hb dX8_feelOne_53 rfl (lv_at hl 1 rfl) ?_
      refine lv_dup2_11 hx hb dX8_feelOne_54 rfl rfl ?_
      obtain ⟨i_21, hm⟩ := ck_ok hm
      refine va_iald hx hb hK hP 9 0 rfl rfl i_21 dX8_feelOne_55 ?_
      refine lv_iconst (v := 1) hx hb dX8_feelOne_56 (by decide) ?_
      refine lv_iadd hx hb dX8_feelOne_57 ?_
      obtain ⟨i_22, hm⟩ := ck_ok hm
      refine va_iast hx hb hK hP hD hS 9 0 rfl rfl i_22 dX8_feelOne_58 (fun H locs hP hD hS => ?_)
      have hP : va_P (dC, dI) vwCl [oRow ad xRow_depth xRow_length xRow_people xRow_scarves xRow_main xRow_faultPlace, ar (ad 3) cA 20 gRkinds, ar (ad 4) cA 20 gRlates, ar (ad 5) cA 20 gRhands, ar (ad 6) cA 20 gRslow, oST ad xST_sleeper xST_lastDue_41 xST_unreached_41, ar (ad 10) cA 640 gSTdue_41, ar (ad 11) cA 20 gSTbusy_41, ar (ad 12) cA 20 gSTfelt_41, ar (ad 13) cA 20 (upd gSTlost_41 v1_41.toNatClampNeg ((gSTlost_41 v1_41.toNatClampNeg) + 1)), ar (ad 14) cA 20 gSTfirst_41, oDia ad qe u_14.1, ar qe cA ne u_14.2] H := hP
      have hD : va_D A [oRow ad xRow_depth xRow_length xRow_people xRow_scarves xRow_main xRow_faultPlace, ar (ad 3) cA 20 gRkinds, ar (ad 4) cA 20 gRlates, ar (ad 5) cA 20 gRhands, ar (ad 6) cA 20 gRslow, oST ad xST_sleeper xST_lastDue_41 xST_unreached_41, ar (ad 10) cA 640 gSTdue_41, ar (ad 11) cA 20 gSTbusy_41, ar (ad 12) cA 20 gSTfelt_41, ar (ad 13) cA 20 (upd gSTlost_41 v1_41.toNatClampNeg ((gSTlost_41 v1_41.toNatClampNeg) + 1)), ar (ad 14) cA 20 gSTfirst_41, oDia ad qe u_14.1, ar qe cA ne u_14.2] := hD
      obtain rfl := Option.some.inj hm
      subst hQ
      exact W.vret hx hb hr (fun t ht hW => ⟨⟨(), rfl, trivial, by rw [ht]; exact hP, va_K.moved hW.alike hK, hAe ▸ hD⟩, hS.F ht⟩) hS.2.2 dX8_feelOne_59
  have b_15 : ∀ (v1_15 : Int32) (v2_15 : Int32) (v3_15 : Int32) (s0_15 : Int32) (xST_lastDue_15 : Int32) (xST_unreached_15 : Int32) (gSTdue_15 : Nat → Int32) (gSTbusy_15 : Nat → Int32) (gSTfelt_15 : Nat → Int32) (gSTlost_15 : Nat → Int32) (gSTfirst_15 : Nat → Int32) (xDia_size_15 : Int32) (gDent_15 : Nat → Int32), fS_feelOne_T_15 v1_15 v2_15 v3_15 s0_15 xRow_people gRkinds gRlates gRhands gRslow xST_sleeper xST_lastDue_15 xST_unreached_15 gSTdue_15 gSTbusy_15 gSTfelt_15 gSTlost_15 gSTfirst_15 xDia_size_15 ne gDent_15 = some u → ∀ (H : Heap) (locs : List Loc), va_P (dC, dI) vwCl [oRow ad xRow_depth xRow_length xRow_people xRow_scarves xRow_main xRow_faultPlace, ar (ad 3) cA 20 gRkinds, ar (ad 4) cA 20 gRlates, ar (ad 5) cA 20 gRhands, ar (ad 6) cA 20 gRslow, oST ad xST_sleeper xST_lastDue_15 xST_unreached_15, ar (ad 10) cA 640 gSTdue_15, ar (ad 11) cA 20 gSTbusy_15, ar (ad 12) cA 20 gSTfelt_15, ar (ad 13) cA 20 gSTlost_15, ar (ad 14) cA 20 gSTfirst_15, oDia ad qe xDia_size_15, ar qe cA ne gDent_15] H → va_D A [oRow ad xRow_depth xRow_length xRow_people xRow_scarves xRow_main xRow_faultPlace, ar (ad 3) cA 20 gRkinds, ar (ad 4) cA 20 gRlates, ar (ad 5) cA 20 gRhands, ar (ad 6) cA 20 gRslow, oST ad xST_sleeper xST_lastDue_15 xST_unreached_15, ar (ad 10) cA 640 gSTdue_15, ar (ad 11) cA 20 gSTbusy_15, ar (ad 12) cA 20 gSTfelt_15, ar (ad 13) cA 20 gSTlost_15, ar (ad 14) cA 20 gSTfirst_15, oDia ad qe xDia_size_15, ar qe cA ne gDent_15] → va_S A s.heap H locs → ∀ ls : Array Slot, lv_has ls 7 [(0, .ref (ad 9)), (1, .int v1_15), (2, .int v2_15), (3, .int v3_15)] → W p l e (headSpec wsX8_feelOne ({ frames := 1, cells := 0, slots := 0, locals := 25 })).room s m ([.ref (ad 9), .int a1, .int a2, .int a3] : List Value).toArray below meth c H locs 0 0 QQ (F0 m 15 ls [.int s0_15]) := by
    intro v1_15 v2_15 v3_15 s0_15 xST_lastDue_15 xST_unreached_15 gSTdue_15 gSTbusy_15 gSTfelt_15 gSTlost_15 gSTfirst_15 xDia_size_15 gDent_15 hm H locs hP hD hS ls hl
    unfold fS_feelOne_T_15 at hm
    refine lv_istore (lv' := [(4, .int s0_15), (0, .ref (ad 9)), (1, .int v1_15), (2, .int v2_15), (3, .int v3_15)]) hx hb dX8_feelOne_15 hl (by decide) rfl (fun ls hl => ?_)
    refine lv_aload_n hx hb dX8_feelOne_17 rfl (lv_at hl 1 rfl) ?_
    refine va_get (D := (dC, dI)) (ci := 8) (v := .ref (ad 15)) (C := RX8) (T := TX8) (N := 10) hx hb hts hinX8 hown hK hP 5 rfl rfl 1 (by decide) hl_15 (fun _ h9 => h9) rfl dX8_feelOne_18 ?_
    refine lv_ifnull hx hb dX8_feelOne_21 ?_
    refine lv_aload_n hx hb dX8_feelOne_24 rfl (lv_at hl 1 rfl) ?_
    refine va_get (D := (dC, dI)) (ci := 8) (v := .ref (ad 15)) (C := RX8) (T := TX8) (N := 10) hx hb hts hinX8 hown hK hP 5 rfl rfl 1 (by decide) hl_15 (fun _ h9 => h9) rfl dX8_feelOne_25 ?_
    refine lv_iload_n hx hb dX8_feelOne_28 rfl (lv_at hl 3 rfl) ?_
    refine lv_iload_n hx hb dX8_feelOne_29 rfl (lv_at hl 2 rfl) ?_
    refine lv_iload_n hx hb dX8_feelOne_30 rfl (lv_at hl 4 rfl) ?_
    refine lv_iload hx hb dX8_feelOne_31 (lv_at hl 0 rfl) ?_
    refine lv_if_eq (tgt := 40) hx hb dX8_feelOne_33 (by decide) (fun c_23 => ?_) (fun c_23 => ?_)
    · have hm := it_pos c_23 hm
      refine lv_iconst (v := 0) hx hb dX8_feelOne_40 (by decide) ?_
      exact b_41 _ _ _ _ _ _ _ _ _ _ _ _ _ _ _ _ _ hm _ _ hP hD hS _ (lv_sub hl [1, 2, 3, 4, 0] rfl)
    · have hm := it_neg c_23 hm
      refine lv_iconst (v := 1) hx hb dX8_feelOne_36 (by decide) ?_
      refine lv_goto (tgt := 41) hx hb dX8_feelOne_37 (by decide) ?_
      exact b_41 _ _ _ _ _ _ _ _ _ _ _ _ _ _ _ _ _ hm _ _ hP hD hS _ (lv_sub hl [1, 2, 3, 4, 0] rfl)
  unfold fS_feelOne_T at hm
  refine lv_iload_n hx hb dX8_feelOne_0 rfl (lv_at hl 2 rfl) ?_
  refine lv_aload_n hx hb dX8_feelOne_1 rfl (lv_at hl 0 rfl) ?_
  refine va_get (D := (dC, dI)) (ci := 8) (v := .ref (ad 11)) (C := RX8) (T := TX8) (N := 10) hx hb hts hinX8 hown hK hP 5 rfl rfl 3 (by decide) hl_23 (fun _ h9 => h9) rfl dX8_feelOne_2 ?_
  refine lv_iload_n hx hb dX8_feelOne_5 rfl (lv_at hl 1 rfl) ?_
  obtain ⟨i_24, hm⟩ := ck_ok hm
  refine va_iald hx hb hK hP 7 0 rfl rfl i_24 dX8_feelOne_6 ?_
  refine lv_icmp_ge (tgt := 14) hx hb dX8_feelOne_7 (by decide) (fun c_25 => ?_) (fun c_25 => ?_)
  · have hm := it_pos c_25 hm
    refine lv_iconst (v := 0) hx hb dX8_feelOne_14 (by decide) ?_
    exact b_15 _ _ _ _ _ _ _ _ _ _ _ _ _ hm _ _ hP hD hS _ (lv_sub hl [0, 1, 2, 3] rfl)
  · have hm := it_neg c_25 hm
    refine lv_iconst (v := 1) hx hb dX8_feelOne_10 (by decide) ?_
    refine lv_goto (tgt := 15) hx hb dX8_feelOne_11 (by decide) ?_
    exact b_15 _ _ _ _ _ _ _ _ _ _ _ _ _ hm _ _ hP hD hS _ (lv_sub hl [0, 1, 2, 3] rfl)

set_option maxHeartbeats 4000000 in
set_option maxRecDepth 100000 in
theorem kS_feelAll_T (l : Launch) (dC : Nat → ClassId) (dI : Nat → Nat → Nat) (cA : ClassId) (ad : Nat → Nat) (qe : Nat) (sz : Nat) (a1 : Int32) (a2 : Int32) (xRow_depth : Int32) (xRow_length : Int32) (xRow_people : Int32) (xRow_scarves : Int32) (xRow_main : Int32) (xRow_faultPlace : Int32) (gRkinds : Nat → Int32) (gRlates : Nat → Int32) (gRhands : Nat → Int32) (gRslow : Nat → Int32) (xST_sleeper : Int32) (xST_lastDue : Int32) (xST_unreached : Int32) (gSTdue : Nat → Int32) (gSTbusy : Nat → Int32) (gSTfelt : Nat → Int32) (gSTlost : Nat → Int32) (gSTfirst : Nat → Int32) (xDia_size : Int32) (ne : Nat) (gDent : Nat → Int32) (u : Int32 × Int32 × (Nat → Int32) × (Nat → Int32) × (Nat → Int32) × (Nat → Int32) × (Nat → Int32) × Int32 × (Nat → Int32)) (hm : fS_feelAll_T a1 a2 xRow_people gRkinds gRlates gRhands gRslow xST_sleeper xST_lastDue xST_unreached gSTdue gSTbusy gSTfelt gSTlost gSTfirst xDia_size ne gDent = some u) : Met l yX8_feelAll wsX8_feelAll ({ frames := 2, cells := 0, slots := 0, locals := 51 }) (va_Pc [.ref (ad 9), .int a1, .int a2] (fun U => U.heap.size = sz ∧ va_P (dC, dI) vwCl [oRow ad xRow_depth xRow_length xRow_people xRow_scarves xRow_main xRow_faultPlace, ar (ad 3) cA 20 gRkinds, ar (ad 4) cA 20 gRlates, ar (ad 5) cA 20 gRhands, ar (ad 6) cA 20 gRslow, oST ad xST_sleeper xST_lastDue xST_unreached, ar (ad 10) cA 640 gSTdue, ar (ad 11) cA 20 gSTbusy, ar (ad 12) cA 20 gSTfelt, ar (ad 13) cA 20 gSTlost, ar (ad 14) cA 20 gSTfirst, oDia ad qe xDia_size, ar qe cA ne gDent] U.heap ∧ va_K (dC, dI) vwCl [(cA, .int)] U ∧ va_D (fun _ => True) [oRow ad xRow_depth xRow_length xRow_people xRow_scarves xRow_main xRow_faultPlace, ar (ad 3) cA 20 gRkinds, ar (ad 4) cA 20 gRlates, ar (ad 5) cA 20 gRhands, ar (ad 6) cA 20 gRslow, oST ad xST_sleeper xST_lastDue xST_unreached, ar (ad 10) cA 640 gSTdue, ar (ad 11) cA 20 gSTbusy, ar (ad 12) cA 20 gSTfelt, ar (ad 13) cA 20 gSTlost, ar (ad 14) cA 20 gSTfirst, oDia ad qe xDia_size, ar qe cA ne gDent])) (va_Qv (fun (_ : Unit) => True) (fun (_ : Unit) t => va_P (dC, dI) vwCl [oRow ad xRow_depth xRow_length xRow_people xRow_scarves xRow_main xRow_faultPlace, ar (ad 3) cA 20 gRkinds, ar (ad 4) cA 20 gRlates, ar (ad 5) cA 20 gRhands, ar (ad 6) cA 20 gRslow, oST ad xST_sleeper u.1 u.2.1, ar (ad 10) cA 640 u.2.2.1, ar (ad 11) cA 20 u.2.2.2.1, ar (ad 12) cA 20 u.2.2.2.2.1, ar (ad 13) cA 20 u.2.2.2.2.2.1, ar (ad 14) cA 20 u.2.2.2.2.2.2.1, oDia ad qe u.2.2.2.2.2.2.2.1, ar qe cA ne u.2.2.2.2.2.2.2.2] t.heap ∧ va_K (dC, dI) vwCl [(cA, .int)] t ∧ va_D (va_A [oRow ad xRow_depth xRow_length xRow_people xRow_scarves xRow_main xRow_faultPlace, ar (ad 3) cA 20 gRkinds, ar (ad 4) cA 20 gRlates, ar (ad 5) cA 20 gRhands, ar (ad 6) cA 20 gRslow, oST ad xST_sleeper xST_lastDue xST_unreached, ar (ad 10) cA 640 gSTdue, ar (ad 11) cA 20 gSTbusy, ar (ad 12) cA 20 gSTfelt, ar (ad 13) cA 20 gSTlost, ar (ad 14) cA 20 gSTfirst, oDia ad qe xDia_size, ar qe cA ne gDent] sz) [oRow ad xRow_depth xRow_length xRow_people xRow_scarves xRow_main xRow_faultPlace, ar (ad 3) cA 20 gRkinds, ar (ad 4) cA 20 gRlates, ar (ad 5) cA 20 gRhands, ar (ad 6) cA 20 gRslow, oST ad xST_sleeper u.1 u.2.1, ar (ad 10) cA 640 u.2.2.1, ar (ad 11) cA 20 u.2.2.2.1, ar (ad 12) cA 20 u.2.2.2.2.1, ar (ad 13) cA 20 u.2.2.2.2.2.1, ar (ad 14) cA 20 u.2.2.2.2.2.2.1, oDia ad qe u.2.2.2.2.2.2.2.1, ar qe cA ne u.2.2.2.2.2.2.2.2]) (va_A [oRow ad xRow_depth xRow_length xRow_people xRow_scarves xRow_main xRow_faultPlace, ar (ad 3) cA 20 gRkinds, ar (ad 4) cA 20 gRlates, ar (ad 5) cA 20 gRhands, ar (ad 6) cA 20 gRslow, oST ad xST_sleeper xST_lastDue xST_unreached, ar (ad 10) cA 640 gSTdue, ar (ad 11) cA 20 gSTbusy, ar (ad 12) cA 20 gSTfelt, ar (ad 13) cA 20 gSTlost, ar (ad 14) cA 20 gSTfirst, oDia ad qe xDia_size, ar qe cA ne gDent] sz)) 0 0 (va_A [oRow ad xRow_depth xRow_length xRow_people xRow_scarves xRow_main xRow_faultPlace, ar (ad 3) cA 20 gRkinds, ar (ad 4) cA 20 gRlates, ar (ad 5) cA 20 gRhands, ar (ad 6) cA 20 gRslow, oST ad xST_sleeper xST_lastDue xST_unreached, ar (ad 10) cA 640 gSTdue, ar (ad 11) cA 20 gSTbusy, ar (ad 12) cA 20 gSTfelt, ar (ad 13) cA 20 gSTlost, ar (ad 14) cA 20 gSTfirst, oDia ad qe xDia_size, ar qe cA ne gDent] sz) := by
  refine Met.ofW (cc := cX8_feelAll) (maxL := 6) (ret := none) (by decide) rfl ?_
  intro p e s m args below meth c s₁ B hml hv
  obtain ⟨rfl, hsz, hP, hK, hD0⟩ := hv
  have hx := B.exec
  have hb := B.bytes
  have hr := B.returns
  have hts := atoms_spec (ws := wsX8_feelAll) B.pre
  have hown : s.vm.findClass RX8 = some m.cls := findClass_of_methodNamed B.named
  have hlocks := B.notSynchronized
  subst hsz
  have hD := hD0.self (sz := s.heap.size)
  generalize hAe : va_A [oRow ad xRow_depth xRow_length xRow_people xRow_scarves xRow_main xRow_faultPlace, ar (ad 3) cA 20 gRkinds, ar (ad 4) cA 20 gRlates, ar (ad 5) cA 20 gRhands, ar (ad 6) cA 20 gRslow, oST ad xST_sleeper xST_lastDue xST_unreached, ar (ad 10) cA 640 gSTdue, ar (ad 11) cA 20 gSTbusy, ar (ad 12) cA 20 gSTfelt, ar (ad 13) cA 20 gSTlost, ar (ad 14) cA 20 gSTfirst, oDia ad qe xDia_size, ar qe cA ne gDent] s.heap.size = A at hD ⊢
  have hA : ∀ q : Nat, s.heap.size ≤ q → A q := fun q h => by rw [← hAe]; exact Or.inr h
  have hS : va_S A s.heap s.heap [] := va_S.rf
  have hl := lv_entry ([.ref (ad 9), .int a1, .int a2]) (n := 6) (Nat.le_of_ble_eq_true rfl)
  rw [lg_entry_eq]
  generalize (lg_sl ([.ref (ad 9), .int a1, .int a2]) ++ List.replicate (6 - (lg_sl ([.ref (ad 9), .int a1, .int a2])).length) Slot.unset).toArray = ls at hl ⊢
  have hl : lv_has ls 6 [(0, .ref (ad 9)), (1, .int a1), (2, .int a2)] := hl
  refine wk_Q (fun QQ hQ => ?_)
  have hinX8 : ∀ w ∈ wsX80, w ∈ wsX8_feelAll := fun w h => List.mem_cons_of_mem _ (inlX8 w h)
  have hl_9 := hts (.fieldLink RX8 9 "HandCensus$Squeeze" "row" "LHandCensus$Row;") (List.mem_cons_of_mem _ (in_r4 _ (List.mem_of_getElem? (i := 2) rfl)))
  have hinX5 : ∀ w ∈ wsX50, w ∈ wsX8_feelAll := fun w h => List.mem_cons_of_mem _ (inlX5 w h)
  have hl_42 := hts (.fieldLink RX8 42 "HandCensus$Row" "people" "I") (List.mem_cons_of_mem _ (in_r14 _ (List.mem_of_getElem? (i := 19) rfl)))
  have hl_19 := hts (.fieldLink RX8 19 "HandCensus$Squeeze" "due" "[I") (List.mem_cons_of_mem _ (in_r4 _ (List.mem_of_getElem? (i := 4) rfl)))
  have h_2 : ∀ (v1_2 : Int32) (v2_2 : Int32), ∀ (n_2 : Nat), ∀ (v3_2 : Int32) (xST_lastDue_2 : Int32) (xST_unreached_2 : Int32) (gSTdue_2 : Nat → Int32) (gSTbusy_2 : Nat → Int32) (gSTfelt_2 : Nat → Int32) (gSTlost_2 : Nat → Int32) (gSTfirst_2 : Nat → Int32) (xDia_size_2 : Int32) (gDent_2 : Nat → Int32), fS_feelAll_T_2 v1_2 v2_2 xRow_people gRkinds gRlates gRhands gRslow xST_sleeper ne n_2 v3_2 xST_lastDue_2 xST_unreached_2 gSTdue_2 gSTbusy_2 gSTfelt_2 gSTlost_2 gSTfirst_2 xDia_size_2 gDent_2 = some u → ∀ (H : Heap) (locs : List Loc), va_P (dC, dI) vwCl [oRow ad xRow_depth xRow_length xRow_people xRow_scarves xRow_main xRow_faultPlace, ar (ad 3) cA 20 gRkinds, ar (ad 4) cA 20 gRlates, ar (ad 5) cA 20 gRhands, ar (ad 6) cA 20 gRslow, oST ad xST_sleeper xST_lastDue_2 xST_unreached_2, ar (ad 10) cA 640 gSTdue_2, ar (ad 11) cA 20 gSTbusy_2, ar (ad 12) cA 20 gSTfelt_2, ar (ad 13) cA 20 gSTlost_2, ar (ad 14) cA 20 gSTfirst_2, oDia ad qe xDia_size_2, ar qe cA ne gDent_2] H → va_D A [oRow ad xRow_depth xRow_length xRow_people xRow_scarves xRow_main xRow_faultPlace, ar (ad 3) cA 20 gRkinds, ar (ad 4) cA 20 gRlates, ar (ad 5) cA 20 gRhands, ar (ad 6) cA 20 gRslow, oST ad xST_sleeper xST_lastDue_2 xST_unreached_2, ar (ad 10) cA 640 gSTdue_2, ar (ad 11) cA 20 gSTbusy_2, ar (ad 12) cA 20 gSTfelt_2, ar (ad 13) cA 20 gSTlost_2, ar (ad 14) cA 20 gSTfirst_2, oDia ad qe xDia_size_2, ar qe cA ne gDent_2] → va_S A s.heap H locs → ∀ ls : Array Slot, lv_has ls 6 [(0, .ref (ad 9)), (1, .int v1_2), (2, .int v2_2), (3, .int v3_2)] → W p l e (headSpec wsX8_feelAll ({ frames := 2, cells := 0, slots := 0, locals := 51 })).room s m ([.ref (ad 9), .int a1, .int a2] : List Value).toArray below meth c H locs 0 0 QQ (F0 m 2 ls []) := by
    intro v1_2 v2_2
    intro n_2
    induction n_2 with
    | zero => intro v3_2 xST_lastDue_2 xST_unreached_2 gSTdue_2 gSTbusy_2 gSTfelt_2 gSTlost_2 gSTfirst_2 xDia_size_2 gDent_2 hm; have hm : (none : Option (Int32 × Int32 × (Nat → Int32) × (Nat → Int32) × (Nat → Int32) × (Nat → Int32) × (Nat → Int32) × Int32 × (Nat → Int32))) = some u := hm; cases hm
    | succ n_2 ih_2 =>
      have b_86 : ∀ (v3_86 : Int32) (xST_lastDue_86 : Int32) (xST_unreached_86 : Int32) (gSTdue_86 : Nat → Int32) (gSTbusy_86 : Nat → Int32) (gSTfelt_86 : Nat → Int32) (gSTlost_86 : Nat → Int32) (gSTfirst_86 : Nat → Int32) (xDia_size_86 : Int32) (gDent_86 : Nat → Int32), fS_feelAll_T_86 (fS_feelAll_T_2  v1_2 v2_2 xRow_people gRkinds gRlates gRhands gRslow xST_sleeper ne n_2) v1_2 v2_2 v3_86 xRow_people gRkinds gRlates gRhands gRslow xST_sleeper xST_lastDue_86 xST_unreached_86 gSTdue_86 gSTbusy_86 gSTfelt_86 gSTlost_86 gSTfirst_86 xDia_size_86 ne gDent_86 = some u → ∀ (H : Heap) (locs : List Loc), va_P (dC, dI) vwCl [oRow ad xRow_depth xRow_length xRow_people xRow_scarves xRow_main xRow_faultPlace, ar (ad 3) cA 20 gRkinds, ar (ad 4) cA 20 gRlates, ar (ad 5) cA 20 gRhands, ar (ad 6) cA 20 gRslow, oST ad xST_sleeper xST_lastDue_86 xST_unreached_86, ar (ad 10) cA 640 gSTdue_86, ar (ad 11) cA 20 gSTbusy_86, ar (ad 12) cA 20 gSTfelt_86, ar (ad 13) cA 20 gSTlost_86, ar (ad 14) cA 20 gSTfirst_86, oDia ad qe xDia_size_86, ar qe cA ne gDent_86] H → va_D A [oRow ad xRow_depth xRow_length xRow_people xRow_scarves xRow_main xRow_faultPlace, ar (ad 3) cA 20 gRkinds, ar (ad 4) cA 20 gRlates, ar (ad 5) cA 20 gRhands, ar (ad 6) cA 20 gRslow, oST ad xST_sleeper xST_lastDue_86 xST_unreached_86, ar (ad 10) cA 640 gSTdue_86, ar (ad 11) cA 20 gSTbusy_86, ar (ad 12) cA 20 gSTfelt_86, ar (ad 13) cA 20 gSTlost_86, ar (ad 14) cA 20 gSTfirst_86, oDia ad qe xDia_size_86, ar qe cA ne gDent_86] → va_S A s.heap H locs → ∀ ls : Array Slot, lv_has ls 6 [(0, .ref (ad 9)), (1, .int v1_2), (2, .int v2_2), (3, .int v3_86)] → W p l e (headSpec wsX8_feelAll ({ frames := 2, cells := 0, slots := 0, locals := 51 })).room s m ([.ref (ad 9), .int a1, .int a2] : List Value).toArray below meth c H locs 0 0 QQ (F0 m 86 ls []) := by
        intro v3_86 xST_lastDue_86 xST_unreached_86 gSTdue_86 gSTbusy_86 gSTfelt_86 gSTlost_86 gSTfirst_86 xDia_size_86 gDent_86 hm H locs hP hD hS ls hl
        unfold fS_feelAll_T_86 at hm
        refine lv_iinc (v := (v3_86 + 1)) (lv' := [(3, .int (v3_86 + 1)), (0, .ref (ad 9)), (1, .int v1_2), (2, .int v2_2)]) hx hb dX8_feelAll_86 hl (k := 3) rfl rfl (by decide) rfl (fun ls hl => ?_)
        refine lv_goto (tgt := 2) hx hb dX8_feelAll_89 (by decide) ?_
        exact ih_2 _ _ _ _ _ _ _ _ _ _ hm _ _ hP hD hS _ (lv_sub hl [1, 2, 3, 0] rfl)
      have h_35 : ∀ (v3_35 : Int32), ∀ (n_35 : Nat), ∀ (v4_35 : Int32) (v5_35 : Int32) (xST_lastDue_35 : Int32) (xST_unreached_35 : Int32) (gSTdue_35 : Nat → Int32) (gSTbusy_35 : Nat → Int32) (gSTfelt_35 : Nat → Int32) (gSTlost_35 : Nat → Int32) (gSTfirst_35 : Nat → Int32) (xDia_size_35 : Int32) (gDent_35 : Nat → Int32), fS_feelAll_T_35 (fS_feelAll_T_2  v1_2 v2_2 xRow_people gRkinds gRlates gRhands gRslow xST_sleeper ne n_2) v1_2 v2_2 v3_35 xRow_people gRkinds gRlates gRhands gRslow xST_sleeper ne n_35 v4_35 v5_35 xST_lastDue_35 xST_unreached_35 gSTdue_35 gSTbusy_35 gSTfelt_35 gSTlost_35 gSTfirst_35 xDia_size_35 gDent_35 = some u → ∀ (H : Heap) (locs : List Loc), va_P (dC, dI) vwCl [oRow ad xRow_depth xRow_length xRow_people xRow_scarves xRow_main xRow_faultPlace, ar (ad 3) cA 20 gRkinds, ar (ad 4) cA 20 gRlates, ar (ad 5) cA 20 gRhands, ar (ad 6) cA 20 gRslow, oST ad xST_sleeper xST_lastDue_35 xST_unreached_35, ar (ad 10) cA 640 gSTdue_35, ar (ad 11) cA 20 gSTbusy_35, ar (ad 12) cA 20 gSTfelt_35, ar (ad 13) cA 20 gSTlost_35, ar (ad 14) cA 20 gSTfirst_35, oDia ad qe xDia_size_35, ar qe cA ne gDent_35] H → va_D A [oRow ad xRow_depth xRow_length xRow_people xRow_scarves xRow_main xRow_faultPlace, ar (ad 3) cA 20 gRkinds, ar (ad 4) cA 20 gRlates, ar (ad 5) cA 20 gRhands, ar (ad 6) cA 20 gRslow, oST ad xST_sleeper xST_lastDue_35 xST_unreached_35, ar (ad 10) cA 640 gSTdue_35, ar (ad 11) cA 20 gSTbusy_35, ar (ad 12) cA 20 gSTfelt_35, ar (ad 13) cA 20 gSTlost_35, ar (ad 14) cA 20 gSTfirst_35, oDia ad qe xDia_size_35, ar qe cA ne gDent_35] → va_S A s.heap H locs → ∀ ls : Array Slot, lv_has ls 6 [(0, .ref (ad 9)), (1, .int v1_2), (2, .int v2_2), (3, .int v3_35), (4, .int v4_35), (5, .int v5_35)] → W p l e (headSpec wsX8_feelAll ({ frames := 2, cells := 0, slots := 0, locals := 51 })).room s m ([.ref (ad 9), .int a1, .int a2] : List Value).toArray below meth c H locs 0 0 QQ (F0 m 35 ls []) := by
        intro v3_35
        intro n_35
        induction n_35 with
        | zero => intro v4_35 v5_35 xST_lastDue_35 xST_unreached_35 gSTdue_35 gSTbusy_35 gSTfelt_35 gSTlost_35 gSTfirst_35 xDia_size_35 gDent_35 hm; have hm : (none : Option (Int32 × Int32 × (Nat → Int32) × (Nat → Int32) × (Nat → Int32) × (Nat → Int32) × (Nat → Int32) × Int32 × (Nat → Int32))) = some u := hm; cases hm
        | succ n_35 ih_35 =>
          have b_74 : ∀ (v4_74 : Int32) (v5_74 : Int32) (xST_lastDue_74 : Int32) (xST_unreached_74 : Int32) (gSTdue_74 : Nat → Int32) (gSTbusy_74 : Nat → Int32) (gSTfelt_74 : Nat → Int32) (gSTlost_74 : Nat → Int32) (gSTfirst_74 : Nat → Int32) (xDia_size_74 : Int32) (gDent_74 : Nat → Int32), fS_feelAll_T_74 (fS_feelAll_T_2  v1_2 v2_2 xRow_people gRkinds gRlates gRhands gRslow xST_sleeper ne n_2) (fS_feelAll_T_35 (fS_feelAll_T_2  v1_2 v2_2 xRow_people gRkinds gRlates gRhands gRslow xST_sleeper ne n_2) v1_2 v2_2 v3_35 xRow_people gRkinds gRlates gRhands gRslow xST_sleeper ne n_35) v1_2 v2_2 v3_35 v4_74 v5_74 xRow_people gRkinds gRlates gRhands gRslow xST_sleeper xST_lastDue_74 xST_unreached_74 gSTdue_74 gSTbusy_74 gSTfelt_74 gSTlost_74 gSTfirst_74 xDia_size_74 ne gDent_74 = some u → ∀ (H : Heap) (locs : List Loc), va_P (dC, dI) vwCl [oRow ad xRow_depth xRow_length xRow_people xRow_scarves xRow_main xRow_faultPlace, ar (ad 3) cA 20 gRkinds, ar (ad 4) cA 20 gRlates, ar (ad 5) cA 20 gRhands, ar (ad 6) cA 20 gRslow, oST ad xST_sleeper xST_lastDue_74 xST_unreached_74, ar (ad 10) cA 640 gSTdue_74, ar (ad 11) cA 20 gSTbusy_74, ar (ad 12) cA 20 gSTfelt_74, ar (ad 13) cA 20 gSTlost_74, ar (ad 14) cA 20 gSTfirst_74, oDia ad qe xDia_size_74, ar qe cA ne gDent_74] H → va_D A [oRow ad xRow_depth xRow_length xRow_people xRow_scarves xRow_main xRow_faultPlace, ar (ad 3) cA 20 gRkinds, ar (ad 4) cA 20 gRlates, ar (ad 5) cA 20 gRhands, ar (ad 6) cA 20 gRslow, oST ad xST_sleeper xST_lastDue_74 xST_unreached_74, ar (ad 10) cA 640 gSTdue_74, ar (ad 11) cA 20 gSTbusy_74, ar (ad 12) cA 20 gSTfelt_74, ar (ad 13) cA 20 gSTlost_74, ar (ad 14) cA 20 gSTfirst_74, oDia ad qe xDia_size_74, ar qe cA ne gDent_74] → va_S A s.heap H locs → ∀ ls : Array Slot, lv_has ls 6 [(0, .ref (ad 9)), (1, .int v1_2), (2, .int v2_2), (3, .int v3_35), (4, .int v4_74), (5, .int v5_74)] → W p l e (headSpec wsX8_feelAll ({ frames := 2, cells := 0, slots := 0, locals := 51 })).room s m ([.ref (ad 9), .int a1, .int a2] : List Value).toArray below meth c H locs 0 0 QQ (F0 m 74 ls []) := by
            intro v4_74 v5_74 xST_lastDue_74 xST_unreached_74 gSTdue_74 gSTbusy_74 gSTfelt_74 gSTlost_74 gSTfirst_74 xDia_size_74 gDent_74 hm H locs hP hD hS ls hl
            unfold fS_feelAll_T_74 at hm
            refine lv_iload hx hb dX8_feelAll_74 (lv_at hl 4 rfl) ?_
            refine lv_iconst (v := 1) hx hb dX8_feelAll_76 (by decide) ?_
            refine lv_ishr hx hb dX8_feelAll_77 ?_
            refine lv_istore (lv' := [(4, .int (v4_74 >>> (1 &&& 31))), (0, .ref (ad 9)), (1, .int v1_2), (2, .int v2_2), (3, .int v3_35), (5, .int v5_74)]) hx hb dX8_feelAll_78 hl (by decide) rfl (fun ls hl => ?_)
            refine lv_iinc (v := (v5_74 + 1)) (lv' := [(5, .int (v5_74 + 1)), (4, .int (v4_74 >>> (1 &&& 31))), (0, .ref (ad 9)), (1, .int v1_2), (2, .int v2_2), (3, .int v3_35)]) hx hb dX8_feelAll_80 hl (k := 5) rfl rfl (by decide) rfl (fun ls hl => ?_)
            refine lv_goto (tgt := 35) hx hb dX8_feelAll_83 (by decide) ?_
            exact ih_35 _ _ _ _ _ _ _ _ _ _ _ hm _ _ hP hD hS _ (lv_sub hl [2, 3, 4, 5, 1, 0] rfl)
          have b_71 : ∀ (v4_71 : Int32) (v5_71 : Int32) (s1_71 : Int32) (s2_71 : Int32) (s3_71 : Int32) (xST_lastDue_71 : Int32) (xST_unreached_71 : Int32) (gSTdue_71 : Nat → Int32) (gSTbusy_71 : Nat → Int32) (gSTfelt_71 : Nat → Int32) (gSTlost_71 : Nat → Int32) (gSTfirst_71 : Nat → Int32) (xDia_size_71 : Int32) (gDent_71 : Nat → Int32), fS_feelAll_T_71 (fS_feelAll_T_2  v1_2 v2_2 xRow_people gRkinds gRlates gRhands gRslow xST_sleeper ne n_2) (fS_feelAll_T_35 (fS_feelAll_T_2  v1_2 v2_2 xRow_people gRkinds gRlates gRhands gRslow xST_sleeper ne n_2) v1_2 v2_2 v3_35 xRow_people gRkinds gRlates gRhands gRslow xST_sleeper ne n_35) v1_2 v2_2 v3_35 v4_71 v5_71 s1_71 s2_71 s3_71 xRow_people gRkinds gRlates gRhands gRslow xST_sleeper xST_lastDue_71 xST_unreached_71 gSTdue_71 gSTbusy_71 gSTfelt_71 gSTlost_71 gSTfirst_71 xDia_size_71 ne gDent_71 = some u → ∀ (H : Heap) (locs : List Loc), va_P (dC, dI) vwCl [oRow ad xRow_depth xRow_length xRow_people xRow_scarves xRow_main xRow_faultPlace, ar (ad 3) cA 20 gRkinds, ar (ad 4) cA 20 gRlates, ar (ad 5) cA 20 gRhands, ar (ad 6) cA 20 gRslow, oST ad xST_sleeper xST_lastDue_71 xST_unreached_71, ar (ad 10) cA 640 gSTdue_71, ar (ad 11) cA 20 gSTbusy_71, ar (ad 12) cA 20 gSTfelt_71, ar (ad 13) cA 20 gSTlost_71, ar (ad 14) cA 20 gSTfirst_71, oDia ad qe xDia_size_71, ar qe cA ne gDent_71] H → va_D A [oRow ad xRow_depth xRow_length xRow_people xRow_scarves xRow_main xRow_faultPlace, ar (ad 3) cA 20 gRkinds, ar (ad 4) cA 20 gRlates, ar (ad 5) cA 20 gRhands, ar (ad 6) cA 20 gRslow, oST ad xST_sleeper xST_lastDue_71 xST_unreached_71, ar (ad 10) cA 640 gSTdue_71, ar (ad 11) cA 20 gSTbusy_71, ar (ad 12) cA 20 gSTfelt_71, ar (ad 13) cA 20 gSTlost_71, ar (ad 14) cA 20 gSTfirst_71, oDia ad qe xDia_size_71, ar qe cA ne gDent_71] → va_S A s.heap H locs → ∀ ls : Array Slot, lv_has ls 6 [(0, .ref (ad 9)), (1, .int v1_2), (2, .int v2_2), (3, .int v3_35), (4, .int v4_71), (5, .int v5_71)] → W p l e (headSpec wsX8_feelAll ({ frames := 2, cells := 0, slots := 0, locals := 51 })).room s m ([.ref (ad 9), .int a1, .int a2] : List Value).toArray below meth c H locs 0 0 QQ (F0 m 71 ls [.int s3_71, .int s2_71, .int s1_71, .ref (ad 9)]) := by
            intro v4_71 v5_71 s1_71 s2_71 s3_71 xST_lastDue_71 xST_unreached_71 gSTdue_71 gSTbusy_71 gSTfelt_71 gSTlost_71 gSTfirst_71 xDia_size_71 gDent_71 hm H locs hP hD hS ls hl
            unfold fS_feelAll_T_71 at hm
            have hPc := hP.sub (ws' := [oRow ad xRow_depth xRow_length xRow_people xRow_scarves xRow_main xRow_faultPlace, ar (ad 3) cA 20 gRkinds, ar (ad 4) cA 20 gRlates, ar (ad 5) cA 20 gRhands, ar (ad 6) cA 20 gRslow, oST ad xST_sleeper xST_lastDue_71 xST_unreached_71, ar (ad 10) cA 640 gSTdue_71, ar (ad 11) cA 20 gSTbusy_71, ar (ad 12) cA 20 gSTfelt_71, ar (ad 13) cA 20 gSTlost_71, ar (ad 14) cA 20 gSTfirst_71, oDia ad qe xDia_size_71, ar qe cA ne gDent_71]) [0, 1, 2, 3, 4, 5, 6, 7, 8, 9, 10, 11, 12] rfl
            have hDc := hD.sub (ws' := [oRow ad xRow_depth xRow_length xRow_people xRow_scarves xRow_main xRow_faultPlace, ar (ad 3) cA 20 gRkinds, ar (ad 4) cA 20 gRlates, ar (ad 5) cA 20 gRhands, ar (ad 6) cA 20 gRslow, oST ad xST_sleeper xST_lastDue_71 xST_unreached_71, ar (ad 10) cA 640 gSTdue_71, ar (ad 11) cA 20 gSTbusy_71, ar (ad 12) cA 20 gSTfelt_71, ar (ad 13) cA 20 gSTlost_71, ar (ad 14) cA 20 gSTfirst_71, oDia ad qe xDia_size_71, ar qe cA ne gDent_71]) [0, 1, 2, 3, 4, 5, 6, 7, 8, 9, 10, 11, 12] (by decide) rfl
            have hFc := va_free (wc := [oRow ad xRow_depth xRow_length xRow_people xRow_scarves xRow_main xRow_faultPlace, ar (ad 3) cA 20 gRkinds, ar (ad 4) cA 20 gRlates, ar (ad 5) cA 20 gRhands, ar (ad 6) cA 20 gRslow, oST ad xST_sleeper xST_lastDue_71 xST_unreached_71, ar (ad 10) cA 640 gSTdue_71, ar (ad 11) cA 20 gSTbusy_71, ar (ad 12) cA 20 gSTfelt_71, ar (ad 13) cA 20 gSTlost_71, ar (ad 14) cA 20 gSTfirst_71, oDia ad qe xDia_size_71, ar qe cA ne gDent_71]) hD hS hA [0, 1, 2, 3, 4, 5, 6, 7, 8, 9, 10, 11, 12] rfl
            obtain ⟨u_1, hc_1, hm⟩ := bd_ok hm
            refine va_callv (va_runV (As := [.int s1_71, .int s2_71, .int s3_71]) (rest := []) ⟨hx, hb, hml, hown, hts⟩ (kS_feelOne_T l dC dI cA ad qe H.size s1_71 s2_71 s3_71 xRow_depth xRow_length xRow_people xRow_scarves xRow_main xRow_faultPlace gRkinds gRlates gRhands gRslow xST_sleeper xST_lastDue_71 xST_unreached_71 gSTdue_71 gSTbusy_71 gSTfelt_71 gSTlost_71 gSTfirst_71 xDia_size_71 ne gDent_71 u_1 hc_1) (cwV 3 hts gX8_feelAll_X8_feelOne rfl rfl rfl (by decide +kernel) ⟨Nat.le_of_ble_eq_true rfl, Nat.le_of_ble_eq_true rfl⟩) ⟨fun a U g mk q => by obtain ⟨q0, q1, qP, qK, qD⟩ := q; exact ⟨q0, q1, qP, va_K.moved (u := U) (U := U.calling g mk a) (Vm.Alike.refl U.vm) qK, qD⟩, va_recv hK hPc (ci := 8) (q0 := 5) rfl rfl, fun U hU hW => ⟨rfl, by rw [hU], by rw [hU]; exact hPc, va_K.moved hW.alike hK, hDc.weaken (fun _ _ _ _ => trivial)⟩⟩ rfl rfl hl.1 rfl (lv_room (Nat.le_of_ble_eq_true rfl)) dX8_feelAll_71 ⟨Nat.le_of_ble_eq_true rfl, Nat.le_of_ble_eq_true rfl⟩) hS (fun q _ h => hFc q h) hFc (fun _ t H1 locs ht hvm hw hB hz1 hk1 hS => ?_)
            obtain ⟨hP1, hK1, hD1⟩ := hB
            rw [ht] at hP1
            obtain ⟨hP, hD⟩ := va_join (wr := []) (w1 := [oRow ad xRow_depth xRow_length xRow_people xRow_scarves xRow_main xRow_faultPlace, ar (ad 3) cA 20 gRkinds, ar (ad 4) cA 20 gRlates, ar (ad 5) cA 20 gRhands, ar (ad 6) cA 20 gRslow, oST ad xST_sleeper u_1.1 u_1.2.1, ar (ad 10) cA 640 u_1.2.2.1, ar (ad 11) cA 20 u_1.2.2.2.1, ar (ad 12) cA 20 u_1.2.2.2.2.1, ar (ad 13) cA 20 u_1.2.2.2.2.2.1, ar (ad 14) cA 20 u_1.2.2.2.2.2.2.1, oDia ad qe u_1.2.2.2.2.2.2.2.1, ar qe cA ne u_1.2.2.2.2.2.2.2.2]) hP hD [0, 1, 2, 3, 4, 5, 6, 7, 8, 9, 10, 11, 12] [] rfl rfl (by decide) (by decide) hk1 hFc hP1 hD1
            clear hPc hDc hFc hP1 hK1 hD1 hk1 hz1 hvm ht
            generalize H1 = H at hP hS ⊢
            have hP : va_P (dC, dI) vwCl [oRow ad xRow_depth xRow_length xRow_people xRow_scarves xRow_main xRow_faultPlace, ar (ad 3) cA 20 gRkinds, ar (ad 4) cA 20 gRlates, ar (ad 5) cA 20 gRhands, ar (ad 6) cA 20 gRslow, oST ad xST_sleeper u_1.1 u_1.2.1, ar (ad 10) cA 640 u_1.2.2.1, ar (ad 11) cA 20 u_1.2.2.2.1, ar (ad 12) cA 20 u_1.2.2.2.2.1, ar (ad 13) cA 20 u_1.2.2.2.2.2.1, ar (ad 14) cA 20 u_1.2.2.2.2.2.2.1, oDia ad qe u_1.2.2.2.2.2.2.2.1, ar qe cA ne u_1.2.2.2.2.2.2.2.2] H := hP
            have hD : va_D A [oRow ad xRow_depth xRow_length xRow_people xRow_scarves xRow_main xRow_faultPlace, ar (ad 3) cA 20 gRkinds, ar (ad 4) cA 20 gRlates, ar (ad 5) cA 20 gRhands, ar (ad 6) cA 20 gRslow, oST ad xST_sleeper u_1.1 u_1.2.1, ar (ad 10) cA 640 u_1.2.2.1, ar (ad 11) cA 20 u_1.2.2.2.1, ar (ad 12) cA 20 u_1.2.2.2.2.1, ar (ad 13) cA 20 u_1.2.2.2.2.2.1, ar (ad 14) cA 20 u_1.2.2.2.2.2.2.1, oDia ad qe u_1.2.2.2.2.2.2.2.1, ar qe cA ne u_1.2.2.2.2.2.2.2.2] := hD
            exact b_74 _ _ _ _ _ _ _ _ _ _ _ hm _ _ hP hD hS _ (lv_sub hl [0, 1, 2, 3, 4, 5] rfl)
          intro v4_35 v5_35 xST_lastDue_35 xST_unreached_35 gSTdue_35 gSTbusy_35 gSTfelt_35 gSTlost_35 gSTfirst_35 xDia_size_35 gDent_35 hm H locs hP hD hS ls hl
          have hm : fS_feelAll_T_35_b (fS_feelAll_T_2  v1_2 v2_2 xRow_people gRkinds gRlates gRhands gRslow xST_sleeper ne n_2) (fS_feelAll_T_35 (fS_feelAll_T_2  v1_2 v2_2 xRow_people gRkinds gRlates gRhands gRslow xST_sleeper ne n_2) v1_2 v2_2 v3_35 xRow_people gRkinds gRlates gRhands gRslow xST_sleeper ne n_35) v1_2 v2_2 v3_35 xRow_people gRkinds gRlates gRhands gRslow xST_sleeper ne v4_35 v5_35 xST_lastDue_35 xST_unreached_35 gSTdue_35 gSTbusy_35 gSTfelt_35 gSTlost_35 gSTfirst_35 xDia_size_35 gDent_35 = some u := hm
          unfold fS_feelAll_T_35_b at hm
          refine lv_iload hx hb dX8_feelAll_35 (lv_at hl 4 rfl) ?_
          refine lv_if_eq (tgt := 86) hx hb dX8_feelAll_37 (by decide) (fun c_2 => ?_) (fun c_2 => ?_)
          · have hm := it_pos c_2 hm
            exact b_86 _ _ _ _ _ _ _ _ _ _ hm _ _ hP hD hS _ (lv_sub hl [0, 1, 2, 3] rfl)
          · have hm := it_neg c_2 hm
            refine lv_iload hx hb dX8_feelAll_40 (lv_at hl 5 rfl) ?_
            refine lv_bipush (v := 22) hx hb dX8_feelAll_42 (by decide) ?_
            refine lv_icmp_ge (tgt := 86) hx hb dX8_feelAll_44 (by decide) (fun c_3 => ?_) (fun c_3 => ?_)
            · have hm := it_pos c_3 hm
              exact b_86 _ _ _ _ _ _ _ _ _ _ hm _ _ hP hD hS _ (lv_sub hl [0, 1, 2, 3] rfl)
            · have hm := it_neg c_3 hm
              refine lv_iload hx hb dX8_feelAll_47 (lv_at hl 4 rfl) ?_
              refine lv_iconst (v := 1) hx hb dX8_feelAll_49 (by decide) ?_
              refine lv_iand hx hb dX8_feelAll_50 ?_
              refine lv_if_eq (tgt := 74) hx hb dX8_feelAll_51 (by decide) (fun c_4 => ?_) (fun c_4 => ?_)
              · have hm := it_pos c_4 hm
                exact b_74 _ _ _ _ _ _ _ _ _ _ _ hm _ _ hP hD hS _ (lv_sub hl [0, 1, 2, 3, 4, 5] rfl)
              · have hm := it_neg c_4 hm
                refine lv_aload_n hx hb dX8_feelAll_54 rfl (lv_at hl 0 rfl) ?_
                refine lv_iload_n hx hb dX8_feelAll_55 rfl (lv_at hl 3 rfl) ?_
                refine lv_iload_n hx hb dX8_feelAll_56 rfl (lv_at hl 1 rfl) ?_
                refine lv_iload hx hb dX8_feelAll_57 (lv_at hl 5 rfl) ?_
                refine lv_iconst (v := 2) hx hb dX8_feelAll_59 (by decide) ?_
                refine lv_icmp_ge (tgt := 67) hx hb dX8_feelAll_60 (by decide) (fun c_5 => ?_) (fun c_5 => ?_)
                · have hm := it_pos c_5 hm
                  refine lv_iload hx hb dX8_feelAll_67 (lv_at hl 5 rfl) ?_
                  refine lv_iconst (v := 2) hx hb dX8_feelAll_69 (by decide) ?_
                  refine lv_isub hx hb dX8_feelAll_70 ?_
                  exact b_71 _ _ _ _ _ _ _ _ _ _ _ _ _ _ hm _ _ hP hD hS _ (lv_sub hl [0, 1, 2, 3, 4, 5] rfl)
                · have hm := it_neg c_5 hm
                  refine lv_iconst (v := (-1)) hx hb dX8_feelAll_63 (by decide) ?_
                  refine lv_goto (tgt := 71) hx hb dX8_feelAll_64 (by decide) ?_
                  exact b_71 _ _ _ _ _ _ _ _ _ _ _ _ _ _ hm _ _ hP hD hS _ (lv_sub hl [0, 1, 2, 3, 4, 5] rfl)
      intro v3_2 xST_lastDue_2 xST_unreached_2 gSTdue_2 gSTbusy_2 gSTfelt_2 gSTlost_2 gSTfirst_2 xDia_size_2 gDent_2 hm H locs hP hD hS ls hl
      have hm : fS_feelAll_T_2_b  (fS_feelAll_T_2  v1_2 v2_2 xRow_people gRkinds gRlates gRhands gRslow xST_sleeper ne n_2) v1_2 v2_2 xRow_people gRkinds gRlates gRhands gRslow xST_sleeper ne v3_2 xST_lastDue_2 xST_unreached_2 gSTdue_2 gSTbusy_2 gSTfelt_2 gSTlost_2 gSTfirst_2 xDia_size_2 gDent_2 = some u := hm
      unfold fS_feelAll_T_2_b at hm
      refine lv_iload_n hx hb dX8_feelAll_2 rfl (lv_at hl 3 rfl) ?_
      refine lv_aload_n hx hb dX8_feelAll_3 rfl (lv_at hl 0 rfl) ?_
      refine va_get (D := (dC, dI)) (ci := 8) (v := .ref (ad 1)) (C := RX8) (T := TX8) (N := 10) hx hb hts hinX8 hown hK hP 5 rfl rfl 0 (by decide) hl_9 (fun _ h9 => h9) rfl dX8_feelAll_4 ?_
      refine va_get (D := (dC, dI)) (ci := 5) (v := .int xRow_people) (C := RX5) (T := TX5) (N := 13) hx hb hts hinX5 hown hK hP 0 rfl rfl 9 (by decide) hl_42 (fun _ h9 => h9) rfl dX8_feelAll_7 ?_
      refine lv_icmp_ge (tgt := 92) hx hb dX8_feelAll_10 (by decide) (fun c_6 => ?_) (fun c_6 => ?_)
      · have hm := it_pos c_6 hm
        obtain rfl := Option.some.inj hm
        subst hQ
        exact W.vret hx hb hr (fun t ht hW => ⟨⟨(), rfl, trivial, by rw [ht]; exact hP, va_K.moved hW.alike hK, hAe ▸ hD⟩, hS.F ht⟩) hS.2.2 dX8_feelAll_92
      · have hm := it_neg c_6 hm
        refine lv_aload_n hx hb dX8_feelAll_13 rfl (lv_at hl 0 rfl) ?_
        refine va_get (D := (dC, dI)) (ci := 8) (v := .ref (ad 10)) (C := RX8) (T := TX8) (N := 10) hx hb hts hinX8 hown hK hP 5 rfl rfl 2 (by decide) hl_19 (fun _ h9 => h9) rfl dX8_feelAll_14 ?_
        refine lv_iload_n hx hb dX8_feelAll_17 rfl (lv_at hl 2 rfl) ?_
        refine lv_iload_n hx hb dX8_feelAll_18 rfl (lv_at hl 3 rfl) ?_
        refine lv_iadd hx hb dX8_feelAll_19 ?_
        obtain ⟨i_7, hm⟩ := ck_ok hm
        refine va_iald hx hb hK hP 6 0 rfl rfl i_7 dX8_feelAll_20 ?_
        refine lv_istore (lv' := [(4, .int (gSTdue_2 (v2_2 + v3_2).toNatClampNeg)), (0, .ref (ad 9)), (1, .int v1_2), (2, .int v2_2), (3, .int v3_2)]) hx hb dX8_feelAll_21 hl (by decide) rfl (fun ls hl => ?_)
        refine lv_aload_n hx hb dX8_feelAll_23 rfl (lv_at hl 1 rfl) ?_
        refine va_get (D := (dC, dI)) (ci := 8) (v := .ref (ad 10)) (C := RX8) (T := TX8) (N := 10) hx hb hts hinX8 hown hK hP 5 rfl rfl 2 (by decide) hl_19 (fun _ h9 => h9) rfl dX8_feelAll_24 ?_
        refine lv_iload_n hx hb dX8_feelAll_27 rfl (lv_at hl 3 rfl) ?_
        refine lv_iload_n hx hb dX8_feelAll_28 rfl (lv_at hl 4 rfl) ?_
        refine lv_iadd hx hb dX8_feelAll_29 ?_
        refine lv_iconst (v := 0) hx hb dX8_feelAll_30 (by decide) ?_
        obtain ⟨i_8, hm⟩ := ck_ok hm
        refine va_iast hx hb hK hP hD hS 6 0 rfl rfl i_8 dX8_feelAll_31 (fun H locs hP hD hS => ?_)
        have hP : va_P (dC, dI) vwCl [oRow ad xRow_depth xRow_length xRow_people xRow_scarves xRow_main xRow_faultPlace, ar (ad 3) cA 20 gRkinds, ar (ad 4) cA 20 gRlates, ar (ad 5) cA 20 gRhands, ar (ad 6) cA 20 gRslow, oST ad xST_sleeper xST_lastDue_2 xST_unreached_2, ar (ad 10) cA 640 (upd gSTdue_2 (v2_2 + v3_2).toNatClampNeg 0), ar (ad 11) cA 20 gSTbusy_2, ar (ad 12) cA 20 gSTfelt_2, ar (ad 13) cA 20 gSTlost_2, ar (ad 14) cA 20 gSTfirst_2, oDia ad qe xDia_size_2, ar qe cA ne gDent_2] H := hP
        have hD : va_D A [oRow ad xRow_depth xRow_length xRow_people xRow_scarves xRow_main xRow_faultPlace, ar (ad 3) cA 20 gRkinds, ar (ad 4) cA 20 gRlates, ar (ad 5) cA 20 gRhands, ar (ad 6) cA 20 gRslow, oST ad xST_sleeper xST_lastDue_2 xST_unreached_2, ar (ad 10) cA 640 (upd gSTdue_2 (v2_2 + v3_2).toNatClampNeg 0), ar (ad 11) cA 20 gSTbusy_2, ar (ad 12) cA 20 gSTfelt_2, ar (ad 13) cA 20 gSTlost_2, ar (ad 14) cA 20 gSTfirst_2, oDia ad qe xDia_size_2, ar qe cA ne gDent_2] := hD
        refine lv_iconst (v := 0) hx hb dX8_feelAll_32 (by decide) ?_
        refine lv_istore (lv' := [(5, .int 0), (4, .int (gSTdue_2 (v2_2 + v3_2).toNatClampNeg)), (0, .ref (ad 9)), (1, .int v1_2), (2, .int v2_2), (3, .int v3_2)]) hx hb dX8_feelAll_33 hl (by decide) rfl (fun ls hl => ?_)
        exact h_35 _ _ _ _ _ _ _ _ _ _ _ _ _ hm _ _ hP hD hS _ (lv_sub hl [2, 3, 4, 5, 1, 0] rfl)
  unfold fS_feelAll_T at hm
  refine lv_iconst (v := 0) hx hb dX8_feelAll_0 (by decide) ?_
  refine lv_istore_n (lv' := [(3, .int 0), (0, .ref (ad 9)), (1, .int a1), (2, .int a2)]) hx hb dX8_feelAll_1 rfl hl (by decide) rfl (fun ls hl => ?_)
  exact h_2 _ _ _ _ _ _ _ _ _ _ _ _ _ hm _ _ hP hD hS _ (lv_sub hl [1, 2, 3, 0] rfl)

set_option maxHeartbeats 4000000 in
set_option maxRecDepth 100000 in
theorem kS_run_T (l : Launch) (dC : Nat → ClassId) (dI : Nat → Nat → Nat) (cA : ClassId) (ad : Nat → Nat) (qe : Nat) (sz : Nat) (a1 : Int32) (a2 : Int32) (a3 : Int32) (a4 : Int32) (xRow_depth : Int32) (xRow_length : Int32) (xRow_people : Int32) (xRow_scarves : Int32) (xRow_main : Int32) (xRow_faultPlace : Int32) (gRkinds : Nat → Int32) (gRlates : Nat → Int32) (gRhands : Nat → Int32) (gRslow : Nat → Int32) (xST_sleeper : Int32) (xST_lastDue : Int32) (xST_unreached : Int32) (gSTdue : Nat → Int32) (gSTbusy : Nat → Int32) (gSTfelt : Nat → Int32) (gSTlost : Nat → Int32) (gSTfirst : Nat → Int32) (xDia_size : Int32) (ne : Nat) (gDent : Nat → Int32) (u : Int32 × Int32 × Int32 × (Nat → Int32) × (Nat → Int32) × (Nat → Int32) × (Nat → Int32) × (Nat → Int32) × Int32 × Nat × (Nat → Int32)) (hm : fS_run_T a1 a2 a3 a4 xRow_people gRkinds gRlates gRhands gRslow xST_sleeper xST_lastDue xST_unreached gSTdue gSTbusy gSTfelt gSTlost gSTfirst xDia_size ne gDent = some u) : Met l yX8_run wsX8_run ({ frames := 3, cells := (u.2.2.2.2.2.2.2.2.2.1 - ne), slots := (2 * (u.2.2.2.2.2.2.2.2.2.1 - ne)), locals := 76 }) (va_Pc [.ref (ad 9), .int a1, .int a2, .int a3, .int a4] (fun U => U.heap.size = sz ∧ va_P (dC, dI) vwCl [oRow ad xRow_depth xRow_length xRow_people xRow_scarves xRow_main xRow_faultPlace, ar (ad 3) cA 20 gRkinds, ar (ad 4) cA 20 gRlates, ar (ad 5) cA 20 gRhands, ar (ad 6) cA 20 gRslow, oST ad xST_sleeper xST_lastDue xST_unreached, ar (ad 10) cA 640 gSTdue, ar (ad 11) cA 20 gSTbusy, ar (ad 12) cA 20 gSTfelt, ar (ad 13) cA 20 gSTlost, ar (ad 14) cA 20 gSTfirst, oDia ad qe xDia_size, ar qe cA ne gDent] U.heap ∧ va_K (dC, dI) vwCl [(cA, .int)] U ∧ va_D (fun _ => True) [oRow ad xRow_depth xRow_length xRow_people xRow_scarves xRow_main xRow_faultPlace, ar (ad 3) cA 20 gRkinds, ar (ad 4) cA 20 gRlates, ar (ad 5) cA 20 gRhands, ar (ad 6) cA 20 gRslow, oST ad xST_sleeper xST_lastDue xST_unreached, ar (ad 10) cA 640 gSTdue, ar (ad 11) cA 20 gSTbusy, ar (ad 12) cA 20 gSTfelt, ar (ad 13) cA 20 gSTlost, ar (ad 14) cA 20 gSTfirst, oDia ad qe xDia_size, ar qe cA ne gDent])) (va_Qv (fun (_ : Nat) => True) (fun (qe2 : Nat) t => va_P (dC, dI) vwCl [oRow ad xRow_depth xRow_length xRow_people xRow_scarves xRow_main xRow_faultPlace, ar (ad 3) cA 20 gRkinds, ar (ad 4) cA 20 gRlates, ar (ad 5) cA 20 gRhands, ar (ad 6) cA 20 gRslow, oST ad u.1 u.2.1 u.2.2.1, ar (ad 10) cA 640 u.2.2.2.1, ar (ad 11) cA 20 u.2.2.2.2.1, ar (ad 12) cA 20 u.2.2.2.2.2.1, ar (ad 13) cA 20 u.2.2.2.2.2.2.1, ar (ad 14) cA 20 u.2.2.2.2.2.2.2.1, oDia ad qe2 u.2.2.2.2.2.2.2.2.1, ar qe2 cA u.2.2.2.2.2.2.2.2.2.1 u.2.2.2.2.2.2.2.2.2.2] t.heap ∧ va_K (dC, dI) vwCl [(cA, .int)] t ∧ va_D (va_A [oRow ad xRow_depth xRow_length xRow_people xRow_scarves xRow_main xRow_faultPlace, ar (ad 3) cA 20 gRkinds, ar (ad 4) cA 20 gRlates, ar (ad 5) cA 20 gRhands, ar (ad 6) cA 20 gRslow, oST ad xST_sleeper xST_lastDue xST_unreached, ar (ad 10) cA 640 gSTdue, ar (ad 11) cA 20 gSTbusy, ar (ad 12) cA 20 gSTfelt, ar (ad 13) cA 20 gSTlost, ar (ad 14) cA 20 gSTfirst, oDia ad qe xDia_size, ar qe cA ne gDent] sz) [oRow ad xRow_depth xRow_length xRow_people xRow_scarves xRow_main xRow_faultPlace, ar (ad 3) cA 20 gRkinds, ar (ad 4) cA 20 gRlates, ar (ad 5) cA 20 gRhands, ar (ad 6) cA 20 gRslow, oST ad u.1 u.2.1 u.2.2.1, ar (ad 10) cA 640 u.2.2.2.1, ar (ad 11) cA 20 u.2.2.2.2.1, ar (ad 12) cA 20 u.2.2.2.2.2.1, ar (ad 13) cA 20 u.2.2.2.2.2.2.1, ar (ad 14) cA 20 u.2.2.2.2.2.2.2.1, oDia ad qe2 u.2.2.2.2.2.2.2.2.1, ar qe2 cA u.2.2.2.2.2.2.2.2.2.1 u.2.2.2.2.2.2.2.2.2.2]) (va_A [oRow ad xRow_depth xRow_length xRow_people xRow_scarves xRow_main xRow_faultPlace, ar (ad 3) cA 20 gRkinds, ar (ad 4) cA 20 gRlates, ar (ad 5) cA 20 gRhands, ar (ad 6) cA 20 gRslow, oST ad xST_sleeper xST_lastDue xST_unreached, ar (ad 10) cA 640 gSTdue, ar (ad 11) cA 20 gSTbusy, ar (ad 12) cA 20 gSTfelt, ar (ad 13) cA 20 gSTlost, ar (ad 14) cA 20 gSTfirst, oDia ad qe xDia_size, ar qe cA ne gDent] sz)) (u.2.2.2.2.2.2.2.2.2.1 - ne) (2 * (u.2.2.2.2.2.2.2.2.2.1 - ne)) (va_A [oRow ad xRow_depth xRow_length xRow_people xRow_scarves xRow_main xRow_faultPlace, ar (ad 3) cA 20 gRkinds, ar (ad 4) cA 20 gRlates, ar (ad 5) cA 20 gRhands, ar (ad 6) cA 20 gRslow, oST ad xST_sleeper xST_lastDue xST_unreached, ar (ad 10) cA 640 gSTdue, ar (ad 11) cA 20 gSTbusy, ar (ad 12) cA 20 gSTfelt, ar (ad 13) cA 20 gSTlost, ar (ad 14) cA 20 gSTfirst, oDia ad qe xDia_size, ar qe cA ne gDent] sz) := by
  refine Met.ofW (cc := cX8_run) (maxL := 8) (ret := none) (by decide) rfl ?_
  intro p e s m args below meth c s₁ B hml hv
  obtain ⟨rfl, hsz, hP, hK, hD0⟩ := hv
  have hx := B.exec
  have hb := B.bytes
  have hr := B.returns
  have hts := atoms_spec (ws := wsX8_run) B.pre
  have hown : s.vm.findClass RX8 = some m.cls := findClass_of_methodNamed B.named
  have hlocks := B.notSynchronized
  subst hsz
  have hD := hD0.self (sz := s.heap.size)
  generalize hAe : va_A [oRow ad xRow_depth xRow_length xRow_people xRow_scarves xRow_main xRow_faultPlace, ar (ad 3) cA 20 gRkinds, ar (ad 4) cA 20 gRlates, ar (ad 5) cA 20 gRhands, ar (ad 6) cA 20 gRslow, oST ad xST_sleeper xST_lastDue xST_unreached, ar (ad 10) cA 640 gSTdue, ar (ad 11) cA 20 gSTbusy, ar (ad 12) cA 20 gSTfelt, ar (ad 13) cA 20 gSTlost, ar (ad 14) cA 20 gSTfirst, oDia ad qe xDia_size, ar qe cA ne gDent] s.heap.size = A at hD ⊢
  have hA : ∀ q : Nat, s.heap.size ≤ q → A q := fun q h => by rw [← hAe]; exact Or.inr h
  have hS : va_S A s.heap s.heap [] := va_S.rf
  have hl := lv_entry ([.ref (ad 9), .int a1, .int a2, .int a3, .int a4]) (n := 8) (Nat.le_of_ble_eq_true rfl)
  rw [lg_entry_eq]
  generalize (lg_sl ([.ref (ad 9), .int a1, .int a2, .int a3, .int a4]) ++ List.replicate (8 - (lg_sl ([.ref (ad 9), .int a1, .int a2, .int a3, .int a4])).length) Slot.unset).toArray = ls at hl ⊢
  have hl : lv_has ls 8 [(0, .ref (ad 9)), (1, .int a1), (2, .int a2), (3, .int a3), (4, .int a4)] := hl
  refine wk_Q (fun QQ hQ => ?_)
  have hinX8 : ∀ w ∈ wsX80, w ∈ wsX8_run := fun w h => List.mem_cons_of_mem _ (inlX8 w h)
  have hl_15 := hts (.fieldLink RX8 15 "HandCensus$Squeeze" "diary" "LHandCensus$Diary;") (List.mem_cons_of_mem _ (in_r4 _ (List.mem_of_getElem? (i := 3) rfl)))
  have hl_47 := hts (.fieldLink RX8 47 "HandCensus$Squeeze" "lastDue" "I") (List.mem_cons_of_mem _ (in_r14 _ (List.mem_of_getElem? (i := 20) rfl)))
  have hl_19 := hts (.fieldLink RX8 19 "HandCensus$Squeeze" "due" "[I") (List.mem_cons_of_mem _ (in_r4 _ (List.mem_of_getElem? (i := 4) rfl)))
  have hl_9 := hts (.fieldLink RX8 9 "HandCensus$Squeeze" "row" "LHandCensus$Row;") (List.mem_cons_of_mem _ (in_r4 _ (List.mem_of_getElem? (i := 2) rfl)))
  have hinX5 : ∀ w ∈ wsX50, w ∈ wsX8_run := fun w h => List.mem_cons_of_mem _ (inlX5 w h)
  have hl_42 := hts (.fieldLink RX8 42 "HandCensus$Row" "people" "I") (List.mem_cons_of_mem _ (in_r14 _ (List.mem_of_getElem? (i := 19) rfl)))
  have hl_38 := hts (.fieldLink RX8 38 "HandCensus$Squeeze" "sleeper" "I") (List.mem_cons_of_mem _ (in_r14 _ (List.mem_of_getElem? (i := 18) rfl)))
  have h_72 : ∀ (v2_72 : Int32) (v3_72 : Int32) (v5_72 : Int32) (xST_sleeper_72 : Int32), ∀ (n_72 : Nat), ∀ (v6_72 : Int32) (xST_lastDue_72 : Int32) (xST_unreached_72 : Int32) (gSTdue_72 : Nat → Int32) (gSTbusy_72 : Nat → Int32) (gSTfelt_72 : Nat → Int32) (gSTlost_72 : Nat → Int32) (gSTfirst_72 : Nat → Int32) (xDia_size_72 : Int32) (ne_72 : Nat) (gDent_72 : Nat → Int32), fS_run_T_72 v2_72 v3_72 v5_72 xRow_people gRkinds gRlates gRhands gRslow xST_sleeper_72 n_72 v6_72 xST_lastDue_72 xST_unreached_72 gSTdue_72 gSTbusy_72 gSTfelt_72 gSTlost_72 gSTfirst_72 xDia_size_72 ne_72 gDent_72 = some u → ∀ (qe_72 : Nat) (H : Heap) (locs : List Loc), ne ≤ ne_72 → ne_72 ≤ u.2.2.2.2.2.2.2.2.2.1 → va_P (dC, dI) vwCl [oRow ad xRow_depth xRow_length xRow_people xRow_scarves xRow_main xRow_faultPlace, ar (ad 3) cA 20 gRkinds, ar (ad 4) cA 20 gRlates, ar (ad 5) cA 20 gRhands, ar (ad 6) cA 20 gRslow, oST ad xST_sleeper_72 xST_lastDue_72 xST_unreached_72, ar (ad 10) cA 640 gSTdue_72, ar (ad 11) cA 20 gSTbusy_72, ar (ad 12) cA 20 gSTfelt_72, ar (ad 13) cA 20 gSTlost_72, ar (ad 14) cA 20 gSTfirst_72, oDia ad qe_72 xDia_size_72, ar qe_72 cA ne_72 gDent_72] H → va_D A [oRow ad xRow_depth xRow_length xRow_people xRow_scarves xRow_main xRow_faultPlace, ar (ad 3) cA 20 gRkinds, ar (ad 4) cA 20 gRlates, ar (ad 5) cA 20 gRhands, ar (ad 6) cA 20 gRslow, oST ad xST_sleeper_72 xST_lastDue_72 xST_unreached_72, ar (ad 10) cA 640 gSTdue_72, ar (ad 11) cA 20 gSTbusy_72, ar (ad 12) cA 20 gSTfelt_72, ar (ad 13) cA 20 gSTlost_72, ar (ad 14) cA 20 gSTfirst_72, oDia ad qe_72 xDia_size_72, ar qe_72 cA ne_72 gDent_72] → va_S A s.heap H locs → ∀ ls : Array Slot, lv_has ls 8 [(0, .ref (ad 9)), (2, .int v2_72), (3, .int v3_72), (5, .int v5_72), (6, .int v6_72)] → W p l e (headSpec wsX8_run ({ frames := 3, cells := (u.2.2.2.2.2.2.2.2.2.1 - ne), slots := (2 * (u.2.2.2.2.2.2.2.2.2.1 - ne)), locals := 76 })).room s m ([.ref (ad 9), .int a1, .int a2, .int a3, .int a4] : List Value).toArray below meth c H locs (ne_72 - ne) (2 * (ne_72 - ne)) QQ (F0 m 72 ls []) := by
    intro v2_72 v3_72 v5_72 xST_sleeper_72
    intro n_72
    induction n_72 with
    | zero => intro v6_72 xST_lastDue_72 xST_unreached_72 gSTdue_72 gSTbusy_72 gSTfelt_72 gSTlost_72 gSTfirst_72 xDia_size_72 ne_72 gDent_72 hm; have hm : (none : Option (Int32 × Int32 × Int32 × (Nat → Int32) × (Nat → Int32) × (Nat → Int32) × (Nat → Int32) × (Nat → Int32) × Int32 × Nat × (Nat → Int32))) = some u := hm; cases hm
    | succ n_72 ih_72 =>
      have b_137 : ∀ (v6_137 : Int32) (v7_137 : Int32) (xST_lastDue_137 : Int32) (xST_unreached_137 : Int32) (gSTdue_137 : Nat → Int32) (gSTbusy_137 : Nat → Int32) (gSTfelt_137 : Nat → Int32) (gSTlost_137 : Nat → Int32) (gSTfirst_137 : Nat → Int32) (xDia_size_137 : Int32) (ne_137 : Nat) (gDent_137 : Nat → Int32), fS_run_T_137 (fS_run_T_72  v2_72 v3_72 v5_72 xRow_people gRkinds gRlates gRhands gRslow xST_sleeper_72 n_72) v2_72 v3_72 v5_72 v6_137 v7_137 xRow_people gRkinds gRlates gRhands gRslow xST_sleeper_72 xST_lastDue_137 xST_unreached_137 gSTdue_137 gSTbusy_137 gSTfelt_137 gSTlost_137 gSTfirst_137 xDia_size_137 ne_137 gDent_137 = some u → ∀ (qe_137 : Nat) (H : Heap) (locs : List Loc), ne ≤ ne_137 → ne_137 ≤ u.2.2.2.2.2.2.2.2.2.1 → va_P (dC, dI) vwCl [oRow ad xRow_depth xRow_length xRow_people xRow_scarves xRow_main xRow_faultPlace, ar (ad 3) cA 20 gRkinds, ar (ad 4) cA 20 gRlates, ar (ad 5) cA 20 gRhands, ar (ad 6) cA 20 gRslow, oST ad xST_sleeper_72 xST_lastDue_137 xST_unreached_137, ar (ad 10) cA 640 gSTdue_137, ar (ad 11) cA 20 gSTbusy_137, ar (ad 12) cA 20 gSTfelt_137, ar (ad 13) cA 20 gSTlost_137, ar (ad 14) cA 20 gSTfirst_137, oDia ad qe_137 xDia_size_137, ar qe_137 cA ne_137 gDent_137] H → va_D A [oRow ad xRow_depth xRow_length xRow_people xRow_scarves xRow_main xRow_faultPlace, ar (ad 3) cA 20 gRkinds, ar (ad 4) cA 20 gRlates, ar (ad 5) cA 20 gRhands, ar (ad 6) cA 20 gRslow, oST ad xST_sleeper_72 xST_lastDue_137 xST_unreached_137, ar (ad 10) cA 640 gSTdue_137, ar (ad 11) cA 20 gSTbusy_137, ar (ad 12) cA 20 gSTfelt_137, ar (ad 13) cA 20 gSTlost_137, ar (ad 14) cA 20 gSTfirst_137, oDia ad qe_137 xDia_size_137, ar qe_137 cA ne_137 gDent_137] → va_S A s.heap H locs → ∀ ls : Array Slot, lv_has ls 8 [(0, .ref (ad 9)), (2, .int v2_72), (3, .int v3_72), (5, .int v5_72), (6, .int v6_137), (7, .int v7_137)] → W p l e (headSpec wsX8_run ({ frames := 3, cells := (u.2.2.2.2.2.2.2.2.2.1 - ne), slots := (2 * (u.2.2.2.2.2.2.2.2.2.1 - ne)), locals := 76 })).room s m ([.ref (ad 9), .int a1, .int a2, .int a3, .int a4] : List Value).toArray below meth c H locs (ne_137 - ne) (2 * (ne_137 - ne)) QQ (F0 m 137 ls []) := by
        intro v6_137 v7_137 xST_lastDue_137 xST_unreached_137 gSTdue_137 gSTbusy_137 gSTfelt_137 gSTlost_137 gSTfirst_137 xDia_size_137 ne_137 gDent_137 hm qe_137 H locs hne hnu hP hD hS ls hl
        unfold fS_run_T_137 at hm
        refine lv_aload_n hx hb dX8_run_137 rfl (lv_at hl 0 rfl) ?_
        refine va_get (D := (dC, dI)) (ci := 8) (v := .ref (ad 15)) (C := RX8) (T := TX8) (N := 10) hx hb hts hinX8 hown hK hP 5 rfl rfl 1 (by decide) hl_15 (fun _ h9 => h9) rfl dX8_run_138 ?_
        refine lv_ifnull hx hb dX8_run_141 ?_
        refine lv_aload_n hx hb dX8_run_144 rfl (lv_at hl 0 rfl) ?_
        refine va_get (D := (dC, dI)) (ci := 8) (v := .ref (ad 15)) (C := RX8) (T := TX8) (N := 10) hx hb hts hinX8 hown hK hP 5 rfl rfl 1 (by decide) hl_15 (fun _ h9 => h9) rfl dX8_run_145 ?_
        refine lv_bipush (v := 64) hx hb dX8_run_148 (by decide) ?_
        have hPc := hP.sub (ws' := [oDia ad qe_137 xDia_size_137, ar qe_137 cA ne_137 gDent_137]) [11, 12] rfl
        have hDc := hD.sub (ws' := [oDia ad qe_137 xDia_size_137, ar qe_137 cA ne_137 gDent_137]) [11, 12] (by decide) rfl
        have hFc := va_free (wc := [oDia ad qe_137 xDia_size_137, ar qe_137 cA ne_137 gDent_137]) hD hS hA [11, 12] rfl
        obtain ⟨u_1, hc_1, hn1_1, hn2_1, hm⟩ := bm_ok hm
        have hn1_1 : ne_137 ≤ u_1.1 := hn1_1
        have hn2_1 : u_1.1 ≤ u.2.2.2.2.2.2.2.2.2.1 := hn2_1
        refine va_callv (va_runV (As := [.int 64]) (rest := []) ⟨hx, hb, hml, hown, hts⟩ (kD_makeRoom l dC dI cA ad qe_137 H.size 64 xDia_size_137 ne_137 gDent_137 u_1 hc_1) (cwV 1 hts gX8_run_X1_makeRoom rfl rfl rfl (by decide +kernel) ⟨Nat.le_of_ble_eq_true rfl, Nat.le_of_ble_eq_true rfl⟩) ⟨fun a U g mk q => by obtain ⟨q0, q1, qP, qK, qD⟩ := q; exact ⟨q0, q1, qP, va_K.moved (u := U) (U := U.calling g mk a) (Vm.Alike.refl U.vm) qK, qD⟩, va_recv hK hPc (ci := 1) (q0 := 0) rfl rfl, fun U hU hW => ⟨rfl, by rw [hU], by rw [hU]; exact hPc, va_K.moved hW.alike hK, hDc.weaken (fun _ _ _ _ => trivial)⟩⟩ rfl rfl hl.1 rfl (lv_room (Nat.le_of_ble_eq_true rfl)) dX8_run_150 ⟨by (show _ ≤ _ - _); omega, by (show _ ≤ 2 * (_ - _)); omega⟩) hS (fun q _ h => hFc q h) hFc (fun qe_1001 t H1 locs ht hvm hw hB hz1 hk1 hS => ?_)
        obtain ⟨hP1, hK1, hD1⟩ := hB
        rw [ht] at hP1
        obtain ⟨hP, hD⟩ := va_join (wr := [oRow ad xRow_depth xRow_length xRow_people xRow_scarves xRow_main xRow_faultPlace, ar (ad 3) cA 20 gRkinds, ar (ad 4) cA 20 gRlates, ar (ad 5) cA 20 gRhands, ar (ad 6) cA 20 gRslow, oST ad xST_sleeper_72 xST_lastDue_137 xST_unreached_137, ar (ad 10) cA 640 gSTdue_137, ar (ad 11) cA 20 gSTbusy_137, ar (ad 12) cA 20 gSTfelt_137, ar (ad 13) cA 20 gSTlost_137, ar (ad 14) cA 20 gSTfirst_137]) (w1 := [oDia ad qe_1001 xDia_size_137, ar qe_1001 cA u_1.1 u_1.2]) hP hD [11, 12] [0, 1, 2, 3, 4, 5, 6, 7, 8, 9, 10] rfl rfl (by decide) (by decide) hk1 hFc hP1 hD1
        clear hPc hDc hFc hP1 hK1 hD1 hk1 hz1 hvm ht
        generalize H1 = H at hP hS ⊢
        have hP : va_P (dC, dI) vwCl [oRow ad xRow_depth xRow_length xRow_people xRow_scarves xRow_main xRow_faultPlace, ar (ad 3) cA 20 gRkinds, ar (ad 4) cA 20 gRlates, ar (ad 5) cA 20 gRhands, ar (ad 6) cA 20 gRslow, oST ad xST_sleeper_72 xST_lastDue_137 xST_unreached_137, ar (ad 10) cA 640 gSTdue_137, ar (ad 11) cA 20 gSTbusy_137, ar (ad 12) cA 20 gSTfelt_137, ar (ad 13) cA 20 gSTlost_137, ar (ad 14) cA 20 gSTfirst_137, oDia ad qe_1001 xDia_size_137, ar qe_1001 cA u_1.1 u_1.2] H := hP
        have hD : va_D A [oRow ad xRow_depth xRow_length xRow_people xRow_scarves xRow_main xRow_faultPlace, ar (ad 3) cA 20 gRkinds, ar (ad 4) cA 20 gRlates, ar (ad 5) cA 20 gRhands, ar (ad 6) cA 20 gRslow, oST ad xST_sleeper_72 xST_lastDue_137 xST_unreached_137, ar (ad 10) cA 640 gSTdue_137, ar (ad 11) cA 20 gSTbusy_137, ar (ad 12) cA 20 gSTfelt_137, ar (ad 13) cA 20 gSTlost_137, ar (ad 14) cA 20 gSTfirst_137, oDia ad qe_1001 xDia_size_137, ar qe_1001 cA u_1.1 u_1.2] := hD
        refine W.widen (k := u_1.1 - ne) (n := 2 * (u_1.1 - ne)) (by omega) (by omega) ?_
        refine lv_aload_n hx hb dX8_run_153 rfl (lv_at hl 0 rfl) ?_
        refine lv_iload hx hb dX8_run_154 (lv_at hl 4 rfl) ?_
        refine lv_iload hx hb dX8_run_156 (lv_at hl 5 rfl) ?_
        have hPc := hP.sub (ws' := [oRow ad xRow_depth xRow_length xRow_people xRow_scarves xRow_main xRow_faultPlace, ar (ad 3) cA 20 gRkinds, ar (ad 4) cA 20 gRlates, ar (ad 5) cA 20 gRhands, ar (ad 6) cA 20 gRslow, oST ad xST_sleeper_72 xST_lastDue_137 xST_unreached_137, ar (ad 10) cA 640 gSTdue_137, ar (ad 11) cA 20 gSTbusy_137, ar (ad 12) cA 20 gSTfelt_137, ar (ad 13) cA 20 gSTlost_137, ar (ad 14) cA 20 gSTfirst_137, oDia ad qe_1001 xDia_size_137, ar qe_1001 cA u_1.1 u_1.2]) [0, 1, 2, 3, 4, 5, 6, 7, 8, 9, 10, 11, 12] rfl
        have hDc := hD.sub (ws' := [oRow ad xRow_depth xRow_length xRow_people xRow_scarves xRow_main xRow_faultPlace, ar (ad 3) cA 20 gRkinds, ar (ad 4) cA 20 gRlates, ar (ad 5) cA 20 gRhands, ar (ad 6) cA 20 gRslow, oST ad xST_sleeper_72 xST_lastDue_137 xST_unreached_137, ar (ad 10) cA 640 gSTdue_137, ar (ad 11) cA 20 gSTbusy_137, ar (ad 12) cA 20 gSTfelt_137, ar (ad 13) cA 20 gSTlost_137, ar (ad 14) cA 20 gSTfirst_137, oDia ad qe_1001 xDia_size_137, ar qe_1001 cA u_1.1 u_1.2]) [0, 1, 2, 3, 4, 5, 6, 7, 8, 9, 10, 11, 12] (by decide) rfl
        have hFc := va_free (wc := [oRow ad xRow_depth xRow_length xRow_people xRow_scarves xRow_main xRow_faultPlace, ar (ad 3) cA 20 gRkinds, ar (ad 4) cA 20 gRlates, ar (ad 5) cA 20 gRhands, ar (ad 6) cA 20 gRslow, oST ad xST_sleeper_72 xST_lastDue_137 xST_unreached_137, ar (ad 10) cA 640 gSTdue_137, ar (ad 11) cA 20 gSTbusy_137, ar (ad 12) cA 20 gSTfelt_137, ar (ad 13) cA 20 gSTlost_137, ar (ad 14) cA 20 gSTfirst_137, oDia ad qe_1001 xDia_size_137, ar qe_1001 cA u_1.1 u_1.2]) hD hS hA [0, 1, 2, 3, 4, 5, 6, 7, 8, 9, 10, 11, 12] rfl
        obtain ⟨u_2, hc_2, hm⟩ := bd_ok hm
        refine va_callv (va_runV (As := [.int v6_137, .int v7_137]) (rest := []) ⟨hx, hb, hml, hown, hts⟩ (kS_feelAll_T l dC dI cA ad qe_1001 H.size v6_137 v7_137 xRow_depth xRow_length xRow_people xRow_scarves xRow_main xRow_faultPlace gRkinds gRlates gRhands gRslow xST_sleeper_72 xST_lastDue_137 xST_unreached_137 gSTdue_137 gSTbusy_137 gSTfelt_137 gSTlost_137 gSTfirst_137 xDia_size_137 u_1.1 u_1.2 u_2 hc_2) (cwV 2 hts gX8_run_X8_feelAll rfl rfl rfl (by decide +kernel) ⟨Nat.le_of_ble_eq_true rfl, Nat.le_of_ble_eq_true rfl⟩) ⟨fun a U g mk q => by obtain ⟨q0, q1, qP, qK, qD⟩ := q; exact ⟨q0, q1, qP, va_K.moved (u := U) (U := U.calling g mk a) (Vm.Alike.refl U.vm) qK, qD⟩, va_recv hK hPc (ci := 8) (q0 := 5) rfl rfl, fun U hU hW => ⟨rfl, by rw [hU], by rw [hU]; exact hPc, va_K.moved hW.alike hK, hDc.weaken (fun _ _ _ _ => trivial)⟩⟩ rfl rfl hl.1 rfl (lv_room (Nat.le_of_ble_eq_true rfl)) dX8_run_158 ⟨by (show _ ≤ _ - _); omega, by (show _ ≤ 2 * (_ - _)); omega⟩) hS (fun q _ h => hFc q h) hFc (fun _ t H1 locs ht hvm hw hB hz1 hk1 hS => ?_)
        obtain ⟨hP1, hK1, hD1⟩ := hB
        rw [ht] at hP1
        obtain ⟨hP, hD⟩ := va_join (wr := []) (w1 := [oRow ad xRow_depth xRow_length xRow_people xRow_scarves xRow_main xRow_faultPlace, ar (ad 3) cA 20 gRkinds, ar (ad 4) cA 20 gRlates, ar (ad 5) cA 20 gRhands, ar (ad 6) cA 20 gRslow, oST ad xST_sleeper_72 u_2.1 u_2.2.1, ar (ad 10) cA 640 u_2.2.2.1, ar (ad 11) cA 20 u_2.2.2.2.1, ar (ad 12) cA 20 u_2.2.2.2.2.1, ar (ad 13) cA 20 u_2.2.2.2.2.2.1, ar (ad 14) cA 20 u_2.2.2.2.2.2.2.1, oDia ad qe_1001 u_2.2.2.2.2.2.2.2.1, ar qe_1001 cA u_1.1 u_2.2.2.2.2.2.2.2.2]) hP hD [0, 1, 2, 3, 4, 5, 6, 7, 8, 9, 10, 11, 12] [] rfl rfl (by decide) (by decide) hk1 hFc hP1 hD1
        clear hPc hDc hFc hP1 hK1 hD1 hk1 hz1 hvm ht
        generalize H1 = H at hP hS ⊢
        have hP : va_P (dC, dI) vwCl [oRow ad xRow_depth xRow_length xRow_people xRow_scarves xRow_main xRow_faultPlace, ar (ad 3) cA 20 gRkinds, ar (ad 4) cA 20 gRlates, ar (ad 5) cA 20 gRhands, ar (ad 6) cA 20 gRslow, oST ad xST_sleeper_72 u_2.1 u_2.2.1, ar (ad 10) cA 640 u_2.2.2.1, ar (ad 11) cA 20 u_2.2.2.2.1, ar (ad 12) cA 20 u_2.2.2.2.2.1, ar (ad 13) cA 20 u_2.2.2.2.2.2.1, ar (ad 14) cA 20 u_2.2.2.2.2.2.2.1, oDia ad qe_1001 u_2.2.2.2.2.2.2.2.1, ar qe_1001 cA u_1.1 u_2.2.2.2.2.2.2.2.2] H := hP
        have hD : va_D A [oRow ad xRow_depth xRow_length xRow_people xRow_scarves xRow_main xRow_faultPlace, ar (ad 3) cA 20 gRkinds, ar (ad 4) cA 20 gRlates, ar (ad 5) cA 20 gRhands, ar (ad 6) cA 20 gRslow, oST ad xST_sleeper_72 u_2.1 u_2.2.1, ar (ad 10) cA 640 u_2.2.2.1, ar (ad 11) cA 20 u_2.2.2.2.1, ar (ad 12) cA 20 u_2.2.2.2.2.1, ar (ad 13) cA 20 u_2.2.2.2.2.2.1, ar (ad 14) cA 20 u_2.2.2.2.2.2.2.1, oDia ad qe_1001 u_2.2.2.2.2.2.2.2.1, ar qe_1001 cA u_1.1 u_2.2.2.2.2.2.2.2.2] := hD
        refine lv_iinc (v := (v6_137 + 1)) (lv' := [(6, .int (v6_137 + 1)), (0, .ref (ad 9)), (2, .int v2_72), (3, .int v3_72), (5, .int v5_72), (7, .int v7_137)]) hx hb dX8_run_161 hl (k := 4) rfl rfl (by decide) rfl (fun ls hl => ?_)
        refine lv_goto (tgt := 72) hx hb dX8_run_164 (by decide) ?_
        refine W.widen (k := u_1.1 - ne) (n := 2 * (u_1.1 - ne)) (by first | exact Nat.le_refl _ | omega) (by first | exact Nat.le_refl _ | omega) ?_
        exact ih_72 _ _ _ _ _ _ _ _ _ _ _ hm _ _ _ (by omega) (by omega) hP hD hS _ (lv_sub hl [1, 2, 3, 4, 0] rfl)
      intro v6_72 xST_lastDue_72 xST_unreached_72 gSTdue_72 gSTbusy_72 gSTfelt_72 gSTlost_72 gSTfirst_72 xDia_size_72 ne_72 gDent_72 hm qe_72 H locs hne hnu hP hD hS ls hl
      have hm : fS_run_T_72_b  (fS_run_T_72  v2_72 v3_72 v5_72 xRow_people gRkinds gRlates gRhands gRslow xST_sleeper_72 n_72) v2_72 v3_72 v5_72 xRow_people gRkinds gRlates gRhands gRslow xST_sleeper_72 v6_72 xST_lastDue_72 xST_unreached_72 gSTdue_72 gSTbusy_72 gSTfelt_72 gSTlost_72 gSTfirst_72 xDia_size_72 ne_72 gDent_72 = some u := hm
      unfold fS_run_T_72_b at hm
      refine lv_iload hx hb dX8_run_72 (lv_at hl 4 rfl) ?_
      refine lv_sipush (v := 400) hx hb dX8_run_74 (by decide) ?_
      refine lv_icmp_gt (tgt := 167) hx hb dX8_run_77 (by decide) (fun c_3 => ?_) (fun c_3 => ?_)
      · have hm := it_pos c_3 hm
        obtain rfl := Option.some.inj hm
        subst hQ
        refine W.widen (k := ne_72 - ne) (n := 2 * (ne_72 - ne)) (by first | exact Nat.le_refl _ | omega) (by first | exact Nat.le_refl _ | omega) ?_
        exact W.vret hx hb hr (fun t ht hW => ⟨⟨qe_72, rfl, trivial, by rw [ht]; exact hP, va_K.moved hW.alike hK, hAe ▸ hD⟩, hS.F ht⟩) hS.2.2 dX8_run_167
      · have hm := it_neg c_3 hm
        refine lv_iload hx hb dX8_run_80 (lv_at hl 4 rfl) ?_
        refine lv_aload_n hx hb dX8_run_82 rfl (lv_at hl 0 rfl) ?_
        refine va_get (D := (dC, dI)) (ci := 8) (v := .int xST_lastDue_72) (C := RX8) (T := TX8) (N := 10) hx hb hts hinX8 hown hK hP 5 rfl rfl 8 (by decide) hl_47 (fun _ h9 => h9) rfl dX8_run_83 ?_
        refine lv_icmp_gt (tgt := 167) hx hb dX8_run_86 (by decide) (fun c_4 => ?_) (fun c_4 => ?_)
        · have hm := it_pos c_4 hm
          obtain rfl := Option.some.inj hm
          subst hQ
          refine W.widen (k := ne_72 - ne) (n := 2 * (ne_72 - ne)) (by first | exact Nat.le_refl _ | omega) (by first | exact Nat.le_refl _ | omega) ?_
          exact W.vret hx hb hr (fun t ht hW => ⟨⟨qe_72, rfl, trivial, by rw [ht]; exact hP, va_K.moved hW.alike hK, hAe ▸ hD⟩, hS.F ht⟩) hS.2.2 dX8_run_167
        · have hm := it_neg c_4 hm
          refine lv_aload_n hx hb dX8_run_89 rfl (lv_at hl 0 rfl) ?_
          refine va_get (D := (dC, dI)) (ci := 8) (v := .ref (ad 15)) (C := RX8) (T := TX8) (N := 10) hx hb hts hinX8 hown hK hP 5 rfl rfl 1 (by decide) hl_15 (fun _ h9 => h9) rfl dX8_run_90 ?_
          refine lv_ifnonnull (tgt := 103) hx hb dX8_run_93 (by decide) ?_
          refine lv_iload hx hb dX8_run_103 (lv_at hl 4 rfl) ?_
          refine lv_bipush (v := 32) hx hb dX8_run_105 (by decide) ?_
          refine lv_irem hx hb dX8_run_107 (by decide) ?_
          refine lv_bipush (v := 20) hx hb dX8_run_108 (by decide) ?_
          refine lv_imul hx hb dX8_run_110 ?_
          refine lv_istore (lv' := [(7, .int ((v6_72 - v6_72 / 32 * 32) * 20)), (0, .ref (ad 9)), (2, .int v2_72), (3, .int v3_72), (5, .int v5_72), (6, .int v6_72)]) hx hb dX8_run_111 hl (by decide) rfl (fun ls hl => ?_)
          refine lv_iload hx hb dX8_run_113 (lv_at hl 4 rfl) ?_
          refine lv_if_eq (tgt := 137) hx hb dX8_run_115 (by decide) (fun c_6 => ?_) (fun c_6 => ?_)
          · have hm := it_pos c_6 hm
            refine W.widen (k := ne_72 - ne) (n := 2 * (ne_72 - ne)) (by first | exact Nat.le_refl _ | omega) (by first | exact Nat.le_refl _ | omega) ?_
            exact b_137 _ _ _ _ _ _ _ _ _ _ _ _ hm _ _ _ (by omega) (by omega) hP hD hS _ (lv_sub hl [1, 2, 3, 4, 5, 0] rfl)
          · have hm := it_neg c_6 hm
            refine lv_iload hx hb dX8_run_118 (lv_at hl 5 rfl) ?_
            refine lv_iload_n hx hb dX8_run_120 rfl (lv_at hl 3 rfl) ?_
            refine lv_icmp_ne (tgt := 137) hx hb dX8_run_121 (by decide) (fun c_7 => ?_) (fun c_7 => ?_)
            · have hm := it_neg c_7 hm
              refine W.widen (k := ne_72 - ne) (n := 2 * (ne_72 - ne)) (by first | exact Nat.le_refl _ | omega) (by first | exact Nat.le_refl _ | omega) ?_
              exact b_137 _ _ _ _ _ _ _ _ _ _ _ _ hm _ _ _ (by omega) (by omega) hP hD hS _ (lv_sub hl [1, 2, 3, 4, 5, 0] rfl)
            · have hm := it_pos c_7 hm
              refine lv_aload_n hx hb dX8_run_124 rfl (lv_at hl 1 rfl) ?_
              refine va_get (D := (dC, dI)) (ci := 8) (v := .ref (ad 10)) (C := RX8) (T := TX8) (N := 10) hx hb hts hinX8 hown hK hP 5 rfl rfl 2 (by decide) hl_19 (fun _ h9 => h9) rfl dX8_run_125 ?_
              refine lv_iload hx hb dX8_run_128 (lv_at hl 0 rfl) ?_
              refine lv_iload_n hx hb dX8_run_130 rfl (lv_at hl 2 rfl) ?_
              refine lv_iadd hx hb dX8_run_131 ?_
              refine lv_dup2_11 hx hb dX8_run_132 rfl rfl ?_
              obtain ⟨i_8, hm⟩ := ck_ok hm
              refine va_iald hx hb hK hP 6 0 rfl rfl i_8 dX8_run_133 ?_
              refine lv_iconst (v := 2) hx hb dX8_run_134 (by decide) ?_
              refine lv_ior hx hb dX8_run_135 ?_
              obtain ⟨i_9, hm⟩ := ck_ok hm
              refine va_iast hx hb hK hP hD hS 6 0 rfl rfl i_9 dX8_run_136 (fun H locs hP hD hS => ?_)
              have hP : va_P (dC, dI) vwCl [oRow ad xRow_depth xRow_length xRow_people xRow_scarves xRow_main xRow_faultPlace, ar (ad 3) cA 20 gRkinds, ar (ad 4) cA 20 gRlates, ar (ad 5) cA 20 gRhands, ar (ad 6) cA 20 gRslow, oST ad xST_sleeper_72 xST_lastDue_72 xST_unreached_72, ar (ad 10) cA 640 (upd gSTdue_72 (((v6_72 - v6_72 / 32 * 32) * 20) + v2_72).toNatClampNeg ((gSTdue_72 (((v6_72 - v6_72 / 32 * 32) * 20) + v2_72).toNatClampNeg) ||| 2)), ar (ad 11) cA 20 gSTbusy_72, ar (ad 12) cA 20 gSTfelt_72, ar (ad 13) cA 20 gSTlost_72, ar (ad 14) cA 20 gSTfirst_72, oDia ad qe_72 xDia_size_72, ar qe_72 cA ne_72 gDent_72] H := hP
              have hD : va_D A [oRow ad xRow_depth xRow_length xRow_people xRow_scarves xRow_main xRow_faultPlace, ar (ad 3) cA 20 gRkinds, ar (ad 4) cA 20 gRlates, ar (ad 5) cA 20 gRhands, ar (ad 6) cA 20 gRslow, oST ad xST_sleeper_72 xST_lastDue_72 xST_unreached_72, ar (ad 10) cA 640 (upd gSTdue_72 (((v6_72 - v6_72 / 32 * 32) * 20) + v2_72).toNatClampNeg ((gSTdue_72 (((v6_72 - v6_72 / 32 * 32) * 20) + v2_72).toNatClampNeg) ||| 2)), ar (ad 11) cA 20 gSTbusy_72, ar (ad 12) cA 20 gSTfelt_72, ar (ad 13) cA 20 gSTlost_72, ar (ad 14) cA 20 gSTfirst_72, oDia ad qe_72 xDia_size_72, ar qe_72 cA ne_72 gDent_72] := hD
              refine W.widen (k := ne_72 - ne) (n := 2 * (ne_72 - ne)) (by first | exact Nat.le_refl _ | omega) (by first | exact Nat.le_refl _ | omega) ?_
              exact b_137 _ _ _ _ _ _ _ _ _ _ _ _ hm _ _ _ (by omega) (by omega) hP hD hS _ (lv_sub hl [1, 2, 3, 4, 5, 0] rfl)
  have b_69 : ∀ (v2_69 : Int32) (v3_69 : Int32) (v5_69 : Int32) (xST_sleeper_69 : Int32) (xST_lastDue_69 : Int32) (xST_unreached_69 : Int32) (gSTdue_69 : Nat → Int32) (gSTbusy_69 : Nat → Int32) (gSTfelt_69 : Nat → Int32) (gSTlost_69 : Nat → Int32) (gSTfirst_69 : Nat → Int32) (xDia_size_69 : Int32) (ne_69 : Nat) (gDent_69 : Nat → Int32), fS_run_T_69 v2_69 v3_69 v5_69 xRow_people gRkinds gRlates gRhands gRslow xST_sleeper_69 xST_lastDue_69 xST_unreached_69 gSTdue_69 gSTbusy_69 gSTfelt_69 gSTlost_69 gSTfirst_69 xDia_size_69 ne_69 gDent_69 = some u → ∀ (qe_69 : Nat) (H : Heap) (locs : List Loc), ne ≤ ne_69 → ne_69 ≤ u.2.2.2.2.2.2.2.2.2.1 → va_P (dC, dI) vwCl [oRow ad xRow_depth xRow_length xRow_people xRow_scarves xRow_main xRow_faultPlace, ar (ad 3) cA 20 gRkinds, ar (ad 4) cA 20 gRlates, ar (ad 5) cA 20 gRhands, ar (ad 6) cA 20 gRslow, oST ad xST_sleeper_69 xST_lastDue_69 xST_unreached_69, ar (ad 10) cA 640 gSTdue_69, ar (ad 11) cA 20 gSTbusy_69, ar (ad 12) cA 20 gSTfelt_69, ar (ad 13) cA 20 gSTlost_69, ar (ad 14) cA 20 gSTfirst_69, oDia ad qe_69 xDia_size_69, ar qe_69 cA ne_69 gDent_69] H → va_D A [oRow ad xRow_depth xRow_length xRow_people xRow_scarves xRow_main xRow_faultPlace, ar (ad 3) cA 20 gRkinds, ar (ad 4) cA 20 gRlates, ar (ad 5) cA 20 gRhands, ar (ad 6) cA 20 gRslow, oST ad xST_sleeper_69 xST_lastDue_69 xST_unreached_69, ar (ad 10) cA 640 gSTdue_69, ar (ad 11) cA 20 gSTbusy_69, ar (ad 12) cA 20 gSTfelt_69, ar (ad 13) cA 20 gSTlost_69, ar (ad 14) cA 20 gSTfirst_69, oDia ad qe_69 xDia_size_69, ar qe_69 cA ne_69 gDent_69] → va_S A s.heap H locs → ∀ ls : Array Slot, lv_has ls 8 [(0, .ref (ad 9)), (2, .int v2_69), (3, .int v3_69), (5, .int v5_69)] → W p l e (headSpec wsX8_run ({ frames := 3, cells := (u.2.2.2.2.2.2.2.2.2.1 - ne), slots := (2 * (u.2.2.2.2.2.2.2.2.2.1 - ne)), locals := 76 })).room s m ([.ref (ad 9), .int a1, .int a2, .int a3, .int a4] : List Value).toArray below meth c H locs (ne_69 - ne) (2 * (ne_69 - ne)) QQ (F0 m 69 ls []) := by
    intro v2_69 v3_69 v5_69 xST_sleeper_69 xST_lastDue_69 xST_unreached_69 gSTdue_69 gSTbusy_69 gSTfelt_69 gSTlost_69 gSTfirst_69 xDia_size_69 ne_69 gDent_69 hm qe_69 H locs hne hnu hP hD hS ls hl
    unfold fS_run_T_69 at hm
    refine lv_iconst (v := 0) hx hb dX8_run_69 (by decide) ?_
    refine lv_istore (lv' := [(6, .int 0), (0, .ref (ad 9)), (2, .int v2_69), (3, .int v3_69), (5, .int v5_69)]) hx hb dX8_run_70 hl (by decide) rfl (fun ls hl => ?_)
    refine W.widen (k := ne_69 - ne) (n := 2 * (ne_69 - ne)) (by first | exact Nat.le_refl _ | omega) (by first | exact Nat.le_refl _ | omega) ?_
    exact h_72 _ _ _ _ _ _ _ _ _ _ _ _ _ _ _ _ hm _ _ _ (by omega) (by omega) hP hD hS _ (lv_sub hl [1, 2, 3, 4, 0] rfl)
  have b_59 : ∀ (v2_59 : Int32) (v3_59 : Int32) (v5_59 : Int32) (xST_sleeper_59 : Int32) (xST_lastDue_59 : Int32) (xST_unreached_59 : Int32) (gSTdue_59 : Nat → Int32) (gSTbusy_59 : Nat → Int32) (gSTfelt_59 : Nat → Int32) (gSTlost_59 : Nat → Int32) (gSTfirst_59 : Nat → Int32) (xDia_size_59 : Int32) (ne_59 : Nat) (gDent_59 : Nat → Int32), fS_run_T_59 v2_59 v3_59 v5_59 xRow_people gRkinds gRlates gRhands gRslow xST_sleeper_59 xST_lastDue_59 xST_unreached_59 gSTdue_59 gSTbusy_59 gSTfelt_59 gSTlost_59 gSTfirst_59 xDia_size_59 ne_59 gDent_59 = some u → ∀ (qe_59 : Nat) (H : Heap) (locs : List Loc), ne ≤ ne_59 → ne_59 ≤ u.2.2.2.2.2.2.2.2.2.1 → va_P (dC, dI) vwCl [oRow ad xRow_depth xRow_length xRow_people xRow_scarves xRow_main xRow_faultPlace, ar (ad 3) cA 20 gRkinds, ar (ad 4) cA 20 gRlates, ar (ad 5) cA 20 gRhands, ar (ad 6) cA 20 gRslow, oST ad xST_sleeper_59 xST_lastDue_59 xST_unreached_59, ar (ad 10) cA 640 gSTdue_59, ar (ad 11) cA 20 gSTbusy_59, ar (ad 12) cA 20 gSTfelt_59, ar (ad 13) cA 20 gSTlost_59, ar (ad 14) cA 20 gSTfirst_59, oDia ad qe_59 xDia_size_59, ar qe_59 cA ne_59 gDent_59] H → va_D A [oRow ad xRow_depth xRow_length xRow_people xRow_scarves xRow_main xRow_faultPlace, ar (ad 3) cA 20 gRkinds, ar (ad 4) cA 20 gRlates, ar (ad 5) cA 20 gRhands, ar (ad 6) cA 20 gRslow, oST ad xST_sleeper_59 xST_lastDue_59 xST_unreached_59, ar (ad 10) cA 640 gSTdue_59, ar (ad 11) cA 20 gSTbusy_59, ar (ad 12) cA 20 gSTfelt_59, ar (ad 13) cA 20 gSTlost_59, ar (ad 14) cA 20 gSTfirst_59, oDia ad qe_59 xDia_size_59, ar qe_59 cA ne_59 gDent_59] → va_S A s.heap H locs → ∀ ls : Array Slot, lv_has ls 8 [(0, .ref (ad 9)), (2, .int v2_59), (3, .int v3_59), (5, .int v5_59)] → W p l e (headSpec wsX8_run ({ frames := 3, cells := (u.2.2.2.2.2.2.2.2.2.1 - ne), slots := (2 * (u.2.2.2.2.2.2.2.2.2.1 - ne)), locals := 76 })).room s m ([.ref (ad 9), .int a1, .int a2, .int a3, .int a4] : List Value).toArray below meth c H locs (ne_59 - ne) (2 * (ne_59 - ne)) QQ (F0 m 59 ls []) := by
    intro v2_59 v3_59 v5_59 xST_sleeper_59 xST_lastDue_59 xST_unreached_59 gSTdue_59 gSTbusy_59 gSTfelt_59 gSTlost_59 gSTfirst_59 xDia_size_59 ne_59 gDent_59 hm qe_59 H locs hne hnu hP hD hS ls hl
    unfold fS_run_T_59 at hm
    refine lv_iload hx hb dX8_run_59 (lv_at hl 3 rfl) ?_
    refine lv_if_eq (tgt := 69) hx hb dX8_run_61 (by decide) (fun c_10 => ?_) (fun c_10 => ?_)
    · have hm := it_pos c_10 hm
      refine W.widen (k := ne_59 - ne) (n := 2 * (ne_59 - ne)) (by first | exact Nat.le_refl _ | omega) (by first | exact Nat.le_refl _ | omega) ?_
      exact b_69 _ _ _ _ _ _ _ _ _ _ _ _ _ _ hm _ _ _ (by omega) (by omega) hP hD hS _ (lv_sub hl [0, 1, 2, 3] rfl)
    · have hm := it_neg c_10 hm
      refine lv_aload_n hx hb dX8_run_64 rfl (lv_at hl 0 rfl) ?_
      refine lv_iload_n hx hb dX8_run_65 rfl (lv_at hl 2 rfl) ?_
      refine va_put (D := (dC, dI)) (ci := 8) (v := .int v3_59) (ty := .int) (C := RX8) (T := TX8) (N := 10) hx hb hts hinX8 tyX8 tyX8_ok nmX8 hown hK hP hD hS 5 rfl rfl 8 (by decide) hl_47 (fun _ h9 => h9) rfl (by decide +kernel) rfl rfl (Nat.le_of_ble_eq_true rfl) dX8_run_66 (fun H locs hP hD hS => ?_)
      have hP : va_P (dC, dI) vwCl [oRow ad xRow_depth xRow_length xRow_people xRow_scarves xRow_main xRow_faultPlace, ar (ad 3) cA 20 gRkinds, ar (ad 4) cA 20 gRlates, ar (ad 5) cA 20 gRhands, ar (ad 6) cA 20 gRslow, oST ad xST_sleeper_59 v3_59 xST_unreached_59, ar (ad 10) cA 640 gSTdue_59, ar (ad 11) cA 20 gSTbusy_59, ar (ad 12) cA 20 gSTfelt_59, ar (ad 13) cA 20 gSTlost_59, ar (ad 14) cA 20 gSTfirst_59, oDia ad qe_59 xDia_size_59, ar qe_59 cA ne_59 gDent_59] H := hP
      have hD : va_D A [oRow ad xRow_depth xRow_length xRow_people xRow_scarves xRow_main xRow_faultPlace, ar (ad 3) cA 20 gRkinds, ar (ad 4) cA 20 gRlates, ar (ad 5) cA 20 gRhands, ar (ad 6) cA 20 gRslow, oST ad xST_sleeper_59 v3_59 xST_unreached_59, ar (ad 10) cA 640 gSTdue_59, ar (ad 11) cA 20 gSTbusy_59, ar (ad 12) cA 20 gSTfelt_59, ar (ad 13) cA 20 gSTlost_59, ar (ad 14) cA 20 gSTfirst_59, oDia ad qe_59 xDia_size_59, ar qe_59 cA ne_59 gDent_59] := hD
      refine W.widen (k := ne_59 - ne) (n := 2 * (ne_59 - ne)) (by first | exact Nat.le_refl _ | omega) (by first | exact Nat.le_refl _ | omega) ?_
      exact b_69 _ _ _ _ _ _ _ _ _ _ _ _ _ _ hm _ _ _ (by omega) (by omega) hP hD hS _ (lv_sub hl [0, 1, 2, 3] rfl)
  have b_31 : ∀ (v1_31 : Int32) (v2_31 : Int32) (v3_31 : Int32) (s0_31 : Int32) (xST_sleeper_31 : Int32) (xST_lastDue_31 : Int32) (xST_unreached_31 : Int32) (gSTdue_31 : Nat → Int32) (gSTbusy_31 : Nat → Int32) (gSTfelt_31 : Nat → Int32) (gSTlost_31 : Nat → Int32) (gSTfirst_31 : Nat → Int32) (xDia_size_31 : Int32) (ne_31 : Nat) (gDent_31 : Nat → Int32), fS_run_T_31 v1_31 v2_31 v3_31 s0_31 xRow_people gRkinds gRlates gRhands gRslow xST_sleeper_31 xST_lastDue_31 xST_unreached_31 gSTdue_31 gSTbusy_31 gSTfelt_31 gSTlost_31 gSTfirst_31 xDia_size_31 ne_31 gDent_31 = some u → ∀ (qe_31 : Nat) (H : Heap) (locs : List Loc), ne ≤ ne_31 → ne_31 ≤ u.2.2.2.2.2.2.2.2.2.1 → va_P (dC, dI) vwCl [oRow ad xRow_depth xRow_length xRow_people xRow_scarves xRow_main xRow_faultPlace, ar (ad 3) cA 20 gRkinds, ar (ad 4) cA 20 gRlates, ar (ad 5) cA 20 gRhands, ar (ad 6) cA 20 gRslow, oST ad xST_sleeper_31 xST_lastDue_31 xST_unreached_31, ar (ad 10) cA 640 gSTdue_31, ar (ad 11) cA 20 gSTbusy_31, ar (ad 12) cA 20 gSTfelt_31, ar (ad 13) cA 20 gSTlost_31, ar (ad 14) cA 20 gSTfirst_31, oDia ad qe_31 xDia_size_31, ar qe_31 cA ne_31 gDent_31] H → va_D A [oRow ad xRow_depth xRow_length xRow_people xRow_scarves xRow_main xRow_faultPlace, ar (ad 3) cA 20 gRkinds, ar (ad 4) cA 20 gRlates, ar (ad 5) cA 20 gRhands, ar (ad 6) cA 20 gRslow, oST ad xST_sleeper_31 xST_lastDue_31 xST_unreached_31, ar (ad 10) cA 640 gSTdue_31, ar (ad 11) cA 20 gSTbusy_31, ar (ad 12) cA 20 gSTfelt_31, ar (ad 13) cA 20 gSTlost_31, ar (ad 14) cA 20 gSTfirst_31, oDia ad qe_31 xDia_size_31, ar qe_31 cA ne_31 gDent_31] → va_S A s.heap H locs → ∀ ls : Array Slot, lv_has ls 8 [(0, .ref (ad 9)), (1, .int v1_31), (2, .int v2_31), (3, .int v3_31)] → W p l e (headSpec wsX8_run ({ frames := 3, cells := (u.2.2.2.2.2.2.2.2.2.1 - ne), slots := (2 * (u.2.2.2.2.2.2.2.2.2.1 - ne)), locals := 76 })).room s m ([.ref (ad 9), .int a1, .int a2, .int a3, .int a4] : List Value).toArray below meth c H locs (ne_31 - ne) (2 * (ne_31 - ne)) QQ (F0 m 31 ls [.int s0_31]) := by
    intro v1_31 v2_31 v3_31 s0_31 xST_sleeper_31 xST_lastDue_31 xST_unreached_31 gSTdue_31 gSTbusy_31 gSTfelt_31 gSTlost_31 gSTfirst_31 xDia_size_31 ne_31 gDent_31 hm qe_31 H locs hne hnu hP hD hS ls hl
    unfold fS_run_T_31 at hm
    refine lv_istore (lv' := [(5, .int s0_31), (0, .ref (ad 9)), (1, .int v1_31), (2, .int v2_31), (3, .int v3_31)]) hx hb dX8_run_31 hl (by decide) rfl (fun ls hl => ?_)
    refine lv_iload_n hx hb dX8_run_33 rfl (lv_at hl 2 rfl) ?_
    refine lv_aload_n hx hb dX8_run_34 rfl (lv_at hl 1 rfl) ?_
    refine va_get (D := (dC, dI)) (ci := 8) (v := .ref (ad 1)) (C := RX8) (T := TX8) (N := 10) hx hb hts hinX8 hown hK hP 5 rfl rfl 0 (by decide) hl_9 (fun _ h9 => h9) rfl dX8_run_35 ?_
    refine va_get (D := (dC, dI)) (ci := 5) (v := .int xRow_people) (C := RX5) (T := TX5) (N := 13) hx hb hts hinX5 hown hK hP 0 rfl rfl 9 (by decide) hl_42 (fun _ h9 => h9) rfl dX8_run_38 ?_
    refine lv_icmp_ge (tgt := 59) hx hb dX8_run_41 (by decide) (fun c_11 => ?_) (fun c_11 => ?_)
    · have hm := it_pos c_11 hm
      refine W.widen (k := ne_31 - ne) (n := 2 * (ne_31 - ne)) (by first | exact Nat.le_refl _ | omega) (by first | exact Nat.le_refl _ | omega) ?_
      exact b_59 _ _ _ _ _ _ _ _ _ _ _ _ _ _ hm _ _ _ (by omega) (by omega) hP hD hS _ (lv_sub hl [1, 3, 4, 0] rfl)
    · have hm := it_neg c_11 hm
      refine lv_aload_n hx hb dX8_run_44 rfl (lv_at hl 1 rfl) ?_
      refine va_get (D := (dC, dI)) (ci := 8) (v := .ref (ad 10)) (C := RX8) (T := TX8) (N := 10) hx hb hts hinX8 hown hK hP 5 rfl rfl 2 (by decide) hl_19 (fun _ h9 => h9) rfl dX8_run_45 ?_
      refine lv_iload_n hx hb dX8_run_48 rfl (lv_at hl 2 rfl) ?_
      refine lv_dup2_11 hx hb dX8_run_49 rfl rfl ?_
      obtain ⟨i_12, hm⟩ := ck_ok hm
      refine va_iald hx hb hK hP 6 0 rfl rfl i_12 dX8_run_50 ?_
      refine lv_iconst (v := 1) hx hb dX8_run_51 (by decide) ?_
      refine lv_ior hx hb dX8_run_52 ?_
      obtain ⟨i_13, hm⟩ := ck_ok hm
      refine va_iast hx hb hK hP hD hS 6 0 rfl rfl i_13 dX8_run_53 (fun H locs hP hD hS => ?_)
      have hP : va_P (dC, dI) vwCl [oRow ad xRow_depth xRow_length xRow_people xRow_scarves xRow_main xRow_faultPlace, ar (ad 3) cA 20 gRkinds, ar (ad 4) cA 20 gRlates, ar (ad 5) cA 20 gRhands, ar (ad 6) cA 20 gRslow, oST ad xST_sleeper_31 xST_lastDue_31 xST_unreached_31, ar (ad 10) cA 640 (upd gSTdue_31 v1_31.toNatClampNeg ((gSTdue_31 v1_31.toNatClampNeg) ||| 1)), ar (ad 11) cA 20 gSTbusy_31, ar (ad 12) cA 20 gSTfelt_31, ar (ad 13) cA 20 gSTlost_31, ar (ad 14) cA 20 gSTfirst_31, oDia ad qe_31 xDia_size_31, ar qe_31 cA ne_31 gDent_31] H := hP
      have hD : va_D A [oRow ad xRow_depth xRow_length xRow_people xRow_scarves xRow_main xRow_faultPlace, ar (ad 3) cA 20 gRkinds, ar (ad 4) cA 20 gRlates, ar (ad 5) cA 20 gRhands, ar (ad 6) cA 20 gRslow, oST ad xST_sleeper_31 xST_lastDue_31 xST_unreached_31, ar (ad 10) cA 640 (upd gSTdue_31 v1_31.toNatClampNeg ((gSTdue_31 v1_31.toNatClampNeg) ||| 1)), ar (ad 11) cA 20 gSTbusy_31, ar (ad 12) cA 20 gSTfelt_31, ar (ad 13) cA 20 gSTlost_31, ar (ad 14) cA 20 gSTfirst_31, oDia ad qe_31 xDia_size_31, ar qe_31 cA ne_31 gDent_31] := hD
      refine lv_aload_n hx hb dX8_run_54 rfl (lv_at hl 1 rfl) ?_
      refine lv_iconst (v := 0) hx hb dX8_run_55 (by decide) ?_
      refine va_put (D := (dC, dI)) (ci := 8) (v := .int 0) (ty := .int) (C := RX8) (T := TX8) (N := 10) hx hb hts hinX8 tyX8 tyX8_ok nmX8 hown hK hP hD hS 5 rfl rfl 8 (by decide) hl_47 (fun _ h9 => h9) rfl (by decide +kernel) rfl rfl (Nat.le_of_ble_eq_true rfl) dX8_run_56 (fun H locs hP hD hS => ?_)
      have hP : va_P (dC, dI) vwCl [oRow ad xRow_depth xRow_length xRow_people xRow_scarves xRow_main xRow_faultPlace, ar (ad 3) cA 20 gRkinds, ar (ad 4) cA 20 gRlates, ar (ad 5) cA 20 gRhands, ar (ad 6) cA 20 gRslow, oST ad xST_sleeper_31 0 xST_unreached_31, ar (ad 10) cA 640 (upd gSTdue_31 v1_31.toNatClampNeg ((gSTdue_31 v1_31.toNatClampNeg) ||| 1)), ar (ad 11) cA 20 gSTbusy_31, ar (ad 12) cA 20 gSTfelt_31, ar (ad 13) cA 20 gSTlost_31, ar (ad 14) cA 20 gSTfirst_31, oDia ad qe_31 xDia_size_31, ar qe_31 cA ne_31 gDent_31] H := hP
      have hD : va_D A [oRow ad xRow_depth xRow_length xRow_people xRow_scarves xRow_main xRow_faultPlace, ar (ad 3) cA 20 gRkinds, ar (ad 4) cA 20 gRlates, ar (ad 5) cA 20 gRhands, ar (ad 6) cA 20 gRslow, oST ad xST_sleeper_31 0 xST_unreached_31, ar (ad 10) cA 640 (upd gSTdue_31 v1_31.toNatClampNeg ((gSTdue_31 v1_31.toNatClampNeg) ||| 1)), ar (ad 11) cA 20 gSTbusy_31, ar (ad 12) cA 20 gSTfelt_31, ar (ad 13) cA 20 gSTlost_31, ar (ad 14) cA 20 gSTfirst_31, oDia ad qe_31 xDia_size_31, ar qe_31 cA ne_31 gDent_31] := hD
      refine W.widen (k := ne_31 - ne) (n := 2 * (ne_31 - ne)) (by first | exact Nat.le_refl _ | omega) (by first | exact Nat.le_refl _ | omega) ?_
      exact b_59 _ _ _ _ _ _ _ _ _ _ _ _ _ _ hm _ _ _ (by omega) (by omega) hP hD hS _ (lv_sub hl [1, 3, 4, 0] rfl)
  have b_30 : ∀ (v1_30 : Int32) (v2_30 : Int32) (v3_30 : Int32) (xST_sleeper_30 : Int32) (xST_lastDue_30 : Int32) (xST_unreached_30 : Int32) (gSTdue_30 : Nat → Int32) (gSTbusy_30 : Nat → Int32) (gSTfelt_30 : Nat → Int32) (gSTlost_30 : Nat → Int32) (gSTfirst_30 : Nat → Int32) (xDia_size_30 : Int32) (ne_30 : Nat) (gDent_30 : Nat → Int32), fS_run_T_30 v1_30 v2_30 v3_30 xRow_people gRkinds gRlates gRhands gRslow xST_sleeper_30 xST_lastDue_30 xST_unreached_30 gSTdue_30 gSTbusy_30 gSTfelt_30 gSTlost_30 gSTfirst_30 xDia_size_30 ne_30 gDent_30 = some u → ∀ (qe_30 : Nat) (H : Heap) (locs : List Loc), ne ≤ ne_30 → ne_30 ≤ u.2.2.2.2.2.2.2.2.2.1 → va_P (dC, dI) vwCl [oRow ad xRow_depth xRow_length xRow_people xRow_scarves xRow_main xRow_faultPlace, ar (ad 3) cA 20 gRkinds, ar (ad 4) cA 20 gRlates, ar (ad 5) cA 20 gRhands, ar (ad 6) cA 20 gRslow, oST ad xST_sleeper_30 xST_lastDue_30 xST_unreached_30, ar (ad 10) cA 640 gSTdue_30, ar (ad 11) cA 20 gSTbusy_30, ar (ad 12) cA 20 gSTfelt_30, ar (ad 13) cA 20 gSTlost_30, ar (ad 14) cA 20 gSTfirst_30, oDia ad qe_30 xDia_size_30, ar qe_30 cA ne_30 gDent_30] H → va_D A [oRow ad xRow_depth xRow_length xRow_people xRow_scarves xRow_main xRow_faultPlace, ar (ad 3) cA 20 gRkinds, ar (ad 4) cA 20 gRlates, ar (ad 5) cA 20 gRhands, ar (ad 6) cA 20 gRslow, oST ad xST_sleeper_30 xST_lastDue_30 xST_unreached_30, ar (ad 10) cA 640 gSTdue_30, ar (ad 11) cA 20 gSTbusy_30, ar (ad 12) cA 20 gSTfelt_30, ar (ad 13) cA 20 gSTlost_30, ar (ad 14) cA 20 gSTfirst_30, oDia ad qe_30 xDia_size_30, ar qe_30 cA ne_30 gDent_30] → va_S A s.heap H locs → ∀ ls : Array Slot, lv_has ls 8 [(0, .ref (ad 9)), (1, .int v1_30), (2, .int v2_30), (3, .int v3_30)] → W p l e (headSpec wsX8_run ({ frames := 3, cells := (u.2.2.2.2.2.2.2.2.2.1 - ne), slots := (2 * (u.2.2.2.2.2.2.2.2.2.1 - ne)), locals := 76 })).room s m ([.ref (ad 9), .int a1, .int a2, .int a3, .int a4] : List Value).toArray below meth c H locs (ne_30 - ne) (2 * (ne_30 - ne)) QQ (F0 m 30 ls []) := by
    intro v1_30 v2_30 v3_30 xST_sleeper_30 xST_lastDue_30 xST_unreached_30 gSTdue_30 gSTbusy_30 gSTfelt_30 gSTlost_30 gSTfirst_30 xDia_size_30 ne_30 gDent_30 hm qe_30 H locs hne hnu hP hD hS ls hl
    unfold fS_run_T_30 at hm
    refine lv_iconst (v := 0) hx hb dX8_run_30 (by decide) ?_
    refine W.widen (k := ne_30 - ne) (n := 2 * (ne_30 - ne)) (by first | exact Nat.le_refl _ | omega) (by first | exact Nat.le_refl _ | omega) ?_
    exact b_31 _ _ _ _ _ _ _ _ _ _ _ _ _ _ _ hm _ _ _ (by omega) (by omega) hP hD hS _ (lv_sub hl [0, 1, 2, 3] rfl)
  unfold fS_run_T at hm
  obtain ⟨hz0, hm⟩ := mz_ok hm
  have hz0 : ne ≤ u.2.2.2.2.2.2.2.2.2.1 := hz0
  refine lv_aload_n hx hb dX8_run_0 rfl (lv_at hl 0 rfl) ?_
  have hPc := hP.sub (ws' := [oRow ad xRow_depth xRow_length xRow_people xRow_scarves xRow_main xRow_faultPlace, oST ad xST_sleeper xST_lastDue xST_unreached, ar (ad 10) cA 640 gSTdue, ar (ad 11) cA 20 gSTbusy, ar (ad 12) cA 20 gSTfelt, ar (ad 13) cA 20 gSTlost, ar (ad 14) cA 20 gSTfirst, oDia ad qe xDia_size]) [0, 5, 6, 7, 8, 9, 10, 11] rfl
  have hDc := hD.sub (ws' := [oRow ad xRow_depth xRow_length xRow_people xRow_scarves xRow_main xRow_faultPlace, oST ad xST_sleeper xST_lastDue xST_unreached, ar (ad 10) cA 640 gSTdue, ar (ad 11) cA 20 gSTbusy, ar (ad 12) cA 20 gSTfelt, ar (ad 13) cA 20 gSTlost, ar (ad 14) cA 20 gSTfirst, oDia ad qe xDia_size]) [0, 5, 6, 7, 8, 9, 10, 11] (by decide) rfl
  have hFc := va_free (wc := [oRow ad xRow_depth xRow_length xRow_people xRow_scarves xRow_main xRow_faultPlace, oST ad xST_sleeper xST_lastDue xST_unreached, ar (ad 10) cA 640 gSTdue, ar (ad 11) cA 20 gSTbusy, ar (ad 12) cA 20 gSTfelt, ar (ad 13) cA 20 gSTlost, ar (ad 14) cA 20 gSTfirst, oDia ad qe xDia_size]) hD hS hA [0, 5, 6, 7, 8, 9, 10, 11] rfl
  obtain ⟨u_14, hc_14, hm⟩ := bd_ok hm
  refine va_callv (va_runV (As := []) (rest := []) ⟨hx, hb, hml, hown, hts⟩ (kS_clear_T l dC dI cA ad qe s.heap.size xRow_depth xRow_length xRow_people xRow_scarves xRow_main xRow_faultPlace xST_sleeper xST_lastDue xST_unreached gSTdue gSTbusy gSTfelt gSTlost gSTfirst xDia_size u_14 hc_14) (cwV 0 hts gX8_run_X8_clear rfl rfl rfl (by decide +kernel) ⟨Nat.le_of_ble_eq_true rfl, Nat.le_of_ble_eq_true rfl⟩) ⟨fun a U g mk q => by obtain ⟨q0, q1, qP, qK, qD⟩ := q; exact ⟨q0, q1, qP, va_K.moved (u := U) (U := U.calling g mk a) (Vm.Alike.refl U.vm) qK, qD⟩, va_recv hK hPc (ci := 8) (q0 := 1) rfl rfl, fun U hU hW => ⟨rfl, by rw [hU], by rw [hU]; exact hPc, va_K.moved hW.alike hK, hDc.weaken (fun _ _ _ _ => trivial)⟩⟩ rfl rfl hl.1 rfl (lv_room (Nat.le_of_ble_eq_true rfl)) dX8_run_1 ⟨by (show _ ≤ _ - _); omega, by (show _ ≤ 2 * (_ - _)); omega⟩) hS (fun q _ h => hFc q h) hFc (fun _ t H1 locs ht hvm hw hB hz1 hk1 hS => ?_)
  obtain ⟨hP1, hK1, hD1⟩ := hB
  rw [ht] at hP1
  obtain ⟨hP, hD⟩ := va_join (wr := [ar (ad 3) cA 20 gRkinds, ar (ad 4) cA 20 gRlates, ar (ad 5) cA 20 gRhands, ar (ad 6) cA 20 gRslow, ar qe cA ne gDent]) (w1 := [oRow ad xRow_depth xRow_length xRow_people xRow_scarves xRow_main xRow_faultPlace, oST ad xST_sleeper u_14.1 u_14.2.1, ar (ad 10) cA 640 u_14.2.2.1, ar (ad 11) cA 20 u_14.2.2.2.1, ar (ad 12) cA 20 u_14.2.2.2.2.1, ar (ad 13) cA 20 u_14.2.2.2.2.2.1, ar (ad 14) cA 20 u_14.2.2.2.2.2.2.1, oDia ad qe u_14.2.2.2.2.2.2.2]) hP hD [0, 5, 6, 7, 8, 9, 10, 11] [1, 2, 3, 4, 12] rfl rfl (by decide) (by decide) hk1 hFc hP1 hD1
  clear hPc hDc hFc hP1 hK1 hD1 hk1 hz1 hvm ht
  generalize H1 = H at hP hS ⊢
  have hP : va_P (dC, dI) vwCl [oRow ad xRow_depth xRow_length xRow_people xRow_scarves xRow_main xRow_faultPlace, ar (ad 3) cA 20 gRkinds, ar (ad 4) cA 20 gRlates, ar (ad 5) cA 20 gRhands, ar (ad 6) cA 20 gRslow, oST ad xST_sleeper u_14.1 u_14.2.1, ar (ad 10) cA 640 u_14.2.2.1, ar (ad 11) cA 20 u_14.2.2.2.1, ar (ad 12) cA 20 u_14.2.2.2.2.1, ar (ad 13) cA 20 u_14.2.2.2.2.2.1, ar (ad 14) cA 20 u_14.2.2.2.2.2.2.1, oDia ad qe u_14.2.2.2.2.2.2.2, ar qe cA ne gDent] H := hP.sub [5, 0, 1, 2, 3, 6, 7, 8, 9, 10, 11, 12, 4] rfl
  have hD : va_D A [oRow ad xRow_depth xRow_length xRow_people xRow_scarves xRow_main xRow_faultPlace, ar (ad 3) cA 20 gRkinds, ar (ad 4) cA 20 gRlates, ar (ad 5) cA 20 gRhands, ar (ad 6) cA 20 gRslow, oST ad xST_sleeper u_14.1 u_14.2.1, ar (ad 10) cA 640 u_14.2.2.1, ar (ad 11) cA 20 u_14.2.2.2.1, ar (ad 12) cA 20 u_14.2.2.2.2.1, ar (ad 13) cA 20 u_14.2.2.2.2.2.1, ar (ad 14) cA 20 u_14.2.2.2.2.2.2.1, oDia ad qe u_14.2.2.2.2.2.2.2, ar qe cA ne gDent] := hD.sub [5, 0, 1, 2, 3, 6, 7, 8, 9, 10, 11, 12, 4] (by decide) rfl
  refine lv_aload_n hx hb dX8_run_4 rfl (lv_at hl 0 rfl) ?_
  refine lv_iload hx hb dX8_run_5 (lv_at hl 4 rfl) ?_
  refine va_put (D := (dC, dI)) (ci := 8) (v := .int a4) (ty := .int) (C := RX8) (T := TX8) (N := 10) hx hb hts hinX8 tyX8 tyX8_ok nmX8 hown hK hP hD hS 5 rfl rfl 7 (by decide) hl_38 (fun _ h9 => h9) rfl (by decide +kernel) rfl rfl (Nat.le_of_ble_eq_true rfl) dX8_run_7 (fun H locs hP hD hS => ?_)
  have hP : va_P (dC, dI) vwCl [oRow ad xRow_depth xRow_length xRow_people xRow_scarves xRow_main xRow_faultPlace, ar (ad 3) cA 20 gRkinds, ar (ad 4) cA 20 gRlates, ar (ad 5) cA 20 gRhands, ar (ad 6) cA 20 gRslow, oST ad a4 u_14.1 u_14.2.1, ar (ad 10) cA 640 u_14.2.2.1, ar (ad 11) cA 20 u_14.2.2.2.1, ar (ad 12) cA 20 u_14.2.2.2.2.1, ar (ad 13) cA 20 u_14.2.2.2.2.2.1, ar (ad 14) cA 20 u_14.2.2.2.2.2.2.1, oDia ad qe u_14.2.2.2.2.2.2.2, ar qe cA ne gDent] H := hP
  have hD : va_D A [oRow ad xRow_depth xRow_length xRow_people xRow_scarves xRow_main xRow_faultPlace, ar (ad 3) cA 20 gRkinds, ar (ad 4) cA 20 gRlates, ar (ad 5) cA 20 gRhands, ar (ad 6) cA 20 gRslow, oST ad a4 u_14.1 u_14.2.1, ar (ad 10) cA 640 u_14.2.2.1, ar (ad 11) cA 20 u_14.2.2.2.1, ar (ad 12) cA 20 u_14.2.2.2.2.1, ar (ad 13) cA 20 u_14.2.2.2.2.2.1, ar (ad 14) cA 20 u_14.2.2.2.2.2.2.1, oDia ad qe u_14.2.2.2.2.2.2.2, ar qe cA ne gDent] := hD
  refine lv_iload_n hx hb dX8_run_10 rfl (lv_at hl 2 rfl) ?_
  refine lv_iconst (v := (-1)) hx hb dX8_run_11 (by decide) ?_
  refine lv_icmp_eq (tgt := 30) hx hb dX8_run_12 (by decide) (fun c_15 => ?_) (fun c_15 => ?_)
  · have hm := it_pos c_15 hm
    refine W.widen (k := ne - ne) (n := 2 * (ne - ne)) (by first | exact Nat.le_refl _ | omega) (by first | exact Nat.le_refl _ | omega) ?_
    exact b_30 _ _ _ _ _ _ _ _ _ _ _ _ _ _ hm _ _ _ (by omega) (by omega) hP hD hS _ (lv_sub hl [0, 1, 2, 3] rfl)
  · have hm := it_neg c_15 hm
    refine lv_iload_n hx hb dX8_run_15 rfl (lv_at hl 2 rfl) ?_
    refine lv_aload_n hx hb dX8_run_16 rfl (lv_at hl 0 rfl) ?_
    refine va_get (D := (dC, dI)) (ci := 8) (v := .ref (ad 1)) (C := RX8) (T := TX8) (N := 10) hx hb hts hinX8 hown hK hP 5 rfl rfl 0 (by decide) hl_9 (fun _ h9 => h9) rfl dX8_run_17 ?_
    refine va_get (D := (dC, dI)) (ci := 5) (v := .int xRow_people) (C := RX5) (T := TX5) (N := 13) hx hb hts hinX5 hown hK hP 0 rfl rfl 9 (by decide) hl_42 (fun _ h9 => h9) rfl dX8_run_20 ?_
    refine lv_icmp_ge (tgt := 30) hx hb dX8_run_23 (by decide) (fun c_16 => ?_) (fun c_16 => ?_)
    · have hm := it_pos c_16 hm
      refine W.widen (k := ne - ne) (n := 2 * (ne - ne)) (by first | exact Nat.le_refl _ | omega) (by first | exact Nat.le_refl _ | omega) ?_
      exact b_30 _ _ _ _ _ _ _ _ _ _ _ _ _ _ hm _ _ _ (by omega) (by omega) hP hD hS _ (lv_sub hl [0, 1, 2, 3] rfl)
    · have hm := it_neg c_16 hm
      refine lv_iconst (v := 1) hx hb dX8_run_26 (by decide) ?_
      refine lv_goto (tgt := 31) hx hb dX8_run_27 (by decide) ?_
      refine W.widen (k := ne - ne) (n := 2 * (ne - ne)) (by first | exact Nat.le_refl _ | omega) (by first | exact Nat.le_refl _ | omega) ?_
      exact b_31 _ _ _ _ _ _ _ _ _ _ _ _ _ _ _ hm _ _ _ (by omega) (by omega) hP hD hS _ (lv_sub hl [0, 1, 2, 3] rfl)

set_option maxHeartbeats 4000000 in
set_option maxRecDepth 100000 in
theorem kC_asTold (l : Launch) (dC : Nat → ClassId) (dI : Nat → Nat → Nat) (cA : ClassId) (ad : Nat → Nat) (qe : Nat) (sz : Nat) (xHC_first : Int32) (xHC_second : Int32) (xHC_when : Int32) (xHC_ran : Int32) (xRow_depth : Int32) (xRow_length : Int32) (xRow_people : Int32) (xRow_scarves : Int32) (xRow_main : Int32) (xRow_faultPlace : Int32) (gRkinds : Nat → Int32) (gRlates : Nat → Int32) (gRhands : Nat → Int32) (gRslow : Nat → Int32) (xST_sleeper : Int32) (xST_lastDue : Int32) (xST_unreached : Int32) (gSTdue : Nat → Int32) (gSTbusy : Nat → Int32) (gSTfelt : Nat → Int32) (gSTlost : Nat → Int32) (gSTfirst : Nat → Int32) (xDia_size : Int32) (ne : Nat) (gDent : Nat → Int32) (u : Int32 × Int32 × Int32 × Int32 × (Nat → Int32) × (Nat → Int32) × (Nat → Int32) × (Nat → Int32) × (Nat → Int32) × Int32 × Nat × (Nat → Int32)) (hm : fC_asTold xHC_first xHC_second xHC_when xHC_ran xRow_people gRkinds gRlates gRhands gRslow xST_sleeper xST_lastDue xST_unreached gSTdue gSTbusy gSTfelt gSTlost gSTfirst xDia_size ne gDent = some u) : Met l yX9_asTold wsX9_asTold ({ frames := 4, cells := (u.2.2.2.2.2.2.2.2.2.2.1 - ne), slots := (2 * (u.2.2.2.2.2.2.2.2.2.2.1 - ne)), locals := 103 }) (va_Pc [.ref (ad 0)] (fun U => U.heap.size = sz ∧ va_P (dC, dI) vwCl [oHC ad xHC_first xHC_second xHC_when xHC_ran, oRow ad xRow_depth xRow_length xRow_people xRow_scarves xRow_main xRow_faultPlace, ar (ad 3) cA 20 gRkinds, ar (ad 4) cA 20 gRlates, ar (ad 5) cA 20 gRhands, ar (ad 6) cA 20 gRslow, oST ad xST_sleeper xST_lastDue xST_unreached, ar (ad 10) cA 640 gSTdue, ar (ad 11) cA 20 gSTbusy, ar (ad 12) cA 20 gSTfelt, ar (ad 13) cA 20 gSTlost, ar (ad 14) cA 20 gSTfirst, oDia ad qe xDia_size, ar qe cA ne gDent] U.heap ∧ va_K (dC, dI) vwCl [(cA, .int)] U ∧ va_D (fun _ => True) [oHC ad xHC_first xHC_second xHC_when xHC_ran, oRow ad xRow_depth xRow_length xRow_people xRow_scarves xRow_main xRow_faultPlace, ar (ad 3) cA 20 gRkinds, ar (ad 4) cA 20 gRlates, ar (ad 5) cA 20 gRhands, ar (ad 6) cA 20 gRslow, oST ad xST_sleeper xST_lastDue xST_unreached, ar (ad 10) cA 640 gSTdue, ar (ad 11) cA 20 gSTbusy, ar (ad 12) cA 20 gSTfelt, ar (ad 13) cA 20 gSTlost, ar (ad 14) cA 20 gSTfirst, oDia ad qe xDia_size, ar qe cA ne gDent])) (va_Qr (fun (_ : Nat) => True) (fun (qe2 : Nat) (a : Nat) t => a = (ad 9) ∧ va_P (dC, dI) vwCl [oHC ad xHC_first xHC_second xHC_when u.1, oRow ad xRow_depth xRow_length xRow_people xRow_scarves xRow_main xRow_faultPlace, ar (ad 3) cA 20 gRkinds, ar (ad 4) cA 20 gRlates, ar (ad 5) cA 20 gRhands, ar (ad 6) cA 20 gRslow, oST ad u.2.1 u.2.2.1 u.2.2.2.1, ar (ad 10) cA 640 u.2.2.2.2.1, ar (ad 11) cA 20 u.2.2.2.2.2.1, ar (ad 12) cA 20 u.2.2.2.2.2.2.1, ar (ad 13) cA 20 u.2.2.2.2.2.2.2.1, ar (ad 14) cA 20 u.2.2.2.2.2.2.2.2.1, oDia ad qe2 u.2.2.2.2.2.2.2.2.2.1, ar qe2 cA u.2.2.2.2.2.2.2.2.2.2.1 u.2.2.2.2.2.2.2.2.2.2.2] t.heap ∧ va_K (dC, dI) vwCl [(cA, .int)] t ∧ va_D (va_A [oHC ad xHC_first xHC_second xHC_when xHC_ran, oRow ad xRow_depth xRow_length xRow_people xRow_scarves xRow_main xRow_faultPlace, ar (ad 3) cA 20 gRkinds, ar (ad 4) cA 20 gRlates, ar (ad 5) cA 20 gRhands, ar (ad 6) cA 20 gRslow, oST ad xST_sleeper xST_lastDue xST_unreached, ar (ad 10) cA 640 gSTdue, ar (ad 11) cA 20 gSTbusy, ar (ad 12) cA 20 gSTfelt, ar (ad 13) cA 20 gSTlost, ar (ad 14) cA 20 gSTfirst, oDia ad qe xDia_size, ar qe cA ne gDent] sz) [oHC ad xHC_first xHC_second xHC_when u.1, oRow ad xRow_depth xRow_length xRow_people xRow_scarves xRow_main xRow_faultPlace, ar (ad 3) cA 20 gRkinds, ar (ad 4) cA 20 gRlates, ar (ad 5) cA 20 gRhands, ar (ad 6) cA 20 gRslow, oST ad u.2.1 u.2.2.1 u.2.2.2.1, ar (ad 10) cA 640 u.2.2.2.2.1, ar (ad 11) cA 20 u.2.2.2.2.2.1, ar (ad 12) cA 20 u.2.2.2.2.2.2.1, ar (ad 13) cA 20 u.2.2.2.2.2.2.2.1, ar (ad 14) cA 20 u.2.2.2.2.2.2.2.2.1, oDia ad qe2 u.2.2.2.2.2.2.2.2.2.1, ar qe2 cA u.2.2.2.2.2.2.2.2.2.2.1 u.2.2.2.2.2.2.2.2.2.2.2]) (va_A [oHC ad xHC_first xHC_second xHC_when xHC_ran, oRow ad xRow_depth xRow_length xRow_people xRow_scarves xRow_main xRow_faultPlace, ar (ad 3) cA 20 gRkinds, ar (ad 4) cA 20 gRlates, ar (ad 5) cA 20 gRhands, ar (ad 6) cA 20 gRslow, oST ad xST_sleeper xST_lastDue xST_unreached, ar (ad 10) cA 640 gSTdue, ar (ad 11) cA 20 gSTbusy, ar (ad 12) cA 20 gSTfelt, ar (ad 13) cA 20 gSTlost, ar (ad 14) cA 20 gSTfirst, oDia ad qe xDia_size, ar qe cA ne gDent] sz)) (u.2.2.2.2.2.2.2.2.2.2.1 - ne) (2 * (u.2.2.2.2.2.2.2.2.2.2.1 - ne)) (va_A [oHC ad xHC_first xHC_second xHC_when xHC_ran, oRow ad xRow_depth xRow_length xRow_people xRow_scarves xRow_main xRow_faultPlace, ar (ad 3) cA 20 gRkinds, ar (ad 4) cA 20 gRlates, ar (ad 5) cA 20 gRhands, ar (ad 6) cA 20 gRslow, oST ad xST_sleeper xST_lastDue xST_unreached, ar (ad 10) cA 640 gSTdue, ar (ad 11) cA 20 gSTbusy, ar (ad 12) cA 20 gSTfelt, ar (ad 13) cA 20 gSTlost, ar (ad 14) cA 20 gSTfirst, oDia ad qe xDia_size, ar qe cA ne gDent] sz) := by
  refine Met.ofW (cc := cX9_asTold) (maxL := 1) (ret := (some (.object "HandCensus$Squeeze"))) (by decide) rfl ?_
  intro p e s m args below meth c s₁ B hml hv
  obtain ⟨rfl, hsz, hP, hK, hD0⟩ := hv
  have hx := B.exec
  have hb := B.bytes
  have hr := B.returns
  have hts := atoms_spec (ws := wsX9_asTold) B.pre
  have hown : s.vm.findClass RX9 = some m.cls := findClass_of_methodNamed B.named
  have hlocks := B.notSynchronized
  subst hsz
  have hD := hD0.self (sz := s.heap.size)
  generalize hAe : va_A [oHC ad xHC_first xHC_second xHC_when xHC_ran, oRow ad xRow_depth xRow_length xRow_people xRow_scarves xRow_main xRow_faultPlace, ar (ad 3) cA 20 gRkinds, ar (ad 4) cA 20 gRlates, ar (ad 5) cA 20 gRhands, ar (ad 6) cA 20 gRslow, oST ad xST_sleeper xST_lastDue xST_unreached, ar (ad 10) cA 640 gSTdue, ar (ad 11) cA 20 gSTbusy, ar (ad 12) cA 20 gSTfelt, ar (ad 13) cA 20 gSTlost, ar (ad 14) cA 20 gSTfirst, oDia ad qe xDia_size, ar qe cA ne gDent] s.heap.size = A at hD ⊢
  have hA : ∀ q : Nat, s.heap.size ≤ q → A q := fun q h => by rw [← hAe]; exact Or.inr h
  have hS : va_S A s.heap s.heap [] := va_S.rf
  have hl := lv_entry ([.ref (ad 0)]) (n := 1) (Nat.le_of_ble_eq_true rfl)
  rw [lg_entry_eq]
  generalize (lg_sl ([.ref (ad 0)]) ++ List.replicate (1 - (lg_sl ([.ref (ad 0)])).length) Slot.unset).toArray = ls at hl ⊢
  have hl : lv_has ls 1 [(0, .ref (ad 0))] := hl
  refine wk_Q (fun QQ hQ => ?_)
  have hinX9 : ∀ w ∈ wsX90, w ∈ wsX9_asTold := fun w h => List.mem_cons_of_mem _ (inlX9 w h)
  have hl_24 := hts (.fieldLink RX9 24 "HandCensus" "told" "LHandCensus$Squeeze;") (List.mem_cons_of_mem _ (in_r1 _ (List.mem_of_getElem? (i := 22) rfl)))
  have hl_82 := hts (.fieldLink RX9 82 "HandCensus" "ran" "Z") (List.mem_cons_of_mem _ (in_r3 _ (List.mem_of_getElem? (i := 2) rfl)))
  have hl_72 := hts (.fieldLink RX9 72 "HandCensus" "first" "I") (List.mem_cons_of_mem _ (in_r2 _ (List.mem_of_getElem? (i := 23) rfl)))
  have hl_76 := hts (.fieldLink RX9 76 "HandCensus" "second" "I") (List.mem_cons_of_mem _ (in_r3 _ (List.mem_of_getElem? (i := 0) rfl)))
  have hl_79 := hts (.fieldLink RX9 79 "HandCensus" "when" "I") (List.mem_cons_of_mem _ (in_r3 _ (List.mem_of_getElem? (i := 1) rfl)))
  have b_32 : ∀ (xHC_ran_32 : Int32) (xST_sleeper_32 : Int32) (xST_lastDue_32 : Int32) (xST_unreached_32 : Int32) (gSTdue_32 : Nat → Int32) (gSTbusy_32 : Nat → Int32) (gSTfelt_32 : Nat → Int32) (gSTlost_32 : Nat → Int32) (gSTfirst_32 : Nat → Int32) (xDia_size_32 : Int32) (ne_32 : Nat) (gDent_32 : Nat → Int32), fC_asTold_32 xHC_ran_32 xST_sleeper_32 xST_lastDue_32 xST_unreached_32 gSTdue_32 gSTbusy_32 gSTfelt_32 gSTlost_32 gSTfirst_32 xDia_size_32 ne_32 gDent_32 = some u → ∀ (qe_32 : Nat) (H : Heap) (locs : List Loc), ne ≤ ne_32 → ne_32 ≤ u.2.2.2.2.2.2.2.2.2.2.1 → va_P (dC, dI) vwCl [oHC ad xHC_first xHC_second xHC_when xHC_ran_32, oRow ad xRow_depth xRow_length xRow_people xRow_scarves xRow_main xRow_faultPlace, ar (ad 3) cA 20 gRkinds, ar (ad 4) cA 20 gRlates, ar (ad 5) cA 20 gRhands, ar (ad 6) cA 20 gRslow, oST ad xST_sleeper_32 xST_lastDue_32 xST_unreached_32, ar (ad 10) cA 640 gSTdue_32, ar (ad 11) cA 20 gSTbusy_32, ar (ad 12) cA 20 gSTfelt_32, ar (ad 13) cA 20 gSTlost_32, ar (ad 14) cA 20 gSTfirst_32, oDia ad qe_32 xDia_size_32, ar qe_32 cA ne_32 gDent_32] H → va_D A [oHC ad xHC_first xHC_second xHC_when xHC_ran_32, oRow ad xRow_depth xRow_length xRow_people xRow_scarves xRow_main xRow_faultPlace, ar (ad 3) cA 20 gRkinds, ar (ad 4) cA 20 gRlates, ar (ad 5) cA 20 gRhands, ar (ad 6) cA 20 gRslow, oST ad xST_sleeper_32 xST_lastDue_32 xST_unreached_32, ar (ad 10) cA 640 gSTdue_32, ar (ad 11) cA 20 gSTbusy_32, ar (ad 12) cA 20 gSTfelt_32, ar (ad 13) cA 20 gSTlost_32, ar (ad 14) cA 20 gSTfirst_32, oDia ad qe_32 xDia_size_32, ar qe_32 cA ne_32 gDent_32] → va_S A s.heap H locs → ∀ ls : Array Slot, lv_has ls 1 [(0, .ref (ad 0))] → W p l e (headSpec wsX9_asTold ({ frames := 4, cells := (u.2.2.2.2.2.2.2.2.2.2.1 - ne), slots := (2 * (u.2.2.2.2.2.2.2.2.2.2.1 - ne)), locals := 103 })).room s m ([.ref (ad 0)] : List Value).toArray below meth c H locs (ne_32 - ne) (2 * (ne_32 - ne)) QQ (F0 m 32 ls []) := by
    intro xHC_ran_32 xST_sleeper_32 xST_lastDue_32 xST_unreached_32 gSTdue_32 gSTbusy_32 gSTfelt_32 gSTlost_32 gSTfirst_32 xDia_size_32 ne_32 gDent_32 hm qe_32 H locs hne hnu hP hD hS ls hl
    unfold fC_asTold_32 at hm
    refine lv_aload_n hx hb dX9_asTold_32 rfl (lv_at hl 0 rfl) ?_
    refine va_get (D := (dC, dI)) (ci := 9) (v := .ref (ad 9)) (C := RX9) (T := TX9) (N := 12) hx hb hts hinX9 hown hK hP 0 rfl rfl 1 (by decide) hl_24 (fun _ h9 => h9) rfl dX9_asTold_33 ?_
    obtain rfl := Option.some.inj hm
    subst hQ
    refine W.widen (k := ne_32 - ne) (n := 2 * (ne_32 - ne)) (by first | exact Nat.le_refl _ | omega) (by first | exact Nat.le_refl _ | omega) ?_
    exact W.aret hx hb hr (Or.inl ⟨_, rfl⟩) (Or.inr ⟨_, rfl⟩) (fun t ht hW => ⟨⟨qe_32, _, rfl, trivial, rfl, by rw [ht]; exact hP, va_K.moved hW.alike hK, hAe ▸ hD⟩, hS.F ht⟩) hS.2.2 dX9_asTold_36
  unfold fC_asTold at hm
  obtain ⟨hz0, hm⟩ := mz_ok hm
  have hz0 : ne ≤ u.2.2.2.2.2.2.2.2.2.2.1 := hz0
  refine lv_aload_n hx hb dX9_asTold_0 rfl (lv_at hl 0 rfl) ?_
  refine va_get (D := (dC, dI)) (ci := 9) (v := .int xHC_ran) (C := RX9) (T := TX9) (N := 12) hx hb hts hinX9 hown hK hP 0 rfl rfl 11 (by decide) hl_82 (fun _ h9 => h9) rfl dX9_asTold_1 ?_
  refine lv_if_ne (tgt := 32) hx hb dX9_asTold_4 (by decide) (fun c_1 => ?_) (fun c_1 => ?_)
  · have hm := it_neg c_1 hm
    refine W.widen (k := ne - ne) (n := 2 * (ne - ne)) (by first | exact Nat.le_refl _ | omega) (by first | exact Nat.le_refl _ | omega) ?_
    exact b_32 _ _ _ _ _ _ _ _ _ _ _ _ hm _ _ _ (by omega) (by omega) hP hD hS _ (lv_sub hl [0] rfl)
  · have hm := it_pos c_1 hm
    refine lv_aload_n hx hb dX9_asTold_7 rfl (lv_at hl 0 rfl) ?_
    refine va_get (D := (dC, dI)) (ci := 9) (v := .ref (ad 9)) (C := RX9) (T := TX9) (N := 12) hx hb hts hinX9 hown hK hP 0 rfl rfl 1 (by decide) hl_24 (fun _ h9 => h9) rfl dX9_asTold_8 ?_
    refine lv_aload_n hx hb dX9_asTold_11 rfl (lv_at hl 0 rfl) ?_
    refine va_get (D := (dC, dI)) (ci := 9) (v := .int xHC_first) (C := RX9) (T := TX9) (N := 12) hx hb hts hinX9 hown hK hP 0 rfl rfl 8 (by decide) hl_72 (fun _ h9 => h9) rfl dX9_asTold_12 ?_
    refine lv_aload_n hx hb dX9_asTold_15 rfl (lv_at hl 0 rfl) ?_
    refine va_get (D := (dC, dI)) (ci := 9) (v := .int xHC_second) (C := RX9) (T := TX9) (N := 12) hx hb hts hinX9 hown hK hP 0 rfl rfl 9 (by decide) hl_76 (fun _ h9 => h9) rfl dX9_asTold_16 ?_
    refine lv_aload_n hx hb dX9_asTold_19 rfl (lv_at hl 0 rfl) ?_
    refine va_get (D := (dC, dI)) (ci := 9) (v := .int xHC_when) (C := RX9) (T := TX9) (N := 12) hx hb hts hinX9 hown hK hP 0 rfl rfl 10 (by decide) hl_79 (fun _ h9 => h9) rfl dX9_asTold_20 ?_
    refine lv_iconst (v := (-1)) hx hb dX9_asTold_23 (by decide) ?_
    have hPc := hP.sub (ws' := [oRow ad xRow_depth xRow_length xRow_people xRow_scarves xRow_main xRow_faultPlace, ar (ad 3) cA 20 gRkinds, ar (ad 4) cA 20 gRlates, ar (ad 5) cA 20 gRhands, ar (ad 6) cA 20 gRslow, oST ad xST_sleeper xST_lastDue xST_unreached, ar (ad 10) cA 640 gSTdue, ar (ad 11) cA 20 gSTbusy, ar (ad 12) cA 20 gSTfelt, ar (ad 13) cA 20 gSTlost, ar (ad 14) cA 20 gSTfirst, oDia ad qe xDia_size, ar qe cA ne gDent]) [1, 2, 3, 4, 5, 6, 7, 8, 9, 10, 11, 12, 13] rfl
    have hDc := hD.sub (ws' := [oRow ad xRow_depth xRow_length xRow_people xRow_scarves xRow_main xRow_faultPlace, ar (ad 3) cA 20 gRkinds, ar (ad 4) cA 20 gRlates, ar (ad 5) cA 20 gRhands, ar (ad 6) cA 20 gRslow, oST ad xST_sleeper xST_lastDue xST_unreached, ar (ad 10) cA 640 gSTdue, ar (ad 11) cA 20 gSTbusy, ar (ad 12) cA 20 gSTfelt, ar (ad 13) cA 20 gSTlost, ar (ad 14) cA 20 gSTfirst, oDia ad qe xDia_size, ar qe cA ne gDent]) [1, 2, 3, 4, 5, 6, 7, 8, 9, 10, 11, 12, 13] (by decide) rfl
    have hFc := va_free (wc := [oRow ad xRow_depth xRow_length xRow_people xRow_scarves xRow_main xRow_faultPlace, ar (ad 3) cA 20 gRkinds, ar (ad 4) cA 20 gRlates, ar (ad 5) cA 20 gRhands, ar (ad 6) cA 20 gRslow, oST ad xST_sleeper xST_lastDue xST_unreached, ar (ad 10) cA 640 gSTdue, ar (ad 11) cA 20 gSTbusy, ar (ad 12) cA 20 gSTfelt, ar (ad 13) cA 20 gSTlost, ar (ad 14) cA 20 gSTfirst, oDia ad qe xDia_size, ar qe cA ne gDent]) hD hS hA [1, 2, 3, 4, 5, 6, 7, 8, 9, 10, 11, 12, 13] rfl
    obtain ⟨u_2, hc_2, hn1_2, hn2_2, hm⟩ := bm_ok hm
    have hn1_2 : ne ≤ u_2.2.2.2.2.2.2.2.2.2.1 := hn1_2
    have hn2_2 : u_2.2.2.2.2.2.2.2.2.2.1 ≤ u.2.2.2.2.2.2.2.2.2.2.1 := hn2_2
    refine va_callv (va_runV (As := [.int xHC_first, .int xHC_second, .int xHC_when, .int (-1)]) (rest := []) ⟨hx, hb, hml, hown, hts⟩ (kS_run_T l dC dI cA ad qe s.heap.size xHC_first xHC_second xHC_when (-1) xRow_depth xRow_length xRow_people xRow_scarves xRow_main xRow_faultPlace gRkinds gRlates gRhands gRslow xST_sleeper xST_lastDue xST_unreached gSTdue gSTbusy gSTfelt gSTlost gSTfirst xDia_size ne gDent u_2 hc_2) (cwV 4 hts gX9_asTold_X8_run rfl rfl rfl (by decide +kernel) ⟨Nat.le_of_ble_eq_true rfl, Nat.le_of_ble_eq_true rfl⟩) ⟨fun a U g mk q => by obtain ⟨q0, q1, qP, qK, qD⟩ := q; exact ⟨q0, q1, qP, va_K.moved (u := U) (U := U.calling g mk a) (Vm.Alike.refl U.vm) qK, qD⟩, va_recv hK hPc (ci := 8) (q0 := 5) rfl rfl, fun U hU hW => ⟨rfl, by rw [hU], by rw [hU]; exact hPc, va_K.moved hW.alike hK, hDc.weaken (fun _ _ _ _ => trivial)⟩⟩ rfl rfl hl.1 rfl (lv_room (Nat.le_of_ble_eq_true rfl)) dX9_asTold_24 ⟨by (show _ ≤ _ - _); omega, by (show _ ≤ 2 * (_ - _)); omega⟩) hS (fun q _ h => hFc q h) hFc (fun qe_1002 t H1 locs ht hvm hw hB hz1 hk1 hS => ?_)
    obtain ⟨hP1, hK1, hD1⟩ := hB
    rw [ht] at hP1
    obtain ⟨hP, hD⟩ := va_join (wr := [oHC ad xHC_first xHC_second xHC_when xHC_ran]) (w1 := [oRow ad xRow_depth xRow_length xRow_people xRow_scarves xRow_main xRow_faultPlace, ar (ad 3) cA 20 gRkinds, ar (ad 4) cA 20 gRlates, ar (ad 5) cA 20 gRhands, ar (ad 6) cA 20 gRslow, oST ad u_2.1 u_2.2.1 u_2.2.2.1, ar (ad 10) cA 640 u_2.2.2.2.1, ar (ad 11) cA 20 u_2.2.2.2.2.1, ar (ad 12) cA 20 u_2.2.2.2.2.2.1, ar (ad 13) cA 20 u_2.2.2.2.2.2.2.1, ar (ad 14) cA 20 u_2.2.2.2.2.2.2.2.1, oDia ad qe_1002 u_2.2.2.2.2.2.2.2.2.1, ar qe_1002 cA u_2.2.2.2.2.2.2.2.2.2.1 u_2.2.2.2.2.2.2.2.2.2.2]) hP hD [1, 2, 3, 4, 5, 6, 7, 8, 9, 10, 11, 12, 13] [0] rfl rfl (by decide) (by decide) hk1 hFc hP1 hD1
    clear hPc hDc hFc hP1 hK1 hD1 hk1 hz1 hvm ht
    generalize H1 = H at hP hS ⊢
    have hP : va_P (dC, dI) vwCl [oHC ad xHC_first xHC_second xHC_when xHC_ran, oRow ad xRow_depth xRow_length xRow_people xRow_scarves xRow_main xRow_faultPlace, ar (ad 3) cA 20 gRkinds, ar (ad 4) cA 20 gRlates, ar (ad 5) cA 20 gRhands, ar (ad 6) cA 20 gRslow, oST ad u_2.1 u_2.2.1 u_2.2.2.1, ar (ad 10) cA 640 u_2.2.2.2.1, ar (ad 11) cA 20 u_2.2.2.2.2.1, ar (ad 12) cA 20 u_2.2.2.2.2.2.1, ar (ad 13) cA 20 u_2.2.2.2.2.2.2.1, ar (ad 14) cA 20 u_2.2.2.2.2.2.2.2.1, oDia ad qe_1002 u_2.2.2.2.2.2.2.2.2.1, ar qe_1002 cA u_2.2.2.2.2.2.2.2.2.2.1 u_2.2.2.2.2.2.2.2.2.2.2] H := hP
    have hD : va_D A [oHC ad xHC_first xHC_second xHC_when xHC_ran, oRow ad xRow_depth xRow_length xRow_people xRow_scarves xRow_main xRow_faultPlace, ar (ad 3) cA 20 gRkinds, ar (ad 4) cA 20 gRlates, ar (ad 5) cA 20 gRhands, ar (ad 6) cA 20 gRslow, oST ad u_2.1 u_2.2.1 u_2.2.2.1, ar (ad 10) cA 640 u_2.2.2.2.1, ar (ad 11) cA 20 u_2.2.2.2.2.1, ar (ad 12) cA 20 u_2.2.2.2.2.2.1, ar (ad 13) cA 20 u_2.2.2.2.2.2.2.1, ar (ad 14) cA 20 u_2.2.2.2.2.2.2.2.1, oDia ad qe_1002 u_2.2.2.2.2.2.2.2.2.1, ar qe_1002 cA u_2.2.2.2.2.2.2.2.2.2.1 u_2.2.2.2.2.2.2.2.2.2.2] := hD
    refine W.widen (k := u_2.2.2.2.2.2.2.2.2.2.1 - ne) (n := 2 * (u_2.2.2.2.2.2.2.2.2.2.1 - ne)) (by omega) (by omega) ?_
    refine lv_aload_n hx hb dX9_asTold_27 rfl (lv_at hl 0 rfl) ?_
    refine lv_iconst (v := 1) hx hb dX9_asTold_28 (by decide) ?_
    refine va_put (D := (dC, dI)) (ci := 9) (v := .int 1) (ty := .boolean) (C := RX9) (T := TX9) (N := 12) hx hb hts hinX9 tyX9 tyX9_ok nmX9 hown hK hP hD hS 0 rfl rfl 11 (by decide) hl_82 (fun _ h9 => h9) rfl (by decide +kernel) rfl rfl (Nat.le_of_ble_eq_true rfl) dX9_asTold_29 (fun H locs hP hD hS => ?_)
    have hP : va_P (dC, dI) vwCl [oHC ad xHC_first xHC_second xHC_when 1, oRow ad xRow_depth xRow_length xRow_people xRow_scarves xRow_main xRow_faultPlace, ar (ad 3) cA 20 gRkinds, ar (ad 4) cA 20 gRlates, ar (ad 5) cA 20 gRhands, ar (ad 6) cA 20 gRslow, oST ad u_2.1 u_2.2.1 u_2.2.2.1, ar (ad 10) cA 640 u_2.2.2.2.1, ar (ad 11) cA 20 u_2.2.2.2.2.1, ar (ad 12) cA 20 u_2.2.2.2.2.2.1, ar (ad 13) cA 20 u_2.2.2.2.2.2.2.1, ar (ad 14) cA 20 u_2.2.2.2.2.2.2.2.1, oDia ad qe_1002 u_2.2.2.2.2.2.2.2.2.1, ar qe_1002 cA u_2.2.2.2.2.2.2.2.2.2.1 u_2.2.2.2.2.2.2.2.2.2.2] H := hP
    have hD : va_D A [oHC ad xHC_first xHC_second xHC_when 1, oRow ad xRow_depth xRow_length xRow_people xRow_scarves xRow_main xRow_faultPlace, ar (ad 3) cA 20 gRkinds, ar (ad 4) cA 20 gRlates, ar (ad 5) cA 20 gRhands, ar (ad 6) cA 20 gRslow, oST ad u_2.1 u_2.2.1 u_2.2.2.1, ar (ad 10) cA 640 u_2.2.2.2.1, ar (ad 11) cA 20 u_2.2.2.2.2.1, ar (ad 12) cA 20 u_2.2.2.2.2.2.1, ar (ad 13) cA 20 u_2.2.2.2.2.2.2.1, ar (ad 14) cA 20 u_2.2.2.2.2.2.2.2.1, oDia ad qe_1002 u_2.2.2.2.2.2.2.2.2.1, ar qe_1002 cA u_2.2.2.2.2.2.2.2.2.2.1 u_2.2.2.2.2.2.2.2.2.2.2] := hD
    refine W.widen (k := u_2.2.2.2.2.2.2.2.2.2.1 - ne) (n := 2 * (u_2.2.2.2.2.2.2.2.2.2.1 - ne)) (by first | exact Nat.le_refl _ | omega) (by first | exact Nat.le_refl _ | omega) ?_
    exact b_32 _ _ _ _ _ _ _ _ _ _ _ _ hm _ _ _ (by omega) (by omega) hP hD hS _ (lv_sub hl [0] rfl)

set_option maxHeartbeats 4000000 in
set_option maxRecDepth 100000 in
theorem kD_isOf (l : Launch) (dC : Nat → ClassId) (dI : Nat → Nat → Nat) (cA : ClassId) (ad : Nat → Nat) (sz : Nat) (a0 : Int32) (a1 : Int32) (a2 : Int32) (u : Int32) (hm : fD_isOf a0 a1 a2 = some u) : Met l yX1_isOf wsX1_isOf ({ frames := 0, cells := 0, slots := 0, locals := 0 }) (va_Pc [.int a0, .int a1, .int a2] (fun U => U.heap.size = sz ∧ va_P (dC, dI) vwCl [] U.heap ∧ va_K (dC, dI) vwCl [(cA, .int)] U ∧ va_D (fun _ => True) [])) (va_Qi (fun (r : Int32) (_ : Unit) => r = u) (fun (_ : Unit) t => va_P (dC, dI) vwCl [] t.heap ∧ va_K (dC, dI) vwCl [(cA, .int)] t ∧ va_D (va_A [] sz) []) (va_A [] sz)) 0 0 (va_A [] sz) := by
  refine Met.ofW (cc := cX1_isOf) (maxL := 3) (ret := (some .boolean)) (by decide) rfl ?_
  intro p e s m args below meth c s₁ B hml hv
  obtain ⟨rfl, hsz, hP, hK, hD0⟩ := hv
  have hx := B.exec
  have hb := B.bytes
  have hr := B.returns
  have hts := atoms_spec (ws := wsX1_isOf) B.pre
  have hown : s.vm.findClass RX1 = some m.cls := findClass_of_methodNamed B.named
  have hlocks := B.notSynchronized
  subst hsz
  have hD := hD0.self (sz := s.heap.size)
  generalize hAe : va_A [] s.heap.size = A at hD ⊢
  have hA : ∀ q : Nat, s.heap.size ≤ q → A q := fun q h => by rw [← hAe]; exact Or.inr h
  have hS : va_S A s.heap s.heap [] := va_S.rf
  have hl := lv_entry ([.int a0, .int a1, .int a2]) (n := 3) (Nat.le_of_ble_eq_true rfl)
  rw [lg_entry_eq]
  generalize (lg_sl ([.int a0, .int a1, .int a2]) ++ List.replicate (3 - (lg_sl ([.int a0, .int a1, .int a2])).length) Slot.unset).toArray = ls at hl ⊢
  have hl : lv_has ls 3 [(0, .int a0), (1, .int a1), (2, .int a2)] := hl
  refine wk_Q (fun QQ hQ => ?_)
  unfold fD_isOf at hm
  refine lv_iload_n hx hb dX1_isOf_0 rfl (lv_at hl 0 rfl) ?_
  refine lv_bipush (v := 6) hx hb dX1_isOf_1 (by decide) ?_
  refine lv_ishr hx hb dX1_isOf_3 ?_
  refine lv_bipush (v := 31) hx hb dX1_isOf_4 (by decide) ?_
  refine lv_iand hx hb dX1_isOf_6 ?_
  refine lv_iload_n hx hb dX1_isOf_7 rfl (lv_at hl 1 rfl) ?_
  refine lv_icmp_ne (tgt := 22) hx hb dX1_isOf_8 (by decide) (fun c_1 => ?_) (fun c_1 => ?_)
  · have hm := it_neg c_1 hm
    refine lv_iconst (v := 0) hx hb dX1_isOf_22 (by decide) ?_
    obtain rfl := Option.some.inj hm
    subst hQ
    exact W.zret (v := 0) hx hb hr rfl (fun t ht hW => ⟨⟨_, (), rfl, rfl, by rw [ht]; exact hP, va_K.moved hW.alike hK, hAe ▸ hD⟩, hS.F ht⟩) hS.2.2 dX1_isOf_23
  · have hm := it_pos c_1 hm
    refine lv_iload_n hx hb dX1_isOf_11 rfl (lv_at hl 0 rfl) ?_
    refine lv_iconst (v := 1) hx hb dX1_isOf_12 (by decide) ?_
    refine lv_iand hx hb dX1_isOf_13 ?_
    refine lv_iload_n hx hb dX1_isOf_14 rfl (lv_at hl 2 rfl) ?_
    refine lv_icmp_ne (tgt := 22) hx hb dX1_isOf_15 (by decide) (fun c_2 => ?_) (fun c_2 => ?_)
    · have hm := it_neg c_2 hm
      refine lv_iconst (v := 0) hx hb dX1_isOf_22 (by decide) ?_
      obtain rfl := Option.some.inj hm
      subst hQ
      exact W.zret (v := 0) hx hb hr rfl (fun t ht hW => ⟨⟨_, (), rfl, rfl, by rw [ht]; exact hP, va_K.moved hW.alike hK, hAe ▸ hD⟩, hS.F ht⟩) hS.2.2 dX1_isOf_23
    · have hm := it_pos c_2 hm
      refine lv_iconst (v := 1) hx hb dX1_isOf_18 (by decide) ?_
      refine lv_goto (tgt := 23) hx hb dX1_isOf_19 (by decide) ?_
      obtain rfl := Option.some.inj hm
      subst hQ
      exact W.zret (v := 1) hx hb hr rfl (fun t ht hW => ⟨⟨_, (), rfl, rfl, by rw [ht]; exact hP, va_K.moved hW.alike hK, hAe ▸ hD⟩, hS.F ht⟩) hS.2.2 dX1_isOf_23

set_option maxHeartbeats 4000000 in
set_option maxRecDepth 100000 in
theorem kD_findFelt (l : Launch) (dC : Nat → ClassId) (dI : Nat → Nat → Nat) (cA : ClassId) (ad : Nat → Nat) (qe : Nat) (sz : Nat) (a1 : Int32) (a2 : Int32) (xDia_size : Int32) (ne : Nat) (gDent : Nat → Int32) (u : Int32) (hm : fD_findFelt a1 a2 xDia_size ne gDent = some u) : Met l yX1_findFelt wsX1_findFelt ({ frames := 1, cells := 0, slots := 0, locals := 22 }) (va_Pc [.ref (ad 15), .int a1, .int a2] (fun U => U.heap.size = sz ∧ va_P (dC, dI) vwCl [oDia ad qe xDia_size, ar qe cA ne gDent] U.heap ∧ va_K (dC, dI) vwCl [(cA, .int)] U ∧ va_D (fun _ => True) [oDia ad qe xDia_size, ar qe cA ne gDent])) (va_Qi (fun (r : Int32) (_ : Unit) => r = u) (fun (_ : Unit) t => va_P (dC, dI) vwCl [oDia ad qe xDia_size, ar qe cA ne gDent] t.heap ∧ va_K (dC, dI) vwCl [(cA, .int)] t ∧ va_D (va_A [oDia ad qe xDia_size, ar qe cA ne gDent] sz) [oDia ad qe xDia_size, ar qe cA ne gDent]) (va_A [oDia ad qe xDia_size, ar qe cA ne gDent] sz)) 0 0 (va_A [oDia ad qe xDia_size, ar qe cA ne gDent] sz) := by
  refine Met.ofW (cc := cX1_findFelt) (maxL := 5) (ret := (some .int)) (by decide) rfl ?_
  intro p e s m args below meth c s₁ B hml hv
  obtain ⟨rfl, hsz, hP, hK, hD0⟩ := hv
  have hx := B.exec
  have hb := B.bytes
  have hr := B.returns
  have hts := atoms_spec (ws := wsX1_findFelt) B.pre
  have hown : s.vm.findClass RX1 = some m.cls := findClass_of_methodNamed B.named
  have hlocks := B.notSynchronized
  subst hsz
  have hD := hD0.self (sz := s.heap.size)
  generalize hAe : va_A [oDia ad qe xDia_size, ar qe cA ne gDent] s.heap.size = A at hD ⊢
  have hA : ∀ q : Nat, s.heap.size ≤ q → A q := fun q h => by rw [← hAe]; exact Or.inr h
  have hS : va_S A s.heap s.heap [] := va_S.rf
  have hl := lv_entry ([.ref (ad 15), .int a1, .int a2]) (n := 5) (Nat.le_of_ble_eq_true rfl)
  rw [lg_entry_eq]
  generalize (lg_sl ([.ref (ad 15), .int a1, .int a2]) ++ List.replicate (5 - (lg_sl ([.ref (ad 15), .int a1, .int a2])).length) Slot.unset).toArray = ls at hl ⊢
  have hl : lv_has ls 5 [(0, .ref (ad 15)), (1, .int a1), (2, .int a2)] := hl
  refine wk_Q (fun QQ hQ => ?_)
  have hinX1 : ∀ w ∈ wsX10, w ∈ wsX1_findFelt := fun w h => List.mem_cons_of_mem _ (inlX1 w h)
  have hl_15 := hts (.fieldLink RX1 15 "HandCensus$Diary" "size" "I") (List.mem_cons_of_mem _ (in_r3 _ (List.mem_of_getElem? (i := 21) rfl)))
  have hl_9 := hts (.fieldLink RX1 9 "HandCensus$Diary" "entries" "[I") (List.mem_cons_of_mem _ (in_r3 _ (List.mem_of_getElem? (i := 20) rfl)))
  have h_5 : ∀ (v1_5 : Int32), ∀ (n_5 : Nat), ∀ (v3_5 : Int32) (v4_5 : Int32), fD_findFelt_5 v1_5 xDia_size ne gDent n_5 v3_5 v4_5 = some u → ∀ (H : Heap) (locs : List Loc), va_P (dC, dI) vwCl [oDia ad qe xDia_size, ar qe cA ne gDent] H → va_D A [oDia ad qe xDia_size, ar qe cA ne gDent] → va_S A s.heap H locs → ∀ ls : Array Slot, lv_has ls 5 [(0, .ref (ad 15)), (1, .int v1_5), (3, .int v3_5), (4, .int v4_5)] → W p l e (headSpec wsX1_findFelt ({ frames := 1, cells := 0, slots := 0, locals := 22 })).room s m ([.ref (ad 15), .int a1, .int a2] : List Value).toArray below meth c H locs 0 0 QQ (F0 m 5 ls []) := by
    intro v1_5
    intro n_5
    induction n_5 with
    | zero => intro v3_5 v4_5 hm; have hm : (none : Option (Int32)) = some u := hm; cases hm
    | succ n_5 ih_5 =>
      have b_44 : ∀ (v3_44 : Int32) (v4_44 : Int32), fD_findFelt_44 (fD_findFelt_5  v1_5 xDia_size ne gDent n_5) v1_5 v3_44 v4_44 xDia_size ne gDent = some u → ∀ (H : Heap) (locs : List Loc), va_P (dC, dI) vwCl [oDia ad qe xDia_size, ar qe cA ne gDent] H → va_D A [oDia ad qe xDia_size, ar qe cA ne gDent] → va_S A s.heap H locs → ∀ ls : Array Slot, lv_has ls 5 [(0, .ref (ad 15)), (1, .int v1_5), (3, .int v3_44), (4, .int v4_44)] → W p l e (headSpec wsX1_findFelt ({ frames := 1, cells := 0, slots := 0, locals := 22 })).room s m ([.ref (ad 15), .int a1, .int a2] : List Value).toArray below meth c H locs 0 0 QQ (F0 m 44 ls []) := by
        intro v3_44 v4_44 hm H locs hP hD hS ls hl
        unfold fD_findFelt_44 at hm
        refine lv_iinc (v := (v4_44 + 1)) (lv' := [(4, .int (v4_44 + 1)), (0, .ref (ad 15)), (1, .int v1_5), (3, .int v3_44)]) hx hb dX1_findFelt_44 hl (k := 3) rfl rfl (by decide) rfl (fun ls hl => ?_)
        refine lv_goto (tgt := 5) hx hb dX1_findFelt_47 (by decide) ?_
        exact ih_5 _ _ hm _ _ hP hD hS _ (lv_sub hl [1, 2, 3, 0] rfl)
      intro v3_5 v4_5 hm H locs hP hD hS ls hl
      have hm : fD_findFelt_5_b  (fD_findFelt_5  v1_5 xDia_size ne gDent n_5) v1_5 xDia_size ne gDent v3_5 v4_5 = some u := hm
      unfold fD_findFelt_5_b at hm
      refine lv_iload hx hb dX1_findFelt_5 (lv_at hl 3 rfl) ?_
      refine lv_aload_n hx hb dX1_findFelt_7 rfl (lv_at hl 0 rfl) ?_
      refine va_get (D := (dC, dI)) (ci := 1) (v := .int xDia_size) (C := RX1) (T := TX1) (N := 2) hx hb hts hinX1 hown hK hP 0 rfl rfl 1 (by decide) hl_15 (fun _ h9 => h9) rfl dX1_findFelt_8 ?_
      refine lv_icmp_ge (tgt := 50) hx hb dX1_findFelt_11 (by decide) (fun c_1 => ?_) (fun c_1 => ?_)
      · have hm := it_pos c_1 hm
        refine lv_iconst (v := (-1)) hx hb dX1_findFelt_50 (by decide) ?_
        obtain rfl := Option.some.inj hm
        subst hQ
        exact W.iret (v := (-1)) hx hb hr (fun t ht hW => ⟨⟨_, (), rfl, rfl, by rw [ht]; exact hP, va_K.moved hW.alike hK, hAe ▸ hD⟩, hS.F ht⟩) hS.2.2 dX1_findFelt_51
      · have hm := it_neg c_1 hm
        refine lv_aload_n hx hb dX1_findFelt_14 rfl (lv_at hl 0 rfl) ?_
        refine va_get (D := (dC, dI)) (ci := 1) (v := .ref qe) (C := RX1) (T := TX1) (N := 2) hx hb hts hinX1 hown hK hP 0 rfl rfl 0 (by decide) hl_9 (fun _ h9 => h9) rfl dX1_findFelt_15 ?_
        refine lv_iload hx hb dX1_findFelt_18 (lv_at hl 3 rfl) ?_
        obtain ⟨i_2, hm⟩ := ck_ok hm
        refine va_iald hx hb hK hP 1 0 rfl rfl i_2 dX1_findFelt_20 ?_
        refine lv_iload_n hx hb dX1_findFelt_21 rfl (lv_at hl 1 rfl) ?_
        refine lv_iconst (v := 0) hx hb dX1_findFelt_22 (by decide) ?_
        have hPc := hP.sub (ws' := []) [] rfl
        have hDc := hD.sub (ws' := []) [] (by decide) rfl
        have hFc := va_free (wc := []) hD hS hA [] rfl
        obtain ⟨u_3, hc_3, hm⟩ := bd_ok hm
        refine va_calli (va_runS (As := [.int (gDent v4_5.toNatClampNeg), .int v1_5, .int 0]) (rest := []) ⟨hx, hb, hml, hown, hts⟩ (kD_isOf l dC dI cA ad H.size (gDent v4_5.toNatClampNeg) v1_5 0 u_3 hc_3) (va_cwS 3 hts gX1_findFelt_X1_isOf rfl rfl rfl (by decide +kernel) ⟨Nat.le_of_ble_eq_true rfl, Nat.le_of_ble_eq_true rfl⟩) ⟨fun a U g mk q => by obtain ⟨q0, q1, qP, qK, qD⟩ := q; exact ⟨q0, q1, qP, va_K.moved (u := U) (U := U.calling g mk a) (Vm.Alike.refl U.vm) qK, qD⟩, fun U hU hW => ⟨rfl, by rw [hU], by rw [hU]; exact hPc, va_K.moved hW.alike hK, hDc.weaken (fun _ _ _ _ => trivial)⟩⟩ rfl rfl hl.1 rfl (lv_room (Nat.le_of_ble_eq_true rfl)) dX1_findFelt_23 ⟨Nat.le_of_ble_eq_true rfl, Nat.le_of_ble_eq_true rfl⟩) hS (fun q _ h => hFc q h) hFc (fun r_3 _ t H1 locs ht hvm hw hB hz1 hk1 hS => ?_)
        obtain ⟨hP1, hK1, hD1⟩ := hB
        rw [ht] at hP1
        obtain ⟨hP, hD⟩ := va_join (wr := [oDia ad qe xDia_size, ar qe cA ne gDent]) (w1 := []) hP hD [] [0, 1] rfl rfl (by decide) (by decide) hk1 hFc hP1 hD1
        clear hPc hDc hFc hP1 hK1 hD1 hk1 hz1 hvm ht
        generalize H1 = H at hP hS ⊢
        have hP : va_P (dC, dI) vwCl [oDia ad qe xDia_size, ar qe cA ne gDent] H := hP
        have hD : va_D A [oDia ad qe xDia_size, ar qe cA ne gDent] := hD
        have hw := hw.symm
        subst hw
        refine lv_if_eq (tgt := 44) hx hb dX1_findFelt_26 (by decide) (fun c_4 => ?_) (fun c_4 => ?_)
        · have hm := it_pos c_4 hm
          exact b_44 _ _ hm _ _ hP hD hS _ (lv_sub hl [0, 1, 2, 3] rfl)
        · have hm := it_neg c_4 hm
          refine lv_iload_n hx hb dX1_findFelt_29 rfl (lv_at hl 2 rfl) ?_
          refine lv_if_ne (tgt := 41) hx hb dX1_findFelt_30 (by decide) (fun c_5 => ?_) (fun c_5 => ?_)
          · have hm := it_neg c_5 hm
            refine lv_iinc (v := (v3_5 + (-1))) (lv' := [(3, .int (v3_5 + (-1))), (0, .ref (ad 15)), (1, .int v1_5), (4, .int v4_5)]) hx hb dX1_findFelt_41 hl (k := 2) rfl rfl (by decide) rfl (fun ls hl => ?_)
            exact b_44 _ _ hm _ _ hP hD hS _ (lv_sub hl [1, 2, 0, 3] rfl)
          · have hm := it_pos c_5 hm
            refine lv_aload_n hx hb dX1_findFelt_33 rfl (lv_at hl 0 rfl) ?_
            refine va_get (D := (dC, dI)) (ci := 1) (v := .ref qe) (C := RX1) (T := TX1) (N := 2) hx hb hts hinX1 hown hK hP 0 rfl rfl 0 (by decide) hl_9 (fun _ h9 => h9) rfl dX1_findFelt_34 ?_
            refine lv_iload hx hb dX1_findFelt_37 (lv_at hl 3 rfl) ?_
            obtain ⟨i_6, hm⟩ := ck_ok hm
            refine va_iald hx hb hK hP 1 0 rfl rfl i_6 dX1_findFelt_39 ?_
            obtain rfl := Option.some.inj hm
            subst hQ
            exact W.iret (v := (gDent v4_5.toNatClampNeg)) hx hb hr (fun t ht hW => ⟨⟨_, (), rfl, rfl, by rw [ht]; exact hP, va_K.moved hW.alike hK, hAe ▸ hD⟩, hS.F ht⟩) hS.2.2 dX1_findFelt_40
  unfold fD_findFelt at hm
  refine lv_iload_n hx hb dX1_findFelt_0 rfl (lv_at hl 2 rfl) ?_
  refine lv_istore_n (lv' := [(3, .int a2), (0, .ref (ad 15)), (1, .int a1), (2, .int a2)]) hx hb dX1_findFelt_1 rfl hl (by decide) rfl (fun ls hl => ?_)
  refine lv_iconst (v := 0) hx hb dX1_findFelt_2 (by decide) ?_
  refine lv_istore (lv' := [(4, .int 0), (3, .int a2), (0, .ref (ad 15)), (1, .int a1), (2, .int a2)]) hx hb dX1_findFelt_3 hl (by decide) rfl (fun ls hl => ?_)
  exact h_5 _ _ _ _ hm _ _ hP hD hS _ (lv_sub hl [2, 3, 1, 0] rfl)

set_option maxHeartbeats 4000000 in
set_option maxRecDepth 100000 in
theorem kD_timeOf (l : Launch) (dC : Nat → ClassId) (dI : Nat → Nat → Nat) (cA : ClassId) (ad : Nat → Nat) (sz : Nat) (a0 : Int32) (u : Int32) (hm : fD_timeOf a0 = some u) : Met l yX1_timeOf wsX1_timeOf ({ frames := 0, cells := 0, slots := 0, locals := 0 }) (va_Pc [.int a0] (fun U => U.heap.size = sz ∧ va_P (dC, dI) vwCl [] U.heap ∧ va_K (dC, dI) vwCl [(cA, .int)] U ∧ va_D (fun _ => True) [])) (va_Qi (fun (r : Int32) (_ : Unit) => r = u) (fun (_ : Unit) t => va_P (dC, dI) vwCl [] t.heap ∧ va_K (dC, dI) vwCl [(cA, .int)] t ∧ va_D (va_A [] sz) []) (va_A [] sz)) 0 0 (va_A [] sz) := by
  refine Met.ofW (cc := cX1_timeOf) (maxL := 1) (ret := (some .int)) (by decide) rfl ?_
  intro p e s m args below meth c s₁ B hml hv
  obtain ⟨rfl, hsz, hP, hK, hD0⟩ := hv
  have hx := B.exec
  have hb := B.bytes
  have hr := B.returns
  have hts := atoms_spec (ws := wsX1_timeOf) B.pre
  have hown : s.vm.findClass RX1 = some m.cls := findClass_of_methodNamed B.named
  have hlocks := B.notSynchronized
  subst hsz
  have hD := hD0.self (sz := s.heap.size)
  generalize hAe : va_A [] s.heap.size = A at hD ⊢
  have hA : ∀ q : Nat, s.heap.size ≤ q → A q := fun q h => by rw [← hAe]; exact Or.inr h
  have hS : va_S A s.heap s.heap [] := va_S.rf
  have hl := lv_entry ([.int a0]) (n := 1) (Nat.le_of_ble_eq_true rfl)
  rw [lg_entry_eq]
  generalize (lg_sl ([.int a0]) ++ List.replicate (1 - (lg_sl ([.int a0])).length) Slot.unset).toArray = ls at hl ⊢
  have hl : lv_has ls 1 [(0, .int a0)] := hl
  refine wk_Q (fun QQ hQ => ?_)
  unfold fD_timeOf at hm
  refine lv_iload_n hx hb dX1_timeOf_0 rfl (lv_at hl 0 rfl) ?_
  refine lv_bipush (v := 11) hx hb dX1_timeOf_1 (by decide) ?_
  refine lv_ishr hx hb dX1_timeOf_3 ?_
  obtain rfl := Option.some.inj hm
  subst hQ
  exact W.iret (v := (a0 >>> (11 &&& 31))) hx hb hr (fun t ht hW => ⟨⟨_, (), rfl, rfl, by rw [ht]; exact hP, va_K.moved hW.alike hK, hAe ▸ hD⟩, hS.F ht⟩) hS.2.2 dX1_timeOf_4

set_option maxHeartbeats 4000000 in
set_option maxRecDepth 100000 in
theorem kS_timeOfFelt_T (l : Launch) (dC : Nat → ClassId) (dI : Nat → Nat → Nat) (cA : ClassId) (ad : Nat → Nat) (qe : Nat) (sz : Nat) (a1 : Int32) (a2 : Int32) (xST_sleeper : Int32) (xST_lastDue : Int32) (xST_unreached : Int32) (xDia_size : Int32) (ne : Nat) (gDent : Nat → Int32) (u : Int32) (hm : fS_timeOfFelt_T a1 a2 xDia_size ne gDent = some u) : Met l yX8_timeOfFelt wsX8_timeOfFelt ({ frames := 2, cells := 0, slots := 0, locals := 46 }) (va_Pc [.ref (ad 9), .int a1, .int a2] (fun U => U.heap.size = sz ∧ va_P (dC, dI) vwCl [oST ad xST_sleeper xST_lastDue xST_unreached, oDia ad qe xDia_size, ar qe cA ne gDent] U.heap ∧ va_K (dC, dI) vwCl [(cA, .int)] U ∧ va_D (fun _ => True) [oST ad xST_sleeper xST_lastDue xST_unreached, oDia ad qe xDia_size, ar qe cA ne gDent])) (va_Qi (fun (r : Int32) (_ : Unit) => r = u) (fun (_ : Unit) t => va_P (dC, dI) vwCl [oST ad xST_sleeper xST_lastDue xST_unreached, oDia ad qe xDia_size, ar qe cA ne gDent] t.heap ∧ va_K (dC, dI) vwCl [(cA, .int)] t ∧ va_D (va_A [oST ad xST_sleeper xST_lastDue xST_unreached, oDia ad qe xDia_size, ar qe cA ne gDent] sz) [oST ad xST_sleeper xST_lastDue xST_unreached, oDia ad qe xDia_size, ar qe cA ne gDent]) (va_A [oST ad xST_sleeper xST_lastDue xST_unreached, oDia ad qe xDia_size, ar qe cA ne gDent] sz)) 0 0 (va_A [oST ad xST_sleeper xST_lastDue xST_unreached, oDia ad qe xDia_size, ar qe cA ne gDent] sz) := by
  refine Met.ofW (cc := cX8_timeOfFelt) (maxL := 4) (ret := (some .int)) (by decide) rfl ?_
  intro p e s m args below meth c s₁ B hml hv
  obtain ⟨rfl, hsz, hP, hK, hD0⟩ := hv
  have hx := B.exec
  have hb := B.bytes
  have hr := B.returns
  have hts := atoms_spec (ws := wsX8_timeOfFelt) B.pre
  have hown : s.vm.findClass RX8 = some m.cls := findClass_of_methodNamed B.named
  have hlocks := B.notSynchronized
  subst hsz
  have hD := hD0.self (sz := s.heap.size)
  generalize hAe : va_A [oST ad xST_sleeper xST_lastDue xST_unreached, oDia ad qe xDia_size, ar qe cA ne gDent] s.heap.size = A at hD ⊢
  have hA : ∀ q : Nat, s.heap.size ≤ q → A q := fun q h => by rw [← hAe]; exact Or.inr h
  have hS : va_S A s.heap s.heap [] := va_S.rf
  have hl := lv_entry ([.ref (ad 9), .int a1, .int a2]) (n := 4) (Nat.le_of_ble_eq_true rfl)
  rw [lg_entry_eq]
  generalize (lg_sl ([.ref (ad 9), .int a1, .int a2]) ++ List.replicate (4 - (lg_sl ([.ref (ad 9), .int a1, .int a2])).length) Slot.unset).toArray = ls at hl ⊢
  have hl : lv_has ls 4 [(0, .ref (ad 9)), (1, .int a1), (2, .int a2)] := hl
  refine wk_Q (fun QQ hQ => ?_)
  have hinX8 : ∀ w ∈ wsX80, w ∈ wsX8_timeOfFelt := fun w h => List.mem_cons_of_mem _ (inlX8 w h)
  have hl_15 := hts (.fieldLink RX8 15 "HandCensus$Squeeze" "diary" "LHandCensus$Diary;") (List.mem_cons_of_mem _ (in_r4 _ (List.mem_of_getElem? (i := 3) rfl)))
  unfold fS_timeOfFelt_T at hm
  refine lv_aload_n hx hb dX8_timeOfFelt_0 rfl (lv_at hl 0 rfl) ?_
  refine va_get (D := (dC, dI)) (ci := 8) (v := .ref (ad 15)) (C := RX8) (T := TX8) (N := 10) hx hb hts hinX8 hown hK hP 0 rfl rfl 1 (by decide) hl_15 (fun _ h9 => h9) rfl dX8_timeOfFelt_1 ?_
  refine lv_ifnonnull (tgt := 11) hx hb dX8_timeOfFelt_4 (by decide) ?_
  refine lv_aload_n hx hb dX8_timeOfFelt_11 rfl (lv_at hl 0 rfl) ?_
  refine va_get (D := (dC, dI)) (ci := 8) (v := .ref (ad 15)) (C := RX8) (T := TX8) (N := 10) hx hb hts hinX8 hown hK hP 0 rfl rfl 1 (by decide) hl_15 (fun _ h9 => h9) rfl dX8_timeOfFelt_12 ?_
  refine lv_iload_n hx hb dX8_timeOfFelt_15 rfl (lv_at hl 1 rfl) ?_
  refine lv_iload_n hx hb dX8_timeOfFelt_16 rfl (lv_at hl 2 rfl) ?_
  have hPc := hP.sub (ws' := [oDia ad qe xDia_size, ar qe cA ne gDent]) [1, 2] rfl
  have hDc := hD.sub (ws' := [oDia ad qe xDia_size, ar qe cA ne gDent]) [1, 2] (by decide) rfl
  have hFc := va_free (wc := [oDia ad qe xDia_size, ar qe cA ne gDent]) hD hS hA [1, 2] rfl
  obtain ⟨u_1, hc_1, hm⟩ := bd_ok hm
  refine va_calli (va_runV (As := [.int a1, .int a2]) (rest := []) ⟨hx, hb, hml, hown, hts⟩ (kD_findFelt l dC dI cA ad qe s.heap.size a1 a2 xDia_size ne gDent u_1 hc_1) (cwV 2 hts gX8_timeOfFelt_X1_findFelt rfl rfl rfl (by decide +kernel) ⟨Nat.le_of_ble_eq_true rfl, Nat.le_of_ble_eq_true rfl⟩) ⟨fun a U g mk q => by obtain ⟨q0, q1, qP, qK, qD⟩ := q; exact ⟨q0, q1, qP, va_K.moved (u := U) (U := U.calling g mk a) (Vm.Alike.refl U.vm) qK, qD⟩, va_recv hK hPc (ci := 1) (q0 := 0) rfl rfl, fun U hU hW => ⟨rfl, by rw [hU], by rw [hU]; exact hPc, va_K.moved hW.alike hK, hDc.weaken (fun _ _ _ _ => trivial)⟩⟩ rfl rfl hl.1 rfl (lv_room (Nat.le_of_ble_eq_true rfl)) dX8_timeOfFelt_17 ⟨Nat.le_of_ble_eq_true rfl, Nat.le_of_ble_eq_true rfl⟩) hS (fun q _ h => hFc q h) hFc (fun r_1 _ t H1 locs ht hvm hw hB hz1 hk1 hS => ?_)
  obtain ⟨hP1, hK1, hD1⟩ := hB
  rw [ht] at hP1
  obtain ⟨hP, hD⟩ := va_join (wr := [oST ad xST_sleeper xST_lastDue xST_unreached]) (w1 := [oDia ad qe xDia_size, ar qe cA ne gDent]) hP hD [1, 2] [0] rfl rfl (by decide) (by decide) hk1 hFc hP1 hD1
  clear hPc hDc hFc hP1 hK1 hD1 hk1 hz1 hvm ht
  generalize H1 = H at hP hS ⊢
  have hP : va_P (dC, dI) vwCl [oST ad xST_sleeper xST_lastDue xST_unreached, oDia ad qe xDia_size, ar qe cA ne gDent] H := hP
  have hD : va_D A [oST ad xST_sleeper xST_lastDue xST_unreached, oDia ad qe xDia_size, ar qe cA ne gDent] := hD
  have hw := hw.symm
  subst hw
  refine lv_istore_n (lv' := [(3, .int u_1), (0, .ref (ad 9)), (1, .int a1), (2, .int a2)]) hx hb dX8_timeOfFelt_20 rfl hl (by decide) rfl (fun ls hl => ?_)
  refine lv_iload_n hx hb dX8_timeOfFelt_21 rfl (lv_at hl 0 rfl) ?_
  refine lv_iconst (v := (-1)) hx hb dX8_timeOfFelt_22 (by decide) ?_
  refine lv_icmp_ne (tgt := 30) hx hb dX8_timeOfFelt_23 (by decide) (fun c_2 => ?_) (fun c_2 => ?_)
  · have hm := it_neg c_2 hm
    refine lv_iload_n hx hb dX8_timeOfFelt_30 rfl (lv_at hl 0 rfl) ?_
    have hPc := hP.sub (ws' := []) [] rfl
    have hDc := hD.sub (ws' := []) [] (by decide) rfl
    have hFc := va_free (wc := []) hD hS hA [] rfl
    obtain ⟨u_3, hc_3, hm⟩ := bd_ok hm
    refine va_calli (va_runS (As := [.int u_1]) (rest := []) ⟨hx, hb, hml, hown, hts⟩ (kD_timeOf l dC dI cA ad H.size u_1 u_3 hc_3) (va_cwS 1 hts gX8_timeOfFelt_X1_timeOf rfl rfl rfl (by decide +kernel) ⟨Nat.le_of_ble_eq_true rfl, Nat.le_of_ble_eq_true rfl⟩) ⟨fun a U g mk q => by obtain ⟨q0, q1, qP, qK, qD⟩ := q; exact ⟨q0, q1, qP, va_K.moved (u := U) (U := U.calling g mk a) (Vm.Alike.refl U.vm) qK, qD⟩, fun U hU hW => ⟨rfl, by rw [hU], by rw [hU]; exact hPc, va_K.moved hW.alike hK, hDc.weaken (fun _ _ _ _ => trivial)⟩⟩ rfl rfl hl.1 rfl (lv_room (Nat.le_of_ble_eq_true rfl)) dX8_timeOfFelt_31 ⟨Nat.le_of_ble_eq_true rfl, Nat.le_of_ble_eq_true rfl⟩) hS (fun q _ h => hFc q h) hFc (fun r_3 _ t H1 locs ht hvm hw hB hz1 hk1 hS => ?_)
    obtain ⟨hP1, hK1, hD1⟩ := hB
    rw [ht] at hP1
    obtain ⟨hP, hD⟩ := va_join (wr := [oST ad xST_sleeper xST_lastDue xST_unreached, oDia ad qe xDia_size, ar qe cA ne gDent]) (w1 := []) hP hD [] [0, 1, 2] rfl rfl (by decide) (by decide) hk1 hFc hP1 hD1
    clear hPc hDc hFc hP1 hK1 hD1 hk1 hz1 hvm ht
    generalize H1 = H at hP hS ⊢
    have hP : va_P (dC, dI) vwCl [oST ad xST_sleeper xST_lastDue xST_unreached, oDia ad qe xDia_size, ar qe cA ne gDent] H := hP
    have hD : va_D A [oST ad xST_sleeper xST_lastDue xST_unreached, oDia ad qe xDia_size, ar qe cA ne gDent] := hD
    have hw := hw.symm
    subst hw
    obtain rfl := Option.some.inj hm
    subst hQ
    exact W.iret (v := u_3) hx hb hr (fun t ht hW => ⟨⟨_, (), rfl, rfl, by rw [ht]; exact hP, va_K.moved hW.alike hK, hAe ▸ hD⟩, hS.F ht⟩) hS.2.2 dX8_timeOfFelt_34
  · have hm := it_pos c_2 hm
    refine lv_iconst (v := (-1)) hx hb dX8_timeOfFelt_26 (by decide) ?_
    refine lv_goto (tgt := 34) hx hb dX8_timeOfFelt_27 (by decide) ?_
    obtain rfl := Option.some.inj hm
    subst hQ
    exact W.iret (v := (-1)) hx hb hr (fun t ht hW => ⟨⟨_, (), rfl, rfl, by rw [ht]; exact hP, va_K.moved hW.alike hK, hAe ▸ hD⟩, hS.F ht⟩) hS.2.2 dX8_timeOfFelt_34

set_option maxHeartbeats 4000000 in
set_option maxRecDepth 100000 in
theorem kC_felt (l : Launch) (dC : Nat → ClassId) (dI : Nat → Nat → Nat) (cA : ClassId) (ad : Nat → Nat) (qe : Nat) (sz : Nat) (a1 : Int32) (a2 : Int32) (xHC_first : Int32) (xHC_second : Int32) (xHC_when : Int32) (xHC_ran : Int32) (xRow_depth : Int32) (xRow_length : Int32) (xRow_people : Int32) (xRow_scarves : Int32) (xRow_main : Int32) (xRow_faultPlace : Int32) (gRkinds : Nat → Int32) (gRlates : Nat → Int32) (gRhands : Nat → Int32) (gRslow : Nat → Int32) (xST_sleeper : Int32) (xST_lastDue : Int32) (xST_unreached : Int32) (gSTdue : Nat → Int32) (gSTbusy : Nat → Int32) (gSTfelt : Nat → Int32) (gSTlost : Nat → Int32) (gSTfirst : Nat → Int32) (xDia_size : Int32) (ne : Nat) (gDent : Nat → Int32) (u : Int32 × Int32 × Int32 × Int32 × Int32 × (Nat → Int32) × (Nat → Int32) × (Nat → Int32) × (Nat → Int32) × (Nat → Int32) × Int32 × Nat × (Nat → Int32)) (hm : fC_felt a1 a2 xHC_first xHC_second xHC_when xHC_ran xRow_people gRkinds gRlates gRhands gRslow xST_sleeper xST_lastDue xST_unreached gSTdue gSTbusy gSTfelt gSTlost gSTfirst xDia_size ne gDent = some u) : Met l yX9_felt wsX9_felt ({ frames := 5, cells := (u.2.2.2.2.2.2.2.2.2.2.2.1 - ne), slots := (2 * (u.2.2.2.2.2.2.2.2.2.2.2.1 - ne)), locals := 123 }) (va_Pc [.ref (ad 0), .int a1, .int a2] (fun U => U.heap.size = sz ∧ va_P (dC, dI) vwCl [oHC ad xHC_first xHC_second xHC_when xHC_ran, oRow ad xRow_depth xRow_length xRow_people xRow_scarves xRow_main xRow_faultPlace, ar (ad 3) cA 20 gRkinds, ar (ad 4) cA 20 gRlates, ar (ad 5) cA 20 gRhands, ar (ad 6) cA 20 gRslow, oST ad xST_sleeper xST_lastDue xST_unreached, ar (ad 10) cA 640 gSTdue, ar (ad 11) cA 20 gSTbusy, ar (ad 12) cA 20 gSTfelt, ar (ad 13) cA 20 gSTlost, ar (ad 14) cA 20 gSTfirst, oDia ad qe xDia_size, ar qe cA ne gDent] U.heap ∧ va_K (dC, dI) vwCl [(cA, .int)] U ∧ va_D (fun _ => True) [oHC ad xHC_first xHC_second xHC_when xHC_ran, oRow ad xRow_depth xRow_length xRow_people xRow_scarves xRow_main xRow_faultPlace, ar (ad 3) cA 20 gRkinds, ar (ad 4) cA 20 gRlates, ar (ad 5) cA 20 gRhands, ar (ad 6) cA 20 gRslow, oST ad xST_sleeper xST_lastDue xST_unreached, ar (ad 10) cA 640 gSTdue, ar (ad 11) cA 20 gSTbusy, ar (ad 12) cA 20 gSTfelt, ar (ad 13) cA 20 gSTlost, ar (ad 14) cA 20 gSTfirst, oDia ad qe xDia_size, ar qe cA ne gDent])) (va_Qi (fun (r : Int32) (_ : Nat) => r = u.1) (fun (qe2 : Nat) t => va_P (dC, dI) vwCl [oHC ad xHC_first xHC_second xHC_when u.2.1, oRow ad xRow_depth xRow_length xRow_people xRow_scarves xRow_main xRow_faultPlace, ar (ad 3) cA 20 gRkinds, ar (ad 4) cA 20 gRlates, ar (ad 5) cA 20 gRhands, ar (ad 6) cA 20 gRslow, oST ad u.2.2.1 u.2.2.2.1 u.2.2.2.2.1, ar (ad 10) cA 640 u.2.2.2.2.2.1, ar (ad 11) cA 20 u.2.2.2.2.2.2.1, ar (ad 12) cA 20 u.2.2.2.2.2.2.2.1, ar (ad 13) cA 20 u.2.2.2.2.2.2.2.2.1, ar (ad 14) cA 20 u.2.2.2.2.2.2.2.2.2.1, oDia ad qe2 u.2.2.2.2.2.2.2.2.2.2.1, ar qe2 cA u.2.2.2.2.2.2.2.2.2.2.2.1 u.2.2.2.2.2.2.2.2.2.2.2.2] t.heap ∧ va_K (dC, dI) vwCl [(cA, .int)] t ∧ va_D (va_A [oHC ad xHC_first xHC_second xHC_when xHC_ran, oRow ad xRow_depth xRow_length xRow_people xRow_scarves xRow_main xRow_faultPlace, ar (ad 3) cA 20 gRkinds, ar (ad 4) cA 20 gRlates, ar (ad 5) cA 20 gRhands, ar (ad 6) cA 20 gRslow, oST ad xST_sleeper xST_lastDue xST_unreached, ar (ad 10) cA 640 gSTdue, ar (ad 11) cA 20 gSTbusy, ar (ad 12) cA 20 gSTfelt, ar (ad 13) cA 20 gSTlost, ar (ad 14) cA 20 gSTfirst, oDia ad qe xDia_size, ar qe cA ne gDent] sz) [oHC ad xHC_first xHC_second xHC_when u.2.1, oRow ad xRow_depth xRow_length xRow_people xRow_scarves xRow_main xRow_faultPlace, ar (ad 3) cA 20 gRkinds, ar (ad 4) cA 20 gRlates, ar (ad 5) cA 20 gRhands, ar (ad 6) cA 20 gRslow, oST ad u.2.2.1 u.2.2.2.1 u.2.2.2.2.1, ar (ad 10) cA 640 u.2.2.2.2.2.1, ar (ad 11) cA 20 u.2.2.2.2.2.2.1, ar (ad 12) cA 20 u.2.2.2.2.2.2.2.1, ar (ad 13) cA 20 u.2.2.2.2.2.2.2.2.1, ar (ad 14) cA 20 u.2.2.2.2.2.2.2.2.2.1, oDia ad qe2 u.2.2.2.2.2.2.2.2.2.2.1, ar qe2 cA u.2.2.2.2.2.2.2.2.2.2.2.1 u.2.2.2.2.2.2.2.2.2.2.2.2]) (va_A [oHC ad xHC_first xHC_second xHC_when xHC_ran, oRow ad xRow_depth xRow_length xRow_people xRow_scarves xRow_main xRow_faultPlace, ar (ad 3) cA 20 gRkinds, ar (ad 4) cA 20 gRlates, ar (ad 5) cA 20 gRhands, ar (ad 6) cA 20 gRslow, oST ad xST_sleeper xST_lastDue xST_unreached, ar (ad 10) cA 640 gSTdue, ar (ad 11) cA 20 gSTbusy, ar (ad 12) cA 20 gSTfelt, ar (ad 13) cA 20 gSTlost, ar (ad 14) cA 20 gSTfirst, oDia ad qe xDia_size, ar qe cA ne gDent] sz)) (u.2.2.2.2.2.2.2.2.2.2.2.1 - ne) (2 * (u.2.2.2.2.2.2.2.2.2.2.2.1 - ne)) (va_A [oHC ad xHC_first xHC_second xHC_when xHC_ran, oRow ad xRow_depth xRow_length xRow_people xRow_scarves xRow_main xRow_faultPlace, ar (ad 3) cA 20 gRkinds, ar (ad 4) cA 20 gRlates, ar (ad 5) cA 20 gRhands, ar (ad 6) cA 20 gRslow, oST ad xST_sleeper xST_lastDue xST_unreached, ar (ad 10) cA 640 gSTdue, ar (ad 11) cA 20 gSTbusy, ar (ad 12) cA 20 gSTfelt, ar (ad 13) cA 20 gSTlost, ar (ad 14) cA 20 gSTfirst, oDia ad qe xDia_size, ar qe cA ne gDent] sz) := by
  refine Met.ofW (cc := cX9_felt) (maxL := 3) (ret := (some .int)) (by decide) rfl ?_
  intro p e s m args below meth c s₁ B hml hv
  obtain ⟨rfl, hsz, hP, hK, hD0⟩ := hv
  have hx := B.exec
  have hb := B.bytes
  have hr := B.returns
  have hts := atoms_spec (ws := wsX9_felt) B.pre
  have hown : s.vm.findClass RX9 = some m.cls := findClass_of_methodNamed B.named
  have hlocks := B.notSynchronized
  subst hsz
  have hD := hD0.self (sz := s.heap.size)
  generalize hAe : va_A [oHC ad xHC_first xHC_second xHC_when xHC_ran, oRow ad xRow_depth xRow_length xRow_people xRow_scarves xRow_main xRow_faultPlace, ar (ad 3) cA 20 gRkinds, ar (ad 4) cA 20 gRlates, ar (ad 5) cA 20 gRhands, ar (ad 6) cA 20 gRslow, oST ad xST_sleeper xST_lastDue xST_unreached, ar (ad 10) cA 640 gSTdue, ar (ad 11) cA 20 gSTbusy, ar (ad 12) cA 20 gSTfelt, ar (ad 13) cA 20 gSTlost, ar (ad 14) cA 20 gSTfirst, oDia ad qe xDia_size, ar qe cA ne gDent] s.heap.size = A at hD ⊢
  have hA : ∀ q : Nat, s.heap.size ≤ q → A q := fun q h => by rw [← hAe]; exact Or.inr h
  have hS : va_S A s.heap s.heap [] := va_S.rf
  have hl := lv_entry ([.ref (ad 0), .int a1, .int a2]) (n := 3) (Nat.le_of_ble_eq_true rfl)
  rw [lg_entry_eq]
  generalize (lg_sl ([.ref (ad 0), .int a1, .int a2]) ++ List.replicate (3 - (lg_sl ([.ref (ad 0), .int a1, .int a2])).length) Slot.unset).toArray = ls at hl ⊢
  have hl : lv_has ls 3 [(0, .ref (ad 0)), (1, .int a1), (2, .int a2)] := hl
  refine wk_Q (fun QQ hQ => ?_)
  unfold fC_felt at hm
  obtain ⟨hz0, hm⟩ := mz_ok hm
  have hz0 : ne ≤ u.2.2.2.2.2.2.2.2.2.2.2.1 := hz0
  refine lv_aload_n hx hb dX9_felt_0 rfl (lv_at hl 0 rfl) ?_
  refine lv_iload_n hx hb dX9_felt_1 rfl (lv_at hl 1 rfl) ?_
  have hPc := hP.sub (ws' := [oHC ad xHC_first xHC_second xHC_when xHC_ran, oRow ad xRow_depth xRow_length xRow_people xRow_scarves xRow_main xRow_faultPlace]) [0, 1] rfl
  have hDc := hD.sub (ws' := [oHC ad xHC_first xHC_second xHC_when xHC_ran, oRow ad xRow_depth xRow_length xRow_people xRow_scarves xRow_main xRow_faultPlace]) [0, 1] (by decide) rfl
  have hFc := va_free (wc := [oHC ad xHC_first xHC_second xHC_when xHC_ran, oRow ad xRow_depth xRow_length xRow_people xRow_scarves xRow_main xRow_faultPlace]) hD hS hA [0, 1] rfl
  obtain ⟨u_1, hc_1, hm⟩ := bd_ok hm
  refine va_calli (va_runV (As := [.int a1]) (rest := []) ⟨hx, hb, hml, hown, hts⟩ (kC_isPerson l dC dI cA ad s.heap.size a1 xHC_first xHC_second xHC_when xHC_ran xRow_depth xRow_length xRow_people xRow_scarves xRow_main xRow_faultPlace u_1 hc_1) (cwV 1 hts gX9_felt_X9_isPerson rfl rfl rfl (by decide +kernel) ⟨Nat.le_of_ble_eq_true rfl, Nat.le_of_ble_eq_true rfl⟩) ⟨fun a U g mk q => by obtain ⟨q0, q1, qP, qK, qD⟩ := q; exact ⟨q0, q1, qP, va_K.moved (u := U) (U := U.calling g mk a) (Vm.Alike.refl U.vm) qK, qD⟩, va_recv hK hPc (ci := 9) (q0 := 0) rfl rfl, fun U hU hW => ⟨rfl, by rw [hU], by rw [hU]; exact hPc, va_K.moved hW.alike hK, hDc.weaken (fun _ _ _ _ => trivial)⟩⟩ rfl rfl hl.1 rfl (lv_room (Nat.le_of_ble_eq_true rfl)) dX9_felt_2 ⟨by (show _ ≤ _ - _); omega, by (show _ ≤ 2 * (_ - _)); omega⟩) hS (fun q _ h => hFc q h) hFc (fun r_1 _ t H1 locs ht hvm hw hB hz1 hk1 hS => ?_)
  obtain ⟨hP1, hK1, hD1⟩ := hB
  rw [ht] at hP1
  obtain ⟨hP, hD⟩ := va_join (wr := [ar (ad 3) cA 20 gRkinds, ar (ad 4) cA 20 gRlates, ar (ad 5) cA 20 gRhands, ar (ad 6) cA 20 gRslow, oST ad xST_sleeper xST_lastDue xST_unreached, ar (ad 10) cA 640 gSTdue, ar (ad 11) cA 20 gSTbusy, ar (ad 12) cA 20 gSTfelt, ar (ad 13) cA 20 gSTlost, ar (ad 14) cA 20 gSTfirst, oDia ad qe xDia_size, ar qe cA ne gDent]) (w1 := [oHC ad xHC_first xHC_second xHC_when xHC_ran, oRow ad xRow_depth xRow_length xRow_people xRow_scarves xRow_main xRow_faultPlace]) hP hD [0, 1] [2, 3, 4, 5, 6, 7, 8, 9, 10, 11, 12, 13] rfl rfl (by decide) (by decide) hk1 hFc hP1 hD1
  clear hPc hDc hFc hP1 hK1 hD1 hk1 hz1 hvm ht
  generalize H1 = H at hP hS ⊢
  have hP : va_P (dC, dI) vwCl [oHC ad xHC_first xHC_second xHC_when xHC_ran, oRow ad xRow_depth xRow_length xRow_people xRow_scarves xRow_main xRow_faultPlace, ar (ad 3) cA 20 gRkinds, ar (ad 4) cA 20 gRlates, ar (ad 5) cA 20 gRhands, ar (ad 6) cA 20 gRslow, oST ad xST_sleeper xST_lastDue xST_unreached, ar (ad 10) cA 640 gSTdue, ar (ad 11) cA 20 gSTbusy, ar (ad 12) cA 20 gSTfelt, ar (ad 13) cA 20 gSTlost, ar (ad 14) cA 20 gSTfirst, oDia ad qe xDia_size, ar qe cA ne gDent] H := hP.sub [12, 13, 0, 1, 2, 3, 4, 5, 6, 7, 8, 9, 10, 11] rfl
  have hD : va_D A [oHC ad xHC_first xHC_second xHC_when xHC_ran, oRow ad xRow_depth xRow_length xRow_people xRow_scarves xRow_main xRow_faultPlace, ar (ad 3) cA 20 gRkinds, ar (ad 4) cA 20 gRlates, ar (ad 5) cA 20 gRhands, ar (ad 6) cA 20 gRslow, oST ad xST_sleeper xST_lastDue xST_unreached, ar (ad 10) cA 640 gSTdue, ar (ad 11) cA 20 gSTbusy, ar (ad 12) cA 20 gSTfelt, ar (ad 13) cA 20 gSTlost, ar (ad 14) cA 20 gSTfirst, oDia ad qe xDia_size, ar qe cA ne gDent] := hD.sub [12, 13, 0, 1, 2, 3, 4, 5, 6, 7, 8, 9, 10, 11] (by decide) rfl
  have hw := hw.symm
  subst hw
  refine lv_if_eq (tgt := 12) hx hb dX9_felt_5 (by decide) (fun c_2 => ?_) (fun c_2 => ?_)
  · have hm := it_pos c_2 hm
    refine lv_bipush (v := (-2)) hx hb dX9_felt_12 (by decide) ?_
    obtain rfl := Option.some.inj hm
    subst hQ
    refine W.widen (k := ne - ne) (n := 2 * (ne - ne)) (by first | exact Nat.le_refl _ | omega) (by first | exact Nat.le_refl _ | omega) ?_
    exact W.iret (v := (-2)) hx hb hr (fun t ht hW => ⟨⟨_, qe, rfl, rfl, by rw [ht]; exact hP, va_K.moved hW.alike hK, hAe ▸ hD⟩, hS.F ht⟩) hS.2.2 dX9_felt_14
  · have hm := it_neg c_2 hm
    refine lv_iload_n hx hb dX9_felt_8 rfl (lv_at hl 2 rfl) ?_
    refine lv_if_ge (tgt := 15) hx hb dX9_felt_9 (by decide) (fun c_3 => ?_) (fun c_3 => ?_)
    · have hm := it_pos c_3 hm
      refine lv_aload_n hx hb dX9_felt_15 rfl (lv_at hl 0 rfl) ?_
      have hPc := hP.sub (ws' := [oHC ad xHC_first xHC_second xHC_when xHC_ran, oRow ad xRow_depth xRow_length xRow_people xRow_scarves xRow_main xRow_faultPlace, ar (ad 3) cA 20 gRkinds, ar (ad 4) cA 20 gRlates, ar (ad 5) cA 20 gRhands, ar (ad 6) cA 20 gRslow, oST ad xST_sleeper xST_lastDue xST_unreached, ar (ad 10) cA 640 gSTdue, ar (ad 11) cA 20 gSTbusy, ar (ad 12) cA 20 gSTfelt, ar (ad 13) cA 20 gSTlost, ar (ad 14) cA 20 gSTfirst, oDia ad qe xDia_size, ar qe cA ne gDent]) [0, 1, 2, 3, 4, 5, 6, 7, 8, 9, 10, 11, 12, 13] rfl
      have hDc := hD.sub (ws' := [oHC ad xHC_first xHC_second xHC_when xHC_ran, oRow ad xRow_depth xRow_length xRow_people xRow_scarves xRow_main xRow_faultPlace, ar (ad 3) cA 20 gRkinds, ar (ad 4) cA 20 gRlates, ar (ad 5) cA 20 gRhands, ar (ad 6) cA 20 gRslow, oST ad xST_sleeper xST_lastDue xST_unreached, ar (ad 10) cA 640 gSTdue, ar (ad 11) cA 20 gSTbusy, ar (ad 12) cA 20 gSTfelt, ar (ad 13) cA 20 gSTlost, ar (ad 14) cA 20 gSTfirst, oDia ad qe xDia_size, ar qe cA ne gDent]) [0, 1, 2, 3, 4, 5, 6, 7, 8, 9, 10, 11, 12, 13] (by decide) rfl
      have hFc := va_free (wc := [oHC ad xHC_first xHC_second xHC_when xHC_ran, oRow ad xRow_depth xRow_length xRow_people xRow_scarves xRow_main xRow_faultPlace, ar (ad 3) cA 20 gRkinds, ar (ad 4) cA 20 gRlates, ar (ad 5) cA 20 gRhands, ar (ad 6) cA 20 gRslow, oST ad xST_sleeper xST_lastDue xST_unreached, ar (ad 10) cA 640 gSTdue, ar (ad 11) cA 20 gSTbusy, ar (ad 12) cA 20 gSTfelt, ar (ad 13) cA 20 gSTlost, ar (ad 14) cA 20 gSTfirst, oDia ad qe xDia_size, ar qe cA ne gDent]) hD hS hA [0, 1, 2, 3, 4, 5, 6, 7, 8, 9, 10, 11, 12, 13] rfl
      obtain ⟨u_4, hc_4, hn1_4, hn2_4, hm⟩ := bm_ok hm
      have hn1_4 : ne ≤ u_4.2.2.2.2.2.2.2.2.2.2.1 := hn1_4
      have hn2_4 : u_4.2.2.2.2.2.2.2.2.2.2.1 ≤ u.2.2.2.2.2.2.2.2.2.2.2.1 := hn2_4
      refine va_callr (va_runV (As := []) (rest := []) ⟨hx, hb, hml, hown, hts⟩ (kC_asTold l dC dI cA ad qe H.size xHC_first xHC_second xHC_when xHC_ran xRow_depth xRow_length xRow_people xRow_scarves xRow_main xRow_faultPlace gRkinds gRlates gRhands gRslow xST_sleeper xST_lastDue xST_unreached gSTdue gSTbusy gSTfelt gSTlost gSTfirst xDia_size ne gDent u_4 hc_4) (cwV 0 hts gX9_felt_X9_asTold rfl rfl rfl (by decide +kernel) ⟨Nat.le_of_ble_eq_true rfl, Nat.le_of_ble_eq_true rfl⟩) ⟨fun a U g mk q => by obtain ⟨q0, q1, qP, qK, qD⟩ := q; exact ⟨q0, q1, qP, va_K.moved (u := U) (U := U.calling g mk a) (Vm.Alike.refl U.vm) qK, qD⟩, va_recv hK hPc (ci := 9) (q0 := 0) rfl rfl, fun U hU hW => ⟨rfl, by rw [hU], by rw [hU]; exact hPc, va_K.moved hW.alike hK, hDc.weaken (fun _ _ _ _ => trivial)⟩⟩ rfl rfl hl.1 rfl (lv_room (Nat.le_of_ble_eq_true rfl)) dX9_felt_16 ⟨by (show _ ≤ _ - _); omega, by (show _ ≤ 2 * (_ - _)); omega⟩) hS (fun q _ h => hFc q h) hFc (fun qe_1004 ra_4 t H1 locs ht hvm hw hB hz1 hk1 hS => ?_)
      obtain ⟨hra_4, hP1, hK1, hD1⟩ := hB
      subst hra_4
      rw [ht] at hP1
      obtain ⟨hP, hD⟩ := va_join (wr := []) (w1 := [oHC ad xHC_first xHC_second xHC_when u_4.1, oRow ad xRow_depth xRow_length xRow_people xRow_scarves xRow_main xRow_faultPlace, ar (ad 3) cA 20 gRkinds, ar (ad 4) cA 20 gRlates, ar (ad 5) cA 20 gRhands, ar (ad 6) cA 20 gRslow, oST ad u_4.2.1 u_4.2.2.1 u_4.2.2.2.1, ar (ad 10) cA 640 u_4.2.2.2.2.1, ar (ad 11) cA 20 u_4.2.2.2.2.2.1, ar (ad 12) cA 20 u_4.2.2.2.2.2.2.1, ar (ad 13) cA 20 u_4.2.2.2.2.2.2.2.1, ar (ad 14) cA 20 u_4.2.2.2.2.2.2.2.2.1, oDia ad qe_1004 u_4.2.2.2.2.2.2.2.2.2.1, ar qe_1004 cA u_4.2.2.2.2.2.2.2.2.2.2.1 u_4.2.2.2.2.2.2.2.2.2.2.2]) hP hD [0, 1, 2, 3, 4, 5, 6, 7, 8, 9, 10, 11, 12, 13] [] rfl rfl (by decide) (by decide) hk1 hFc hP1 hD1
      clear hPc hDc hFc hP1 hK1 hD1 hk1 hz1 hvm ht
      generalize H1 = H at hP hS ⊢
      have hP : va_P (dC, dI) vwCl [oHC ad xHC_first xHC_second xHC_when u_4.1, oRow ad xRow_depth xRow_length xRow_people xRow_scarves xRow_main xRow_faultPlace, ar (ad 3) cA 20 gRkinds, ar (ad 4) cA 20 gRlates, ar (ad 5) cA 20 gRhands, ar (ad 6) cA 20 gRslow, oST ad u_4.2.1 u_4.2.2.1 u_4.2.2.2.1, ar (ad 10) cA 640 u_4.2.2.2.2.1, ar (ad 11) cA 20 u_4.2.2.2.2.2.1, ar (ad 12) cA 20 u_4.2.2.2.2.2.2.1, ar (ad 13) cA 20 u_4.2.2.2.2.2.2.2.1, ar (ad 14) cA 20 u_4.2.2.2.2.2.2.2.2.1, oDia ad qe_1004 u_4.2.2.2.2.2.2.2.2.2.1, ar qe_1004 cA u_4.2.2.2.2.2.2.2.2.2.2.1 u_4.2.2.2.2.2.2.2.2.2.2.2] H := hP
      have hD : va_D A [oHC ad xHC_first xHC_second xHC_when u_4.1, oRow ad xRow_depth xRow_length xRow_people xRow_scarves xRow_main xRow_faultPlace, ar (ad 3) cA 20 gRkinds, ar (ad 4) cA 20 gRlates, ar (ad 5) cA 20 gRhands, ar (ad 6) cA 20 gRslow, oST ad u_4.2.1 u_4.2.2.1 u_4.2.2.2.1, ar (ad 10) cA 640 u_4.2.2.2.2.1, ar (ad 11) cA 20 u_4.2.2.2.2.2.1, ar (ad 12) cA 20 u_4.2.2.2.2.2.2.1, ar (ad 13) cA 20 u_4.2.2.2.2.2.2.2.1, ar (ad 14) cA 20 u_4.2.2.2.2.2.2.2.2.1, oDia ad qe_1004 u_4.2.2.2.2.2.2.2.2.2.1, ar qe_1004 cA u_4.2.2.2.2.2.2.2.2.2.2.1 u_4.2.2.2.2.2.2.2.2.2.2.2] := hD
      refine W.widen (k := u_4.2.2.2.2.2.2.2.2.2.2.1 - ne) (n := 2 * (u_4.2.2.2.2.2.2.2.2.2.2.1 - ne)) (by omega) (by omega) ?_
      refine lv_iload_n hx hb dX9_felt_19 rfl (lv_at hl 1 rfl) ?_
      refine lv_iload_n hx hb dX9_felt_20 rfl (lv_at hl 2 rfl) ?_
      have hPc := hP.sub (ws' := [oST ad u_4.2.1 u_4.2.2.1 u_4.2.2.2.1, oDia ad qe_1004 u_4.2.2.2.2.2.2.2.2.2.1, ar qe_1004 cA u_4.2.2.2.2.2.2.2.2.2.2.1 u_4.2.2.2.2.2.2.2.2.2.2.2]) [6, 12, 13] rfl
      have hDc := hD.sub (ws' := [oST ad u_4.2.1 u_4.2.2.1 u_4.2.2.2.1, oDia ad qe_1004 u_4.2.2.2.2.2.2.2.2.2.1, ar qe_1004 cA u_4.2.2.2.2.2.2.2.2.2.2.1 u_4.2.2.2.2.2.2.2.2.2.2.2]) [6, 12, 13] (by decide) rfl
      have hFc := va_free (wc := [oST ad u_4.2.1 u_4.2.2.1 u_4.2.2.2.1, oDia ad qe_1004 u_4.2.2.2.2.2.2.2.2.2.1, ar qe_1004 cA u_4.2.2.2.2.2.2.2.2.2.2.1 u_4.2.2.2.2.2.2.2.2.2.2.2]) hD hS hA [6, 12, 13] rfl
      obtain ⟨u_5, hc_5, hm⟩ := bd_ok hm
      refine va_calli (va_runV (As := [.int a1, .int a2]) (rest := []) ⟨hx, hb, hml, hown, hts⟩ (kS_timeOfFelt_T l dC dI cA ad qe_1004 H.size a1 a2 u_4.2.1 u_4.2.2.1 u_4.2.2.2.1 u_4.2.2.2.2.2.2.2.2.2.1 u_4.2.2.2.2.2.2.2.2.2.2.1 u_4.2.2.2.2.2.2.2.2.2.2.2 u_5 hc_5) (cwV 2 hts gX9_felt_X8_timeOfFelt rfl rfl rfl (by decide +kernel) ⟨Nat.le_of_ble_eq_true rfl, Nat.le_of_ble_eq_true rfl⟩) ⟨fun a U g mk q => by obtain ⟨q0, q1, qP, qK, qD⟩ := q; exact ⟨q0, q1, qP, va_K.moved (u := U) (U := U.calling g mk a) (Vm.Alike.refl U.vm) qK, qD⟩, va_recv hK hPc (ci := 8) (q0 := 0) rfl rfl, fun U hU hW => ⟨rfl, by rw [hU], by rw [hU]; exact hPc, va_K.moved hW.alike hK, hDc.weaken (fun _ _ _ _ => trivial)⟩⟩ rfl rfl hl.1 rfl (lv_room (Nat.le_of_ble_eq_true rfl)) dX9_felt_21 ⟨by (show _ ≤ _ - _); omega, by (show _ ≤ 2 * (_ - _)); omega⟩) hS (fun q _ h => hFc q h) hFc (fun r_5 _ t H1 locs ht hvm hw hB hz1 hk1 hS => ?_)
      obtain ⟨hP1, hK1, hD1⟩ := hB
      rw [ht] at hP1
      obtain ⟨hP, hD⟩ := va_join (wr := [oHC ad xHC_first xHC_second xHC_when u_4.1, oRow ad xRow_depth xRow_length xRow_people xRow_scarves xRow_main xRow_faultPlace, ar (ad 3) cA 20 gRkinds, ar (ad 4) cA 20 gRlates, ar (ad 5) cA 20 gRhands, ar (ad 6) cA 20 gRslow, ar (ad 10) cA 640 u_4.2.2.2.2.1, ar (ad 11) cA 20 u_4.2.2.2.2.2.1, ar (ad 12) cA 20 u_4.2.2.2.2.2.2.1, ar (ad 13) cA 20 u_4.2.2.2.2.2.2.2.1, ar (ad 14) cA 20 u_4.2.2.2.2.2.2.2.2.1]) (w1 := [oST ad u_4.2.1 u_4.2.2.1 u_4.2.2.2.1, oDia ad qe_1004 u_4.2.2.2.2.2.2.2.2.2.1, ar qe_1004 cA u_4.2.2.2.2.2.2.2.2.2.2.1 u_4.2.2.2.2.2.2.2.2.2.2.2]) hP hD [6, 12, 13] [0, 1, 2, 3, 4, 5, 7, 8, 9, 10, 11] rfl rfl (by decide) (by decide) hk1 hFc hP1 hD1
      clear hPc hDc hFc hP1 hK1 hD1 hk1 hz1 hvm ht
      generalize H1 = H at hP hS ⊢
      have hP : va_P (dC, dI) vwCl [oHC ad xHC_first xHC_second xHC_when u_4.1, oRow ad xRow_depth xRow_length xRow_people xRow_scarves xRow_main xRow_faultPlace, ar (ad 3) cA 20 gRkinds, ar (ad 4) cA 20 gRlates, ar (ad 5) cA 20 gRhands, ar (ad 6) cA 20 gRslow, oST ad u_4.2.1 u_4.2.2.1 u_4.2.2.2.1, ar (ad 10) cA 640 u_4.2.2.2.2.1, ar (ad 11) cA 20 u_4.2.2.2.2.2.1, ar (ad 12) cA 20 u_4.2.2.2.2.2.2.1, ar (ad 13) cA 20 u_4.2.2.2.2.2.2.2.1, ar (ad 14) cA 20 u_4.2.2.2.2.2.2.2.2.1, oDia ad qe_1004 u_4.2.2.2.2.2.2.2.2.2.1, ar qe_1004 cA u_4.2.2.2.2.2.2.2.2.2.2.1 u_4.2.2.2.2.2.2.2.2.2.2.2] H := hP.sub [0, 1, 2, 3, 4, 5, 11, 6, 7, 8, 9, 10, 12, 13] rfl
      have hD : va_D A [oHC ad xHC_first xHC_second xHC_when u_4.1, oRow ad xRow_depth xRow_length xRow_people xRow_scarves xRow_main xRow_faultPlace, ar (ad 3) cA 20 gRkinds, ar (ad 4) cA 20 gRlates, ar (ad 5) cA 20 gRhands, ar (ad 6) cA 20 gRslow, oST ad u_4.2.1 u_4.2.2.1 u_4.2.2.2.1, ar (ad 10) cA 640 u_4.2.2.2.2.1, ar (ad 11) cA 20 u_4.2.2.2.2.2.1, ar (ad 12) cA 20 u_4.2.2.2.2.2.2.1, ar (ad 13) cA 20 u_4.2.2.2.2.2.2.2.1, ar (ad 14) cA 20 u_4.2.2.2.2.2.2.2.2.1, oDia ad qe_1004 u_4.2.2.2.2.2.2.2.2.2.1, ar qe_1004 cA u_4.2.2.2.2.2.2.2.2.2.2.1 u_4.2.2.2.2.2.2.2.2.2.2.2] := hD.sub [0, 1, 2, 3, 4, 5, 11, 6, 7, 8, 9, 10, 12, 13] (by decide) rfl
      have hw := hw.symm
      subst hw
      obtain rfl := Option.some.inj hm
      subst hQ
      refine W.widen (k := u_4.2.2.2.2.2.2.2.2.2.2.1 - ne) (n := 2 * (u_4.2.2.2.2.2.2.2.2.2.2.1 - ne)) (by first | exact Nat.le_refl _ | omega) (by first | exact Nat.le_refl _ | omega) ?_
      exact W.iret (v := u_5) hx hb hr (fun t ht hW => ⟨⟨_, qe_1004, rfl, rfl, by rw [ht]; exact hP, va_K.moved hW.alike hK, hAe ▸ hD⟩, hS.F ht⟩) hS.2.2 dX9_felt_24
    · have hm := it_neg c_3 hm
      refine lv_bipush (v := (-2)) hx hb dX9_felt_12 (by decide) ?_
      obtain rfl := Option.some.inj hm
      subst hQ
      refine W.widen (k := ne - ne) (n := 2 * (ne - ne)) (by first | exact Nat.le_refl _ | omega) (by first | exact Nat.le_refl _ | omega) ?_
      exact W.iret (v := (-2)) hx hb hr (fun t ht hW => ⟨⟨_, qe, rfl, rfl, by rw [ht]; exact hP, va_K.moved hW.alike hK, hAe ▸ hD⟩, hS.F ht⟩) hS.2.2 dX9_felt_14
