set_option maxHeartbeats 4000000 in
set_option maxRecDepth 100000 in
theorem kR_holdHands (l : Launch) (dC : Nat → ClassId) (dI : Nat → Nat → Nat) (cA : ClassId) (ad : Nat → Nat) (sz : Nat) (a1 : Int32) (a2 : Int32) (a3 : Int32) (xRow_depth : Int32) (xRow_length : Int32) (xRow_people : Int32) (xRow_scarves : Int32) (xRow_main : Int32) (xRow_faultPlace : Int32) (gRhands : Nat → Int32) (gRslow : Nat → Int32) (u : (Nat → Int32) × (Nat → Int32)) (hm : fR_holdHands a1 a2 a3 gRhands gRslow = some u) : Met l yX5_holdHands wsX5_holdHands ({ frames := 0, cells := 0, slots := 0, locals := 0 }) (va_Pc [.ref (ad 1), .int a1, .int a2, .int a3] (fun U => U.heap.size = sz ∧ va_P (dC, dI) vwCl [oRow ad xRow_depth xRow_length xRow_people xRow_scarves xRow_main xRow_faultPlace, ar (ad 5) cA 20 gRhands, ar (ad 6) cA 20 gRslow] U.heap ∧ va_K (dC, dI) vwCl [(cA, .int)] U ∧ va_D (fun _ => True) [oRow ad xRow_depth xRow_length xRow_people xRow_scarves xRow_main xRow_faultPlace, ar (ad 5) cA 20 gRhands, ar (ad 6) cA 20 gRslow])) (va_Qv (fun (_ : Unit) => True) (fun (_ : Unit) t => va_P (dC, dI) vwCl [oRow ad xRow_depth xRow_length xRow_people xRow_scarves xRow_main xRow_faultPlace, ar (ad 5) cA 20 u.1, ar (ad 6) cA 20 u.2] t.heap ∧ va_K (dC, dI) vwCl [(cA, .int)] t ∧ va_D (va_A [oRow ad xRow_depth xRow_length xRow_people xRow_scarves xRow_main xRow_faultPlace, ar (ad 5) cA 20 gRhands, ar (ad 6) cA 20 gRslow] sz) [oRow ad xRow_depth xRow_length xRow_people xRow_scarves xRow_main xRow_faultPlace, ar (ad 5) cA 20 u.1, ar (ad 6) cA 20 u.2]) (va_A [oRow ad xRow_depth xRow_length xRow_people xRow_scarves xRow_main xRow_faultPlace, ar (ad 5) cA 20 gRhands, ar (ad 6) cA 20 gRslow] sz)) 0 0 (va_A [oRow ad xRow_depth xRow_length xRow_people xRow_scarves xRow_main xRow_faultPlace, ar (ad 5) cA 20 gRhands, ar (ad 6) cA 20 gRslow] sz) := by
  refine Met.ofW (cc := cX5_holdHands) (maxL := 4) (ret := none) (by decide) rfl ?_
  intro p e s m args below meth c s₁ B hml hv
  obtain ⟨rfl, hsz, hP, hK, hD0⟩ := hv
  have hx := B.exec
  have hb := B.bytes
  have hr := B.returns
  have hts := atoms_spec (ws := wsX5_holdHands) B.pre
  have hown : s.vm.findClass RX5 = some m.cls := findClass_of_methodNamed B.named
  have hlocks := B.notSynchronized
  subst hsz
  have hD := hD0.self (sz := s.heap.size)
  generalize hAe : va_A [oRow ad xRow_depth xRow_length xRow_people xRow_scarves xRow_main xRow_faultPlace, ar (ad 5) cA 20 gRhands, ar (ad 6) cA 20 gRslow] s.heap.size = A at hD ⊢
  have hA : ∀ q : Nat, s.heap.size ≤ q → A q := fun q h => by rw [← hAe]; exact Or.inr h
  have hS : va_S A s.heap s.heap [] := va_S.rf
  have hl := lv_entry ([.ref (ad 1), .int a1, .int a2, .int a3]) (n := 4) (Nat.le_of_ble_eq_true rfl)
  rw [lg_entry_eq]
  generalize (lg_sl ([.ref (ad 1), .int a1, .int a2, .int a3]) ++ List.replicate (4 - (lg_sl ([.ref (ad 1), .int a1, .int a2, .int a3])).length) Slot.unset).toArray = ls at hl ⊢
  have hl : lv_has ls 4 [(0, .ref (ad 1)), (1, .int a1), (2, .int a2), (3, .int a3)] := hl
  refine wk_Q (fun QQ hQ => ?_)
  have hinX5 : ∀ w ∈ wsX50, w ∈ wsX5_holdHands := fun w h => List.mem_cons_of_mem _ (inlX5 w h)
  have hl_21 := hts (.fieldLink RX5 21 "HandCensus$Row" "hands" "[I") (List.mem_cons_of_mem _ (in_r3 _ (List.mem_of_getElem? (i := 11) rfl)))
  have hl_24 := hts (.fieldLink RX5 24 "HandCensus$Row" "slow" "[I") (List.mem_cons_of_mem _ (in_r3 _ (List.mem_of_getElem? (i := 12) rfl)))
  unfold fR_holdHands at hm
  refine lv_aload_n hx hb dX5_holdHands_0 rfl (lv_at hl 0 rfl) ?_
  refine va_get (D := (dC, dI)) (ci := 5) (v := .ref (ad 5)) (C := RX5) (T := TX5) (N := 13) hx hb hts hinX5 hown hK hP 0 rfl rfl 3 (by decide) hl_21 (fun _ h9 => h9) rfl dX5_holdHands_1 ?_
  refine lv_iload_n hx hb dX5_holdHands_4 rfl (lv_at hl 1 rfl) ?_
  refine lv_dup2_11 hx hb dX5_holdHands_5 rfl rfl ?_
  obtain ⟨i_1, hm⟩ := ck_ok hm
  refine va_iald hx hb hK hP 1 0 rfl rfl i_1 dX5_holdHands_6 ?_
  refine lv_iconst (v := 1) hx hb dX5_holdHands_7 (by decide) ?_
  refine lv_iload_n hx hb dX5_holdHands_8 rfl (lv_at hl 2 rfl) ?_
  refine lv_ishl hx hb dX5_holdHands_9 ?_
  refine lv_ior hx hb dX5_holdHands_10 ?_
  obtain ⟨i_2, hm⟩ := ck_ok hm
  refine va_iast hx hb hK hP hD hS 1 0 rfl rfl i_2 dX5_holdHands_11 (fun H locs hP hD hS => ?_)
  have hP : va_P (dC, dI) vwCl [oRow ad xRow_depth xRow_length xRow_people xRow_scarves xRow_main xRow_faultPlace, ar (ad 5) cA 20 (upd gRhands a1.toNatClampNeg ((gRhands a1.toNatClampNeg) ||| (1 <<< (a2 &&& 31)))), ar (ad 6) cA 20 gRslow] H := hP
  have hD : va_D A [oRow ad xRow_depth xRow_length xRow_people xRow_scarves xRow_main xRow_faultPlace, ar (ad 5) cA 20 (upd gRhands a1.toNatClampNeg ((gRhands a1.toNatClampNeg) ||| (1 <<< (a2 &&& 31)))), ar (ad 6) cA 20 gRslow] := hD
  refine lv_aload_n hx hb dX5_holdHands_12 rfl (lv_at hl 0 rfl) ?_
  refine va_get (D := (dC, dI)) (ci := 5) (v := .ref (ad 5)) (C := RX5) (T := TX5) (N := 13) hx hb hts hinX5 hown hK hP 0 rfl rfl 3 (by decide) hl_21 (fun _ h9 => h9) rfl dX5_holdHands_13 ?_
  refine lv_iload_n hx hb dX5_holdHands_16 rfl (lv_at hl 2 rfl) ?_
  refine lv_dup2_11 hx hb dX5_holdHands_17 rfl rfl ?_
  obtain ⟨i_3, hm⟩ := ck_ok hm
  refine va_iald hx hb hK hP 1 0 rfl rfl i_3 dX5_holdHands_18 ?_
  refine lv_iconst (v := 1) hx hb dX5_holdHands_19 (by decide) ?_
  refine lv_iload_n hx hb dX5_holdHands_20 rfl (lv_at hl 1 rfl) ?_
  refine lv_ishl hx hb dX5_holdHands_21 ?_
  refine lv_ior hx hb dX5_holdHands_22 ?_
  obtain ⟨i_4, hm⟩ := ck_ok hm
  refine va_iast hx hb hK hP hD hS 1 0 rfl rfl i_4 dX5_holdHands_23 (fun H locs hP hD hS => ?_)
  have hP : va_P (dC, dI) vwCl [oRow ad xRow_depth xRow_length xRow_people xRow_scarves xRow_main xRow_faultPlace, ar (ad 5) cA 20 (upd (upd gRhands a1.toNatClampNeg ((gRhands a1.toNatClampNeg) ||| (1 <<< (a2 &&& 31)))) a2.toNatClampNeg (((upd gRhands a1.toNatClampNeg ((gRhands a1.toNatClampNeg) ||| (1 <<< (a2 &&& 31)))) a2.toNatClampNeg) ||| (1 <<< (a1 &&& 31)))), ar (ad 6) cA 20 gRslow] H := hP
  have hD : va_D A [oRow ad xRow_depth xRow_length xRow_people xRow_scarves xRow_main xRow_faultPlace, ar (ad 5) cA 20 (upd (upd gRhands a1.toNatClampNeg ((gRhands a1.toNatClampNeg) ||| (1 <<< (a2 &&& 31)))) a2.toNatClampNeg (((upd gRhands a1.toNatClampNeg ((gRhands a1.toNatClampNeg) ||| (1 <<< (a2 &&& 31)))) a2.toNatClampNeg) ||| (1 <<< (a1 &&& 31)))), ar (ad 6) cA 20 gRslow] := hD
  refine lv_iload_n hx hb dX5_holdHands_24 rfl (lv_at hl 3 rfl) ?_
  refine lv_if_eq (tgt := 52) hx hb dX5_holdHands_25 (by decide) (fun c_5 => ?_) (fun c_5 => ?_)
  · have hm := it_pos c_5 hm
    obtain rfl := Option.some.inj hm
    subst hQ
    exact W.vret hx hb hr (fun t ht hW => ⟨⟨(), rfl, trivial, by rw [ht]; exact hP, va_K.moved hW.alike hK, hAe ▸ hD⟩, hS.F ht⟩) hS.2.2 dX5_holdHands_52
  · have hm := it_neg c_5 hm
    refine lv_aload_n hx hb dX5_holdHands_28 rfl (lv_at hl 0 rfl) ?_
    refine va_get (D := (dC, dI)) (ci := 5) (v := .ref (ad 6)) (C := RX5) (T := TX5) (N := 13) hx hb hts hinX5 hown hK hP 0 rfl rfl 4 (by decide) hl_24 (fun _ h9 => h9) rfl dX5_holdHands_29 ?_
    refine lv_iload_n hx hb dX5_holdHands_32 rfl (lv_at hl 1 rfl) ?_
    refine lv_dup2_11 hx hb dX5_holdHands_33 rfl rfl ?_
    obtain ⟨i_6, hm⟩ := ck_ok hm
    refine va_iald hx hb hK hP 2 0 rfl rfl i_6 dX5_holdHands_34 ?_
    refine lv_iconst (v := 1) hx hb dX5_holdHands_35 (by decide) ?_
    refine lv_iload_n hx hb dX5_holdHands_36 rfl (lv_at hl 2 rfl) ?_
    refine lv_ishl hx hb dX5_holdHands_37 ?_
    refine lv_ior hx hb dX5_holdHands_38 ?_
    obtain ⟨i_7, hm⟩ := ck_ok hm
    refine va_iast hx hb hK hP hD hS 2 0 rfl rfl i_7 dX5_holdHands_39 (fun H locs hP hD hS => ?_)
    have hP : va_P (dC, dI) vwCl [oRow ad xRow_depth xRow_length xRow_people xRow_scarves xRow_main xRow_faultPlace, ar (ad 5) cA 20 (upd (upd gRhands a1.toNatClampNeg ((gRhands a1.toNatClampNeg) ||| (1 <<< (a2 &&& 31)))) a2.toNatClampNeg (((upd gRhands a1.toNatClampNeg ((gRhands a1.toNatClampNeg) ||| (1 <<< (a2 &&& 31)))) a2.toNatClampNeg) ||| (1 <<< (a1 &&& 31)))), ar (ad 6) cA 20 (upd gRslow a1.toNatClampNeg ((gRslow a1.toNatClampNeg) ||| (1 <<< (a2 &&& 31))))] H := hP
    have hD : va_D A [oRow ad xRow_depth xRow_length xRow_people xRow_scarves xRow_main xRow_faultPlace, ar (ad 5) cA 20 (upd (upd gRhands a1.toNatClampNeg ((gRhands a1.toNatClampNeg) ||| (1 <<< (a2 &&& 31)))) a2.toNatClampNeg (((upd gRhands a1.toNatClampNeg ((gRhands a1.toNatClampNeg) ||| (1 <<< (a2 &&& 31)))) a2.toNatClampNeg) ||| (1 <<< (a1 &&& 31)))), ar (ad 6) cA 20 (upd gRslow a1.toNatClampNeg ((gRslow a1.toNatClampNeg) ||| (1 <<< (a2 &&& 31))))] := hD
    refine lv_aload_n hx hb dX5_holdHands_40 rfl (lv_at hl 0 rfl) ?_
    refine va_get (D := (dC, dI)) (ci := 5) (v := .ref (ad 6)) (C := RX5) (T := TX5) (N := 13) hx hb hts hinX5 hown hK hP 0 rfl rfl 4 (by decide) hl_24 (fun _ h9 => h9) rfl dX5_holdHands_41 ?_
    refine lv_iload_n hx hb dX5_holdHands_44 rfl (lv_at hl 2 rfl) ?_
    refine lv_dup2_11 hx hb dX5_holdHands_45 rfl rfl ?_
    obtain ⟨i_8, hm⟩ := ck_ok hm
    refine va_iald hx hb hK hP 2 0 rfl rfl i_8 dX5_holdHands_46 ?_
    refine lv_iconst (v := 1) hx hb dX5_holdHands_47 (by decide) ?_
    refine lv_iload_n hx hb dX5_holdHands_48 rfl (lv_at hl 1 rfl) ?_
    refine lv_ishl hx hb dX5_holdHands_49 ?_
    refine lv_ior hx hb dX5_holdHands_50 ?_
    obtain ⟨i_9, hm⟩ := ck_ok hm
    refine va_iast hx hb hK hP hD hS 2 0 rfl rfl i_9 dX5_holdHands_51 (fun H locs hP hD hS => ?_)
    have hP : va_P (dC, dI) vwCl [oRow ad xRow_depth xRow_length xRow_people xRow_scarves xRow_main xRow_faultPlace, ar (ad 5) cA 20 (upd (upd gRhands a1.toNatClampNeg ((gRhands a1.toNatClampNeg) ||| (1 <<< (a2 &&& 31)))) a2.toNatClampNeg (((upd gRhands a1.toNatClampNeg ((gRhands a1.toNatClampNeg) ||| (1 <<< (a2 &&& 31)))) a2.toNatClampNeg) ||| (1 <<< (a1 &&& 31)))), ar (ad 6) cA 20 (upd (upd gRslow a1.toNatClampNeg ((gRslow a1.toNatClampNeg) ||| (1 <<< (a2 &&& 31)))) a2.toNatClampNeg (((upd gRslow a1.toNatClampNeg ((gRslow a1.toNatClampNeg) ||| (1 <<< (a2 &&& 31)))) a2.toNatClampNeg) ||| (1 <<< (a1 &&& 31))))] H := hP
    have hD : va_D A [oRow ad xRow_depth xRow_length xRow_people xRow_scarves xRow_main xRow_faultPlace, ar (ad 5) cA 20 (upd (upd gRhands a1.toNatClampNeg ((gRhands a1.toNatClampNeg) ||| (1 <<< (a2 &&& 31)))) a2.toNatClampNeg (((upd gRhands a1.toNatClampNeg ((gRhands a1.toNatClampNeg) ||| (1 <<< (a2 &&& 31)))) a2.toNatClampNeg) ||| (1 <<< (a1 &&& 31)))), ar (ad 6) cA 20 (upd (upd gRslow a1.toNatClampNeg ((gRslow a1.toNatClampNeg) ||| (1 <<< (a2 &&& 31)))) a2.toNatClampNeg (((upd gRslow a1.toNatClampNeg ((gRslow a1.toNatClampNeg) ||| (1 <<< (a2 &&& 31)))) a2.toNatClampNeg) ||| (1 <<< (a1 &&& 31))))] := hD
    obtain rfl := Option.some.inj hm
    subst hQ
    exact W.vret hx hb hr (fun t ht hW => ⟨⟨(), rfl, trivial, by rw [ht]; exact hP, va_K.moved hW.alike hK, hAe ▸ hD⟩, hS.F ht⟩) hS.2.2 dX5_holdHands_52

set_option maxHeartbeats 4000000 in
set_option maxRecDepth 100000 in
theorem kR_endFork (l : Launch) (dC : Nat → ClassId) (dI : Nat → Nat → Nat) (cA : ClassId) (ad : Nat → Nat) (sz : Nat) (a1 : Int32) (a2 : Int32) (xRow_depth : Int32) (xRow_length : Int32) (xRow_people : Int32) (xRow_scarves : Int32) (xRow_main : Int32) (xRow_faultPlace : Int32) (gRhands : Nat → Int32) (gRslow : Nat → Int32) (gRahead : Nat → Int32) (gRdirect : Nat → Int32) (u : Int32 × Int32 × Int32 × (Nat → Int32) × (Nat → Int32)) (hm : fR_endFork a1 a2 xRow_depth xRow_faultPlace gRhands gRslow gRahead gRdirect = some u) : Met l yX5_endFork wsX5_endFork ({ frames := 1, cells := 0, slots := 0, locals := 23 }) (va_Pc [.ref (ad 1), .int a1, .int a2] (fun U => U.heap.size = sz ∧ va_P (dC, dI) vwCl [oRow ad xRow_depth xRow_length xRow_people xRow_scarves xRow_main xRow_faultPlace, ar (ad 5) cA 20 gRhands, ar (ad 6) cA 20 gRslow, ar (ad 7) cA 4 gRahead, ar (ad 8) cA 4 gRdirect] U.heap ∧ va_K (dC, dI) vwCl [(cA, .int)] U ∧ va_D (fun _ => True) [oRow ad xRow_depth xRow_length xRow_people xRow_scarves xRow_main xRow_faultPlace, ar (ad 5) cA 20 gRhands, ar (ad 6) cA 20 gRslow, ar (ad 7) cA 4 gRahead, ar (ad 8) cA 4 gRdirect])) (va_Qi (fun (r : Int32) (_ : Unit) => r = u.1) (fun (_ : Unit) t => va_P (dC, dI) vwCl [oRow ad u.2.1 xRow_length xRow_people xRow_scarves xRow_main u.2.2.1, ar (ad 5) cA 20 u.2.2.2.1, ar (ad 6) cA 20 u.2.2.2.2, ar (ad 7) cA 4 gRahead, ar (ad 8) cA 4 gRdirect] t.heap ∧ va_K (dC, dI) vwCl [(cA, .int)] t ∧ va_D (va_A [oRow ad xRow_depth xRow_length xRow_people xRow_scarves xRow_main xRow_faultPlace, ar (ad 5) cA 20 gRhands, ar (ad 6) cA 20 gRslow, ar (ad 7) cA 4 gRahead, ar (ad 8) cA 4 gRdirect] sz) [oRow ad u.2.1 xRow_length xRow_people xRow_scarves xRow_main u.2.2.1, ar (ad 5) cA 20 u.2.2.2.1, ar (ad 6) cA 20 u.2.2.2.2, ar (ad 7) cA 4 gRahead, ar (ad 8) cA 4 gRdirect]) (va_A [oRow ad xRow_depth xRow_length xRow_people xRow_scarves xRow_main xRow_faultPlace, ar (ad 5) cA 20 gRhands, ar (ad 6) cA 20 gRslow, ar (ad 7) cA 4 gRahead, ar (ad 8) cA 4 gRdirect] sz)) 0 0 (va_A [oRow ad xRow_depth xRow_length xRow_people xRow_scarves xRow_main xRow_faultPlace, ar (ad 5) cA 20 gRhands, ar (ad 6) cA 20 gRslow, ar (ad 7) cA 4 gRahead, ar (ad 8) cA 4 gRdirect] sz) := by
  refine Met.ofW (cc := cX5_endFork) (maxL := 3) (ret := (some .int)) (by decide) rfl ?_
  intro p e s m args below meth c s₁ B hml hv
  obtain ⟨rfl, hsz, hP, hK, hD0⟩ := hv
  have hx := B.exec
  have hb := B.bytes
  have hr := B.returns
  have hts := atoms_spec (ws := wsX5_endFork) B.pre
  have hown : s.vm.findClass RX5 = some m.cls := findClass_of_methodNamed B.named
  have hlocks := B.notSynchronized
  subst hsz
  have hD := hD0.self (sz := s.heap.size)
  generalize hAe : va_A [oRow ad xRow_depth xRow_length xRow_people xRow_scarves xRow_main xRow_faultPlace, ar (ad 5) cA 20 gRhands, ar (ad 6) cA 20 gRslow, ar (ad 7) cA 4 gRahead, ar (ad 8) cA 4 gRdirect] s.heap.size = A at hD ⊢
  have hA : ∀ q : Nat, s.heap.size ≤ q → A q := fun q h => by rw [← hAe]; exact Or.inr h
  have hS : va_S A s.heap s.heap [] := va_S.rf
  have hl := lv_entry ([.ref (ad 1), .int a1, .int a2]) (n := 3) (Nat.le_of_ble_eq_true rfl)
  rw [lg_entry_eq]
  generalize (lg_sl ([.ref (ad 1), .int a1, .int a2]) ++ List.replicate (3 - (lg_sl ([.ref (ad 1), .int a1, .int a2])).length) Slot.unset).toArray = ls at hl ⊢
  have hl : lv_has ls 3 [(0, .ref (ad 1)), (1, .int a1), (2, .int a2)] := hl
  refine wk_Q (fun QQ hQ => ?_)
  have hinX5 : ∀ w ∈ wsX50, w ∈ wsX5_endFork := fun w h => List.mem_cons_of_mem _ (inlX5 w h)
  have hl_58 := hts (.fieldLink RX5 58 "HandCensus$Row" "depth" "I") (List.mem_cons_of_mem _ (in_r8 _ (List.mem_of_getElem? (i := 17) rfl)))
  have hl_27 := hts (.fieldLink RX5 27 "HandCensus$Row" "ahead" "[I") (List.mem_cons_of_mem _ (in_r3 _ (List.mem_of_getElem? (i := 13) rfl)))
  have hl_30 := hts (.fieldLink RX5 30 "HandCensus$Row" "direct" "[I") (List.mem_cons_of_mem _ (in_r3 _ (List.mem_of_getElem? (i := 14) rfl)))
  have b_63 : ∀ (v1_63 : Int32) (xRow_depth_63 : Int32) (xRow_faultPlace_63 : Int32) (gRhands_63 : Nat → Int32) (gRslow_63 : Nat → Int32), fR_endFork_63 v1_63 xRow_depth_63 xRow_faultPlace_63 gRhands_63 gRslow_63 = some u → ∀ (H : Heap) (locs : List Loc), va_P (dC, dI) vwCl [oRow ad xRow_depth_63 xRow_length xRow_people xRow_scarves xRow_main xRow_faultPlace_63, ar (ad 5) cA 20 gRhands_63, ar (ad 6) cA 20 gRslow_63, ar (ad 7) cA 4 gRahead, ar (ad 8) cA 4 gRdirect] H → va_D A [oRow ad xRow_depth_63 xRow_length xRow_people xRow_scarves xRow_main xRow_faultPlace_63, ar (ad 5) cA 20 gRhands_63, ar (ad 6) cA 20 gRslow_63, ar (ad 7) cA 4 gRahead, ar (ad 8) cA 4 gRdirect] → va_S A s.heap H locs → ∀ ls : Array Slot, lv_has ls 3 [(0, .ref (ad 1)), (1, .int v1_63)] → W p l e (headSpec wsX5_endFork ({ frames := 1, cells := 0, slots := 0, locals := 23 })).room s m ([.ref (ad 1), .int a1, .int a2] : List Value).toArray below meth c H locs 0 0 QQ (F0 m 63 ls []) := by
    intro v1_63 xRow_depth_63 xRow_faultPlace_63 gRhands_63 gRslow_63 hm H locs hP hD hS ls hl
    unfold fR_endFork_63 at hm
    refine lv_aload_n hx hb dX5_endFork_63 rfl (lv_at hl 0 rfl) ?_
    refine lv_dup hx hb dX5_endFork_64 rfl ?_
    refine va_get (D := (dC, dI)) (ci := 5) (v := .int xRow_depth_63) (C := RX5) (T := TX5) (N := 13) hx hb hts hinX5 hown hK hP 0 rfl rfl 7 (by decide) hl_58 (fun _ h9 => h9) rfl dX5_endFork_65 ?_
    refine lv_iconst (v := 1) hx hb dX5_endFork_68 (by decide) ?_
    refine lv_isub hx hb dX5_endFork_69 ?_
    refine va_put (D := (dC, dI)) (ci := 5) (v := .int (xRow_depth_63 - 1)) (ty := .int) (C := RX5) (T := TX5) (N := 13) hx hb hts hinX5 tyX5 tyX5_ok nmX5 hown hK hP hD hS 0 rfl rfl 7 (by decide) hl_58 (fun _ h9 => h9) rfl (by decide +kernel) rfl rfl (Nat.le_of_ble_eq_true rfl) dX5_endFork_70 (fun H locs hP hD hS => ?_)
    have hP : va_P (dC, dI) vwCl [oRow ad (xRow_depth_63 - 1) xRow_length xRow_people xRow_scarves xRow_main xRow_faultPlace_63, ar (ad 5) cA 20 gRhands_63, ar (ad 6) cA 20 gRslow_63, ar (ad 7) cA 4 gRahead, ar (ad 8) cA 4 gRdirect] H := hP
    have hD : va_D A [oRow ad (xRow_depth_63 - 1) xRow_length xRow_people xRow_scarves xRow_main xRow_faultPlace_63, ar (ad 5) cA 20 gRhands_63, ar (ad 6) cA 20 gRslow_63, ar (ad 7) cA 4 gRahead, ar (ad 8) cA 4 gRdirect] := hD
    refine lv_iload_n hx hb dX5_endFork_73 rfl (lv_at hl 1 rfl) ?_
    refine lv_iconst (v := 1) hx hb dX5_endFork_74 (by decide) ?_
    refine lv_iadd hx hb dX5_endFork_75 ?_
    obtain rfl := Option.some.inj hm
    subst hQ
    exact W.iret (v := (v1_63 + 1)) hx hb hr (fun t ht hW => ⟨⟨_, (), rfl, rfl, by rw [ht]; exact hP, va_K.moved hW.alike hK, hAe ▸ hD⟩, hS.F ht⟩) hS.2.2 dX5_endFork_76
  have b_28 : ∀ (v1_28 : Int32) (xRow_depth_28 : Int32) (xRow_faultPlace_28 : Int32) (gRhands_28 : Nat → Int32) (gRslow_28 : Nat → Int32), fR_endFork_28 v1_28 xRow_depth_28 xRow_faultPlace_28 gRhands_28 gRslow_28 = some u → ∀ (H : Heap) (locs : List Loc), va_P (dC, dI) vwCl [oRow ad xRow_depth_28 xRow_length xRow_people xRow_scarves xRow_main xRow_faultPlace_28, ar (ad 5) cA 20 gRhands_28, ar (ad 6) cA 20 gRslow_28, ar (ad 7) cA 4 gRahead, ar (ad 8) cA 4 gRdirect] H → va_D A [oRow ad xRow_depth_28 xRow_length xRow_people xRow_scarves xRow_main xRow_faultPlace_28, ar (ad 5) cA 20 gRhands_28, ar (ad 6) cA 20 gRslow_28, ar (ad 7) cA 4 gRahead, ar (ad 8) cA 4 gRdirect] → va_S A s.heap H locs → ∀ ls : Array Slot, lv_has ls 3 [(0, .ref (ad 1)), (1, .int v1_28)] → W p l e (headSpec wsX5_endFork ({ frames := 1, cells := 0, slots := 0, locals := 23 })).room s m ([.ref (ad 1), .int a1, .int a2] : List Value).toArray below meth c H locs 0 0 QQ (F0 m 28 ls []) := by
    intro v1_28 xRow_depth_28 xRow_faultPlace_28 gRhands_28 gRslow_28 hm H locs hP hD hS ls hl
    unfold fR_endFork_28 at hm
    refine lv_aload_n hx hb dX5_endFork_28 rfl (lv_at hl 0 rfl) ?_
    refine lv_iload_n hx hb dX5_endFork_29 rfl (lv_at hl 1 rfl) ?_
    have hPc := hP.sub (ws' := [oRow ad xRow_depth_28 xRow_length xRow_people xRow_scarves xRow_main xRow_faultPlace_28]) [0] rfl
    have hDc := hD.sub (ws' := [oRow ad xRow_depth_28 xRow_length xRow_people xRow_scarves xRow_main xRow_faultPlace_28]) [0] (by decide) rfl
    have hFc := va_free (wc := [oRow ad xRow_depth_28 xRow_length xRow_people xRow_scarves xRow_main xRow_faultPlace_28]) hD hS hA [0] rfl
    obtain ⟨u_1, hc_1, hm⟩ := bd_ok hm
    refine va_calli (va_runV (As := [.int v1_28]) (rest := []) ⟨hx, hb, hml, hown, hts⟩ (kR_stopAt l dC dI cA ad H.size v1_28 xRow_depth_28 xRow_length xRow_people xRow_scarves xRow_main xRow_faultPlace_28 u_1 hc_1) (cwV 1 hts gX5_endFork_X5_stopAt rfl rfl rfl (by decide +kernel) ⟨Nat.le_of_ble_eq_true rfl, Nat.le_of_ble_eq_true rfl⟩) ⟨fun a U g mk q => by obtain ⟨q0, q1, qP, qK, qD⟩ := q; exact ⟨q0, q1, qP, va_K.moved (u := U) (U := U.calling g mk a) (Vm.Alike.refl U.vm) qK, qD⟩, va_recv hK hPc (ci := 5) (q0 := 0) rfl rfl, fun U hU hW => ⟨rfl, by rw [hU], by rw [hU]; exact hPc, va_K.moved hW.alike hK, hDc.weaken (fun _ _ _ _ => trivial)⟩⟩ rfl rfl hl.1 rfl (lv_room (Nat.le_of_ble_eq_true rfl)) dX5_endFork_30 ⟨Nat.le_of_ble_eq_true rfl, Nat.le_of_ble_eq_true rfl⟩) hS (fun q _ h => hFc q h) hFc (fun r_1 _ t H1 locs ht hvm hw hB hz1 hk1 hS => ?_)
    obtain ⟨hP1, hK1, hD1⟩ := hB
    rw [ht] at hP1
    obtain ⟨hP, hD⟩ := va_join (wr := [ar (ad 5) cA 20 gRhands_28, ar (ad 6) cA 20 gRslow_28, ar (ad 7) cA 4 gRahead, ar (ad 8) cA 4 gRdirect]) (w1 := [oRow ad xRow_depth_28 xRow_length xRow_people xRow_scarves xRow_main u_1.2]) hP hD [0] [1, 2, 3, 4] rfl rfl (by decide) (by decide) hk1 hFc hP1 hD1
    clear hPc hDc hFc hP1 hK1 hD1 hk1 hz1 hvm ht
    generalize H1 = H at hP hS ⊢
    have hP : va_P (dC, dI) vwCl [oRow ad xRow_depth_28 xRow_length xRow_people xRow_scarves xRow_main u_1.2, ar (ad 5) cA 20 gRhands_28, ar (ad 6) cA 20 gRslow_28, ar (ad 7) cA 4 gRahead, ar (ad 8) cA 4 gRdirect] H := hP.sub [4, 0, 1, 2, 3] rfl
    have hD : va_D A [oRow ad xRow_depth_28 xRow_length xRow_people xRow_scarves xRow_main u_1.2, ar (ad 5) cA 20 gRhands_28, ar (ad 6) cA 20 gRslow_28, ar (ad 7) cA 4 gRahead, ar (ad 8) cA 4 gRdirect] := hD.sub [4, 0, 1, 2, 3] (by decide) rfl
    have hw := hw.symm
    subst hw
    obtain rfl := Option.some.inj hm
    subst hQ
    exact W.iret (v := u_1.1) hx hb hr (fun t ht hW => ⟨⟨_, (), rfl, rfl, by rw [ht]; exact hP, va_K.moved hW.alike hK, hAe ▸ hD⟩, hS.F ht⟩) hS.2.2 dX5_endFork_33
  have b_25 : ∀ (v1_25 : Int32) (v2_25 : Int32) (s0_25 : Int32) (s1_25 : Int32) (xRow_depth_25 : Int32) (xRow_faultPlace_25 : Int32) (gRhands_25 : Nat → Int32) (gRslow_25 : Nat → Int32), fR_endFork_25 v1_25 v2_25 s0_25 s1_25 xRow_depth_25 xRow_faultPlace_25 gRhands_25 gRslow_25 gRahead = some u → ∀ (H : Heap) (locs : List Loc), va_P (dC, dI) vwCl [oRow ad xRow_depth_25 xRow_length xRow_people xRow_scarves xRow_main xRow_faultPlace_25, ar (ad 5) cA 20 gRhands_25, ar (ad 6) cA 20 gRslow_25, ar (ad 7) cA 4 gRahead, ar (ad 8) cA 4 gRdirect] H → va_D A [oRow ad xRow_depth_25 xRow_length xRow_people xRow_scarves xRow_main xRow_faultPlace_25, ar (ad 5) cA 20 gRhands_25, ar (ad 6) cA 20 gRslow_25, ar (ad 7) cA 4 gRahead, ar (ad 8) cA 4 gRdirect] → va_S A s.heap H locs → ∀ ls : Array Slot, lv_has ls 3 [(0, .ref (ad 1)), (1, .int v1_25), (2, .int v2_25)] → W p l e (headSpec wsX5_endFork ({ frames := 1, cells := 0, slots := 0, locals := 23 })).room s m ([.ref (ad 1), .int a1, .int a2] : List Value).toArray below meth c H locs 0 0 QQ (F0 m 25 ls [.int s1_25, .int s0_25]) := by
    intro v1_25 v2_25 s0_25 s1_25 xRow_depth_25 xRow_faultPlace_25 gRhands_25 gRslow_25 hm H locs hP hD hS ls hl
    unfold fR_endFork_25 at hm
    refine lv_icmp_ge (tgt := 34) hx hb dX5_endFork_25 (by decide) (fun c_2 => ?_) (fun c_2 => ?_)
    · have hm := it_pos c_2 hm
      refine lv_iload_n hx hb dX5_endFork_34 rfl (lv_at hl 2 rfl) ?_
      refine lv_if_eq (tgt := 63) hx hb dX5_endFork_35 (by decide) (fun c_3 => ?_) (fun c_3 => ?_)
      · have hm := it_pos c_3 hm
        exact b_63 _ _ _ _ _ hm _ _ hP hD hS _ (lv_sub hl [0, 1] rfl)
      · have hm := it_neg c_3 hm
        refine lv_aload_n hx hb dX5_endFork_38 rfl (lv_at hl 0 rfl) ?_
        refine lv_aload_n hx hb dX5_endFork_39 rfl (lv_at hl 0 rfl) ?_
        refine va_get (D := (dC, dI)) (ci := 5) (v := .ref (ad 7)) (C := RX5) (T := TX5) (N := 13) hx hb hts hinX5 hown hK hP 0 rfl rfl 5 (by decide) hl_27 (fun _ h9 => h9) rfl dX5_endFork_40 ?_
        refine lv_aload_n hx hb dX5_endFork_43 rfl (lv_at hl 0 rfl) ?_
        refine va_get (D := (dC, dI)) (ci := 5) (v := .int xRow_depth_25) (C := RX5) (T := TX5) (N := 13) hx hb hts hinX5 hown hK hP 0 rfl rfl 7 (by decide) hl_58 (fun _ h9 => h9) rfl dX5_endFork_44 ?_
        obtain ⟨i_4, hm⟩ := ck_ok hm
        refine va_iald hx hb hK hP 3 0 rfl rfl i_4 dX5_endFork_47 ?_
        refine lv_aload_n hx hb dX5_endFork_48 rfl (lv_at hl 0 rfl) ?_
        refine va_get (D := (dC, dI)) (ci := 5) (v := .ref (ad 7)) (C := RX5) (T := TX5) (N := 13) hx hb hts hinX5 hown hK hP 0 rfl rfl 5 (by decide) hl_27 (fun _ h9 => h9) rfl dX5_endFork_49 ?_
        refine lv_aload_n hx hb dX5_endFork_52 rfl (lv_at hl 0 rfl) ?_
        refine va_get (D := (dC, dI)) (ci := 5) (v := .int xRow_depth_25) (C := RX5) (T := TX5) (N := 13) hx hb hts hinX5 hown hK hP 0 rfl rfl 7 (by decide) hl_58 (fun _ h9 => h9) rfl dX5_endFork_53 ?_
        refine lv_iconst (v := 1) hx hb dX5_endFork_56 (by decide) ?_
        refine lv_isub hx hb dX5_endFork_57 ?_
        obtain ⟨i_5, hm⟩ := ck_ok hm
        refine va_iald hx hb hK hP 3 0 rfl rfl i_5 dX5_endFork_58 ?_
        refine lv_iconst (v := 0) hx hb dX5_endFork_59 (by decide) ?_
        have hPc := hP.sub (ws' := [oRow ad xRow_depth_25 xRow_length xRow_people xRow_scarves xRow_main xRow_faultPlace_25, ar (ad 5) cA 20 gRhands_25, ar (ad 6) cA 20 gRslow_25]) [0, 1, 2] rfl
        have hDc := hD.sub (ws' := [oRow ad xRow_depth_25 xRow_length xRow_people xRow_scarves xRow_main xRow_faultPlace_25, ar (ad 5) cA 20 gRhands_25, ar (ad 6) cA 20 gRslow_25]) [0, 1, 2] (by decide) rfl
        have hFc := va_free (wc := [oRow ad xRow_depth_25 xRow_length xRow_people xRow_scarves xRow_main xRow_faultPlace_25, ar (ad 5) cA 20 gRhands_25, ar (ad 6) cA 20 gRslow_25]) hD hS hA [0, 1, 2] rfl
        obtain ⟨u_6, hc_6, hm⟩ := bd_ok hm
        refine va_callv (va_runV (As := [.int (gRahead xRow_depth_25.toNatClampNeg), .int (gRahead (xRow_depth_25 - 1).toNatClampNeg), .int 0]) (rest := []) ⟨hx, hb, hml, hown, hts⟩ (kR_holdHands l dC dI cA ad H.size (gRahead xRow_depth_25.toNatClampNeg) (gRahead (xRow_depth_25 - 1).toNatClampNeg) 0 xRow_depth_25 xRow_length xRow_people xRow_scarves xRow_main xRow_faultPlace_25 gRhands_25 gRslow_25 u_6 hc_6) (cwV 3 hts gX5_endFork_X5_holdHands rfl rfl rfl (by decide +kernel) ⟨Nat.le_of_ble_eq_true rfl, Nat.le_of_ble_eq_true rfl⟩) ⟨fun a U g mk q => by obtain ⟨q0, q1, qP, qK, qD⟩ := q; exact ⟨q0, q1, qP, va_K.moved (u := U) (U := U.calling g mk a) (Vm.Alike.refl U.vm) qK, qD⟩, va_recv hK hPc (ci := 5) (q0 := 0) rfl rfl, fun U hU hW => ⟨rfl, by rw [hU], by rw [hU]; exact hPc, va_K.moved hW.alike hK, hDc.weaken (fun _ _ _ _ => trivial)⟩⟩ rfl rfl hl.1 rfl (lv_room (Nat.le_of_ble_eq_true rfl)) dX5_endFork_60 ⟨Nat.le_of_ble_eq_true rfl, Nat.le_of_ble_eq_true rfl⟩) hS (fun q _ h => hFc q h) hFc (fun _ t H1 locs ht hvm hw hB hz1 hk1 hS => ?_)
        obtain ⟨hP1, hK1, hD1⟩ := hB
        rw [ht] at hP1
        obtain ⟨hP, hD⟩ := va_join (wr := [ar (ad 7) cA 4 gRahead, ar (ad 8) cA 4 gRdirect]) (w1 := [oRow ad xRow_depth_25 xRow_length xRow_people xRow_scarves xRow_main xRow_faultPlace_25, ar (ad 5) cA 20 u_6.1, ar (ad 6) cA 20 u_6.2]) hP hD [0, 1, 2] [3, 4] rfl rfl (by decide) (by decide) hk1 hFc hP1 hD1
        clear hPc hDc hFc hP1 hK1 hD1 hk1 hz1 hvm ht
        generalize H1 = H at hP hS ⊢
        have hP : va_P (dC, dI) vwCl [oRow ad xRow_depth_25 xRow_length xRow_people xRow_scarves xRow_main xRow_faultPlace_25, ar (ad 5) cA 20 u_6.1, ar (ad 6) cA 20 u_6.2, ar (ad 7) cA 4 gRahead, ar (ad 8) cA 4 gRdirect] H := hP.sub [2, 3, 4, 0, 1] rfl
        have hD : va_D A [oRow ad xRow_depth_25 xRow_length xRow_people xRow_scarves xRow_main xRow_faultPlace_25, ar (ad 5) cA 20 u_6.1, ar (ad 6) cA 20 u_6.2, ar (ad 7) cA 4 gRahead, ar (ad 8) cA 4 gRdirect] := hD.sub [2, 3, 4, 0, 1] (by decide) rfl
        exact b_63 _ _ _ _ _ hm _ _ hP hD hS _ (lv_sub hl [0, 1] rfl)
    · have hm := it_neg c_2 hm
      exact b_28 _ _ _ _ _ hm _ _ hP hD hS _ (lv_sub hl [0, 1] rfl)
  unfold fR_endFork at hm
  refine lv_aload_n hx hb dX5_endFork_0 rfl (lv_at hl 0 rfl) ?_
  refine va_get (D := (dC, dI)) (ci := 5) (v := .int xRow_depth) (C := RX5) (T := TX5) (N := 13) hx hb hts hinX5 hown hK hP 0 rfl rfl 7 (by decide) hl_58 (fun _ h9 => h9) rfl dX5_endFork_1 ?_
  refine lv_if_eq (tgt := 28) hx hb dX5_endFork_4 (by decide) (fun c_7 => ?_) (fun c_7 => ?_)
  · have hm := it_pos c_7 hm
    exact b_28 _ _ _ _ _ hm _ _ hP hD hS _ (lv_sub hl [0, 1] rfl)
  · have hm := it_neg c_7 hm
    refine lv_aload_n hx hb dX5_endFork_7 rfl (lv_at hl 0 rfl) ?_
    refine va_get (D := (dC, dI)) (ci := 5) (v := .ref (ad 8)) (C := RX5) (T := TX5) (N := 13) hx hb hts hinX5 hown hK hP 0 rfl rfl 6 (by decide) hl_30 (fun _ h9 => h9) rfl dX5_endFork_8 ?_
    refine lv_aload_n hx hb dX5_endFork_11 rfl (lv_at hl 0 rfl) ?_
    refine va_get (D := (dC, dI)) (ci := 5) (v := .int xRow_depth) (C := RX5) (T := TX5) (N := 13) hx hb hts hinX5 hown hK hP 0 rfl rfl 7 (by decide) hl_58 (fun _ h9 => h9) rfl dX5_endFork_12 ?_
    obtain ⟨i_8, hm⟩ := ck_ok hm
    refine va_iald hx hb hK hP 4 0 rfl rfl i_8 dX5_endFork_15 ?_
    refine lv_iload_n hx hb dX5_endFork_16 rfl (lv_at hl 2 rfl) ?_
    refine lv_if_eq (tgt := 24) hx hb dX5_endFork_17 (by decide) (fun c_9 => ?_) (fun c_9 => ?_)
    · have hm := it_pos c_9 hm
      refine lv_iconst (v := 1) hx hb dX5_endFork_24 (by decide) ?_
      exact b_25 _ _ _ _ _ _ _ _ hm _ _ hP hD hS _ (lv_sub hl [0, 1, 2] rfl)
    · have hm := it_neg c_9 hm
      refine lv_iconst (v := 2) hx hb dX5_endFork_20 (by decide) ?_
      refine lv_goto (tgt := 25) hx hb dX5_endFork_21 (by decide) ?_
      exact b_25 _ _ _ _ _ _ _ _ hm _ _ hP hD hS _ (lv_sub hl [0, 1, 2] rfl)

set_option maxHeartbeats 4000000 in
set_option maxRecDepth 100000 in
theorem kR_addPerson (l : Launch) (dC : Nat → ClassId) (dI : Nat → Nat → Nat) (cA : ClassId) (ad : Nat → Nat) (sz : Nat) (a1 : Int32) (a2 : Int32) (a3 : Int32) (xRow_depth : Int32) (xRow_length : Int32) (xRow_people : Int32) (xRow_scarves : Int32) (xRow_main : Int32) (xRow_faultPlace : Int32) (gRkinds : Nat → Int32) (gRlates : Nat → Int32) (gRhands : Nat → Int32) (gRslow : Nat → Int32) (gRahead : Nat → Int32) (gRdirect : Nat → Int32) (u : Int32 × Int32 × Int32 × (Nat → Int32) × (Nat → Int32) × (Nat → Int32) × (Nat → Int32) × (Nat → Int32) × (Nat → Int32)) (hm : fR_addPerson a1 a2 a3 xRow_depth xRow_people xRow_scarves xRow_main gRkinds gRlates gRhands gRslow gRahead gRdirect = some u) : Met l yX5_addPerson wsX5_addPerson ({ frames := 1, cells := 0, slots := 0, locals := 23 }) (va_Pc [.ref (ad 1), .int a1, .int a2, .int a3] (fun U => U.heap.size = sz ∧ va_P (dC, dI) vwCl [oRow ad xRow_depth xRow_length xRow_people xRow_scarves xRow_main xRow_faultPlace, ar (ad 3) cA 20 gRkinds, ar (ad 4) cA 20 gRlates, ar (ad 5) cA 20 gRhands, ar (ad 6) cA 20 gRslow, ar (ad 7) cA 4 gRahead, ar (ad 8) cA 4 gRdirect] U.heap ∧ va_K (dC, dI) vwCl [(cA, .int)] U ∧ va_D (fun _ => True) [oRow ad xRow_depth xRow_length xRow_people xRow_scarves xRow_main xRow_faultPlace, ar (ad 3) cA 20 gRkinds, ar (ad 4) cA 20 gRlates, ar (ad 5) cA 20 gRhands, ar (ad 6) cA 20 gRslow, ar (ad 7) cA 4 gRahead, ar (ad 8) cA 4 gRdirect])) (va_Qv (fun (_ : Unit) => True) (fun (_ : Unit) t => va_P (dC, dI) vwCl [oRow ad xRow_depth xRow_length u.1 u.2.1 u.2.2.1 xRow_faultPlace, ar (ad 3) cA 20 u.2.2.2.1, ar (ad 4) cA 20 u.2.2.2.2.1, ar (ad 5) cA 20 u.2.2.2.2.2.1, ar (ad 6) cA 20 u.2.2.2.2.2.2.1, ar (ad 7) cA 4 u.2.2.2.2.2.2.2.1, ar (ad 8) cA 4 u.2.2.2.2.2.2.2.2] t.heap ∧ va_K (dC, dI) vwCl [(cA, .int)] t ∧ va_D (va_A [oRow ad xRow_depth xRow_length xRow_people xRow_scarves xRow_main xRow_faultPlace, ar (ad 3) cA 20 gRkinds, ar (ad 4) cA 20 gRlates, ar (ad 5) cA 20 gRhands, ar (ad 6) cA 20 gRslow, ar (ad 7) cA 4 gRahead, ar (ad 8) cA 4 gRdirect] sz) [oRow ad xRow_depth xRow_length u.1 u.2.1 u.2.2.1 xRow_faultPlace, ar (ad 3) cA 20 u.2.2.2.1, ar (ad 4) cA 20 u.2.2.2.2.1, ar (ad 5) cA 20 u.2.2.2.2.2.1, ar (ad 6) cA 20 u.2.2.2.2.2.2.1, ar (ad 7) cA 4 u.2.2.2.2.2.2.2.1, ar (ad 8) cA 4 u.2.2.2.2.2.2.2.2]) (va_A [oRow ad xRow_depth xRow_length xRow_people xRow_scarves xRow_main xRow_faultPlace, ar (ad 3) cA 20 gRkinds, ar (ad 4) cA 20 gRlates, ar (ad 5) cA 20 gRhands, ar (ad 6) cA 20 gRslow, ar (ad 7) cA 4 gRahead, ar (ad 8) cA 4 gRdirect] sz)) 0 0 (va_A [oRow ad xRow_depth xRow_length xRow_people xRow_scarves xRow_main xRow_faultPlace, ar (ad 3) cA 20 gRkinds, ar (ad 4) cA 20 gRlates, ar (ad 5) cA 20 gRhands, ar (ad 6) cA 20 gRslow, ar (ad 7) cA 4 gRahead, ar (ad 8) cA 4 gRdirect] sz) := by
  refine Met.ofW (cc := cX5_addPerson) (maxL := 5) (ret := none) (by decide) rfl ?_
  intro p e s m args below meth c s₁ B hml hv
  obtain ⟨rfl, hsz, hP, hK, hD0⟩ := hv
  have hx := B.exec
  have hb := B.bytes
  have hr := B.returns
  have hts := atoms_spec (ws := wsX5_addPerson) B.pre
  have hown : s.vm.findClass RX5 = some m.cls := findClass_of_methodNamed B.named
  have hlocks := B.notSynchronized
  subst hsz
  have hD := hD0.self (sz := s.heap.size)
  generalize hAe : va_A [oRow ad xRow_depth xRow_length xRow_people xRow_scarves xRow_main xRow_faultPlace, ar (ad 3) cA 20 gRkinds, ar (ad 4) cA 20 gRlates, ar (ad 5) cA 20 gRhands, ar (ad 6) cA 20 gRslow, ar (ad 7) cA 4 gRahead, ar (ad 8) cA 4 gRdirect] s.heap.size = A at hD ⊢
  have hA : ∀ q : Nat, s.heap.size ≤ q → A q := fun q h => by rw [← hAe]; exact Or.inr h
  have hS : va_S A s.heap s.heap [] := va_S.rf
  have hl := lv_entry ([.ref (ad 1), .int a1, .int a2, .int a3]) (n := 5) (Nat.le_of_ble_eq_true rfl)
  rw [lg_entry_eq]
  generalize (lg_sl ([.ref (ad 1), .int a1, .int a2, .int a3]) ++ List.replicate (5 - (lg_sl ([.ref (ad 1), .int a1, .int a2, .int a3])).length) Slot.unset).toArray = ls at hl ⊢
  have hl : lv_has ls 5 [(0, .ref (ad 1)), (1, .int a1), (2, .int a2), (3, .int a3)] := hl
  refine wk_Q (fun QQ hQ => ?_)
  have hinX5 : ∀ w ∈ wsX50, w ∈ wsX5_addPerson := fun w h => List.mem_cons_of_mem _ (inlX5 w h)
  have hl_27 := hts (.fieldLink RX5 27 "HandCensus$Row" "ahead" "[I") (List.mem_cons_of_mem _ (in_r3 _ (List.mem_of_getElem? (i := 13) rfl)))
  have hl_58 := hts (.fieldLink RX5 58 "HandCensus$Row" "depth" "I") (List.mem_cons_of_mem _ (in_r8 _ (List.mem_of_getElem? (i := 17) rfl)))
  have hl_30 := hts (.fieldLink RX5 30 "HandCensus$Row" "direct" "[I") (List.mem_cons_of_mem _ (in_r3 _ (List.mem_of_getElem? (i := 14) rfl)))
  have hl_61 := hts (.fieldLink RX5 61 "HandCensus$Row" "main" "I") (List.mem_cons_of_mem _ (in_r8 _ (List.mem_of_getElem? (i := 19) rfl)))
  have hl_43 := hts (.fieldLink RX5 43 "HandCensus$Row" "people" "I") (List.mem_cons_of_mem _ (in_r8 _ (List.mem_of_getElem? (i := 18) rfl)))
  have hl_15 := hts (.fieldLink RX5 15 "HandCensus$Row" "kinds" "[I") (List.mem_cons_of_mem _ (in_r3 _ (List.mem_of_getElem? (i := 9) rfl)))
  have hl_18 := hts (.fieldLink RX5 18 "HandCensus$Row" "lates" "[I") (List.mem_cons_of_mem _ (in_r3 _ (List.mem_of_getElem? (i := 10) rfl)))
  have hl_70 := hts (.fieldLink RX5 70 "HandCensus$Row" "scarves" "I") (List.mem_cons_of_mem _ (in_r9 _ (List.mem_of_getElem? (i := 0) rfl)))
  have b_98 : ∀ (v4_98 : Int32) (xRow_people_98 : Int32) (xRow_scarves_98 : Int32) (xRow_main_98 : Int32) (gRkinds_98 : Nat → Int32) (gRlates_98 : Nat → Int32) (gRhands_98 : Nat → Int32) (gRslow_98 : Nat → Int32) (gRahead_98 : Nat → Int32) (gRdirect_98 : Nat → Int32), fR_addPerson_98 v4_98 xRow_depth xRow_people_98 xRow_scarves_98 xRow_main_98 gRkinds_98 gRlates_98 gRhands_98 gRslow_98 gRahead_98 gRdirect_98 = some u → ∀ (H : Heap) (locs : List Loc), va_P (dC, dI) vwCl [oRow ad xRow_depth xRow_length xRow_people_98 xRow_scarves_98 xRow_main_98 xRow_faultPlace, ar (ad 3) cA 20 gRkinds_98, ar (ad 4) cA 20 gRlates_98, ar (ad 5) cA 20 gRhands_98, ar (ad 6) cA 20 gRslow_98, ar (ad 7) cA 4 gRahead_98, ar (ad 8) cA 4 gRdirect_98] H → va_D A [oRow ad xRow_depth xRow_length xRow_people_98 xRow_scarves_98 xRow_main_98 xRow_faultPlace, ar (ad 3) cA 20 gRkinds_98, ar (ad 4) cA 20 gRlates_98, ar (ad 5) cA 20 gRhands_98, ar (ad 6) cA 20 gRslow_98, ar (ad 7) cA 4 gRahead_98, ar (ad 8) cA 4 gRdirect_98] → va_S A s.heap H locs → ∀ ls : Array Slot, lv_has ls 5 [(0, .ref (ad 1)), (4, .int v4_98)] → W p l e (headSpec wsX5_addPerson ({ frames := 1, cells := 0, slots := 0, locals := 23 })).room s m ([.ref (ad 1), .int a1, .int a2, .int a3] : List Value).toArray below meth c H locs 0 0 QQ (F0 m 98 ls []) := by
    intro v4_98 xRow_people_98 xRow_scarves_98 xRow_main_98 gRkinds_98 gRlates_98 gRhands_98 gRslow_98 gRahead_98 gRdirect_98 hm H locs hP hD hS ls hl
    unfold fR_addPerson_98 at hm
    refine lv_aload_n hx hb dX5_addPerson_98 rfl (lv_at hl 0 rfl) ?_
    refine va_get (D := (dC, dI)) (ci := 5) (v := .ref (ad 7)) (C := RX5) (T := TX5) (N := 13) hx hb hts hinX5 hown hK hP 0 rfl rfl 5 (by decide) hl_27 (fun _ h9 => h9) rfl dX5_addPerson_99 ?_
    refine lv_aload_n hx hb dX5_addPerson_102 rfl (lv_at hl 0 rfl) ?_
    refine va_get (D := (dC, dI)) (ci := 5) (v := .int xRow_depth) (C := RX5) (T := TX5) (N := 13) hx hb hts hinX5 hown hK hP 0 rfl rfl 7 (by decide) hl_58 (fun _ h9 => h9) rfl dX5_addPerson_103 ?_
    refine lv_iload hx hb dX5_addPerson_106 (lv_at hl 1 rfl) ?_
    obtain ⟨i_1, hm⟩ := ck_ok hm
    refine va_iast hx hb hK hP hD hS 5 0 rfl rfl i_1 dX5_addPerson_108 (fun H locs hP hD hS => ?_)
    have hP : va_P (dC, dI) vwCl [oRow ad xRow_depth xRow_length xRow_people_98 xRow_scarves_98 xRow_main_98 xRow_faultPlace, ar (ad 3) cA 20 gRkinds_98, ar (ad 4) cA 20 gRlates_98, ar (ad 5) cA 20 gRhands_98, ar (ad 6) cA 20 gRslow_98, ar (ad 7) cA 4 (upd gRahead_98 xRow_depth.toNatClampNeg v4_98), ar (ad 8) cA 4 gRdirect_98] H := hP
    have hD : va_D A [oRow ad xRow_depth xRow_length xRow_people_98 xRow_scarves_98 xRow_main_98 xRow_faultPlace, ar (ad 3) cA 20 gRkinds_98, ar (ad 4) cA 20 gRlates_98, ar (ad 5) cA 20 gRhands_98, ar (ad 6) cA 20 gRslow_98, ar (ad 7) cA 4 (upd gRahead_98 xRow_depth.toNatClampNeg v4_98), ar (ad 8) cA 4 gRdirect_98] := hD
    refine lv_aload_n hx hb dX5_addPerson_109 rfl (lv_at hl 0 rfl) ?_
    refine va_get (D := (dC, dI)) (ci := 5) (v := .ref (ad 8)) (C := RX5) (T := TX5) (N := 13) hx hb hts hinX5 hown hK hP 0 rfl rfl 6 (by decide) hl_30 (fun _ h9 => h9) rfl dX5_addPerson_110 ?_
    refine lv_aload_n hx hb dX5_addPerson_113 rfl (lv_at hl 0 rfl) ?_
    refine va_get (D := (dC, dI)) (ci := 5) (v := .int xRow_depth) (C := RX5) (T := TX5) (N := 13) hx hb hts hinX5 hown hK hP 0 rfl rfl 7 (by decide) hl_58 (fun _ h9 => h9) rfl dX5_addPerson_114 ?_
    refine lv_dup2_11 hx hb dX5_addPerson_117 rfl rfl ?_
    obtain ⟨i_2, hm⟩ := ck_ok hm
    refine va_iald hx hb hK hP 6 0 rfl rfl i_2 dX5_addPerson_118 ?_
    refine lv_iconst (v := 1) hx hb dX5_addPerson_119 (by decide) ?_
    refine lv_iadd hx hb dX5_addPerson_120 ?_
    obtain ⟨i_3, hm⟩ := ck_ok hm
    refine va_iast hx hb hK hP hD hS 6 0 rfl rfl i_3 dX5_addPerson_121 (fun H locs hP hD hS => ?_)
    have hP : va_P (dC, dI) vwCl [oRow ad xRow_depth xRow_length xRow_people_98 xRow_scarves_98 xRow_main_98 xRow_faultPlace, ar (ad 3) cA 20 gRkinds_98, ar (ad 4) cA 20 gRlates_98, ar (ad 5) cA 20 gRhands_98, ar (ad 6) cA 20 gRslow_98, ar (ad 7) cA 4 (upd gRahead_98 xRow_depth.toNatClampNeg v4_98), ar (ad 8) cA 4 (upd gRdirect_98 xRow_depth.toNatClampNeg ((gRdirect_98 xRow_depth.toNatClampNeg) + 1))] H := hP
    have hD : va_D A [oRow ad xRow_depth xRow_length xRow_people_98 xRow_scarves_98 xRow_main_98 xRow_faultPlace, ar (ad 3) cA 20 gRkinds_98, ar (ad 4) cA 20 gRlates_98, ar (ad 5) cA 20 gRhands_98, ar (ad 6) cA 20 gRslow_98, ar (ad 7) cA 4 (upd gRahead_98 xRow_depth.toNatClampNeg v4_98), ar (ad 8) cA 4 (upd gRdirect_98 xRow_depth.toNatClampNeg ((gRdirect_98 xRow_depth.toNatClampNeg) + 1))] := hD
    obtain rfl := Option.some.inj hm
    subst hQ
    exact W.vret hx hb hr (fun t ht hW => ⟨⟨(), rfl, trivial, by rw [ht]; exact hP, va_K.moved hW.alike hK, hAe ▸ hD⟩, hS.F ht⟩) hS.2.2 dX5_addPerson_122
  have b_69 : ∀ (v3_69 : Int32) (v4_69 : Int32) (xRow_people_69 : Int32) (xRow_scarves_69 : Int32) (xRow_main_69 : Int32) (gRkinds_69 : Nat → Int32) (gRlates_69 : Nat → Int32) (gRhands_69 : Nat → Int32) (gRslow_69 : Nat → Int32) (gRahead_69 : Nat → Int32) (gRdirect_69 : Nat → Int32), fR_addPerson_69 v3_69 v4_69 xRow_depth xRow_people_69 xRow_scarves_69 xRow_main_69 gRkinds_69 gRlates_69 gRhands_69 gRslow_69 gRahead_69 gRdirect_69 = some u → ∀ (H : Heap) (locs : List Loc), va_P (dC, dI) vwCl [oRow ad xRow_depth xRow_length xRow_people_69 xRow_scarves_69 xRow_main_69 xRow_faultPlace, ar (ad 3) cA 20 gRkinds_69, ar (ad 4) cA 20 gRlates_69, ar (ad 5) cA 20 gRhands_69, ar (ad 6) cA 20 gRslow_69, ar (ad 7) cA 4 gRahead_69, ar (ad 8) cA 4 gRdirect_69] H → va_D A [oRow ad xRow_depth xRow_length xRow_people_69 xRow_scarves_69 xRow_main_69 xRow_faultPlace, ar (ad 3) cA 20 gRkinds_69, ar (ad 4) cA 20 gRlates_69, ar (ad 5) cA 20 gRhands_69, ar (ad 6) cA 20 gRslow_69, ar (ad 7) cA 4 gRahead_69, ar (ad 8) cA 4 gRdirect_69] → va_S A s.heap H locs → ∀ ls : Array Slot, lv_has ls 5 [(0, .ref (ad 1)), (3, .int v3_69), (4, .int v4_69)] → W p l e (headSpec wsX5_addPerson ({ frames := 1, cells := 0, slots := 0, locals := 23 })).room s m ([.ref (ad 1), .int a1, .int a2, .int a3] : List Value).toArray below meth c H locs 0 0 QQ (F0 m 69 ls []) := by
    intro v3_69 v4_69 xRow_people_69 xRow_scarves_69 xRow_main_69 gRkinds_69 gRlates_69 gRhands_69 gRslow_69 gRahead_69 gRdirect_69 hm H locs hP hD hS ls hl
    unfold fR_addPerson_69 at hm
    refine lv_aload_n hx hb dX5_addPerson_69 rfl (lv_at hl 0 rfl) ?_
    refine va_get (D := (dC, dI)) (ci := 5) (v := .ref (ad 7)) (C := RX5) (T := TX5) (N := 13) hx hb hts hinX5 hown hK hP 0 rfl rfl 5 (by decide) hl_27 (fun _ h9 => h9) rfl dX5_addPerson_70 ?_
    refine lv_aload_n hx hb dX5_addPerson_73 rfl (lv_at hl 0 rfl) ?_
    refine va_get (D := (dC, dI)) (ci := 5) (v := .int xRow_depth) (C := RX5) (T := TX5) (N := 13) hx hb hts hinX5 hown hK hP 0 rfl rfl 7 (by decide) hl_58 (fun _ h9 => h9) rfl dX5_addPerson_74 ?_
    obtain ⟨i_4, hm⟩ := ck_ok hm
    refine va_iald hx hb hK hP 5 0 rfl rfl i_4 dX5_addPerson_77 ?_
    refine lv_iconst (v := (-1)) hx hb dX5_addPerson_78 (by decide) ?_
    refine lv_icmp_eq (tgt := 98) hx hb dX5_addPerson_79 (by decide) (fun c_5 => ?_) (fun c_5 => ?_)
    · have hm := it_pos c_5 hm
      exact b_98 _ _ _ _ _ _ _ _ _ _ hm _ _ hP hD hS _ (lv_sub hl [0, 2] rfl)
    · have hm := it_neg c_5 hm
      refine lv_aload_n hx hb dX5_addPerson_82 rfl (lv_at hl 0 rfl) ?_
      refine lv_iload hx hb dX5_addPerson_83 (lv_at hl 2 rfl) ?_
      refine lv_aload_n hx hb dX5_addPerson_85 rfl (lv_at hl 0 rfl) ?_
      refine va_get (D := (dC, dI)) (ci := 5) (v := .ref (ad 7)) (C := RX5) (T := TX5) (N := 13) hx hb hts hinX5 hown hK hP 0 rfl rfl 5 (by decide) hl_27 (fun _ h9 => h9) rfl dX5_addPerson_86 ?_
      refine lv_aload_n hx hb dX5_addPerson_89 rfl (lv_at hl 0 rfl) ?_
      refine va_get (D := (dC, dI)) (ci := 5) (v := .int xRow_depth) (C := RX5) (T := TX5) (N := 13) hx hb hts hinX5 hown hK hP 0 rfl rfl 7 (by decide) hl_58 (fun _ h9 => h9) rfl dX5_addPerson_90 ?_
      obtain ⟨i_6, hm⟩ := ck_ok hm
      refine va_iald hx hb hK hP 5 0 rfl rfl i_6 dX5_addPerson_93 ?_
      refine lv_iload_n hx hb dX5_addPerson_94 rfl (lv_at hl 1 rfl) ?_
      have hPc := hP.sub (ws' := [oRow ad xRow_depth xRow_length xRow_people_69 xRow_scarves_69 xRow_main_69 xRow_faultPlace, ar (ad 5) cA 20 gRhands_69, ar (ad 6) cA 20 gRslow_69]) [0, 3, 4] rfl
      have hDc := hD.sub (ws' := [oRow ad xRow_depth xRow_length xRow_people_69 xRow_scarves_69 xRow_main_69 xRow_faultPlace, ar (ad 5) cA 20 gRhands_69, ar (ad 6) cA 20 gRslow_69]) [0, 3, 4] (by decide) rfl
      have hFc := va_free (wc := [oRow ad xRow_depth xRow_length xRow_people_69 xRow_scarves_69 xRow_main_69 xRow_faultPlace, ar (ad 5) cA 20 gRhands_69, ar (ad 6) cA 20 gRslow_69]) hD hS hA [0, 3, 4] rfl
      obtain ⟨u_7, hc_7, hm⟩ := bd_ok hm
      refine va_callv (va_runV (As := [.int v4_69, .int (gRahead_69 xRow_depth.toNatClampNeg), .int v3_69]) (rest := []) ⟨hx, hb, hml, hown, hts⟩ (kR_holdHands l dC dI cA ad H.size v4_69 (gRahead_69 xRow_depth.toNatClampNeg) v3_69 xRow_depth xRow_length xRow_people_69 xRow_scarves_69 xRow_main_69 xRow_faultPlace gRhands_69 gRslow_69 u_7 hc_7) (cwV 3 hts gX5_addPerson_X5_holdHands rfl rfl rfl (by decide +kernel) ⟨Nat.le_of_ble_eq_true rfl, Nat.le_of_ble_eq_true rfl⟩) ⟨fun a U g mk q => by obtain ⟨q0, q1, qP, qK, qD⟩ := q; exact ⟨q0, q1, qP, va_K.moved (u := U) (U := U.calling g mk a) (Vm.Alike.refl U.vm) qK, qD⟩, va_recv hK hPc (ci := 5) (q0 := 0) rfl rfl, fun U hU hW => ⟨rfl, by rw [hU], by rw [hU]; exact hPc, va_K.moved hW.alike hK, hDc.weaken (fun _ _ _ _ => trivial)⟩⟩ rfl rfl hl.1 rfl (lv_room (Nat.le_of_ble_eq_true rfl)) dX5_addPerson_95 ⟨Nat.le_of_ble_eq_true rfl, Nat.le_of_ble_eq_true rfl⟩) hS (fun q _ h => hFc q h) hFc (fun _ t H1 locs ht hvm hw hB hz1 hk1 hS => ?_)
      obtain ⟨hP1, hK1, hD1⟩ := hB
      rw [ht] at hP1
      obtain ⟨hP, hD⟩ := va_join (wr := [ar (ad 3) cA 20 gRkinds_69, ar (ad 4) cA 20 gRlates_69, ar (ad 7) cA 4 gRahead_69, ar (ad 8) cA 4 gRdirect_69]) (w1 := [oRow ad xRow_depth xRow_length xRow_people_69 xRow_scarves_69 xRow_main_69 xRow_faultPlace, ar (ad 5) cA 20 u_7.1, ar (ad 6) cA 20 u_7.2]) hP hD [0, 3, 4] [1, 2, 5, 6] rfl rfl (by decide) (by decide) hk1 hFc hP1 hD1
      clear hPc hDc hFc hP1 hK1 hD1 hk1 hz1 hvm ht
      generalize H1 = H at hP hS ⊢
      have hP : va_P (dC, dI) vwCl [oRow ad xRow_depth xRow_length xRow_people_69 xRow_scarves_69 xRow_main_69 xRow_faultPlace, ar (ad 3) cA 20 gRkinds_69, ar (ad 4) cA 20 gRlates_69, ar (ad 5) cA 20 u_7.1, ar (ad 6) cA 20 u_7.2, ar (ad 7) cA 4 gRahead_69, ar (ad 8) cA 4 gRdirect_69] H := hP.sub [4, 0, 1, 5, 6, 2, 3] rfl
      have hD : va_D A [oRow ad xRow_depth xRow_length xRow_people_69 xRow_scarves_69 xRow_main_69 xRow_faultPlace, ar (ad 3) cA 20 gRkinds_69, ar (ad 4) cA 20 gRlates_69, ar (ad 5) cA 20 u_7.1, ar (ad 6) cA 20 u_7.2, ar (ad 7) cA 4 gRahead_69, ar (ad 8) cA 4 gRdirect_69] := hD.sub [4, 0, 1, 5, 6, 2, 3] (by decide) rfl
      exact b_98 _ _ _ _ _ _ _ _ _ _ hm _ _ hP hD hS _ (lv_sub hl [0, 2] rfl)
  have b_49 : ∀ (v3_49 : Int32) (v4_49 : Int32) (xRow_people_49 : Int32) (xRow_scarves_49 : Int32) (xRow_main_49 : Int32) (gRkinds_49 : Nat → Int32) (gRlates_49 : Nat → Int32) (gRhands_49 : Nat → Int32) (gRslow_49 : Nat → Int32) (gRahead_49 : Nat → Int32) (gRdirect_49 : Nat → Int32), fR_addPerson_49 v3_49 v4_49 xRow_depth xRow_people_49 xRow_scarves_49 xRow_main_49 gRkinds_49 gRlates_49 gRhands_49 gRslow_49 gRahead_49 gRdirect_49 = some u → ∀ (H : Heap) (locs : List Loc), va_P (dC, dI) vwCl [oRow ad xRow_depth xRow_length xRow_people_49 xRow_scarves_49 xRow_main_49 xRow_faultPlace, ar (ad 3) cA 20 gRkinds_49, ar (ad 4) cA 20 gRlates_49, ar (ad 5) cA 20 gRhands_49, ar (ad 6) cA 20 gRslow_49, ar (ad 7) cA 4 gRahead_49, ar (ad 8) cA 4 gRdirect_49] H → va_D A [oRow ad xRow_depth xRow_length xRow_people_49 xRow_scarves_49 xRow_main_49 xRow_faultPlace, ar (ad 3) cA 20 gRkinds_49, ar (ad 4) cA 20 gRlates_49, ar (ad 5) cA 20 gRhands_49, ar (ad 6) cA 20 gRslow_49, ar (ad 7) cA 4 gRahead_49, ar (ad 8) cA 4 gRdirect_49] → va_S A s.heap H locs → ∀ ls : Array Slot, lv_has ls 5 [(0, .ref (ad 1)), (3, .int v3_49), (4, .int v4_49)] → W p l e (headSpec wsX5_addPerson ({ frames := 1, cells := 0, slots := 0, locals := 23 })).room s m ([.ref (ad 1), .int a1, .int a2, .int a3] : List Value).toArray below meth c H locs 0 0 QQ (F0 m 49 ls []) := by
    intro v3_49 v4_49 xRow_people_49 xRow_scarves_49 xRow_main_49 gRkinds_49 gRlates_49 gRhands_49 gRslow_49 gRahead_49 gRdirect_49 hm H locs hP hD hS ls hl
    unfold fR_addPerson_49 at hm
    refine lv_aload_n hx hb dX5_addPerson_49 rfl (lv_at hl 0 rfl) ?_
    refine va_get (D := (dC, dI)) (ci := 5) (v := .int xRow_depth) (C := RX5) (T := TX5) (N := 13) hx hb hts hinX5 hown hK hP 0 rfl rfl 7 (by decide) hl_58 (fun _ h9 => h9) rfl dX5_addPerson_50 ?_
    refine lv_if_ne (tgt := 69) hx hb dX5_addPerson_53 (by decide) (fun c_8 => ?_) (fun c_8 => ?_)
    · have hm := it_neg c_8 hm
      exact b_69 _ _ _ _ _ _ _ _ _ _ _ hm _ _ hP hD hS _ (lv_sub hl [0, 1, 2] rfl)
    · have hm := it_pos c_8 hm
      refine lv_aload_n hx hb dX5_addPerson_56 rfl (lv_at hl 0 rfl) ?_
      refine lv_dup hx hb dX5_addPerson_57 rfl ?_
      refine va_get (D := (dC, dI)) (ci := 5) (v := .int xRow_main_49) (C := RX5) (T := TX5) (N := 13) hx hb hts hinX5 hown hK hP 0 rfl rfl 11 (by decide) hl_61 (fun _ h9 => h9) rfl dX5_addPerson_58 ?_
      refine lv_iconst (v := 1) hx hb dX5_addPerson_61 (by decide) ?_
      refine lv_iload hx hb dX5_addPerson_62 (lv_at hl 2 rfl) ?_
      refine lv_ishl hx hb dX5_addPerson_64 ?_
      refine lv_ior hx hb dX5_addPerson_65 ?_
      refine va_put (D := (dC, dI)) (ci := 5) (v := .int (xRow_main_49 ||| (1 <<< (v4_49 &&& 31)))) (ty := .int) (C := RX5) (T := TX5) (N := 13) hx hb hts hinX5 tyX5 tyX5_ok nmX5 hown hK hP hD hS 0 rfl rfl 11 (by decide) hl_61 (fun _ h9 => h9) rfl (by decide +kernel) rfl rfl (Nat.le_of_ble_eq_true rfl) dX5_addPerson_66 (fun H locs hP hD hS => ?_)
      have hP : va_P (dC, dI) vwCl [oRow ad xRow_depth xRow_length xRow_people_49 xRow_scarves_49 (xRow_main_49 ||| (1 <<< (v4_49 &&& 31))) xRow_faultPlace, ar (ad 3) cA 20 gRkinds_49, ar (ad 4) cA 20 gRlates_49, ar (ad 5) cA 20 gRhands_49, ar (ad 6) cA 20 gRslow_49, ar (ad 7) cA 4 gRahead_49, ar (ad 8) cA 4 gRdirect_49] H := hP
      have hD : va_D A [oRow ad xRow_depth xRow_length xRow_people_49 xRow_scarves_49 (xRow_main_49 ||| (1 <<< (v4_49 &&& 31))) xRow_faultPlace, ar (ad 3) cA 20 gRkinds_49, ar (ad 4) cA 20 gRlates_49, ar (ad 5) cA 20 gRhands_49, ar (ad 6) cA 20 gRslow_49, ar (ad 7) cA 4 gRahead_49, ar (ad 8) cA 4 gRdirect_49] := hD
      exact b_69 _ _ _ _ _ _ _ _ _ _ _ hm _ _ hP hD hS _ (lv_sub hl [0, 1, 2] rfl)
  unfold fR_addPerson at hm
  refine lv_aload_n hx hb dX5_addPerson_0 rfl (lv_at hl 0 rfl) ?_
  refine va_get (D := (dC, dI)) (ci := 5) (v := .int xRow_people) (C := RX5) (T := TX5) (N := 13) hx hb hts hinX5 hown hK hP 0 rfl rfl 9 (by decide) hl_43 (fun _ h9 => h9) rfl dX5_addPerson_1 ?_
  refine lv_istore (lv' := [(4, .int xRow_people), (0, .ref (ad 1)), (1, .int a1), (2, .int a2), (3, .int a3)]) hx hb dX5_addPerson_4 hl (by decide) rfl (fun ls hl => ?_)
  refine lv_aload_n hx hb dX5_addPerson_6 rfl (lv_at hl 1 rfl) ?_
  refine lv_dup hx hb dX5_addPerson_7 rfl ?_
  refine va_get (D := (dC, dI)) (ci := 5) (v := .int xRow_people) (C := RX5) (T := TX5) (N := 13) hx hb hts hinX5 hown hK hP 0 rfl rfl 9 (by decide) hl_43 (fun _ h9 => h9) rfl dX5_addPerson_8 ?_
  refine lv_iconst (v := 1) hx hb dX5_addPerson_11 (by decide) ?_
  refine lv_iadd hx hb dX5_addPerson_12 ?_
  refine va_put (D := (dC, dI)) (ci := 5) (v := .int (xRow_people + 1)) (ty := .int) (C := RX5) (T := TX5) (N := 13) hx hb hts hinX5 tyX5 tyX5_ok nmX5 hown hK hP hD hS 0 rfl rfl 9 (by decide) hl_43 (fun _ h9 => h9) rfl (by decide +kernel) rfl rfl (Nat.le_of_ble_eq_true rfl) dX5_addPerson_13 (fun H locs hP hD hS => ?_)
  have hP : va_P (dC, dI) vwCl [oRow ad xRow_depth xRow_length (xRow_people + 1) xRow_scarves xRow_main xRow_faultPlace, ar (ad 3) cA 20 gRkinds, ar (ad 4) cA 20 gRlates, ar (ad 5) cA 20 gRhands, ar (ad 6) cA 20 gRslow, ar (ad 7) cA 4 gRahead, ar (ad 8) cA 4 gRdirect] H := hP
  have hD : va_D A [oRow ad xRow_depth xRow_length (xRow_people + 1) xRow_scarves xRow_main xRow_faultPlace, ar (ad 3) cA 20 gRkinds, ar (ad 4) cA 20 gRlates, ar (ad 5) cA 20 gRhands, ar (ad 6) cA 20 gRslow, ar (ad 7) cA 4 gRahead, ar (ad 8) cA 4 gRdirect] := hD
  refine lv_aload_n hx hb dX5_addPerson_16 rfl (lv_at hl 1 rfl) ?_
  refine va_get (D := (dC, dI)) (ci := 5) (v := .ref (ad 3)) (C := RX5) (T := TX5) (N := 13) hx hb hts hinX5 hown hK hP 0 rfl rfl 1 (by decide) hl_15 (fun _ h9 => h9) rfl dX5_addPerson_17 ?_
  refine lv_iload hx hb dX5_addPerson_20 (lv_at hl 0 rfl) ?_
  refine lv_iload_n hx hb dX5_addPerson_22 rfl (lv_at hl 2 rfl) ?_
  obtain ⟨i_9, hm⟩ := ck_ok hm
  refine va_iast hx hb hK hP hD hS 1 0 rfl rfl i_9 dX5_addPerson_23 (fun H locs hP hD hS => ?_)
  have hP : va_P (dC, dI) vwCl [oRow ad xRow_depth xRow_length (xRow_people + 1) xRow_scarves xRow_main xRow_faultPlace, ar (ad 3) cA 20 (upd gRkinds xRow_people.toNatClampNeg a1), ar (ad 4) cA 20 gRlates, ar (ad 5) cA 20 gRhands, ar (ad 6) cA 20 gRslow, ar (ad 7) cA 4 gRahead, ar (ad 8) cA 4 gRdirect] H := hP
  have hD : va_D A [oRow ad xRow_depth xRow_length (xRow_people + 1) xRow_scarves xRow_main xRow_faultPlace, ar (ad 3) cA 20 (upd gRkinds xRow_people.toNatClampNeg a1), ar (ad 4) cA 20 gRlates, ar (ad 5) cA 20 gRhands, ar (ad 6) cA 20 gRslow, ar (ad 7) cA 4 gRahead, ar (ad 8) cA 4 gRdirect] := hD
  refine lv_aload_n hx hb dX5_addPerson_24 rfl (lv_at hl 1 rfl) ?_
  refine va_get (D := (dC, dI)) (ci := 5) (v := .ref (ad 4)) (C := RX5) (T := TX5) (N := 13) hx hb hts hinX5 hown hK hP 0 rfl rfl 2 (by decide) hl_18 (fun _ h9 => h9) rfl dX5_addPerson_25 ?_
  refine lv_iload hx hb dX5_addPerson_28 (lv_at hl 0 rfl) ?_
  refine lv_iload_n hx hb dX5_addPerson_30 rfl (lv_at hl 3 rfl) ?_
  obtain ⟨i_10, hm⟩ := ck_ok hm
  refine va_iast hx hb hK hP hD hS 2 0 rfl rfl i_10 dX5_addPerson_31 (fun H locs hP hD hS => ?_)
  have hP : va_P (dC, dI) vwCl [oRow ad xRow_depth xRow_length (xRow_people + 1) xRow_scarves xRow_main xRow_faultPlace, ar (ad 3) cA 20 (upd gRkinds xRow_people.toNatClampNeg a1), ar (ad 4) cA 20 (upd gRlates xRow_people.toNatClampNeg a2), ar (ad 5) cA 20 gRhands, ar (ad 6) cA 20 gRslow, ar (ad 7) cA 4 gRahead, ar (ad 8) cA 4 gRdirect] H := hP
  have hD : va_D A [oRow ad xRow_depth xRow_length (xRow_people + 1) xRow_scarves xRow_main xRow_faultPlace, ar (ad 3) cA 20 (upd gRkinds xRow_people.toNatClampNeg a1), ar (ad 4) cA 20 (upd gRlates xRow_people.toNatClampNeg a2), ar (ad 5) cA 20 gRhands, ar (ad 6) cA 20 gRslow, ar (ad 7) cA 4 gRahead, ar (ad 8) cA 4 gRdirect] := hD
  refine lv_iload_n hx hb dX5_addPerson_32 rfl (lv_at hl 4 rfl) ?_
  refine lv_if_eq (tgt := 49) hx hb dX5_addPerson_33 (by decide) (fun c_11 => ?_) (fun c_11 => ?_)
  · have hm := it_pos c_11 hm
    exact b_49 _ _ _ _ _ _ _ _ _ _ _ hm _ _ hP hD hS _ (lv_sub hl [1, 4, 0] rfl)
  · have hm := it_neg c_11 hm
    refine lv_aload_n hx hb dX5_addPerson_36 rfl (lv_at hl 1 rfl) ?_
    refine lv_dup hx hb dX5_addPerson_37 rfl ?_
    refine va_get (D := (dC, dI)) (ci := 5) (v := .int xRow_scarves) (C := RX5) (T := TX5) (N := 13) hx hb hts hinX5 hown hK hP 0 rfl rfl 10 (by decide) hl_70 (fun _ h9 => h9) rfl dX5_addPerson_38 ?_
    refine lv_iconst (v := 1) hx hb dX5_addPerson_41 (by decide) ?_
    refine lv_iload hx hb dX5_addPerson_42 (lv_at hl 0 rfl) ?_
    refine lv_ishl hx hb dX5_addPerson_44 ?_
    refine lv_ior hx hb dX5_addPerson_45 ?_
    refine va_put (D := (dC, dI)) (ci := 5) (v := .int (xRow_scarves ||| (1 <<< (xRow_people &&& 31)))) (ty := .int) (C := RX5) (T := TX5) (N := 13) hx hb hts hinX5 tyX5 tyX5_ok nmX5 hown hK hP hD hS 0 rfl rfl 10 (by decide) hl_70 (fun _ h9 => h9) rfl (by decide +kernel) rfl rfl (Nat.le_of_ble_eq_true rfl) dX5_addPerson_46 (fun H locs hP hD hS => ?_)
    have hP : va_P (dC, dI) vwCl [oRow ad xRow_depth xRow_length (xRow_people + 1) (xRow_scarves ||| (1 <<< (xRow_people &&& 31))) xRow_main xRow_faultPlace, ar (ad 3) cA 20 (upd gRkinds xRow_people.toNatClampNeg a1), ar (ad 4) cA 20 (upd gRlates xRow_people.toNatClampNeg a2), ar (ad 5) cA 20 gRhands, ar (ad 6) cA 20 gRslow, ar (ad 7) cA 4 gRahead, ar (ad 8) cA 4 gRdirect] H := hP
    have hD : va_D A [oRow ad xRow_depth xRow_length (xRow_people + 1) (xRow_scarves ||| (1 <<< (xRow_people &&& 31))) xRow_main xRow_faultPlace, ar (ad 3) cA 20 (upd gRkinds xRow_people.toNatClampNeg a1), ar (ad 4) cA 20 (upd gRlates xRow_people.toNatClampNeg a2), ar (ad 5) cA 20 gRhands, ar (ad 6) cA 20 gRslow, ar (ad 7) cA 4 gRahead, ar (ad 8) cA 4 gRdirect] := hD
    exact b_49 _ _ _ _ _ _ _ _ _ _ _ hm _ _ hP hD hS _ (lv_sub hl [1, 4, 0] rfl)

set_option maxHeartbeats 4000000 in
set_option maxRecDepth 100000 in
theorem kR_kindOf (l : Launch) (dC : Nat → ClassId) (dI : Nat → Nat → Nat) (cA : ClassId) (ad : Nat → Nat) (sz : Nat) (a0 : Int32) (u : Int32) (hm : fR_kindOf a0 = some u) : Met l yX5_kindOf wsX5_kindOf ({ frames := 0, cells := 0, slots := 0, locals := 0 }) (va_Pc [.int a0] (fun U => U.heap.size = sz ∧ va_P (dC, dI) vwCl [] U.heap ∧ va_K (dC, dI) vwCl [(cA, .int)] U ∧ va_D (fun _ => True) [])) (va_Qi (fun (r : Int32) (_ : Unit) => r = u) (fun (_ : Unit) t => va_P (dC, dI) vwCl [] t.heap ∧ va_K (dC, dI) vwCl [(cA, .int)] t ∧ va_D (va_A [] sz) []) (va_A [] sz)) 0 0 (va_A [] sz) := by
  refine Met.ofW (cc := cX5_kindOf) (maxL := 1) (ret := (some .int)) (by decide) rfl ?_
  intro p e s m args below meth c s₁ B hml hv
  obtain ⟨rfl, hsz, hP, hK, hD0⟩ := hv
  have hx := B.exec
  have hb := B.bytes
  have hr := B.returns
  have hts := atoms_spec (ws := wsX5_kindOf) B.pre
  have hown : s.vm.findClass RX5 = some m.cls := findClass_of_methodNamed B.named
  have hlocks := B.notSynchronized
  subst hsz
  have hD := hD0.self (sz := s.heap.size)
  generalize hAe : va_A [] s.heap.size = A at hD ⊢
  have hA : ∀ q : Nat, s.heap.size ≤ q → A q := fun q h => by rw [← hAe]; exact Or.inr h
  have hS : va_S A s.heap s.heap [] := va_S.rf
  have hl := lv_entry ([.int a0]) (n := 1) (Nat.le_of_ble_eq_true rfl)
  rw [lg_entry_eq]
  generalize (lg_sl ([.int a0]) ++ List.replicate (1 - (lg_sl ([.int a0])).length) Slot.unset).toArray = ls at hl ⊢
  have hl : lv_has ls 1 [(0, .int a0)] := hl
  refine wk_Q (fun QQ hQ => ?_)
  unfold fR_kindOf at hm
  refine lv_iload_n hx hb dX5_kindOf_0 rfl (lv_at hl 0 rfl) ?_
  by_cases s_1_0 : a0 = 99
  · have hm := it_pos s_1_0 hm
    refine lv_lookup (tgt := 48) (off := 47) hx hb dX5_kindOf_1 (by decide) (by rw [s_1_0]; decide) (by decide) ?_
    refine lv_iconst (v := 2) hx hb dX5_kindOf_48 (by decide) ?_
    obtain rfl := Option.some.inj hm
    subst hQ
    exact W.iret (v := 2) hx hb hr (fun t ht hW => ⟨⟨_, (), rfl, rfl, by rw [ht]; exact hP, va_K.moved hW.alike hK, hAe ▸ hD⟩, hS.F ht⟩) hS.2.2 dX5_kindOf_49
  · have hm := it_neg s_1_0 hm
    by_cases s_1_1 : a0 = 100
    · have hm := it_pos s_1_1 hm
      refine lv_lookup (tgt := 50) (off := 49) hx hb dX5_kindOf_1 (by decide) (by rw [s_1_1]; decide) (by decide) ?_
      refine lv_iconst (v := 3) hx hb dX5_kindOf_50 (by decide) ?_
      obtain rfl := Option.some.inj hm
      subst hQ
      exact W.iret (v := 3) hx hb hr (fun t ht hW => ⟨⟨_, (), rfl, rfl, by rw [ht]; exact hP, va_K.moved hW.alike hK, hAe ▸ hD⟩, hS.F ht⟩) hS.2.2 dX5_kindOf_51
    · have hm := it_neg s_1_1 hm
      by_cases s_1_2 : a0 = 112
      · have hm := it_pos s_1_2 hm
        refine lv_lookup (tgt := 44) (off := 43) hx hb dX5_kindOf_1 (by decide) (by rw [s_1_2]; decide) (by decide) ?_
        refine lv_iconst (v := 0) hx hb dX5_kindOf_44 (by decide) ?_
        obtain rfl := Option.some.inj hm
        subst hQ
        exact W.iret (v := 0) hx hb hr (fun t ht hW => ⟨⟨_, (), rfl, rfl, by rw [ht]; exact hP, va_K.moved hW.alike hK, hAe ▸ hD⟩, hS.F ht⟩) hS.2.2 dX5_kindOf_45
      · have hm := it_neg s_1_2 hm
        by_cases s_1_3 : a0 = 116
        · have hm := it_pos s_1_3 hm
          refine lv_lookup (tgt := 46) (off := 45) hx hb dX5_kindOf_1 (by decide) (by rw [s_1_3]; decide) (by decide) ?_
          refine lv_iconst (v := 1) hx hb dX5_kindOf_46 (by decide) ?_
          obtain rfl := Option.some.inj hm
          subst hQ
          exact W.iret (v := 1) hx hb hr (fun t ht hW => ⟨⟨_, (), rfl, rfl, by rw [ht]; exact hP, va_K.moved hW.alike hK, hAe ▸ hD⟩, hS.F ht⟩) hS.2.2 dX5_kindOf_47
        · have hm := it_neg s_1_3 hm
          refine lv_lookup (tgt := 52) (off := 51) hx hb dX5_kindOf_1 (by decide) (by show Op.lookupswitch.offset [((99 : Int), (47 : Int)), ((100 : Int), (49 : Int)), ((112 : Int), (43 : Int)), ((116 : Int), (45 : Int))] (51) _ = (51); rw [lv_osw (a := 99) s_1_0 rfl, lv_osw (a := 100) s_1_1 rfl, lv_osw (a := 112) s_1_2 rfl, lv_osw (a := 116) s_1_3 rfl]; rfl) (by decide) ?_
          refine lv_iconst (v := (-1)) hx hb dX5_kindOf_52 (by decide) ?_
          obtain rfl := Option.some.inj hm
          subst hQ
          exact W.iret (v := (-1)) hx hb hr (fun t ht hW => ⟨⟨_, (), rfl, rfl, by rw [ht]; exact hP, va_K.moved hW.alike hK, hAe ▸ hD⟩, hS.F ht⟩) hS.2.2 dX5_kindOf_53

set_option maxHeartbeats 4000000 in
set_option maxRecDepth 100000 in
theorem kR_readPerson (l : Launch) (dC : Nat → ClassId) (dI : Nat → Nat → Nat) (cA : ClassId) (ad : Nat → Nat) (sz : Nat) (a1 : Int32) (xRow_depth : Int32) (xRow_length : Int32) (xRow_people : Int32) (xRow_scarves : Int32) (xRow_main : Int32) (xRow_faultPlace : Int32) (gRtext : Nat → Int32) (gRkinds : Nat → Int32) (gRlates : Nat → Int32) (gRhands : Nat → Int32) (gRslow : Nat → Int32) (gRahead : Nat → Int32) (gRdirect : Nat → Int32) (u : Int32 × Int32 × Int32 × Int32 × Int32 × (Nat → Int32) × (Nat → Int32) × (Nat → Int32) × (Nat → Int32) × (Nat → Int32) × (Nat → Int32)) (hm : fR_readPerson a1 xRow_depth xRow_length xRow_people xRow_scarves xRow_main xRow_faultPlace gRtext gRkinds gRlates gRhands gRslow gRahead gRdirect = some u) : Met l yX5_readPerson wsX5_readPerson ({ frames := 2, cells := 0, slots := 0, locals := 47 }) (va_Pc [.ref (ad 1), .int a1] (fun U => U.heap.size = sz ∧ va_P (dC, dI) vwCl [oRow ad xRow_depth xRow_length xRow_people xRow_scarves xRow_main xRow_faultPlace, ar (ad 2) cA 60 gRtext, ar (ad 3) cA 20 gRkinds, ar (ad 4) cA 20 gRlates, ar (ad 5) cA 20 gRhands, ar (ad 6) cA 20 gRslow, ar (ad 7) cA 4 gRahead, ar (ad 8) cA 4 gRdirect] U.heap ∧ va_K (dC, dI) vwCl [(cA, .int)] U ∧ va_D (fun _ => True) [oRow ad xRow_depth xRow_length xRow_people xRow_scarves xRow_main xRow_faultPlace, ar (ad 2) cA 60 gRtext, ar (ad 3) cA 20 gRkinds, ar (ad 4) cA 20 gRlates, ar (ad 5) cA 20 gRhands, ar (ad 6) cA 20 gRslow, ar (ad 7) cA 4 gRahead, ar (ad 8) cA 4 gRdirect])) (va_Qi (fun (r : Int32) (_ : Unit) => r = u.1) (fun (_ : Unit) t => va_P (dC, dI) vwCl [oRow ad xRow_depth xRow_length u.2.1 u.2.2.1 u.2.2.2.1 u.2.2.2.2.1, ar (ad 2) cA 60 gRtext, ar (ad 3) cA 20 u.2.2.2.2.2.1, ar (ad 4) cA 20 u.2.2.2.2.2.2.1, ar (ad 5) cA 20 u.2.2.2.2.2.2.2.1, ar (ad 6) cA 20 u.2.2.2.2.2.2.2.2.1, ar (ad 7) cA 4 u.2.2.2.2.2.2.2.2.2.1, ar (ad 8) cA 4 u.2.2.2.2.2.2.2.2.2.2] t.heap ∧ va_K (dC, dI) vwCl [(cA, .int)] t ∧ va_D (va_A [oRow ad xRow_depth xRow_length xRow_people xRow_scarves xRow_main xRow_faultPlace, ar (ad 2) cA 60 gRtext, ar (ad 3) cA 20 gRkinds, ar (ad 4) cA 20 gRlates, ar (ad 5) cA 20 gRhands, ar (ad 6) cA 20 gRslow, ar (ad 7) cA 4 gRahead, ar (ad 8) cA 4 gRdirect] sz) [oRow ad xRow_depth xRow_length u.2.1 u.2.2.1 u.2.2.2.1 u.2.2.2.2.1, ar (ad 2) cA 60 gRtext, ar (ad 3) cA 20 u.2.2.2.2.2.1, ar (ad 4) cA 20 u.2.2.2.2.2.2.1, ar (ad 5) cA 20 u.2.2.2.2.2.2.2.1, ar (ad 6) cA 20 u.2.2.2.2.2.2.2.2.1, ar (ad 7) cA 4 u.2.2.2.2.2.2.2.2.2.1, ar (ad 8) cA 4 u.2.2.2.2.2.2.2.2.2.2]) (va_A [oRow ad xRow_depth xRow_length xRow_people xRow_scarves xRow_main xRow_faultPlace, ar (ad 2) cA 60 gRtext, ar (ad 3) cA 20 gRkinds, ar (ad 4) cA 20 gRlates, ar (ad 5) cA 20 gRhands, ar (ad 6) cA 20 gRslow, ar (ad 7) cA 4 gRahead, ar (ad 8) cA 4 gRdirect] sz)) 0 0 (va_A [oRow ad xRow_depth xRow_length xRow_people xRow_scarves xRow_main xRow_faultPlace, ar (ad 2) cA 60 gRtext, ar (ad 3) cA 20 gRkinds, ar (ad 4) cA 20 gRlates, ar (ad 5) cA 20 gRhands, ar (ad 6) cA 20 gRslow, ar (ad 7) cA 4 gRahead, ar (ad 8) cA 4 gRdirect] sz) := by
  refine Met.ofW (cc := cX5_readPerson) (maxL := 6) (ret := (some .int)) (by decide) rfl ?_
  intro p e s m args below meth c s₁ B hml hv
  obtain ⟨rfl, hsz, hP, hK, hD0⟩ := hv
  have hx := B.exec
  have hb := B.bytes
  have hr := B.returns
  have hts := atoms_spec (ws := wsX5_readPerson) B.pre
  have hown : s.vm.findClass RX5 = some m.cls := findClass_of_methodNamed B.named
  have hlocks := B.notSynchronized
  subst hsz
  have hD := hD0.self (sz := s.heap.size)
  generalize hAe : va_A [oRow ad xRow_depth xRow_length xRow_people xRow_scarves xRow_main xRow_faultPlace, ar (ad 2) cA 60 gRtext, ar (ad 3) cA 20 gRkinds, ar (ad 4) cA 20 gRlates, ar (ad 5) cA 20 gRhands, ar (ad 6) cA 20 gRslow, ar (ad 7) cA 4 gRahead, ar (ad 8) cA 4 gRdirect] s.heap.size = A at hD ⊢
  have hA : ∀ q : Nat, s.heap.size ≤ q → A q := fun q h => by rw [← hAe]; exact Or.inr h
  have hS : va_S A s.heap s.heap [] := va_S.rf
  have hl := lv_entry ([.ref (ad 1), .int a1]) (n := 6) (Nat.le_of_ble_eq_true rfl)
  rw [lg_entry_eq]
  generalize (lg_sl ([.ref (ad 1), .int a1]) ++ List.replicate (6 - (lg_sl ([.ref (ad 1), .int a1])).length) Slot.unset).toArray = ls at hl ⊢
  have hl : lv_has ls 6 [(0, .ref (ad 1)), (1, .int a1)] := hl
  refine wk_Q (fun QQ hQ => ?_)
  have hinX5 : ∀ w ∈ wsX50, w ∈ wsX5_readPerson := fun w h => List.mem_cons_of_mem _ (inlX5 w h)
  have hl_37 := hts (.fieldLink RX5 37 "HandCensus$Row" "length" "I") (List.mem_cons_of_mem _ (in_r8 _ (List.mem_of_getElem? (i := 12) rfl)))
  have hl_11 := hts (.fieldLink RX5 11 "HandCensus$Row" "text" "[I") (List.mem_cons_of_mem _ (in_r3 _ (List.mem_of_getElem? (i := 8) rfl)))
  have hl_43 := hts (.fieldLink RX5 43 "HandCensus$Row" "people" "I") (List.mem_cons_of_mem _ (in_r8 _ (List.mem_of_getElem? (i := 18) rfl)))
  have b_118 : ∀ (v3_118 : Int32) (xRow_people_118 : Int32) (xRow_scarves_118 : Int32) (xRow_main_118 : Int32) (xRow_faultPlace_118 : Int32) (gRkinds_118 : Nat → Int32) (gRlates_118 : Nat → Int32) (gRhands_118 : Nat → Int32) (gRslow_118 : Nat → Int32) (gRahead_118 : Nat → Int32) (gRdirect_118 : Nat → Int32), fR_readPerson_118 v3_118 xRow_people_118 xRow_scarves_118 xRow_main_118 xRow_faultPlace_118 gRkinds_118 gRlates_118 gRhands_118 gRslow_118 gRahead_118 gRdirect_118 = some u → ∀ (H : Heap) (locs : List Loc), va_P (dC, dI) vwCl [oRow ad xRow_depth xRow_length xRow_people_118 xRow_scarves_118 xRow_main_118 xRow_faultPlace_118, ar (ad 2) cA 60 gRtext, ar (ad 3) cA 20 gRkinds_118, ar (ad 4) cA 20 gRlates_118, ar (ad 5) cA 20 gRhands_118, ar (ad 6) cA 20 gRslow_118, ar (ad 7) cA 4 gRahead_118, ar (ad 8) cA 4 gRdirect_118] H → va_D A [oRow ad xRow_depth xRow_length xRow_people_118 xRow_scarves_118 xRow_main_118 xRow_faultPlace_118, ar (ad 2) cA 60 gRtext, ar (ad 3) cA 20 gRkinds_118, ar (ad 4) cA 20 gRlates_118, ar (ad 5) cA 20 gRhands_118, ar (ad 6) cA 20 gRslow_118, ar (ad 7) cA 4 gRahead_118, ar (ad 8) cA 4 gRdirect_118] → va_S A s.heap H locs → ∀ ls : Array Slot, lv_has ls 6 [(0, .ref (ad 1)), (3, .int v3_118)] → W p l e (headSpec wsX5_readPerson ({ frames := 2, cells := 0, slots := 0, locals := 47 })).room s m ([.ref (ad 1), .int a1] : List Value).toArray below meth c H locs 0 0 QQ (F0 m 118 ls []) := by
    intro v3_118 xRow_people_118 xRow_scarves_118 xRow_main_118 xRow_faultPlace_118 gRkinds_118 gRlates_118 gRhands_118 gRslow_118 gRahead_118 gRdirect_118 hm H locs hP hD hS ls hl
    unfold fR_readPerson_118 at hm
    refine lv_aload_n hx hb dX5_readPerson_118 rfl (lv_at hl 0 rfl) ?_
    refine lv_iload_n hx hb dX5_readPerson_119 rfl (lv_at hl 1 rfl) ?_
    have hPc := hP.sub (ws' := [oRow ad xRow_depth xRow_length xRow_people_118 xRow_scarves_118 xRow_main_118 xRow_faultPlace_118]) [0] rfl
    have hDc := hD.sub (ws' := [oRow ad xRow_depth xRow_length xRow_people_118 xRow_scarves_118 xRow_main_118 xRow_faultPlace_118]) [0] (by decide) rfl
    have hFc := va_free (wc := [oRow ad xRow_depth xRow_length xRow_people_118 xRow_scarves_118 xRow_main_118 xRow_faultPlace_118]) hD hS hA [0] rfl
    obtain ⟨u_1, hc_1, hm⟩ := bd_ok hm
    refine va_calli (va_runV (As := [.int v3_118]) (rest := []) ⟨hx, hb, hml, hown, hts⟩ (kR_stopAt l dC dI cA ad H.size v3_118 xRow_depth xRow_length xRow_people_118 xRow_scarves_118 xRow_main_118 xRow_faultPlace_118 u_1 hc_1) (cwV 1 hts gX5_readPerson_X5_stopAt rfl rfl rfl (by decide +kernel) ⟨Nat.le_of_ble_eq_true rfl, Nat.le_of_ble_eq_true rfl⟩) ⟨fun a U g mk q => by obtain ⟨q0, q1, qP, qK, qD⟩ := q; exact ⟨q0, q1, qP, va_K.moved (u := U) (U := U.calling g mk a) (Vm.Alike.refl U.vm) qK, qD⟩, va_recv hK hPc (ci := 5) (q0 := 0) rfl rfl, fun U hU hW => ⟨rfl, by rw [hU], by rw [hU]; exact hPc, va_K.moved hW.alike hK, hDc.weaken (fun _ _ _ _ => trivial)⟩⟩ rfl rfl hl.1 rfl (lv_room (Nat.le_of_ble_eq_true rfl)) dX5_readPerson_120 ⟨Nat.le_of_ble_eq_true rfl, Nat.le_of_ble_eq_true rfl⟩) hS (fun q _ h => hFc q h) hFc (fun r_1 _ t H1 locs ht hvm hw hB hz1 hk1 hS => ?_)
    obtain ⟨hP1, hK1, hD1⟩ := hB
    rw [ht] at hP1
    obtain ⟨hP, hD⟩ := va_join (wr := [ar (ad 2) cA 60 gRtext, ar (ad 3) cA 20 gRkinds_118, ar (ad 4) cA 20 gRlates_118, ar (ad 5) cA 20 gRhands_118, ar (ad 6) cA 20 gRslow_118, ar (ad 7) cA 4 gRahead_118, ar (ad 8) cA 4 gRdirect_118]) (w1 := [oRow ad xRow_depth xRow_length xRow_people_118 xRow_scarves_118 xRow_main_118 u_1.2]) hP hD [0] [1, 2, 3, 4, 5, 6, 7] rfl rfl (by decide) (by decide) hk1 hFc hP1 hD1
    clear hPc hDc hFc hP1 hK1 hD1 hk1 hz1 hvm ht
    generalize H1 = H at hP hS ⊢
    have hP : va_P (dC, dI) vwCl [oRow ad xRow_depth xRow_length xRow_people_118 xRow_scarves_118 xRow_main_118 u_1.2, ar (ad 2) cA 60 gRtext, ar (ad 3) cA 20 gRkinds_118, ar (ad 4) cA 20 gRlates_118, ar (ad 5) cA 20 gRhands_118, ar (ad 6) cA 20 gRslow_118, ar (ad 7) cA 4 gRahead_118, ar (ad 8) cA 4 gRdirect_118] H := hP.sub [7, 0, 1, 2, 3, 4, 5, 6] rfl
    have hD : va_D A [oRow ad xRow_depth xRow_length xRow_people_118 xRow_scarves_118 xRow_main_118 u_1.2, ar (ad 2) cA 60 gRtext, ar (ad 3) cA 20 gRkinds_118, ar (ad 4) cA 20 gRlates_118, ar (ad 5) cA 20 gRhands_118, ar (ad 6) cA 20 gRslow_118, ar (ad 7) cA 4 gRahead_118, ar (ad 8) cA 4 gRdirect_118] := hD.sub [7, 0, 1, 2, 3, 4, 5, 6] (by decide) rfl
    have hw := hw.symm
    subst hw
    obtain rfl := Option.some.inj hm
    subst hQ
    exact W.iret (v := u_1.1) hx hb hr (fun t ht hW => ⟨⟨_, (), rfl, rfl, by rw [ht]; exact hP, va_K.moved hW.alike hK, hAe ▸ hD⟩, hS.F ht⟩) hS.2.2 dX5_readPerson_123
  have b_103 : ∀ (v2_103 : Int32) (v3_103 : Int32) (v4_103 : Int32) (s0_103 : Int32) (xRow_people_103 : Int32) (xRow_scarves_103 : Int32) (xRow_main_103 : Int32) (xRow_faultPlace_103 : Int32) (gRkinds_103 : Nat → Int32) (gRlates_103 : Nat → Int32) (gRhands_103 : Nat → Int32) (gRslow_103 : Nat → Int32) (gRahead_103 : Nat → Int32) (gRdirect_103 : Nat → Int32), fR_readPerson_103 v2_103 v3_103 v4_103 s0_103 xRow_depth xRow_people_103 xRow_scarves_103 xRow_main_103 xRow_faultPlace_103 gRkinds_103 gRlates_103 gRhands_103 gRslow_103 gRahead_103 gRdirect_103 = some u → ∀ (H : Heap) (locs : List Loc), va_P (dC, dI) vwCl [oRow ad xRow_depth xRow_length xRow_people_103 xRow_scarves_103 xRow_main_103 xRow_faultPlace_103, ar (ad 2) cA 60 gRtext, ar (ad 3) cA 20 gRkinds_103, ar (ad 4) cA 20 gRlates_103, ar (ad 5) cA 20 gRhands_103, ar (ad 6) cA 20 gRslow_103, ar (ad 7) cA 4 gRahead_103, ar (ad 8) cA 4 gRdirect_103] H → va_D A [oRow ad xRow_depth xRow_length xRow_people_103 xRow_scarves_103 xRow_main_103 xRow_faultPlace_103, ar (ad 2) cA 60 gRtext, ar (ad 3) cA 20 gRkinds_103, ar (ad 4) cA 20 gRlates_103, ar (ad 5) cA 20 gRhands_103, ar (ad 6) cA 20 gRslow_103, ar (ad 7) cA 4 gRahead_103, ar (ad 8) cA 4 gRdirect_103] → va_S A s.heap H locs → ∀ ls : Array Slot, lv_has ls 6 [(0, .ref (ad 1)), (2, .int v2_103), (3, .int v3_103), (4, .int v4_103)] → W p l e (headSpec wsX5_readPerson ({ frames := 2, cells := 0, slots := 0, locals := 47 })).room s m ([.ref (ad 1), .int a1] : List Value).toArray below meth c H locs 0 0 QQ (F0 m 103 ls [.int s0_103]) := by
    intro v2_103 v3_103 v4_103 s0_103 xRow_people_103 xRow_scarves_103 xRow_main_103 xRow_faultPlace_103 gRkinds_103 gRlates_103 gRhands_103 gRslow_103 gRahead_103 gRdirect_103 hm H locs hP hD hS ls hl
    unfold fR_readPerson_103 at hm
    refine lv_istore (lv' := [(5, .int s0_103), (0, .ref (ad 1)), (2, .int v2_103), (3, .int v3_103), (4, .int v4_103)]) hx hb dX5_readPerson_103 hl (by decide) rfl (fun ls hl => ?_)
    refine lv_iload hx hb dX5_readPerson_105 (lv_at hl 0 rfl) ?_
    refine lv_iconst (v := 1) hx hb dX5_readPerson_107 (by decide) ?_
    refine lv_icmp_lt (tgt := 118) hx hb dX5_readPerson_108 (by decide) (fun c_2 => ?_) (fun c_2 => ?_)
    · have hm := it_pos c_2 hm
      exact b_118 _ _ _ _ _ _ _ _ _ _ _ hm _ _ hP hD hS _ (lv_sub hl [1, 3] rfl)
    · have hm := it_neg c_2 hm
      refine lv_iload hx hb dX5_readPerson_111 (lv_at hl 0 rfl) ?_
      refine lv_bipush (v := 9) hx hb dX5_readPerson_113 (by decide) ?_
      refine lv_icmp_le (tgt := 124) hx hb dX5_readPerson_115 (by decide) (fun c_3 => ?_) (fun c_3 => ?_)
      · have hm := it_pos c_3 hm
        refine lv_aload_n hx hb dX5_readPerson_124 rfl (lv_at hl 1 rfl) ?_
        refine lv_iload hx hb dX5_readPerson_125 (lv_at hl 4 rfl) ?_
        refine lv_iload hx hb dX5_readPerson_127 (lv_at hl 0 rfl) ?_
        refine lv_iload_n hx hb dX5_readPerson_129 rfl (lv_at hl 2 rfl) ?_
        have hPc := hP.sub (ws' := [oRow ad xRow_depth xRow_length xRow_people_103 xRow_scarves_103 xRow_main_103 xRow_faultPlace_103, ar (ad 3) cA 20 gRkinds_103, ar (ad 4) cA 20 gRlates_103, ar (ad 5) cA 20 gRhands_103, ar (ad 6) cA 20 gRslow_103, ar (ad 7) cA 4 gRahead_103, ar (ad 8) cA 4 gRdirect_103]) [0, 2, 3, 4, 5, 6, 7] rfl
        have hDc := hD.sub (ws' := [oRow ad xRow_depth xRow_length xRow_people_103 xRow_scarves_103 xRow_main_103 xRow_faultPlace_103, ar (ad 3) cA 20 gRkinds_103, ar (ad 4) cA 20 gRlates_103, ar (ad 5) cA 20 gRhands_103, ar (ad 6) cA 20 gRslow_103, ar (ad 7) cA 4 gRahead_103, ar (ad 8) cA 4 gRdirect_103]) [0, 2, 3, 4, 5, 6, 7] (by decide) rfl
        have hFc := va_free (wc := [oRow ad xRow_depth xRow_length xRow_people_103 xRow_scarves_103 xRow_main_103 xRow_faultPlace_103, ar (ad 3) cA 20 gRkinds_103, ar (ad 4) cA 20 gRlates_103, ar (ad 5) cA 20 gRhands_103, ar (ad 6) cA 20 gRslow_103, ar (ad 7) cA 4 gRahead_103, ar (ad 8) cA 4 gRdirect_103]) hD hS hA [0, 2, 3, 4, 5, 6, 7] rfl
        obtain ⟨u_4, hc_4, hm⟩ := bd_ok hm
        refine va_callv (va_runV (As := [.int v4_103, .int s0_103, .int v2_103]) (rest := []) ⟨hx, hb, hml, hown, hts⟩ (kR_addPerson l dC dI cA ad H.size v4_103 s0_103 v2_103 xRow_depth xRow_length xRow_people_103 xRow_scarves_103 xRow_main_103 xRow_faultPlace_103 gRkinds_103 gRlates_103 gRhands_103 gRslow_103 gRahead_103 gRdirect_103 u_4 hc_4) (cwV 3 hts gX5_readPerson_X5_addPerson rfl rfl rfl (by decide +kernel) ⟨Nat.le_of_ble_eq_true rfl, Nat.le_of_ble_eq_true rfl⟩) ⟨fun a U g mk q => by obtain ⟨q0, q1, qP, qK, qD⟩ := q; exact ⟨q0, q1, qP, va_K.moved (u := U) (U := U.calling g mk a) (Vm.Alike.refl U.vm) qK, qD⟩, va_recv hK hPc (ci := 5) (q0 := 0) rfl rfl, fun U hU hW => ⟨rfl, by rw [hU], by rw [hU]; exact hPc, va_K.moved hW.alike hK, hDc.weaken (fun _ _ _ _ => trivial)⟩⟩ rfl rfl hl.1 rfl (lv_room (Nat.le_of_ble_eq_true rfl)) dX5_readPerson_130 ⟨Nat.le_of_ble_eq_true rfl, Nat.le_of_ble_eq_true rfl⟩) hS (fun q _ h => hFc q h) hFc (fun _ t H1 locs ht hvm hw hB hz1 hk1 hS => ?_)
        obtain ⟨hP1, hK1, hD1⟩ := hB
        rw [ht] at hP1
        obtain ⟨hP, hD⟩ := va_join (wr := [ar (ad 2) cA 60 gRtext]) (w1 := [oRow ad xRow_depth xRow_length u_4.1 u_4.2.1 u_4.2.2.1 xRow_faultPlace_103, ar (ad 3) cA 20 u_4.2.2.2.1, ar (ad 4) cA 20 u_4.2.2.2.2.1, ar (ad 5) cA 20 u_4.2.2.2.2.2.1, ar (ad 6) cA 20 u_4.2.2.2.2.2.2.1, ar (ad 7) cA 4 u_4.2.2.2.2.2.2.2.1, ar (ad 8) cA 4 u_4.2.2.2.2.2.2.2.2]) hP hD [0, 2, 3, 4, 5, 6, 7] [1] rfl rfl (by decide) (by decide) hk1 hFc hP1 hD1
        clear hPc hDc hFc hP1 hK1 hD1 hk1 hz1 hvm ht
        generalize H1 = H at hP hS ⊢
        have hP : va_P (dC, dI) vwCl [oRow ad xRow_depth xRow_length u_4.1 u_4.2.1 u_4.2.2.1 xRow_faultPlace_103, ar (ad 2) cA 60 gRtext, ar (ad 3) cA 20 u_4.2.2.2.1, ar (ad 4) cA 20 u_4.2.2.2.2.1, ar (ad 5) cA 20 u_4.2.2.2.2.2.1, ar (ad 6) cA 20 u_4.2.2.2.2.2.2.1, ar (ad 7) cA 4 u_4.2.2.2.2.2.2.2.1, ar (ad 8) cA 4 u_4.2.2.2.2.2.2.2.2] H := hP.sub [1, 0, 2, 3, 4, 5, 6, 7] rfl
        have hD : va_D A [oRow ad xRow_depth xRow_length u_4.1 u_4.2.1 u_4.2.2.1 xRow_faultPlace_103, ar (ad 2) cA 60 gRtext, ar (ad 3) cA 20 u_4.2.2.2.1, ar (ad 4) cA 20 u_4.2.2.2.2.1, ar (ad 5) cA 20 u_4.2.2.2.2.2.1, ar (ad 6) cA 20 u_4.2.2.2.2.2.2.1, ar (ad 7) cA 4 u_4.2.2.2.2.2.2.2.1, ar (ad 8) cA 4 u_4.2.2.2.2.2.2.2.2] := hD.sub [1, 0, 2, 3, 4, 5, 6, 7] (by decide) rfl
        refine lv_iload_n hx hb dX5_readPerson_133 rfl (lv_at hl 3 rfl) ?_
        refine lv_iconst (v := 1) hx hb dX5_readPerson_134 (by decide) ?_
        refine lv_iadd hx hb dX5_readPerson_135 ?_
        obtain rfl := Option.some.inj hm
        subst hQ
        exact W.iret (v := (v3_103 + 1)) hx hb hr (fun t ht hW => ⟨⟨_, (), rfl, rfl, by rw [ht]; exact hP, va_K.moved hW.alike hK, hAe ▸ hD⟩, hS.F ht⟩) hS.2.2 dX5_readPerson_136
      · have hm := it_neg c_3 hm
        exact b_118 _ _ _ _ _ _ _ _ _ _ _ hm _ _ hP hD hS _ (lv_sub hl [1, 3] rfl)
  have b_65 : ∀ (v2_65 : Int32) (v3_65 : Int32) (s0_65 : Int32) (xRow_people_65 : Int32) (xRow_scarves_65 : Int32) (xRow_main_65 : Int32) (xRow_faultPlace_65 : Int32) (gRkinds_65 : Nat → Int32) (gRlates_65 : Nat → Int32) (gRhands_65 : Nat → Int32) (gRslow_65 : Nat → Int32) (gRahead_65 : Nat → Int32) (gRdirect_65 : Nat → Int32), fR_readPerson_65 v2_65 v3_65 s0_65 xRow_depth xRow_length xRow_people_65 xRow_scarves_65 xRow_main_65 xRow_faultPlace_65 gRtext gRkinds_65 gRlates_65 gRhands_65 gRslow_65 gRahead_65 gRdirect_65 = some u → ∀ (H : Heap) (locs : List Loc), va_P (dC, dI) vwCl [oRow ad xRow_depth xRow_length xRow_people_65 xRow_scarves_65 xRow_main_65 xRow_faultPlace_65, ar (ad 2) cA 60 gRtext, ar (ad 3) cA 20 gRkinds_65, ar (ad 4) cA 20 gRlates_65, ar (ad 5) cA 20 gRhands_65, ar (ad 6) cA 20 gRslow_65, ar (ad 7) cA 4 gRahead_65, ar (ad 8) cA 4 gRdirect_65] H → va_D A [oRow ad xRow_depth xRow_length xRow_people_65 xRow_scarves_65 xRow_main_65 xRow_faultPlace_65, ar (ad 2) cA 60 gRtext, ar (ad 3) cA 20 gRkinds_65, ar (ad 4) cA 20 gRlates_65, ar (ad 5) cA 20 gRhands_65, ar (ad 6) cA 20 gRslow_65, ar (ad 7) cA 4 gRahead_65, ar (ad 8) cA 4 gRdirect_65] → va_S A s.heap H locs → ∀ ls : Array Slot, lv_has ls 6 [(0, .ref (ad 1)), (2, .int v2_65), (3, .int v3_65)] → W p l e (headSpec wsX5_readPerson ({ frames := 2, cells := 0, slots := 0, locals := 47 })).room s m ([.ref (ad 1), .int a1] : List Value).toArray below meth c H locs 0 0 QQ (F0 m 65 ls [.int s0_65]) := by
    intro v2_65 v3_65 s0_65 xRow_people_65 xRow_scarves_65 xRow_main_65 xRow_faultPlace_65 gRkinds_65 gRlates_65 gRhands_65 gRslow_65 gRahead_65 gRdirect_65 hm H locs hP hD hS ls hl
    unfold fR_readPerson_65 at hm
    refine lv_istore (lv' := [(4, .int s0_65), (0, .ref (ad 1)), (2, .int v2_65), (3, .int v3_65)]) hx hb dX5_readPerson_65 hl (by decide) rfl (fun ls hl => ?_)
    refine lv_iload hx hb dX5_readPerson_67 (lv_at hl 0 rfl) ?_
    refine lv_iconst (v := (-1)) hx hb dX5_readPerson_69 (by decide) ?_
    refine lv_icmp_ne (tgt := 79) hx hb dX5_readPerson_70 (by decide) (fun c_5 => ?_) (fun c_5 => ?_)
    · have hm := it_neg c_5 hm
      refine lv_iinc (v := (v3_65 + 1)) (lv' := [(3, .int (v3_65 + 1)), (4, .int s0_65), (0, .ref (ad 1)), (2, .int v2_65)]) hx hb dX5_readPerson_79 hl (k := 3) rfl rfl (by decide) rfl (fun ls hl => ?_)
      refine lv_iload_n hx hb dX5_readPerson_82 rfl (lv_at hl 0 rfl) ?_
      refine lv_aload_n hx hb dX5_readPerson_83 rfl (lv_at hl 2 rfl) ?_
      refine va_get (D := (dC, dI)) (ci := 5) (v := .int xRow_length) (C := RX5) (T := TX5) (N := 13) hx hb hts hinX5 hown hK hP 0 rfl rfl 8 (by decide) hl_37 (fun _ h9 => h9) rfl dX5_readPerson_84 ?_
      refine lv_icmp_ge (tgt := 102) hx hb dX5_readPerson_87 (by decide) (fun c_6 => ?_) (fun c_6 => ?_)
      · have hm := it_pos c_6 hm
        refine lv_iconst (v := 0) hx hb dX5_readPerson_102 (by decide) ?_
        exact b_103 _ _ _ _ _ _ _ _ _ _ _ _ _ _ hm _ _ hP hD hS _ (lv_sub hl [2, 3, 0, 1] rfl)
      · have hm := it_neg c_6 hm
        refine lv_aload_n hx hb dX5_readPerson_90 rfl (lv_at hl 2 rfl) ?_
        refine va_get (D := (dC, dI)) (ci := 5) (v := .ref (ad 2)) (C := RX5) (T := TX5) (N := 13) hx hb hts hinX5 hown hK hP 0 rfl rfl 0 (by decide) hl_11 (fun _ h9 => h9) rfl dX5_readPerson_91 ?_
        refine lv_iload_n hx hb dX5_readPerson_94 rfl (lv_at hl 0 rfl) ?_
        obtain ⟨i_7, hm⟩ := ck_ok hm
        refine va_iald hx hb hK hP 1 0 rfl rfl i_7 dX5_readPerson_95 ?_
        refine lv_bipush (v := 48) hx hb dX5_readPerson_96 (by decide) ?_
        refine lv_isub hx hb dX5_readPerson_98 ?_
        refine lv_goto (tgt := 103) hx hb dX5_readPerson_99 (by decide) ?_
        exact b_103 _ _ _ _ _ _ _ _ _ _ _ _ _ _ hm _ _ hP hD hS _ (lv_sub hl [2, 3, 0, 1] rfl)
    · have hm := it_pos c_5 hm
      refine lv_aload_n hx hb dX5_readPerson_73 rfl (lv_at hl 1 rfl) ?_
      refine lv_iload_n hx hb dX5_readPerson_74 rfl (lv_at hl 3 rfl) ?_
      have hPc := hP.sub (ws' := [oRow ad xRow_depth xRow_length xRow_people_65 xRow_scarves_65 xRow_main_65 xRow_faultPlace_65]) [0] rfl
      have hDc := hD.sub (ws' := [oRow ad xRow_depth xRow_length xRow_people_65 xRow_scarves_65 xRow_main_65 xRow_faultPlace_65]) [0] (by decide) rfl
      have hFc := va_free (wc := [oRow ad xRow_depth xRow_length xRow_people_65 xRow_scarves_65 xRow_main_65 xRow_faultPlace_65]) hD hS hA [0] rfl
      obtain ⟨u_8, hc_8, hm⟩ := bd_ok hm
      refine va_calli (va_runV (As := [.int v3_65]) (rest := []) ⟨hx, hb, hml, hown, hts⟩ (kR_stopAt l dC dI cA ad H.size v3_65 xRow_depth xRow_length xRow_people_65 xRow_scarves_65 xRow_main_65 xRow_faultPlace_65 u_8 hc_8) (cwV 1 hts gX5_readPerson_X5_stopAt rfl rfl rfl (by decide +kernel) ⟨Nat.le_of_ble_eq_true rfl, Nat.le_of_ble_eq_true rfl⟩) ⟨fun a U g mk q => by obtain ⟨q0, q1, qP, qK, qD⟩ := q; exact ⟨q0, q1, qP, va_K.moved (u := U) (U := U.calling g mk a) (Vm.Alike.refl U.vm) qK, qD⟩, va_recv hK hPc (ci := 5) (q0 := 0) rfl rfl, fun U hU hW => ⟨rfl, by rw [hU], by rw [hU]; exact hPc, va_K.moved hW.alike hK, hDc.weaken (fun _ _ _ _ => trivial)⟩⟩ rfl rfl hl.1 rfl (lv_room (Nat.le_of_ble_eq_true rfl)) dX5_readPerson_75 ⟨Nat.le_of_ble_eq_true rfl, Nat.le_of_ble_eq_true rfl⟩) hS (fun q _ h => hFc q h) hFc (fun r_8 _ t H1 locs ht hvm hw hB hz1 hk1 hS => ?_)
      obtain ⟨hP1, hK1, hD1⟩ := hB
      rw [ht] at hP1
      obtain ⟨hP, hD⟩ := va_join (wr := [ar (ad 2) cA 60 gRtext, ar (ad 3) cA 20 gRkinds_65, ar (ad 4) cA 20 gRlates_65, ar (ad 5) cA 20 gRhands_65, ar (ad 6) cA 20 gRslow_65, ar (ad 7) cA 4 gRahead_65, ar (ad 8) cA 4 gRdirect_65]) (w1 := [oRow ad xRow_depth xRow_length xRow_people_65 xRow_scarves_65 xRow_main_65 u_8.2]) hP hD [0] [1, 2, 3, 4, 5, 6, 7] rfl rfl (by decide) (by decide) hk1 hFc hP1 hD1
      clear hPc hDc hFc hP1 hK1 hD1 hk1 hz1 hvm ht
      generalize H1 = H at hP hS ⊢
      have hP : va_P (dC, dI) vwCl [oRow ad xRow_depth xRow_length xRow_people_65 xRow_scarves_65 xRow_main_65 u_8.2, ar (ad 2) cA 60 gRtext, ar (ad 3) cA 20 gRkinds_65, ar (ad 4) cA 20 gRlates_65, ar (ad 5) cA 20 gRhands_65, ar (ad 6) cA 20 gRslow_65, ar (ad 7) cA 4 gRahead_65, ar (ad 8) cA 4 gRdirect_65] H := hP.sub [7, 0, 1, 2, 3, 4, 5, 6] rfl
      have hD : va_D A [oRow ad xRow_depth xRow_length xRow_people_65 xRow_scarves_65 xRow_main_65 u_8.2, ar (ad 2) cA 60 gRtext, ar (ad 3) cA 20 gRkinds_65, ar (ad 4) cA 20 gRlates_65, ar (ad 5) cA 20 gRhands_65, ar (ad 6) cA 20 gRslow_65, ar (ad 7) cA 4 gRahead_65, ar (ad 8) cA 4 gRdirect_65] := hD.sub [7, 0, 1, 2, 3, 4, 5, 6] (by decide) rfl
      have hw := hw.symm
      subst hw
      obtain rfl := Option.some.inj hm
      subst hQ
      exact W.iret (v := u_8.1) hx hb hr (fun t ht hW => ⟨⟨_, (), rfl, rfl, by rw [ht]; exact hP, va_K.moved hW.alike hK, hAe ▸ hD⟩, hS.F ht⟩) hS.2.2 dX5_readPerson_78
  have b_43 : ∀ (v2_43 : Int32) (s0_43 : Int32) (xRow_people_43 : Int32) (xRow_scarves_43 : Int32) (xRow_main_43 : Int32) (xRow_faultPlace_43 : Int32) (gRkinds_43 : Nat → Int32) (gRlates_43 : Nat → Int32) (gRhands_43 : Nat → Int32) (gRslow_43 : Nat → Int32) (gRahead_43 : Nat → Int32) (gRdirect_43 : Nat → Int32), fR_readPerson_43 v2_43 s0_43 xRow_depth xRow_length xRow_people_43 xRow_scarves_43 xRow_main_43 xRow_faultPlace_43 gRtext gRkinds_43 gRlates_43 gRhands_43 gRslow_43 gRahead_43 gRdirect_43 = some u → ∀ (H : Heap) (locs : List Loc), va_P (dC, dI) vwCl [oRow ad xRow_depth xRow_length xRow_people_43 xRow_scarves_43 xRow_main_43 xRow_faultPlace_43, ar (ad 2) cA 60 gRtext, ar (ad 3) cA 20 gRkinds_43, ar (ad 4) cA 20 gRlates_43, ar (ad 5) cA 20 gRhands_43, ar (ad 6) cA 20 gRslow_43, ar (ad 7) cA 4 gRahead_43, ar (ad 8) cA 4 gRdirect_43] H → va_D A [oRow ad xRow_depth xRow_length xRow_people_43 xRow_scarves_43 xRow_main_43 xRow_faultPlace_43, ar (ad 2) cA 60 gRtext, ar (ad 3) cA 20 gRkinds_43, ar (ad 4) cA 20 gRlates_43, ar (ad 5) cA 20 gRhands_43, ar (ad 6) cA 20 gRslow_43, ar (ad 7) cA 4 gRahead_43, ar (ad 8) cA 4 gRdirect_43] → va_S A s.heap H locs → ∀ ls : Array Slot, lv_has ls 6 [(0, .ref (ad 1)), (2, .int v2_43)] → W p l e (headSpec wsX5_readPerson ({ frames := 2, cells := 0, slots := 0, locals := 47 })).room s m ([.ref (ad 1), .int a1] : List Value).toArray below meth c H locs 0 0 QQ (F0 m 43 ls [.int s0_43]) := by
    intro v2_43 s0_43 xRow_people_43 xRow_scarves_43 xRow_main_43 xRow_faultPlace_43 gRkinds_43 gRlates_43 gRhands_43 gRslow_43 gRahead_43 gRdirect_43 hm H locs hP hD hS ls hl
    unfold fR_readPerson_43 at hm
    refine lv_istore_n (lv' := [(3, .int s0_43), (0, .ref (ad 1)), (2, .int v2_43)]) hx hb dX5_readPerson_43 rfl hl (by decide) rfl (fun ls hl => ?_)
    refine lv_iload_n hx hb dX5_readPerson_44 rfl (lv_at hl 0 rfl) ?_
    refine lv_aload_n hx hb dX5_readPerson_45 rfl (lv_at hl 1 rfl) ?_
    refine va_get (D := (dC, dI)) (ci := 5) (v := .int xRow_length) (C := RX5) (T := TX5) (N := 13) hx hb hts hinX5 hown hK hP 0 rfl rfl 8 (by decide) hl_37 (fun _ h9 => h9) rfl dX5_readPerson_46 ?_
    refine lv_icmp_ge (tgt := 64) hx hb dX5_readPerson_49 (by decide) (fun c_9 => ?_) (fun c_9 => ?_)
    · have hm := it_pos c_9 hm
      refine lv_iconst (v := (-1)) hx hb dX5_readPerson_64 (by decide) ?_
      exact b_65 _ _ _ _ _ _ _ _ _ _ _ _ _ hm _ _ hP hD hS _ (lv_sub hl [1, 2, 0] rfl)
    · have hm := it_neg c_9 hm
      refine lv_aload_n hx hb dX5_readPerson_52 rfl (lv_at hl 1 rfl) ?_
      refine va_get (D := (dC, dI)) (ci := 5) (v := .ref (ad 2)) (C := RX5) (T := TX5) (N := 13) hx hb hts hinX5 hown hK hP 0 rfl rfl 0 (by decide) hl_11 (fun _ h9 => h9) rfl dX5_readPerson_53 ?_
      refine lv_iload_n hx hb dX5_readPerson_56 rfl (lv_at hl 0 rfl) ?_
      obtain ⟨i_10, hm⟩ := ck_ok hm
      refine va_iald hx hb hK hP 1 0 rfl rfl i_10 dX5_readPerson_57 ?_
      have hPc := hP.sub (ws' := []) [] rfl
      have hDc := hD.sub (ws' := []) [] (by decide) rfl
      have hFc := va_free (wc := []) hD hS hA [] rfl
      obtain ⟨u_11, hc_11, hm⟩ := bd_ok hm
      refine va_calli (va_runS (As := [.int (gRtext s0_43.toNatClampNeg)]) (rest := []) ⟨hx, hb, hml, hown, hts⟩ (kR_kindOf l dC dI cA ad H.size (gRtext s0_43.toNatClampNeg) u_11 hc_11) (va_cwS 1 hts gX5_readPerson_X5_kindOf rfl rfl rfl (by decide +kernel) ⟨Nat.le_of_ble_eq_true rfl, Nat.le_of_ble_eq_true rfl⟩) ⟨fun a U g mk q => by obtain ⟨q0, q1, qP, qK, qD⟩ := q; exact ⟨q0, q1, qP, va_K.moved (u := U) (U := U.calling g mk a) (Vm.Alike.refl U.vm) qK, qD⟩, fun U hU hW => ⟨rfl, by rw [hU], by rw [hU]; exact hPc, va_K.moved hW.alike hK, hDc.weaken (fun _ _ _ _ => trivial)⟩⟩ rfl rfl hl.1 rfl (lv_room (Nat.le_of_ble_eq_true rfl)) dX5_readPerson_58 ⟨Nat.le_of_ble_eq_true rfl, Nat.le_of_ble_eq_true rfl⟩) hS (fun q _ h => hFc q h) hFc (fun r_11 _ t H1 locs ht hvm hw hB hz1 hk1 hS => ?_)
      obtain ⟨hP1, hK1, hD1⟩ := hB
      rw [ht] at hP1
      obtain ⟨hP, hD⟩ := va_join (wr := [oRow ad xRow_depth xRow_length xRow_people_43 xRow_scarves_43 xRow_main_43 xRow_faultPlace_43, ar (ad 2) cA 60 gRtext, ar (ad 3) cA 20 gRkinds_43, ar (ad 4) cA 20 gRlates_43, ar (ad 5) cA 20 gRhands_43, ar (ad 6) cA 20 gRslow_43, ar (ad 7) cA 4 gRahead_43, ar (ad 8) cA 4 gRdirect_43]) (w1 := []) hP hD [] [0, 1, 2, 3, 4, 5, 6, 7] rfl rfl (by decide) (by decide) hk1 hFc hP1 hD1
      clear hPc hDc hFc hP1 hK1 hD1 hk1 hz1 hvm ht
      generalize H1 = H at hP hS ⊢
      have hP : va_P (dC, dI) vwCl [oRow ad xRow_depth xRow_length xRow_people_43 xRow_scarves_43 xRow_main_43 xRow_faultPlace_43, ar (ad 2) cA 60 gRtext, ar (ad 3) cA 20 gRkinds_43, ar (ad 4) cA 20 gRlates_43, ar (ad 5) cA 20 gRhands_43, ar (ad 6) cA 20 gRslow_43, ar (ad 7) cA 4 gRahead_43, ar (ad 8) cA 4 gRdirect_43] H := hP
      have hD : va_D A [oRow ad xRow_depth xRow_length xRow_people_43 xRow_scarves_43 xRow_main_43 xRow_faultPlace_43, ar (ad 2) cA 60 gRtext, ar (ad 3) cA 20 gRkinds_43, ar (ad 4) cA 20 gRlates_43, ar (ad 5) cA 20 gRhands_43, ar (ad 6) cA 20 gRslow_43, ar (ad 7) cA 4 gRahead_43, ar (ad 8) cA 4 gRdirect_43] := hD
      have hw := hw.symm
      subst hw
      refine lv_goto (tgt := 65) hx hb dX5_readPerson_61 (by decide) ?_
      exact b_65 _ _ _ _ _ _ _ _ _ _ _ _ _ hm _ _ hP hD hS _ (lv_sub hl [1, 2, 0] rfl)
  have b_31 : ∀ (v1_31 : Int32) (s0_31 : Int32) (xRow_people_31 : Int32) (xRow_scarves_31 : Int32) (xRow_main_31 : Int32) (xRow_faultPlace_31 : Int32) (gRkinds_31 : Nat → Int32) (gRlates_31 : Nat → Int32) (gRhands_31 : Nat → Int32) (gRslow_31 : Nat → Int32) (gRahead_31 : Nat → Int32) (gRdirect_31 : Nat → Int32), fR_readPerson_31 v1_31 s0_31 xRow_depth xRow_length xRow_people_31 xRow_scarves_31 xRow_main_31 xRow_faultPlace_31 gRtext gRkinds_31 gRlates_31 gRhands_31 gRslow_31 gRahead_31 gRdirect_31 = some u → ∀ (H : Heap) (locs : List Loc), va_P (dC, dI) vwCl [oRow ad xRow_depth xRow_length xRow_people_31 xRow_scarves_31 xRow_main_31 xRow_faultPlace_31, ar (ad 2) cA 60 gRtext, ar (ad 3) cA 20 gRkinds_31, ar (ad 4) cA 20 gRlates_31, ar (ad 5) cA 20 gRhands_31, ar (ad 6) cA 20 gRslow_31, ar (ad 7) cA 4 gRahead_31, ar (ad 8) cA 4 gRdirect_31] H → va_D A [oRow ad xRow_depth xRow_length xRow_people_31 xRow_scarves_31 xRow_main_31 xRow_faultPlace_31, ar (ad 2) cA 60 gRtext, ar (ad 3) cA 20 gRkinds_31, ar (ad 4) cA 20 gRlates_31, ar (ad 5) cA 20 gRhands_31, ar (ad 6) cA 20 gRslow_31, ar (ad 7) cA 4 gRahead_31, ar (ad 8) cA 4 gRdirect_31] → va_S A s.heap H locs → ∀ ls : Array Slot, lv_has ls 6 [(0, .ref (ad 1)), (1, .int v1_31)] → W p l e (headSpec wsX5_readPerson ({ frames := 2, cells := 0, slots := 0, locals := 47 })).room s m ([.ref (ad 1), .int a1] : List Value).toArray below meth c H locs 0 0 QQ (F0 m 31 ls [.int s0_31]) := by
    intro v1_31 s0_31 xRow_people_31 xRow_scarves_31 xRow_main_31 xRow_faultPlace_31 gRkinds_31 gRlates_31 gRhands_31 gRslow_31 gRahead_31 gRdirect_31 hm H locs hP hD hS ls hl
    unfold fR_readPerson_31 at hm
    refine lv_istore_n (lv' := [(2, .int s0_31), (0, .ref (ad 1)), (1, .int v1_31)]) hx hb dX5_readPerson_31 rfl hl (by decide) rfl (fun ls hl => ?_)
    refine lv_iload_n hx hb dX5_readPerson_32 rfl (lv_at hl 0 rfl) ?_
    refine lv_if_eq (tgt := 42) hx hb dX5_readPerson_33 (by decide) (fun c_12 => ?_) (fun c_12 => ?_)
    · have hm := it_pos c_12 hm
      refine lv_iload_n hx hb dX5_readPerson_42 rfl (lv_at hl 2 rfl) ?_
      exact b_43 _ _ _ _ _ _ _ _ _ _ _ _ hm _ _ hP hD hS _ (lv_sub hl [1, 0] rfl)
    · have hm := it_neg c_12 hm
      refine lv_iload_n hx hb dX5_readPerson_36 rfl (lv_at hl 2 rfl) ?_
      refine lv_iconst (v := 1) hx hb dX5_readPerson_37 (by decide) ?_
      refine lv_iadd hx hb dX5_readPerson_38 ?_
      refine lv_goto (tgt := 43) hx hb dX5_readPerson_39 (by decide) ?_
      exact b_43 _ _ _ _ _ _ _ _ _ _ _ _ hm _ _ hP hD hS _ (lv_sub hl [1, 0] rfl)
  unfold fR_readPerson at hm
  refine lv_aload_n hx hb dX5_readPerson_0 rfl (lv_at hl 0 rfl) ?_
  refine va_get (D := (dC, dI)) (ci := 5) (v := .int xRow_people) (C := RX5) (T := TX5) (N := 13) hx hb hts hinX5 hown hK hP 0 rfl rfl 9 (by decide) hl_43 (fun _ h9 => h9) rfl dX5_readPerson_1 ?_
  refine lv_bipush (v := 20) hx hb dX5_readPerson_4 (by decide) ?_
  refine lv_icmp_lt (tgt := 15) hx hb dX5_readPerson_6 (by decide) (fun c_13 => ?_) (fun c_13 => ?_)
  · have hm := it_pos c_13 hm
    refine lv_aload_n hx hb dX5_readPerson_15 rfl (lv_at hl 0 rfl) ?_
    refine va_get (D := (dC, dI)) (ci := 5) (v := .ref (ad 2)) (C := RX5) (T := TX5) (N := 13) hx hb hts hinX5 hown hK hP 0 rfl rfl 0 (by decide) hl_11 (fun _ h9 => h9) rfl dX5_readPerson_16 ?_
    refine lv_iload_n hx hb dX5_readPerson_19 rfl (lv_at hl 1 rfl) ?_
    obtain ⟨i_14, hm⟩ := ck_ok hm
    refine va_iald hx hb hK hP 1 0 rfl rfl i_14 dX5_readPerson_20 ?_
    refine lv_bipush (v := 115) hx hb dX5_readPerson_21 (by decide) ?_
    refine lv_icmp_ne (tgt := 30) hx hb dX5_readPerson_23 (by decide) (fun c_15 => ?_) (fun c_15 => ?_)
    · have hm := it_neg c_15 hm
      refine lv_iconst (v := 0) hx hb dX5_readPerson_30 (by decide) ?_
      exact b_31 _ _ _ _ _ _ _ _ _ _ _ _ hm _ _ hP hD hS _ (lv_sub hl [0, 1] rfl)
    · have hm := it_pos c_15 hm
      refine lv_iconst (v := 1) hx hb dX5_readPerson_26 (by decide) ?_
      refine lv_goto (tgt := 31) hx hb dX5_readPerson_27 (by decide) ?_
      exact b_31 _ _ _ _ _ _ _ _ _ _ _ _ hm _ _ hP hD hS _ (lv_sub hl [0, 1] rfl)
  · have hm := it_neg c_13 hm
    refine lv_aload_n hx hb dX5_readPerson_9 rfl (lv_at hl 0 rfl) ?_
    refine lv_iload_n hx hb dX5_readPerson_10 rfl (lv_at hl 1 rfl) ?_
    have hPc := hP.sub (ws' := [oRow ad xRow_depth xRow_length xRow_people xRow_scarves xRow_main xRow_faultPlace]) [0] rfl
    have hDc := hD.sub (ws' := [oRow ad xRow_depth xRow_length xRow_people xRow_scarves xRow_main xRow_faultPlace]) [0] (by decide) rfl
    have hFc := va_free (wc := [oRow ad xRow_depth xRow_length xRow_people xRow_scarves xRow_main xRow_faultPlace]) hD hS hA [0] rfl
    obtain ⟨u_16, hc_16, hm⟩ := bd_ok hm
    refine va_calli (va_runV (As := [.int a1]) (rest := []) ⟨hx, hb, hml, hown, hts⟩ (kR_stopAt l dC dI cA ad s.heap.size a1 xRow_depth xRow_length xRow_people xRow_scarves xRow_main xRow_faultPlace u_16 hc_16) (cwV 1 hts gX5_readPerson_X5_stopAt rfl rfl rfl (by decide +kernel) ⟨Nat.le_of_ble_eq_true rfl, Nat.le_of_ble_eq_true rfl⟩) ⟨fun a U g mk q => by obtain ⟨q0, q1, qP, qK, qD⟩ := q; exact ⟨q0, q1, qP, va_K.moved (u := U) (U := U.calling g mk a) (Vm.Alike.refl U.vm) qK, qD⟩, va_recv hK hPc (ci := 5) (q0 := 0) rfl rfl, fun U hU hW => ⟨rfl, by rw [hU], by rw [hU]; exact hPc, va_K.moved hW.alike hK, hDc.weaken (fun _ _ _ _ => trivial)⟩⟩ rfl rfl hl.1 rfl (lv_room (Nat.le_of_ble_eq_true rfl)) dX5_readPerson_11 ⟨Nat.le_of_ble_eq_true rfl, Nat.le_of_ble_eq_true rfl⟩) hS (fun q _ h => hFc q h) hFc (fun r_16 _ t H1 locs ht hvm hw hB hz1 hk1 hS => ?_)
    obtain ⟨hP1, hK1, hD1⟩ := hB
    rw [ht] at hP1
    obtain ⟨hP, hD⟩ := va_join (wr := [ar (ad 2) cA 60 gRtext, ar (ad 3) cA 20 gRkinds, ar (ad 4) cA 20 gRlates, ar (ad 5) cA 20 gRhands, ar (ad 6) cA 20 gRslow, ar (ad 7) cA 4 gRahead, ar (ad 8) cA 4 gRdirect]) (w1 := [oRow ad xRow_depth xRow_length xRow_people xRow_scarves xRow_main u_16.2]) hP hD [0] [1, 2, 3, 4, 5, 6, 7] rfl rfl (by decide) (by decide) hk1 hFc hP1 hD1
    clear hPc hDc hFc hP1 hK1 hD1 hk1 hz1 hvm ht
    generalize H1 = H at hP hS ⊢
    have hP : va_P (dC, dI) vwCl [oRow ad xRow_depth xRow_length xRow_people xRow_scarves xRow_main u_16.2, ar (ad 2) cA 60 gRtext, ar (ad 3) cA 20 gRkinds, ar (ad 4) cA 20 gRlates, ar (ad 5) cA 20 gRhands, ar (ad 6) cA 20 gRslow, ar (ad 7) cA 4 gRahead, ar (ad 8) cA 4 gRdirect] H := hP.sub [7, 0, 1, 2, 3, 4, 5, 6] rfl
    have hD : va_D A [oRow ad xRow_depth xRow_length xRow_people xRow_scarves xRow_main u_16.2, ar (ad 2) cA 60 gRtext, ar (ad 3) cA 20 gRkinds, ar (ad 4) cA 20 gRlates, ar (ad 5) cA 20 gRhands, ar (ad 6) cA 20 gRslow, ar (ad 7) cA 4 gRahead, ar (ad 8) cA 4 gRdirect] := hD.sub [7, 0, 1, 2, 3, 4, 5, 6] (by decide) rfl
    have hw := hw.symm
    subst hw
    obtain rfl := Option.some.inj hm
    subst hQ
    exact W.iret (v := u_16.1) hx hb hr (fun t ht hW => ⟨⟨_, (), rfl, rfl, by rw [ht]; exact hP, va_K.moved hW.alike hK, hAe ▸ hD⟩, hS.F ht⟩) hS.2.2 dX5_readPerson_14

set_option maxHeartbeats 4000000 in
set_option maxRecDepth 100000 in
theorem kR_openFork (l : Launch) (dC : Nat → ClassId) (dI : Nat → Nat → Nat) (cA : ClassId) (ad : Nat → Nat) (sz : Nat) (a1 : Int32) (xRow_depth : Int32) (xRow_length : Int32) (xRow_people : Int32) (xRow_scarves : Int32) (xRow_main : Int32) (xRow_faultPlace : Int32) (gRahead : Nat → Int32) (gRdirect : Nat → Int32) (u : Int32 × Int32 × Int32 × (Nat → Int32) × (Nat → Int32)) (hm : fR_openFork a1 xRow_depth xRow_faultPlace gRahead gRdirect = some u) : Met l yX5_openFork wsX5_openFork ({ frames := 1, cells := 0, slots := 0, locals := 21 }) (va_Pc [.ref (ad 1), .int a1] (fun U => U.heap.size = sz ∧ va_P (dC, dI) vwCl [oRow ad xRow_depth xRow_length xRow_people xRow_scarves xRow_main xRow_faultPlace, ar (ad 7) cA 4 gRahead, ar (ad 8) cA 4 gRdirect] U.heap ∧ va_K (dC, dI) vwCl [(cA, .int)] U ∧ va_D (fun _ => True) [oRow ad xRow_depth xRow_length xRow_people xRow_scarves xRow_main xRow_faultPlace, ar (ad 7) cA 4 gRahead, ar (ad 8) cA 4 gRdirect])) (va_Qi (fun (r : Int32) (_ : Unit) => r = u.1) (fun (_ : Unit) t => va_P (dC, dI) vwCl [oRow ad u.2.1 xRow_length xRow_people xRow_scarves xRow_main u.2.2.1, ar (ad 7) cA 4 u.2.2.2.1, ar (ad 8) cA 4 u.2.2.2.2] t.heap ∧ va_K (dC, dI) vwCl [(cA, .int)] t ∧ va_D (va_A [oRow ad xRow_depth xRow_length xRow_people xRow_scarves xRow_main xRow_faultPlace, ar (ad 7) cA 4 gRahead, ar (ad 8) cA 4 gRdirect] sz) [oRow ad u.2.1 xRow_length xRow_people xRow_scarves xRow_main u.2.2.1, ar (ad 7) cA 4 u.2.2.2.1, ar (ad 8) cA 4 u.2.2.2.2]) (va_A [oRow ad xRow_depth xRow_length xRow_people xRow_scarves xRow_main xRow_faultPlace, ar (ad 7) cA 4 gRahead, ar (ad 8) cA 4 gRdirect] sz)) 0 0 (va_A [oRow ad xRow_depth xRow_length xRow_people xRow_scarves xRow_main xRow_faultPlace, ar (ad 7) cA 4 gRahead, ar (ad 8) cA 4 gRdirect] sz) := by
  refine Met.ofW (cc := cX5_openFork) (maxL := 2) (ret := (some .int)) (by decide) rfl ?_
  intro p e s m args below meth c s₁ B hml hv
  obtain ⟨rfl, hsz, hP, hK, hD0⟩ := hv
  have hx := B.exec
  have hb := B.bytes
  have hr := B.returns
  have hts := atoms_spec (ws := wsX5_openFork) B.pre
  have hown : s.vm.findClass RX5 = some m.cls := findClass_of_methodNamed B.named
  have hlocks := B.notSynchronized
  subst hsz
  have hD := hD0.self (sz := s.heap.size)
  generalize hAe : va_A [oRow ad xRow_depth xRow_length xRow_people xRow_scarves xRow_main xRow_faultPlace, ar (ad 7) cA 4 gRahead, ar (ad 8) cA 4 gRdirect] s.heap.size = A at hD ⊢
  have hA : ∀ q : Nat, s.heap.size ≤ q → A q := fun q h => by rw [← hAe]; exact Or.inr h
  have hS : va_S A s.heap s.heap [] := va_S.rf
  have hl := lv_entry ([.ref (ad 1), .int a1]) (n := 2) (Nat.le_of_ble_eq_true rfl)
  rw [lg_entry_eq]
  generalize (lg_sl ([.ref (ad 1), .int a1]) ++ List.replicate (2 - (lg_sl ([.ref (ad 1), .int a1])).length) Slot.unset).toArray = ls at hl ⊢
  have hl : lv_has ls 2 [(0, .ref (ad 1)), (1, .int a1)] := hl
  refine wk_Q (fun QQ hQ => ?_)
  have hinX5 : ∀ w ∈ wsX50, w ∈ wsX5_openFork := fun w h => List.mem_cons_of_mem _ (inlX5 w h)
  have hl_58 := hts (.fieldLink RX5 58 "HandCensus$Row" "depth" "I") (List.mem_cons_of_mem _ (in_r8 _ (List.mem_of_getElem? (i := 17) rfl)))
  have hl_30 := hts (.fieldLink RX5 30 "HandCensus$Row" "direct" "[I") (List.mem_cons_of_mem _ (in_r3 _ (List.mem_of_getElem? (i := 14) rfl)))
  have hl_27 := hts (.fieldLink RX5 27 "HandCensus$Row" "ahead" "[I") (List.mem_cons_of_mem _ (in_r3 _ (List.mem_of_getElem? (i := 13) rfl)))
  have b_20 : ∀ (v1_20 : Int32) (xRow_depth_20 : Int32) (xRow_faultPlace_20 : Int32) (gRahead_20 : Nat → Int32) (gRdirect_20 : Nat → Int32), fR_openFork_20 v1_20 xRow_depth_20 xRow_faultPlace_20 gRahead_20 gRdirect_20 = some u → ∀ (H : Heap) (locs : List Loc), va_P (dC, dI) vwCl [oRow ad xRow_depth_20 xRow_length xRow_people xRow_scarves xRow_main xRow_faultPlace_20, ar (ad 7) cA 4 gRahead_20, ar (ad 8) cA 4 gRdirect_20] H → va_D A [oRow ad xRow_depth_20 xRow_length xRow_people xRow_scarves xRow_main xRow_faultPlace_20, ar (ad 7) cA 4 gRahead_20, ar (ad 8) cA 4 gRdirect_20] → va_S A s.heap H locs → ∀ ls : Array Slot, lv_has ls 2 [(0, .ref (ad 1)), (1, .int v1_20)] → W p l e (headSpec wsX5_openFork ({ frames := 1, cells := 0, slots := 0, locals := 21 })).room s m ([.ref (ad 1), .int a1] : List Value).toArray below meth c H locs 0 0 QQ (F0 m 20 ls []) := by
    intro v1_20 xRow_depth_20 xRow_faultPlace_20 gRahead_20 gRdirect_20 hm H locs hP hD hS ls hl
    unfold fR_openFork_20 at hm
    refine lv_aload_n hx hb dX5_openFork_20 rfl (lv_at hl 0 rfl) ?_
    refine lv_iload_n hx hb dX5_openFork_21 rfl (lv_at hl 1 rfl) ?_
    have hPc := hP.sub (ws' := [oRow ad xRow_depth_20 xRow_length xRow_people xRow_scarves xRow_main xRow_faultPlace_20]) [0] rfl
    have hDc := hD.sub (ws' := [oRow ad xRow_depth_20 xRow_length xRow_people xRow_scarves xRow_main xRow_faultPlace_20]) [0] (by decide) rfl
    have hFc := va_free (wc := [oRow ad xRow_depth_20 xRow_length xRow_people xRow_scarves xRow_main xRow_faultPlace_20]) hD hS hA [0] rfl
    obtain ⟨u_1, hc_1, hm⟩ := bd_ok hm
    refine va_calli (va_runV (As := [.int v1_20]) (rest := []) ⟨hx, hb, hml, hown, hts⟩ (kR_stopAt l dC dI cA ad H.size v1_20 xRow_depth_20 xRow_length xRow_people xRow_scarves xRow_main xRow_faultPlace_20 u_1 hc_1) (cwV 1 hts gX5_openFork_X5_stopAt rfl rfl rfl (by decide +kernel) ⟨Nat.le_of_ble_eq_true rfl, Nat.le_of_ble_eq_true rfl⟩) ⟨fun a U g mk q => by obtain ⟨q0, q1, qP, qK, qD⟩ := q; exact ⟨q0, q1, qP, va_K.moved (u := U) (U := U.calling g mk a) (Vm.Alike.refl U.vm) qK, qD⟩, va_recv hK hPc (ci := 5) (q0 := 0) rfl rfl, fun U hU hW => ⟨rfl, by rw [hU], by rw [hU]; exact hPc, va_K.moved hW.alike hK, hDc.weaken (fun _ _ _ _ => trivial)⟩⟩ rfl rfl hl.1 rfl (lv_room (Nat.le_of_ble_eq_true rfl)) dX5_openFork_22 ⟨Nat.le_of_ble_eq_true rfl, Nat.le_of_ble_eq_true rfl⟩) hS (fun q _ h => hFc q h) hFc (fun r_1 _ t H1 locs ht hvm hw hB hz1 hk1 hS => ?_)
    obtain ⟨hP1, hK1, hD1⟩ := hB
    rw [ht] at hP1
    obtain ⟨hP, hD⟩ := va_join (wr := [ar (ad 7) cA 4 gRahead_20, ar (ad 8) cA 4 gRdirect_20]) (w1 := [oRow ad xRow_depth_20 xRow_length xRow_people xRow_scarves xRow_main u_1.2]) hP hD [0] [1, 2] rfl rfl (by decide) (by decide) hk1 hFc hP1 hD1
    clear hPc hDc hFc hP1 hK1 hD1 hk1 hz1 hvm ht
    generalize H1 = H at hP hS ⊢
    have hP : va_P (dC, dI) vwCl [oRow ad xRow_depth_20 xRow_length xRow_people xRow_scarves xRow_main u_1.2, ar (ad 7) cA 4 gRahead_20, ar (ad 8) cA 4 gRdirect_20] H := hP.sub [2, 0, 1] rfl
    have hD : va_D A [oRow ad xRow_depth_20 xRow_length xRow_people xRow_scarves xRow_main u_1.2, ar (ad 7) cA 4 gRahead_20, ar (ad 8) cA 4 gRdirect_20] := hD.sub [2, 0, 1] (by decide) rfl
    have hw := hw.symm
    subst hw
    obtain rfl := Option.some.inj hm
    subst hQ
    exact W.iret (v := u_1.1) hx hb hr (fun t ht hW => ⟨⟨_, (), rfl, rfl, by rw [ht]; exact hP, va_K.moved hW.alike hK, hAe ▸ hD⟩, hS.F ht⟩) hS.2.2 dX5_openFork_25
  unfold fR_openFork at hm
  refine lv_aload_n hx hb dX5_openFork_0 rfl (lv_at hl 0 rfl) ?_
  refine va_get (D := (dC, dI)) (ci := 5) (v := .int xRow_depth) (C := RX5) (T := TX5) (N := 13) hx hb hts hinX5 hown hK hP 0 rfl rfl 7 (by decide) hl_58 (fun _ h9 => h9) rfl dX5_openFork_1 ?_
  refine lv_iconst (v := 3) hx hb dX5_openFork_4 (by decide) ?_
  refine lv_icmp_ge (tgt := 20) hx hb dX5_openFork_5 (by decide) (fun c_2 => ?_) (fun c_2 => ?_)
  · have hm := it_pos c_2 hm
    exact b_20 _ _ _ _ _ hm _ _ hP hD hS _ (lv_sub hl [0, 1] rfl)
  · have hm := it_neg c_2 hm
    refine lv_aload_n hx hb dX5_openFork_8 rfl (lv_at hl 0 rfl) ?_
    refine va_get (D := (dC, dI)) (ci := 5) (v := .ref (ad 8)) (C := RX5) (T := TX5) (N := 13) hx hb hts hinX5 hown hK hP 0 rfl rfl 6 (by decide) hl_30 (fun _ h9 => h9) rfl dX5_openFork_9 ?_
    refine lv_aload_n hx hb dX5_openFork_12 rfl (lv_at hl 0 rfl) ?_
    refine va_get (D := (dC, dI)) (ci := 5) (v := .int xRow_depth) (C := RX5) (T := TX5) (N := 13) hx hb hts hinX5 hown hK hP 0 rfl rfl 7 (by decide) hl_58 (fun _ h9 => h9) rfl dX5_openFork_13 ?_
    obtain ⟨i_3, hm⟩ := ck_ok hm
    refine va_iald hx hb hK hP 2 0 rfl rfl i_3 dX5_openFork_16 ?_
    refine lv_if_ne (tgt := 26) hx hb dX5_openFork_17 (by decide) (fun c_4 => ?_) (fun c_4 => ?_)
    · have hm := it_neg c_4 hm
      refine lv_aload_n hx hb dX5_openFork_26 rfl (lv_at hl 0 rfl) ?_
      refine lv_dup hx hb dX5_openFork_27 rfl ?_
      refine va_get (D := (dC, dI)) (ci := 5) (v := .int xRow_depth) (C := RX5) (T := TX5) (N := 13) hx hb hts hinX5 hown hK hP 0 rfl rfl 7 (by decide) hl_58 (fun _ h9 => h9) rfl dX5_openFork_28 ?_
      refine lv_iconst (v := 1) hx hb dX5_openFork_31 (by decide) ?_
      refine lv_iadd hx hb dX5_openFork_32 ?_
      refine va_put (D := (dC, dI)) (ci := 5) (v := .int (xRow_depth + 1)) (ty := .int) (C := RX5) (T := TX5) (N := 13) hx hb hts hinX5 tyX5 tyX5_ok nmX5 hown hK hP hD hS 0 rfl rfl 7 (by decide) hl_58 (fun _ h9 => h9) rfl (by decide +kernel) rfl rfl (Nat.le_of_ble_eq_true rfl) dX5_openFork_33 (fun H locs hP hD hS => ?_)
      have hP : va_P (dC, dI) vwCl [oRow ad (xRow_depth + 1) xRow_length xRow_people xRow_scarves xRow_main xRow_faultPlace, ar (ad 7) cA 4 gRahead, ar (ad 8) cA 4 gRdirect] H := hP
      have hD : va_D A [oRow ad (xRow_depth + 1) xRow_length xRow_people xRow_scarves xRow_main xRow_faultPlace, ar (ad 7) cA 4 gRahead, ar (ad 8) cA 4 gRdirect] := hD
      refine lv_aload_n hx hb dX5_openFork_36 rfl (lv_at hl 0 rfl) ?_
      refine va_get (D := (dC, dI)) (ci := 5) (v := .ref (ad 7)) (C := RX5) (T := TX5) (N := 13) hx hb hts hinX5 hown hK hP 0 rfl rfl 5 (by decide) hl_27 (fun _ h9 => h9) rfl dX5_openFork_37 ?_
      refine lv_aload_n hx hb dX5_openFork_40 rfl (lv_at hl 0 rfl) ?_
      refine va_get (D := (dC, dI)) (ci := 5) (v := .int (xRow_depth + 1)) (C := RX5) (T := TX5) (N := 13) hx hb hts hinX5 hown hK hP 0 rfl rfl 7 (by decide) hl_58 (fun _ h9 => h9) rfl dX5_openFork_41 ?_
      refine lv_aload_n hx hb dX5_openFork_44 rfl (lv_at hl 0 rfl) ?_
      refine va_get (D := (dC, dI)) (ci := 5) (v := .ref (ad 7)) (C := RX5) (T := TX5) (N := 13) hx hb hts hinX5 hown hK hP 0 rfl rfl 5 (by decide) hl_27 (fun _ h9 => h9) rfl dX5_openFork_45 ?_
      refine lv_aload_n hx hb dX5_openFork_48 rfl (lv_at hl 0 rfl) ?_
      refine va_get (D := (dC, dI)) (ci := 5) (v := .int (xRow_depth + 1)) (C := RX5) (T := TX5) (N := 13) hx hb hts hinX5 hown hK hP 0 rfl rfl 7 (by decide) hl_58 (fun _ h9 => h9) rfl dX5_openFork_49 ?_
      refine lv_iconst (v := 1) hx hb dX5_openFork_52 (by decide) ?_
      refine lv_isub hx hb dX5_openFork_53 ?_
      obtain ⟨i_5, hm⟩ := ck_ok hm
      refine va_iald hx hb hK hP 1 0 rfl rfl i_5 dX5_openFork_54 ?_
      obtain ⟨i_6, hm⟩ := ck_ok hm
      refine va_iast hx hb hK hP hD hS 1 0 rfl rfl i_6 dX5_openFork_55 (fun H locs hP hD hS => ?_)
      have hP : va_P (dC, dI) vwCl [oRow ad (xRow_depth + 1) xRow_length xRow_people xRow_scarves xRow_main xRow_faultPlace, ar (ad 7) cA 4 (upd gRahead (xRow_depth + 1).toNatClampNeg (gRahead ((xRow_depth + 1) - 1).toNatClampNeg)), ar (ad 8) cA 4 gRdirect] H := hP
      have hD : va_D A [oRow ad (xRow_depth + 1) xRow_length xRow_people xRow_scarves xRow_main xRow_faultPlace, ar (ad 7) cA 4 (upd gRahead (xRow_depth + 1).toNatClampNeg (gRahead ((xRow_depth + 1) - 1).toNatClampNeg)), ar (ad 8) cA 4 gRdirect] := hD
      refine lv_aload_n hx hb dX5_openFork_56 rfl (lv_at hl 0 rfl) ?_
      refine va_get (D := (dC, dI)) (ci := 5) (v := .ref (ad 8)) (C := RX5) (T := TX5) (N := 13) hx hb hts hinX5 hown hK hP 0 rfl rfl 6 (by decide) hl_30 (fun _ h9 => h9) rfl dX5_openFork_57 ?_
      refine lv_aload_n hx hb dX5_openFork_60 rfl (lv_at hl 0 rfl) ?_
      refine va_get (D := (dC, dI)) (ci := 5) (v := .int (xRow_depth + 1)) (C := RX5) (T := TX5) (N := 13) hx hb hts hinX5 hown hK hP 0 rfl rfl 7 (by decide) hl_58 (fun _ h9 => h9) rfl dX5_openFork_61 ?_
      refine lv_iconst (v := 0) hx hb dX5_openFork_64 (by decide) ?_
      obtain ⟨i_7, hm⟩ := ck_ok hm
      refine va_iast hx hb hK hP hD hS 2 0 rfl rfl i_7 dX5_openFork_65 (fun H locs hP hD hS => ?_)
      have hP : va_P (dC, dI) vwCl [oRow ad (xRow_depth + 1) xRow_length xRow_people xRow_scarves xRow_main xRow_faultPlace, ar (ad 7) cA 4 (upd gRahead (xRow_depth + 1).toNatClampNeg (gRahead ((xRow_depth + 1) - 1).toNatClampNeg)), ar (ad 8) cA 4 (upd gRdirect (xRow_depth + 1).toNatClampNeg 0)] H := hP
      have hD : va_D A [oRow ad (xRow_depth + 1) xRow_length xRow_people xRow_scarves xRow_main xRow_faultPlace, ar (ad 7) cA 4 (upd gRahead (xRow_depth + 1).toNatClampNeg (gRahead ((xRow_depth + 1) - 1).toNatClampNeg)), ar (ad 8) cA 4 (upd gRdirect (xRow_depth + 1).toNatClampNeg 0)] := hD
      refine lv_iload_n hx hb dX5_openFork_66 rfl (lv_at hl 1 rfl) ?_
      refine lv_iconst (v := 1) hx hb dX5_openFork_67 (by decide) ?_
      refine lv_iadd hx hb dX5_openFork_68 ?_
      obtain rfl := Option.some.inj hm
      subst hQ
      exact W.iret (v := (a1 + 1)) hx hb hr (fun t ht hW => ⟨⟨_, (), rfl, rfl, by rw [ht]; exact hP, va_K.moved hW.alike hK, hAe ▸ hD⟩, hS.F ht⟩) hS.2.2 dX5_openFork_69
    · have hm := it_pos c_4 hm
      exact b_20 _ _ _ _ _ hm _ _ hP hD hS _ (lv_sub hl [0, 1] rfl)

set_option maxHeartbeats 4000000 in
set_option maxRecDepth 100000 in
theorem kR_readNext (l : Launch) (dC : Nat → ClassId) (dI : Nat → Nat → Nat) (cA : ClassId) (ad : Nat → Nat) (sz : Nat) (a1 : Int32) (xRow_depth : Int32) (xRow_length : Int32) (xRow_people : Int32) (xRow_scarves : Int32) (xRow_main : Int32) (xRow_faultPlace : Int32) (gRtext : Nat → Int32) (gRkinds : Nat → Int32) (gRlates : Nat → Int32) (gRhands : Nat → Int32) (gRslow : Nat → Int32) (gRahead : Nat → Int32) (gRdirect : Nat → Int32) (u : Int32 × Int32 × Int32 × Int32 × Int32 × Int32 × (Nat → Int32) × (Nat → Int32) × (Nat → Int32) × (Nat → Int32) × (Nat → Int32) × (Nat → Int32)) (hm : fR_readNext a1 xRow_depth xRow_length xRow_people xRow_scarves xRow_main xRow_faultPlace gRtext gRkinds gRlates gRhands gRslow gRahead gRdirect = some u) : Met l yX5_readNext wsX5_readNext ({ frames := 3, cells := 0, slots := 0, locals := 72 }) (va_Pc [.ref (ad 1), .int a1] (fun U => U.heap.size = sz ∧ va_P (dC, dI) vwCl [oRow ad xRow_depth xRow_length xRow_people xRow_scarves xRow_main xRow_faultPlace, ar (ad 2) cA 60 gRtext, ar (ad 3) cA 20 gRkinds, ar (ad 4) cA 20 gRlates, ar (ad 5) cA 20 gRhands, ar (ad 6) cA 20 gRslow, ar (ad 7) cA 4 gRahead, ar (ad 8) cA 4 gRdirect] U.heap ∧ va_K (dC, dI) vwCl [(cA, .int)] U ∧ va_D (fun _ => True) [oRow ad xRow_depth xRow_length xRow_people xRow_scarves xRow_main xRow_faultPlace, ar (ad 2) cA 60 gRtext, ar (ad 3) cA 20 gRkinds, ar (ad 4) cA 20 gRlates, ar (ad 5) cA 20 gRhands, ar (ad 6) cA 20 gRslow, ar (ad 7) cA 4 gRahead, ar (ad 8) cA 4 gRdirect])) (va_Qi (fun (r : Int32) (_ : Unit) => r = u.1) (fun (_ : Unit) t => va_P (dC, dI) vwCl [oRow ad u.2.1 xRow_length u.2.2.1 u.2.2.2.1 u.2.2.2.2.1 u.2.2.2.2.2.1, ar (ad 2) cA 60 gRtext, ar (ad 3) cA 20 u.2.2.2.2.2.2.1, ar (ad 4) cA 20 u.2.2.2.2.2.2.2.1, ar (ad 5) cA 20 u.2.2.2.2.2.2.2.2.1, ar (ad 6) cA 20 u.2.2.2.2.2.2.2.2.2.1, ar (ad 7) cA 4 u.2.2.2.2.2.2.2.2.2.2.1, ar (ad 8) cA 4 u.2.2.2.2.2.2.2.2.2.2.2] t.heap ∧ va_K (dC, dI) vwCl [(cA, .int)] t ∧ va_D (va_A [oRow ad xRow_depth xRow_length xRow_people xRow_scarves xRow_main xRow_faultPlace, ar (ad 2) cA 60 gRtext, ar (ad 3) cA 20 gRkinds, ar (ad 4) cA 20 gRlates, ar (ad 5) cA 20 gRhands, ar (ad 6) cA 20 gRslow, ar (ad 7) cA 4 gRahead, ar (ad 8) cA 4 gRdirect] sz) [oRow ad u.2.1 xRow_length u.2.2.1 u.2.2.2.1 u.2.2.2.2.1 u.2.2.2.2.2.1, ar (ad 2) cA 60 gRtext, ar (ad 3) cA 20 u.2.2.2.2.2.2.1, ar (ad 4) cA 20 u.2.2.2.2.2.2.2.1, ar (ad 5) cA 20 u.2.2.2.2.2.2.2.2.1, ar (ad 6) cA 20 u.2.2.2.2.2.2.2.2.2.1, ar (ad 7) cA 4 u.2.2.2.2.2.2.2.2.2.2.1, ar (ad 8) cA 4 u.2.2.2.2.2.2.2.2.2.2.2]) (va_A [oRow ad xRow_depth xRow_length xRow_people xRow_scarves xRow_main xRow_faultPlace, ar (ad 2) cA 60 gRtext, ar (ad 3) cA 20 gRkinds, ar (ad 4) cA 20 gRlates, ar (ad 5) cA 20 gRhands, ar (ad 6) cA 20 gRslow, ar (ad 7) cA 4 gRahead, ar (ad 8) cA 4 gRdirect] sz)) 0 0 (va_A [oRow ad xRow_depth xRow_length xRow_people xRow_scarves xRow_main xRow_faultPlace, ar (ad 2) cA 60 gRtext, ar (ad 3) cA 20 gRkinds, ar (ad 4) cA 20 gRlates, ar (ad 5) cA 20 gRhands, ar (ad 6) cA 20 gRslow, ar (ad 7) cA 4 gRahead, ar (ad 8) cA 4 gRdirect] sz) := by
  refine Met.ofW (cc := cX5_readNext) (maxL := 3) (ret := (some .int)) (by decide) rfl ?_
  intro p e s m args below meth c s₁ B hml hv
  obtain ⟨rfl, hsz, hP, hK, hD0⟩ := hv
  have hx := B.exec
  have hb := B.bytes
  have hr := B.returns
  have hts := atoms_spec (ws := wsX5_readNext) B.pre
  have hown : s.vm.findClass RX5 = some m.cls := findClass_of_methodNamed B.named
  have hlocks := B.notSynchronized
  subst hsz
  have hD := hD0.self (sz := s.heap.size)
  generalize hAe : va_A [oRow ad xRow_depth xRow_length xRow_people xRow_scarves xRow_main xRow_faultPlace, ar (ad 2) cA 60 gRtext, ar (ad 3) cA 20 gRkinds, ar (ad 4) cA 20 gRlates, ar (ad 5) cA 20 gRhands, ar (ad 6) cA 20 gRslow, ar (ad 7) cA 4 gRahead, ar (ad 8) cA 4 gRdirect] s.heap.size = A at hD ⊢
  have hA : ∀ q : Nat, s.heap.size ≤ q → A q := fun q h => by rw [← hAe]; exact Or.inr h
  have hS : va_S A s.heap s.heap [] := va_S.rf
  have hl := lv_entry ([.ref (ad 1), .int a1]) (n := 3) (Nat.le_of_ble_eq_true rfl)
  rw [lg_entry_eq]
  generalize (lg_sl ([.ref (ad 1), .int a1]) ++ List.replicate (3 - (lg_sl ([.ref (ad 1), .int a1])).length) Slot.unset).toArray = ls at hl ⊢
  have hl : lv_has ls 3 [(0, .ref (ad 1)), (1, .int a1)] := hl
  refine wk_Q (fun QQ hQ => ?_)
  have hinX5 : ∀ w ∈ wsX50, w ∈ wsX5_readNext := fun w h => List.mem_cons_of_mem _ (inlX5 w h)
  have hl_11 := hts (.fieldLink RX5 11 "HandCensus$Row" "text" "[I") (List.mem_cons_of_mem _ (in_r3 _ (List.mem_of_getElem? (i := 8) rfl)))
  have b_44 : ∀ (s1_44 : Int32) (s2_44 : Int32) (xRow_depth_44 : Int32) (xRow_people_44 : Int32) (xRow_scarves_44 : Int32) (xRow_main_44 : Int32) (xRow_faultPlace_44 : Int32) (gRkinds_44 : Nat → Int32) (gRlates_44 : Nat → Int32) (gRhands_44 : Nat → Int32) (gRslow_44 : Nat → Int32) (gRahead_44 : Nat → Int32) (gRdirect_44 : Nat → Int32), fR_readNext_44 s1_44 s2_44 xRow_depth_44 xRow_people_44 xRow_scarves_44 xRow_main_44 xRow_faultPlace_44 gRkinds_44 gRlates_44 gRhands_44 gRslow_44 gRahead_44 gRdirect_44 = some u → ∀ (H : Heap) (locs : List Loc), va_P (dC, dI) vwCl [oRow ad xRow_depth_44 xRow_length xRow_people_44 xRow_scarves_44 xRow_main_44 xRow_faultPlace_44, ar (ad 2) cA 60 gRtext, ar (ad 3) cA 20 gRkinds_44, ar (ad 4) cA 20 gRlates_44, ar (ad 5) cA 20 gRhands_44, ar (ad 6) cA 20 gRslow_44, ar (ad 7) cA 4 gRahead_44, ar (ad 8) cA 4 gRdirect_44] H → va_D A [oRow ad xRow_depth_44 xRow_length xRow_people_44 xRow_scarves_44 xRow_main_44 xRow_faultPlace_44, ar (ad 2) cA 60 gRtext, ar (ad 3) cA 20 gRkinds_44, ar (ad 4) cA 20 gRlates_44, ar (ad 5) cA 20 gRhands_44, ar (ad 6) cA 20 gRslow_44, ar (ad 7) cA 4 gRahead_44, ar (ad 8) cA 4 gRdirect_44] → va_S A s.heap H locs → ∀ ls : Array Slot, lv_has ls 3 [] → W p l e (headSpec wsX5_readNext ({ frames := 3, cells := 0, slots := 0, locals := 72 })).room s m ([.ref (ad 1), .int a1] : List Value).toArray below meth c H locs 0 0 QQ (F0 m 44 ls [.int s2_44, .int s1_44, .ref (ad 1)]) := by
    intro s1_44 s2_44 xRow_depth_44 xRow_people_44 xRow_scarves_44 xRow_main_44 xRow_faultPlace_44 gRkinds_44 gRlates_44 gRhands_44 gRslow_44 gRahead_44 gRdirect_44 hm H locs hP hD hS ls hl
    unfold fR_readNext_44 at hm
    have hPc := hP.sub (ws' := [oRow ad xRow_depth_44 xRow_length xRow_people_44 xRow_scarves_44 xRow_main_44 xRow_faultPlace_44, ar (ad 5) cA 20 gRhands_44, ar (ad 6) cA 20 gRslow_44, ar (ad 7) cA 4 gRahead_44, ar (ad 8) cA 4 gRdirect_44]) [0, 4, 5, 6, 7] rfl
    have hDc := hD.sub (ws' := [oRow ad xRow_depth_44 xRow_length xRow_people_44 xRow_scarves_44 xRow_main_44 xRow_faultPlace_44, ar (ad 5) cA 20 gRhands_44, ar (ad 6) cA 20 gRslow_44, ar (ad 7) cA 4 gRahead_44, ar (ad 8) cA 4 gRdirect_44]) [0, 4, 5, 6, 7] (by decide) rfl
    have hFc := va_free (wc := [oRow ad xRow_depth_44 xRow_length xRow_people_44 xRow_scarves_44 xRow_main_44 xRow_faultPlace_44, ar (ad 5) cA 20 gRhands_44, ar (ad 6) cA 20 gRslow_44, ar (ad 7) cA 4 gRahead_44, ar (ad 8) cA 4 gRdirect_44]) hD hS hA [0, 4, 5, 6, 7] rfl
    obtain ⟨u_1, hc_1, hm⟩ := bd_ok hm
    refine va_calli (va_runV (As := [.int s1_44, .int s2_44]) (rest := []) ⟨hx, hb, hml, hown, hts⟩ (kR_endFork l dC dI cA ad H.size s1_44 s2_44 xRow_depth_44 xRow_length xRow_people_44 xRow_scarves_44 xRow_main_44 xRow_faultPlace_44 gRhands_44 gRslow_44 gRahead_44 gRdirect_44 u_1 hc_1) (cwV 2 hts gX5_readNext_X5_endFork rfl rfl rfl (by decide +kernel) ⟨Nat.le_of_ble_eq_true rfl, Nat.le_of_ble_eq_true rfl⟩) ⟨fun a U g mk q => by obtain ⟨q0, q1, qP, qK, qD⟩ := q; exact ⟨q0, q1, qP, va_K.moved (u := U) (U := U.calling g mk a) (Vm.Alike.refl U.vm) qK, qD⟩, va_recv hK hPc (ci := 5) (q0 := 0) rfl rfl, fun U hU hW => ⟨rfl, by rw [hU], by rw [hU]; exact hPc, va_K.moved hW.alike hK, hDc.weaken (fun _ _ _ _ => trivial)⟩⟩ rfl rfl hl.1 rfl (lv_room (Nat.le_of_ble_eq_true rfl)) dX5_readNext_44 ⟨Nat.le_of_ble_eq_true rfl, Nat.le_of_ble_eq_true rfl⟩) hS (fun q _ h => hFc q h) hFc (fun r_1 _ t H1 locs ht hvm hw hB hz1 hk1 hS => ?_)
    obtain ⟨hP1, hK1, hD1⟩ := hB
    rw [ht] at hP1
    obtain ⟨hP, hD⟩ := va_join (wr := [ar (ad 2) cA 60 gRtext, ar (ad 3) cA 20 gRkinds_44, ar (ad 4) cA 20 gRlates_44]) (w1 := [oRow ad u_1.2.1 xRow_length xRow_people_44 xRow_scarves_44 xRow_main_44 u_1.2.2.1, ar (ad 5) cA 20 u_1.2.2.2.1, ar (ad 6) cA 20 u_1.2.2.2.2, ar (ad 7) cA 4 gRahead_44, ar (ad 8) cA 4 gRdirect_44]) hP hD [0, 4, 5, 6, 7] [1, 2, 3] rfl rfl (by decide) (by decide) hk1 hFc hP1 hD1
    clear hPc hDc hFc hP1 hK1 hD1 hk1 hz1 hvm ht
    generalize H1 = H at hP hS ⊢
    have hP : va_P (dC, dI) vwCl [oRow ad u_1.2.1 xRow_length xRow_people_44 xRow_scarves_44 xRow_main_44 u_1.2.2.1, ar (ad 2) cA 60 gRtext, ar (ad 3) cA 20 gRkinds_44, ar (ad 4) cA 20 gRlates_44, ar (ad 5) cA 20 u_1.2.2.2.1, ar (ad 6) cA 20 u_1.2.2.2.2, ar (ad 7) cA 4 gRahead_44, ar (ad 8) cA 4 gRdirect_44] H := hP.sub [3, 0, 1, 2, 4, 5, 6, 7] rfl
    have hD : va_D A [oRow ad u_1.2.1 xRow_length xRow_people_44 xRow_scarves_44 xRow_main_44 u_1.2.2.1, ar (ad 2) cA 60 gRtext, ar (ad 3) cA 20 gRkinds_44, ar (ad 4) cA 20 gRlates_44, ar (ad 5) cA 20 u_1.2.2.2.1, ar (ad 6) cA 20 u_1.2.2.2.2, ar (ad 7) cA 4 gRahead_44, ar (ad 8) cA 4 gRdirect_44] := hD.sub [3, 0, 1, 2, 4, 5, 6, 7] (by decide) rfl
    have hw := hw.symm
    subst hw
    obtain rfl := Option.some.inj hm
    subst hQ
    exact W.iret (v := u_1.1) hx hb hr (fun t ht hW => ⟨⟨_, (), rfl, rfl, by rw [ht]; exact hP, va_K.moved hW.alike hK, hAe ▸ hD⟩, hS.F ht⟩) hS.2.2 dX5_readNext_47
  have b_31 : ∀ (v1_31 : Int32) (v2_31 : Int32) (xRow_depth_31 : Int32) (xRow_people_31 : Int32) (xRow_scarves_31 : Int32) (xRow_main_31 : Int32) (xRow_faultPlace_31 : Int32) (gRkinds_31 : Nat → Int32) (gRlates_31 : Nat → Int32) (gRhands_31 : Nat → Int32) (gRslow_31 : Nat → Int32) (gRahead_31 : Nat → Int32) (gRdirect_31 : Nat → Int32), fR_readNext_31 v1_31 v2_31 xRow_depth_31 xRow_people_31 xRow_scarves_31 xRow_main_31 xRow_faultPlace_31 gRkinds_31 gRlates_31 gRhands_31 gRslow_31 gRahead_31 gRdirect_31 = some u → ∀ (H : Heap) (locs : List Loc), va_P (dC, dI) vwCl [oRow ad xRow_depth_31 xRow_length xRow_people_31 xRow_scarves_31 xRow_main_31 xRow_faultPlace_31, ar (ad 2) cA 60 gRtext, ar (ad 3) cA 20 gRkinds_31, ar (ad 4) cA 20 gRlates_31, ar (ad 5) cA 20 gRhands_31, ar (ad 6) cA 20 gRslow_31, ar (ad 7) cA 4 gRahead_31, ar (ad 8) cA 4 gRdirect_31] H → va_D A [oRow ad xRow_depth_31 xRow_length xRow_people_31 xRow_scarves_31 xRow_main_31 xRow_faultPlace_31, ar (ad 2) cA 60 gRtext, ar (ad 3) cA 20 gRkinds_31, ar (ad 4) cA 20 gRlates_31, ar (ad 5) cA 20 gRhands_31, ar (ad 6) cA 20 gRslow_31, ar (ad 7) cA 4 gRahead_31, ar (ad 8) cA 4 gRdirect_31] → va_S A s.heap H locs → ∀ ls : Array Slot, lv_has ls 3 [(0, .ref (ad 1)), (1, .int v1_31), (2, .int v2_31)] → W p l e (headSpec wsX5_readNext ({ frames := 3, cells := 0, slots := 0, locals := 72 })).room s m ([.ref (ad 1), .int a1] : List Value).toArray below meth c H locs 0 0 QQ (F0 m 31 ls []) := by
    intro v1_31 v2_31 xRow_depth_31 xRow_people_31 xRow_scarves_31 xRow_main_31 xRow_faultPlace_31 gRkinds_31 gRlates_31 gRhands_31 gRslow_31 gRahead_31 gRdirect_31 hm H locs hP hD hS ls hl
    unfold fR_readNext_31 at hm
    refine lv_aload_n hx hb dX5_readNext_31 rfl (lv_at hl 0 rfl) ?_
    refine lv_iload_n hx hb dX5_readNext_32 rfl (lv_at hl 1 rfl) ?_
    refine lv_iload_n hx hb dX5_readNext_33 rfl (lv_at hl 2 rfl) ?_
    refine lv_bipush (v := 111) hx hb dX5_readNext_34 (by decide) ?_
    refine lv_icmp_ne (tgt := 43) hx hb dX5_readNext_36 (by decide) (fun c_2 => ?_) (fun c_2 => ?_)
    · have hm := it_neg c_2 hm
      refine lv_iconst (v := 0) hx hb dX5_readNext_43 (by decide) ?_
      exact b_44 _ _ _ _ _ _ _ _ _ _ _ _ _ hm _ _ hP hD hS _ (lv_sub hl [] rfl)
    · have hm := it_pos c_2 hm
      refine lv_iconst (v := 1) hx hb dX5_readNext_39 (by decide) ?_
      refine lv_goto (tgt := 44) hx hb dX5_readNext_40 (by decide) ?_
      exact b_44 _ _ _ _ _ _ _ _ _ _ _ _ _ hm _ _ hP hD hS _ (lv_sub hl [] rfl)
  unfold fR_readNext at hm
  refine lv_aload_n hx hb dX5_readNext_0 rfl (lv_at hl 0 rfl) ?_
  refine va_get (D := (dC, dI)) (ci := 5) (v := .ref (ad 2)) (C := RX5) (T := TX5) (N := 13) hx hb hts hinX5 hown hK hP 0 rfl rfl 0 (by decide) hl_11 (fun _ h9 => h9) rfl dX5_readNext_1 ?_
  refine lv_iload_n hx hb dX5_readNext_4 rfl (lv_at hl 1 rfl) ?_
  obtain ⟨i_3, hm⟩ := ck_ok hm
  refine va_iald hx hb hK hP 1 0 rfl rfl i_3 dX5_readNext_5 ?_
  refine lv_istore_n (lv' := [(2, .int (gRtext a1.toNatClampNeg)), (0, .ref (ad 1)), (1, .int a1)]) hx hb dX5_readNext_6 rfl hl (by decide) rfl (fun ls hl => ?_)
  refine lv_iload_n hx hb dX5_readNext_7 rfl (lv_at hl 0 rfl) ?_
  refine lv_bipush (v := 40) hx hb dX5_readNext_8 (by decide) ?_
  refine lv_icmp_ne (tgt := 19) hx hb dX5_readNext_10 (by decide) (fun c_4 => ?_) (fun c_4 => ?_)
  · have hm := it_neg c_4 hm
    refine lv_iload_n hx hb dX5_readNext_19 rfl (lv_at hl 0 rfl) ?_
    refine lv_bipush (v := 41) hx hb dX5_readNext_20 (by decide) ?_
    refine lv_icmp_eq (tgt := 31) hx hb dX5_readNext_22 (by decide) (fun c_5 => ?_) (fun c_5 => ?_)
    · have hm := it_pos c_5 hm
      exact b_31 _ _ _ _ _ _ _ _ _ _ _ _ _ hm _ _ hP hD hS _ (lv_sub hl [1, 2, 0] rfl)
    · have hm := it_neg c_5 hm
      refine lv_iload_n hx hb dX5_readNext_25 rfl (lv_at hl 0 rfl) ?_
      refine lv_bipush (v := 111) hx hb dX5_readNext_26 (by decide) ?_
      refine lv_icmp_ne (tgt := 48) hx hb dX5_readNext_28 (by decide) (fun c_6 => ?_) (fun c_6 => ?_)
      · have hm := it_neg c_6 hm
        refine lv_aload_n hx hb dX5_readNext_48 rfl (lv_at hl 1 rfl) ?_
        refine lv_iload_n hx hb dX5_readNext_49 rfl (lv_at hl 2 rfl) ?_
        have hPc := hP.sub (ws' := [oRow ad xRow_depth xRow_length xRow_people xRow_scarves xRow_main xRow_faultPlace, ar (ad 2) cA 60 gRtext, ar (ad 3) cA 20 gRkinds, ar (ad 4) cA 20 gRlates, ar (ad 5) cA 20 gRhands, ar (ad 6) cA 20 gRslow, ar (ad 7) cA 4 gRahead, ar (ad 8) cA 4 gRdirect]) [0, 1, 2, 3, 4, 5, 6, 7] rfl
        have hDc := hD.sub (ws' := [oRow ad xRow_depth xRow_length xRow_people xRow_scarves xRow_main xRow_faultPlace, ar (ad 2) cA 60 gRtext, ar (ad 3) cA 20 gRkinds, ar (ad 4) cA 20 gRlates, ar (ad 5) cA 20 gRhands, ar (ad 6) cA 20 gRslow, ar (ad 7) cA 4 gRahead, ar (ad 8) cA 4 gRdirect]) [0, 1, 2, 3, 4, 5, 6, 7] (by decide) rfl
        have hFc := va_free (wc := [oRow ad xRow_depth xRow_length xRow_people xRow_scarves xRow_main xRow_faultPlace, ar (ad 2) cA 60 gRtext, ar (ad 3) cA 20 gRkinds, ar (ad 4) cA 20 gRlates, ar (ad 5) cA 20 gRhands, ar (ad 6) cA 20 gRslow, ar (ad 7) cA 4 gRahead, ar (ad 8) cA 4 gRdirect]) hD hS hA [0, 1, 2, 3, 4, 5, 6, 7] rfl
        obtain ⟨u_7, hc_7, hm⟩ := bd_ok hm
        refine va_calli (va_runV (As := [.int a1]) (rest := []) ⟨hx, hb, hml, hown, hts⟩ (kR_readPerson l dC dI cA ad s.heap.size a1 xRow_depth xRow_length xRow_people xRow_scarves xRow_main xRow_faultPlace gRtext gRkinds gRlates gRhands gRslow gRahead gRdirect u_7 hc_7) (cwV 1 hts gX5_readNext_X5_readPerson rfl rfl rfl (by decide +kernel) ⟨Nat.le_of_ble_eq_true rfl, Nat.le_of_ble_eq_true rfl⟩) ⟨fun a U g mk q => by obtain ⟨q0, q1, qP, qK, qD⟩ := q; exact ⟨q0, q1, qP, va_K.moved (u := U) (U := U.calling g mk a) (Vm.Alike.refl U.vm) qK, qD⟩, va_recv hK hPc (ci := 5) (q0 := 0) rfl rfl, fun U hU hW => ⟨rfl, by rw [hU], by rw [hU]; exact hPc, va_K.moved hW.alike hK, hDc.weaken (fun _ _ _ _ => trivial)⟩⟩ rfl rfl hl.1 rfl (lv_room (Nat.le_of_ble_eq_true rfl)) dX5_readNext_50 ⟨Nat.le_of_ble_eq_true rfl, Nat.le_of_ble_eq_true rfl⟩) hS (fun q _ h => hFc q h) hFc (fun r_7 _ t H1 locs ht hvm hw hB hz1 hk1 hS => ?_)
        obtain ⟨hP1, hK1, hD1⟩ := hB
        rw [ht] at hP1
        obtain ⟨hP, hD⟩ := va_join (wr := []) (w1 := [oRow ad xRow_depth xRow_length u_7.2.1 u_7.2.2.1 u_7.2.2.2.1 u_7.2.2.2.2.1, ar (ad 2) cA 60 gRtext, ar (ad 3) cA 20 u_7.2.2.2.2.2.1, ar (ad 4) cA 20 u_7.2.2.2.2.2.2.1, ar (ad 5) cA 20 u_7.2.2.2.2.2.2.2.1, ar (ad 6) cA 20 u_7.2.2.2.2.2.2.2.2.1, ar (ad 7) cA 4 u_7.2.2.2.2.2.2.2.2.2.1, ar (ad 8) cA 4 u_7.2.2.2.2.2.2.2.2.2.2]) hP hD [0, 1, 2, 3, 4, 5, 6, 7] [] rfl rfl (by decide) (by decide) hk1 hFc hP1 hD1
        clear hPc hDc hFc hP1 hK1 hD1 hk1 hz1 hvm ht
        generalize H1 = H at hP hS ⊢
        have hP : va_P (dC, dI) vwCl [oRow ad xRow_depth xRow_length u_7.2.1 u_7.2.2.1 u_7.2.2.2.1 u_7.2.2.2.2.1, ar (ad 2) cA 60 gRtext, ar (ad 3) cA 20 u_7.2.2.2.2.2.1, ar (ad 4) cA 20 u_7.2.2.2.2.2.2.1, ar (ad 5) cA 20 u_7.2.2.2.2.2.2.2.1, ar (ad 6) cA 20 u_7.2.2.2.2.2.2.2.2.1, ar (ad 7) cA 4 u_7.2.2.2.2.2.2.2.2.2.1, ar (ad 8) cA 4 u_7.2.2.2.2.2.2.2.2.2.2] H := hP
        have hD : va_D A [oRow ad xRow_depth xRow_length u_7.2.1 u_7.2.2.1 u_7.2.2.2.1 u_7.2.2.2.2.1, ar (ad 2) cA 60 gRtext, ar (ad 3) cA 20 u_7.2.2.2.2.2.1, ar (ad 4) cA 20 u_7.2.2.2.2.2.2.1, ar (ad 5) cA 20 u_7.2.2.2.2.2.2.2.1, ar (ad 6) cA 20 u_7.2.2.2.2.2.2.2.2.1, ar (ad 7) cA 4 u_7.2.2.2.2.2.2.2.2.2.1, ar (ad 8) cA 4 u_7.2.2.2.2.2.2.2.2.2.2] := hD
        have hw := hw.symm
        subst hw
        obtain rfl := Option.some.inj hm
        subst hQ
        exact W.iret (v := u_7.1) hx hb hr (fun t ht hW => ⟨⟨_, (), rfl, rfl, by rw [ht]; exact hP, va_K.moved hW.alike hK, hAe ▸ hD⟩, hS.F ht⟩) hS.2.2 dX5_readNext_53
      · have hm := it_pos c_6 hm
        exact b_31 _ _ _ _ _ _ _ _ _ _ _ _ _ hm _ _ hP hD hS _ (lv_sub hl [1, 2, 0] rfl)
  · have hm := it_pos c_4 hm
    refine lv_aload_n hx hb dX5_readNext_13 rfl (lv_at hl 1 rfl) ?_
    refine lv_iload_n hx hb dX5_readNext_14 rfl (lv_at hl 2 rfl) ?_
    have hPc := hP.sub (ws' := [oRow ad xRow_depth xRow_length xRow_people xRow_scarves xRow_main xRow_faultPlace, ar (ad 7) cA 4 gRahead, ar (ad 8) cA 4 gRdirect]) [0, 6, 7] rfl
    have hDc := hD.sub (ws' := [oRow ad xRow_depth xRow_length xRow_people xRow_scarves xRow_main xRow_faultPlace, ar (ad 7) cA 4 gRahead, ar (ad 8) cA 4 gRdirect]) [0, 6, 7] (by decide) rfl
    have hFc := va_free (wc := [oRow ad xRow_depth xRow_length xRow_people xRow_scarves xRow_main xRow_faultPlace, ar (ad 7) cA 4 gRahead, ar (ad 8) cA 4 gRdirect]) hD hS hA [0, 6, 7] rfl
    obtain ⟨u_8, hc_8, hm⟩ := bd_ok hm
    refine va_calli (va_runV (As := [.int a1]) (rest := []) ⟨hx, hb, hml, hown, hts⟩ (kR_openFork l dC dI cA ad s.heap.size a1 xRow_depth xRow_length xRow_people xRow_scarves xRow_main xRow_faultPlace gRahead gRdirect u_8 hc_8) (cwV 1 hts gX5_readNext_X5_openFork rfl rfl rfl (by decide +kernel) ⟨Nat.le_of_ble_eq_true rfl, Nat.le_of_ble_eq_true rfl⟩) ⟨fun a U g mk q => by obtain ⟨q0, q1, qP, qK, qD⟩ := q; exact ⟨q0, q1, qP, va_K.moved (u := U) (U := U.calling g mk a) (Vm.Alike.refl U.vm) qK, qD⟩, va_recv hK hPc (ci := 5) (q0 := 0) rfl rfl, fun U hU hW => ⟨rfl, by rw [hU], by rw [hU]; exact hPc, va_K.moved hW.alike hK, hDc.weaken (fun _ _ _ _ => trivial)⟩⟩ rfl rfl hl.1 rfl (lv_room (Nat.le_of_ble_eq_true rfl)) dX5_readNext_15 ⟨Nat.le_of_ble_eq_true rfl, Nat.le_of_ble_eq_true rfl⟩) hS (fun q _ h => hFc q h) hFc (fun r_8 _ t H1 locs ht hvm hw hB hz1 hk1 hS => ?_)
    obtain ⟨hP1, hK1, hD1⟩ := hB
    rw [ht] at hP1
    obtain ⟨hP, hD⟩ := va_join (wr := [ar (ad 2) cA 60 gRtext, ar (ad 3) cA 20 gRkinds, ar (ad 4) cA 20 gRlates, ar (ad 5) cA 20 gRhands, ar (ad 6) cA 20 gRslow]) (w1 := [oRow ad u_8.2.1 xRow_length xRow_people xRow_scarves xRow_main u_8.2.2.1, ar (ad 7) cA 4 u_8.2.2.2.1, ar (ad 8) cA 4 u_8.2.2.2.2]) hP hD [0, 6, 7] [1, 2, 3, 4, 5] rfl rfl (by decide) (by decide) hk1 hFc hP1 hD1
    clear hPc hDc hFc hP1 hK1 hD1 hk1 hz1 hvm ht
    generalize H1 = H at hP hS ⊢
    have hP : va_P (dC, dI) vwCl [oRow ad u_8.2.1 xRow_length xRow_people xRow_scarves xRow_main u_8.2.2.1, ar (ad 2) cA 60 gRtext, ar (ad 3) cA 20 gRkinds, ar (ad 4) cA 20 gRlates, ar (ad 5) cA 20 gRhands, ar (ad 6) cA 20 gRslow, ar (ad 7) cA 4 u_8.2.2.2.1, ar (ad 8) cA 4 u_8.2.2.2.2] H := hP.sub [5, 0, 1, 2, 3, 4, 6, 7] rfl
    have hD : va_D A [oRow ad u_8.2.1 xRow_length xRow_people xRow_scarves xRow_main u_8.2.2.1, ar (ad 2) cA 60 gRtext, ar (ad 3) cA 20 gRkinds, ar (ad 4) cA 20 gRlates, ar (ad 5) cA 20 gRhands, ar (ad 6) cA 20 gRslow, ar (ad 7) cA 4 u_8.2.2.2.1, ar (ad 8) cA 4 u_8.2.2.2.2] := hD.sub [5, 0, 1, 2, 3, 4, 6, 7] (by decide) rfl
    have hw := hw.symm
    subst hw
    obtain rfl := Option.some.inj hm
    subst hQ
    exact W.iret (v := u_8.1) hx hb hr (fun t ht hW => ⟨⟨_, (), rfl, rfl, by rw [ht]; exact hP, va_K.moved hW.alike hK, hAe ▸ hD⟩, hS.F ht⟩) hS.2.2 dX5_readNext_18

set_option maxHeartbeats 4000000 in
set_option maxRecDepth 100000 in
theorem kR_readText (l : Launch) (dC : Nat → ClassId) (dI : Nat → Nat → Nat) (cA : ClassId) (ad : Nat → Nat) (sz : Nat) (xRow_depth : Int32) (xRow_length : Int32) (xRow_people : Int32) (xRow_scarves : Int32) (xRow_main : Int32) (xRow_faultPlace : Int32) (gRtext : Nat → Int32) (gRkinds : Nat → Int32) (gRlates : Nat → Int32) (gRhands : Nat → Int32) (gRslow : Nat → Int32) (gRahead : Nat → Int32) (gRdirect : Nat → Int32) (u : Int32 × Int32 × Int32 × Int32 × Int32 × (Nat → Int32) × (Nat → Int32) × (Nat → Int32) × (Nat → Int32) × (Nat → Int32) × (Nat → Int32)) (hm : fR_readText xRow_depth xRow_length xRow_people xRow_scarves xRow_main xRow_faultPlace gRtext gRkinds gRlates gRhands gRslow gRahead gRdirect = some u) : Met l yX5_readText wsX5_readText ({ frames := 4, cells := 0, slots := 0, locals := 94 }) (va_Pc [.ref (ad 1)] (fun U => U.heap.size = sz ∧ va_P (dC, dI) vwCl [oRow ad xRow_depth xRow_length xRow_people xRow_scarves xRow_main xRow_faultPlace, ar (ad 2) cA 60 gRtext, ar (ad 3) cA 20 gRkinds, ar (ad 4) cA 20 gRlates, ar (ad 5) cA 20 gRhands, ar (ad 6) cA 20 gRslow, ar (ad 7) cA 4 gRahead, ar (ad 8) cA 4 gRdirect] U.heap ∧ va_K (dC, dI) vwCl [(cA, .int)] U ∧ va_D (fun _ => True) [oRow ad xRow_depth xRow_length xRow_people xRow_scarves xRow_main xRow_faultPlace, ar (ad 2) cA 60 gRtext, ar (ad 3) cA 20 gRkinds, ar (ad 4) cA 20 gRlates, ar (ad 5) cA 20 gRhands, ar (ad 6) cA 20 gRslow, ar (ad 7) cA 4 gRahead, ar (ad 8) cA 4 gRdirect])) (va_Qv (fun (_ : Unit) => True) (fun (_ : Unit) t => va_P (dC, dI) vwCl [oRow ad u.1 xRow_length u.2.1 u.2.2.1 u.2.2.2.1 u.2.2.2.2.1, ar (ad 2) cA 60 gRtext, ar (ad 3) cA 20 u.2.2.2.2.2.1, ar (ad 4) cA 20 u.2.2.2.2.2.2.1, ar (ad 5) cA 20 u.2.2.2.2.2.2.2.1, ar (ad 6) cA 20 u.2.2.2.2.2.2.2.2.1, ar (ad 7) cA 4 u.2.2.2.2.2.2.2.2.2.1, ar (ad 8) cA 4 u.2.2.2.2.2.2.2.2.2.2] t.heap ∧ va_K (dC, dI) vwCl [(cA, .int)] t ∧ va_D (va_A [oRow ad xRow_depth xRow_length xRow_people xRow_scarves xRow_main xRow_faultPlace, ar (ad 2) cA 60 gRtext, ar (ad 3) cA 20 gRkinds, ar (ad 4) cA 20 gRlates, ar (ad 5) cA 20 gRhands, ar (ad 6) cA 20 gRslow, ar (ad 7) cA 4 gRahead, ar (ad 8) cA 4 gRdirect] sz) [oRow ad u.1 xRow_length u.2.1 u.2.2.1 u.2.2.2.1 u.2.2.2.2.1, ar (ad 2) cA 60 gRtext, ar (ad 3) cA 20 u.2.2.2.2.2.1, ar (ad 4) cA 20 u.2.2.2.2.2.2.1, ar (ad 5) cA 20 u.2.2.2.2.2.2.2.1, ar (ad 6) cA 20 u.2.2.2.2.2.2.2.2.1, ar (ad 7) cA 4 u.2.2.2.2.2.2.2.2.2.1, ar (ad 8) cA 4 u.2.2.2.2.2.2.2.2.2.2]) (va_A [oRow ad xRow_depth xRow_length xRow_people xRow_scarves xRow_main xRow_faultPlace, ar (ad 2) cA 60 gRtext, ar (ad 3) cA 20 gRkinds, ar (ad 4) cA 20 gRlates, ar (ad 5) cA 20 gRhands, ar (ad 6) cA 20 gRslow, ar (ad 7) cA 4 gRahead, ar (ad 8) cA 4 gRdirect] sz)) 0 0 (va_A [oRow ad xRow_depth xRow_length xRow_people xRow_scarves xRow_main xRow_faultPlace, ar (ad 2) cA 60 gRtext, ar (ad 3) cA 20 gRkinds, ar (ad 4) cA 20 gRlates, ar (ad 5) cA 20 gRhands, ar (ad 6) cA 20 gRslow, ar (ad 7) cA 4 gRahead, ar (ad 8) cA 4 gRdirect] sz) := by
  refine Met.ofW (cc := cX5_readText) (maxL := 3) (ret := none) (by decide) rfl ?_
  intro p e s m args below meth c s₁ B hml hv
  obtain ⟨rfl, hsz, hP, hK, hD0⟩ := hv
  have hx := B.exec
  have hb := B.bytes
  have hr := B.returns
  have hts := atoms_spec (ws := wsX5_readText) B.pre
  have hown : s.vm.findClass RX5 = some m.cls := findClass_of_methodNamed B.named
  have hlocks := B.notSynchronized
  subst hsz
  have hD := hD0.self (sz := s.heap.size)
  generalize hAe : va_A [oRow ad xRow_depth xRow_length xRow_people xRow_scarves xRow_main xRow_faultPlace, ar (ad 2) cA 60 gRtext, ar (ad 3) cA 20 gRkinds, ar (ad 4) cA 20 gRlates, ar (ad 5) cA 20 gRhands, ar (ad 6) cA 20 gRslow, ar (ad 7) cA 4 gRahead, ar (ad 8) cA 4 gRdirect] s.heap.size = A at hD ⊢
  have hA : ∀ q : Nat, s.heap.size ≤ q → A q := fun q h => by rw [← hAe]; exact Or.inr h
  have hS : va_S A s.heap s.heap [] := va_S.rf
  have hl := lv_entry ([.ref (ad 1)]) (n := 3) (Nat.le_of_ble_eq_true rfl)
  rw [lg_entry_eq]
  generalize (lg_sl ([.ref (ad 1)]) ++ List.replicate (3 - (lg_sl ([.ref (ad 1)])).length) Slot.unset).toArray = ls at hl ⊢
  have hl : lv_has ls 3 [(0, .ref (ad 1))] := hl
  refine wk_Q (fun QQ hQ => ?_)
  have hinX5 : ∀ w ∈ wsX50, w ∈ wsX5_readText := fun w h => List.mem_cons_of_mem _ (inlX5 w h)
  have hl_33 := hts (.fieldLink RX5 33 "HandCensus$Row" "faultPlace" "I") (List.mem_cons_of_mem _ (in_r3 _ (List.mem_of_getElem? (i := 15) rfl)))
  have hl_43 := hts (.fieldLink RX5 43 "HandCensus$Row" "people" "I") (List.mem_cons_of_mem _ (in_r8 _ (List.mem_of_getElem? (i := 18) rfl)))
  have hl_61 := hts (.fieldLink RX5 61 "HandCensus$Row" "main" "I") (List.mem_cons_of_mem _ (in_r8 _ (List.mem_of_getElem? (i := 19) rfl)))
  have hl_58 := hts (.fieldLink RX5 58 "HandCensus$Row" "depth" "I") (List.mem_cons_of_mem _ (in_r8 _ (List.mem_of_getElem? (i := 17) rfl)))
  have hl_37 := hts (.fieldLink RX5 37 "HandCensus$Row" "length" "I") (List.mem_cons_of_mem _ (in_r8 _ (List.mem_of_getElem? (i := 12) rfl)))
  have b_65 : ∀ (xRow_depth_65 : Int32) (xRow_people_65 : Int32) (xRow_scarves_65 : Int32) (xRow_main_65 : Int32) (xRow_faultPlace_65 : Int32) (gRkinds_65 : Nat → Int32) (gRlates_65 : Nat → Int32) (gRhands_65 : Nat → Int32) (gRslow_65 : Nat → Int32) (gRahead_65 : Nat → Int32) (gRdirect_65 : Nat → Int32), fR_readText_65 xRow_depth_65 xRow_people_65 xRow_scarves_65 xRow_main_65 xRow_faultPlace_65 gRkinds_65 gRlates_65 gRhands_65 gRslow_65 gRahead_65 gRdirect_65 = some u → ∀ (H : Heap) (locs : List Loc), va_P (dC, dI) vwCl [oRow ad xRow_depth_65 xRow_length xRow_people_65 xRow_scarves_65 xRow_main_65 xRow_faultPlace_65, ar (ad 2) cA 60 gRtext, ar (ad 3) cA 20 gRkinds_65, ar (ad 4) cA 20 gRlates_65, ar (ad 5) cA 20 gRhands_65, ar (ad 6) cA 20 gRslow_65, ar (ad 7) cA 4 gRahead_65, ar (ad 8) cA 4 gRdirect_65] H → va_D A [oRow ad xRow_depth_65 xRow_length xRow_people_65 xRow_scarves_65 xRow_main_65 xRow_faultPlace_65, ar (ad 2) cA 60 gRtext, ar (ad 3) cA 20 gRkinds_65, ar (ad 4) cA 20 gRlates_65, ar (ad 5) cA 20 gRhands_65, ar (ad 6) cA 20 gRslow_65, ar (ad 7) cA 4 gRahead_65, ar (ad 8) cA 4 gRdirect_65] → va_S A s.heap H locs → ∀ ls : Array Slot, lv_has ls 3 [(0, .ref (ad 1))] → W p l e (headSpec wsX5_readText ({ frames := 4, cells := 0, slots := 0, locals := 94 })).room s m ([.ref (ad 1)] : List Value).toArray below meth c H locs 0 0 QQ (F0 m 65 ls []) := by
    intro xRow_depth_65 xRow_people_65 xRow_scarves_65 xRow_main_65 xRow_faultPlace_65 gRkinds_65 gRlates_65 gRhands_65 gRslow_65 gRahead_65 gRdirect_65 hm H locs hP hD hS ls hl
    unfold fR_readText_65 at hm
    refine lv_aload_n hx hb dX5_readText_65 rfl (lv_at hl 0 rfl) ?_
    refine va_get (D := (dC, dI)) (ci := 5) (v := .int xRow_faultPlace_65) (C := RX5) (T := TX5) (N := 13) hx hb hts hinX5 hown hK hP 0 rfl rfl 12 (by decide) hl_33 (fun _ h9 => h9) rfl dX5_readText_66 ?_
    refine lv_iconst (v := (-1)) hx hb dX5_readText_69 (by decide) ?_
    refine lv_icmp_eq (tgt := 83) hx hb dX5_readText_70 (by decide) (fun c_1 => ?_) (fun c_1 => ?_)
    · have hm := it_pos c_1 hm
      obtain rfl := Option.some.inj hm
      subst hQ
      exact W.vret hx hb hr (fun t ht hW => ⟨⟨(), rfl, trivial, by rw [ht]; exact hP, va_K.moved hW.alike hK, hAe ▸ hD⟩, hS.F ht⟩) hS.2.2 dX5_readText_83
    · have hm := it_neg c_1 hm
      refine lv_aload_n hx hb dX5_readText_73 rfl (lv_at hl 0 rfl) ?_
      refine lv_iconst (v := 0) hx hb dX5_readText_74 (by decide) ?_
      refine va_put (D := (dC, dI)) (ci := 5) (v := .int 0) (ty := .int) (C := RX5) (T := TX5) (N := 13) hx hb hts hinX5 tyX5 tyX5_ok nmX5 hown hK hP hD hS 0 rfl rfl 9 (by decide) hl_43 (fun _ h9 => h9) rfl (by decide +kernel) rfl rfl (Nat.le_of_ble_eq_true rfl) dX5_readText_75 (fun H locs hP hD hS => ?_)
      have hP : va_P (dC, dI) vwCl [oRow ad xRow_depth_65 xRow_length 0 xRow_scarves_65 xRow_main_65 xRow_faultPlace_65, ar (ad 2) cA 60 gRtext, ar (ad 3) cA 20 gRkinds_65, ar (ad 4) cA 20 gRlates_65, ar (ad 5) cA 20 gRhands_65, ar (ad 6) cA 20 gRslow_65, ar (ad 7) cA 4 gRahead_65, ar (ad 8) cA 4 gRdirect_65] H := hP
      have hD : va_D A [oRow ad xRow_depth_65 xRow_length 0 xRow_scarves_65 xRow_main_65 xRow_faultPlace_65, ar (ad 2) cA 60 gRtext, ar (ad 3) cA 20 gRkinds_65, ar (ad 4) cA 20 gRlates_65, ar (ad 5) cA 20 gRhands_65, ar (ad 6) cA 20 gRslow_65, ar (ad 7) cA 4 gRahead_65, ar (ad 8) cA 4 gRdirect_65] := hD
      refine lv_aload_n hx hb dX5_readText_78 rfl (lv_at hl 0 rfl) ?_
      refine lv_iconst (v := 0) hx hb dX5_readText_79 (by decide) ?_
      refine va_put (D := (dC, dI)) (ci := 5) (v := .int 0) (ty := .int) (C := RX5) (T := TX5) (N := 13) hx hb hts hinX5 tyX5 tyX5_ok nmX5 hown hK hP hD hS 0 rfl rfl 11 (by decide) hl_61 (fun _ h9 => h9) rfl (by decide +kernel) rfl rfl (Nat.le_of_ble_eq_true rfl) dX5_readText_80 (fun H locs hP hD hS => ?_)
      have hP : va_P (dC, dI) vwCl [oRow ad xRow_depth_65 xRow_length 0 xRow_scarves_65 0 xRow_faultPlace_65, ar (ad 2) cA 60 gRtext, ar (ad 3) cA 20 gRkinds_65, ar (ad 4) cA 20 gRlates_65, ar (ad 5) cA 20 gRhands_65, ar (ad 6) cA 20 gRslow_65, ar (ad 7) cA 4 gRahead_65, ar (ad 8) cA 4 gRdirect_65] H := hP
      have hD : va_D A [oRow ad xRow_depth_65 xRow_length 0 xRow_scarves_65 0 xRow_faultPlace_65, ar (ad 2) cA 60 gRtext, ar (ad 3) cA 20 gRkinds_65, ar (ad 4) cA 20 gRlates_65, ar (ad 5) cA 20 gRhands_65, ar (ad 6) cA 20 gRslow_65, ar (ad 7) cA 4 gRahead_65, ar (ad 8) cA 4 gRdirect_65] := hD
      obtain rfl := Option.some.inj hm
      subst hQ
      exact W.vret hx hb hr (fun t ht hW => ⟨⟨(), rfl, trivial, by rw [ht]; exact hP, va_K.moved hW.alike hK, hAe ▸ hD⟩, hS.F ht⟩) hS.2.2 dX5_readText_83
  have b_42 : ∀ (xRow_depth_42 : Int32) (xRow_people_42 : Int32) (xRow_scarves_42 : Int32) (xRow_main_42 : Int32) (xRow_faultPlace_42 : Int32) (gRkinds_42 : Nat → Int32) (gRlates_42 : Nat → Int32) (gRhands_42 : Nat → Int32) (gRslow_42 : Nat → Int32) (gRahead_42 : Nat → Int32) (gRdirect_42 : Nat → Int32), fR_readText_42 xRow_depth_42 xRow_length xRow_people_42 xRow_scarves_42 xRow_main_42 xRow_faultPlace_42 gRkinds_42 gRlates_42 gRhands_42 gRslow_42 gRahead_42 gRdirect_42 = some u → ∀ (H : Heap) (locs : List Loc), va_P (dC, dI) vwCl [oRow ad xRow_depth_42 xRow_length xRow_people_42 xRow_scarves_42 xRow_main_42 xRow_faultPlace_42, ar (ad 2) cA 60 gRtext, ar (ad 3) cA 20 gRkinds_42, ar (ad 4) cA 20 gRlates_42, ar (ad 5) cA 20 gRhands_42, ar (ad 6) cA 20 gRslow_42, ar (ad 7) cA 4 gRahead_42, ar (ad 8) cA 4 gRdirect_42] H → va_D A [oRow ad xRow_depth_42 xRow_length xRow_people_42 xRow_scarves_42 xRow_main_42 xRow_faultPlace_42, ar (ad 2) cA 60 gRtext, ar (ad 3) cA 20 gRkinds_42, ar (ad 4) cA 20 gRlates_42, ar (ad 5) cA 20 gRhands_42, ar (ad 6) cA 20 gRslow_42, ar (ad 7) cA 4 gRahead_42, ar (ad 8) cA 4 gRdirect_42] → va_S A s.heap H locs → ∀ ls : Array Slot, lv_has ls 3 [(0, .ref (ad 1))] → W p l e (headSpec wsX5_readText ({ frames := 4, cells := 0, slots := 0, locals := 94 })).room s m ([.ref (ad 1)] : List Value).toArray below meth c H locs 0 0 QQ (F0 m 42 ls []) := by
    intro xRow_depth_42 xRow_people_42 xRow_scarves_42 xRow_main_42 xRow_faultPlace_42 gRkinds_42 gRlates_42 gRhands_42 gRslow_42 gRahead_42 gRdirect_42 hm H locs hP hD hS ls hl
    unfold fR_readText_42 at hm
    refine lv_aload_n hx hb dX5_readText_42 rfl (lv_at hl 0 rfl) ?_
    refine va_get (D := (dC, dI)) (ci := 5) (v := .int xRow_faultPlace_42) (C := RX5) (T := TX5) (N := 13) hx hb hts hinX5 hown hK hP 0 rfl rfl 12 (by decide) hl_33 (fun _ h9 => h9) rfl dX5_readText_43 ?_
    refine lv_iconst (v := (-1)) hx hb dX5_readText_46 (by decide) ?_
    refine lv_icmp_ne (tgt := 65) hx hb dX5_readText_47 (by decide) (fun c_2 => ?_) (fun c_2 => ?_)
    · have hm := it_neg c_2 hm
      exact b_65 _ _ _ _ _ _ _ _ _ _ _ hm _ _ hP hD hS _ (lv_sub hl [0] rfl)
    · have hm := it_pos c_2 hm
      refine lv_aload_n hx hb dX5_readText_50 rfl (lv_at hl 0 rfl) ?_
      refine va_get (D := (dC, dI)) (ci := 5) (v := .int xRow_depth_42) (C := RX5) (T := TX5) (N := 13) hx hb hts hinX5 hown hK hP 0 rfl rfl 7 (by decide) hl_58 (fun _ h9 => h9) rfl dX5_readText_51 ?_
      refine lv_if_le (tgt := 65) hx hb dX5_readText_54 (by decide) (fun c_3 => ?_) (fun c_3 => ?_)
      · have hm := it_pos c_3 hm
        exact b_65 _ _ _ _ _ _ _ _ _ _ _ hm _ _ hP hD hS _ (lv_sub hl [0] rfl)
      · have hm := it_neg c_3 hm
        refine lv_aload_n hx hb dX5_readText_57 rfl (lv_at hl 0 rfl) ?_
        refine lv_aload_n hx hb dX5_readText_58 rfl (lv_at hl 0 rfl) ?_
        refine va_get (D := (dC, dI)) (ci := 5) (v := .int xRow_length) (C := RX5) (T := TX5) (N := 13) hx hb hts hinX5 hown hK hP 0 rfl rfl 8 (by decide) hl_37 (fun _ h9 => h9) rfl dX5_readText_59 ?_
        refine va_put (D := (dC, dI)) (ci := 5) (v := .int xRow_length) (ty := .int) (C := RX5) (T := TX5) (N := 13) hx hb hts hinX5 tyX5 tyX5_ok nmX5 hown hK hP hD hS 0 rfl rfl 12 (by decide) hl_33 (fun _ h9 => h9) rfl (by decide +kernel) rfl rfl (Nat.le_of_ble_eq_true rfl) dX5_readText_62 (fun H locs hP hD hS => ?_)
        have hP : va_P (dC, dI) vwCl [oRow ad xRow_depth_42 xRow_length xRow_people_42 xRow_scarves_42 xRow_main_42 xRow_length, ar (ad 2) cA 60 gRtext, ar (ad 3) cA 20 gRkinds_42, ar (ad 4) cA 20 gRlates_42, ar (ad 5) cA 20 gRhands_42, ar (ad 6) cA 20 gRslow_42, ar (ad 7) cA 4 gRahead_42, ar (ad 8) cA 4 gRdirect_42] H := hP
        have hD : va_D A [oRow ad xRow_depth_42 xRow_length xRow_people_42 xRow_scarves_42 xRow_main_42 xRow_length, ar (ad 2) cA 60 gRtext, ar (ad 3) cA 20 gRkinds_42, ar (ad 4) cA 20 gRlates_42, ar (ad 5) cA 20 gRhands_42, ar (ad 6) cA 20 gRslow_42, ar (ad 7) cA 4 gRahead_42, ar (ad 8) cA 4 gRdirect_42] := hD
        exact b_65 _ _ _ _ _ _ _ _ _ _ _ hm _ _ hP hD hS _ (lv_sub hl [0] rfl)
  have h_8 : ∀ (n_8 : Nat), ∀ (v1_8 : Int32) (v2_8 : Int32) (xRow_depth_8 : Int32) (xRow_people_8 : Int32) (xRow_scarves_8 : Int32) (xRow_main_8 : Int32) (xRow_faultPlace_8 : Int32) (gRkinds_8 : Nat → Int32) (gRlates_8 : Nat → Int32) (gRhands_8 : Nat → Int32) (gRslow_8 : Nat → Int32) (gRahead_8 : Nat → Int32) (gRdirect_8 : Nat → Int32), fR_readText_8 xRow_length gRtext n_8 v1_8 v2_8 xRow_depth_8 xRow_people_8 xRow_scarves_8 xRow_main_8 xRow_faultPlace_8 gRkinds_8 gRlates_8 gRhands_8 gRslow_8 gRahead_8 gRdirect_8 = some u → ∀ (H : Heap) (locs : List Loc), va_P (dC, dI) vwCl [oRow ad xRow_depth_8 xRow_length xRow_people_8 xRow_scarves_8 xRow_main_8 xRow_faultPlace_8, ar (ad 2) cA 60 gRtext, ar (ad 3) cA 20 gRkinds_8, ar (ad 4) cA 20 gRlates_8, ar (ad 5) cA 20 gRhands_8, ar (ad 6) cA 20 gRslow_8, ar (ad 7) cA 4 gRahead_8, ar (ad 8) cA 4 gRdirect_8] H → va_D A [oRow ad xRow_depth_8 xRow_length xRow_people_8 xRow_scarves_8 xRow_main_8 xRow_faultPlace_8, ar (ad 2) cA 60 gRtext, ar (ad 3) cA 20 gRkinds_8, ar (ad 4) cA 20 gRlates_8, ar (ad 5) cA 20 gRhands_8, ar (ad 6) cA 20 gRslow_8, ar (ad 7) cA 4 gRahead_8, ar (ad 8) cA 4 gRdirect_8] → va_S A s.heap H locs → ∀ ls : Array Slot, lv_has ls 3 [(0, .ref (ad 1)), (1, .int v1_8), (2, .int v2_8)] → W p l e (headSpec wsX5_readText ({ frames := 4, cells := 0, slots := 0, locals := 94 })).room s m ([.ref (ad 1)] : List Value).toArray below meth c H locs 0 0 QQ (F0 m 8 ls []) := by
    intro n_8
    induction n_8 with
    | zero => intro v1_8 v2_8 xRow_depth_8 xRow_people_8 xRow_scarves_8 xRow_main_8 xRow_faultPlace_8 gRkinds_8 gRlates_8 gRhands_8 gRslow_8 gRahead_8 gRdirect_8 hm; have hm : (none : Option (Int32 × Int32 × Int32 × Int32 × Int32 × (Nat → Int32) × (Nat → Int32) × (Nat → Int32) × (Nat → Int32) × (Nat → Int32) × (Nat → Int32))) = some u := hm; cases hm
    | succ n_8 ih_8 =>
      intro v1_8 v2_8 xRow_depth_8 xRow_people_8 xRow_scarves_8 xRow_main_8 xRow_faultPlace_8 gRkinds_8 gRlates_8 gRhands_8 gRslow_8 gRahead_8 gRdirect_8 hm H locs hP hD hS ls hl
      have hm : fR_readText_8_b  (fR_readText_8  xRow_length gRtext n_8) xRow_length gRtext v1_8 v2_8 xRow_depth_8 xRow_people_8 xRow_scarves_8 xRow_main_8 xRow_faultPlace_8 gRkinds_8 gRlates_8 gRhands_8 gRslow_8 gRahead_8 gRdirect_8 = some u := hm
      unfold fR_readText_8_b at hm
      refine lv_iload_n hx hb dX5_readText_8 rfl (lv_at hl 2 rfl) ?_
      refine lv_bipush (v := 60) hx hb dX5_readText_9 (by decide) ?_
      refine lv_icmp_ge (tgt := 42) hx hb dX5_readText_11 (by decide) (fun c_4 => ?_) (fun c_4 => ?_)
      · have hm := it_pos c_4 hm
        exact b_42 _ _ _ _ _ _ _ _ _ _ _ hm _ _ hP hD hS _ (lv_sub hl [0] rfl)
      · have hm := it_neg c_4 hm
        refine lv_iload_n hx hb dX5_readText_14 rfl (lv_at hl 1 rfl) ?_
        refine lv_aload_n hx hb dX5_readText_15 rfl (lv_at hl 0 rfl) ?_
        refine va_get (D := (dC, dI)) (ci := 5) (v := .int xRow_length) (C := RX5) (T := TX5) (N := 13) hx hb hts hinX5 hown hK hP 0 rfl rfl 8 (by decide) hl_37 (fun _ h9 => h9) rfl dX5_readText_16 ?_
        refine lv_icmp_ge (tgt := 42) hx hb dX5_readText_19 (by decide) (fun c_5 => ?_) (fun c_5 => ?_)
        · have hm := it_pos c_5 hm
          exact b_42 _ _ _ _ _ _ _ _ _ _ _ hm _ _ hP hD hS _ (lv_sub hl [0] rfl)
        · have hm := it_neg c_5 hm
          refine lv_aload_n hx hb dX5_readText_22 rfl (lv_at hl 0 rfl) ?_
          refine va_get (D := (dC, dI)) (ci := 5) (v := .int xRow_faultPlace_8) (C := RX5) (T := TX5) (N := 13) hx hb hts hinX5 hown hK hP 0 rfl rfl 12 (by decide) hl_33 (fun _ h9 => h9) rfl dX5_readText_23 ?_
          refine lv_iconst (v := (-1)) hx hb dX5_readText_26 (by decide) ?_
          refine lv_icmp_ne (tgt := 42) hx hb dX5_readText_27 (by decide) (fun c_6 => ?_) (fun c_6 => ?_)
          · have hm := it_neg c_6 hm
            exact b_42 _ _ _ _ _ _ _ _ _ _ _ hm _ _ hP hD hS _ (lv_sub hl [0] rfl)
          · have hm := it_pos c_6 hm
            refine lv_aload_n hx hb dX5_readText_30 rfl (lv_at hl 0 rfl) ?_
            refine lv_iload_n hx hb dX5_readText_31 rfl (lv_at hl 1 rfl) ?_
            have hPc := hP.sub (ws' := [oRow ad xRow_depth_8 xRow_length xRow_people_8 xRow_scarves_8 xRow_main_8 xRow_faultPlace_8, ar (ad 2) cA 60 gRtext, ar (ad 3) cA 20 gRkinds_8, ar (ad 4) cA 20 gRlates_8, ar (ad 5) cA 20 gRhands_8, ar (ad 6) cA 20 gRslow_8, ar (ad 7) cA 4 gRahead_8, ar (ad 8) cA 4 gRdirect_8]) [0, 1, 2, 3, 4, 5, 6, 7] rfl
            have hDc := hD.sub (ws' := [oRow ad xRow_depth_8 xRow_length xRow_people_8 xRow_scarves_8 xRow_main_8 xRow_faultPlace_8, ar (ad 2) cA 60 gRtext, ar (ad 3) cA 20 gRkinds_8, ar (ad 4) cA 20 gRlates_8, ar (ad 5) cA 20 gRhands_8, ar (ad 6) cA 20 gRslow_8, ar (ad 7) cA 4 gRahead_8, ar (ad 8) cA 4 gRdirect_8]) [0, 1, 2, 3, 4, 5, 6, 7] (by decide) rfl
            have hFc := va_free (wc := [oRow ad xRow_depth_8 xRow_length xRow_people_8 xRow_scarves_8 xRow_main_8 xRow_faultPlace_8, ar (ad 2) cA 60 gRtext, ar (ad 3) cA 20 gRkinds_8, ar (ad 4) cA 20 gRlates_8, ar (ad 5) cA 20 gRhands_8, ar (ad 6) cA 20 gRslow_8, ar (ad 7) cA 4 gRahead_8, ar (ad 8) cA 4 gRdirect_8]) hD hS hA [0, 1, 2, 3, 4, 5, 6, 7] rfl
            obtain ⟨u_7, hc_7, hm⟩ := bd_ok hm
            refine va_calli (va_runV (As := [.int v1_8]) (rest := []) ⟨hx, hb, hml, hown, hts⟩ (kR_readNext l dC dI cA ad H.size v1_8 xRow_depth_8 xRow_length xRow_people_8 xRow_scarves_8 xRow_main_8 xRow_faultPlace_8 gRtext gRkinds_8 gRlates_8 gRhands_8 gRslow_8 gRahead_8 gRdirect_8 u_7 hc_7) (cwV 1 hts gX5_readText_X5_readNext rfl rfl rfl (by decide +kernel) ⟨Nat.le_of_ble_eq_true rfl, Nat.le_of_ble_eq_true rfl⟩) ⟨fun a U g mk q => by obtain ⟨q0, q1, qP, qK, qD⟩ := q; exact ⟨q0, q1, qP, va_K.moved (u := U) (U := U.calling g mk a) (Vm.Alike.refl U.vm) qK, qD⟩, va_recv hK hPc (ci := 5) (q0 := 0) rfl rfl, fun U hU hW => ⟨rfl, by rw [hU], by rw [hU]; exact hPc, va_K.moved hW.alike hK, hDc.weaken (fun _ _ _ _ => trivial)⟩⟩ rfl rfl hl.1 rfl (lv_room (Nat.le_of_ble_eq_true rfl)) dX5_readText_32 ⟨Nat.le_of_ble_eq_true rfl, Nat.le_of_ble_eq_true rfl⟩) hS (fun q _ h => hFc q h) hFc (fun r_7 _ t H1 locs ht hvm hw hB hz1 hk1 hS => ?_)
            obtain ⟨hP1, hK1, hD1⟩ := hB
            rw [ht] at hP1
            obtain ⟨hP, hD⟩ := va_join (wr := []) (w1 := [oRow ad u_7.2.1 xRow_length u_7.2.2.1 u_7.2.2.2.1 u_7.2.2.2.2.1 u_7.2.2.2.2.2.1, ar (ad 2) cA 60 gRtext, ar (ad 3) cA 20 u_7.2.2.2.2.2.2.1, ar (ad 4) cA 20 u_7.2.2.2.2.2.2.2.1, ar (ad 5) cA 20 u_7.2.2.2.2.2.2.2.2.1, ar (ad 6) cA 20 u_7.2.2.2.2.2.2.2.2.2.1, ar (ad 7) cA 4 u_7.2.2.2.2.2.2.2.2.2.2.1, ar (ad 8) cA 4 u_7.2.2.2.2.2.2.2.2.2.2.2]) hP hD [0, 1, 2, 3, 4, 5, 6, 7] [] rfl rfl (by decide) (by decide) hk1 hFc hP1 hD1
            clear hPc hDc hFc hP1 hK1 hD1 hk1 hz1 hvm ht
            generalize H1 = H at hP hS ⊢
            have hP : va_P (dC, dI) vwCl [oRow ad u_7.2.1 xRow_length u_7.2.2.1 u_7.2.2.2.1 u_7.2.2.2.2.1 u_7.2.2.2.2.2.1, ar (ad 2) cA 60 gRtext, ar (ad 3) cA 20 u_7.2.2.2.2.2.2.1, ar (ad 4) cA 20 u_7.2.2.2.2.2.2.2.1, ar (ad 5) cA 20 u_7.2.2.2.2.2.2.2.2.1, ar (ad 6) cA 20 u_7.2.2.2.2.2.2.2.2.2.1, ar (ad 7) cA 4 u_7.2.2.2.2.2.2.2.2.2.2.1, ar (ad 8) cA 4 u_7.2.2.2.2.2.2.2.2.2.2.2] H := hP
            have hD : va_D A [oRow ad u_7.2.1 xRow_length u_7.2.2.1 u_7.2.2.2.1 u_7.2.2.2.2.1 u_7.2.2.2.2.2.1, ar (ad 2) cA 60 gRtext, ar (ad 3) cA 20 u_7.2.2.2.2.2.2.1, ar (ad 4) cA 20 u_7.2.2.2.2.2.2.2.1, ar (ad 5) cA 20 u_7.2.2.2.2.2.2.2.2.1, ar (ad 6) cA 20 u_7.2.2.2.2.2.2.2.2.2.1, ar (ad 7) cA 4 u_7.2.2.2.2.2.2.2.2.2.2.1, ar (ad 8) cA 4 u_7.2.2.2.2.2.2.2.2.2.2.2] := hD
            have hw := hw.symm
            subst hw
            refine lv_istore_n (lv' := [(1, .int u_7.1), (0, .ref (ad 1)), (2, .int v2_8)]) hx hb dX5_readText_35 rfl hl (by decide) rfl (fun ls hl => ?_)
            refine lv_iinc (v := (v2_8 + 1)) (lv' := [(2, .int (v2_8 + 1)), (1, .int u_7.1), (0, .ref (ad 1))]) hx hb dX5_readText_36 hl (k := 2) rfl rfl (by decide) rfl (fun ls hl => ?_)
            refine lv_goto (tgt := 8) hx hb dX5_readText_39 (by decide) ?_
            exact ih_8 _ _ _ _ _ _ _ _ _ _ _ _ _ hm _ _ hP hD hS _ (lv_sub hl [2, 1, 0] rfl)
  unfold fR_readText at hm
  refine lv_aload_n hx hb dX5_readText_0 rfl (lv_at hl 0 rfl) ?_
  have hPc := hP.sub (ws' := [oRow ad xRow_depth xRow_length xRow_people xRow_scarves xRow_main xRow_faultPlace, ar (ad 5) cA 20 gRhands, ar (ad 6) cA 20 gRslow, ar (ad 7) cA 4 gRahead, ar (ad 8) cA 4 gRdirect]) [0, 4, 5, 6, 7] rfl
  have hDc := hD.sub (ws' := [oRow ad xRow_depth xRow_length xRow_people xRow_scarves xRow_main xRow_faultPlace, ar (ad 5) cA 20 gRhands, ar (ad 6) cA 20 gRslow, ar (ad 7) cA 4 gRahead, ar (ad 8) cA 4 gRdirect]) [0, 4, 5, 6, 7] (by decide) rfl
  have hFc := va_free (wc := [oRow ad xRow_depth xRow_length xRow_people xRow_scarves xRow_main xRow_faultPlace, ar (ad 5) cA 20 gRhands, ar (ad 6) cA 20 gRslow, ar (ad 7) cA 4 gRahead, ar (ad 8) cA 4 gRdirect]) hD hS hA [0, 4, 5, 6, 7] rfl
  obtain ⟨u_8, hc_8, hm⟩ := bd_ok hm
  refine va_callv (va_runV (As := []) (rest := []) ⟨hx, hb, hml, hown, hts⟩ (kR_startReading l dC dI cA ad s.heap.size xRow_depth xRow_length xRow_people xRow_scarves xRow_main xRow_faultPlace gRhands gRslow gRahead gRdirect u_8 hc_8) (cwV 0 hts gX5_readText_X5_startReading rfl rfl rfl (by decide +kernel) ⟨Nat.le_of_ble_eq_true rfl, Nat.le_of_ble_eq_true rfl⟩) ⟨fun a U g mk q => by obtain ⟨q0, q1, qP, qK, qD⟩ := q; exact ⟨q0, q1, qP, va_K.moved (u := U) (U := U.calling g mk a) (Vm.Alike.refl U.vm) qK, qD⟩, va_recv hK hPc (ci := 5) (q0 := 0) rfl rfl, fun U hU hW => ⟨rfl, by rw [hU], by rw [hU]; exact hPc, va_K.moved hW.alike hK, hDc.weaken (fun _ _ _ _ => trivial)⟩⟩ rfl rfl hl.1 rfl (lv_room (Nat.le_of_ble_eq_true rfl)) dX5_readText_1 ⟨Nat.le_of_ble_eq_true rfl, Nat.le_of_ble_eq_true rfl⟩) hS (fun q _ h => hFc q h) hFc (fun _ t H1 locs ht hvm hw hB hz1 hk1 hS => ?_)
  obtain ⟨hP1, hK1, hD1⟩ := hB
  rw [ht] at hP1
  obtain ⟨hP, hD⟩ := va_join (wr := [ar (ad 2) cA 60 gRtext, ar (ad 3) cA 20 gRkinds, ar (ad 4) cA 20 gRlates]) (w1 := [oRow ad u_8.1 xRow_length u_8.2.1 u_8.2.2.1 u_8.2.2.2.1 u_8.2.2.2.2.1, ar (ad 5) cA 20 u_8.2.2.2.2.2.1, ar (ad 6) cA 20 u_8.2.2.2.2.2.2.1, ar (ad 7) cA 4 u_8.2.2.2.2.2.2.2.1, ar (ad 8) cA 4 u_8.2.2.2.2.2.2.2.2]) hP hD [0, 4, 5, 6, 7] [1, 2, 3] rfl rfl (by decide) (by decide) hk1 hFc hP1 hD1
  clear hPc hDc hFc hP1 hK1 hD1 hk1 hz1 hvm ht
  generalize H1 = H at hP hS ⊢
  have hP : va_P (dC, dI) vwCl [oRow ad u_8.1 xRow_length u_8.2.1 u_8.2.2.1 u_8.2.2.2.1 u_8.2.2.2.2.1, ar (ad 2) cA 60 gRtext, ar (ad 3) cA 20 gRkinds, ar (ad 4) cA 20 gRlates, ar (ad 5) cA 20 u_8.2.2.2.2.2.1, ar (ad 6) cA 20 u_8.2.2.2.2.2.2.1, ar (ad 7) cA 4 u_8.2.2.2.2.2.2.2.1, ar (ad 8) cA 4 u_8.2.2.2.2.2.2.2.2] H := hP.sub [3, 0, 1, 2, 4, 5, 6, 7] rfl
  have hD : va_D A [oRow ad u_8.1 xRow_length u_8.2.1 u_8.2.2.1 u_8.2.2.2.1 u_8.2.2.2.2.1, ar (ad 2) cA 60 gRtext, ar (ad 3) cA 20 gRkinds, ar (ad 4) cA 20 gRlates, ar (ad 5) cA 20 u_8.2.2.2.2.2.1, ar (ad 6) cA 20 u_8.2.2.2.2.2.2.1, ar (ad 7) cA 4 u_8.2.2.2.2.2.2.2.1, ar (ad 8) cA 4 u_8.2.2.2.2.2.2.2.2] := hD.sub [3, 0, 1, 2, 4, 5, 6, 7] (by decide) rfl
  refine lv_iconst (v := 0) hx hb dX5_readText_4 (by decide) ?_
  refine lv_istore_n (lv' := [(1, .int 0), (0, .ref (ad 1))]) hx hb dX5_readText_5 rfl hl (by decide) rfl (fun ls hl => ?_)
  refine lv_iconst (v := 0) hx hb dX5_readText_6 (by decide) ?_
  refine lv_istore_n (lv' := [(2, .int 0), (1, .int 0), (0, .ref (ad 1))]) hx hb dX5_readText_7 rfl hl (by decide) rfl (fun ls hl => ?_)
  exact h_8 _ _ _ _ _ _ _ _ _ _ _ _ _ _ hm _ _ hP hD hS _ (lv_sub hl [2, 1, 0] rfl)

set_option maxHeartbeats 4000000 in
set_option maxRecDepth 100000 in
theorem kR_append (l : Launch) (dC : Nat → ClassId) (dI : Nat → Nat → Nat) (cA : ClassId) (ad : Nat → Nat) (sz : Nat) (a1 : Int32) (xRow_depth : Int32) (xRow_length : Int32) (xRow_people : Int32) (xRow_scarves : Int32) (xRow_main : Int32) (xRow_faultPlace : Int32) (gRtext : Nat → Int32) (gRkinds : Nat → Int32) (gRlates : Nat → Int32) (gRhands : Nat → Int32) (gRslow : Nat → Int32) (gRahead : Nat → Int32) (gRdirect : Nat → Int32) (u : Int32 × Int32 × Int32 × Int32 × Int32 × Int32 × Int32 × (Nat → Int32) × (Nat → Int32) × (Nat → Int32) × (Nat → Int32) × (Nat → Int32) × (Nat → Int32) × (Nat → Int32)) (hm : fR_append a1 xRow_depth xRow_length xRow_people xRow_scarves xRow_main xRow_faultPlace gRtext gRkinds gRlates gRhands gRslow gRahead gRdirect = some u) : Met l yX5_append wsX5_append ({ frames := 5, cells := 0, slots := 0, locals := 116 }) (va_Pc [.ref (ad 1), .int a1] (fun U => U.heap.size = sz ∧ va_P (dC, dI) vwCl [oRow ad xRow_depth xRow_length xRow_people xRow_scarves xRow_main xRow_faultPlace, ar (ad 2) cA 60 gRtext, ar (ad 3) cA 20 gRkinds, ar (ad 4) cA 20 gRlates, ar (ad 5) cA 20 gRhands, ar (ad 6) cA 20 gRslow, ar (ad 7) cA 4 gRahead, ar (ad 8) cA 4 gRdirect] U.heap ∧ va_K (dC, dI) vwCl [(cA, .int)] U ∧ va_D (fun _ => True) [oRow ad xRow_depth xRow_length xRow_people xRow_scarves xRow_main xRow_faultPlace, ar (ad 2) cA 60 gRtext, ar (ad 3) cA 20 gRkinds, ar (ad 4) cA 20 gRlates, ar (ad 5) cA 20 gRhands, ar (ad 6) cA 20 gRslow, ar (ad 7) cA 4 gRahead, ar (ad 8) cA 4 gRdirect])) (va_Qi (fun (r : Int32) (_ : Unit) => r = u.1) (fun (_ : Unit) t => va_P (dC, dI) vwCl [oRow ad u.2.1 u.2.2.1 u.2.2.2.1 u.2.2.2.2.1 u.2.2.2.2.2.1 u.2.2.2.2.2.2.1, ar (ad 2) cA 60 u.2.2.2.2.2.2.2.1, ar (ad 3) cA 20 u.2.2.2.2.2.2.2.2.1, ar (ad 4) cA 20 u.2.2.2.2.2.2.2.2.2.1, ar (ad 5) cA 20 u.2.2.2.2.2.2.2.2.2.2.1, ar (ad 6) cA 20 u.2.2.2.2.2.2.2.2.2.2.2.1, ar (ad 7) cA 4 u.2.2.2.2.2.2.2.2.2.2.2.2.1, ar (ad 8) cA 4 u.2.2.2.2.2.2.2.2.2.2.2.2.2] t.heap ∧ va_K (dC, dI) vwCl [(cA, .int)] t ∧ va_D (va_A [oRow ad xRow_depth xRow_length xRow_people xRow_scarves xRow_main xRow_faultPlace, ar (ad 2) cA 60 gRtext, ar (ad 3) cA 20 gRkinds, ar (ad 4) cA 20 gRlates, ar (ad 5) cA 20 gRhands, ar (ad 6) cA 20 gRslow, ar (ad 7) cA 4 gRahead, ar (ad 8) cA 4 gRdirect] sz) [oRow ad u.2.1 u.2.2.1 u.2.2.2.1 u.2.2.2.2.1 u.2.2.2.2.2.1 u.2.2.2.2.2.2.1, ar (ad 2) cA 60 u.2.2.2.2.2.2.2.1, ar (ad 3) cA 20 u.2.2.2.2.2.2.2.2.1, ar (ad 4) cA 20 u.2.2.2.2.2.2.2.2.2.1, ar (ad 5) cA 20 u.2.2.2.2.2.2.2.2.2.2.1, ar (ad 6) cA 20 u.2.2.2.2.2.2.2.2.2.2.2.1, ar (ad 7) cA 4 u.2.2.2.2.2.2.2.2.2.2.2.2.1, ar (ad 8) cA 4 u.2.2.2.2.2.2.2.2.2.2.2.2.2]) (va_A [oRow ad xRow_depth xRow_length xRow_people xRow_scarves xRow_main xRow_faultPlace, ar (ad 2) cA 60 gRtext, ar (ad 3) cA 20 gRkinds, ar (ad 4) cA 20 gRlates, ar (ad 5) cA 20 gRhands, ar (ad 6) cA 20 gRslow, ar (ad 7) cA 4 gRahead, ar (ad 8) cA 4 gRdirect] sz)) 0 0 (va_A [oRow ad xRow_depth xRow_length xRow_people xRow_scarves xRow_main xRow_faultPlace, ar (ad 2) cA 60 gRtext, ar (ad 3) cA 20 gRkinds, ar (ad 4) cA 20 gRlates, ar (ad 5) cA 20 gRhands, ar (ad 6) cA 20 gRslow, ar (ad 7) cA 4 gRahead, ar (ad 8) cA 4 gRdirect] sz) := by
  refine Met.ofW (cc := cX5_append) (maxL := 2) (ret := (some .boolean)) (by decide) rfl ?_
  intro p e s m args below meth c s₁ B hml hv
  obtain ⟨rfl, hsz, hP, hK, hD0⟩ := hv
  have hx := B.exec
  have hb := B.bytes
  have hr := B.returns
  have hts := atoms_spec (ws := wsX5_append) B.pre
  have hown : s.vm.findClass RX5 = some m.cls := findClass_of_methodNamed B.named
  have hlocks := B.notSynchronized
  subst hsz
  have hD := hD0.self (sz := s.heap.size)
  generalize hAe : va_A [oRow ad xRow_depth xRow_length xRow_people xRow_scarves xRow_main xRow_faultPlace, ar (ad 2) cA 60 gRtext, ar (ad 3) cA 20 gRkinds, ar (ad 4) cA 20 gRlates, ar (ad 5) cA 20 gRhands, ar (ad 6) cA 20 gRslow, ar (ad 7) cA 4 gRahead, ar (ad 8) cA 4 gRdirect] s.heap.size = A at hD ⊢
  have hA : ∀ q : Nat, s.heap.size ≤ q → A q := fun q h => by rw [← hAe]; exact Or.inr h
  have hS : va_S A s.heap s.heap [] := va_S.rf
  have hl := lv_entry ([.ref (ad 1), .int a1]) (n := 2) (Nat.le_of_ble_eq_true rfl)
  rw [lg_entry_eq]
  generalize (lg_sl ([.ref (ad 1), .int a1]) ++ List.replicate (2 - (lg_sl ([.ref (ad 1), .int a1])).length) Slot.unset).toArray = ls at hl ⊢
  have hl : lv_has ls 2 [(0, .ref (ad 1)), (1, .int a1)] := hl
  refine wk_Q (fun QQ hQ => ?_)
  have hinX5 : ∀ w ∈ wsX50, w ∈ wsX5_append := fun w h => List.mem_cons_of_mem _ (inlX5 w h)
  have hl_37 := hts (.fieldLink RX5 37 "HandCensus$Row" "length" "I") (List.mem_cons_of_mem _ (in_r8 _ (List.mem_of_getElem? (i := 12) rfl)))
  have hl_11 := hts (.fieldLink RX5 11 "HandCensus$Row" "text" "[I") (List.mem_cons_of_mem _ (in_r3 _ (List.mem_of_getElem? (i := 8) rfl)))
  unfold fR_append at hm
  refine lv_aload_n hx hb dX5_append_0 rfl (lv_at hl 0 rfl) ?_
  refine va_get (D := (dC, dI)) (ci := 5) (v := .int xRow_length) (C := RX5) (T := TX5) (N := 13) hx hb hts hinX5 hown hK hP 0 rfl rfl 8 (by decide) hl_37 (fun _ h9 => h9) rfl dX5_append_1 ?_
  refine lv_bipush (v := 60) hx hb dX5_append_4 (by decide) ?_
  refine lv_icmp_lt (tgt := 11) hx hb dX5_append_6 (by decide) (fun c_1 => ?_) (fun c_1 => ?_)
  · have hm := it_pos c_1 hm
    refine lv_aload_n hx hb dX5_append_11 rfl (lv_at hl 0 rfl) ?_
    refine va_get (D := (dC, dI)) (ci := 5) (v := .ref (ad 2)) (C := RX5) (T := TX5) (N := 13) hx hb hts hinX5 hown hK hP 0 rfl rfl 0 (by decide) hl_11 (fun _ h9 => h9) rfl dX5_append_12 ?_
    refine lv_aload_n hx hb dX5_append_15 rfl (lv_at hl 0 rfl) ?_
    refine va_get (D := (dC, dI)) (ci := 5) (v := .int xRow_length) (C := RX5) (T := TX5) (N := 13) hx hb hts hinX5 hown hK hP 0 rfl rfl 8 (by decide) hl_37 (fun _ h9 => h9) rfl dX5_append_16 ?_
    refine lv_iload_n hx hb dX5_append_19 rfl (lv_at hl 1 rfl) ?_
    obtain ⟨i_2, hm⟩ := ck_ok hm
    refine va_iast hx hb hK hP hD hS 1 0 rfl rfl i_2 dX5_append_20 (fun H locs hP hD hS => ?_)
    have hP : va_P (dC, dI) vwCl [oRow ad xRow_depth xRow_length xRow_people xRow_scarves xRow_main xRow_faultPlace, ar (ad 2) cA 60 (upd gRtext xRow_length.toNatClampNeg a1), ar (ad 3) cA 20 gRkinds, ar (ad 4) cA 20 gRlates, ar (ad 5) cA 20 gRhands, ar (ad 6) cA 20 gRslow, ar (ad 7) cA 4 gRahead, ar (ad 8) cA 4 gRdirect] H := hP
    have hD : va_D A [oRow ad xRow_depth xRow_length xRow_people xRow_scarves xRow_main xRow_faultPlace, ar (ad 2) cA 60 (upd gRtext xRow_length.toNatClampNeg a1), ar (ad 3) cA 20 gRkinds, ar (ad 4) cA 20 gRlates, ar (ad 5) cA 20 gRhands, ar (ad 6) cA 20 gRslow, ar (ad 7) cA 4 gRahead, ar (ad 8) cA 4 gRdirect] := hD
    refine lv_aload_n hx hb dX5_append_21 rfl (lv_at hl 0 rfl) ?_
    refine lv_dup hx hb dX5_append_22 rfl ?_
    refine va_get (D := (dC, dI)) (ci := 5) (v := .int xRow_length) (C := RX5) (T := TX5) (N := 13) hx hb hts hinX5 hown hK hP 0 rfl rfl 8 (by decide) hl_37 (fun _ h9 => h9) rfl dX5_append_23 ?_
    refine lv_iconst (v := 1) hx hb dX5_append_26 (by decide) ?_
    refine lv_iadd hx hb dX5_append_27 ?_
    refine va_put (D := (dC, dI)) (ci := 5) (v := .int (xRow_length + 1)) (ty := .int) (C := RX5) (T := TX5) (N := 13) hx hb hts hinX5 tyX5 tyX5_ok nmX5 hown hK hP hD hS 0 rfl rfl 8 (by decide) hl_37 (fun _ h9 => h9) rfl (by decide +kernel) rfl rfl (Nat.le_of_ble_eq_true rfl) dX5_append_28 (fun H locs hP hD hS => ?_)
    have hP : va_P (dC, dI) vwCl [oRow ad xRow_depth (xRow_length + 1) xRow_people xRow_scarves xRow_main xRow_faultPlace, ar (ad 2) cA 60 (upd gRtext xRow_length.toNatClampNeg a1), ar (ad 3) cA 20 gRkinds, ar (ad 4) cA 20 gRlates, ar (ad 5) cA 20 gRhands, ar (ad 6) cA 20 gRslow, ar (ad 7) cA 4 gRahead, ar (ad 8) cA 4 gRdirect] H := hP
    have hD : va_D A [oRow ad xRow_depth (xRow_length + 1) xRow_people xRow_scarves xRow_main xRow_faultPlace, ar (ad 2) cA 60 (upd gRtext xRow_length.toNatClampNeg a1), ar (ad 3) cA 20 gRkinds, ar (ad 4) cA 20 gRlates, ar (ad 5) cA 20 gRhands, ar (ad 6) cA 20 gRslow, ar (ad 7) cA 4 gRahead, ar (ad 8) cA 4 gRdirect] := hD
    refine lv_aload_n hx hb dX5_append_31 rfl (lv_at hl 0 rfl) ?_
    have hPc := hP.sub (ws' := [oRow ad xRow_depth (xRow_length + 1) xRow_people xRow_scarves xRow_main xRow_faultPlace, ar (ad 2) cA 60 (upd gRtext xRow_length.toNatClampNeg a1), ar (ad 3) cA 20 gRkinds, ar (ad 4) cA 20 gRlates, ar (ad 5) cA 20 gRhands, ar (ad 6) cA 20 gRslow, ar (ad 7) cA 4 gRahead, ar (ad 8) cA 4 gRdirect]) [0, 1, 2, 3, 4, 5, 6, 7] rfl
    have hDc := hD.sub (ws' := [oRow ad xRow_depth (xRow_length + 1) xRow_people xRow_scarves xRow_main xRow_faultPlace, ar (ad 2) cA 60 (upd gRtext xRow_length.toNatClampNeg a1), ar (ad 3) cA 20 gRkinds, ar (ad 4) cA 20 gRlates, ar (ad 5) cA 20 gRhands, ar (ad 6) cA 20 gRslow, ar (ad 7) cA 4 gRahead, ar (ad 8) cA 4 gRdirect]) [0, 1, 2, 3, 4, 5, 6, 7] (by decide) rfl
    have hFc := va_free (wc := [oRow ad xRow_depth (xRow_length + 1) xRow_people xRow_scarves xRow_main xRow_faultPlace, ar (ad 2) cA 60 (upd gRtext xRow_length.toNatClampNeg a1), ar (ad 3) cA 20 gRkinds, ar (ad 4) cA 20 gRlates, ar (ad 5) cA 20 gRhands, ar (ad 6) cA 20 gRslow, ar (ad 7) cA 4 gRahead, ar (ad 8) cA 4 gRdirect]) hD hS hA [0, 1, 2, 3, 4, 5, 6, 7] rfl
    obtain ⟨u_3, hc_3, hm⟩ := bd_ok hm
    refine va_callv (va_runV (As := []) (rest := []) ⟨hx, hb, hml, hown, hts⟩ (kR_readText l dC dI cA ad H.size xRow_depth (xRow_length + 1) xRow_people xRow_scarves xRow_main xRow_faultPlace (upd gRtext xRow_length.toNatClampNeg a1) gRkinds gRlates gRhands gRslow gRahead gRdirect u_3 hc_3) (cwV 0 hts gX5_append_X5_readText rfl rfl rfl (by decide +kernel) ⟨Nat.le_of_ble_eq_true rfl, Nat.le_of_ble_eq_true rfl⟩) ⟨fun a U g mk q => by obtain ⟨q0, q1, qP, qK, qD⟩ := q; exact ⟨q0, q1, qP, va_K.moved (u := U) (U := U.calling g mk a) (Vm.Alike.refl U.vm) qK, qD⟩, va_recv hK hPc (ci := 5) (q0 := 0) rfl rfl, fun U hU hW => ⟨rfl, by rw [hU], by rw [hU]; exact hPc, va_K.moved hW.alike hK, hDc.weaken (fun _ _ _ _ => trivial)⟩⟩ rfl rfl hl.1 rfl (lv_room (Nat.le_of_ble_eq_true rfl)) dX5_append_32 ⟨Nat.le_of_ble_eq_true rfl, Nat.le_of_ble_eq_true rfl⟩) hS (fun q _ h => hFc q h) hFc (fun _ t H1 locs ht hvm hw hB hz1 hk1 hS => ?_)
    obtain ⟨hP1, hK1, hD1⟩ := hB
    rw [ht] at hP1
    obtain ⟨hP, hD⟩ := va_join (wr := []) (w1 := [oRow ad u_3.1 (xRow_length + 1) u_3.2.1 u_3.2.2.1 u_3.2.2.2.1 u_3.2.2.2.2.1, ar (ad 2) cA 60 (upd gRtext xRow_length.toNatClampNeg a1), ar (ad 3) cA 20 u_3.2.2.2.2.2.1, ar (ad 4) cA 20 u_3.2.2.2.2.2.2.1, ar (ad 5) cA 20 u_3.2.2.2.2.2.2.2.1, ar (ad 6) cA 20 u_3.2.2.2.2.2.2.2.2.1, ar (ad 7) cA 4 u_3.2.2.2.2.2.2.2.2.2.1, ar (ad 8) cA 4 u_3.2.2.2.2.2.2.2.2.2.2]) hP hD [0, 1, 2, 3, 4, 5, 6, 7] [] rfl rfl (by decide) (by decide) hk1 hFc hP1 hD1
    clear hPc hDc hFc hP1 hK1 hD1 hk1 hz1 hvm ht
    generalize H1 = H at hP hS ⊢
    have hP : va_P (dC, dI) vwCl [oRow ad u_3.1 (xRow_length + 1) u_3.2.1 u_3.2.2.1 u_3.2.2.2.1 u_3.2.2.2.2.1, ar (ad 2) cA 60 (upd gRtext xRow_length.toNatClampNeg a1), ar (ad 3) cA 20 u_3.2.2.2.2.2.1, ar (ad 4) cA 20 u_3.2.2.2.2.2.2.1, ar (ad 5) cA 20 u_3.2.2.2.2.2.2.2.1, ar (ad 6) cA 20 u_3.2.2.2.2.2.2.2.2.1, ar (ad 7) cA 4 u_3.2.2.2.2.2.2.2.2.2.1, ar (ad 8) cA 4 u_3.2.2.2.2.2.2.2.2.2.2] H := hP
    have hD : va_D A [oRow ad u_3.1 (xRow_length + 1) u_3.2.1 u_3.2.2.1 u_3.2.2.2.1 u_3.2.2.2.2.1, ar (ad 2) cA 60 (upd gRtext xRow_length.toNatClampNeg a1), ar (ad 3) cA 20 u_3.2.2.2.2.2.1, ar (ad 4) cA 20 u_3.2.2.2.2.2.2.1, ar (ad 5) cA 20 u_3.2.2.2.2.2.2.2.1, ar (ad 6) cA 20 u_3.2.2.2.2.2.2.2.2.1, ar (ad 7) cA 4 u_3.2.2.2.2.2.2.2.2.2.1, ar (ad 8) cA 4 u_3.2.2.2.2.2.2.2.2.2.2] := hD
    refine lv_iconst (v := 1) hx hb dX5_append_35 (by decide) ?_
    obtain rfl := Option.some.inj hm
    subst hQ
    exact W.zret (v := 1) hx hb hr rfl (fun t ht hW => ⟨⟨_, (), rfl, rfl, by rw [ht]; exact hP, va_K.moved hW.alike hK, hAe ▸ hD⟩, hS.F ht⟩) hS.2.2 dX5_append_36
  · have hm := it_neg c_1 hm
    refine lv_iconst (v := 0) hx hb dX5_append_9 (by decide) ?_
    obtain rfl := Option.some.inj hm
    subst hQ
    exact W.zret (v := 0) hx hb hr rfl (fun t ht hW => ⟨⟨_, (), rfl, rfl, by rw [ht]; exact hP, va_K.moved hW.alike hK, hAe ▸ hD⟩, hS.F ht⟩) hS.2.2 dX5_append_10

set_option maxHeartbeats 4000000 in
set_option maxRecDepth 100000 in
theorem kC_squeezeChanged (l : Launch) (dC : Nat → ClassId) (dI : Nat → Nat → Nat) (cA : ClassId) (ad : Nat → Nat) (sz : Nat) (xHC_first : Int32) (xHC_second : Int32) (xHC_when : Int32) (xHC_ran : Int32) (xSlp_known : Int32) (u : Int32 × Int32) (hm : fC_squeezeChanged xHC_ran xSlp_known = some u) : Met l yX9_squeezeChanged wsX9_squeezeChanged ({ frames := 0, cells := 0, slots := 0, locals := 0 }) (va_Pc [.ref (ad 0)] (fun U => U.heap.size = sz ∧ va_P (dC, dI) vwCl [oHC ad xHC_first xHC_second xHC_when xHC_ran, oSlp ad xSlp_known] U.heap ∧ va_K (dC, dI) vwCl [(cA, .int)] U ∧ va_D (fun _ => True) [oHC ad xHC_first xHC_second xHC_when xHC_ran, oSlp ad xSlp_known])) (va_Qv (fun (_ : Unit) => True) (fun (_ : Unit) t => va_P (dC, dI) vwCl [oHC ad xHC_first xHC_second xHC_when u.1, oSlp ad u.2] t.heap ∧ va_K (dC, dI) vwCl [(cA, .int)] t ∧ va_D (va_A [oHC ad xHC_first xHC_second xHC_when xHC_ran, oSlp ad xSlp_known] sz) [oHC ad xHC_first xHC_second xHC_when u.1, oSlp ad u.2]) (va_A [oHC ad xHC_first xHC_second xHC_when xHC_ran, oSlp ad xSlp_known] sz)) 0 0 (va_A [oHC ad xHC_first xHC_second xHC_when xHC_ran, oSlp ad xSlp_known] sz) := by
  refine Met.ofW (cc := cX9_squeezeChanged) (maxL := 1) (ret := none) (by decide) rfl ?_
  intro p e s m args below meth c s₁ B hml hv
  obtain ⟨rfl, hsz, hP, hK, hD0⟩ := hv
  have hx := B.exec
  have hb := B.bytes
  have hr := B.returns
  have hts := atoms_spec (ws := wsX9_squeezeChanged) B.pre
  have hown : s.vm.findClass RX9 = some m.cls := findClass_of_methodNamed B.named
  have hlocks := B.notSynchronized
  subst hsz
  have hD := hD0.self (sz := s.heap.size)
  generalize hAe : va_A [oHC ad xHC_first xHC_second xHC_when xHC_ran, oSlp ad xSlp_known] s.heap.size = A at hD ⊢
  have hA : ∀ q : Nat, s.heap.size ≤ q → A q := fun q h => by rw [← hAe]; exact Or.inr h
  have hS : va_S A s.heap s.heap [] := va_S.rf
  have hl := lv_entry ([.ref (ad 0)]) (n := 1) (Nat.le_of_ble_eq_true rfl)
  rw [lg_entry_eq]
  generalize (lg_sl ([.ref (ad 0)]) ++ List.replicate (1 - (lg_sl ([.ref (ad 0)])).length) Slot.unset).toArray = ls at hl ⊢
  have hl : lv_has ls 1 [(0, .ref (ad 0))] := hl
  refine wk_Q (fun QQ hQ => ?_)
  have hinX9 : ∀ w ∈ wsX90, w ∈ wsX9_squeezeChanged := fun w h => List.mem_cons_of_mem _ (inlX9 w h)
  have hl_82 := hts (.fieldLink RX9 82 "HandCensus" "ran" "Z") (List.mem_cons_of_mem _ (in_r3 _ (List.mem_of_getElem? (i := 2) rfl)))
  have hl_40 := hts (.fieldLink RX9 40 "HandCensus" "sleepers" "LHandCensus$Sleepers;") (List.mem_cons_of_mem _ (in_r2 _ (List.mem_of_getElem? (i := 6) rfl)))
  have hinX7 : ∀ w ∈ wsX70, w ∈ wsX9_squeezeChanged := fun w h => List.mem_cons_of_mem _ (inlX7 w h)
  have hl_360 := hts (.fieldLink RX9 360 "HandCensus$Sleepers" "known" "Z") (List.mem_cons_of_mem _ (in_r10 _ (List.mem_of_getElem? (i := 18) rfl)))
  unfold fC_squeezeChanged at hm
  refine lv_aload_n hx hb dX9_squeezeChanged_0 rfl (lv_at hl 0 rfl) ?_
  refine lv_iconst (v := 0) hx hb dX9_squeezeChanged_1 (by decide) ?_
  refine va_put (D := (dC, dI)) (ci := 9) (v := .int 0) (ty := .boolean) (C := RX9) (T := TX9) (N := 12) hx hb hts hinX9 tyX9 tyX9_ok nmX9 hown hK hP hD hS 0 rfl rfl 11 (by decide) hl_82 (fun _ h9 => h9) rfl (by decide +kernel) rfl rfl (Nat.le_of_ble_eq_true rfl) dX9_squeezeChanged_2 (fun H locs hP hD hS => ?_)
  have hP : va_P (dC, dI) vwCl [oHC ad xHC_first xHC_second xHC_when 0, oSlp ad xSlp_known] H := hP
  have hD : va_D A [oHC ad xHC_first xHC_second xHC_when 0, oSlp ad xSlp_known] := hD
  refine lv_aload_n hx hb dX9_squeezeChanged_5 rfl (lv_at hl 0 rfl) ?_
  refine va_get (D := (dC, dI)) (ci := 9) (v := .ref (ad 24)) (C := RX9) (T := TX9) (N := 12) hx hb hts hinX9 hown hK hP 0 rfl rfl 3 (by decide) hl_40 (fun _ h9 => h9) rfl dX9_squeezeChanged_6 ?_
  refine lv_iconst (v := 0) hx hb dX9_squeezeChanged_9 (by decide) ?_
  refine va_put (D := (dC, dI)) (ci := 7) (v := .int 0) (ty := .boolean) (C := RX7) (T := TX7) (N := 4) hx hb hts hinX7 tyX7 tyX7_ok nmX7 hown hK hP hD hS 1 rfl rfl 3 (by decide) hl_360 (fun _ h9 => h9) rfl (by decide +kernel) rfl rfl (Nat.le_of_ble_eq_true rfl) dX9_squeezeChanged_10 (fun H locs hP hD hS => ?_)
  have hP : va_P (dC, dI) vwCl [oHC ad xHC_first xHC_second xHC_when 0, oSlp ad 0] H := hP
  have hD : va_D A [oHC ad xHC_first xHC_second xHC_when 0, oSlp ad 0] := hD
  obtain rfl := Option.some.inj hm
  subst hQ
  exact W.vret hx hb hr (fun t ht hW => ⟨⟨(), rfl, trivial, by rw [ht]; exact hP, va_K.moved hW.alike hK, hAe ▸ hD⟩, hS.F ht⟩) hS.2.2 dX9_squeezeChanged_13

set_option maxHeartbeats 4000000 in
set_option maxRecDepth 100000 in
theorem kC_rowChanged (l : Launch) (dC : Nat → ClassId) (dI : Nat → Nat → Nat) (cA : ClassId) (ad : Nat → Nat) (sz : Nat) (xHC_first : Int32) (xHC_second : Int32) (xHC_when : Int32) (xHC_ran : Int32) (xBeg_who : Int32) (xBeg_reaches : Int32) (xBeg_lastTime : Int32) (xBeg_known : Int32) (xSlp_known : Int32) (u : Int32 × Int32 × Int32) (hm : fC_rowChanged xHC_ran xBeg_known xSlp_known = some u) : Met l yX9_rowChanged wsX9_rowChanged ({ frames := 1, cells := 0, slots := 0, locals := 20 }) (va_Pc [.ref (ad 0)] (fun U => U.heap.size = sz ∧ va_P (dC, dI) vwCl [oHC ad xHC_first xHC_second xHC_when xHC_ran, oBeg ad xBeg_who xBeg_reaches xBeg_lastTime xBeg_known, oSlp ad xSlp_known] U.heap ∧ va_K (dC, dI) vwCl [(cA, .int)] U ∧ va_D (fun _ => True) [oHC ad xHC_first xHC_second xHC_when xHC_ran, oBeg ad xBeg_who xBeg_reaches xBeg_lastTime xBeg_known, oSlp ad xSlp_known])) (va_Qv (fun (_ : Unit) => True) (fun (_ : Unit) t => va_P (dC, dI) vwCl [oHC ad xHC_first xHC_second xHC_when u.1, oBeg ad xBeg_who xBeg_reaches xBeg_lastTime u.2.1, oSlp ad u.2.2] t.heap ∧ va_K (dC, dI) vwCl [(cA, .int)] t ∧ va_D (va_A [oHC ad xHC_first xHC_second xHC_when xHC_ran, oBeg ad xBeg_who xBeg_reaches xBeg_lastTime xBeg_known, oSlp ad xSlp_known] sz) [oHC ad xHC_first xHC_second xHC_when u.1, oBeg ad xBeg_who xBeg_reaches xBeg_lastTime u.2.1, oSlp ad u.2.2]) (va_A [oHC ad xHC_first xHC_second xHC_when xHC_ran, oBeg ad xBeg_who xBeg_reaches xBeg_lastTime xBeg_known, oSlp ad xSlp_known] sz)) 0 0 (va_A [oHC ad xHC_first xHC_second xHC_when xHC_ran, oBeg ad xBeg_who xBeg_reaches xBeg_lastTime xBeg_known, oSlp ad xSlp_known] sz) := by
  refine Met.ofW (cc := cX9_rowChanged) (maxL := 1) (ret := none) (by decide) rfl ?_
  intro p e s m args below meth c s₁ B hml hv
  obtain ⟨rfl, hsz, hP, hK, hD0⟩ := hv
  have hx := B.exec
  have hb := B.bytes
  have hr := B.returns
  have hts := atoms_spec (ws := wsX9_rowChanged) B.pre
  have hown : s.vm.findClass RX9 = some m.cls := findClass_of_methodNamed B.named
  have hlocks := B.notSynchronized
  subst hsz
  have hD := hD0.self (sz := s.heap.size)
  generalize hAe : va_A [oHC ad xHC_first xHC_second xHC_when xHC_ran, oBeg ad xBeg_who xBeg_reaches xBeg_lastTime xBeg_known, oSlp ad xSlp_known] s.heap.size = A at hD ⊢
  have hA : ∀ q : Nat, s.heap.size ≤ q → A q := fun q h => by rw [← hAe]; exact Or.inr h
  have hS : va_S A s.heap s.heap [] := va_S.rf
  have hl := lv_entry ([.ref (ad 0)]) (n := 1) (Nat.le_of_ble_eq_true rfl)
  rw [lg_entry_eq]
  generalize (lg_sl ([.ref (ad 0)]) ++ List.replicate (1 - (lg_sl ([.ref (ad 0)])).length) Slot.unset).toArray = ls at hl ⊢
  have hl : lv_has ls 1 [(0, .ref (ad 0))] := hl
  refine wk_Q (fun QQ hQ => ?_)
  have hinX9 : ∀ w ∈ wsX90, w ∈ wsX9_rowChanged := fun w h => List.mem_cons_of_mem _ (inlX9 w h)
  have hl_33 := hts (.fieldLink RX9 33 "HandCensus" "beginning" "LHandCensus$Beginning;") (List.mem_cons_of_mem _ (in_r2 _ (List.mem_of_getElem? (i := 2) rfl)))
  have hinX0 : ∀ w ∈ wsX00, w ∈ wsX9_rowChanged := fun w h => List.mem_cons_of_mem _ (inlX0 w h)
  have hl_357 := hts (.fieldLink RX9 357 "HandCensus$Beginning" "known" "Z") (List.mem_cons_of_mem _ (in_r10 _ (List.mem_of_getElem? (i := 13) rfl)))
  unfold fC_rowChanged at hm
  refine lv_aload_n hx hb dX9_rowChanged_0 rfl (lv_at hl 0 rfl) ?_
  refine va_get (D := (dC, dI)) (ci := 9) (v := .ref (ad 23)) (C := RX9) (T := TX9) (N := 12) hx hb hts hinX9 hown hK hP 0 rfl rfl 2 (by decide) hl_33 (fun _ h9 => h9) rfl dX9_rowChanged_1 ?_
  refine lv_iconst (v := 0) hx hb dX9_rowChanged_4 (by decide) ?_
  refine va_put (D := (dC, dI)) (ci := 0) (v := .int 0) (ty := .boolean) (C := RX0) (T := TX0) (N := 6) hx hb hts hinX0 tyX0 tyX0_ok nmX0 hown hK hP hD hS 1 rfl rfl 5 (by decide) hl_357 (fun _ h9 => h9) rfl (by decide +kernel) rfl rfl (Nat.le_of_ble_eq_true rfl) dX9_rowChanged_5 (fun H locs hP hD hS => ?_)
  have hP : va_P (dC, dI) vwCl [oHC ad xHC_first xHC_second xHC_when xHC_ran, oBeg ad xBeg_who xBeg_reaches xBeg_lastTime 0, oSlp ad xSlp_known] H := hP
  have hD : va_D A [oHC ad xHC_first xHC_second xHC_when xHC_ran, oBeg ad xBeg_who xBeg_reaches xBeg_lastTime 0, oSlp ad xSlp_known] := hD
  refine lv_aload_n hx hb dX9_rowChanged_8 rfl (lv_at hl 0 rfl) ?_
  have hPc := hP.sub (ws' := [oHC ad xHC_first xHC_second xHC_when xHC_ran, oSlp ad xSlp_known]) [0, 2] rfl
  have hDc := hD.sub (ws' := [oHC ad xHC_first xHC_second xHC_when xHC_ran, oSlp ad xSlp_known]) [0, 2] (by decide) rfl
  have hFc := va_free (wc := [oHC ad xHC_first xHC_second xHC_when xHC_ran, oSlp ad xSlp_known]) hD hS hA [0, 2] rfl
  obtain ⟨u_1, hc_1, hm⟩ := bd_ok hm
  refine va_callv (va_runV (As := []) (rest := []) ⟨hx, hb, hml, hown, hts⟩ (kC_squeezeChanged l dC dI cA ad H.size xHC_first xHC_second xHC_when xHC_ran xSlp_known u_1 hc_1) (cwV 0 hts gX9_rowChanged_X9_squeezeChanged rfl rfl rfl (by decide +kernel) ⟨Nat.le_of_ble_eq_true rfl, Nat.le_of_ble_eq_true rfl⟩) ⟨fun a U g mk q => by obtain ⟨q0, q1, qP, qK, qD⟩ := q; exact ⟨q0, q1, qP, va_K.moved (u := U) (U := U.calling g mk a) (Vm.Alike.refl U.vm) qK, qD⟩, va_recv hK hPc (ci := 9) (q0 := 0) rfl rfl, fun U hU hW => ⟨rfl, by rw [hU], by rw [hU]; exact hPc, va_K.moved hW.alike hK, hDc.weaken (fun _ _ _ _ => trivial)⟩⟩ rfl rfl hl.1 rfl (lv_room (Nat.le_of_ble_eq_true rfl)) dX9_rowChanged_9 ⟨Nat.le_of_ble_eq_true rfl, Nat.le_of_ble_eq_true rfl⟩) hS (fun q _ h => hFc q h) hFc (fun _ t H1 locs ht hvm hw hB hz1 hk1 hS => ?_)
  obtain ⟨hP1, hK1, hD1⟩ := hB
  rw [ht] at hP1
  obtain ⟨hP, hD⟩ := va_join (wr := [oBeg ad xBeg_who xBeg_reaches xBeg_lastTime 0]) (w1 := [oHC ad xHC_first xHC_second xHC_when u_1.1, oSlp ad u_1.2]) hP hD [0, 2] [1] rfl rfl (by decide) (by decide) hk1 hFc hP1 hD1
  clear hPc hDc hFc hP1 hK1 hD1 hk1 hz1 hvm ht
  generalize H1 = H at hP hS ⊢
  have hP : va_P (dC, dI) vwCl [oHC ad xHC_first xHC_second xHC_when u_1.1, oBeg ad xBeg_who xBeg_reaches xBeg_lastTime 0, oSlp ad u_1.2] H := hP.sub [1, 0, 2] rfl
  have hD : va_D A [oHC ad xHC_first xHC_second xHC_when u_1.1, oBeg ad xBeg_who xBeg_reaches xBeg_lastTime 0, oSlp ad u_1.2] := hD.sub [1, 0, 2] (by decide) rfl
  obtain rfl := Option.some.inj hm
  subst hQ
  exact W.vret hx hb hr (fun t ht hW => ⟨⟨(), rfl, trivial, by rw [ht]; exact hP, va_K.moved hW.alike hK, hAe ▸ hD⟩, hS.F ht⟩) hS.2.2 dX9_rowChanged_12

set_option maxHeartbeats 4000000 in
set_option maxRecDepth 100000 in
theorem kC_type (l : Launch) (dC : Nat → ClassId) (dI : Nat → Nat → Nat) (cA : ClassId) (ad : Nat → Nat) (sz : Nat) (a1 : Int32) (xHC_first : Int32) (xHC_second : Int32) (xHC_when : Int32) (xHC_ran : Int32) (xRow_depth : Int32) (xRow_length : Int32) (xRow_people : Int32) (xRow_scarves : Int32) (xRow_main : Int32) (xRow_faultPlace : Int32) (gRtext : Nat → Int32) (gRkinds : Nat → Int32) (gRlates : Nat → Int32) (gRhands : Nat → Int32) (gRslow : Nat → Int32) (gRahead : Nat → Int32) (gRdirect : Nat → Int32) (xBeg_who : Int32) (xBeg_reaches : Int32) (xBeg_lastTime : Int32) (xBeg_known : Int32) (xSlp_known : Int32) (u : Int32 × Int32 × Int32 × Int32 × Int32 × Int32 × Int32 × Int32 × (Nat → Int32) × (Nat → Int32) × (Nat → Int32) × (Nat → Int32) × (Nat → Int32) × (Nat → Int32) × (Nat → Int32) × Int32 × Int32) (hm : fC_type a1 xHC_ran xRow_depth xRow_length xRow_people xRow_scarves xRow_main xRow_faultPlace gRtext gRkinds gRlates gRhands gRslow gRahead gRdirect xBeg_known xSlp_known = some u) : Met l yX9_type wsX9_type ({ frames := 6, cells := 0, slots := 0, locals := 137 }) (va_Pc [.ref (ad 0), .int a1] (fun U => U.heap.size = sz ∧ va_P (dC, dI) vwCl [oHC ad xHC_first xHC_second xHC_when xHC_ran, oRow ad xRow_depth xRow_length xRow_people xRow_scarves xRow_main xRow_faultPlace, ar (ad 2) cA 60 gRtext, ar (ad 3) cA 20 gRkinds, ar (ad 4) cA 20 gRlates, ar (ad 5) cA 20 gRhands, ar (ad 6) cA 20 gRslow, ar (ad 7) cA 4 gRahead, ar (ad 8) cA 4 gRdirect, oBeg ad xBeg_who xBeg_reaches xBeg_lastTime xBeg_known, oSlp ad xSlp_known] U.heap ∧ va_K (dC, dI) vwCl [(cA, .int)] U ∧ va_D (fun _ => True) [oHC ad xHC_first xHC_second xHC_when xHC_ran, oRow ad xRow_depth xRow_length xRow_people xRow_scarves xRow_main xRow_faultPlace, ar (ad 2) cA 60 gRtext, ar (ad 3) cA 20 gRkinds, ar (ad 4) cA 20 gRlates, ar (ad 5) cA 20 gRhands, ar (ad 6) cA 20 gRslow, ar (ad 7) cA 4 gRahead, ar (ad 8) cA 4 gRdirect, oBeg ad xBeg_who xBeg_reaches xBeg_lastTime xBeg_known, oSlp ad xSlp_known])) (va_Qi (fun (r : Int32) (_ : Unit) => r = u.1) (fun (_ : Unit) t => va_P (dC, dI) vwCl [oHC ad xHC_first xHC_second xHC_when u.2.1, oRow ad u.2.2.1 u.2.2.2.1 u.2.2.2.2.1 u.2.2.2.2.2.1 u.2.2.2.2.2.2.1 u.2.2.2.2.2.2.2.1, ar (ad 2) cA 60 u.2.2.2.2.2.2.2.2.1, ar (ad 3) cA 20 u.2.2.2.2.2.2.2.2.2.1, ar (ad 4) cA 20 u.2.2.2.2.2.2.2.2.2.2.1, ar (ad 5) cA 20 u.2.2.2.2.2.2.2.2.2.2.2.1, ar (ad 6) cA 20 u.2.2.2.2.2.2.2.2.2.2.2.2.1, ar (ad 7) cA 4 u.2.2.2.2.2.2.2.2.2.2.2.2.2.1, ar (ad 8) cA 4 u.2.2.2.2.2.2.2.2.2.2.2.2.2.2.1, oBeg ad xBeg_who xBeg_reaches xBeg_lastTime u.2.2.2.2.2.2.2.2.2.2.2.2.2.2.2.1, oSlp ad u.2.2.2.2.2.2.2.2.2.2.2.2.2.2.2.2] t.heap ∧ va_K (dC, dI) vwCl [(cA, .int)] t ∧ va_D (va_A [oHC ad xHC_first xHC_second xHC_when xHC_ran, oRow ad xRow_depth xRow_length xRow_people xRow_scarves xRow_main xRow_faultPlace, ar (ad 2) cA 60 gRtext, ar (ad 3) cA 20 gRkinds, ar (ad 4) cA 20 gRlates, ar (ad 5) cA 20 gRhands, ar (ad 6) cA 20 gRslow, ar (ad 7) cA 4 gRahead, ar (ad 8) cA 4 gRdirect, oBeg ad xBeg_who xBeg_reaches xBeg_lastTime xBeg_known, oSlp ad xSlp_known] sz) [oHC ad xHC_first xHC_second xHC_when u.2.1, oRow ad u.2.2.1 u.2.2.2.1 u.2.2.2.2.1 u.2.2.2.2.2.1 u.2.2.2.2.2.2.1 u.2.2.2.2.2.2.2.1, ar (ad 2) cA 60 u.2.2.2.2.2.2.2.2.1, ar (ad 3) cA 20 u.2.2.2.2.2.2.2.2.2.1, ar (ad 4) cA 20 u.2.2.2.2.2.2.2.2.2.2.1, ar (ad 5) cA 20 u.2.2.2.2.2.2.2.2.2.2.2.1, ar (ad 6) cA 20 u.2.2.2.2.2.2.2.2.2.2.2.2.1, ar (ad 7) cA 4 u.2.2.2.2.2.2.2.2.2.2.2.2.2.1, ar (ad 8) cA 4 u.2.2.2.2.2.2.2.2.2.2.2.2.2.2.1, oBeg ad xBeg_who xBeg_reaches xBeg_lastTime u.2.2.2.2.2.2.2.2.2.2.2.2.2.2.2.1, oSlp ad u.2.2.2.2.2.2.2.2.2.2.2.2.2.2.2.2]) (va_A [oHC ad xHC_first xHC_second xHC_when xHC_ran, oRow ad xRow_depth xRow_length xRow_people xRow_scarves xRow_main xRow_faultPlace, ar (ad 2) cA 60 gRtext, ar (ad 3) cA 20 gRkinds, ar (ad 4) cA 20 gRlates, ar (ad 5) cA 20 gRhands, ar (ad 6) cA 20 gRslow, ar (ad 7) cA 4 gRahead, ar (ad 8) cA 4 gRdirect, oBeg ad xBeg_who xBeg_reaches xBeg_lastTime xBeg_known, oSlp ad xSlp_known] sz)) 0 0 (va_A [oHC ad xHC_first xHC_second xHC_when xHC_ran, oRow ad xRow_depth xRow_length xRow_people xRow_scarves xRow_main xRow_faultPlace, ar (ad 2) cA 60 gRtext, ar (ad 3) cA 20 gRkinds, ar (ad 4) cA 20 gRlates, ar (ad 5) cA 20 gRhands, ar (ad 6) cA 20 gRslow, ar (ad 7) cA 4 gRahead, ar (ad 8) cA 4 gRdirect, oBeg ad xBeg_who xBeg_reaches xBeg_lastTime xBeg_known, oSlp ad xSlp_known] sz) := by
  refine Met.ofW (cc := cX9_type) (maxL := 2) (ret := (some .int)) (by decide) rfl ?_
  intro p e s m args below meth c s₁ B hml hv
  obtain ⟨rfl, hsz, hP, hK, hD0⟩ := hv
  have hx := B.exec
  have hb := B.bytes
  have hr := B.returns
  have hts := atoms_spec (ws := wsX9_type) B.pre
  have hown : s.vm.findClass RX9 = some m.cls := findClass_of_methodNamed B.named
  have hlocks := B.notSynchronized
  subst hsz
  have hD := hD0.self (sz := s.heap.size)
  generalize hAe : va_A [oHC ad xHC_first xHC_second xHC_when xHC_ran, oRow ad xRow_depth xRow_length xRow_people xRow_scarves xRow_main xRow_faultPlace, ar (ad 2) cA 60 gRtext, ar (ad 3) cA 20 gRkinds, ar (ad 4) cA 20 gRlates, ar (ad 5) cA 20 gRhands, ar (ad 6) cA 20 gRslow, ar (ad 7) cA 4 gRahead, ar (ad 8) cA 4 gRdirect, oBeg ad xBeg_who xBeg_reaches xBeg_lastTime xBeg_known, oSlp ad xSlp_known] s.heap.size = A at hD ⊢
  have hA : ∀ q : Nat, s.heap.size ≤ q → A q := fun q h => by rw [← hAe]; exact Or.inr h
  have hS : va_S A s.heap s.heap [] := va_S.rf
  have hl := lv_entry ([.ref (ad 0), .int a1]) (n := 2) (Nat.le_of_ble_eq_true rfl)
  rw [lg_entry_eq]
  generalize (lg_sl ([.ref (ad 0), .int a1]) ++ List.replicate (2 - (lg_sl ([.ref (ad 0), .int a1])).length) Slot.unset).toArray = ls at hl ⊢
  have hl : lv_has ls 2 [(0, .ref (ad 0)), (1, .int a1)] := hl
  refine wk_Q (fun QQ hQ => ?_)
  have hinX9 : ∀ w ∈ wsX90, w ∈ wsX9_type := fun w h => List.mem_cons_of_mem _ (inlX9 w h)
  have hl_10 := hts (.fieldLink RX9 10 "HandCensus" "row" "LHandCensus$Row;") (List.mem_cons_of_mem _ (in_r1 _ (List.mem_of_getElem? (i := 15) rfl)))
  have hinX5 : ∀ w ∈ wsX50, w ∈ wsX9_type := fun w h => List.mem_cons_of_mem _ (inlX5 w h)
  have hl_93 := hts (.fieldLink RX9 93 "HandCensus$Row" "length" "I") (List.mem_cons_of_mem _ (in_r8 _ (List.mem_of_getElem? (i := 7) rfl)))
  unfold fC_type at hm
  refine lv_iload_n hx hb dX9_type_0 rfl (lv_at hl 1 rfl) ?_
  refine lv_if_lt (tgt := 11) hx hb dX9_type_1 (by decide) (fun c_1 => ?_) (fun c_1 => ?_)
  · have hm := it_pos c_1 hm
    refine lv_bipush (v := (-2)) hx hb dX9_type_11 (by decide) ?_
    obtain rfl := Option.some.inj hm
    subst hQ
    exact W.iret (v := (-2)) hx hb hr (fun t ht hW => ⟨⟨_, (), rfl, rfl, by rw [ht]; exact hP, va_K.moved hW.alike hK, hAe ▸ hD⟩, hS.F ht⟩) hS.2.2 dX9_type_13
  · have hm := it_neg c_1 hm
    refine lv_iload_n hx hb dX9_type_4 rfl (lv_at hl 1 rfl) ?_
    refine lv_sipush (v := 255) hx hb dX9_type_5 (by decide) ?_
    refine lv_icmp_le (tgt := 14) hx hb dX9_type_8 (by decide) (fun c_2 => ?_) (fun c_2 => ?_)
    · have hm := it_pos c_2 hm
      refine lv_aload_n hx hb dX9_type_14 rfl (lv_at hl 0 rfl) ?_
      refine va_get (D := (dC, dI)) (ci := 9) (v := .ref (ad 1)) (C := RX9) (T := TX9) (N := 12) hx hb hts hinX9 hown hK hP 0 rfl rfl 0 (by decide) hl_10 (fun _ h9 => h9) rfl dX9_type_15 ?_
      refine lv_iload_n hx hb dX9_type_18 rfl (lv_at hl 1 rfl) ?_
      have hPc := hP.sub (ws' := [oRow ad xRow_depth xRow_length xRow_people xRow_scarves xRow_main xRow_faultPlace, ar (ad 2) cA 60 gRtext, ar (ad 3) cA 20 gRkinds, ar (ad 4) cA 20 gRlates, ar (ad 5) cA 20 gRhands, ar (ad 6) cA 20 gRslow, ar (ad 7) cA 4 gRahead, ar (ad 8) cA 4 gRdirect]) [1, 2, 3, 4, 5, 6, 7, 8] rfl
      have hDc := hD.sub (ws' := [oRow ad xRow_depth xRow_length xRow_people xRow_scarves xRow_main xRow_faultPlace, ar (ad 2) cA 60 gRtext, ar (ad 3) cA 20 gRkinds, ar (ad 4) cA 20 gRlates, ar (ad 5) cA 20 gRhands, ar (ad 6) cA 20 gRslow, ar (ad 7) cA 4 gRahead, ar (ad 8) cA 4 gRdirect]) [1, 2, 3, 4, 5, 6, 7, 8] (by decide) rfl
      have hFc := va_free (wc := [oRow ad xRow_depth xRow_length xRow_people xRow_scarves xRow_main xRow_faultPlace, ar (ad 2) cA 60 gRtext, ar (ad 3) cA 20 gRkinds, ar (ad 4) cA 20 gRlates, ar (ad 5) cA 20 gRhands, ar (ad 6) cA 20 gRslow, ar (ad 7) cA 4 gRahead, ar (ad 8) cA 4 gRdirect]) hD hS hA [1, 2, 3, 4, 5, 6, 7, 8] rfl
      obtain ⟨u_3, hc_3, hm⟩ := bd_ok hm
      refine va_calli (va_runV (As := [.int a1]) (rest := []) ⟨hx, hb, hml, hown, hts⟩ (kR_append l dC dI cA ad s.heap.size a1 xRow_depth xRow_length xRow_people xRow_scarves xRow_main xRow_faultPlace gRtext gRkinds gRlates gRhands gRslow gRahead gRdirect u_3 hc_3) (cwV 1 hts gX9_type_X5_append rfl rfl rfl (by decide +kernel) ⟨Nat.le_of_ble_eq_true rfl, Nat.le_of_ble_eq_true rfl⟩) ⟨fun a U g mk q => by obtain ⟨q0, q1, qP, qK, qD⟩ := q; exact ⟨q0, q1, qP, va_K.moved (u := U) (U := U.calling g mk a) (Vm.Alike.refl U.vm) qK, qD⟩, va_recv hK hPc (ci := 5) (q0 := 0) rfl rfl, fun U hU hW => ⟨rfl, by rw [hU], by rw [hU]; exact hPc, va_K.moved hW.alike hK, hDc.weaken (fun _ _ _ _ => trivial)⟩⟩ rfl rfl hl.1 rfl (lv_room (Nat.le_of_ble_eq_true rfl)) dX9_type_19 ⟨Nat.le_of_ble_eq_true rfl, Nat.le_of_ble_eq_true rfl⟩) hS (fun q _ h => hFc q h) hFc (fun r_3 _ t H1 locs ht hvm hw hB hz1 hk1 hS => ?_)
      obtain ⟨hP1, hK1, hD1⟩ := hB
      rw [ht] at hP1
      obtain ⟨hP, hD⟩ := va_join (wr := [oHC ad xHC_first xHC_second xHC_when xHC_ran, oBeg ad xBeg_who xBeg_reaches xBeg_lastTime xBeg_known, oSlp ad xSlp_known]) (w1 := [oRow ad u_3.2.1 u_3.2.2.1 u_3.2.2.2.1 u_3.2.2.2.2.1 u_3.2.2.2.2.2.1 u_3.2.2.2.2.2.2.1, ar (ad 2) cA 60 u_3.2.2.2.2.2.2.2.1, ar (ad 3) cA 20 u_3.2.2.2.2.2.2.2.2.1, ar (ad 4) cA 20 u_3.2.2.2.2.2.2.2.2.2.1, ar (ad 5) cA 20 u_3.2.2.2.2.2.2.2.2.2.2.1, ar (ad 6) cA 20 u_3.2.2.2.2.2.2.2.2.2.2.2.1, ar (ad 7) cA 4 u_3.2.2.2.2.2.2.2.2.2.2.2.2.1, ar (ad 8) cA 4 u_3.2.2.2.2.2.2.2.2.2.2.2.2.2]) hP hD [1, 2, 3, 4, 5, 6, 7, 8] [0, 9, 10] rfl rfl (by decide) (by decide) hk1 hFc hP1 hD1
      clear hPc hDc hFc hP1 hK1 hD1 hk1 hz1 hvm ht
      generalize H1 = H at hP hS ⊢
      have hP : va_P (dC, dI) vwCl [oHC ad xHC_first xHC_second xHC_when xHC_ran, oRow ad u_3.2.1 u_3.2.2.1 u_3.2.2.2.1 u_3.2.2.2.2.1 u_3.2.2.2.2.2.1 u_3.2.2.2.2.2.2.1, ar (ad 2) cA 60 u_3.2.2.2.2.2.2.2.1, ar (ad 3) cA 20 u_3.2.2.2.2.2.2.2.2.1, ar (ad 4) cA 20 u_3.2.2.2.2.2.2.2.2.2.1, ar (ad 5) cA 20 u_3.2.2.2.2.2.2.2.2.2.2.1, ar (ad 6) cA 20 u_3.2.2.2.2.2.2.2.2.2.2.2.1, ar (ad 7) cA 4 u_3.2.2.2.2.2.2.2.2.2.2.2.2.1, ar (ad 8) cA 4 u_3.2.2.2.2.2.2.2.2.2.2.2.2.2, oBeg ad xBeg_who xBeg_reaches xBeg_lastTime xBeg_known, oSlp ad xSlp_known] H := hP.sub [0, 3, 4, 5, 6, 7, 8, 9, 10, 1, 2] rfl
      have hD : va_D A [oHC ad xHC_first xHC_second xHC_when xHC_ran, oRow ad u_3.2.1 u_3.2.2.1 u_3.2.2.2.1 u_3.2.2.2.2.1 u_3.2.2.2.2.2.1 u_3.2.2.2.2.2.2.1, ar (ad 2) cA 60 u_3.2.2.2.2.2.2.2.1, ar (ad 3) cA 20 u_3.2.2.2.2.2.2.2.2.1, ar (ad 4) cA 20 u_3.2.2.2.2.2.2.2.2.2.1, ar (ad 5) cA 20 u_3.2.2.2.2.2.2.2.2.2.2.1, ar (ad 6) cA 20 u_3.2.2.2.2.2.2.2.2.2.2.2.1, ar (ad 7) cA 4 u_3.2.2.2.2.2.2.2.2.2.2.2.2.1, ar (ad 8) cA 4 u_3.2.2.2.2.2.2.2.2.2.2.2.2.2, oBeg ad xBeg_who xBeg_reaches xBeg_lastTime xBeg_known, oSlp ad xSlp_known] := hD.sub [0, 3, 4, 5, 6, 7, 8, 9, 10, 1, 2] (by decide) rfl
      have hw := hw.symm
      subst hw
      refine lv_if_ne (tgt := 28) hx hb dX9_type_22 (by decide) (fun c_4 => ?_) (fun c_4 => ?_)
      · have hm := it_neg c_4 hm
        refine lv_aload_n hx hb dX9_type_28 rfl (lv_at hl 0 rfl) ?_
        have hPc := hP.sub (ws' := [oHC ad xHC_first xHC_second xHC_when xHC_ran, oBeg ad xBeg_who xBeg_reaches xBeg_lastTime xBeg_known, oSlp ad xSlp_known]) [0, 9, 10] rfl
        have hDc := hD.sub (ws' := [oHC ad xHC_first xHC_second xHC_when xHC_ran, oBeg ad xBeg_who xBeg_reaches xBeg_lastTime xBeg_known, oSlp ad xSlp_known]) [0, 9, 10] (by decide) rfl
        have hFc := va_free (wc := [oHC ad xHC_first xHC_second xHC_when xHC_ran, oBeg ad xBeg_who xBeg_reaches xBeg_lastTime xBeg_known, oSlp ad xSlp_known]) hD hS hA [0, 9, 10] rfl
        obtain ⟨u_5, hc_5, hm⟩ := bd_ok hm
        refine va_callv (va_runV (As := []) (rest := []) ⟨hx, hb, hml, hown, hts⟩ (kC_rowChanged l dC dI cA ad H.size xHC_first xHC_second xHC_when xHC_ran xBeg_who xBeg_reaches xBeg_lastTime xBeg_known xSlp_known u_5 hc_5) (cwV 0 hts gX9_type_X9_rowChanged rfl rfl rfl (by decide +kernel) ⟨Nat.le_of_ble_eq_true rfl, Nat.le_of_ble_eq_true rfl⟩) ⟨fun a U g mk q => by obtain ⟨q0, q1, qP, qK, qD⟩ := q; exact ⟨q0, q1, qP, va_K.moved (u := U) (U := U.calling g mk a) (Vm.Alike.refl U.vm) qK, qD⟩, va_recv hK hPc (ci := 9) (q0 := 0) rfl rfl, fun U hU hW => ⟨rfl, by rw [hU], by rw [hU]; exact hPc, va_K.moved hW.alike hK, hDc.weaken (fun _ _ _ _ => trivial)⟩⟩ rfl rfl hl.1 rfl (lv_room (Nat.le_of_ble_eq_true rfl)) dX9_type_29 ⟨Nat.le_of_ble_eq_true rfl, Nat.le_of_ble_eq_true rfl⟩) hS (fun q _ h => hFc q h) hFc (fun _ t H1 locs ht hvm hw hB hz1 hk1 hS => ?_)
        obtain ⟨hP1, hK1, hD1⟩ := hB
        rw [ht] at hP1
        obtain ⟨hP, hD⟩ := va_join (wr := [oRow ad u_3.2.1 u_3.2.2.1 u_3.2.2.2.1 u_3.2.2.2.2.1 u_3.2.2.2.2.2.1 u_3.2.2.2.2.2.2.1, ar (ad 2) cA 60 u_3.2.2.2.2.2.2.2.1, ar (ad 3) cA 20 u_3.2.2.2.2.2.2.2.2.1, ar (ad 4) cA 20 u_3.2.2.2.2.2.2.2.2.2.1, ar (ad 5) cA 20 u_3.2.2.2.2.2.2.2.2.2.2.1, ar (ad 6) cA 20 u_3.2.2.2.2.2.2.2.2.2.2.2.1, ar (ad 7) cA 4 u_3.2.2.2.2.2.2.2.2.2.2.2.2.1, ar (ad 8) cA 4 u_3.2.2.2.2.2.2.2.2.2.2.2.2.2]) (w1 := [oHC ad xHC_first xHC_second xHC_when u_5.1, oBeg ad xBeg_who xBeg_reaches xBeg_lastTime u_5.2.1, oSlp ad u_5.2.2]) hP hD [0, 9, 10] [1, 2, 3, 4, 5, 6, 7, 8] rfl rfl (by decide) (by decide) hk1 hFc hP1 hD1
        clear hPc hDc hFc hP1 hK1 hD1 hk1 hz1 hvm ht
        generalize H1 = H at hP hS ⊢
        have hP : va_P (dC, dI) vwCl [oHC ad xHC_first xHC_second xHC_when u_5.1, oRow ad u_3.2.1 u_3.2.2.1 u_3.2.2.2.1 u_3.2.2.2.2.1 u_3.2.2.2.2.2.1 u_3.2.2.2.2.2.2.1, ar (ad 2) cA 60 u_3.2.2.2.2.2.2.2.1, ar (ad 3) cA 20 u_3.2.2.2.2.2.2.2.2.1, ar (ad 4) cA 20 u_3.2.2.2.2.2.2.2.2.2.1, ar (ad 5) cA 20 u_3.2.2.2.2.2.2.2.2.2.2.1, ar (ad 6) cA 20 u_3.2.2.2.2.2.2.2.2.2.2.2.1, ar (ad 7) cA 4 u_3.2.2.2.2.2.2.2.2.2.2.2.2.1, ar (ad 8) cA 4 u_3.2.2.2.2.2.2.2.2.2.2.2.2.2, oBeg ad xBeg_who xBeg_reaches xBeg_lastTime u_5.2.1, oSlp ad u_5.2.2] H := hP.sub [8, 0, 1, 2, 3, 4, 5, 6, 7, 9, 10] rfl
        have hD : va_D A [oHC ad xHC_first xHC_second xHC_when u_5.1, oRow ad u_3.2.1 u_3.2.2.1 u_3.2.2.2.1 u_3.2.2.2.2.1 u_3.2.2.2.2.2.1 u_3.2.2.2.2.2.2.1, ar (ad 2) cA 60 u_3.2.2.2.2.2.2.2.1, ar (ad 3) cA 20 u_3.2.2.2.2.2.2.2.2.1, ar (ad 4) cA 20 u_3.2.2.2.2.2.2.2.2.2.1, ar (ad 5) cA 20 u_3.2.2.2.2.2.2.2.2.2.2.1, ar (ad 6) cA 20 u_3.2.2.2.2.2.2.2.2.2.2.2.1, ar (ad 7) cA 4 u_3.2.2.2.2.2.2.2.2.2.2.2.2.1, ar (ad 8) cA 4 u_3.2.2.2.2.2.2.2.2.2.2.2.2.2, oBeg ad xBeg_who xBeg_reaches xBeg_lastTime u_5.2.1, oSlp ad u_5.2.2] := hD.sub [8, 0, 1, 2, 3, 4, 5, 6, 7, 9, 10] (by decide) rfl
        refine lv_aload_n hx hb dX9_type_32 rfl (lv_at hl 0 rfl) ?_
        refine va_get (D := (dC, dI)) (ci := 9) (v := .ref (ad 1)) (C := RX9) (T := TX9) (N := 12) hx hb hts hinX9 hown hK hP 0 rfl rfl 0 (by decide) hl_10 (fun _ h9 => h9) rfl dX9_type_33 ?_
        refine va_get (D := (dC, dI)) (ci := 5) (v := .int u_3.2.2.1) (C := RX5) (T := TX5) (N := 13) hx hb hts hinX5 hown hK hP 1 rfl rfl 8 (by decide) hl_93 (fun _ h9 => h9) rfl dX9_type_36 ?_
        obtain rfl := Option.some.inj hm
        subst hQ
        exact W.iret (v := u_3.2.2.1) hx hb hr (fun t ht hW => ⟨⟨_, (), rfl, rfl, by rw [ht]; exact hP, va_K.moved hW.alike hK, hAe ▸ hD⟩, hS.F ht⟩) hS.2.2 dX9_type_39
      · have hm := it_pos c_4 hm
        refine lv_bipush (v := (-4)) hx hb dX9_type_25 (by decide) ?_
        obtain rfl := Option.some.inj hm
        subst hQ
        exact W.iret (v := (-4)) hx hb hr (fun t ht hW => ⟨⟨_, (), rfl, rfl, by rw [ht]; exact hP, va_K.moved hW.alike hK, hAe ▸ hD⟩, hS.F ht⟩) hS.2.2 dX9_type_27
    · have hm := it_neg c_2 hm
      refine lv_bipush (v := (-2)) hx hb dX9_type_11 (by decide) ?_
      obtain rfl := Option.some.inj hm
      subst hQ
      exact W.iret (v := (-2)) hx hb hr (fun t ht hW => ⟨⟨_, (), rfl, rfl, by rw [ht]; exact hP, va_K.moved hW.alike hK, hAe ▸ hD⟩, hS.F ht⟩) hS.2.2 dX9_type_13

set_option maxHeartbeats 4000000 in
set_option maxRecDepth 100000 in
theorem kR_empty (l : Launch) (dC : Nat → ClassId) (dI : Nat → Nat → Nat) (cA : ClassId) (ad : Nat → Nat) (sz : Nat) (xRow_depth : Int32) (xRow_length : Int32) (xRow_people : Int32) (xRow_scarves : Int32) (xRow_main : Int32) (xRow_faultPlace : Int32) (gRtext : Nat → Int32) (gRkinds : Nat → Int32) (gRlates : Nat → Int32) (gRhands : Nat → Int32) (gRslow : Nat → Int32) (gRahead : Nat → Int32) (gRdirect : Nat → Int32) (u : Int32 × Int32 × Int32 × Int32 × Int32 × Int32 × (Nat → Int32) × (Nat → Int32) × (Nat → Int32) × (Nat → Int32) × (Nat → Int32) × (Nat → Int32)) (hm : fR_empty xRow_depth xRow_length xRow_people xRow_scarves xRow_main xRow_faultPlace gRtext gRkinds gRlates gRhands gRslow gRahead gRdirect = some u) : Met l yX5_empty wsX5_empty ({ frames := 5, cells := 0, slots := 0, locals := 116 }) (va_Pc [.ref (ad 1)] (fun U => U.heap.size = sz ∧ va_P (dC, dI) vwCl [oRow ad xRow_depth xRow_length xRow_people xRow_scarves xRow_main xRow_faultPlace, ar (ad 2) cA 60 gRtext, ar (ad 3) cA 20 gRkinds, ar (ad 4) cA 20 gRlates, ar (ad 5) cA 20 gRhands, ar (ad 6) cA 20 gRslow, ar (ad 7) cA 4 gRahead, ar (ad 8) cA 4 gRdirect] U.heap ∧ va_K (dC, dI) vwCl [(cA, .int)] U ∧ va_D (fun _ => True) [oRow ad xRow_depth xRow_length xRow_people xRow_scarves xRow_main xRow_faultPlace, ar (ad 2) cA 60 gRtext, ar (ad 3) cA 20 gRkinds, ar (ad 4) cA 20 gRlates, ar (ad 5) cA 20 gRhands, ar (ad 6) cA 20 gRslow, ar (ad 7) cA 4 gRahead, ar (ad 8) cA 4 gRdirect])) (va_Qv (fun (_ : Unit) => True) (fun (_ : Unit) t => va_P (dC, dI) vwCl [oRow ad u.1 u.2.1 u.2.2.1 u.2.2.2.1 u.2.2.2.2.1 u.2.2.2.2.2.1, ar (ad 2) cA 60 gRtext, ar (ad 3) cA 20 u.2.2.2.2.2.2.1, ar (ad 4) cA 20 u.2.2.2.2.2.2.2.1, ar (ad 5) cA 20 u.2.2.2.2.2.2.2.2.1, ar (ad 6) cA 20 u.2.2.2.2.2.2.2.2.2.1, ar (ad 7) cA 4 u.2.2.2.2.2.2.2.2.2.2.1, ar (ad 8) cA 4 u.2.2.2.2.2.2.2.2.2.2.2] t.heap ∧ va_K (dC, dI) vwCl [(cA, .int)] t ∧ va_D (va_A [oRow ad xRow_depth xRow_length xRow_people xRow_scarves xRow_main xRow_faultPlace, ar (ad 2) cA 60 gRtext, ar (ad 3) cA 20 gRkinds, ar (ad 4) cA 20 gRlates, ar (ad 5) cA 20 gRhands, ar (ad 6) cA 20 gRslow, ar (ad 7) cA 4 gRahead, ar (ad 8) cA 4 gRdirect] sz) [oRow ad u.1 u.2.1 u.2.2.1 u.2.2.2.1 u.2.2.2.2.1 u.2.2.2.2.2.1, ar (ad 2) cA 60 gRtext, ar (ad 3) cA 20 u.2.2.2.2.2.2.1, ar (ad 4) cA 20 u.2.2.2.2.2.2.2.1, ar (ad 5) cA 20 u.2.2.2.2.2.2.2.2.1, ar (ad 6) cA 20 u.2.2.2.2.2.2.2.2.2.1, ar (ad 7) cA 4 u.2.2.2.2.2.2.2.2.2.2.1, ar (ad 8) cA 4 u.2.2.2.2.2.2.2.2.2.2.2]) (va_A [oRow ad xRow_depth xRow_length xRow_people xRow_scarves xRow_main xRow_faultPlace, ar (ad 2) cA 60 gRtext, ar (ad 3) cA 20 gRkinds, ar (ad 4) cA 20 gRlates, ar (ad 5) cA 20 gRhands, ar (ad 6) cA 20 gRslow, ar (ad 7) cA 4 gRahead, ar (ad 8) cA 4 gRdirect] sz)) 0 0 (va_A [oRow ad xRow_depth xRow_length xRow_people xRow_scarves xRow_main xRow_faultPlace, ar (ad 2) cA 60 gRtext, ar (ad 3) cA 20 gRkinds, ar (ad 4) cA 20 gRlates, ar (ad 5) cA 20 gRhands, ar (ad 6) cA 20 gRslow, ar (ad 7) cA 4 gRahead, ar (ad 8) cA 4 gRdirect] sz) := by
  refine Met.ofW (cc := cX5_empty) (maxL := 1) (ret := none) (by decide) rfl ?_
  intro p e s m args below meth c s₁ B hml hv
  obtain ⟨rfl, hsz, hP, hK, hD0⟩ := hv
  have hx := B.exec
  have hb := B.bytes
  have hr := B.returns
  have hts := atoms_spec (ws := wsX5_empty) B.pre
  have hown : s.vm.findClass RX5 = some m.cls := findClass_of_methodNamed B.named
  have hlocks := B.notSynchronized
  subst hsz
  have hD := hD0.self (sz := s.heap.size)
  generalize hAe : va_A [oRow ad xRow_depth xRow_length xRow_people xRow_scarves xRow_main xRow_faultPlace, ar (ad 2) cA 60 gRtext, ar (ad 3) cA 20 gRkinds, ar (ad 4) cA 20 gRlates, ar (ad 5) cA 20 gRhands, ar (ad 6) cA 20 gRslow, ar (ad 7) cA 4 gRahead, ar (ad 8) cA 4 gRdirect] s.heap.size = A at hD ⊢
  have hA : ∀ q : Nat, s.heap.size ≤ q → A q := fun q h => by rw [← hAe]; exact Or.inr h
  have hS : va_S A s.heap s.heap [] := va_S.rf
  have hl := lv_entry ([.ref (ad 1)]) (n := 1) (Nat.le_of_ble_eq_true rfl)
  rw [lg_entry_eq]
  generalize (lg_sl ([.ref (ad 1)]) ++ List.replicate (1 - (lg_sl ([.ref (ad 1)])).length) Slot.unset).toArray = ls at hl ⊢
  have hl : lv_has ls 1 [(0, .ref (ad 1))] := hl
  refine wk_Q (fun QQ hQ => ?_)
  have hinX5 : ∀ w ∈ wsX50, w ∈ wsX5_empty := fun w h => List.mem_cons_of_mem _ (inlX5 w h)
  have hl_37 := hts (.fieldLink RX5 37 "HandCensus$Row" "length" "I") (List.mem_cons_of_mem _ (in_r8 _ (List.mem_of_getElem? (i := 12) rfl)))
  unfold fR_empty at hm
  refine lv_aload_n hx hb dX5_empty_0 rfl (lv_at hl 0 rfl) ?_
  refine lv_iconst (v := 0) hx hb dX5_empty_1 (by decide) ?_
  refine va_put (D := (dC, dI)) (ci := 5) (v := .int 0) (ty := .int) (C := RX5) (T := TX5) (N := 13) hx hb hts hinX5 tyX5 tyX5_ok nmX5 hown hK hP hD hS 0 rfl rfl 8 (by decide) hl_37 (fun _ h9 => h9) rfl (by decide +kernel) rfl rfl (Nat.le_of_ble_eq_true rfl) dX5_empty_2 (fun H locs hP hD hS => ?_)
  have hP : va_P (dC, dI) vwCl [oRow ad xRow_depth 0 xRow_people xRow_scarves xRow_main xRow_faultPlace, ar (ad 2) cA 60 gRtext, ar (ad 3) cA 20 gRkinds, ar (ad 4) cA 20 gRlates, ar (ad 5) cA 20 gRhands, ar (ad 6) cA 20 gRslow, ar (ad 7) cA 4 gRahead, ar (ad 8) cA 4 gRdirect] H := hP
  have hD : va_D A [oRow ad xRow_depth 0 xRow_people xRow_scarves xRow_main xRow_faultPlace, ar (ad 2) cA 60 gRtext, ar (ad 3) cA 20 gRkinds, ar (ad 4) cA 20 gRlates, ar (ad 5) cA 20 gRhands, ar (ad 6) cA 20 gRslow, ar (ad 7) cA 4 gRahead, ar (ad 8) cA 4 gRdirect] := hD
  refine lv_aload_n hx hb dX5_empty_5 rfl (lv_at hl 0 rfl) ?_
  have hPc := hP.sub (ws' := [oRow ad xRow_depth 0 xRow_people xRow_scarves xRow_main xRow_faultPlace, ar (ad 2) cA 60 gRtext, ar (ad 3) cA 20 gRkinds, ar (ad 4) cA 20 gRlates, ar (ad 5) cA 20 gRhands, ar (ad 6) cA 20 gRslow, ar (ad 7) cA 4 gRahead, ar (ad 8) cA 4 gRdirect]) [0, 1, 2, 3, 4, 5, 6, 7] rfl
  have hDc := hD.sub (ws' := [oRow ad xRow_depth 0 xRow_people xRow_scarves xRow_main xRow_faultPlace, ar (ad 2) cA 60 gRtext, ar (ad 3) cA 20 gRkinds, ar (ad 4) cA 20 gRlates, ar (ad 5) cA 20 gRhands, ar (ad 6) cA 20 gRslow, ar (ad 7) cA 4 gRahead, ar (ad 8) cA 4 gRdirect]) [0, 1, 2, 3, 4, 5, 6, 7] (by decide) rfl
  have hFc := va_free (wc := [oRow ad xRow_depth 0 xRow_people xRow_scarves xRow_main xRow_faultPlace, ar (ad 2) cA 60 gRtext, ar (ad 3) cA 20 gRkinds, ar (ad 4) cA 20 gRlates, ar (ad 5) cA 20 gRhands, ar (ad 6) cA 20 gRslow, ar (ad 7) cA 4 gRahead, ar (ad 8) cA 4 gRdirect]) hD hS hA [0, 1, 2, 3, 4, 5, 6, 7] rfl
  obtain ⟨u_1, hc_1, hm⟩ := bd_ok hm
  refine va_callv (va_runV (As := []) (rest := []) ⟨hx, hb, hml, hown, hts⟩ (kR_readText l dC dI cA ad H.size xRow_depth 0 xRow_people xRow_scarves xRow_main xRow_faultPlace gRtext gRkinds gRlates gRhands gRslow gRahead gRdirect u_1 hc_1) (cwV 0 hts gX5_empty_X5_readText rfl rfl rfl (by decide +kernel) ⟨Nat.le_of_ble_eq_true rfl, Nat.le_of_ble_eq_true rfl⟩) ⟨fun a U g mk q => by obtain ⟨q0, q1, qP, qK, qD⟩ := q; exact ⟨q0, q1, qP, va_K.moved (u := U) (U := U.calling g mk a) (Vm.Alike.refl U.vm) qK, qD⟩, va_recv hK hPc (ci := 5) (q0 := 0) rfl rfl, fun U hU hW => ⟨rfl, by rw [hU], by rw [hU]; exact hPc, va_K.moved hW.alike hK, hDc.weaken (fun _ _ _ _ => trivial)⟩⟩ rfl rfl hl.1 rfl (lv_room (Nat.le_of_ble_eq_true rfl)) dX5_empty_6 ⟨Nat.le_of_ble_eq_true rfl, Nat.le_of_ble_eq_true rfl⟩) hS (fun q _ h => hFc q h) hFc (fun _ t H1 locs ht hvm hw hB hz1 hk1 hS => ?_)
  obtain ⟨hP1, hK1, hD1⟩ := hB
  rw [ht] at hP1
  obtain ⟨hP, hD⟩ := va_join (wr := []) (w1 := [oRow ad u_1.1 0 u_1.2.1 u_1.2.2.1 u_1.2.2.2.1 u_1.2.2.2.2.1, ar (ad 2) cA 60 gRtext, ar (ad 3) cA 20 u_1.2.2.2.2.2.1, ar (ad 4) cA 20 u_1.2.2.2.2.2.2.1, ar (ad 5) cA 20 u_1.2.2.2.2.2.2.2.1, ar (ad 6) cA 20 u_1.2.2.2.2.2.2.2.2.1, ar (ad 7) cA 4 u_1.2.2.2.2.2.2.2.2.2.1, ar (ad 8) cA 4 u_1.2.2.2.2.2.2.2.2.2.2]) hP hD [0, 1, 2, 3, 4, 5, 6, 7] [] rfl rfl (by decide) (by decide) hk1 hFc hP1 hD1
  clear hPc hDc hFc hP1 hK1 hD1 hk1 hz1 hvm ht
  generalize H1 = H at hP hS ⊢
  have hP : va_P (dC, dI) vwCl [oRow ad u_1.1 0 u_1.2.1 u_1.2.2.1 u_1.2.2.2.1 u_1.2.2.2.2.1, ar (ad 2) cA 60 gRtext, ar (ad 3) cA 20 u_1.2.2.2.2.2.1, ar (ad 4) cA 20 u_1.2.2.2.2.2.2.1, ar (ad 5) cA 20 u_1.2.2.2.2.2.2.2.1, ar (ad 6) cA 20 u_1.2.2.2.2.2.2.2.2.1, ar (ad 7) cA 4 u_1.2.2.2.2.2.2.2.2.2.1, ar (ad 8) cA 4 u_1.2.2.2.2.2.2.2.2.2.2] H := hP
  have hD : va_D A [oRow ad u_1.1 0 u_1.2.1 u_1.2.2.1 u_1.2.2.2.1 u_1.2.2.2.2.1, ar (ad 2) cA 60 gRtext, ar (ad 3) cA 20 u_1.2.2.2.2.2.1, ar (ad 4) cA 20 u_1.2.2.2.2.2.2.1, ar (ad 5) cA 20 u_1.2.2.2.2.2.2.2.1, ar (ad 6) cA 20 u_1.2.2.2.2.2.2.2.2.1, ar (ad 7) cA 4 u_1.2.2.2.2.2.2.2.2.2.1, ar (ad 8) cA 4 u_1.2.2.2.2.2.2.2.2.2.2] := hD
  obtain rfl := Option.some.inj hm
  subst hQ
  exact W.vret hx hb hr (fun t ht hW => ⟨⟨(), rfl, trivial, by rw [ht]; exact hP, va_K.moved hW.alike hK, hAe ▸ hD⟩, hS.F ht⟩) hS.2.2 dX5_empty_9

set_option maxHeartbeats 4000000 in
set_option maxRecDepth 100000 in
theorem kC_wipe (l : Launch) (dC : Nat → ClassId) (dI : Nat → Nat → Nat) (cA : ClassId) (ad : Nat → Nat) (sz : Nat) (xHC_first : Int32) (xHC_second : Int32) (xHC_when : Int32) (xHC_ran : Int32) (xRow_depth : Int32) (xRow_length : Int32) (xRow_people : Int32) (xRow_scarves : Int32) (xRow_main : Int32) (xRow_faultPlace : Int32) (gRtext : Nat → Int32) (gRkinds : Nat → Int32) (gRlates : Nat → Int32) (gRhands : Nat → Int32) (gRslow : Nat → Int32) (gRahead : Nat → Int32) (gRdirect : Nat → Int32) (xBeg_who : Int32) (xBeg_reaches : Int32) (xBeg_lastTime : Int32) (xBeg_known : Int32) (xSlp_known : Int32) (u : Int32 × Int32 × Int32 × Int32 × Int32 × Int32 × Int32 × Int32 × (Nat → Int32) × (Nat → Int32) × (Nat → Int32) × (Nat → Int32) × (Nat → Int32) × (Nat → Int32) × Int32 × Int32) (hm : fC_wipe xHC_ran xRow_depth xRow_length xRow_people xRow_scarves xRow_main xRow_faultPlace gRtext gRkinds gRlates gRhands gRslow gRahead gRdirect xBeg_known xSlp_known = some u) : Met l yX9_wipe wsX9_wipe ({ frames := 6, cells := 0, slots := 0, locals := 136 }) (va_Pc [.ref (ad 0)] (fun U => U.heap.size = sz ∧ va_P (dC, dI) vwCl [oHC ad xHC_first xHC_second xHC_when xHC_ran, oRow ad xRow_depth xRow_length xRow_people xRow_scarves xRow_main xRow_faultPlace, ar (ad 2) cA 60 gRtext, ar (ad 3) cA 20 gRkinds, ar (ad 4) cA 20 gRlates, ar (ad 5) cA 20 gRhands, ar (ad 6) cA 20 gRslow, ar (ad 7) cA 4 gRahead, ar (ad 8) cA 4 gRdirect, oBeg ad xBeg_who xBeg_reaches xBeg_lastTime xBeg_known, oSlp ad xSlp_known] U.heap ∧ va_K (dC, dI) vwCl [(cA, .int)] U ∧ va_D (fun _ => True) [oHC ad xHC_first xHC_second xHC_when xHC_ran, oRow ad xRow_depth xRow_length xRow_people xRow_scarves xRow_main xRow_faultPlace, ar (ad 2) cA 60 gRtext, ar (ad 3) cA 20 gRkinds, ar (ad 4) cA 20 gRlates, ar (ad 5) cA 20 gRhands, ar (ad 6) cA 20 gRslow, ar (ad 7) cA 4 gRahead, ar (ad 8) cA 4 gRdirect, oBeg ad xBeg_who xBeg_reaches xBeg_lastTime xBeg_known, oSlp ad xSlp_known])) (va_Qi (fun (r : Int32) (_ : Unit) => r = u.1) (fun (_ : Unit) t => va_P (dC, dI) vwCl [oHC ad xHC_first xHC_second xHC_when u.2.1, oRow ad u.2.2.1 u.2.2.2.1 u.2.2.2.2.1 u.2.2.2.2.2.1 u.2.2.2.2.2.2.1 u.2.2.2.2.2.2.2.1, ar (ad 2) cA 60 gRtext, ar (ad 3) cA 20 u.2.2.2.2.2.2.2.2.1, ar (ad 4) cA 20 u.2.2.2.2.2.2.2.2.2.1, ar (ad 5) cA 20 u.2.2.2.2.2.2.2.2.2.2.1, ar (ad 6) cA 20 u.2.2.2.2.2.2.2.2.2.2.2.1, ar (ad 7) cA 4 u.2.2.2.2.2.2.2.2.2.2.2.2.1, ar (ad 8) cA 4 u.2.2.2.2.2.2.2.2.2.2.2.2.2.1, oBeg ad xBeg_who xBeg_reaches xBeg_lastTime u.2.2.2.2.2.2.2.2.2.2.2.2.2.2.1, oSlp ad u.2.2.2.2.2.2.2.2.2.2.2.2.2.2.2] t.heap ∧ va_K (dC, dI) vwCl [(cA, .int)] t ∧ va_D (va_A [oHC ad xHC_first xHC_second xHC_when xHC_ran, oRow ad xRow_depth xRow_length xRow_people xRow_scarves xRow_main xRow_faultPlace, ar (ad 2) cA 60 gRtext, ar (ad 3) cA 20 gRkinds, ar (ad 4) cA 20 gRlates, ar (ad 5) cA 20 gRhands, ar (ad 6) cA 20 gRslow, ar (ad 7) cA 4 gRahead, ar (ad 8) cA 4 gRdirect, oBeg ad xBeg_who xBeg_reaches xBeg_lastTime xBeg_known, oSlp ad xSlp_known] sz) [oHC ad xHC_first xHC_second xHC_when u.2.1, oRow ad u.2.2.1 u.2.2.2.1 u.2.2.2.2.1 u.2.2.2.2.2.1 u.2.2.2.2.2.2.1 u.2.2.2.2.2.2.2.1, ar (ad 2) cA 60 gRtext, ar (ad 3) cA 20 u.2.2.2.2.2.2.2.2.1, ar (ad 4) cA 20 u.2.2.2.2.2.2.2.2.2.1, ar (ad 5) cA 20 u.2.2.2.2.2.2.2.2.2.2.1, ar (ad 6) cA 20 u.2.2.2.2.2.2.2.2.2.2.2.1, ar (ad 7) cA 4 u.2.2.2.2.2.2.2.2.2.2.2.2.1, ar (ad 8) cA 4 u.2.2.2.2.2.2.2.2.2.2.2.2.2.1, oBeg ad xBeg_who xBeg_reaches xBeg_lastTime u.2.2.2.2.2.2.2.2.2.2.2.2.2.2.1, oSlp ad u.2.2.2.2.2.2.2.2.2.2.2.2.2.2.2]) (va_A [oHC ad xHC_first xHC_second xHC_when xHC_ran, oRow ad xRow_depth xRow_length xRow_people xRow_scarves xRow_main xRow_faultPlace, ar (ad 2) cA 60 gRtext, ar (ad 3) cA 20 gRkinds, ar (ad 4) cA 20 gRlates, ar (ad 5) cA 20 gRhands, ar (ad 6) cA 20 gRslow, ar (ad 7) cA 4 gRahead, ar (ad 8) cA 4 gRdirect, oBeg ad xBeg_who xBeg_reaches xBeg_lastTime xBeg_known, oSlp ad xSlp_known] sz)) 0 0 (va_A [oHC ad xHC_first xHC_second xHC_when xHC_ran, oRow ad xRow_depth xRow_length xRow_people xRow_scarves xRow_main xRow_faultPlace, ar (ad 2) cA 60 gRtext, ar (ad 3) cA 20 gRkinds, ar (ad 4) cA 20 gRlates, ar (ad 5) cA 20 gRhands, ar (ad 6) cA 20 gRslow, ar (ad 7) cA 4 gRahead, ar (ad 8) cA 4 gRdirect, oBeg ad xBeg_who xBeg_reaches xBeg_lastTime xBeg_known, oSlp ad xSlp_known] sz) := by
  refine Met.ofW (cc := cX9_wipe) (maxL := 2) (ret := (some .int)) (by decide) rfl ?_
  intro p e s m args below meth c s₁ B hml hv
  obtain ⟨rfl, hsz, hP, hK, hD0⟩ := hv
  have hx := B.exec
  have hb := B.bytes
  have hr := B.returns
  have hts := atoms_spec (ws := wsX9_wipe) B.pre
  have hown : s.vm.findClass RX9 = some m.cls := findClass_of_methodNamed B.named
  have hlocks := B.notSynchronized
  subst hsz
  have hD := hD0.self (sz := s.heap.size)
  generalize hAe : va_A [oHC ad xHC_first xHC_second xHC_when xHC_ran, oRow ad xRow_depth xRow_length xRow_people xRow_scarves xRow_main xRow_faultPlace, ar (ad 2) cA 60 gRtext, ar (ad 3) cA 20 gRkinds, ar (ad 4) cA 20 gRlates, ar (ad 5) cA 20 gRhands, ar (ad 6) cA 20 gRslow, ar (ad 7) cA 4 gRahead, ar (ad 8) cA 4 gRdirect, oBeg ad xBeg_who xBeg_reaches xBeg_lastTime xBeg_known, oSlp ad xSlp_known] s.heap.size = A at hD ⊢
  have hA : ∀ q : Nat, s.heap.size ≤ q → A q := fun q h => by rw [← hAe]; exact Or.inr h
  have hS : va_S A s.heap s.heap [] := va_S.rf
  have hl := lv_entry ([.ref (ad 0)]) (n := 2) (Nat.le_of_ble_eq_true rfl)
  rw [lg_entry_eq]
  generalize (lg_sl ([.ref (ad 0)]) ++ List.replicate (2 - (lg_sl ([.ref (ad 0)])).length) Slot.unset).toArray = ls at hl ⊢
  have hl : lv_has ls 2 [(0, .ref (ad 0))] := hl
  refine wk_Q (fun QQ hQ => ?_)
  have hinX9 : ∀ w ∈ wsX90, w ∈ wsX9_wipe := fun w h => List.mem_cons_of_mem _ (inlX9 w h)
  have hl_10 := hts (.fieldLink RX9 10 "HandCensus" "row" "LHandCensus$Row;") (List.mem_cons_of_mem _ (in_r1 _ (List.mem_of_getElem? (i := 15) rfl)))
  have hinX5 : ∀ w ∈ wsX50, w ∈ wsX9_wipe := fun w h => List.mem_cons_of_mem _ (inlX5 w h)
  have hl_93 := hts (.fieldLink RX9 93 "HandCensus$Row" "length" "I") (List.mem_cons_of_mem _ (in_r8 _ (List.mem_of_getElem? (i := 7) rfl)))
  unfold fC_wipe at hm
  refine lv_aload_n hx hb dX9_wipe_0 rfl (lv_at hl 0 rfl) ?_
  refine va_get (D := (dC, dI)) (ci := 9) (v := .ref (ad 1)) (C := RX9) (T := TX9) (N := 12) hx hb hts hinX9 hown hK hP 0 rfl rfl 0 (by decide) hl_10 (fun _ h9 => h9) rfl dX9_wipe_1 ?_
  refine va_get (D := (dC, dI)) (ci := 5) (v := .int xRow_length) (C := RX5) (T := TX5) (N := 13) hx hb hts hinX5 hown hK hP 1 rfl rfl 8 (by decide) hl_93 (fun _ h9 => h9) rfl dX9_wipe_4 ?_
  refine lv_istore_n (lv' := [(1, .int xRow_length), (0, .ref (ad 0))]) hx hb dX9_wipe_7 rfl hl (by decide) rfl (fun ls hl => ?_)
  refine lv_aload_n hx hb dX9_wipe_8 rfl (lv_at hl 1 rfl) ?_
  refine va_get (D := (dC, dI)) (ci := 9) (v := .ref (ad 1)) (C := RX9) (T := TX9) (N := 12) hx hb hts hinX9 hown hK hP 0 rfl rfl 0 (by decide) hl_10 (fun _ h9 => h9) rfl dX9_wipe_9 ?_
  have hPc := hP.sub (ws' := [oRow ad xRow_depth xRow_length xRow_people xRow_scarves xRow_main xRow_faultPlace, ar (ad 2) cA 60 gRtext, ar (ad 3) cA 20 gRkinds, ar (ad 4) cA 20 gRlates, ar (ad 5) cA 20 gRhands, ar (ad 6) cA 20 gRslow, ar (ad 7) cA 4 gRahead, ar (ad 8) cA 4 gRdirect]) [1, 2, 3, 4, 5, 6, 7, 8] rfl
  have hDc := hD.sub (ws' := [oRow ad xRow_depth xRow_length xRow_people xRow_scarves xRow_main xRow_faultPlace, ar (ad 2) cA 60 gRtext, ar (ad 3) cA 20 gRkinds, ar (ad 4) cA 20 gRlates, ar (ad 5) cA 20 gRhands, ar (ad 6) cA 20 gRslow, ar (ad 7) cA 4 gRahead, ar (ad 8) cA 4 gRdirect]) [1, 2, 3, 4, 5, 6, 7, 8] (by decide) rfl
  have hFc := va_free (wc := [oRow ad xRow_depth xRow_length xRow_people xRow_scarves xRow_main xRow_faultPlace, ar (ad 2) cA 60 gRtext, ar (ad 3) cA 20 gRkinds, ar (ad 4) cA 20 gRlates, ar (ad 5) cA 20 gRhands, ar (ad 6) cA 20 gRslow, ar (ad 7) cA 4 gRahead, ar (ad 8) cA 4 gRdirect]) hD hS hA [1, 2, 3, 4, 5, 6, 7, 8] rfl
  obtain ⟨u_1, hc_1, hm⟩ := bd_ok hm
  refine va_callv (va_runV (As := []) (rest := []) ⟨hx, hb, hml, hown, hts⟩ (kR_empty l dC dI cA ad s.heap.size xRow_depth xRow_length xRow_people xRow_scarves xRow_main xRow_faultPlace gRtext gRkinds gRlates gRhands gRslow gRahead gRdirect u_1 hc_1) (cwV 0 hts gX9_wipe_X5_empty rfl rfl rfl (by decide +kernel) ⟨Nat.le_of_ble_eq_true rfl, Nat.le_of_ble_eq_true rfl⟩) ⟨fun a U g mk q => by obtain ⟨q0, q1, qP, qK, qD⟩ := q; exact ⟨q0, q1, qP, va_K.moved (u := U) (U := U.calling g mk a) (Vm.Alike.refl U.vm) qK, qD⟩, va_recv hK hPc (ci := 5) (q0 := 0) rfl rfl, fun U hU hW => ⟨rfl, by rw [hU], by rw [hU]; exact hPc, va_K.moved hW.alike hK, hDc.weaken (fun _ _ _ _ => trivial)⟩⟩ rfl rfl hl.1 rfl (lv_room (Nat.le_of_ble_eq_true rfl)) dX9_wipe_12 ⟨Nat.le_of_ble_eq_true rfl, Nat.le_of_ble_eq_true rfl⟩) hS (fun q _ h => hFc q h) hFc (fun _ t H1 locs ht hvm hw hB hz1 hk1 hS => ?_)
  obtain ⟨hP1, hK1, hD1⟩ := hB
  rw [ht] at hP1
  obtain ⟨hP, hD⟩ := va_join (wr := [oHC ad xHC_first xHC_second xHC_when xHC_ran, oBeg ad xBeg_who xBeg_reaches xBeg_lastTime xBeg_known, oSlp ad xSlp_known]) (w1 := [oRow ad u_1.1 u_1.2.1 u_1.2.2.1 u_1.2.2.2.1 u_1.2.2.2.2.1 u_1.2.2.2.2.2.1, ar (ad 2) cA 60 gRtext, ar (ad 3) cA 20 u_1.2.2.2.2.2.2.1, ar (ad 4) cA 20 u_1.2.2.2.2.2.2.2.1, ar (ad 5) cA 20 u_1.2.2.2.2.2.2.2.2.1, ar (ad 6) cA 20 u_1.2.2.2.2.2.2.2.2.2.1, ar (ad 7) cA 4 u_1.2.2.2.2.2.2.2.2.2.2.1, ar (ad 8) cA 4 u_1.2.2.2.2.2.2.2.2.2.2.2]) hP hD [1, 2, 3, 4, 5, 6, 7, 8] [0, 9, 10] rfl rfl (by decide) (by decide) hk1 hFc hP1 hD1
  clear hPc hDc hFc hP1 hK1 hD1 hk1 hz1 hvm ht
  generalize H1 = H at hP hS ⊢
  have hP : va_P (dC, dI) vwCl [oHC ad xHC_first xHC_second xHC_when xHC_ran, oRow ad u_1.1 u_1.2.1 u_1.2.2.1 u_1.2.2.2.1 u_1.2.2.2.2.1 u_1.2.2.2.2.2.1, ar (ad 2) cA 60 gRtext, ar (ad 3) cA 20 u_1.2.2.2.2.2.2.1, ar (ad 4) cA 20 u_1.2.2.2.2.2.2.2.1, ar (ad 5) cA 20 u_1.2.2.2.2.2.2.2.2.1, ar (ad 6) cA 20 u_1.2.2.2.2.2.2.2.2.2.1, ar (ad 7) cA 4 u_1.2.2.2.2.2.2.2.2.2.2.1, ar (ad 8) cA 4 u_1.2.2.2.2.2.2.2.2.2.2.2, oBeg ad xBeg_who xBeg_reaches xBeg_lastTime xBeg_known, oSlp ad xSlp_known] H := hP.sub [0, 3, 4, 5, 6, 7, 8, 9, 10, 1, 2] rfl
  have hD : va_D A [oHC ad xHC_first xHC_second xHC_when xHC_ran, oRow ad u_1.1 u_1.2.1 u_1.2.2.1 u_1.2.2.2.1 u_1.2.2.2.2.1 u_1.2.2.2.2.2.1, ar (ad 2) cA 60 gRtext, ar (ad 3) cA 20 u_1.2.2.2.2.2.2.1, ar (ad 4) cA 20 u_1.2.2.2.2.2.2.2.1, ar (ad 5) cA 20 u_1.2.2.2.2.2.2.2.2.1, ar (ad 6) cA 20 u_1.2.2.2.2.2.2.2.2.2.1, ar (ad 7) cA 4 u_1.2.2.2.2.2.2.2.2.2.2.1, ar (ad 8) cA 4 u_1.2.2.2.2.2.2.2.2.2.2.2, oBeg ad xBeg_who xBeg_reaches xBeg_lastTime xBeg_known, oSlp ad xSlp_known] := hD.sub [0, 3, 4, 5, 6, 7, 8, 9, 10, 1, 2] (by decide) rfl
  refine lv_aload_n hx hb dX9_wipe_15 rfl (lv_at hl 1 rfl) ?_
  have hPc := hP.sub (ws' := [oHC ad xHC_first xHC_second xHC_when xHC_ran, oBeg ad xBeg_who xBeg_reaches xBeg_lastTime xBeg_known, oSlp ad xSlp_known]) [0, 9, 10] rfl
  have hDc := hD.sub (ws' := [oHC ad xHC_first xHC_second xHC_when xHC_ran, oBeg ad xBeg_who xBeg_reaches xBeg_lastTime xBeg_known, oSlp ad xSlp_known]) [0, 9, 10] (by decide) rfl
  have hFc := va_free (wc := [oHC ad xHC_first xHC_second xHC_when xHC_ran, oBeg ad xBeg_who xBeg_reaches xBeg_lastTime xBeg_known, oSlp ad xSlp_known]) hD hS hA [0, 9, 10] rfl
  obtain ⟨u_2, hc_2, hm⟩ := bd_ok hm
  refine va_callv (va_runV (As := []) (rest := []) ⟨hx, hb, hml, hown, hts⟩ (kC_rowChanged l dC dI cA ad H.size xHC_first xHC_second xHC_when xHC_ran xBeg_who xBeg_reaches xBeg_lastTime xBeg_known xSlp_known u_2 hc_2) (cwV 0 hts gX9_wipe_X9_rowChanged rfl rfl rfl (by decide +kernel) ⟨Nat.le_of_ble_eq_true rfl, Nat.le_of_ble_eq_true rfl⟩) ⟨fun a U g mk q => by obtain ⟨q0, q1, qP, qK, qD⟩ := q; exact ⟨q0, q1, qP, va_K.moved (u := U) (U := U.calling g mk a) (Vm.Alike.refl U.vm) qK, qD⟩, va_recv hK hPc (ci := 9) (q0 := 0) rfl rfl, fun U hU hW => ⟨rfl, by rw [hU], by rw [hU]; exact hPc, va_K.moved hW.alike hK, hDc.weaken (fun _ _ _ _ => trivial)⟩⟩ rfl rfl hl.1 rfl (lv_room (Nat.le_of_ble_eq_true rfl)) dX9_wipe_16 ⟨Nat.le_of_ble_eq_true rfl, Nat.le_of_ble_eq_true rfl⟩) hS (fun q _ h => hFc q h) hFc (fun _ t H1 locs ht hvm hw hB hz1 hk1 hS => ?_)
  obtain ⟨hP1, hK1, hD1⟩ := hB
  rw [ht] at hP1
  obtain ⟨hP, hD⟩ := va_join (wr := [oRow ad u_1.1 u_1.2.1 u_1.2.2.1 u_1.2.2.2.1 u_1.2.2.2.2.1 u_1.2.2.2.2.2.1, ar (ad 2) cA 60 gRtext, ar (ad 3) cA 20 u_1.2.2.2.2.2.2.1, ar (ad 4) cA 20 u_1.2.2.2.2.2.2.2.1, ar (ad 5) cA 20 u_1.2.2.2.2.2.2.2.2.1, ar (ad 6) cA 20 u_1.2.2.2.2.2.2.2.2.2.1, ar (ad 7) cA 4 u_1.2.2.2.2.2.2.2.2.2.2.1, ar (ad 8) cA 4 u_1.2.2.2.2.2.2.2.2.2.2.2]) (w1 := [oHC ad xHC_first xHC_second xHC_when u_2.1, oBeg ad xBeg_who xBeg_reaches xBeg_lastTime u_2.2.1, oSlp ad u_2.2.2]) hP hD [0, 9, 10] [1, 2, 3, 4, 5, 6, 7, 8] rfl rfl (by decide) (by decide) hk1 hFc hP1 hD1
  clear hPc hDc hFc hP1 hK1 hD1 hk1 hz1 hvm ht
  generalize H1 = H at hP hS ⊢
  have hP : va_P (dC, dI) vwCl [oHC ad xHC_first xHC_second xHC_when u_2.1, oRow ad u_1.1 u_1.2.1 u_1.2.2.1 u_1.2.2.2.1 u_1.2.2.2.2.1 u_1.2.2.2.2.2.1, ar (ad 2) cA 60 gRtext, ar (ad 3) cA 20 u_1.2.2.2.2.2.2.1, ar (ad 4) cA 20 u_1.2.2.2.2.2.2.2.1, ar (ad 5) cA 20 u_1.2.2.2.2.2.2.2.2.1, ar (ad 6) cA 20 u_1.2.2.2.2.2.2.2.2.2.1, ar (ad 7) cA 4 u_1.2.2.2.2.2.2.2.2.2.2.1, ar (ad 8) cA 4 u_1.2.2.2.2.2.2.2.2.2.2.2, oBeg ad xBeg_who xBeg_reaches xBeg_lastTime u_2.2.1, oSlp ad u_2.2.2] H := hP.sub [8, 0, 1, 2, 3, 4, 5, 6, 7, 9, 10] rfl
  have hD : va_D A [oHC ad xHC_first xHC_second xHC_when u_2.1, oRow ad u_1.1 u_1.2.1 u_1.2.2.1 u_1.2.2.2.1 u_1.2.2.2.2.1 u_1.2.2.2.2.2.1, ar (ad 2) cA 60 gRtext, ar (ad 3) cA 20 u_1.2.2.2.2.2.2.1, ar (ad 4) cA 20 u_1.2.2.2.2.2.2.2.1, ar (ad 5) cA 20 u_1.2.2.2.2.2.2.2.2.1, ar (ad 6) cA 20 u_1.2.2.2.2.2.2.2.2.2.1, ar (ad 7) cA 4 u_1.2.2.2.2.2.2.2.2.2.2.1, ar (ad 8) cA 4 u_1.2.2.2.2.2.2.2.2.2.2.2, oBeg ad xBeg_who xBeg_reaches xBeg_lastTime u_2.2.1, oSlp ad u_2.2.2] := hD.sub [8, 0, 1, 2, 3, 4, 5, 6, 7, 9, 10] (by decide) rfl
  refine lv_iload_n hx hb dX9_wipe_19 rfl (lv_at hl 0 rfl) ?_
  obtain rfl := Option.some.inj hm
  subst hQ
  exact W.iret (v := xRow_length) hx hb hr (fun t ht hW => ⟨⟨_, (), rfl, rfl, by rw [ht]; exact hP, va_K.moved hW.alike hK, hAe ▸ hD⟩, hS.F ht⟩) hS.2.2 dX9_wipe_20

set_option maxHeartbeats 4000000 in
set_option maxRecDepth 100000 in
theorem kC_fault (l : Launch) (dC : Nat → ClassId) (dI : Nat → Nat → Nat) (cA : ClassId) (ad : Nat → Nat) (sz : Nat) (xHC_first : Int32) (xHC_second : Int32) (xHC_when : Int32) (xHC_ran : Int32) (xRow_depth : Int32) (xRow_length : Int32) (xRow_people : Int32) (xRow_scarves : Int32) (xRow_main : Int32) (xRow_faultPlace : Int32) (u : Int32) (hm : fC_fault xRow_faultPlace = some u) : Met l yX9_fault wsX9_fault ({ frames := 0, cells := 0, slots := 0, locals := 0 }) (va_Pc [.ref (ad 0)] (fun U => U.heap.size = sz ∧ va_P (dC, dI) vwCl [oHC ad xHC_first xHC_second xHC_when xHC_ran, oRow ad xRow_depth xRow_length xRow_people xRow_scarves xRow_main xRow_faultPlace] U.heap ∧ va_K (dC, dI) vwCl [(cA, .int)] U ∧ va_D (fun _ => True) [oHC ad xHC_first xHC_second xHC_when xHC_ran, oRow ad xRow_depth xRow_length xRow_people xRow_scarves xRow_main xRow_faultPlace])) (va_Qi (fun (r : Int32) (_ : Unit) => r = u) (fun (_ : Unit) t => va_P (dC, dI) vwCl [oHC ad xHC_first xHC_second xHC_when xHC_ran, oRow ad xRow_depth xRow_length xRow_people xRow_scarves xRow_main xRow_faultPlace] t.heap ∧ va_K (dC, dI) vwCl [(cA, .int)] t ∧ va_D (va_A [oHC ad xHC_first xHC_second xHC_when xHC_ran, oRow ad xRow_depth xRow_length xRow_people xRow_scarves xRow_main xRow_faultPlace] sz) [oHC ad xHC_first xHC_second xHC_when xHC_ran, oRow ad xRow_depth xRow_length xRow_people xRow_scarves xRow_main xRow_faultPlace]) (va_A [oHC ad xHC_first xHC_second xHC_when xHC_ran, oRow ad xRow_depth xRow_length xRow_people xRow_scarves xRow_main xRow_faultPlace] sz)) 0 0 (va_A [oHC ad xHC_first xHC_second xHC_when xHC_ran, oRow ad xRow_depth xRow_length xRow_people xRow_scarves xRow_main xRow_faultPlace] sz) := by
  refine Met.ofW (cc := cX9_fault) (maxL := 1) (ret := (some .int)) (by decide) rfl ?_
  intro p e s m args below meth c s₁ B hml hv
  obtain ⟨rfl, hsz, hP, hK, hD0⟩ := hv
  have hx := B.exec
  have hb := B.bytes
  have hr := B.returns
  have hts := atoms_spec (ws := wsX9_fault) B.pre
  have hown : s.vm.findClass RX9 = some m.cls := findClass_of_methodNamed B.named
  have hlocks := B.notSynchronized
  subst hsz
  have hD := hD0.self (sz := s.heap.size)
  generalize hAe : va_A [oHC ad xHC_first xHC_second xHC_when xHC_ran, oRow ad xRow_depth xRow_length xRow_people xRow_scarves xRow_main xRow_faultPlace] s.heap.size = A at hD ⊢
  have hA : ∀ q : Nat, s.heap.size ≤ q → A q := fun q h => by rw [← hAe]; exact Or.inr h
  have hS : va_S A s.heap s.heap [] := va_S.rf
  have hl := lv_entry ([.ref (ad 0)]) (n := 1) (Nat.le_of_ble_eq_true rfl)
  rw [lg_entry_eq]
  generalize (lg_sl ([.ref (ad 0)]) ++ List.replicate (1 - (lg_sl ([.ref (ad 0)])).length) Slot.unset).toArray = ls at hl ⊢
  have hl : lv_has ls 1 [(0, .ref (ad 0))] := hl
  refine wk_Q (fun QQ hQ => ?_)
  have hinX9 : ∀ w ∈ wsX90, w ∈ wsX9_fault := fun w h => List.mem_cons_of_mem _ (inlX9 w h)
  have hl_10 := hts (.fieldLink RX9 10 "HandCensus" "row" "LHandCensus$Row;") (List.mem_cons_of_mem _ (in_r1 _ (List.mem_of_getElem? (i := 15) rfl)))
  have hinX5 : ∀ w ∈ wsX50, w ∈ wsX9_fault := fun w h => List.mem_cons_of_mem _ (inlX5 w h)
  have hl_99 := hts (.fieldLink RX9 99 "HandCensus$Row" "faultPlace" "I") (List.mem_cons_of_mem _ (in_r11 _ (List.mem_of_getElem? (i := 19) rfl)))
  unfold fC_fault at hm
  refine lv_aload_n hx hb dX9_fault_0 rfl (lv_at hl 0 rfl) ?_
  refine va_get (D := (dC, dI)) (ci := 9) (v := .ref (ad 1)) (C := RX9) (T := TX9) (N := 12) hx hb hts hinX9 hown hK hP 0 rfl rfl 0 (by decide) hl_10 (fun _ h9 => h9) rfl dX9_fault_1 ?_
  refine va_get (D := (dC, dI)) (ci := 5) (v := .int xRow_faultPlace) (C := RX5) (T := TX5) (N := 13) hx hb hts hinX5 hown hK hP 1 rfl rfl 12 (by decide) hl_99 (fun _ h9 => h9) rfl dX9_fault_4 ?_
  obtain rfl := Option.some.inj hm
  subst hQ
  exact W.iret (v := xRow_faultPlace) hx hb hr (fun t ht hW => ⟨⟨_, (), rfl, rfl, by rw [ht]; exact hP, va_K.moved hW.alike hK, hAe ▸ hD⟩, hS.F ht⟩) hS.2.2 dX9_fault_7

set_option maxHeartbeats 4000000 in
set_option maxRecDepth 100000 in
theorem kC_isPerson (l : Launch) (dC : Nat → ClassId) (dI : Nat → Nat → Nat) (cA : ClassId) (ad : Nat → Nat) (sz : Nat) (a1 : Int32) (xHC_first : Int32) (xHC_second : Int32) (xHC_when : Int32) (xHC_ran : Int32) (xRow_depth : Int32) (xRow_length : Int32) (xRow_people : Int32) (xRow_scarves : Int32) (xRow_main : Int32) (xRow_faultPlace : Int32) (u : Int32) (hm : fC_isPerson a1 xRow_people = some u) : Met l yX9_isPerson wsX9_isPerson ({ frames := 0, cells := 0, slots := 0, locals := 0 }) (va_Pc [.ref (ad 0), .int a1] (fun U => U.heap.size = sz ∧ va_P (dC, dI) vwCl [oHC ad xHC_first xHC_second xHC_when xHC_ran, oRow ad xRow_depth xRow_length xRow_people xRow_scarves xRow_main xRow_faultPlace] U.heap ∧ va_K (dC, dI) vwCl [(cA, .int)] U ∧ va_D (fun _ => True) [oHC ad xHC_first xHC_second xHC_when xHC_ran, oRow ad xRow_depth xRow_length xRow_people xRow_scarves xRow_main xRow_faultPlace])) (va_Qi (fun (r : Int32) (_ : Unit) => r = u) (fun (_ : Unit) t => va_P (dC, dI) vwCl [oHC ad xHC_first xHC_second xHC_when xHC_ran, oRow ad xRow_depth xRow_length xRow_people xRow_scarves xRow_main xRow_faultPlace] t.heap ∧ va_K (dC, dI) vwCl [(cA, .int)] t ∧ va_D (va_A [oHC ad xHC_first xHC_second xHC_when xHC_ran, oRow ad xRow_depth xRow_length xRow_people xRow_scarves xRow_main xRow_faultPlace] sz) [oHC ad xHC_first xHC_second xHC_when xHC_ran, oRow ad xRow_depth xRow_length xRow_people xRow_scarves xRow_main xRow_faultPlace]) (va_A [oHC ad xHC_first xHC_second xHC_when xHC_ran, oRow ad xRow_depth xRow_length xRow_people xRow_scarves xRow_main xRow_faultPlace] sz)) 0 0 (va_A [oHC ad xHC_first xHC_second xHC_when xHC_ran, oRow ad xRow_depth xRow_length xRow_people xRow_scarves xRow_main xRow_faultPlace] sz) := by
  refine Met.ofW (cc := cX9_isPerson) (maxL := 2) (ret := (some .boolean)) (by decide) rfl ?_
  intro p e s m args below meth c s₁ B hml hv
  obtain ⟨rfl, hsz, hP, hK, hD0⟩ := hv
  have hx := B.exec
  have hb := B.bytes
  have hr := B.returns
  have hts := atoms_spec (ws := wsX9_isPerson) B.pre
  have hown : s.vm.findClass RX9 = some m.cls := findClass_of_methodNamed B.named
  have hlocks := B.notSynchronized
  subst hsz
  have hD := hD0.self (sz := s.heap.size)
  generalize hAe : va_A [oHC ad xHC_first xHC_second xHC_when xHC_ran, oRow ad xRow_depth xRow_length xRow_people xRow_scarves xRow_main xRow_faultPlace] s.heap.size = A at hD ⊢
  have hA : ∀ q : Nat, s.heap.size ≤ q → A q := fun q h => by rw [← hAe]; exact Or.inr h
  have hS : va_S A s.heap s.heap [] := va_S.rf
  have hl := lv_entry ([.ref (ad 0), .int a1]) (n := 2) (Nat.le_of_ble_eq_true rfl)
  rw [lg_entry_eq]
  generalize (lg_sl ([.ref (ad 0), .int a1]) ++ List.replicate (2 - (lg_sl ([.ref (ad 0), .int a1])).length) Slot.unset).toArray = ls at hl ⊢
  have hl : lv_has ls 2 [(0, .ref (ad 0)), (1, .int a1)] := hl
  refine wk_Q (fun QQ hQ => ?_)
  have hinX9 : ∀ w ∈ wsX90, w ∈ wsX9_isPerson := fun w h => List.mem_cons_of_mem _ (inlX9 w h)
  have hl_10 := hts (.fieldLink RX9 10 "HandCensus" "row" "LHandCensus$Row;") (List.mem_cons_of_mem _ (in_r1 _ (List.mem_of_getElem? (i := 15) rfl)))
  have hinX5 : ∀ w ∈ wsX50, w ∈ wsX9_isPerson := fun w h => List.mem_cons_of_mem _ (inlX5 w h)
  have hl_233 := hts (.fieldLink RX9 233 "HandCensus$Row" "people" "I") (List.mem_cons_of_mem _ (in_r13 _ (List.mem_of_getElem? (i := 9) rfl)))
  unfold fC_isPerson at hm
  refine lv_iload_n hx hb dX9_isPerson_0 rfl (lv_at hl 1 rfl) ?_
  refine lv_if_lt (tgt := 19) hx hb dX9_isPerson_1 (by decide) (fun c_1 => ?_) (fun c_1 => ?_)
  · have hm := it_pos c_1 hm
    refine lv_iconst (v := 0) hx hb dX9_isPerson_19 (by decide) ?_
    obtain rfl := Option.some.inj hm
    subst hQ
    exact W.zret (v := 0) hx hb hr rfl (fun t ht hW => ⟨⟨_, (), rfl, rfl, by rw [ht]; exact hP, va_K.moved hW.alike hK, hAe ▸ hD⟩, hS.F ht⟩) hS.2.2 dX9_isPerson_20
  · have hm := it_neg c_1 hm
    refine lv_iload_n hx hb dX9_isPerson_4 rfl (lv_at hl 1 rfl) ?_
    refine lv_aload_n hx hb dX9_isPerson_5 rfl (lv_at hl 0 rfl) ?_
    refine va_get (D := (dC, dI)) (ci := 9) (v := .ref (ad 1)) (C := RX9) (T := TX9) (N := 12) hx hb hts hinX9 hown hK hP 0 rfl rfl 0 (by decide) hl_10 (fun _ h9 => h9) rfl dX9_isPerson_6 ?_
    refine va_get (D := (dC, dI)) (ci := 5) (v := .int xRow_people) (C := RX5) (T := TX5) (N := 13) hx hb hts hinX5 hown hK hP 1 rfl rfl 9 (by decide) hl_233 (fun _ h9 => h9) rfl dX9_isPerson_9 ?_
    refine lv_icmp_ge (tgt := 19) hx hb dX9_isPerson_12 (by decide) (fun c_2 => ?_) (fun c_2 => ?_)
    · have hm := it_pos c_2 hm
      refine lv_iconst (v := 0) hx hb dX9_isPerson_19 (by decide) ?_
      obtain rfl := Option.some.inj hm
      subst hQ
      exact W.zret (v := 0) hx hb hr rfl (fun t ht hW => ⟨⟨_, (), rfl, rfl, by rw [ht]; exact hP, va_K.moved hW.alike hK, hAe ▸ hD⟩, hS.F ht⟩) hS.2.2 dX9_isPerson_20
    · have hm := it_neg c_2 hm
      refine lv_iconst (v := 1) hx hb dX9_isPerson_15 (by decide) ?_
      refine lv_goto (tgt := 20) hx hb dX9_isPerson_16 (by decide) ?_
      obtain rfl := Option.some.inj hm
      subst hQ
      exact W.zret (v := 1) hx hb hr rfl (fun t ht hW => ⟨⟨_, (), rfl, rfl, by rw [ht]; exact hP, va_K.moved hW.alike hK, hAe ▸ hD⟩, hS.F ht⟩) hS.2.2 dX9_isPerson_20

set_option maxHeartbeats 4000000 in
set_option maxRecDepth 100000 in
theorem kC_person (l : Launch) (dC : Nat → ClassId) (dI : Nat → Nat → Nat) (cA : ClassId) (ad : Nat → Nat) (sz : Nat) (a1 : Int32) (a2 : Int32) (xHC_first : Int32) (xHC_second : Int32) (xHC_when : Int32) (xHC_ran : Int32) (xRow_depth : Int32) (xRow_length : Int32) (xRow_people : Int32) (xRow_scarves : Int32) (xRow_main : Int32) (xRow_faultPlace : Int32) (gRkinds : Nat → Int32) (gRlates : Nat → Int32) (gRhands : Nat → Int32) (u : Int32) (hm : fC_person a1 a2 xRow_people xRow_scarves xRow_main gRkinds gRlates gRhands = some u) : Met l yX9_person wsX9_person ({ frames := 1, cells := 0, slots := 0, locals := 21 }) (va_Pc [.ref (ad 0), .int a1, .int a2] (fun U => U.heap.size = sz ∧ va_P (dC, dI) vwCl [oHC ad xHC_first xHC_second xHC_when xHC_ran, oRow ad xRow_depth xRow_length xRow_people xRow_scarves xRow_main xRow_faultPlace, ar (ad 3) cA 20 gRkinds, ar (ad 4) cA 20 gRlates, ar (ad 5) cA 20 gRhands] U.heap ∧ va_K (dC, dI) vwCl [(cA, .int)] U ∧ va_D (fun _ => True) [oHC ad xHC_first xHC_second xHC_when xHC_ran, oRow ad xRow_depth xRow_length xRow_people xRow_scarves xRow_main xRow_faultPlace, ar (ad 3) cA 20 gRkinds, ar (ad 4) cA 20 gRlates, ar (ad 5) cA 20 gRhands])) (va_Qi (fun (r : Int32) (_ : Unit) => r = u) (fun (_ : Unit) t => va_P (dC, dI) vwCl [oHC ad xHC_first xHC_second xHC_when xHC_ran, oRow ad xRow_depth xRow_length xRow_people xRow_scarves xRow_main xRow_faultPlace, ar (ad 3) cA 20 gRkinds, ar (ad 4) cA 20 gRlates, ar (ad 5) cA 20 gRhands] t.heap ∧ va_K (dC, dI) vwCl [(cA, .int)] t ∧ va_D (va_A [oHC ad xHC_first xHC_second xHC_when xHC_ran, oRow ad xRow_depth xRow_length xRow_people xRow_scarves xRow_main xRow_faultPlace, ar (ad 3) cA 20 gRkinds, ar (ad 4) cA 20 gRlates, ar (ad 5) cA 20 gRhands] sz) [oHC ad xHC_first xHC_second xHC_when xHC_ran, oRow ad xRow_depth xRow_length xRow_people xRow_scarves xRow_main xRow_faultPlace, ar (ad 3) cA 20 gRkinds, ar (ad 4) cA 20 gRlates, ar (ad 5) cA 20 gRhands]) (va_A [oHC ad xHC_first xHC_second xHC_when xHC_ran, oRow ad xRow_depth xRow_length xRow_people xRow_scarves xRow_main xRow_faultPlace, ar (ad 3) cA 20 gRkinds, ar (ad 4) cA 20 gRlates, ar (ad 5) cA 20 gRhands] sz)) 0 0 (va_A [oHC ad xHC_first xHC_second xHC_when xHC_ran, oRow ad xRow_depth xRow_length xRow_people xRow_scarves xRow_main xRow_faultPlace, ar (ad 3) cA 20 gRkinds, ar (ad 4) cA 20 gRlates, ar (ad 5) cA 20 gRhands] sz) := by
  refine Met.ofW (cc := cX9_person) (maxL := 3) (ret := (some .int)) (by decide) rfl ?_
  intro p e s m args below meth c s₁ B hml hv
  obtain ⟨rfl, hsz, hP, hK, hD0⟩ := hv
  have hx := B.exec
  have hb := B.bytes
  have hr := B.returns
  have hts := atoms_spec (ws := wsX9_person) B.pre
  have hown : s.vm.findClass RX9 = some m.cls := findClass_of_methodNamed B.named
  have hlocks := B.notSynchronized
  subst hsz
  have hD := hD0.self (sz := s.heap.size)
  generalize hAe : va_A [oHC ad xHC_first xHC_second xHC_when xHC_ran, oRow ad xRow_depth xRow_length xRow_people xRow_scarves xRow_main xRow_faultPlace, ar (ad 3) cA 20 gRkinds, ar (ad 4) cA 20 gRlates, ar (ad 5) cA 20 gRhands] s.heap.size = A at hD ⊢
  have hA : ∀ q : Nat, s.heap.size ≤ q → A q := fun q h => by rw [← hAe]; exact Or.inr h
  have hS : va_S A s.heap s.heap [] := va_S.rf
  have hl := lv_entry ([.ref (ad 0), .int a1, .int a2]) (n := 3) (Nat.le_of_ble_eq_true rfl)
  rw [lg_entry_eq]
  generalize (lg_sl ([.ref (ad 0), .int a1, .int a2]) ++ List.replicate (3 - (lg_sl ([.ref (ad 0), .int a1, .int a2])).length) Slot.unset).toArray = ls at hl ⊢
  have hl : lv_has ls 3 [(0, .ref (ad 0)), (1, .int a1), (2, .int a2)] := hl
  refine wk_Q (fun QQ hQ => ?_)
  have hinX9 : ∀ w ∈ wsX90, w ∈ wsX9_person := fun w h => List.mem_cons_of_mem _ (inlX9 w h)
  have hl_10 := hts (.fieldLink RX9 10 "HandCensus" "row" "LHandCensus$Row;") (List.mem_cons_of_mem _ (in_r1 _ (List.mem_of_getElem? (i := 15) rfl)))
  have hinX5 : ∀ w ∈ wsX50, w ∈ wsX9_person := fun w h => List.mem_cons_of_mem _ (inlX5 w h)
  have hl_105 := hts (.fieldLink RX9 105 "HandCensus$Row" "kinds" "[I") (List.mem_cons_of_mem _ (in_r13 _ (List.mem_of_getElem? (i := 0) rfl)))
  have hl_109 := hts (.fieldLink RX9 109 "HandCensus$Row" "lates" "[I") (List.mem_cons_of_mem _ (in_r13 _ (List.mem_of_getElem? (i := 1) rfl)))
  have hl_112 := hts (.fieldLink RX9 112 "HandCensus$Row" "scarves" "I") (List.mem_cons_of_mem _ (in_r13 _ (List.mem_of_getElem? (i := 2) rfl)))
  have hl_115 := hts (.fieldLink RX9 115 "HandCensus$Row" "hands" "[I") (List.mem_cons_of_mem _ (in_r13 _ (List.mem_of_getElem? (i := 3) rfl)))
  have hl_118 := hts (.fieldLink RX9 118 "HandCensus$Row" "main" "I") (List.mem_cons_of_mem _ (in_r13 _ (List.mem_of_getElem? (i := 4) rfl)))
  unfold fC_person at hm
  refine lv_aload_n hx hb dX9_person_0 rfl (lv_at hl 0 rfl) ?_
  refine lv_iload_n hx hb dX9_person_1 rfl (lv_at hl 1 rfl) ?_
  have hPc := hP.sub (ws' := [oHC ad xHC_first xHC_second xHC_when xHC_ran, oRow ad xRow_depth xRow_length xRow_people xRow_scarves xRow_main xRow_faultPlace]) [0, 1] rfl
  have hDc := hD.sub (ws' := [oHC ad xHC_first xHC_second xHC_when xHC_ran, oRow ad xRow_depth xRow_length xRow_people xRow_scarves xRow_main xRow_faultPlace]) [0, 1] (by decide) rfl
  have hFc := va_free (wc := [oHC ad xHC_first xHC_second xHC_when xHC_ran, oRow ad xRow_depth xRow_length xRow_people xRow_scarves xRow_main xRow_faultPlace]) hD hS hA [0, 1] rfl
  obtain ⟨u_1, hc_1, hm⟩ := bd_ok hm
  refine va_calli (va_runV (As := [.int a1]) (rest := []) ⟨hx, hb, hml, hown, hts⟩ (kC_isPerson l dC dI cA ad s.heap.size a1 xHC_first xHC_second xHC_when xHC_ran xRow_depth xRow_length xRow_people xRow_scarves xRow_main xRow_faultPlace u_1 hc_1) (cwV 1 hts gX9_person_X9_isPerson rfl rfl rfl (by decide +kernel) ⟨Nat.le_of_ble_eq_true rfl, Nat.le_of_ble_eq_true rfl⟩) ⟨fun a U g mk q => by obtain ⟨q0, q1, qP, qK, qD⟩ := q; exact ⟨q0, q1, qP, va_K.moved (u := U) (U := U.calling g mk a) (Vm.Alike.refl U.vm) qK, qD⟩, va_recv hK hPc (ci := 9) (q0 := 0) rfl rfl, fun U hU hW => ⟨rfl, by rw [hU], by rw [hU]; exact hPc, va_K.moved hW.alike hK, hDc.weaken (fun _ _ _ _ => trivial)⟩⟩ rfl rfl hl.1 rfl (lv_room (Nat.le_of_ble_eq_true rfl)) dX9_person_2 ⟨Nat.le_of_ble_eq_true rfl, Nat.le_of_ble_eq_true rfl⟩) hS (fun q _ h => hFc q h) hFc (fun r_1 _ t H1 locs ht hvm hw hB hz1 hk1 hS => ?_)
  obtain ⟨hP1, hK1, hD1⟩ := hB
  rw [ht] at hP1
  obtain ⟨hP, hD⟩ := va_join (wr := [ar (ad 3) cA 20 gRkinds, ar (ad 4) cA 20 gRlates, ar (ad 5) cA 20 gRhands]) (w1 := [oHC ad xHC_first xHC_second xHC_when xHC_ran, oRow ad xRow_depth xRow_length xRow_people xRow_scarves xRow_main xRow_faultPlace]) hP hD [0, 1] [2, 3, 4] rfl rfl (by decide) (by decide) hk1 hFc hP1 hD1
  clear hPc hDc hFc hP1 hK1 hD1 hk1 hz1 hvm ht
  generalize H1 = H at hP hS ⊢
  have hP : va_P (dC, dI) vwCl [oHC ad xHC_first xHC_second xHC_when xHC_ran, oRow ad xRow_depth xRow_length xRow_people xRow_scarves xRow_main xRow_faultPlace, ar (ad 3) cA 20 gRkinds, ar (ad 4) cA 20 gRlates, ar (ad 5) cA 20 gRhands] H := hP.sub [3, 4, 0, 1, 2] rfl
  have hD : va_D A [oHC ad xHC_first xHC_second xHC_when xHC_ran, oRow ad xRow_depth xRow_length xRow_people xRow_scarves xRow_main xRow_faultPlace, ar (ad 3) cA 20 gRkinds, ar (ad 4) cA 20 gRlates, ar (ad 5) cA 20 gRhands] := hD.sub [3, 4, 0, 1, 2] (by decide) rfl
  have hw := hw.symm
  subst hw
  refine lv_if_ne (tgt := 11) hx hb dX9_person_5 (by decide) (fun c_2 => ?_) (fun c_2 => ?_)
  · have hm := it_neg c_2 hm
    refine lv_iload_n hx hb dX9_person_11 rfl (lv_at hl 2 rfl) ?_
    by_cases s_3_0 : a2 = 0
    · have hm := it_pos s_3_0 hm
      refine lv_tableIn (tgt := 48) (off := 36) hx hb dX9_person_12 (by rw [s_3_0]; decide) (by rw [s_3_0]; decide) (by rw [s_3_0]; rfl) (by decide) ?_
      refine lv_aload_n hx hb dX9_person_48 rfl (lv_at hl 0 rfl) ?_
      refine va_get (D := (dC, dI)) (ci := 9) (v := .ref (ad 1)) (C := RX9) (T := TX9) (N := 12) hx hb hts hinX9 hown hK hP 0 rfl rfl 0 (by decide) hl_10 (fun _ h9 => h9) rfl dX9_person_49 ?_
      refine va_get (D := (dC, dI)) (ci := 5) (v := .ref (ad 3)) (C := RX5) (T := TX5) (N := 13) hx hb hts hinX5 hown hK hP 1 rfl rfl 1 (by decide) hl_105 (fun _ h9 => h9) rfl dX9_person_52 ?_
      refine lv_iload_n hx hb dX9_person_55 rfl (lv_at hl 1 rfl) ?_
      obtain ⟨i_4, hm⟩ := ck_ok hm
      refine va_iald hx hb hK hP 2 0 rfl rfl i_4 dX9_person_56 ?_
      obtain rfl := Option.some.inj hm
      subst hQ
      exact W.iret (v := (gRkinds a1.toNatClampNeg)) hx hb hr (fun t ht hW => ⟨⟨_, (), rfl, rfl, by rw [ht]; exact hP, va_K.moved hW.alike hK, hAe ▸ hD⟩, hS.F ht⟩) hS.2.2 dX9_person_57
    · have hm := it_neg s_3_0 hm
      by_cases s_3_1 : a2 = 1
      · have hm := it_pos s_3_1 hm
        refine lv_tableIn (tgt := 58) (off := 46) hx hb dX9_person_12 (by rw [s_3_1]; decide) (by rw [s_3_1]; decide) (by rw [s_3_1]; rfl) (by decide) ?_
        refine lv_aload_n hx hb dX9_person_58 rfl (lv_at hl 0 rfl) ?_
        refine va_get (D := (dC, dI)) (ci := 9) (v := .ref (ad 1)) (C := RX9) (T := TX9) (N := 12) hx hb hts hinX9 hown hK hP 0 rfl rfl 0 (by decide) hl_10 (fun _ h9 => h9) rfl dX9_person_59 ?_
        refine va_get (D := (dC, dI)) (ci := 5) (v := .ref (ad 4)) (C := RX5) (T := TX5) (N := 13) hx hb hts hinX5 hown hK hP 1 rfl rfl 2 (by decide) hl_109 (fun _ h9 => h9) rfl dX9_person_62 ?_
        refine lv_iload_n hx hb dX9_person_65 rfl (lv_at hl 1 rfl) ?_
        obtain ⟨i_5, hm⟩ := ck_ok hm
        refine va_iald hx hb hK hP 3 0 rfl rfl i_5 dX9_person_66 ?_
        obtain rfl := Option.some.inj hm
        subst hQ
        exact W.iret (v := (gRlates a1.toNatClampNeg)) hx hb hr (fun t ht hW => ⟨⟨_, (), rfl, rfl, by rw [ht]; exact hP, va_K.moved hW.alike hK, hAe ▸ hD⟩, hS.F ht⟩) hS.2.2 dX9_person_67
      · have hm := it_neg s_3_1 hm
        by_cases s_3_2 : a2 = 2
        · have hm := it_pos s_3_2 hm
          refine lv_tableIn (tgt := 68) (off := 56) hx hb dX9_person_12 (by rw [s_3_2]; decide) (by rw [s_3_2]; decide) (by rw [s_3_2]; rfl) (by decide) ?_
          refine lv_aload_n hx hb dX9_person_68 rfl (lv_at hl 0 rfl) ?_
          refine va_get (D := (dC, dI)) (ci := 9) (v := .ref (ad 1)) (C := RX9) (T := TX9) (N := 12) hx hb hts hinX9 hown hK hP 0 rfl rfl 0 (by decide) hl_10 (fun _ h9 => h9) rfl dX9_person_69 ?_
          refine va_get (D := (dC, dI)) (ci := 5) (v := .int xRow_scarves) (C := RX5) (T := TX5) (N := 13) hx hb hts hinX5 hown hK hP 1 rfl rfl 10 (by decide) hl_112 (fun _ h9 => h9) rfl dX9_person_72 ?_
          refine lv_iload_n hx hb dX9_person_75 rfl (lv_at hl 1 rfl) ?_
          refine lv_ishr hx hb dX9_person_76 ?_
          refine lv_iconst (v := 1) hx hb dX9_person_77 (by decide) ?_
          refine lv_iand hx hb dX9_person_78 ?_
          obtain rfl := Option.some.inj hm
          subst hQ
          exact W.iret (v := ((xRow_scarves >>> (a1 &&& 31)) &&& 1)) hx hb hr (fun t ht hW => ⟨⟨_, (), rfl, rfl, by rw [ht]; exact hP, va_K.moved hW.alike hK, hAe ▸ hD⟩, hS.F ht⟩) hS.2.2 dX9_person_79
        · have hm := it_neg s_3_2 hm
          by_cases s_3_3 : a2 = 3
          · have hm := it_pos s_3_3 hm
            refine lv_tableIn (tgt := 80) (off := 68) hx hb dX9_person_12 (by rw [s_3_3]; decide) (by rw [s_3_3]; decide) (by rw [s_3_3]; rfl) (by decide) ?_
            refine lv_aload_n hx hb dX9_person_80 rfl (lv_at hl 0 rfl) ?_
            refine va_get (D := (dC, dI)) (ci := 9) (v := .ref (ad 1)) (C := RX9) (T := TX9) (N := 12) hx hb hts hinX9 hown hK hP 0 rfl rfl 0 (by decide) hl_10 (fun _ h9 => h9) rfl dX9_person_81 ?_
            refine va_get (D := (dC, dI)) (ci := 5) (v := .ref (ad 5)) (C := RX5) (T := TX5) (N := 13) hx hb hts hinX5 hown hK hP 1 rfl rfl 3 (by decide) hl_115 (fun _ h9 => h9) rfl dX9_person_84 ?_
            refine lv_iload_n hx hb dX9_person_87 rfl (lv_at hl 1 rfl) ?_
            obtain ⟨i_6, hm⟩ := ck_ok hm
            refine va_iald hx hb hK hP 4 0 rfl rfl i_6 dX9_person_88 ?_
            obtain rfl := Option.some.inj hm
            subst hQ
            exact W.iret (v := (gRhands a1.toNatClampNeg)) hx hb hr (fun t ht hW => ⟨⟨_, (), rfl, rfl, by rw [ht]; exact hP, va_K.moved hW.alike hK, hAe ▸ hD⟩, hS.F ht⟩) hS.2.2 dX9_person_89
          · have hm := it_neg s_3_3 hm
            by_cases s_3_4 : a2 = 4
            · have hm := it_pos s_3_4 hm
              refine lv_tableIn (tgt := 90) (off := 78) hx hb dX9_person_12 (by rw [s_3_4]; decide) (by rw [s_3_4]; decide) (by rw [s_3_4]; rfl) (by decide) ?_
              refine lv_aload_n hx hb dX9_person_90 rfl (lv_at hl 0 rfl) ?_
              refine va_get (D := (dC, dI)) (ci := 9) (v := .ref (ad 1)) (C := RX9) (T := TX9) (N := 12) hx hb hts hinX9 hown hK hP 0 rfl rfl 0 (by decide) hl_10 (fun _ h9 => h9) rfl dX9_person_91 ?_
              refine va_get (D := (dC, dI)) (ci := 5) (v := .int xRow_main) (C := RX5) (T := TX5) (N := 13) hx hb hts hinX5 hown hK hP 1 rfl rfl 11 (by decide) hl_118 (fun _ h9 => h9) rfl dX9_person_94 ?_
              refine lv_iload_n hx hb dX9_person_97 rfl (lv_at hl 1 rfl) ?_
              refine lv_ishr hx hb dX9_person_98 ?_
              refine lv_iconst (v := 1) hx hb dX9_person_99 (by decide) ?_
              refine lv_iand hx hb dX9_person_100 ?_
              obtain rfl := Option.some.inj hm
              subst hQ
              exact W.iret (v := ((xRow_main >>> (a1 &&& 31)) &&& 1)) hx hb hr (fun t ht hW => ⟨⟨_, (), rfl, rfl, by rw [ht]; exact hP, va_K.moved hW.alike hK, hAe ▸ hD⟩, hS.F ht⟩) hS.2.2 dX9_person_101
            · have hm := it_neg s_3_4 hm
              have sn_3_0 := lv_neT s_3_0 (a := 0) rfl
              have sn_3_1 := lv_neT s_3_1 (a := 1) rfl
              have sn_3_2 := lv_neT s_3_2 (a := 2) rfl
              have sn_3_3 := lv_neT s_3_3 (a := 3) rfl
              have sn_3_4 := lv_neT s_3_4 (a := 4) rfl
              refine lv_tableOut (tgt := 102) hx hb dX9_person_12 (by omega) (by decide) ?_
              refine lv_bipush (v := (-2)) hx hb dX9_person_102 (by decide) ?_
              obtain rfl := Option.some.inj hm
              subst hQ
              exact W.iret (v := (-2)) hx hb hr (fun t ht hW => ⟨⟨_, (), rfl, rfl, by rw [ht]; exact hP, va_K.moved hW.alike hK, hAe ▸ hD⟩, hS.F ht⟩) hS.2.2 dX9_person_104
  · have hm := it_pos c_2 hm
    refine lv_bipush (v := (-2)) hx hb dX9_person_8 (by decide) ?_
    obtain rfl := Option.some.inj hm
    subst hQ
    exact W.iret (v := (-2)) hx hb hr (fun t ht hW => ⟨⟨_, (), rfl, rfl, by rw [ht]; exact hP, va_K.moved hW.alike hK, hAe ▸ hD⟩, hS.F ht⟩) hS.2.2 dX9_person_10

set_option maxHeartbeats 4000000 in
set_option maxRecDepth 100000 in
theorem kC_set (l : Launch) (dC : Nat → ClassId) (dI : Nat → Nat → Nat) (cA : ClassId) (ad : Nat → Nat) (sz : Nat) (a1 : Int32) (a2 : Int32) (xHC_first : Int32) (xHC_second : Int32) (xHC_when : Int32) (xHC_ran : Int32) (xSlp_known : Int32) (u : Int32 × Int32 × Int32 × Int32 × Int32 × Int32) (hm : fC_set a1 a2 xHC_first xHC_second xHC_when xHC_ran xSlp_known = some u) : Met l yX9_set wsX9_set ({ frames := 1, cells := 0, slots := 0, locals := 20 }) (va_Pc [.ref (ad 0), .int a1, .int a2] (fun U => U.heap.size = sz ∧ va_P (dC, dI) vwCl [oHC ad xHC_first xHC_second xHC_when xHC_ran, oSlp ad xSlp_known] U.heap ∧ va_K (dC, dI) vwCl [(cA, .int)] U ∧ va_D (fun _ => True) [oHC ad xHC_first xHC_second xHC_when xHC_ran, oSlp ad xSlp_known])) (va_Qi (fun (r : Int32) (_ : Unit) => r = u.1) (fun (_ : Unit) t => va_P (dC, dI) vwCl [oHC ad u.2.1 u.2.2.1 u.2.2.2.1 u.2.2.2.2.1, oSlp ad u.2.2.2.2.2] t.heap ∧ va_K (dC, dI) vwCl [(cA, .int)] t ∧ va_D (va_A [oHC ad xHC_first xHC_second xHC_when xHC_ran, oSlp ad xSlp_known] sz) [oHC ad u.2.1 u.2.2.1 u.2.2.2.1 u.2.2.2.2.1, oSlp ad u.2.2.2.2.2]) (va_A [oHC ad xHC_first xHC_second xHC_when xHC_ran, oSlp ad xSlp_known] sz)) 0 0 (va_A [oHC ad xHC_first xHC_second xHC_when xHC_ran, oSlp ad xSlp_known] sz) := by
  refine Met.ofW (cc := cX9_set) (maxL := 4) (ret := (some .int)) (by decide) rfl ?_
  intro p e s m args below meth c s₁ B hml hv
  obtain ⟨rfl, hsz, hP, hK, hD0⟩ := hv
  have hx := B.exec
  have hb := B.bytes
  have hr := B.returns
  have hts := atoms_spec (ws := wsX9_set) B.pre
  have hown : s.vm.findClass RX9 = some m.cls := findClass_of_methodNamed B.named
  have hlocks := B.notSynchronized
  subst hsz
  have hD := hD0.self (sz := s.heap.size)
  generalize hAe : va_A [oHC ad xHC_first xHC_second xHC_when xHC_ran, oSlp ad xSlp_known] s.heap.size = A at hD ⊢
  have hA : ∀ q : Nat, s.heap.size ≤ q → A q := fun q h => by rw [← hAe]; exact Or.inr h
  have hS : va_S A s.heap s.heap [] := va_S.rf
  have hl := lv_entry ([.ref (ad 0), .int a1, .int a2]) (n := 4) (Nat.le_of_ble_eq_true rfl)
  rw [lg_entry_eq]
  generalize (lg_sl ([.ref (ad 0), .int a1, .int a2]) ++ List.replicate (4 - (lg_sl ([.ref (ad 0), .int a1, .int a2])).length) Slot.unset).toArray = ls at hl ⊢
  have hl : lv_has ls 4 [(0, .ref (ad 0)), (1, .int a1), (2, .int a2)] := hl
  refine wk_Q (fun QQ hQ => ?_)
  have hinX9 : ∀ w ∈ wsX90, w ∈ wsX9_set := fun w h => List.mem_cons_of_mem _ (inlX9 w h)
  have hl_79 := hts (.fieldLink RX9 79 "HandCensus" "when" "I") (List.mem_cons_of_mem _ (in_r3 _ (List.mem_of_getElem? (i := 1) rfl)))
  have hl_76 := hts (.fieldLink RX9 76 "HandCensus" "second" "I") (List.mem_cons_of_mem _ (in_r3 _ (List.mem_of_getElem? (i := 0) rfl)))
  have hl_72 := hts (.fieldLink RX9 72 "HandCensus" "first" "I") (List.mem_cons_of_mem _ (in_r2 _ (List.mem_of_getElem? (i := 23) rfl)))
  have b_87 : ∀ (v3_87 : Int32) (xHC_first_87 : Int32) (xHC_second_87 : Int32) (xHC_when_87 : Int32) (xHC_ran_87 : Int32) (xSlp_known_87 : Int32), fC_set_87 v3_87 xHC_first_87 xHC_second_87 xHC_when_87 xHC_ran_87 xSlp_known_87 = some u → ∀ (H : Heap) (locs : List Loc), va_P (dC, dI) vwCl [oHC ad xHC_first_87 xHC_second_87 xHC_when_87 xHC_ran_87, oSlp ad xSlp_known_87] H → va_D A [oHC ad xHC_first_87 xHC_second_87 xHC_when_87 xHC_ran_87, oSlp ad xSlp_known_87] → va_S A s.heap H locs → ∀ ls : Array Slot, lv_has ls 4 [(0, .ref (ad 0)), (3, .int v3_87)] → W p l e (headSpec wsX9_set ({ frames := 1, cells := 0, slots := 0, locals := 20 })).room s m ([.ref (ad 0), .int a1, .int a2] : List Value).toArray below meth c H locs 0 0 QQ (F0 m 87 ls []) := by
    intro v3_87 xHC_first_87 xHC_second_87 xHC_when_87 xHC_ran_87 xSlp_known_87 hm H locs hP hD hS ls hl
    unfold fC_set_87 at hm
    refine lv_aload_n hx hb dX9_set_87 rfl (lv_at hl 0 rfl) ?_
    have hPc := hP.sub (ws' := [oHC ad xHC_first_87 xHC_second_87 xHC_when_87 xHC_ran_87, oSlp ad xSlp_known_87]) [0, 1] rfl
    have hDc := hD.sub (ws' := [oHC ad xHC_first_87 xHC_second_87 xHC_when_87 xHC_ran_87, oSlp ad xSlp_known_87]) [0, 1] (by decide) rfl
    have hFc := va_free (wc := [oHC ad xHC_first_87 xHC_second_87 xHC_when_87 xHC_ran_87, oSlp ad xSlp_known_87]) hD hS hA [0, 1] rfl
    obtain ⟨u_1, hc_1, hm⟩ := bd_ok hm
    refine va_callv (va_runV (As := []) (rest := []) ⟨hx, hb, hml, hown, hts⟩ (kC_squeezeChanged l dC dI cA ad H.size xHC_first_87 xHC_second_87 xHC_when_87 xHC_ran_87 xSlp_known_87 u_1 hc_1) (cwV 0 hts gX9_set_X9_squeezeChanged rfl rfl rfl (by decide +kernel) ⟨Nat.le_of_ble_eq_true rfl, Nat.le_of_ble_eq_true rfl⟩) ⟨fun a U g mk q => by obtain ⟨q0, q1, qP, qK, qD⟩ := q; exact ⟨q0, q1, qP, va_K.moved (u := U) (U := U.calling g mk a) (Vm.Alike.refl U.vm) qK, qD⟩, va_recv hK hPc (ci := 9) (q0 := 0) rfl rfl, fun U hU hW => ⟨rfl, by rw [hU], by rw [hU]; exact hPc, va_K.moved hW.alike hK, hDc.weaken (fun _ _ _ _ => trivial)⟩⟩ rfl rfl hl.1 rfl (lv_room (Nat.le_of_ble_eq_true rfl)) dX9_set_88 ⟨Nat.le_of_ble_eq_true rfl, Nat.le_of_ble_eq_true rfl⟩) hS (fun q _ h => hFc q h) hFc (fun _ t H1 locs ht hvm hw hB hz1 hk1 hS => ?_)
    obtain ⟨hP1, hK1, hD1⟩ := hB
    rw [ht] at hP1
    obtain ⟨hP, hD⟩ := va_join (wr := []) (w1 := [oHC ad xHC_first_87 xHC_second_87 xHC_when_87 u_1.1, oSlp ad u_1.2]) hP hD [0, 1] [] rfl rfl (by decide) (by decide) hk1 hFc hP1 hD1
    clear hPc hDc hFc hP1 hK1 hD1 hk1 hz1 hvm ht
    generalize H1 = H at hP hS ⊢
    have hP : va_P (dC, dI) vwCl [oHC ad xHC_first_87 xHC_second_87 xHC_when_87 u_1.1, oSlp ad u_1.2] H := hP
    have hD : va_D A [oHC ad xHC_first_87 xHC_second_87 xHC_when_87 u_1.1, oSlp ad u_1.2] := hD
    refine lv_iload_n hx hb dX9_set_91 rfl (lv_at hl 1 rfl) ?_
    obtain rfl := Option.some.inj hm
    subst hQ
    exact W.iret (v := v3_87) hx hb hr (fun t ht hW => ⟨⟨_, (), rfl, rfl, by rw [ht]; exact hP, va_K.moved hW.alike hK, hAe ▸ hD⟩, hS.F ht⟩) hS.2.2 dX9_set_92
  have b_56 : ∀ (v1_56 : Int32) (v2_56 : Int32) (xHC_first_56 : Int32) (xHC_second_56 : Int32) (xHC_when_56 : Int32) (xHC_ran_56 : Int32) (xSlp_known_56 : Int32), fC_set_56 v1_56 v2_56 xHC_first_56 xHC_second_56 xHC_when_56 xHC_ran_56 xSlp_known_56 = some u → ∀ (H : Heap) (locs : List Loc), va_P (dC, dI) vwCl [oHC ad xHC_first_56 xHC_second_56 xHC_when_56 xHC_ran_56, oSlp ad xSlp_known_56] H → va_D A [oHC ad xHC_first_56 xHC_second_56 xHC_when_56 xHC_ran_56, oSlp ad xSlp_known_56] → va_S A s.heap H locs → ∀ ls : Array Slot, lv_has ls 4 [(0, .ref (ad 0)), (1, .int v1_56), (2, .int v2_56)] → W p l e (headSpec wsX9_set ({ frames := 1, cells := 0, slots := 0, locals := 20 })).room s m ([.ref (ad 0), .int a1, .int a2] : List Value).toArray below meth c H locs 0 0 QQ (F0 m 56 ls []) := by
    intro v1_56 v2_56 xHC_first_56 xHC_second_56 xHC_when_56 xHC_ran_56 xSlp_known_56 hm H locs hP hD hS ls hl
    unfold fC_set_56 at hm
    refine lv_iload_n hx hb dX9_set_56 rfl (lv_at hl 1 rfl) ?_
    refine lv_iconst (v := 2) hx hb dX9_set_57 (by decide) ?_
    refine lv_icmp_ne (tgt := 84) hx hb dX9_set_58 (by decide) (fun c_2 => ?_) (fun c_2 => ?_)
    · have hm := it_neg c_2 hm
      refine lv_bipush (v := (-5)) hx hb dX9_set_84 (by decide) ?_
      obtain rfl := Option.some.inj hm
      subst hQ
      exact W.iret (v := (-5)) hx hb hr (fun t ht hW => ⟨⟨_, (), rfl, rfl, by rw [ht]; exact hP, va_K.moved hW.alike hK, hAe ▸ hD⟩, hS.F ht⟩) hS.2.2 dX9_set_86
    · have hm := it_pos c_2 hm
      refine lv_iload_n hx hb dX9_set_61 rfl (lv_at hl 2 rfl) ?_
      refine lv_if_lt (tgt := 84) hx hb dX9_set_62 (by decide) (fun c_3 => ?_) (fun c_3 => ?_)
      · have hm := it_pos c_3 hm
        refine lv_bipush (v := (-5)) hx hb dX9_set_84 (by decide) ?_
        obtain rfl := Option.some.inj hm
        subst hQ
        exact W.iret (v := (-5)) hx hb hr (fun t ht hW => ⟨⟨_, (), rfl, rfl, by rw [ht]; exact hP, va_K.moved hW.alike hK, hAe ▸ hD⟩, hS.F ht⟩) hS.2.2 dX9_set_86
      · have hm := it_neg c_3 hm
        refine lv_iload_n hx hb dX9_set_65 rfl (lv_at hl 2 rfl) ?_
        refine lv_bipush (v := 99) hx hb dX9_set_66 (by decide) ?_
        refine lv_icmp_gt (tgt := 84) hx hb dX9_set_68 (by decide) (fun c_4 => ?_) (fun c_4 => ?_)
        · have hm := it_pos c_4 hm
          refine lv_bipush (v := (-5)) hx hb dX9_set_84 (by decide) ?_
          obtain rfl := Option.some.inj hm
          subst hQ
          exact W.iret (v := (-5)) hx hb hr (fun t ht hW => ⟨⟨_, (), rfl, rfl, by rw [ht]; exact hP, va_K.moved hW.alike hK, hAe ▸ hD⟩, hS.F ht⟩) hS.2.2 dX9_set_86
        · have hm := it_neg c_4 hm
          refine lv_aload_n hx hb dX9_set_71 rfl (lv_at hl 0 rfl) ?_
          refine va_get (D := (dC, dI)) (ci := 9) (v := .int xHC_when_56) (C := RX9) (T := TX9) (N := 12) hx hb hts hinX9 hown hK hP 0 rfl rfl 10 (by decide) hl_79 (fun _ h9 => h9) rfl dX9_set_72 ?_
          refine lv_istore_n (lv' := [(3, .int xHC_when_56), (0, .ref (ad 0)), (1, .int v1_56), (2, .int v2_56)]) hx hb dX9_set_75 rfl hl (by decide) rfl (fun ls hl => ?_)
          refine lv_aload_n hx hb dX9_set_76 rfl (lv_at hl 1 rfl) ?_
          refine lv_iload_n hx hb dX9_set_77 rfl (lv_at hl 3 rfl) ?_
          refine va_put (D := (dC, dI)) (ci := 9) (v := .int v2_56) (ty := .int) (C := RX9) (T := TX9) (N := 12) hx hb hts hinX9 tyX9 tyX9_ok nmX9 hown hK hP hD hS 0 rfl rfl 10 (by decide) hl_79 (fun _ h9 => h9) rfl (by decide +kernel) rfl rfl (Nat.le_of_ble_eq_true rfl) dX9_set_78 (fun H locs hP hD hS => ?_)
          have hP : va_P (dC, dI) vwCl [oHC ad xHC_first_56 xHC_second_56 v2_56 xHC_ran_56, oSlp ad xSlp_known_56] H := hP
          have hD : va_D A [oHC ad xHC_first_56 xHC_second_56 v2_56 xHC_ran_56, oSlp ad xSlp_known_56] := hD
          refine lv_goto (tgt := 87) hx hb dX9_set_81 (by decide) ?_
          exact b_87 _ _ _ _ _ _ hm _ _ hP hD hS _ (lv_sub hl [1, 0] rfl)
  have b_27 : ∀ (v1_27 : Int32) (v2_27 : Int32) (xHC_first_27 : Int32) (xHC_second_27 : Int32) (xHC_when_27 : Int32) (xHC_ran_27 : Int32) (xSlp_known_27 : Int32), fC_set_27 v1_27 v2_27 xHC_first_27 xHC_second_27 xHC_when_27 xHC_ran_27 xSlp_known_27 = some u → ∀ (H : Heap) (locs : List Loc), va_P (dC, dI) vwCl [oHC ad xHC_first_27 xHC_second_27 xHC_when_27 xHC_ran_27, oSlp ad xSlp_known_27] H → va_D A [oHC ad xHC_first_27 xHC_second_27 xHC_when_27 xHC_ran_27, oSlp ad xSlp_known_27] → va_S A s.heap H locs → ∀ ls : Array Slot, lv_has ls 4 [(0, .ref (ad 0)), (1, .int v1_27), (2, .int v2_27)] → W p l e (headSpec wsX9_set ({ frames := 1, cells := 0, slots := 0, locals := 20 })).room s m ([.ref (ad 0), .int a1, .int a2] : List Value).toArray below meth c H locs 0 0 QQ (F0 m 27 ls []) := by
    intro v1_27 v2_27 xHC_first_27 xHC_second_27 xHC_when_27 xHC_ran_27 xSlp_known_27 hm H locs hP hD hS ls hl
    unfold fC_set_27 at hm
    refine lv_iload_n hx hb dX9_set_27 rfl (lv_at hl 1 rfl) ?_
    refine lv_iconst (v := 1) hx hb dX9_set_28 (by decide) ?_
    refine lv_icmp_ne (tgt := 56) hx hb dX9_set_29 (by decide) (fun c_5 => ?_) (fun c_5 => ?_)
    · have hm := it_neg c_5 hm
      exact b_56 _ _ _ _ _ _ _ hm _ _ hP hD hS _ (lv_sub hl [0, 1, 2] rfl)
    · have hm := it_pos c_5 hm
      refine lv_iload_n hx hb dX9_set_32 rfl (lv_at hl 2 rfl) ?_
      refine lv_iconst (v := (-1)) hx hb dX9_set_33 (by decide) ?_
      refine lv_icmp_lt (tgt := 56) hx hb dX9_set_34 (by decide) (fun c_6 => ?_) (fun c_6 => ?_)
      · have hm := it_pos c_6 hm
        exact b_56 _ _ _ _ _ _ _ hm _ _ hP hD hS _ (lv_sub hl [0, 1, 2] rfl)
      · have hm := it_neg c_6 hm
        refine lv_iload_n hx hb dX9_set_37 rfl (lv_at hl 2 rfl) ?_
        refine lv_bipush (v := 20) hx hb dX9_set_38 (by decide) ?_
        refine lv_icmp_ge (tgt := 56) hx hb dX9_set_40 (by decide) (fun c_7 => ?_) (fun c_7 => ?_)
        · have hm := it_pos c_7 hm
          exact b_56 _ _ _ _ _ _ _ hm _ _ hP hD hS _ (lv_sub hl [0, 1, 2] rfl)
        · have hm := it_neg c_7 hm
          refine lv_aload_n hx hb dX9_set_43 rfl (lv_at hl 0 rfl) ?_
          refine va_get (D := (dC, dI)) (ci := 9) (v := .int xHC_second_27) (C := RX9) (T := TX9) (N := 12) hx hb hts hinX9 hown hK hP 0 rfl rfl 9 (by decide) hl_76 (fun _ h9 => h9) rfl dX9_set_44 ?_
          refine lv_istore_n (lv' := [(3, .int xHC_second_27), (0, .ref (ad 0)), (1, .int v1_27), (2, .int v2_27)]) hx hb dX9_set_47 rfl hl (by decide) rfl (fun ls hl => ?_)
          refine lv_aload_n hx hb dX9_set_48 rfl (lv_at hl 1 rfl) ?_
          refine lv_iload_n hx hb dX9_set_49 rfl (lv_at hl 3 rfl) ?_
          refine va_put (D := (dC, dI)) (ci := 9) (v := .int v2_27) (ty := .int) (C := RX9) (T := TX9) (N := 12) hx hb hts hinX9 tyX9 tyX9_ok nmX9 hown hK hP hD hS 0 rfl rfl 9 (by decide) hl_76 (fun _ h9 => h9) rfl (by decide +kernel) rfl rfl (Nat.le_of_ble_eq_true rfl) dX9_set_50 (fun H locs hP hD hS => ?_)
          have hP : va_P (dC, dI) vwCl [oHC ad xHC_first_27 v2_27 xHC_when_27 xHC_ran_27, oSlp ad xSlp_known_27] H := hP
          have hD : va_D A [oHC ad xHC_first_27 v2_27 xHC_when_27 xHC_ran_27, oSlp ad xSlp_known_27] := hD
          refine lv_goto (tgt := 87) hx hb dX9_set_53 (by decide) ?_
          exact b_87 _ _ _ _ _ _ hm _ _ hP hD hS _ (lv_sub hl [1, 0] rfl)
  unfold fC_set at hm
  refine lv_iload_n hx hb dX9_set_0 rfl (lv_at hl 1 rfl) ?_
  refine lv_if_ne (tgt := 27) hx hb dX9_set_1 (by decide) (fun c_8 => ?_) (fun c_8 => ?_)
  · have hm := it_neg c_8 hm
    exact b_27 _ _ _ _ _ _ _ hm _ _ hP hD hS _ (lv_sub hl [0, 1, 2] rfl)
  · have hm := it_pos c_8 hm
    refine lv_iload_n hx hb dX9_set_4 rfl (lv_at hl 2 rfl) ?_
    refine lv_if_lt (tgt := 27) hx hb dX9_set_5 (by decide) (fun c_9 => ?_) (fun c_9 => ?_)
    · have hm := it_pos c_9 hm
      exact b_27 _ _ _ _ _ _ _ hm _ _ hP hD hS _ (lv_sub hl [0, 1, 2] rfl)
    · have hm := it_neg c_9 hm
      refine lv_iload_n hx hb dX9_set_8 rfl (lv_at hl 2 rfl) ?_
      refine lv_bipush (v := 20) hx hb dX9_set_9 (by decide) ?_
      refine lv_icmp_ge (tgt := 27) hx hb dX9_set_11 (by decide) (fun c_10 => ?_) (fun c_10 => ?_)
      · have hm := it_pos c_10 hm
        exact b_27 _ _ _ _ _ _ _ hm _ _ hP hD hS _ (lv_sub hl [0, 1, 2] rfl)
      · have hm := it_neg c_10 hm
        refine lv_aload_n hx hb dX9_set_14 rfl (lv_at hl 0 rfl) ?_
        refine va_get (D := (dC, dI)) (ci := 9) (v := .int xHC_first) (C := RX9) (T := TX9) (N := 12) hx hb hts hinX9 hown hK hP 0 rfl rfl 8 (by decide) hl_72 (fun _ h9 => h9) rfl dX9_set_15 ?_
        refine lv_istore_n (lv' := [(3, .int xHC_first), (0, .ref (ad 0)), (1, .int a1), (2, .int a2)]) hx hb dX9_set_18 rfl hl (by decide) rfl (fun ls hl => ?_)
        refine lv_aload_n hx hb dX9_set_19 rfl (lv_at hl 1 rfl) ?_
        refine lv_iload_n hx hb dX9_set_20 rfl (lv_at hl 3 rfl) ?_
        refine va_put (D := (dC, dI)) (ci := 9) (v := .int a2) (ty := .int) (C := RX9) (T := TX9) (N := 12) hx hb hts hinX9 tyX9 tyX9_ok nmX9 hown hK hP hD hS 0 rfl rfl 8 (by decide) hl_72 (fun _ h9 => h9) rfl (by decide +kernel) rfl rfl (Nat.le_of_ble_eq_true rfl) dX9_set_21 (fun H locs hP hD hS => ?_)
        have hP : va_P (dC, dI) vwCl [oHC ad a2 xHC_second xHC_when xHC_ran, oSlp ad xSlp_known] H := hP
        have hD : va_D A [oHC ad a2 xHC_second xHC_when xHC_ran, oSlp ad xSlp_known] := hD
        refine lv_goto (tgt := 87) hx hb dX9_set_24 (by decide) ?_
        exact b_87 _ _ _ _ _ _ hm _ _ hP hD hS _ (lv_sub hl [1, 0] rfl)
