set_option maxHeartbeats 4000000 in
set_option maxRecDepth 100000 in
theorem kS_feelOne_U (l : Launch) (dC : Nat → ClassId) (dI : Nat → Nat → Nat) (cA : ClassId) (ad : Nat → Nat) (sz : Nat) (a1 : Int32) (a2 : Int32) (a3 : Int32) (xRow_depth : Int32) (xRow_length : Int32) (xRow_people : Int32) (xRow_scarves : Int32) (xRow_main : Int32) (xRow_faultPlace : Int32) (gRkinds : Nat → Int32) (gRlates : Nat → Int32) (gRhands : Nat → Int32) (gRslow : Nat → Int32) (xSU_sleeper : Int32) (xSU_lastDue : Int32) (xSU_unreached : Int32) (gSUdue : Nat → Int32) (gSUbusy : Nat → Int32) (gSUfelt : Nat → Int32) (gSUlost : Nat → Int32) (gSUfirst : Nat → Int32) (u : Int32 × Int32 × (Nat → Int32) × (Nat → Int32) × (Nat → Int32) × (Nat → Int32) × (Nat → Int32)) (hm : fS_feelOne_U a1 a2 a3 xRow_people gRkinds gRlates gRhands gRslow xSU_sleeper xSU_lastDue xSU_unreached gSUdue gSUbusy gSUfelt gSUlost gSUfirst = some u) : Met l yX8_feelOne wsX8_feelOne ({ frames := 1, cells := 0, slots := 0, locals := 25 }) (va_Pc [.ref (ad 17), .int a1, .int a2, .int a3] (fun U => U.heap.size = sz ∧ va_P (dC, dI) vwCl [oRow ad xRow_depth xRow_length xRow_people xRow_scarves xRow_main xRow_faultPlace, ar (ad 3) cA 20 gRkinds, ar (ad 4) cA 20 gRlates, ar (ad 5) cA 20 gRhands, ar (ad 6) cA 20 gRslow, oSU ad xSU_sleeper xSU_lastDue xSU_unreached, ar (ad 18) cA 640 gSUdue, ar (ad 19) cA 20 gSUbusy, ar (ad 20) cA 20 gSUfelt, ar (ad 21) cA 20 gSUlost, ar (ad 22) cA 20 gSUfirst] U.heap ∧ va_K (dC, dI) vwCl [(cA, .int)] U ∧ va_D (fun _ => True) [oRow ad xRow_depth xRow_length xRow_people xRow_scarves xRow_main xRow_faultPlace, ar (ad 3) cA 20 gRkinds, ar (ad 4) cA 20 gRlates, ar (ad 5) cA 20 gRhands, ar (ad 6) cA 20 gRslow, oSU ad xSU_sleeper xSU_lastDue xSU_unreached, ar (ad 18) cA 640 gSUdue, ar (ad 19) cA 20 gSUbusy, ar (ad 20) cA 20 gSUfelt, ar (ad 21) cA 20 gSUlost, ar (ad 22) cA 20 gSUfirst])) (va_Qv (fun (_ : Unit) => True) (fun (_ : Unit) t => va_P (dC, dI) vwCl [oRow ad xRow_depth xRow_length xRow_people xRow_scarves xRow_main xRow_faultPlace, ar (ad 3) cA 20 gRkinds, ar (ad 4) cA 20 gRlates, ar (ad 5) cA 20 gRhands, ar (ad 6) cA 20 gRslow, oSU ad xSU_sleeper u.1 u.2.1, ar (ad 18) cA 640 u.2.2.1, ar (ad 19) cA 20 u.2.2.2.1, ar (ad 20) cA 20 u.2.2.2.2.1, ar (ad 21) cA 20 u.2.2.2.2.2.1, ar (ad 22) cA 20 u.2.2.2.2.2.2] t.heap ∧ va_K (dC, dI) vwCl [(cA, .int)] t ∧ va_D (va_A [oRow ad xRow_depth xRow_length xRow_people xRow_scarves xRow_main xRow_faultPlace, ar (ad 3) cA 20 gRkinds, ar (ad 4) cA 20 gRlates, ar (ad 5) cA 20 gRhands, ar (ad 6) cA 20 gRslow, oSU ad xSU_sleeper xSU_lastDue xSU_unreached, ar (ad 18) cA 640 gSUdue, ar (ad 19) cA 20 gSUbusy, ar (ad 20) cA 20 gSUfelt, ar (ad 21) cA 20 gSUlost, ar (ad 22) cA 20 gSUfirst] sz) [oRow ad xRow_depth xRow_length xRow_people xRow_scarves xRow_main xRow_faultPlace, ar (ad 3) cA 20 gRkinds, ar (ad 4) cA 20 gRlates, ar (ad 5) cA 20 gRhands, ar (ad 6) cA 20 gRslow, oSU ad xSU_sleeper u.1 u.2.1, ar (ad 18) cA 640 u.2.2.1, ar (ad 19) cA 20 u.2.2.2.1, ar (ad 20) cA 20 u.2.2.2.2.1, ar (ad 21) cA 20 u.2.2.2.2.2.1, ar (ad 22) cA 20 u.2.2.2.2.2.2]) (va_A [oRow ad xRow_depth xRow_length xRow_people xRow_scarves xRow_main xRow_faultPlace, ar (ad 3) cA 20 gRkinds, ar (ad 4) cA 20 gRlates, ar (ad 5) cA 20 gRhands, ar (ad 6) cA 20 gRslow, oSU ad xSU_sleeper xSU_lastDue xSU_unreached, ar (ad 18) cA 640 gSUdue, ar (ad 19) cA 20 gSUbusy, ar (ad 20) cA 20 gSUfelt, ar (ad 21) cA 20 gSUlost, ar (ad 22) cA 20 gSUfirst] sz)) 0 0 (va_A [oRow ad xRow_depth xRow_length xRow_people xRow_scarves xRow_main xRow_faultPlace, ar (ad 3) cA 20 gRkinds, ar (ad 4) cA 20 gRlates, ar (ad 5) cA 20 gRhands, ar (ad 6) cA 20 gRslow, oSU ad xSU_sleeper xSU_lastDue xSU_unreached, ar (ad 18) cA 640 gSUdue, ar (ad 19) cA 20 gSUbusy, ar (ad 20) cA 20 gSUfelt, ar (ad 21) cA 20 gSUlost, ar (ad 22) cA 20 gSUfirst] sz) := by
  refine Met.ofW (cc := cX8_feelOne) (maxL := 7) (ret := none) (by decide) rfl ?_
  intro p e s m args below meth c s₁ B hml hv
  obtain ⟨rfl, hsz, hP, hK, hD0⟩ := hv
  have hx := B.exec
  have hb := B.bytes
  have hr := B.returns
  have hts := atoms_spec (ws := wsX8_feelOne) B.pre
  have hown : s.vm.findClass RX8 = some m.cls := findClass_of_methodNamed B.named
  have hlocks := B.notSynchronized
  subst hsz
  have hD := hD0.self (sz := s.heap.size)
  generalize hAe : va_A [oRow ad xRow_depth xRow_length xRow_people xRow_scarves xRow_main xRow_faultPlace, ar (ad 3) cA 20 gRkinds, ar (ad 4) cA 20 gRlates, ar (ad 5) cA 20 gRhands, ar (ad 6) cA 20 gRslow, oSU ad xSU_sleeper xSU_lastDue xSU_unreached, ar (ad 18) cA 640 gSUdue, ar (ad 19) cA 20 gSUbusy, ar (ad 20) cA 20 gSUfelt, ar (ad 21) cA 20 gSUlost, ar (ad 22) cA 20 gSUfirst] s.heap.size = A at hD ⊢
  have hA : ∀ q : Nat, s.heap.size ≤ q → A q := fun q h => by rw [← hAe]; exact Or.inr h
  have hS : va_S A s.heap s.heap [] := va_S.rf
  have hl := lv_entry ([.ref (ad 17), .int a1, .int a2, .int a3]) (n := 7) (Nat.le_of_ble_eq_true rfl)
  rw [lg_entry_eq]
  generalize (lg_sl ([.ref (ad 17), .int a1, .int a2, .int a3]) ++ List.replicate (7 - (lg_sl ([.ref (ad 17), .int a1, .int a2, .int a3])).length) Slot.unset).toArray = ls at hl ⊢
  have hl : lv_has ls 7 [(0, .ref (ad 17)), (1, .int a1), (2, .int a2), (3, .int a3)] := hl
  refine wk_Q (fun QQ hQ => ?_)
  have hinX8 : ∀ w ∈ wsX80, w ∈ wsX8_feelOne := fun w h => List.mem_cons_of_mem _ (inlX8 w h)
  have hl_9 := hts (.fieldLink RX8 9 "HandCensus$Squeeze" "row" "LHandCensus$Row;") (List.mem_cons_of_mem _ (in_r4 _ (List.mem_of_getElem? (i := 2) rfl)))
  have hinX5 : ∀ w ∈ wsX50, w ∈ wsX8_feelOne := fun w h => List.mem_cons_of_mem _ (inlX5 w h)
  have hl_83 := hts (.fieldLink RX8 83 "HandCensus$Row" "lates" "[I") (List.mem_cons_of_mem _ (in_r16 _ (List.mem_of_getElem? (i := 15) rfl)))
  have hl_23 := hts (.fieldLink RX8 23 "HandCensus$Squeeze" "busyUpTo" "[I") (List.mem_cons_of_mem _ (in_r4 _ (List.mem_of_getElem? (i := 5) rfl)))
  have hl_26 := hts (.fieldLink RX8 26 "HandCensus$Squeeze" "feltMany" "[I") (List.mem_cons_of_mem _ (in_r4 _ (List.mem_of_getElem? (i := 6) rfl)))
  have hl_38 := hts (.fieldLink RX8 38 "HandCensus$Squeeze" "sleeper" "I") (List.mem_cons_of_mem _ (in_r14 _ (List.mem_of_getElem? (i := 18) rfl)))
  have hl_80 := hts (.fieldLink RX8 80 "HandCensus$Row" "kinds" "[I") (List.mem_cons_of_mem _ (in_r16 _ (List.mem_of_getElem? (i := 14) rfl)))
  have hl_15 := hts (.fieldLink RX8 15 "HandCensus$Squeeze" "diary" "LHandCensus$Diary;") (List.mem_cons_of_mem _ (in_r4 _ (List.mem_of_getElem? (i := 3) rfl)))
  have hl_32 := hts (.fieldLink RX8 32 "HandCensus$Squeeze" "firstAt" "[I") (List.mem_cons_of_mem _ (in_r4 _ (List.mem_of_getElem? (i := 8) rfl)))
  have hl_50 := hts (.fieldLink RX8 50 "HandCensus$Squeeze" "unreached" "I") (List.mem_cons_of_mem _ (in_r14 _ (List.mem_of_getElem? (i := 21) rfl)))
  have hl_29 := hts (.fieldLink RX8 29 "HandCensus$Squeeze" "lostMany" "[I") (List.mem_cons_of_mem _ (in_r4 _ (List.mem_of_getElem? (i := 7) rfl)))
  have b_145 : ∀ (v1_145 : Int32) (v2_145 : Int32) (v3_145 : Int32) (v5_145 : Int32) (xSU_lastDue_145 : Int32) (xSU_unreached_145 : Int32) (gSUdue_145 : Nat → Int32) (gSUbusy_145 : Nat → Int32) (gSUfelt_145 : Nat → Int32) (gSUlost_145 : Nat → Int32) (gSUfirst_145 : Nat → Int32), fS_feelOne_U_145 v1_145 v2_145 v3_145 v5_145 xRow_people gRlates gRhands gRslow xSU_lastDue_145 xSU_unreached_145 gSUdue_145 gSUbusy_145 gSUfelt_145 gSUlost_145 gSUfirst_145 = some u → ∀ (H : Heap) (locs : List Loc), va_P (dC, dI) vwCl [oRow ad xRow_depth xRow_length xRow_people xRow_scarves xRow_main xRow_faultPlace, ar (ad 3) cA 20 gRkinds, ar (ad 4) cA 20 gRlates, ar (ad 5) cA 20 gRhands, ar (ad 6) cA 20 gRslow, oSU ad xSU_sleeper xSU_lastDue_145 xSU_unreached_145, ar (ad 18) cA 640 gSUdue_145, ar (ad 19) cA 20 gSUbusy_145, ar (ad 20) cA 20 gSUfelt_145, ar (ad 21) cA 20 gSUlost_145, ar (ad 22) cA 20 gSUfirst_145] H → va_D A [oRow ad xRow_depth xRow_length xRow_people xRow_scarves xRow_main xRow_faultPlace, ar (ad 3) cA 20 gRkinds, ar (ad 4) cA 20 gRlates, ar (ad 5) cA 20 gRhands, ar (ad 6) cA 20 gRslow, oSU ad xSU_sleeper xSU_lastDue_145 xSU_unreached_145, ar (ad 18) cA 640 gSUdue_145, ar (ad 19) cA 20 gSUbusy_145, ar (ad 20) cA 20 gSUfelt_145, ar (ad 21) cA 20 gSUlost_145, ar (ad 22) cA 20 gSUfirst_145] → va_S A s.heap H locs → ∀ ls : Array Slot, lv_has ls 7 [(0, .ref (ad 17)), (1, .int v1_145), (2, .int v2_145), (3, .int v3_145), (5, .int v5_145)] → W p l e (headSpec wsX8_feelOne ({ frames := 1, cells := 0, slots := 0, locals := 25 })).room s m ([.ref (ad 17), .int a1, .int a2, .int a3] : List Value).toArray below meth c H locs 0 0 QQ (F0 m 145 ls []) := by
    intro v1_145 v2_145 v3_145 v5_145 xSU_lastDue_145 xSU_unreached_145 gSUdue_145 gSUbusy_145 gSUfelt_145 gSUlost_145 gSUfirst_145 hm H locs hP hD hS ls hl
    unfold fS_feelOne_U_145 at hm
    refine lv_aload_n hx hb dX8_feelOne_145 rfl (lv_at hl 0 rfl) ?_
    refine va_get (D := (dC, dI)) (ci := 8) (v := .ref (ad 1)) (C := RX8) (T := TX8) (N := 10) hx hb hts hinX8 hown hK hP 5 rfl rfl 0 (by decide) hl_9 (fun _ h9 => h9) rfl dX8_feelOne_146 ?_
    refine va_get (D := (dC, dI)) (ci := 5) (v := .ref (ad 4)) (C := RX5) (T := TX5) (N := 13) hx hb hts hinX5 hown hK hP 0 rfl rfl 2 (by decide) hl_83 (fun _ h9 => h9) rfl dX8_feelOne_149 ?_
    refine lv_iload_n hx hb dX8_feelOne_152 rfl (lv_at hl 1 rfl) ?_
    obtain ⟨i_1, hm⟩ := ck_ok hm
    refine va_iald hx hb hK hP 2 0 rfl rfl i_1 dX8_feelOne_153 ?_
    refine lv_istore (lv' := [(6, .int (gRlates v1_145.toNatClampNeg)), (0, .ref (ad 17)), (1, .int v1_145), (2, .int v2_145), (3, .int v3_145), (5, .int v5_145)]) hx hb dX8_feelOne_154 hl (by decide) rfl (fun ls hl => ?_)
    refine lv_aload_n hx hb dX8_feelOne_156 rfl (lv_at hl 1 rfl) ?_
    refine lv_iload_n hx hb dX8_feelOne_157 rfl (lv_at hl 2 rfl) ?_
    refine lv_iload_n hx hb dX8_feelOne_158 rfl (lv_at hl 3 rfl) ?_
    refine lv_iload hx hb dX8_feelOne_159 (lv_at hl 0 rfl) ?_
    refine lv_iadd hx hb dX8_feelOne_161 ?_
    refine lv_iload_n hx hb dX8_feelOne_162 rfl (lv_at hl 4 rfl) ?_
    have hPc := hP.sub (ws' := [oRow ad xRow_depth xRow_length xRow_people xRow_scarves xRow_main xRow_faultPlace, ar (ad 5) cA 20 gRhands, ar (ad 6) cA 20 gRslow, oSU ad xSU_sleeper xSU_lastDue_145 xSU_unreached_145, ar (ad 18) cA 640 gSUdue_145]) [0, 3, 4, 5, 6] rfl
    have hDc := hD.sub (ws' := [oRow ad xRow_depth xRow_length xRow_people xRow_scarves xRow_main xRow_faultPlace, ar (ad 5) cA 20 gRhands, ar (ad 6) cA 20 gRslow, oSU ad xSU_sleeper xSU_lastDue_145 xSU_unreached_145, ar (ad 18) cA 640 gSUdue_145]) [0, 3, 4, 5, 6] (by decide) rfl
    have hFc := va_free (wc := [oRow ad xRow_depth xRow_length xRow_people xRow_scarves xRow_main xRow_faultPlace, ar (ad 5) cA 20 gRhands, ar (ad 6) cA 20 gRslow, oSU ad xSU_sleeper xSU_lastDue_145 xSU_unreached_145, ar (ad 18) cA 640 gSUdue_145]) hD hS hA [0, 3, 4, 5, 6] rfl
    obtain ⟨u_2, hc_2, hm⟩ := bd_ok hm
    refine va_callv (va_runV (As := [.int v1_145, .int (v2_145 + (gRlates v1_145.toNatClampNeg)), .int v3_145]) (rest := []) ⟨hx, hb, hml, hown, hts⟩ (kS_passOn_U l dC dI cA ad H.size v1_145 (v2_145 + (gRlates v1_145.toNatClampNeg)) v3_145 xRow_depth xRow_length xRow_people xRow_scarves xRow_main xRow_faultPlace gRhands gRslow xSU_sleeper xSU_lastDue_145 xSU_unreached_145 gSUdue_145 u_2 hc_2) (cwV 3 hts gX8_feelOne_X8_passOn rfl rfl rfl (by decide +kernel) ⟨Nat.le_of_ble_eq_true rfl, Nat.le_of_ble_eq_true rfl⟩) ⟨fun a U g mk q => by obtain ⟨q0, q1, qP, qK, qD⟩ := q; exact ⟨q0, q1, qP, va_K.moved (u := U) (U := U.calling g mk a) (Vm.Alike.refl U.vm) qK, qD⟩, va_recv hK hPc (ci := 8) (q0 := 3) rfl rfl, fun U hU hW => ⟨rfl, by rw [hU], by rw [hU]; exact hPc, va_K.moved hW.alike hK, hDc.weaken (fun _ _ _ _ => trivial)⟩⟩ rfl rfl hl.1 rfl (lv_room (Nat.le_of_ble_eq_true rfl)) dX8_feelOne_163 ⟨Nat.le_of_ble_eq_true rfl, Nat.le_of_ble_eq_true rfl⟩) hS (fun q _ h => hFc q h) hFc (fun _ t H1 locs ht hvm hw hB hz1 hk1 hS => ?_)
    obtain ⟨hP1, hK1, hD1⟩ := hB
    rw [ht] at hP1
    obtain ⟨hP, hD⟩ := va_join (wr := [ar (ad 3) cA 20 gRkinds, ar (ad 4) cA 20 gRlates, ar (ad 19) cA 20 gSUbusy_145, ar (ad 20) cA 20 gSUfelt_145, ar (ad 21) cA 20 gSUlost_145, ar (ad 22) cA 20 gSUfirst_145]) (w1 := [oRow ad xRow_depth xRow_length xRow_people xRow_scarves xRow_main xRow_faultPlace, ar (ad 5) cA 20 gRhands, ar (ad 6) cA 20 gRslow, oSU ad xSU_sleeper u_2.1 xSU_unreached_145, ar (ad 18) cA 640 u_2.2]) hP hD [0, 3, 4, 5, 6] [1, 2, 7, 8, 9, 10] rfl rfl (by decide) (by decide) hk1 hFc hP1 hD1
    clear hPc hDc hFc hP1 hK1 hD1 hk1 hz1 hvm ht
    generalize H1 = H at hP hS ⊢
    have hP : va_P (dC, dI) vwCl [oRow ad xRow_depth xRow_length xRow_people xRow_scarves xRow_main xRow_faultPlace, ar (ad 3) cA 20 gRkinds, ar (ad 4) cA 20 gRlates, ar (ad 5) cA 20 gRhands, ar (ad 6) cA 20 gRslow, oSU ad xSU_sleeper u_2.1 xSU_unreached_145, ar (ad 18) cA 640 u_2.2, ar (ad 19) cA 20 gSUbusy_145, ar (ad 20) cA 20 gSUfelt_145, ar (ad 21) cA 20 gSUlost_145, ar (ad 22) cA 20 gSUfirst_145] H := hP.sub [6, 0, 1, 7, 8, 9, 10, 2, 3, 4, 5] rfl
    have hD : va_D A [oRow ad xRow_depth xRow_length xRow_people xRow_scarves xRow_main xRow_faultPlace, ar (ad 3) cA 20 gRkinds, ar (ad 4) cA 20 gRlates, ar (ad 5) cA 20 gRhands, ar (ad 6) cA 20 gRslow, oSU ad xSU_sleeper u_2.1 xSU_unreached_145, ar (ad 18) cA 640 u_2.2, ar (ad 19) cA 20 gSUbusy_145, ar (ad 20) cA 20 gSUfelt_145, ar (ad 21) cA 20 gSUlost_145, ar (ad 22) cA 20 gSUfirst_145] := hD.sub [6, 0, 1, 7, 8, 9, 10, 2, 3, 4, 5] (by decide) rfl
    refine lv_aload_n hx hb dX8_feelOne_166 rfl (lv_at hl 1 rfl) ?_
    refine va_get (D := (dC, dI)) (ci := 8) (v := .ref (ad 19)) (C := RX8) (T := TX8) (N := 10) hx hb hts hinX8 hown hK hP 5 rfl rfl 3 (by decide) hl_23 (fun _ h9 => h9) rfl dX8_feelOne_167 ?_
    refine lv_iload_n hx hb dX8_feelOne_170 rfl (lv_at hl 2 rfl) ?_
    refine lv_iload_n hx hb dX8_feelOne_171 rfl (lv_at hl 3 rfl) ?_
    refine lv_iload hx hb dX8_feelOne_172 (lv_at hl 0 rfl) ?_
    refine lv_iadd hx hb dX8_feelOne_174 ?_
    obtain ⟨i_3, hm⟩ := ck_ok hm
    refine va_iast hx hb hK hP hD hS 7 0 rfl rfl i_3 dX8_feelOne_175 (fun H locs hP hD hS => ?_)
    have hP : va_P (dC, dI) vwCl [oRow ad xRow_depth xRow_length xRow_people xRow_scarves xRow_main xRow_faultPlace, ar (ad 3) cA 20 gRkinds, ar (ad 4) cA 20 gRlates, ar (ad 5) cA 20 gRhands, ar (ad 6) cA 20 gRslow, oSU ad xSU_sleeper u_2.1 xSU_unreached_145, ar (ad 18) cA 640 u_2.2, ar (ad 19) cA 20 (upd gSUbusy_145 v1_145.toNatClampNeg (v2_145 + (gRlates v1_145.toNatClampNeg))), ar (ad 20) cA 20 gSUfelt_145, ar (ad 21) cA 20 gSUlost_145, ar (ad 22) cA 20 gSUfirst_145] H := hP
    have hD : va_D A [oRow ad xRow_depth xRow_length xRow_people xRow_scarves xRow_main xRow_faultPlace, ar (ad 3) cA 20 gRkinds, ar (ad 4) cA 20 gRlates, ar (ad 5) cA 20 gRhands, ar (ad 6) cA 20 gRslow, oSU ad xSU_sleeper u_2.1 xSU_unreached_145, ar (ad 18) cA 640 u_2.2, ar (ad 19) cA 20 (upd gSUbusy_145 v1_145.toNatClampNeg (v2_145 + (gRlates v1_145.toNatClampNeg))), ar (ad 20) cA 20 gSUfelt_145, ar (ad 21) cA 20 gSUlost_145, ar (ad 22) cA 20 gSUfirst_145] := hD
    refine lv_iload hx hb dX8_feelOne_176 (lv_at hl 5 rfl) ?_
    refine lv_iconst (v := 1) hx hb dX8_feelOne_178 (by decide) ?_
    refine lv_icmp_ne (tgt := 206) hx hb dX8_feelOne_179 (by decide) (fun c_4 => ?_) (fun c_4 => ?_)
    · have hm := it_neg c_4 hm
      obtain rfl := Option.some.inj hm
      subst hQ
      exact W.vret hx hb hr (fun t ht hW => ⟨⟨(), rfl, trivial, by rw [ht]; exact hP, va_K.moved hW.alike hK, hAe ▸ hD⟩, hS.F ht⟩) hS.2.2 dX8_feelOne_206
    · have hm := it_pos c_4 hm
      refine lv_aload_n hx hb dX8_feelOne_182 rfl (lv_at hl 1 rfl) ?_
      refine lv_iload_n hx hb dX8_feelOne_183 rfl (lv_at hl 2 rfl) ?_
      refine lv_iload_n hx hb dX8_feelOne_184 rfl (lv_at hl 3 rfl) ?_
      refine lv_iconst (v := 2) hx hb dX8_feelOne_185 (by decide) ?_
      refine lv_iload hx hb dX8_feelOne_186 (lv_at hl 0 rfl) ?_
      refine lv_imul hx hb dX8_feelOne_188 ?_
      refine lv_iadd hx hb dX8_feelOne_189 ?_
      refine lv_iload_n hx hb dX8_feelOne_190 rfl (lv_at hl 4 rfl) ?_
      have hPc := hP.sub (ws' := [oRow ad xRow_depth xRow_length xRow_people xRow_scarves xRow_main xRow_faultPlace, ar (ad 5) cA 20 gRhands, ar (ad 6) cA 20 gRslow, oSU ad xSU_sleeper u_2.1 xSU_unreached_145, ar (ad 18) cA 640 u_2.2]) [0, 3, 4, 5, 6] rfl
      have hDc := hD.sub (ws' := [oRow ad xRow_depth xRow_length xRow_people xRow_scarves xRow_main xRow_faultPlace, ar (ad 5) cA 20 gRhands, ar (ad 6) cA 20 gRslow, oSU ad xSU_sleeper u_2.1 xSU_unreached_145, ar (ad 18) cA 640 u_2.2]) [0, 3, 4, 5, 6] (by decide) rfl
      have hFc := va_free (wc := [oRow ad xRow_depth xRow_length xRow_people xRow_scarves xRow_main xRow_faultPlace, ar (ad 5) cA 20 gRhands, ar (ad 6) cA 20 gRslow, oSU ad xSU_sleeper u_2.1 xSU_unreached_145, ar (ad 18) cA 640 u_2.2]) hD hS hA [0, 3, 4, 5, 6] rfl
      obtain ⟨u_5, hc_5, hm⟩ := bd_ok hm
      refine va_callv (va_runV (As := [.int v1_145, .int (v2_145 + (2 * (gRlates v1_145.toNatClampNeg))), .int v3_145]) (rest := []) ⟨hx, hb, hml, hown, hts⟩ (kS_passOn_U l dC dI cA ad H.size v1_145 (v2_145 + (2 * (gRlates v1_145.toNatClampNeg))) v3_145 xRow_depth xRow_length xRow_people xRow_scarves xRow_main xRow_faultPlace gRhands gRslow xSU_sleeper u_2.1 xSU_unreached_145 u_2.2 u_5 hc_5) (cwV 3 hts gX8_feelOne_X8_passOn rfl rfl rfl (by decide +kernel) ⟨Nat.le_of_ble_eq_true rfl, Nat.le_of_ble_eq_true rfl⟩) ⟨fun a U g mk q => by obtain ⟨q0, q1, qP, qK, qD⟩ := q; exact ⟨q0, q1, qP, va_K.moved (u := U) (U := U.calling g mk a) (Vm.Alike.refl U.vm) qK, qD⟩, va_recv hK hPc (ci := 8) (q0 := 3) rfl rfl, fun U hU hW => ⟨rfl, by rw [hU], by rw [hU]; exact hPc, va_K.moved hW.alike hK, hDc.weaken (fun _ _ _ _ => trivial)⟩⟩ rfl rfl hl.1 rfl (lv_room (Nat.le_of_ble_eq_true rfl)) dX8_feelOne_191 ⟨Nat.le_of_ble_eq_true rfl, Nat.le_of_ble_eq_true rfl⟩) hS (fun q _ h => hFc q h) hFc (fun _ t H1 locs ht hvm hw hB hz1 hk1 hS => ?_)
      obtain ⟨hP1, hK1, hD1⟩ := hB
      rw [ht] at hP1
      obtain ⟨hP, hD⟩ := va_join (wr := [ar (ad 3) cA 20 gRkinds, ar (ad 4) cA 20 gRlates, ar (ad 19) cA 20 (upd gSUbusy_145 v1_145.toNatClampNeg (v2_145 + (gRlates v1_145.toNatClampNeg))), ar (ad 20) cA 20 gSUfelt_145, ar (ad 21) cA 20 gSUlost_145, ar (ad 22) cA 20 gSUfirst_145]) (w1 := [oRow ad xRow_depth xRow_length xRow_people xRow_scarves xRow_main xRow_faultPlace, ar (ad 5) cA 20 gRhands, ar (ad 6) cA 20 gRslow, oSU ad xSU_sleeper u_5.1 xSU_unreached_145, ar (ad 18) cA 640 u_5.2]) hP hD [0, 3, 4, 5, 6] [1, 2, 7, 8, 9, 10] rfl rfl (by decide) (by decide) hk1 hFc hP1 hD1
      clear hPc hDc hFc hP1 hK1 hD1 hk1 hz1 hvm ht
      generalize H1 = H at hP hS ⊢
      have hP : va_P (dC, dI) vwCl [oRow ad xRow_depth xRow_length xRow_people xRow_scarves xRow_main xRow_faultPlace, ar (ad 3) cA 20 gRkinds, ar (ad 4) cA 20 gRlates, ar (ad 5) cA 20 gRhands, ar (ad 6) cA 20 gRslow, oSU ad xSU_sleeper u_5.1 xSU_unreached_145, ar (ad 18) cA 640 u_5.2, ar (ad 19) cA 20 (upd gSUbusy_145 v1_145.toNatClampNeg (v2_145 + (gRlates v1_145.toNatClampNeg))), ar (ad 20) cA 20 gSUfelt_145, ar (ad 21) cA 20 gSUlost_145, ar (ad 22) cA 20 gSUfirst_145] H := hP.sub [6, 0, 1, 7, 8, 9, 10, 2, 3, 4, 5] rfl
      have hD : va_D A [oRow ad xRow_depth xRow_length xRow_people xRow_scarves xRow_main xRow_faultPlace, ar (ad 3) cA 20 gRkinds, ar (ad 4) cA 20 gRlates, ar (ad 5) cA 20 gRhands, ar (ad 6) cA 20 gRslow, oSU ad xSU_sleeper u_5.1 xSU_unreached_145, ar (ad 18) cA 640 u_5.2, ar (ad 19) cA 20 (upd gSUbusy_145 v1_145.toNatClampNeg (v2_145 + (gRlates v1_145.toNatClampNeg))), ar (ad 20) cA 20 gSUfelt_145, ar (ad 21) cA 20 gSUlost_145, ar (ad 22) cA 20 gSUfirst_145] := hD.sub [6, 0, 1, 7, 8, 9, 10, 2, 3, 4, 5] (by decide) rfl
      refine lv_aload_n hx hb dX8_feelOne_194 rfl (lv_at hl 1 rfl) ?_
      refine va_get (D := (dC, dI)) (ci := 8) (v := .ref (ad 19)) (C := RX8) (T := TX8) (N := 10) hx hb hts hinX8 hown hK hP 5 rfl rfl 3 (by decide) hl_23 (fun _ h9 => h9) rfl dX8_feelOne_195 ?_
      refine lv_iload_n hx hb dX8_feelOne_198 rfl (lv_at hl 2 rfl) ?_
      refine lv_iload_n hx hb dX8_feelOne_199 rfl (lv_at hl 3 rfl) ?_
      refine lv_iconst (v := 2) hx hb dX8_feelOne_200 (by decide) ?_
      refine lv_iload hx hb dX8_feelOne_201 (lv_at hl 0 rfl) ?_
      refine lv_imul hx hb dX8_feelOne_203 ?_
      refine lv_iadd hx hb dX8_feelOne_204 ?_
      obtain ⟨i_6, hm⟩ := ck_ok hm
      refine va_iast hx hb hK hP hD hS 7 0 rfl rfl i_6 dX8_feelOne_205 (fun H locs hP hD hS => ?_)
      have hP : va_P (dC, dI) vwCl [oRow ad xRow_depth xRow_length xRow_people xRow_scarves xRow_main xRow_faultPlace, ar (ad 3) cA 20 gRkinds, ar (ad 4) cA 20 gRlates, ar (ad 5) cA 20 gRhands, ar (ad 6) cA 20 gRslow, oSU ad xSU_sleeper u_5.1 xSU_unreached_145, ar (ad 18) cA 640 u_5.2, ar (ad 19) cA 20 (upd (upd gSUbusy_145 v1_145.toNatClampNeg (v2_145 + (gRlates v1_145.toNatClampNeg))) v1_145.toNatClampNeg (v2_145 + (2 * (gRlates v1_145.toNatClampNeg)))), ar (ad 20) cA 20 gSUfelt_145, ar (ad 21) cA 20 gSUlost_145, ar (ad 22) cA 20 gSUfirst_145] H := hP
      have hD : va_D A [oRow ad xRow_depth xRow_length xRow_people xRow_scarves xRow_main xRow_faultPlace, ar (ad 3) cA 20 gRkinds, ar (ad 4) cA 20 gRlates, ar (ad 5) cA 20 gRhands, ar (ad 6) cA 20 gRslow, oSU ad xSU_sleeper u_5.1 xSU_unreached_145, ar (ad 18) cA 640 u_5.2, ar (ad 19) cA 20 (upd (upd gSUbusy_145 v1_145.toNatClampNeg (v2_145 + (gRlates v1_145.toNatClampNeg))) v1_145.toNatClampNeg (v2_145 + (2 * (gRlates v1_145.toNatClampNeg)))), ar (ad 20) cA 20 gSUfelt_145, ar (ad 21) cA 20 gSUlost_145, ar (ad 22) cA 20 gSUfirst_145] := hD
      obtain rfl := Option.some.inj hm
      subst hQ
      exact W.vret hx hb hr (fun t ht hW => ⟨⟨(), rfl, trivial, by rw [ht]; exact hP, va_K.moved hW.alike hK, hAe ▸ hD⟩, hS.F ht⟩) hS.2.2 dX8_feelOne_206
  have b_118 : ∀ (v1_118 : Int32) (v2_118 : Int32) (v3_118 : Int32) (s0_118 : Int32) (xSU_lastDue_118 : Int32) (xSU_unreached_118 : Int32) (gSUdue_118 : Nat → Int32) (gSUbusy_118 : Nat → Int32) (gSUfelt_118 : Nat → Int32) (gSUlost_118 : Nat → Int32) (gSUfirst_118 : Nat → Int32), fS_feelOne_U_118 v1_118 v2_118 v3_118 s0_118 xRow_people gRlates gRhands gRslow xSU_lastDue_118 xSU_unreached_118 gSUdue_118 gSUbusy_118 gSUfelt_118 gSUlost_118 gSUfirst_118 = some u → ∀ (H : Heap) (locs : List Loc), va_P (dC, dI) vwCl [oRow ad xRow_depth xRow_length xRow_people xRow_scarves xRow_main xRow_faultPlace, ar (ad 3) cA 20 gRkinds, ar (ad 4) cA 20 gRlates, ar (ad 5) cA 20 gRhands, ar (ad 6) cA 20 gRslow, oSU ad xSU_sleeper xSU_lastDue_118 xSU_unreached_118, ar (ad 18) cA 640 gSUdue_118, ar (ad 19) cA 20 gSUbusy_118, ar (ad 20) cA 20 gSUfelt_118, ar (ad 21) cA 20 gSUlost_118, ar (ad 22) cA 20 gSUfirst_118] H → va_D A [oRow ad xRow_depth xRow_length xRow_people xRow_scarves xRow_main xRow_faultPlace, ar (ad 3) cA 20 gRkinds, ar (ad 4) cA 20 gRlates, ar (ad 5) cA 20 gRhands, ar (ad 6) cA 20 gRslow, oSU ad xSU_sleeper xSU_lastDue_118 xSU_unreached_118, ar (ad 18) cA 640 gSUdue_118, ar (ad 19) cA 20 gSUbusy_118, ar (ad 20) cA 20 gSUfelt_118, ar (ad 21) cA 20 gSUlost_118, ar (ad 22) cA 20 gSUfirst_118] → va_S A s.heap H locs → ∀ ls : Array Slot, lv_has ls 7 [(0, .ref (ad 17)), (1, .int v1_118), (2, .int v2_118), (3, .int v3_118)] → W p l e (headSpec wsX8_feelOne ({ frames := 1, cells := 0, slots := 0, locals := 25 })).room s m ([.ref (ad 17), .int a1, .int a2, .int a3] : List Value).toArray below meth c H locs 0 0 QQ (F0 m 118 ls [.int s0_118]) := by
    intro v1_118 v2_118 v3_118 s0_118 xSU_lastDue_118 xSU_unreached_118 gSUdue_118 gSUbusy_118 gSUfelt_118 gSUlost_118 gSUfirst_118 hm H locs hP hD hS ls hl
    unfold fS_feelOne_U_118 at hm
    refine lv_istore (lv' := [(5, .int s0_118), (0, .ref (ad 17)), (1, .int v1_118), (2, .int v2_118), (3, .int v3_118)]) hx hb dX8_feelOne_118 hl (by decide) rfl (fun ls hl => ?_)
    refine lv_iload hx hb dX8_feelOne_120 (lv_at hl 0 rfl) ?_
    refine lv_iconst (v := 3) hx hb dX8_feelOne_122 (by decide) ?_
    refine lv_icmp_eq (tgt := 144) hx hb dX8_feelOne_123 (by decide) (fun c_7 => ?_) (fun c_7 => ?_)
    · have hm := it_pos c_7 hm
      obtain rfl := Option.some.inj hm
      subst hQ
      exact W.vret hx hb hr (fun t ht hW => ⟨⟨(), rfl, trivial, by rw [ht]; exact hP, va_K.moved hW.alike hK, hAe ▸ hD⟩, hS.F ht⟩) hS.2.2 dX8_feelOne_144
    · have hm := it_neg c_7 hm
      refine lv_iload hx hb dX8_feelOne_126 (lv_at hl 0 rfl) ?_
      refine lv_iconst (v := 2) hx hb dX8_feelOne_128 (by decide) ?_
      refine lv_icmp_ne (tgt := 145) hx hb dX8_feelOne_129 (by decide) (fun c_8 => ?_) (fun c_8 => ?_)
      · have hm := it_neg c_8 hm
        exact b_145 _ _ _ _ _ _ _ _ _ _ _ hm _ _ hP hD hS _ (lv_sub hl [1, 2, 3, 4, 0] rfl)
      · have hm := it_pos c_8 hm
        refine lv_aload_n hx hb dX8_feelOne_132 rfl (lv_at hl 1 rfl) ?_
        refine va_get (D := (dC, dI)) (ci := 8) (v := .ref (ad 20)) (C := RX8) (T := TX8) (N := 10) hx hb hts hinX8 hown hK hP 5 rfl rfl 4 (by decide) hl_26 (fun _ h9 => h9) rfl dX8_feelOne_133 ?_
        refine lv_iload_n hx hb dX8_feelOne_136 rfl (lv_at hl 2 rfl) ?_
        obtain ⟨i_9, hm⟩ := ck_ok hm
        refine va_iald hx hb hK hP 8 0 rfl rfl i_9 dX8_feelOne_137 ?_
        refine lv_iconst (v := 2) hx hb dX8_feelOne_138 (by decide) ?_
        refine lv_irem hx hb dX8_feelOne_139 (by decide) ?_
        refine lv_iconst (v := 1) hx hb dX8_feelOne_140 (by decide) ?_
        refine lv_icmp_ne (tgt := 145) hx hb dX8_feelOne_141 (by decide) (fun c_11 => ?_) (fun c_11 => ?_)
        · have hm := it_neg c_11 hm
          exact b_145 _ _ _ _ _ _ _ _ _ _ _ hm _ _ hP hD hS _ (lv_sub hl [1, 2, 3, 4, 0] rfl)
        · have hm := it_pos c_11 hm
          obtain rfl := Option.some.inj hm
          subst hQ
          exact W.vret hx hb hr (fun t ht hW => ⟨⟨(), rfl, trivial, by rw [ht]; exact hP, va_K.moved hW.alike hK, hAe ▸ hD⟩, hS.F ht⟩) hS.2.2 dX8_feelOne_144
  have b_97 : ∀ (v1_97 : Int32) (v2_97 : Int32) (v3_97 : Int32) (xSU_lastDue_97 : Int32) (xSU_unreached_97 : Int32) (gSUdue_97 : Nat → Int32) (gSUbusy_97 : Nat → Int32) (gSUfelt_97 : Nat → Int32) (gSUlost_97 : Nat → Int32) (gSUfirst_97 : Nat → Int32), fS_feelOne_U_97 v1_97 v2_97 v3_97 xRow_people gRkinds gRlates gRhands gRslow xSU_sleeper xSU_lastDue_97 xSU_unreached_97 gSUdue_97 gSUbusy_97 gSUfelt_97 gSUlost_97 gSUfirst_97 = some u → ∀ (H : Heap) (locs : List Loc), va_P (dC, dI) vwCl [oRow ad xRow_depth xRow_length xRow_people xRow_scarves xRow_main xRow_faultPlace, ar (ad 3) cA 20 gRkinds, ar (ad 4) cA 20 gRlates, ar (ad 5) cA 20 gRhands, ar (ad 6) cA 20 gRslow, oSU ad xSU_sleeper xSU_lastDue_97 xSU_unreached_97, ar (ad 18) cA 640 gSUdue_97, ar (ad 19) cA 20 gSUbusy_97, ar (ad 20) cA 20 gSUfelt_97, ar (ad 21) cA 20 gSUlost_97, ar (ad 22) cA 20 gSUfirst_97] H → va_D A [oRow ad xRow_depth xRow_length xRow_people xRow_scarves xRow_main xRow_faultPlace, ar (ad 3) cA 20 gRkinds, ar (ad 4) cA 20 gRlates, ar (ad 5) cA 20 gRhands, ar (ad 6) cA 20 gRslow, oSU ad xSU_sleeper xSU_lastDue_97 xSU_unreached_97, ar (ad 18) cA 640 gSUdue_97, ar (ad 19) cA 20 gSUbusy_97, ar (ad 20) cA 20 gSUfelt_97, ar (ad 21) cA 20 gSUlost_97, ar (ad 22) cA 20 gSUfirst_97] → va_S A s.heap H locs → ∀ ls : Array Slot, lv_has ls 7 [(0, .ref (ad 17)), (1, .int v1_97), (2, .int v2_97), (3, .int v3_97)] → W p l e (headSpec wsX8_feelOne ({ frames := 1, cells := 0, slots := 0, locals := 25 })).room s m ([.ref (ad 17), .int a1, .int a2, .int a3] : List Value).toArray below meth c H locs 0 0 QQ (F0 m 97 ls []) := by
    intro v1_97 v2_97 v3_97 xSU_lastDue_97 xSU_unreached_97 gSUdue_97 gSUbusy_97 gSUfelt_97 gSUlost_97 gSUfirst_97 hm H locs hP hD hS ls hl
    unfold fS_feelOne_U_97 at hm
    refine lv_iload_n hx hb dX8_feelOne_97 rfl (lv_at hl 1 rfl) ?_
    refine lv_aload_n hx hb dX8_feelOne_98 rfl (lv_at hl 0 rfl) ?_
    refine va_get (D := (dC, dI)) (ci := 8) (v := .int xSU_sleeper) (C := RX8) (T := TX8) (N := 10) hx hb hts hinX8 hown hK hP 5 rfl rfl 7 (by decide) hl_38 (fun _ h9 => h9) rfl dX8_feelOne_99 ?_
    refine lv_icmp_ne (tgt := 109) hx hb dX8_feelOne_102 (by decide) (fun c_12 => ?_) (fun c_12 => ?_)
    · have hm := it_neg c_12 hm
      refine lv_aload_n hx hb dX8_feelOne_109 rfl (lv_at hl 0 rfl) ?_
      refine va_get (D := (dC, dI)) (ci := 8) (v := .ref (ad 1)) (C := RX8) (T := TX8) (N := 10) hx hb hts hinX8 hown hK hP 5 rfl rfl 0 (by decide) hl_9 (fun _ h9 => h9) rfl dX8_feelOne_110 ?_
      refine va_get (D := (dC, dI)) (ci := 5) (v := .ref (ad 3)) (C := RX5) (T := TX5) (N := 13) hx hb hts hinX5 hown hK hP 0 rfl rfl 1 (by decide) hl_80 (fun _ h9 => h9) rfl dX8_feelOne_113 ?_
      refine lv_iload_n hx hb dX8_feelOne_116 rfl (lv_at hl 1 rfl) ?_
      obtain ⟨i_13, hm⟩ := ck_ok hm
      refine va_iald hx hb hK hP 1 0 rfl rfl i_13 dX8_feelOne_117 ?_
      exact b_118 _ _ _ _ _ _ _ _ _ _ _ hm _ _ hP hD hS _ (lv_sub hl [0, 1, 2, 3] rfl)
    · have hm := it_pos c_12 hm
      refine lv_iconst (v := 3) hx hb dX8_feelOne_105 (by decide) ?_
      refine lv_goto (tgt := 118) hx hb dX8_feelOne_106 (by decide) ?_
      exact b_118 _ _ _ _ _ _ _ _ _ _ _ hm _ _ hP hD hS _ (lv_sub hl [0, 1, 2, 3] rfl)
  have b_15 : ∀ (v1_15 : Int32) (v2_15 : Int32) (v3_15 : Int32) (s0_15 : Int32) (xSU_lastDue_15 : Int32) (xSU_unreached_15 : Int32) (gSUdue_15 : Nat → Int32) (gSUbusy_15 : Nat → Int32) (gSUfelt_15 : Nat → Int32) (gSUlost_15 : Nat → Int32) (gSUfirst_15 : Nat → Int32), fS_feelOne_U_15 v1_15 v2_15 v3_15 s0_15 xRow_people gRkinds gRlates gRhands gRslow xSU_sleeper xSU_lastDue_15 xSU_unreached_15 gSUdue_15 gSUbusy_15 gSUfelt_15 gSUlost_15 gSUfirst_15 = some u → ∀ (H : Heap) (locs : List Loc), va_P (dC, dI) vwCl [oRow ad xRow_depth xRow_length xRow_people xRow_scarves xRow_main xRow_faultPlace, ar (ad 3) cA 20 gRkinds, ar (ad 4) cA 20 gRlates, ar (ad 5) cA 20 gRhands, ar (ad 6) cA 20 gRslow, oSU ad xSU_sleeper xSU_lastDue_15 xSU_unreached_15, ar (ad 18) cA 640 gSUdue_15, ar (ad 19) cA 20 gSUbusy_15, ar (ad 20) cA 20 gSUfelt_15, ar (ad 21) cA 20 gSUlost_15, ar (ad 22) cA 20 gSUfirst_15] H → va_D A [oRow ad xRow_depth xRow_length xRow_people xRow_scarves xRow_main xRow_faultPlace, ar (ad 3) cA 20 gRkinds, ar (ad 4) cA 20 gRlates, ar (ad 5) cA 20 gRhands, ar (ad 6) cA 20 gRslow, oSU ad xSU_sleeper xSU_lastDue_15 xSU_unreached_15, ar (ad 18) cA 640 gSUdue_15, ar (ad 19) cA 20 gSUbusy_15, ar (ad 20) cA 20 gSUfelt_15, ar (ad 21) cA 20 gSUlost_15, ar (ad 22) cA 20 gSUfirst_15] → va_S A s.heap H locs → ∀ ls : Array Slot, lv_has ls 7 [(0, .ref (ad 17)), (1, .int v1_15), (2, .int v2_15), (3, .int v3_15)] → W p l e (headSpec wsX8_feelOne ({ frames := 1, cells := 0, slots := 0, locals := 25 })).room s m ([.ref (ad 17), .int a1, .int a2, .int a3] : List Value).toArray below meth c H locs 0 0 QQ (F0 m 15 ls [.int s0_15]) := by
    intro v1_15 v2_15 v3_15 s0_15 xSU_lastDue_15 xSU_unreached_15 gSUdue_15 gSUbusy_15 gSUfelt_15 gSUlost_15 gSUfirst_15 hm H locs hP hD hS ls hl
    unfold fS_feelOne_U_15 at hm
    refine lv_istore (lv' := [(4, .int s0_15), (0, .ref (ad 17)), (1, .int v1_15), (2, .int v2_15), (3, .int v3_15)]) hx hb dX8_feelOne_15 hl (by decide) rfl (fun ls hl => ?_)
    refine lv_aload_n hx hb dX8_feelOne_17 rfl (lv_at hl 1 rfl) ?_
    refine va_get (D := (dC, dI)) (ci := 8) (v := .null) (C := RX8) (T := TX8) (N := 10) hx hb hts hinX8 hown hK hP 5 rfl rfl 1 (by decide) hl_15 (fun _ h9 => h9) rfl dX8_feelOne_18 ?_
    refine lv_ifnullN (tgt := 44) hx hb dX8_feelOne_21 (by decide) ?_
    refine lv_iload hx hb dX8_feelOne_44 (lv_at hl 0 rfl) ?_
    refine lv_if_eq (tgt := 60) hx hb dX8_feelOne_46 (by decide) (fun c_14 => ?_) (fun c_14 => ?_)
    · have hm := it_pos c_14 hm
      refine lv_aload_n hx hb dX8_feelOne_60 rfl (lv_at hl 1 rfl) ?_
      refine va_get (D := (dC, dI)) (ci := 8) (v := .ref (ad 20)) (C := RX8) (T := TX8) (N := 10) hx hb hts hinX8 hown hK hP 5 rfl rfl 4 (by decide) hl_26 (fun _ h9 => h9) rfl dX8_feelOne_61 ?_
      refine lv_iload_n hx hb dX8_feelOne_64 rfl (lv_at hl 2 rfl) ?_
      refine lv_dup2_11 hx hb dX8_feelOne_65 rfl rfl ?_
      obtain ⟨i_15, hm⟩ := ck_ok hm
      refine va_iald hx hb hK hP 8 0 rfl rfl i_15 dX8_feelOne_66 ?_
      refine lv_iconst (v := 1) hx hb dX8_feelOne_67 (by decide) ?_
      refine lv_iadd hx hb dX8_feelOne_68 ?_
      obtain ⟨i_16, hm⟩ := ck_ok hm
      refine va_iast hx hb hK hP hD hS 8 0 rfl rfl i_16 dX8_feelOne_69 (fun H locs hP hD hS => ?_)
      have hP : va_P (dC, dI) vwCl [oRow ad xRow_depth xRow_length xRow_people xRow_scarves xRow_main xRow_faultPlace, ar (ad 3) cA 20 gRkinds, ar (ad 4) cA 20 gRlates, ar (ad 5) cA 20 gRhands, ar (ad 6) cA 20 gRslow, oSU ad xSU_sleeper xSU_lastDue_15 xSU_unreached_15, ar (ad 18) cA 640 gSUdue_15, ar (ad 19) cA 20 gSUbusy_15, ar (ad 20) cA 20 (upd gSUfelt_15 v1_15.toNatClampNeg ((gSUfelt_15 v1_15.toNatClampNeg) + 1)), ar (ad 21) cA 20 gSUlost_15, ar (ad 22) cA 20 gSUfirst_15] H := hP
      have hD : va_D A [oRow ad xRow_depth xRow_length xRow_people xRow_scarves xRow_main xRow_faultPlace, ar (ad 3) cA 20 gRkinds, ar (ad 4) cA 20 gRlates, ar (ad 5) cA 20 gRhands, ar (ad 6) cA 20 gRslow, oSU ad xSU_sleeper xSU_lastDue_15 xSU_unreached_15, ar (ad 18) cA 640 gSUdue_15, ar (ad 19) cA 20 gSUbusy_15, ar (ad 20) cA 20 (upd gSUfelt_15 v1_15.toNatClampNeg ((gSUfelt_15 v1_15.toNatClampNeg) + 1)), ar (ad 21) cA 20 gSUlost_15, ar (ad 22) cA 20 gSUfirst_15] := hD
      refine lv_aload_n hx hb dX8_feelOne_70 rfl (lv_at hl 1 rfl) ?_
      refine va_get (D := (dC, dI)) (ci := 8) (v := .ref (ad 22)) (C := RX8) (T := TX8) (N := 10) hx hb hts hinX8 hown hK hP 5 rfl rfl 6 (by decide) hl_32 (fun _ h9 => h9) rfl dX8_feelOne_71 ?_
      refine lv_iload_n hx hb dX8_feelOne_74 rfl (lv_at hl 2 rfl) ?_
      obtain ⟨i_17, hm⟩ := ck_ok hm
      refine va_iald hx hb hK hP 10 0 rfl rfl i_17 dX8_feelOne_75 ?_
      refine lv_iconst (v := (-1)) hx hb dX8_feelOne_76 (by decide) ?_
      refine lv_icmp_ne (tgt := 97) hx hb dX8_feelOne_77 (by decide) (fun c_18 => ?_) (fun c_18 => ?_)
      · have hm := it_neg c_18 hm
        exact b_97 _ _ _ _ _ _ _ _ _ _ hm _ _ hP hD hS _ (lv_sub hl [1, 2, 3, 4] rfl)
      · have hm := it_pos c_18 hm
        refine lv_aload_n hx hb dX8_feelOne_80 rfl (lv_at hl 1 rfl) ?_
        refine va_get (D := (dC, dI)) (ci := 8) (v := .ref (ad 22)) (C := RX8) (T := TX8) (N := 10) hx hb hts hinX8 hown hK hP 5 rfl rfl 6 (by decide) hl_32 (fun _ h9 => h9) rfl dX8_feelOne_81 ?_
        refine lv_iload_n hx hb dX8_feelOne_84 rfl (lv_at hl 2 rfl) ?_
        refine lv_iload_n hx hb dX8_feelOne_85 rfl (lv_at hl 3 rfl) ?_
        obtain ⟨i_19, hm⟩ := ck_ok hm
        refine va_iast hx hb hK hP hD hS 10 0 rfl rfl i_19 dX8_feelOne_86 (fun H locs hP hD hS => ?_)
        have hP : va_P (dC, dI) vwCl [oRow ad xRow_depth xRow_length xRow_people xRow_scarves xRow_main xRow_faultPlace, ar (ad 3) cA 20 gRkinds, ar (ad 4) cA 20 gRlates, ar (ad 5) cA 20 gRhands, ar (ad 6) cA 20 gRslow, oSU ad xSU_sleeper xSU_lastDue_15 xSU_unreached_15, ar (ad 18) cA 640 gSUdue_15, ar (ad 19) cA 20 gSUbusy_15, ar (ad 20) cA 20 (upd gSUfelt_15 v1_15.toNatClampNeg ((gSUfelt_15 v1_15.toNatClampNeg) + 1)), ar (ad 21) cA 20 gSUlost_15, ar (ad 22) cA 20 (upd gSUfirst_15 v1_15.toNatClampNeg v2_15)] H := hP
        have hD : va_D A [oRow ad xRow_depth xRow_length xRow_people xRow_scarves xRow_main xRow_faultPlace, ar (ad 3) cA 20 gRkinds, ar (ad 4) cA 20 gRlates, ar (ad 5) cA 20 gRhands, ar (ad 6) cA 20 gRslow, oSU ad xSU_sleeper xSU_lastDue_15 xSU_unreached_15, ar (ad 18) cA 640 gSUdue_15, ar (ad 19) cA 20 gSUbusy_15, ar (ad 20) cA 20 (upd gSUfelt_15 v1_15.toNatClampNeg ((gSUfelt_15 v1_15.toNatClampNeg) + 1)), ar (ad 21) cA 20 gSUlost_15, ar (ad 22) cA 20 (upd gSUfirst_15 v1_15.toNatClampNeg v2_15)] := hD
        refine lv_aload_n hx hb dX8_feelOne_87 rfl (lv_at hl 1 rfl) ?_
        refine lv_dup hx hb dX8_feelOne_88 rfl ?_
        refine va_get (D := (dC, dI)) (ci := 8) (v := .int xSU_unreached_15) (C := RX8) (T := TX8) (N := 10) hx hb hts hinX8 hown hK hP 5 rfl rfl 9 (by decide) hl_50 (fun _ h9 => h9) rfl dX8_feelOne_89 ?_
        refine lv_iconst (v := 1) hx hb dX8_feelOne_92 (by decide) ?_
        refine lv_isub hx hb dX8_feelOne_93 ?_
        refine va_put (D := (dC, dI)) (ci := 8) (v := .int (xSU_unreached_15 - 1)) (ty := .int) (C := RX8) (T := TX8) (N := 10) hx hb hts hinX8 tyX8 tyX8_ok nmX8 hown hK hP hD hS 5 rfl rfl 9 (by decide) hl_50 (fun _ h9 => h9) rfl (by decide +kernel) rfl rfl (Nat.le_of_ble_eq_true rfl) dX8_feelOne_94 (fun H locs hP hD hS => ?_)
        have hP : va_P (dC, dI) vwCl [oRow ad xRow_depth xRow_length xRow_people xRow_scarves xRow_main xRow_faultPlace, ar (ad 3) cA 20 gRkinds, ar (ad 4) cA 20 gRlates, ar (ad 5) cA 20 gRhands, ar (ad 6) cA 20 gRslow, oSU ad xSU_sleeper xSU_lastDue_15 (xSU_unreached_15 - 1), ar (ad 18) cA 640 gSUdue_15, ar (ad 19) cA 20 gSUbusy_15, ar (ad 20) cA 20 (upd gSUfelt_15 v1_15.toNatClampNeg ((gSUfelt_15 v1_15.toNatClampNeg) + 1)), ar (ad 21) cA 20 gSUlost_15, ar (ad 22) cA 20 (upd gSUfirst_15 v1_15.toNatClampNeg v2_15)] H := hP
        have hD : va_D A [oRow ad xRow_depth xRow_length xRow_people xRow_scarves xRow_main xRow_faultPlace, ar (ad 3) cA 20 gRkinds, ar (ad 4) cA 20 gRlates, ar (ad 5) cA 20 gRhands, ar (ad 6) cA 20 gRslow, oSU ad xSU_sleeper xSU_lastDue_15 (xSU_unreached_15 - 1), ar (ad 18) cA 640 gSUdue_15, ar (ad 19) cA 20 gSUbusy_15, ar (ad 20) cA 20 (upd gSUfelt_15 v1_15.toNatClampNeg ((gSUfelt_15 v1_15.toNatClampNeg) + 1)), ar (ad 21) cA 20 gSUlost_15, ar (ad 22) cA 20 (upd gSUfirst_15 v1_15.toNatClampNeg v2_15)] := hD
        exact b_97 _ _ _ _ _ _ _ _ _ _ hm _ _ hP hD hS _ (lv_sub hl [1, 2, 3, 4] rfl)
    · have hm := it_neg c_14 hm
      refine lv_aload_n hx hb dX8_feelOne_49 rfl (lv_at hl 1 rfl) ?_
      refine va_get (D := (dC, dI)) (ci := 8) (v := .ref (ad 21)) (C := RX8) (T := TX8) (N := 10) hx hb hts hinX8 hown hK hP 5 rfl rfl 5 (by decide) hl_29 (fun _ h9 => h9) rfl dX8_feelOne_50 ?_
      refine lv_iload_n hx hb dX8_feelOne_53 rfl (lv_at hl 2 rfl) ?_
      refine lv_dup2_11 hx hb dX8_feelOne_54 rfl rfl ?_
      obtain ⟨i_20, hm⟩ := ck_ok hm
      refine va_iald hx hb hK hP 9 0 rfl rfl i_20 dX8_feelOne_55 ?_
      refine lv_iconst (v := 1) hx hb dX8_feelOne_56 (by decide) ?_
      refine lv_iadd hx hb dX8_feelOne_57 ?_
      obtain ⟨i_21, hm⟩ := ck_ok hm
      refine va_iast hx hb hK hP hD hS 9 0 rfl rfl i_21 dX8_feelOne_58 (fun H locs hP hD hS => ?_)
      have hP : va_P (dC, dI) vwCl [oRow ad xRow_depth xRow_length xRow_people xRow_scarves xRow_main xRow_faultPlace, ar (ad 3) cA 20 gRkinds, ar (ad 4) cA 20 gRlates, ar (ad 5) cA 20 gRhands, ar (ad 6) cA 20 gRslow, oSU ad xSU_sleeper xSU_lastDue_15 xSU_unreached_15, ar (ad 18) cA 640 gSUdue_15, ar (ad 19) cA 20 gSUbusy_15, ar (ad 20) cA 20 gSUfelt_15, ar (ad 21) cA 20 (upd gSUlost_15 v1_15.toNatClampNeg ((gSUlost_15 v1_15.toNatClampNeg) + 1)), ar (ad 22) cA 20 gSUfirst_15] H := hP
      have hD : va_D A [oRow ad xRow_depth xRow_length xRow_people xRow_scarves xRow_main xRow_faultPlace, ar (ad 3) cA 20 gRkinds, ar (ad 4) cA 20 gRlates, ar (ad 5) cA 20 gRhands, ar (ad 6) cA 20 gRslow, oSU ad xSU_sleeper xSU_lastDue_15 xSU_unreached_15, ar (ad 18) cA 640 gSUdue_15, ar (ad 19) cA 20 gSUbusy_15, ar (ad 20) cA 20 gSUfelt_15, ar (ad 21) cA 20 (upd gSUlost_15 v1_15.toNatClampNeg ((gSUlost_15 v1_15.toNatClampNeg) + 1)), ar (ad 22) cA 20 gSUfirst_15] := hD
      obtain rfl := Option.some.inj hm
      subst hQ
      exact W.vret hx hb hr (fun t ht hW => ⟨⟨(), rfl, trivial, by rw [ht]; exact hP, va_K.moved hW.alike hK, hAe ▸ hD⟩, hS.F ht⟩) hS.2.2 dX8_feelOne_59
  unfold fS_feelOne_U at hm
  refine lv_iload_n hx hb dX8_feelOne_0 rfl (lv_at hl 2 rfl) ?_
  refine lv_aload_n hx hb dX8_feelOne_1 rfl (lv_at hl 0 rfl) ?_
  refine va_get (D := (dC, dI)) (ci := 8) (v := .ref (ad 19)) (C := RX8) (T := TX8) (N := 10) hx hb hts hinX8 hown hK hP 5 rfl rfl 3 (by decide) hl_23 (fun _ h9 => h9) rfl dX8_feelOne_2 ?_
  refine lv_iload_n hx hb dX8_feelOne_5 rfl (lv_at hl 1 rfl) ?_
  obtain ⟨i_22, hm⟩ := ck_ok hm
  refine va_iald hx hb hK hP 7 0 rfl rfl i_22 dX8_feelOne_6 ?_
  refine lv_icmp_ge (tgt := 14) hx hb dX8_feelOne_7 (by decide) (fun c_23 => ?_) (fun c_23 => ?_)
  · have hm := it_pos c_23 hm
    refine lv_iconst (v := 0) hx hb dX8_feelOne_14 (by decide) ?_
    exact b_15 _ _ _ _ _ _ _ _ _ _ _ hm _ _ hP hD hS _ (lv_sub hl [0, 1, 2, 3] rfl)
  · have hm := it_neg c_23 hm
    refine lv_iconst (v := 1) hx hb dX8_feelOne_10 (by decide) ?_
    refine lv_goto (tgt := 15) hx hb dX8_feelOne_11 (by decide) ?_
    exact b_15 _ _ _ _ _ _ _ _ _ _ _ hm _ _ hP hD hS _ (lv_sub hl [0, 1, 2, 3] rfl)

set_option maxHeartbeats 4000000 in
set_option maxRecDepth 100000 in
theorem kS_feelAll_U (l : Launch) (dC : Nat → ClassId) (dI : Nat → Nat → Nat) (cA : ClassId) (ad : Nat → Nat) (sz : Nat) (a1 : Int32) (a2 : Int32) (xRow_depth : Int32) (xRow_length : Int32) (xRow_people : Int32) (xRow_scarves : Int32) (xRow_main : Int32) (xRow_faultPlace : Int32) (gRkinds : Nat → Int32) (gRlates : Nat → Int32) (gRhands : Nat → Int32) (gRslow : Nat → Int32) (xSU_sleeper : Int32) (xSU_lastDue : Int32) (xSU_unreached : Int32) (gSUdue : Nat → Int32) (gSUbusy : Nat → Int32) (gSUfelt : Nat → Int32) (gSUlost : Nat → Int32) (gSUfirst : Nat → Int32) (u : Int32 × Int32 × (Nat → Int32) × (Nat → Int32) × (Nat → Int32) × (Nat → Int32) × (Nat → Int32)) (hm : fS_feelAll_U a1 a2 xRow_people gRkinds gRlates gRhands gRslow xSU_sleeper xSU_lastDue xSU_unreached gSUdue gSUbusy gSUfelt gSUlost gSUfirst = some u) : Met l yX8_feelAll wsX8_feelAll ({ frames := 2, cells := 0, slots := 0, locals := 51 }) (va_Pc [.ref (ad 17), .int a1, .int a2] (fun U => U.heap.size = sz ∧ va_P (dC, dI) vwCl [oRow ad xRow_depth xRow_length xRow_people xRow_scarves xRow_main xRow_faultPlace, ar (ad 3) cA 20 gRkinds, ar (ad 4) cA 20 gRlates, ar (ad 5) cA 20 gRhands, ar (ad 6) cA 20 gRslow, oSU ad xSU_sleeper xSU_lastDue xSU_unreached, ar (ad 18) cA 640 gSUdue, ar (ad 19) cA 20 gSUbusy, ar (ad 20) cA 20 gSUfelt, ar (ad 21) cA 20 gSUlost, ar (ad 22) cA 20 gSUfirst] U.heap ∧ va_K (dC, dI) vwCl [(cA, .int)] U ∧ va_D (fun _ => True) [oRow ad xRow_depth xRow_length xRow_people xRow_scarves xRow_main xRow_faultPlace, ar (ad 3) cA 20 gRkinds, ar (ad 4) cA 20 gRlates, ar (ad 5) cA 20 gRhands, ar (ad 6) cA 20 gRslow, oSU ad xSU_sleeper xSU_lastDue xSU_unreached, ar (ad 18) cA 640 gSUdue, ar (ad 19) cA 20 gSUbusy, ar (ad 20) cA 20 gSUfelt, ar (ad 21) cA 20 gSUlost, ar (ad 22) cA 20 gSUfirst])) (va_Qv (fun (_ : Unit) => True) (fun (_ : Unit) t => va_P (dC, dI) vwCl [oRow ad xRow_depth xRow_length xRow_people xRow_scarves xRow_main xRow_faultPlace, ar (ad 3) cA 20 gRkinds, ar (ad 4) cA 20 gRlates, ar (ad 5) cA 20 gRhands, ar (ad 6) cA 20 gRslow, oSU ad xSU_sleeper u.1 u.2.1, ar (ad 18) cA 640 u.2.2.1, ar (ad 19) cA 20 u.2.2.2.1, ar (ad 20) cA 20 u.2.2.2.2.1, ar (ad 21) cA 20 u.2.2.2.2.2.1, ar (ad 22) cA 20 u.2.2.2.2.2.2] t.heap ∧ va_K (dC, dI) vwCl [(cA, .int)] t ∧ va_D (va_A [oRow ad xRow_depth xRow_length xRow_people xRow_scarves xRow_main xRow_faultPlace, ar (ad 3) cA 20 gRkinds, ar (ad 4) cA 20 gRlates, ar (ad 5) cA 20 gRhands, ar (ad 6) cA 20 gRslow, oSU ad xSU_sleeper xSU_lastDue xSU_unreached, ar (ad 18) cA 640 gSUdue, ar (ad 19) cA 20 gSUbusy, ar (ad 20) cA 20 gSUfelt, ar (ad 21) cA 20 gSUlost, ar (ad 22) cA 20 gSUfirst] sz) [oRow ad xRow_depth xRow_length xRow_people xRow_scarves xRow_main xRow_faultPlace, ar (ad 3) cA 20 gRkinds, ar (ad 4) cA 20 gRlates, ar (ad 5) cA 20 gRhands, ar (ad 6) cA 20 gRslow, oSU ad xSU_sleeper u.1 u.2.1, ar (ad 18) cA 640 u.2.2.1, ar (ad 19) cA 20 u.2.2.2.1, ar (ad 20) cA 20 u.2.2.2.2.1, ar (ad 21) cA 20 u.2.2.2.2.2.1, ar (ad 22) cA 20 u.2.2.2.2.2.2]) (va_A [oRow ad xRow_depth xRow_length xRow_people xRow_scarves xRow_main xRow_faultPlace, ar (ad 3) cA 20 gRkinds, ar (ad 4) cA 20 gRlates, ar (ad 5) cA 20 gRhands, ar (ad 6) cA 20 gRslow, oSU ad xSU_sleeper xSU_lastDue xSU_unreached, ar (ad 18) cA 640 gSUdue, ar (ad 19) cA 20 gSUbusy, ar (ad 20) cA 20 gSUfelt, ar (ad 21) cA 20 gSUlost, ar (ad 22) cA 20 gSUfirst] sz)) 0 0 (va_A [oRow ad xRow_depth xRow_length xRow_people xRow_scarves xRow_main xRow_faultPlace, ar (ad 3) cA 20 gRkinds, ar (ad 4) cA 20 gRlates, ar (ad 5) cA 20 gRhands, ar (ad 6) cA 20 gRslow, oSU ad xSU_sleeper xSU_lastDue xSU_unreached, ar (ad 18) cA 640 gSUdue, ar (ad 19) cA 20 gSUbusy, ar (ad 20) cA 20 gSUfelt, ar (ad 21) cA 20 gSUlost, ar (ad 22) cA 20 gSUfirst] sz) := by
  refine Met.ofW (cc := cX8_feelAll) (maxL := 6) (ret := none) (by decide) rfl ?_
  intro p e s m args below meth c s₁ B hml hv
  obtain ⟨rfl, hsz, hP, hK, hD0⟩ := hv
  have hx := B.exec
  have hb := B.bytes
  have hr := B.returns
  have hts := atoms_spec (ws := wsX8_feelAll) B.pre
  have hown : s.vm.findClass RX8 = some m.cls := findClass_of_methodNamed B.named
  have hlocks := B.notSynchronized
  subst hsz
  have hD := hD0.self (sz := s.heap.size)
  generalize hAe : va_A [oRow ad xRow_depth xRow_length xRow_people xRow_scarves xRow_main xRow_faultPlace, ar (ad 3) cA 20 gRkinds, ar (ad 4) cA 20 gRlates, ar (ad 5) cA 20 gRhands, ar (ad 6) cA 20 gRslow, oSU ad xSU_sleeper xSU_lastDue xSU_unreached, ar (ad 18) cA 640 gSUdue, ar (ad 19) cA 20 gSUbusy, ar (ad 20) cA 20 gSUfelt, ar (ad 21) cA 20 gSUlost, ar (ad 22) cA 20 gSUfirst] s.heap.size = A at hD ⊢
  have hA : ∀ q : Nat, s.heap.size ≤ q → A q := fun q h => by rw [← hAe]; exact Or.inr h
  have hS : va_S A s.heap s.heap [] := va_S.rf
  have hl := lv_entry ([.ref (ad 17), .int a1, .int a2]) (n := 6) (Nat.le_of_ble_eq_true rfl)
  rw [lg_entry_eq]
  generalize (lg_sl ([.ref (ad 17), .int a1, .int a2]) ++ List.replicate (6 - (lg_sl ([.ref (ad 17), .int a1, .int a2])).length) Slot.unset).toArray = ls at hl ⊢
  have hl : lv_has ls 6 [(0, .ref (ad 17)), (1, .int a1), (2, .int a2)] := hl
  refine wk_Q (fun QQ hQ => ?_)
  have hinX8 : ∀ w ∈ wsX80, w ∈ wsX8_feelAll := fun w h => List.mem_cons_of_mem _ (inlX8 w h)
  have hl_9 := hts (.fieldLink RX8 9 "HandCensus$Squeeze" "row" "LHandCensus$Row;") (List.mem_cons_of_mem _ (in_r4 _ (List.mem_of_getElem? (i := 2) rfl)))
  have hinX5 : ∀ w ∈ wsX50, w ∈ wsX8_feelAll := fun w h => List.mem_cons_of_mem _ (inlX5 w h)
  have hl_42 := hts (.fieldLink RX8 42 "HandCensus$Row" "people" "I") (List.mem_cons_of_mem _ (in_r14 _ (List.mem_of_getElem? (i := 19) rfl)))
  have hl_19 := hts (.fieldLink RX8 19 "HandCensus$Squeeze" "due" "[I") (List.mem_cons_of_mem _ (in_r4 _ (List.mem_of_getElem? (i := 4) rfl)))
  have h_2 : ∀ (v1_2 : Int32) (v2_2 : Int32), ∀ (n_2 : Nat), ∀ (v3_2 : Int32) (xSU_lastDue_2 : Int32) (xSU_unreached_2 : Int32) (gSUdue_2 : Nat → Int32) (gSUbusy_2 : Nat → Int32) (gSUfelt_2 : Nat → Int32) (gSUlost_2 : Nat → Int32) (gSUfirst_2 : Nat → Int32), fS_feelAll_U_2 v1_2 v2_2 xRow_people gRkinds gRlates gRhands gRslow xSU_sleeper n_2 v3_2 xSU_lastDue_2 xSU_unreached_2 gSUdue_2 gSUbusy_2 gSUfelt_2 gSUlost_2 gSUfirst_2 = some u → ∀ (H : Heap) (locs : List Loc), va_P (dC, dI) vwCl [oRow ad xRow_depth xRow_length xRow_people xRow_scarves xRow_main xRow_faultPlace, ar (ad 3) cA 20 gRkinds, ar (ad 4) cA 20 gRlates, ar (ad 5) cA 20 gRhands, ar (ad 6) cA 20 gRslow, oSU ad xSU_sleeper xSU_lastDue_2 xSU_unreached_2, ar (ad 18) cA 640 gSUdue_2, ar (ad 19) cA 20 gSUbusy_2, ar (ad 20) cA 20 gSUfelt_2, ar (ad 21) cA 20 gSUlost_2, ar (ad 22) cA 20 gSUfirst_2] H → va_D A [oRow ad xRow_depth xRow_length xRow_people xRow_scarves xRow_main xRow_faultPlace, ar (ad 3) cA 20 gRkinds, ar (ad 4) cA 20 gRlates, ar (ad 5) cA 20 gRhands, ar (ad 6) cA 20 gRslow, oSU ad xSU_sleeper xSU_lastDue_2 xSU_unreached_2, ar (ad 18) cA 640 gSUdue_2, ar (ad 19) cA 20 gSUbusy_2, ar (ad 20) cA 20 gSUfelt_2, ar (ad 21) cA 20 gSUlost_2, ar (ad 22) cA 20 gSUfirst_2] → va_S A s.heap H locs → ∀ ls : Array Slot, lv_has ls 6 [(0, .ref (ad 17)), (1, .int v1_2), (2, .int v2_2), (3, .int v3_2)] → W p l e (headSpec wsX8_feelAll ({ frames := 2, cells := 0, slots := 0, locals := 51 })).room s m ([.ref (ad 17), .int a1, .int a2] : List Value).toArray below meth c H locs 0 0 QQ (F0 m 2 ls []) := by
    intro v1_2 v2_2
    intro n_2
    induction n_2 with
    | zero => intro v3_2 xSU_lastDue_2 xSU_unreached_2 gSUdue_2 gSUbusy_2 gSUfelt_2 gSUlost_2 gSUfirst_2 hm; have hm : (none : Option (Int32 × Int32 × (Nat → Int32) × (Nat → Int32) × (Nat → Int32) × (Nat → Int32) × (Nat → Int32))) = some u := hm; cases hm
    | succ n_2 ih_2 =>
      have b_86 : ∀ (v3_86 : Int32) (xSU_lastDue_86 : Int32) (xSU_unreached_86 : Int32) (gSUdue_86 : Nat → Int32) (gSUbusy_86 : Nat → Int32) (gSUfelt_86 : Nat → Int32) (gSUlost_86 : Nat → Int32) (gSUfirst_86 : Nat → Int32), fS_feelAll_U_86 (fS_feelAll_U_2  v1_2 v2_2 xRow_people gRkinds gRlates gRhands gRslow xSU_sleeper n_2) v1_2 v2_2 v3_86 xRow_people gRkinds gRlates gRhands gRslow xSU_sleeper xSU_lastDue_86 xSU_unreached_86 gSUdue_86 gSUbusy_86 gSUfelt_86 gSUlost_86 gSUfirst_86 = some u → ∀ (H : Heap) (locs : List Loc), va_P (dC, dI) vwCl [oRow ad xRow_depth xRow_length xRow_people xRow_scarves xRow_main xRow_faultPlace, ar (ad 3) cA 20 gRkinds, ar (ad 4) cA 20 gRlates, ar (ad 5) cA 20 gRhands, ar (ad 6) cA 20 gRslow, oSU ad xSU_sleeper xSU_lastDue_86 xSU_unreached_86, ar (ad 18) cA 640 gSUdue_86, ar (ad 19) cA 20 gSUbusy_86, ar (ad 20) cA 20 gSUfelt_86, ar (ad 21) cA 20 gSUlost_86, ar (ad 22) cA 20 gSUfirst_86] H → va_D A [oRow ad xRow_depth xRow_length xRow_people xRow_scarves xRow_main xRow_faultPlace, ar (ad 3) cA 20 gRkinds, ar (ad 4) cA 20 gRlates, ar (ad 5) cA 20 gRhands, ar (ad 6) cA 20 gRslow, oSU ad xSU_sleeper xSU_lastDue_86 xSU_unreached_86, ar (ad 18) cA 640 gSUdue_86, ar (ad 19) cA 20 gSUbusy_86, ar (ad 20) cA 20 gSUfelt_86, ar (ad 21) cA 20 gSUlost_86, ar (ad 22) cA 20 gSUfirst_86] → va_S A s.heap H locs → ∀ ls : Array Slot, lv_has ls 6 [(0, .ref (ad 17)), (1, .int v1_2), (2, .int v2_2), (3, .int v3_86)] → W p l e (headSpec wsX8_feelAll ({ frames := 2, cells := 0, slots := 0, locals := 51 })).room s m ([.ref (ad 17), .int a1, .int a2] : List Value).toArray below meth c H locs 0 0 QQ (F0 m 86 ls []) := by
        intro v3_86 xSU_lastDue_86 xSU_unreached_86 gSUdue_86 gSUbusy_86 gSUfelt_86 gSUlost_86 gSUfirst_86 hm H locs hP hD hS ls hl
        unfold fS_feelAll_U_86 at hm
        refine lv_iinc (v := (v3_86 + 1)) (lv' := [(3, .int (v3_86 + 1)), (0, .ref (ad 17)), (1, .int v1_2), (2, .int v2_2)]) hx hb dX8_feelAll_86 hl (k := 3) rfl rfl (by decide) rfl (fun ls hl => ?_)
        refine lv_goto (tgt := 2) hx hb dX8_feelAll_89 (by decide) ?_
        exact ih_2 _ _ _ _ _ _ _ _ hm _ _ hP hD hS _ (lv_sub hl [1, 2, 3, 0] rfl)
      have h_35 : ∀ (v3_35 : Int32), ∀ (n_35 : Nat), ∀ (v4_35 : Int32) (v5_35 : Int32) (xSU_lastDue_35 : Int32) (xSU_unreached_35 : Int32) (gSUdue_35 : Nat → Int32) (gSUbusy_35 : Nat → Int32) (gSUfelt_35 : Nat → Int32) (gSUlost_35 : Nat → Int32) (gSUfirst_35 : Nat → Int32), fS_feelAll_U_35 (fS_feelAll_U_2  v1_2 v2_2 xRow_people gRkinds gRlates gRhands gRslow xSU_sleeper n_2) v1_2 v2_2 v3_35 xRow_people gRkinds gRlates gRhands gRslow xSU_sleeper n_35 v4_35 v5_35 xSU_lastDue_35 xSU_unreached_35 gSUdue_35 gSUbusy_35 gSUfelt_35 gSUlost_35 gSUfirst_35 = some u → ∀ (H : Heap) (locs : List Loc), va_P (dC, dI) vwCl [oRow ad xRow_depth xRow_length xRow_people xRow_scarves xRow_main xRow_faultPlace, ar (ad 3) cA 20 gRkinds, ar (ad 4) cA 20 gRlates, ar (ad 5) cA 20 gRhands, ar (ad 6) cA 20 gRslow, oSU ad xSU_sleeper xSU_lastDue_35 xSU_unreached_35, ar (ad 18) cA 640 gSUdue_35, ar (ad 19) cA 20 gSUbusy_35, ar (ad 20) cA 20 gSUfelt_35, ar (ad 21) cA 20 gSUlost_35, ar (ad 22) cA 20 gSUfirst_35] H → va_D A [oRow ad xRow_depth xRow_length xRow_people xRow_scarves xRow_main xRow_faultPlace, ar (ad 3) cA 20 gRkinds, ar (ad 4) cA 20 gRlates, ar (ad 5) cA 20 gRhands, ar (ad 6) cA 20 gRslow, oSU ad xSU_sleeper xSU_lastDue_35 xSU_unreached_35, ar (ad 18) cA 640 gSUdue_35, ar (ad 19) cA 20 gSUbusy_35, ar (ad 20) cA 20 gSUfelt_35, ar (ad 21) cA 20 gSUlost_35, ar (ad 22) cA 20 gSUfirst_35] → va_S A s.heap H locs → ∀ ls : Array Slot, lv_has ls 6 [(0, .ref (ad 17)), (1, .int v1_2), (2, .int v2_2), (3, .int v3_35), (4, .int v4_35), (5, .int v5_35)] → W p l e (headSpec wsX8_feelAll ({ frames := 2, cells := 0, slots := 0, locals := 51 })).room s m ([.ref (ad 17), .int a1, .int a2] : List Value).toArray below meth c H locs 0 0 QQ (F0 m 35 ls []) := by
        intro v3_35
        intro n_35
        induction n_35 with
        | zero => intro v4_35 v5_35 xSU_lastDue_35 xSU_unreached_35 gSUdue_35 gSUbusy_35 gSUfelt_35 gSUlost_35 gSUfirst_35 hm; have hm : (none : Option (Int32 × Int32 × (Nat → Int32) × (Nat → Int32) × (Nat → Int32) × (Nat → Int32) × (Nat → Int32))) = some u := hm; cases hm
        | succ n_35 ih_35 =>
          have b_74 : ∀ (v4_74 : Int32) (v5_74 : Int32) (xSU_lastDue_74 : Int32) (xSU_unreached_74 : Int32) (gSUdue_74 : Nat → Int32) (gSUbusy_74 : Nat → Int32) (gSUfelt_74 : Nat → Int32) (gSUlost_74 : Nat → Int32) (gSUfirst_74 : Nat → Int32), fS_feelAll_U_74 (fS_feelAll_U_2  v1_2 v2_2 xRow_people gRkinds gRlates gRhands gRslow xSU_sleeper n_2) (fS_feelAll_U_35 (fS_feelAll_U_2  v1_2 v2_2 xRow_people gRkinds gRlates gRhands gRslow xSU_sleeper n_2) v1_2 v2_2 v3_35 xRow_people gRkinds gRlates gRhands gRslow xSU_sleeper n_35) v1_2 v2_2 v3_35 v4_74 v5_74 xRow_people gRkinds gRlates gRhands gRslow xSU_sleeper xSU_lastDue_74 xSU_unreached_74 gSUdue_74 gSUbusy_74 gSUfelt_74 gSUlost_74 gSUfirst_74 = some u → ∀ (H : Heap) (locs : List Loc), va_P (dC, dI) vwCl [oRow ad xRow_depth xRow_length xRow_people xRow_scarves xRow_main xRow_faultPlace, ar (ad 3) cA 20 gRkinds, ar (ad 4) cA 20 gRlates, ar (ad 5) cA 20 gRhands, ar (ad 6) cA 20 gRslow, oSU ad xSU_sleeper xSU_lastDue_74 xSU_unreached_74, ar (ad 18) cA 640 gSUdue_74, ar (ad 19) cA 20 gSUbusy_74, ar (ad 20) cA 20 gSUfelt_74, ar (ad 21) cA 20 gSUlost_74, ar (ad 22) cA 20 gSUfirst_74] H → va_D A [oRow ad xRow_depth xRow_length xRow_people xRow_scarves xRow_main xRow_faultPlace, ar (ad 3) cA 20 gRkinds, ar (ad 4) cA 20 gRlates, ar (ad 5) cA 20 gRhands, ar (ad 6) cA 20 gRslow, oSU ad xSU_sleeper xSU_lastDue_74 xSU_unreached_74, ar (ad 18) cA 640 gSUdue_74, ar (ad 19) cA 20 gSUbusy_74, ar (ad 20) cA 20 gSUfelt_74, ar (ad 21) cA 20 gSUlost_74, ar (ad 22) cA 20 gSUfirst_74] → va_S A s.heap H locs → ∀ ls : Array Slot, lv_has ls 6 [(0, .ref (ad 17)), (1, .int v1_2), (2, .int v2_2), (3, .int v3_35), (4, .int v4_74), (5, .int v5_74)] → W p l e (headSpec wsX8_feelAll ({ frames := 2, cells := 0, slots := 0, locals := 51 })).room s m ([.ref (ad 17), .int a1, .int a2] : List Value).toArray below meth c H locs 0 0 QQ (F0 m 74 ls []) := by
            intro v4_74 v5_74 xSU_lastDue_74 xSU_unreached_74 gSUdue_74 gSUbusy_74 gSUfelt_74 gSUlost_74 gSUfirst_74 hm H locs hP hD hS ls hl
            unfold fS_feelAll_U_74 at hm
            refine lv_iload hx hb dX8_feelAll_74 (lv_at hl 4 rfl) ?_
            refine lv_iconst (v := 1) hx hb dX8_feelAll_76 (by decide) ?_
            refine lv_ishr hx hb dX8_feelAll_77 ?_
            refine lv_istore (lv' := [(4, .int (v4_74 >>> (1 &&& 31))), (0, .ref (ad 17)), (1, .int v1_2), (2, .int v2_2), (3, .int v3_35), (5, .int v5_74)]) hx hb dX8_feelAll_78 hl (by decide) rfl (fun ls hl => ?_)
            refine lv_iinc (v := (v5_74 + 1)) (lv' := [(5, .int (v5_74 + 1)), (4, .int (v4_74 >>> (1 &&& 31))), (0, .ref (ad 17)), (1, .int v1_2), (2, .int v2_2), (3, .int v3_35)]) hx hb dX8_feelAll_80 hl (k := 5) rfl rfl (by decide) rfl (fun ls hl => ?_)
            refine lv_goto (tgt := 35) hx hb dX8_feelAll_83 (by decide) ?_
            exact ih_35 _ _ _ _ _ _ _ _ _ hm _ _ hP hD hS _ (lv_sub hl [2, 3, 4, 5, 1, 0] rfl)
          have b_71 : ∀ (v4_71 : Int32) (v5_71 : Int32) (s1_71 : Int32) (s2_71 : Int32) (s3_71 : Int32) (xSU_lastDue_71 : Int32) (xSU_unreached_71 : Int32) (gSUdue_71 : Nat → Int32) (gSUbusy_71 : Nat → Int32) (gSUfelt_71 : Nat → Int32) (gSUlost_71 : Nat → Int32) (gSUfirst_71 : Nat → Int32), fS_feelAll_U_71 (fS_feelAll_U_2  v1_2 v2_2 xRow_people gRkinds gRlates gRhands gRslow xSU_sleeper n_2) (fS_feelAll_U_35 (fS_feelAll_U_2  v1_2 v2_2 xRow_people gRkinds gRlates gRhands gRslow xSU_sleeper n_2) v1_2 v2_2 v3_35 xRow_people gRkinds gRlates gRhands gRslow xSU_sleeper n_35) v1_2 v2_2 v3_35 v4_71 v5_71 s1_71 s2_71 s3_71 xRow_people gRkinds gRlates gRhands gRslow xSU_sleeper xSU_lastDue_71 xSU_unreached_71 gSUdue_71 gSUbusy_71 gSUfelt_71 gSUlost_71 gSUfirst_71 = some u → ∀ (H : Heap) (locs : List Loc), va_P (dC, dI) vwCl [oRow ad xRow_depth xRow_length xRow_people xRow_scarves xRow_main xRow_faultPlace, ar (ad 3) cA 20 gRkinds, ar (ad 4) cA 20 gRlates, ar (ad 5) cA 20 gRhands, ar (ad 6) cA 20 gRslow, oSU ad xSU_sleeper xSU_lastDue_71 xSU_unreached_71, ar (ad 18) cA 640 gSUdue_71, ar (ad 19) cA 20 gSUbusy_71, ar (ad 20) cA 20 gSUfelt_71, ar (ad 21) cA 20 gSUlost_71, ar (ad 22) cA 20 gSUfirst_71] H → va_D A [oRow ad xRow_depth xRow_length xRow_people xRow_scarves xRow_main xRow_faultPlace, ar (ad 3) cA 20 gRkinds, ar (ad 4) cA 20 gRlates, ar (ad 5) cA 20 gRhands, ar (ad 6) cA 20 gRslow, oSU ad xSU_sleeper xSU_lastDue_71 xSU_unreached_71, ar (ad 18) cA 640 gSUdue_71, ar (ad 19) cA 20 gSUbusy_71, ar (ad 20) cA 20 gSUfelt_71, ar (ad 21) cA 20 gSUlost_71, ar (ad 22) cA 20 gSUfirst_71] → va_S A s.heap H locs → ∀ ls : Array Slot, lv_has ls 6 [(0, .ref (ad 17)), (1, .int v1_2), (2, .int v2_2), (3, .int v3_35), (4, .int v4_71), (5, .int v5_71)] → W p l e (headSpec wsX8_feelAll ({ frames := 2, cells := 0, slots := 0, locals := 51 })).room s m ([.ref (ad 17), .int a1, .int a2] : List Value).toArray below meth c H locs 0 0 QQ (F0 m 71 ls [.int s3_71, .int s2_71, .int s1_71, .ref (ad 17)]) := by
            intro v4_71 v5_71 s1_71 s2_71 s3_71 xSU_lastDue_71 xSU_unreached_71 gSUdue_71 gSUbusy_71 gSUfelt_71 gSUlost_71 gSUfirst_71 hm H locs hP hD hS ls hl
            unfold fS_feelAll_U_71 at hm
            have hPc := hP.sub (ws' := [oRow ad xRow_depth xRow_length xRow_people xRow_scarves xRow_main xRow_faultPlace, ar (ad 3) cA 20 gRkinds, ar (ad 4) cA 20 gRlates, ar (ad 5) cA 20 gRhands, ar (ad 6) cA 20 gRslow, oSU ad xSU_sleeper xSU_lastDue_71 xSU_unreached_71, ar (ad 18) cA 640 gSUdue_71, ar (ad 19) cA 20 gSUbusy_71, ar (ad 20) cA 20 gSUfelt_71, ar (ad 21) cA 20 gSUlost_71, ar (ad 22) cA 20 gSUfirst_71]) [0, 1, 2, 3, 4, 5, 6, 7, 8, 9, 10] rfl
            have hDc := hD.sub (ws' := [oRow ad xRow_depth xRow_length xRow_people xRow_scarves xRow_main xRow_faultPlace, ar (ad 3) cA 20 gRkinds, ar (ad 4) cA 20 gRlates, ar (ad 5) cA 20 gRhands, ar (ad 6) cA 20 gRslow, oSU ad xSU_sleeper xSU_lastDue_71 xSU_unreached_71, ar (ad 18) cA 640 gSUdue_71, ar (ad 19) cA 20 gSUbusy_71, ar (ad 20) cA 20 gSUfelt_71, ar (ad 21) cA 20 gSUlost_71, ar (ad 22) cA 20 gSUfirst_71]) [0, 1, 2, 3, 4, 5, 6, 7, 8, 9, 10] (by decide) rfl
            have hFc := va_free (wc := [oRow ad xRow_depth xRow_length xRow_people xRow_scarves xRow_main xRow_faultPlace, ar (ad 3) cA 20 gRkinds, ar (ad 4) cA 20 gRlates, ar (ad 5) cA 20 gRhands, ar (ad 6) cA 20 gRslow, oSU ad xSU_sleeper xSU_lastDue_71 xSU_unreached_71, ar (ad 18) cA 640 gSUdue_71, ar (ad 19) cA 20 gSUbusy_71, ar (ad 20) cA 20 gSUfelt_71, ar (ad 21) cA 20 gSUlost_71, ar (ad 22) cA 20 gSUfirst_71]) hD hS hA [0, 1, 2, 3, 4, 5, 6, 7, 8, 9, 10] rfl
            obtain ⟨u_1, hc_1, hm⟩ := bd_ok hm
            refine va_callv (va_runV (As := [.int s1_71, .int s2_71, .int s3_71]) (rest := []) ⟨hx, hb, hml, hown, hts⟩ (kS_feelOne_U l dC dI cA ad H.size s1_71 s2_71 s3_71 xRow_depth xRow_length xRow_people xRow_scarves xRow_main xRow_faultPlace gRkinds gRlates gRhands gRslow xSU_sleeper xSU_lastDue_71 xSU_unreached_71 gSUdue_71 gSUbusy_71 gSUfelt_71 gSUlost_71 gSUfirst_71 u_1 hc_1) (cwV 3 hts gX8_feelAll_X8_feelOne rfl rfl rfl (by decide +kernel) ⟨Nat.le_of_ble_eq_true rfl, Nat.le_of_ble_eq_true rfl⟩) ⟨fun a U g mk q => by obtain ⟨q0, q1, qP, qK, qD⟩ := q; exact ⟨q0, q1, qP, va_K.moved (u := U) (U := U.calling g mk a) (Vm.Alike.refl U.vm) qK, qD⟩, va_recv hK hPc (ci := 8) (q0 := 5) rfl rfl, fun U hU hW => ⟨rfl, by rw [hU], by rw [hU]; exact hPc, va_K.moved hW.alike hK, hDc.weaken (fun _ _ _ _ => trivial)⟩⟩ rfl rfl hl.1 rfl (lv_room (Nat.le_of_ble_eq_true rfl)) dX8_feelAll_71 ⟨Nat.le_of_ble_eq_true rfl, Nat.le_of_ble_eq_true rfl⟩) hS (fun q _ h => hFc q h) hFc (fun _ t H1 locs ht hvm hw hB hz1 hk1 hS => ?_)
            obtain ⟨hP1, hK1, hD1⟩ := hB
            rw [ht] at hP1
            obtain ⟨hP, hD⟩ := va_join (wr := []) (w1 := [oRow ad xRow_depth xRow_length xRow_people xRow_scarves xRow_main xRow_faultPlace, ar (ad 3) cA 20 gRkinds, ar (ad 4) cA 20 gRlates, ar (ad 5) cA 20 gRhands, ar (ad 6) cA 20 gRslow, oSU ad xSU_sleeper u_1.1 u_1.2.1, ar (ad 18) cA 640 u_1.2.2.1, ar (ad 19) cA 20 u_1.2.2.2.1, ar (ad 20) cA 20 u_1.2.2.2.2.1, ar (ad 21) cA 20 u_1.2.2.2.2.2.1, ar (ad 22) cA 20 u_1.2.2.2.2.2.2]) hP hD [0, 1, 2, 3, 4, 5, 6, 7, 8, 9, 10] [] rfl rfl (by decide) (by decide) hk1 hFc hP1 hD1
            clear hPc hDc hFc hP1 hK1 hD1 hk1 hz1 hvm ht
            generalize H1 = H at hP hS ⊢
            have hP : va_P (dC, dI) vwCl [oRow ad xRow_depth xRow_length xRow_people xRow_scarves xRow_main xRow_faultPlace, ar (ad 3) cA 20 gRkinds, ar (ad 4) cA 20 gRlates, ar (ad 5) cA 20 gRhands, ar (ad 6) cA 20 gRslow, oSU ad xSU_sleeper u_1.1 u_1.2.1, ar (ad 18) cA 640 u_1.2.2.1, ar (ad 19) cA 20 u_1.2.2.2.1, ar (ad 20) cA 20 u_1.2.2.2.2.1, ar (ad 21) cA 20 u_1.2.2.2.2.2.1, ar (ad 22) cA 20 u_1.2.2.2.2.2.2] H := hP
            have hD : va_D A [oRow ad xRow_depth xRow_length xRow_people xRow_scarves xRow_main xRow_faultPlace, ar (ad 3) cA 20 gRkinds, ar (ad 4) cA 20 gRlates, ar (ad 5) cA 20 gRhands, ar (ad 6) cA 20 gRslow, oSU ad xSU_sleeper u_1.1 u_1.2.1, ar (ad 18) cA 640 u_1.2.2.1, ar (ad 19) cA 20 u_1.2.2.2.1, ar (ad 20) cA 20 u_1.2.2.2.2.1, ar (ad 21) cA 20 u_1.2.2.2.2.2.1, ar (ad 22) cA 20 u_1.2.2.2.2.2.2] := hD
            exact b_74 _ _ _ _ _ _ _ _ _ hm _ _ hP hD hS _ (lv_sub hl [0, 1, 2, 3, 4, 5] rfl)
          intro v4_35 v5_35 xSU_lastDue_35 xSU_unreached_35 gSUdue_35 gSUbusy_35 gSUfelt_35 gSUlost_35 gSUfirst_35 hm H locs hP hD hS ls hl
          have hm : fS_feelAll_U_35_b (fS_feelAll_U_2  v1_2 v2_2 xRow_people gRkinds gRlates gRhands gRslow xSU_sleeper n_2) (fS_feelAll_U_35 (fS_feelAll_U_2  v1_2 v2_2 xRow_people gRkinds gRlates gRhands gRslow xSU_sleeper n_2) v1_2 v2_2 v3_35 xRow_people gRkinds gRlates gRhands gRslow xSU_sleeper n_35) v1_2 v2_2 v3_35 xRow_people gRkinds gRlates gRhands gRslow xSU_sleeper v4_35 v5_35 xSU_lastDue_35 xSU_unreached_35 gSUdue_35 gSUbusy_35 gSUfelt_35 gSUlost_35 gSUfirst_35 = some u := hm
          unfold fS_feelAll_U_35_b at hm
          refine lv_iload hx hb dX8_feelAll_35 (lv_at hl 4 rfl) ?_
          refine lv_if_eq (tgt := 86) hx hb dX8_feelAll_37 (by decide) (fun c_2 => ?_) (fun c_2 => ?_)
          · have hm := it_pos c_2 hm
            exact b_86 _ _ _ _ _ _ _ _ hm _ _ hP hD hS _ (lv_sub hl [0, 1, 2, 3] rfl)
          · have hm := it_neg c_2 hm
            refine lv_iload hx hb dX8_feelAll_40 (lv_at hl 5 rfl) ?_
            refine lv_bipush (v := 22) hx hb dX8_feelAll_42 (by decide) ?_
            refine lv_icmp_ge (tgt := 86) hx hb dX8_feelAll_44 (by decide) (fun c_3 => ?_) (fun c_3 => ?_)
            · have hm := it_pos c_3 hm
              exact b_86 _ _ _ _ _ _ _ _ hm _ _ hP hD hS _ (lv_sub hl [0, 1, 2, 3] rfl)
            · have hm := it_neg c_3 hm
              refine lv_iload hx hb dX8_feelAll_47 (lv_at hl 4 rfl) ?_
              refine lv_iconst (v := 1) hx hb dX8_feelAll_49 (by decide) ?_
              refine lv_iand hx hb dX8_feelAll_50 ?_
              refine lv_if_eq (tgt := 74) hx hb dX8_feelAll_51 (by decide) (fun c_4 => ?_) (fun c_4 => ?_)
              · have hm := it_pos c_4 hm
                exact b_74 _ _ _ _ _ _ _ _ _ hm _ _ hP hD hS _ (lv_sub hl [0, 1, 2, 3, 4, 5] rfl)
              · have hm := it_neg c_4 hm
                refine lv_aload_n hx hb dX8_feelAll_54 rfl (lv_at hl 0 rfl) ?_
                refine lv_iload_n hx hb dX8_feelAll_55 rfl (lv_at hl 3 rfl) ?_
                refine lv_iload_n hx hb dX8_feelAll_56 rfl (lv_at hl 1 rfl) ?_
                refine lv_iload hx hb dX8_feelAll_57 (lv_at hl 5 rfl) ?_
                refine lv_iconst (v := 2) hx hb dX8_feelAll_59 (by decide) ?_
                refine lv_icmp_ge (tgt := 67) hx hb dX8_feelAll_60 (by decide) (fun c_5 => ?_) (fun c_5 => ?_)
                · have hm := it_pos c_5 hm
                  refine lv_iload hx hb dX8_feelAll_67 (lv_at hl 5 rfl) ?_
                  refine lv_iconst (v := 2) hx hb dX8_feelAll_69 (by decide) ?_
                  refine lv_isub hx hb dX8_feelAll_70 ?_
                  exact b_71 _ _ _ _ _ _ _ _ _ _ _ _ hm _ _ hP hD hS _ (lv_sub hl [0, 1, 2, 3, 4, 5] rfl)
                · have hm := it_neg c_5 hm
                  refine lv_iconst (v := (-1)) hx hb dX8_feelAll_63 (by decide) ?_
                  refine lv_goto (tgt := 71) hx hb dX8_feelAll_64 (by decide) ?_
                  exact b_71 _ _ _ _ _ _ _ _ _ _ _ _ hm _ _ hP hD hS _ (lv_sub hl [0, 1, 2, 3, 4, 5] rfl)
      intro v3_2 xSU_lastDue_2 xSU_unreached_2 gSUdue_2 gSUbusy_2 gSUfelt_2 gSUlost_2 gSUfirst_2 hm H locs hP hD hS ls hl
      have hm : fS_feelAll_U_2_b  (fS_feelAll_U_2  v1_2 v2_2 xRow_people gRkinds gRlates gRhands gRslow xSU_sleeper n_2) v1_2 v2_2 xRow_people gRkinds gRlates gRhands gRslow xSU_sleeper v3_2 xSU_lastDue_2 xSU_unreached_2 gSUdue_2 gSUbusy_2 gSUfelt_2 gSUlost_2 gSUfirst_2 = some u := hm
      unfold fS_feelAll_U_2_b at hm
      refine lv_iload_n hx hb dX8_feelAll_2 rfl (lv_at hl 3 rfl) ?_
      refine lv_aload_n hx hb dX8_feelAll_3 rfl (lv_at hl 0 rfl) ?_
      refine va_get (D := (dC, dI)) (ci := 8) (v := .ref (ad 1)) (C := RX8) (T := TX8) (N := 10) hx hb hts hinX8 hown hK hP 5 rfl rfl 0 (by decide) hl_9 (fun _ h9 => h9) rfl dX8_feelAll_4 ?_
      refine va_get (D := (dC, dI)) (ci := 5) (v := .int xRow_people) (C := RX5) (T := TX5) (N := 13) hx hb hts hinX5 hown hK hP 0 rfl rfl 9 (by decide) hl_42 (fun _ h9 => h9) rfl dX8_feelAll_7 ?_
      refine lv_icmp_ge (tgt := 92) hx hb dX8_feelAll_10 (by decide) (fun c_6 => ?_) (fun c_6 => ?_)
      · have hm := it_pos c_6 hm
        obtain rfl := Option.some.inj hm
        subst hQ
        exact W.vret hx hb hr (fun t ht hW => ⟨⟨(), rfl, trivial, by rw [ht]; exact hP, va_K.moved hW.alike hK, hAe ▸ hD⟩, hS.F ht⟩) hS.2.2 dX8_feelAll_92
      · have hm := it_neg c_6 hm
        refine lv_aload_n hx hb dX8_feelAll_13 rfl (lv_at hl 0 rfl) ?_
        refine va_get (D := (dC, dI)) (ci := 8) (v := .ref (ad 18)) (C := RX8) (T := TX8) (N := 10) hx hb hts hinX8 hown hK hP 5 rfl rfl 2 (by decide) hl_19 (fun _ h9 => h9) rfl dX8_feelAll_14 ?_
        refine lv_iload_n hx hb dX8_feelAll_17 rfl (lv_at hl 2 rfl) ?_
        refine lv_iload_n hx hb dX8_feelAll_18 rfl (lv_at hl 3 rfl) ?_
        refine lv_iadd hx hb dX8_feelAll_19 ?_
        obtain ⟨i_7, hm⟩ := ck_ok hm
        refine va_iald hx hb hK hP 6 0 rfl rfl i_7 dX8_feelAll_20 ?_
        refine lv_istore (lv' := [(4, .int (gSUdue_2 (v2_2 + v3_2).toNatClampNeg)), (0, .ref (ad 17)), (1, .int v1_2), (2, .int v2_2), (3, .int v3_2)]) hx hb dX8_feelAll_21 hl (by decide) rfl (fun ls hl => ?_)
        refine lv_aload_n hx hb dX8_feelAll_23 rfl (lv_at hl 1 rfl) ?_
        refine va_get (D := (dC, dI)) (ci := 8) (v := .ref (ad 18)) (C := RX8) (T := TX8) (N := 10) hx hb hts hinX8 hown hK hP 5 rfl rfl 2 (by decide) hl_19 (fun _ h9 => h9) rfl dX8_feelAll_24 ?_
        refine lv_iload_n hx hb dX8_feelAll_27 rfl (lv_at hl 3 rfl) ?_
        refine lv_iload_n hx hb dX8_feelAll_28 rfl (lv_at hl 4 rfl) ?_
        refine lv_iadd hx hb dX8_feelAll_29 ?_
        refine lv_iconst (v := 0) hx hb dX8_feelAll_30 (by decide) ?_
        obtain ⟨i_8, hm⟩ := ck_ok hm
        refine va_iast hx hb hK hP hD hS 6 0 rfl rfl i_8 dX8_feelAll_31 (fun H locs hP hD hS => ?_)
        have hP : va_P (dC, dI) vwCl [oRow ad xRow_depth xRow_length xRow_people xRow_scarves xRow_main xRow_faultPlace, ar (ad 3) cA 20 gRkinds, ar (ad 4) cA 20 gRlates, ar (ad 5) cA 20 gRhands, ar (ad 6) cA 20 gRslow, oSU ad xSU_sleeper xSU_lastDue_2 xSU_unreached_2, ar (ad 18) cA 640 (upd gSUdue_2 (v2_2 + v3_2).toNatClampNeg 0), ar (ad 19) cA 20 gSUbusy_2, ar (ad 20) cA 20 gSUfelt_2, ar (ad 21) cA 20 gSUlost_2, ar (ad 22) cA 20 gSUfirst_2] H := hP
        have hD : va_D A [oRow ad xRow_depth xRow_length xRow_people xRow_scarves xRow_main xRow_faultPlace, ar (ad 3) cA 20 gRkinds, ar (ad 4) cA 20 gRlates, ar (ad 5) cA 20 gRhands, ar (ad 6) cA 20 gRslow, oSU ad xSU_sleeper xSU_lastDue_2 xSU_unreached_2, ar (ad 18) cA 640 (upd gSUdue_2 (v2_2 + v3_2).toNatClampNeg 0), ar (ad 19) cA 20 gSUbusy_2, ar (ad 20) cA 20 gSUfelt_2, ar (ad 21) cA 20 gSUlost_2, ar (ad 22) cA 20 gSUfirst_2] := hD
        refine lv_iconst (v := 0) hx hb dX8_feelAll_32 (by decide) ?_
        refine lv_istore (lv' := [(5, .int 0), (4, .int (gSUdue_2 (v2_2 + v3_2).toNatClampNeg)), (0, .ref (ad 17)), (1, .int v1_2), (2, .int v2_2), (3, .int v3_2)]) hx hb dX8_feelAll_33 hl (by decide) rfl (fun ls hl => ?_)
        exact h_35 _ _ _ _ _ _ _ _ _ _ _ hm _ _ hP hD hS _ (lv_sub hl [2, 3, 4, 5, 1, 0] rfl)
  unfold fS_feelAll_U at hm
  refine lv_iconst (v := 0) hx hb dX8_feelAll_0 (by decide) ?_
  refine lv_istore_n (lv' := [(3, .int 0), (0, .ref (ad 17)), (1, .int a1), (2, .int a2)]) hx hb dX8_feelAll_1 rfl hl (by decide) rfl (fun ls hl => ?_)
  exact h_2 _ _ _ _ _ _ _ _ _ _ _ hm _ _ hP hD hS _ (lv_sub hl [1, 2, 3, 0] rfl)

set_option maxHeartbeats 4000000 in
set_option maxRecDepth 100000 in
theorem kS_run_U (l : Launch) (dC : Nat → ClassId) (dI : Nat → Nat → Nat) (cA : ClassId) (ad : Nat → Nat) (sz : Nat) (a1 : Int32) (a2 : Int32) (a3 : Int32) (a4 : Int32) (xRow_depth : Int32) (xRow_length : Int32) (xRow_people : Int32) (xRow_scarves : Int32) (xRow_main : Int32) (xRow_faultPlace : Int32) (gRkinds : Nat → Int32) (gRlates : Nat → Int32) (gRhands : Nat → Int32) (gRslow : Nat → Int32) (xSU_sleeper : Int32) (xSU_lastDue : Int32) (xSU_unreached : Int32) (gSUdue : Nat → Int32) (gSUbusy : Nat → Int32) (gSUfelt : Nat → Int32) (gSUlost : Nat → Int32) (gSUfirst : Nat → Int32) (u : Int32 × Int32 × Int32 × (Nat → Int32) × (Nat → Int32) × (Nat → Int32) × (Nat → Int32) × (Nat → Int32)) (hm : fS_run_U a1 a2 a3 a4 xRow_people gRkinds gRlates gRhands gRslow xSU_sleeper xSU_lastDue xSU_unreached gSUdue gSUbusy gSUfelt gSUlost gSUfirst = some u) : Met l yX8_run wsX8_run ({ frames := 3, cells := 0, slots := 0, locals := 76 }) (va_Pc [.ref (ad 17), .int a1, .int a2, .int a3, .int a4] (fun U => U.heap.size = sz ∧ va_P (dC, dI) vwCl [oRow ad xRow_depth xRow_length xRow_people xRow_scarves xRow_main xRow_faultPlace, ar (ad 3) cA 20 gRkinds, ar (ad 4) cA 20 gRlates, ar (ad 5) cA 20 gRhands, ar (ad 6) cA 20 gRslow, oSU ad xSU_sleeper xSU_lastDue xSU_unreached, ar (ad 18) cA 640 gSUdue, ar (ad 19) cA 20 gSUbusy, ar (ad 20) cA 20 gSUfelt, ar (ad 21) cA 20 gSUlost, ar (ad 22) cA 20 gSUfirst] U.heap ∧ va_K (dC, dI) vwCl [(cA, .int)] U ∧ va_D (fun _ => True) [oRow ad xRow_depth xRow_length xRow_people xRow_scarves xRow_main xRow_faultPlace, ar (ad 3) cA 20 gRkinds, ar (ad 4) cA 20 gRlates, ar (ad 5) cA 20 gRhands, ar (ad 6) cA 20 gRslow, oSU ad xSU_sleeper xSU_lastDue xSU_unreached, ar (ad 18) cA 640 gSUdue, ar (ad 19) cA 20 gSUbusy, ar (ad 20) cA 20 gSUfelt, ar (ad 21) cA 20 gSUlost, ar (ad 22) cA 20 gSUfirst])) (va_Qv (fun (_ : Unit) => True) (fun (_ : Unit) t => va_P (dC, dI) vwCl [oRow ad xRow_depth xRow_length xRow_people xRow_scarves xRow_main xRow_faultPlace, ar (ad 3) cA 20 gRkinds, ar (ad 4) cA 20 gRlates, ar (ad 5) cA 20 gRhands, ar (ad 6) cA 20 gRslow, oSU ad u.1 u.2.1 u.2.2.1, ar (ad 18) cA 640 u.2.2.2.1, ar (ad 19) cA 20 u.2.2.2.2.1, ar (ad 20) cA 20 u.2.2.2.2.2.1, ar (ad 21) cA 20 u.2.2.2.2.2.2.1, ar (ad 22) cA 20 u.2.2.2.2.2.2.2] t.heap ∧ va_K (dC, dI) vwCl [(cA, .int)] t ∧ va_D (va_A [oRow ad xRow_depth xRow_length xRow_people xRow_scarves xRow_main xRow_faultPlace, ar (ad 3) cA 20 gRkinds, ar (ad 4) cA 20 gRlates, ar (ad 5) cA 20 gRhands, ar (ad 6) cA 20 gRslow, oSU ad xSU_sleeper xSU_lastDue xSU_unreached, ar (ad 18) cA 640 gSUdue, ar (ad 19) cA 20 gSUbusy, ar (ad 20) cA 20 gSUfelt, ar (ad 21) cA 20 gSUlost, ar (ad 22) cA 20 gSUfirst] sz) [oRow ad xRow_depth xRow_length xRow_people xRow_scarves xRow_main xRow_faultPlace, ar (ad 3) cA 20 gRkinds, ar (ad 4) cA 20 gRlates, ar (ad 5) cA 20 gRhands, ar (ad 6) cA 20 gRslow, oSU ad u.1 u.2.1 u.2.2.1, ar (ad 18) cA 640 u.2.2.2.1, ar (ad 19) cA 20 u.2.2.2.2.1, ar (ad 20) cA 20 u.2.2.2.2.2.1, ar (ad 21) cA 20 u.2.2.2.2.2.2.1, ar (ad 22) cA 20 u.2.2.2.2.2.2.2]) (va_A [oRow ad xRow_depth xRow_length xRow_people xRow_scarves xRow_main xRow_faultPlace, ar (ad 3) cA 20 gRkinds, ar (ad 4) cA 20 gRlates, ar (ad 5) cA 20 gRhands, ar (ad 6) cA 20 gRslow, oSU ad xSU_sleeper xSU_lastDue xSU_unreached, ar (ad 18) cA 640 gSUdue, ar (ad 19) cA 20 gSUbusy, ar (ad 20) cA 20 gSUfelt, ar (ad 21) cA 20 gSUlost, ar (ad 22) cA 20 gSUfirst] sz)) 0 0 (va_A [oRow ad xRow_depth xRow_length xRow_people xRow_scarves xRow_main xRow_faultPlace, ar (ad 3) cA 20 gRkinds, ar (ad 4) cA 20 gRlates, ar (ad 5) cA 20 gRhands, ar (ad 6) cA 20 gRslow, oSU ad xSU_sleeper xSU_lastDue xSU_unreached, ar (ad 18) cA 640 gSUdue, ar (ad 19) cA 20 gSUbusy, ar (ad 20) cA 20 gSUfelt, ar (ad 21) cA 20 gSUlost, ar (ad 22) cA 20 gSUfirst] sz) := by
  refine Met.ofW (cc := cX8_run) (maxL := 8) (ret := none) (by decide) rfl ?_
  intro p e s m args below meth c s₁ B hml hv
  obtain ⟨rfl, hsz, hP, hK, hD0⟩ := hv
  have hx := B.exec
  have hb := B.bytes
  have hr := B.returns
  have hts := atoms_spec (ws := wsX8_run) B.pre
  have hown : s.vm.findClass RX8 = some m.cls := findClass_of_methodNamed B.named
  have hlocks := B.notSynchronized
  subst hsz
  have hD := hD0.self (sz := s.heap.size)
  generalize hAe : va_A [oRow ad xRow_depth xRow_length xRow_people xRow_scarves xRow_main xRow_faultPlace, ar (ad 3) cA 20 gRkinds, ar (ad 4) cA 20 gRlates, ar (ad 5) cA 20 gRhands, ar (ad 6) cA 20 gRslow, oSU ad xSU_sleeper xSU_lastDue xSU_unreached, ar (ad 18) cA 640 gSUdue, ar (ad 19) cA 20 gSUbusy, ar (ad 20) cA 20 gSUfelt, ar (ad 21) cA 20 gSUlost, ar (ad 22) cA 20 gSUfirst] s.heap.size = A at hD ⊢
  have hA : ∀ q : Nat, s.heap.size ≤ q → A q := fun q h => by rw [← hAe]; exact Or.inr h
  have hS : va_S A s.heap s.heap [] := va_S.rf
  have hl := lv_entry ([.ref (ad 17), .int a1, .int a2, .int a3, .int a4]) (n := 8) (Nat.le_of_ble_eq_true rfl)
  rw [lg_entry_eq]
  generalize (lg_sl ([.ref (ad 17), .int a1, .int a2, .int a3, .int a4]) ++ List.replicate (8 - (lg_sl ([.ref (ad 17), .int a1, .int a2, .int a3, .int a4])).length) Slot.unset).toArray = ls at hl ⊢
  have hl : lv_has ls 8 [(0, .ref (ad 17)), (1, .int a1), (2, .int a2), (3, .int a3), (4, .int a4)] := hl
  refine wk_Q (fun QQ hQ => ?_)
  have hinX8 : ∀ w ∈ wsX80, w ∈ wsX8_run := fun w h => List.mem_cons_of_mem _ (inlX8 w h)
  have hl_15 := hts (.fieldLink RX8 15 "HandCensus$Squeeze" "diary" "LHandCensus$Diary;") (List.mem_cons_of_mem _ (in_r4 _ (List.mem_of_getElem? (i := 3) rfl)))
  have hl_47 := hts (.fieldLink RX8 47 "HandCensus$Squeeze" "lastDue" "I") (List.mem_cons_of_mem _ (in_r14 _ (List.mem_of_getElem? (i := 20) rfl)))
  have hl_50 := hts (.fieldLink RX8 50 "HandCensus$Squeeze" "unreached" "I") (List.mem_cons_of_mem _ (in_r14 _ (List.mem_of_getElem? (i := 21) rfl)))
  have hl_19 := hts (.fieldLink RX8 19 "HandCensus$Squeeze" "due" "[I") (List.mem_cons_of_mem _ (in_r4 _ (List.mem_of_getElem? (i := 4) rfl)))
  have hl_9 := hts (.fieldLink RX8 9 "HandCensus$Squeeze" "row" "LHandCensus$Row;") (List.mem_cons_of_mem _ (in_r4 _ (List.mem_of_getElem? (i := 2) rfl)))
  have hinX5 : ∀ w ∈ wsX50, w ∈ wsX8_run := fun w h => List.mem_cons_of_mem _ (inlX5 w h)
  have hl_42 := hts (.fieldLink RX8 42 "HandCensus$Row" "people" "I") (List.mem_cons_of_mem _ (in_r14 _ (List.mem_of_getElem? (i := 19) rfl)))
  have hl_38 := hts (.fieldLink RX8 38 "HandCensus$Squeeze" "sleeper" "I") (List.mem_cons_of_mem _ (in_r14 _ (List.mem_of_getElem? (i := 18) rfl)))
  have h_72 : ∀ (v2_72 : Int32) (v3_72 : Int32) (v5_72 : Int32) (xSU_sleeper_72 : Int32), ∀ (n_72 : Nat), ∀ (v6_72 : Int32) (xSU_lastDue_72 : Int32) (xSU_unreached_72 : Int32) (gSUdue_72 : Nat → Int32) (gSUbusy_72 : Nat → Int32) (gSUfelt_72 : Nat → Int32) (gSUlost_72 : Nat → Int32) (gSUfirst_72 : Nat → Int32), fS_run_U_72 v2_72 v3_72 v5_72 xRow_people gRkinds gRlates gRhands gRslow xSU_sleeper_72 n_72 v6_72 xSU_lastDue_72 xSU_unreached_72 gSUdue_72 gSUbusy_72 gSUfelt_72 gSUlost_72 gSUfirst_72 = some u → ∀ (H : Heap) (locs : List Loc), va_P (dC, dI) vwCl [oRow ad xRow_depth xRow_length xRow_people xRow_scarves xRow_main xRow_faultPlace, ar (ad 3) cA 20 gRkinds, ar (ad 4) cA 20 gRlates, ar (ad 5) cA 20 gRhands, ar (ad 6) cA 20 gRslow, oSU ad xSU_sleeper_72 xSU_lastDue_72 xSU_unreached_72, ar (ad 18) cA 640 gSUdue_72, ar (ad 19) cA 20 gSUbusy_72, ar (ad 20) cA 20 gSUfelt_72, ar (ad 21) cA 20 gSUlost_72, ar (ad 22) cA 20 gSUfirst_72] H → va_D A [oRow ad xRow_depth xRow_length xRow_people xRow_scarves xRow_main xRow_faultPlace, ar (ad 3) cA 20 gRkinds, ar (ad 4) cA 20 gRlates, ar (ad 5) cA 20 gRhands, ar (ad 6) cA 20 gRslow, oSU ad xSU_sleeper_72 xSU_lastDue_72 xSU_unreached_72, ar (ad 18) cA 640 gSUdue_72, ar (ad 19) cA 20 gSUbusy_72, ar (ad 20) cA 20 gSUfelt_72, ar (ad 21) cA 20 gSUlost_72, ar (ad 22) cA 20 gSUfirst_72] → va_S A s.heap H locs → ∀ ls : Array Slot, lv_has ls 8 [(0, .ref (ad 17)), (2, .int v2_72), (3, .int v3_72), (5, .int v5_72), (6, .int v6_72)] → W p l e (headSpec wsX8_run ({ frames := 3, cells := 0, slots := 0, locals := 76 })).room s m ([.ref (ad 17), .int a1, .int a2, .int a3, .int a4] : List Value).toArray below meth c H locs 0 0 QQ (F0 m 72 ls []) := by
    intro v2_72 v3_72 v5_72 xSU_sleeper_72
    intro n_72
    induction n_72 with
    | zero => intro v6_72 xSU_lastDue_72 xSU_unreached_72 gSUdue_72 gSUbusy_72 gSUfelt_72 gSUlost_72 gSUfirst_72 hm; have hm : (none : Option (Int32 × Int32 × Int32 × (Nat → Int32) × (Nat → Int32) × (Nat → Int32) × (Nat → Int32) × (Nat → Int32))) = some u := hm; cases hm
    | succ n_72 ih_72 =>
      have b_137 : ∀ (v6_137 : Int32) (v7_137 : Int32) (xSU_lastDue_137 : Int32) (xSU_unreached_137 : Int32) (gSUdue_137 : Nat → Int32) (gSUbusy_137 : Nat → Int32) (gSUfelt_137 : Nat → Int32) (gSUlost_137 : Nat → Int32) (gSUfirst_137 : Nat → Int32), fS_run_U_137 (fS_run_U_72  v2_72 v3_72 v5_72 xRow_people gRkinds gRlates gRhands gRslow xSU_sleeper_72 n_72) v2_72 v3_72 v5_72 v6_137 v7_137 xRow_people gRkinds gRlates gRhands gRslow xSU_sleeper_72 xSU_lastDue_137 xSU_unreached_137 gSUdue_137 gSUbusy_137 gSUfelt_137 gSUlost_137 gSUfirst_137 = some u → ∀ (H : Heap) (locs : List Loc), va_P (dC, dI) vwCl [oRow ad xRow_depth xRow_length xRow_people xRow_scarves xRow_main xRow_faultPlace, ar (ad 3) cA 20 gRkinds, ar (ad 4) cA 20 gRlates, ar (ad 5) cA 20 gRhands, ar (ad 6) cA 20 gRslow, oSU ad xSU_sleeper_72 xSU_lastDue_137 xSU_unreached_137, ar (ad 18) cA 640 gSUdue_137, ar (ad 19) cA 20 gSUbusy_137, ar (ad 20) cA 20 gSUfelt_137, ar (ad 21) cA 20 gSUlost_137, ar (ad 22) cA 20 gSUfirst_137] H → va_D A [oRow ad xRow_depth xRow_length xRow_people xRow_scarves xRow_main xRow_faultPlace, ar (ad 3) cA 20 gRkinds, ar (ad 4) cA 20 gRlates, ar (ad 5) cA 20 gRhands, ar (ad 6) cA 20 gRslow, oSU ad xSU_sleeper_72 xSU_lastDue_137 xSU_unreached_137, ar (ad 18) cA 640 gSUdue_137, ar (ad 19) cA 20 gSUbusy_137, ar (ad 20) cA 20 gSUfelt_137, ar (ad 21) cA 20 gSUlost_137, ar (ad 22) cA 20 gSUfirst_137] → va_S A s.heap H locs → ∀ ls : Array Slot, lv_has ls 8 [(0, .ref (ad 17)), (2, .int v2_72), (3, .int v3_72), (5, .int v5_72), (6, .int v6_137), (7, .int v7_137)] → W p l e (headSpec wsX8_run ({ frames := 3, cells := 0, slots := 0, locals := 76 })).room s m ([.ref (ad 17), .int a1, .int a2, .int a3, .int a4] : List Value).toArray below meth c H locs 0 0 QQ (F0 m 137 ls []) := by
        intro v6_137 v7_137 xSU_lastDue_137 xSU_unreached_137 gSUdue_137 gSUbusy_137 gSUfelt_137 gSUlost_137 gSUfirst_137 hm H locs hP hD hS ls hl
        unfold fS_run_U_137 at hm
        refine lv_aload_n hx hb dX8_run_137 rfl (lv_at hl 0 rfl) ?_
        refine va_get (D := (dC, dI)) (ci := 8) (v := .null) (C := RX8) (T := TX8) (N := 10) hx hb hts hinX8 hown hK hP 5 rfl rfl 1 (by decide) hl_15 (fun _ h9 => h9) rfl dX8_run_138 ?_
        refine lv_ifnullN (tgt := 153) hx hb dX8_run_141 (by decide) ?_
        refine lv_aload_n hx hb dX8_run_153 rfl (lv_at hl 0 rfl) ?_
        refine lv_iload hx hb dX8_run_154 (lv_at hl 4 rfl) ?_
        refine lv_iload hx hb dX8_run_156 (lv_at hl 5 rfl) ?_
        have hPc := hP.sub (ws' := [oRow ad xRow_depth xRow_length xRow_people xRow_scarves xRow_main xRow_faultPlace, ar (ad 3) cA 20 gRkinds, ar (ad 4) cA 20 gRlates, ar (ad 5) cA 20 gRhands, ar (ad 6) cA 20 gRslow, oSU ad xSU_sleeper_72 xSU_lastDue_137 xSU_unreached_137, ar (ad 18) cA 640 gSUdue_137, ar (ad 19) cA 20 gSUbusy_137, ar (ad 20) cA 20 gSUfelt_137, ar (ad 21) cA 20 gSUlost_137, ar (ad 22) cA 20 gSUfirst_137]) [0, 1, 2, 3, 4, 5, 6, 7, 8, 9, 10] rfl
        have hDc := hD.sub (ws' := [oRow ad xRow_depth xRow_length xRow_people xRow_scarves xRow_main xRow_faultPlace, ar (ad 3) cA 20 gRkinds, ar (ad 4) cA 20 gRlates, ar (ad 5) cA 20 gRhands, ar (ad 6) cA 20 gRslow, oSU ad xSU_sleeper_72 xSU_lastDue_137 xSU_unreached_137, ar (ad 18) cA 640 gSUdue_137, ar (ad 19) cA 20 gSUbusy_137, ar (ad 20) cA 20 gSUfelt_137, ar (ad 21) cA 20 gSUlost_137, ar (ad 22) cA 20 gSUfirst_137]) [0, 1, 2, 3, 4, 5, 6, 7, 8, 9, 10] (by decide) rfl
        have hFc := va_free (wc := [oRow ad xRow_depth xRow_length xRow_people xRow_scarves xRow_main xRow_faultPlace, ar (ad 3) cA 20 gRkinds, ar (ad 4) cA 20 gRlates, ar (ad 5) cA 20 gRhands, ar (ad 6) cA 20 gRslow, oSU ad xSU_sleeper_72 xSU_lastDue_137 xSU_unreached_137, ar (ad 18) cA 640 gSUdue_137, ar (ad 19) cA 20 gSUbusy_137, ar (ad 20) cA 20 gSUfelt_137, ar (ad 21) cA 20 gSUlost_137, ar (ad 22) cA 20 gSUfirst_137]) hD hS hA [0, 1, 2, 3, 4, 5, 6, 7, 8, 9, 10] rfl
        obtain ⟨u_1, hc_1, hm⟩ := bd_ok hm
        refine va_callv (va_runV (As := [.int v6_137, .int v7_137]) (rest := []) ⟨hx, hb, hml, hown, hts⟩ (kS_feelAll_U l dC dI cA ad H.size v6_137 v7_137 xRow_depth xRow_length xRow_people xRow_scarves xRow_main xRow_faultPlace gRkinds gRlates gRhands gRslow xSU_sleeper_72 xSU_lastDue_137 xSU_unreached_137 gSUdue_137 gSUbusy_137 gSUfelt_137 gSUlost_137 gSUfirst_137 u_1 hc_1) (cwV 2 hts gX8_run_X8_feelAll rfl rfl rfl (by decide +kernel) ⟨Nat.le_of_ble_eq_true rfl, Nat.le_of_ble_eq_true rfl⟩) ⟨fun a U g mk q => by obtain ⟨q0, q1, qP, qK, qD⟩ := q; exact ⟨q0, q1, qP, va_K.moved (u := U) (U := U.calling g mk a) (Vm.Alike.refl U.vm) qK, qD⟩, va_recv hK hPc (ci := 8) (q0 := 5) rfl rfl, fun U hU hW => ⟨rfl, by rw [hU], by rw [hU]; exact hPc, va_K.moved hW.alike hK, hDc.weaken (fun _ _ _ _ => trivial)⟩⟩ rfl rfl hl.1 rfl (lv_room (Nat.le_of_ble_eq_true rfl)) dX8_run_158 ⟨Nat.le_of_ble_eq_true rfl, Nat.le_of_ble_eq_true rfl⟩) hS (fun q _ h => hFc q h) hFc (fun _ t H1 locs ht hvm hw hB hz1 hk1 hS => ?_)
        obtain ⟨hP1, hK1, hD1⟩ := hB
        rw [ht] at hP1
        obtain ⟨hP, hD⟩ := va_join (wr := []) (w1 := [oRow ad xRow_depth xRow_length xRow_people xRow_scarves xRow_main xRow_faultPlace, ar (ad 3) cA 20 gRkinds, ar (ad 4) cA 20 gRlates, ar (ad 5) cA 20 gRhands, ar (ad 6) cA 20 gRslow, oSU ad xSU_sleeper_72 u_1.1 u_1.2.1, ar (ad 18) cA 640 u_1.2.2.1, ar (ad 19) cA 20 u_1.2.2.2.1, ar (ad 20) cA 20 u_1.2.2.2.2.1, ar (ad 21) cA 20 u_1.2.2.2.2.2.1, ar (ad 22) cA 20 u_1.2.2.2.2.2.2]) hP hD [0, 1, 2, 3, 4, 5, 6, 7, 8, 9, 10] [] rfl rfl (by decide) (by decide) hk1 hFc hP1 hD1
        clear hPc hDc hFc hP1 hK1 hD1 hk1 hz1 hvm ht
        generalize H1 = H at hP hS ⊢
        have hP : va_P (dC, dI) vwCl [oRow ad xRow_depth xRow_length xRow_people xRow_scarves xRow_main xRow_faultPlace, ar (ad 3) cA 20 gRkinds, ar (ad 4) cA 20 gRlates, ar (ad 5) cA 20 gRhands, ar (ad 6) cA 20 gRslow, oSU ad xSU_sleeper_72 u_1.1 u_1.2.1, ar (ad 18) cA 640 u_1.2.2.1, ar (ad 19) cA 20 u_1.2.2.2.1, ar (ad 20) cA 20 u_1.2.2.2.2.1, ar (ad 21) cA 20 u_1.2.2.2.2.2.1, ar (ad 22) cA 20 u_1.2.2.2.2.2.2] H := hP
        have hD : va_D A [oRow ad xRow_depth xRow_length xRow_people xRow_scarves xRow_main xRow_faultPlace, ar (ad 3) cA 20 gRkinds, ar (ad 4) cA 20 gRlates, ar (ad 5) cA 20 gRhands, ar (ad 6) cA 20 gRslow, oSU ad xSU_sleeper_72 u_1.1 u_1.2.1, ar (ad 18) cA 640 u_1.2.2.1, ar (ad 19) cA 20 u_1.2.2.2.1, ar (ad 20) cA 20 u_1.2.2.2.2.1, ar (ad 21) cA 20 u_1.2.2.2.2.2.1, ar (ad 22) cA 20 u_1.2.2.2.2.2.2] := hD
        refine lv_iinc (v := (v6_137 + 1)) (lv' := [(6, .int (v6_137 + 1)), (0, .ref (ad 17)), (2, .int v2_72), (3, .int v3_72), (5, .int v5_72), (7, .int v7_137)]) hx hb dX8_run_161 hl (k := 4) rfl rfl (by decide) rfl (fun ls hl => ?_)
        refine lv_goto (tgt := 72) hx hb dX8_run_164 (by decide) ?_
        exact ih_72 _ _ _ _ _ _ _ _ hm _ _ hP hD hS _ (lv_sub hl [1, 2, 3, 4, 0] rfl)
      intro v6_72 xSU_lastDue_72 xSU_unreached_72 gSUdue_72 gSUbusy_72 gSUfelt_72 gSUlost_72 gSUfirst_72 hm H locs hP hD hS ls hl
      have hm : fS_run_U_72_b  (fS_run_U_72  v2_72 v3_72 v5_72 xRow_people gRkinds gRlates gRhands gRslow xSU_sleeper_72 n_72) v2_72 v3_72 v5_72 xRow_people gRkinds gRlates gRhands gRslow xSU_sleeper_72 v6_72 xSU_lastDue_72 xSU_unreached_72 gSUdue_72 gSUbusy_72 gSUfelt_72 gSUlost_72 gSUfirst_72 = some u := hm
      unfold fS_run_U_72_b at hm
      refine lv_iload hx hb dX8_run_72 (lv_at hl 4 rfl) ?_
      refine lv_sipush (v := 400) hx hb dX8_run_74 (by decide) ?_
      refine lv_icmp_gt (tgt := 167) hx hb dX8_run_77 (by decide) (fun c_2 => ?_) (fun c_2 => ?_)
      · have hm := it_pos c_2 hm
        obtain rfl := Option.some.inj hm
        subst hQ
        exact W.vret hx hb hr (fun t ht hW => ⟨⟨(), rfl, trivial, by rw [ht]; exact hP, va_K.moved hW.alike hK, hAe ▸ hD⟩, hS.F ht⟩) hS.2.2 dX8_run_167
      · have hm := it_neg c_2 hm
        refine lv_iload hx hb dX8_run_80 (lv_at hl 4 rfl) ?_
        refine lv_aload_n hx hb dX8_run_82 rfl (lv_at hl 0 rfl) ?_
        refine va_get (D := (dC, dI)) (ci := 8) (v := .int xSU_lastDue_72) (C := RX8) (T := TX8) (N := 10) hx hb hts hinX8 hown hK hP 5 rfl rfl 8 (by decide) hl_47 (fun _ h9 => h9) rfl dX8_run_83 ?_
        refine lv_icmp_gt (tgt := 167) hx hb dX8_run_86 (by decide) (fun c_3 => ?_) (fun c_3 => ?_)
        · have hm := it_pos c_3 hm
          obtain rfl := Option.some.inj hm
          subst hQ
          exact W.vret hx hb hr (fun t ht hW => ⟨⟨(), rfl, trivial, by rw [ht]; exact hP, va_K.moved hW.alike hK, hAe ▸ hD⟩, hS.F ht⟩) hS.2.2 dX8_run_167
        · have hm := it_neg c_3 hm
          refine lv_aload_n hx hb dX8_run_89 rfl (lv_at hl 0 rfl) ?_
          refine va_get (D := (dC, dI)) (ci := 8) (v := .null) (C := RX8) (T := TX8) (N := 10) hx hb hts hinX8 hown hK hP 5 rfl rfl 1 (by decide) hl_15 (fun _ h9 => h9) rfl dX8_run_90 ?_
          refine lv_ifnonnullN hx hb dX8_run_93 ?_
          refine lv_aload_n hx hb dX8_run_96 rfl (lv_at hl 0 rfl) ?_
          refine va_get (D := (dC, dI)) (ci := 8) (v := .int xSU_unreached_72) (C := RX8) (T := TX8) (N := 10) hx hb hts hinX8 hown hK hP 5 rfl rfl 9 (by decide) hl_50 (fun _ h9 => h9) rfl dX8_run_97 ?_
          refine lv_if_le (tgt := 167) hx hb dX8_run_100 (by decide) (fun c_4 => ?_) (fun c_4 => ?_)
          · have hm := it_pos c_4 hm
            obtain rfl := Option.some.inj hm
            subst hQ
            exact W.vret hx hb hr (fun t ht hW => ⟨⟨(), rfl, trivial, by rw [ht]; exact hP, va_K.moved hW.alike hK, hAe ▸ hD⟩, hS.F ht⟩) hS.2.2 dX8_run_167
          · have hm := it_neg c_4 hm
            refine lv_iload hx hb dX8_run_103 (lv_at hl 4 rfl) ?_
            refine lv_bipush (v := 32) hx hb dX8_run_105 (by decide) ?_
            refine lv_irem hx hb dX8_run_107 (by decide) ?_
            refine lv_bipush (v := 20) hx hb dX8_run_108 (by decide) ?_
            refine lv_imul hx hb dX8_run_110 ?_
            refine lv_istore (lv' := [(7, .int ((v6_72 - v6_72 / 32 * 32) * 20)), (0, .ref (ad 17)), (2, .int v2_72), (3, .int v3_72), (5, .int v5_72), (6, .int v6_72)]) hx hb dX8_run_111 hl (by decide) rfl (fun ls hl => ?_)
            refine lv_iload hx hb dX8_run_113 (lv_at hl 4 rfl) ?_
            refine lv_if_eq (tgt := 137) hx hb dX8_run_115 (by decide) (fun c_6 => ?_) (fun c_6 => ?_)
            · have hm := it_pos c_6 hm
              exact b_137 _ _ _ _ _ _ _ _ _ hm _ _ hP hD hS _ (lv_sub hl [1, 2, 3, 4, 5, 0] rfl)
            · have hm := it_neg c_6 hm
              refine lv_iload hx hb dX8_run_118 (lv_at hl 5 rfl) ?_
              refine lv_iload_n hx hb dX8_run_120 rfl (lv_at hl 3 rfl) ?_
              refine lv_icmp_ne (tgt := 137) hx hb dX8_run_121 (by decide) (fun c_7 => ?_) (fun c_7 => ?_)
              · have hm := it_neg c_7 hm
                exact b_137 _ _ _ _ _ _ _ _ _ hm _ _ hP hD hS _ (lv_sub hl [1, 2, 3, 4, 5, 0] rfl)
              · have hm := it_pos c_7 hm
                refine lv_aload_n hx hb dX8_run_124 rfl (lv_at hl 1 rfl) ?_
                refine va_get (D := (dC, dI)) (ci := 8) (v := .ref (ad 18)) (C := RX8) (T := TX8) (N := 10) hx hb hts hinX8 hown hK hP 5 rfl rfl 2 (by decide) hl_19 (fun _ h9 => h9) rfl dX8_run_125 ?_
                refine lv_iload hx hb dX8_run_128 (lv_at hl 0 rfl) ?_
                refine lv_iload_n hx hb dX8_run_130 rfl (lv_at hl 2 rfl) ?_
                refine lv_iadd hx hb dX8_run_131 ?_
                refine lv_dup2_11 hx hb dX8_run_132 rfl rfl ?_
                obtain ⟨i_8, hm⟩ := ck_ok hm
                refine va_iald hx hb hK hP 6 0 rfl rfl i_8 dX8_run_133 ?_
                refine lv_iconst (v := 2) hx hb dX8_run_134 (by decide) ?_
                refine lv_ior hx hb dX8_run_135 ?_
                obtain ⟨i_9, hm⟩ := ck_ok hm
                refine va_iast hx hb hK hP hD hS 6 0 rfl rfl i_9 dX8_run_136 (fun H locs hP hD hS => ?_)
                have hP : va_P (dC, dI) vwCl [oRow ad xRow_depth xRow_length xRow_people xRow_scarves xRow_main xRow_faultPlace, ar (ad 3) cA 20 gRkinds, ar (ad 4) cA 20 gRlates, ar (ad 5) cA 20 gRhands, ar (ad 6) cA 20 gRslow, oSU ad xSU_sleeper_72 xSU_lastDue_72 xSU_unreached_72, ar (ad 18) cA 640 (upd gSUdue_72 (((v6_72 - v6_72 / 32 * 32) * 20) + v2_72).toNatClampNeg ((gSUdue_72 (((v6_72 - v6_72 / 32 * 32) * 20) + v2_72).toNatClampNeg) ||| 2)), ar (ad 19) cA 20 gSUbusy_72, ar (ad 20) cA 20 gSUfelt_72, ar (ad 21) cA 20 gSUlost_72, ar (ad 22) cA 20 gSUfirst_72] H := hP
                have hD : va_D A [oRow ad xRow_depth xRow_length xRow_people xRow_scarves xRow_main xRow_faultPlace, ar (ad 3) cA 20 gRkinds, ar (ad 4) cA 20 gRlates, ar (ad 5) cA 20 gRhands, ar (ad 6) cA 20 gRslow, oSU ad xSU_sleeper_72 xSU_lastDue_72 xSU_unreached_72, ar (ad 18) cA 640 (upd gSUdue_72 (((v6_72 - v6_72 / 32 * 32) * 20) + v2_72).toNatClampNeg ((gSUdue_72 (((v6_72 - v6_72 / 32 * 32) * 20) + v2_72).toNatClampNeg) ||| 2)), ar (ad 19) cA 20 gSUbusy_72, ar (ad 20) cA 20 gSUfelt_72, ar (ad 21) cA 20 gSUlost_72, ar (ad 22) cA 20 gSUfirst_72] := hD
                exact b_137 _ _ _ _ _ _ _ _ _ hm _ _ hP hD hS _ (lv_sub hl [1, 2, 3, 4, 5, 0] rfl)
  have b_69 : ∀ (v2_69 : Int32) (v3_69 : Int32) (v5_69 : Int32) (xSU_sleeper_69 : Int32) (xSU_lastDue_69 : Int32) (xSU_unreached_69 : Int32) (gSUdue_69 : Nat → Int32) (gSUbusy_69 : Nat → Int32) (gSUfelt_69 : Nat → Int32) (gSUlost_69 : Nat → Int32) (gSUfirst_69 : Nat → Int32), fS_run_U_69 v2_69 v3_69 v5_69 xRow_people gRkinds gRlates gRhands gRslow xSU_sleeper_69 xSU_lastDue_69 xSU_unreached_69 gSUdue_69 gSUbusy_69 gSUfelt_69 gSUlost_69 gSUfirst_69 = some u → ∀ (H : Heap) (locs : List Loc), va_P (dC, dI) vwCl [oRow ad xRow_depth xRow_length xRow_people xRow_scarves xRow_main xRow_faultPlace, ar (ad 3) cA 20 gRkinds, ar (ad 4) cA 20 gRlates, ar (ad 5) cA 20 gRhands, ar (ad 6) cA 20 gRslow, oSU ad xSU_sleeper_69 xSU_lastDue_69 xSU_unreached_69, ar (ad 18) cA 640 gSUdue_69, ar (ad 19) cA 20 gSUbusy_69, ar (ad 20) cA 20 gSUfelt_69, ar (ad 21) cA 20 gSUlost_69, ar (ad 22) cA 20 gSUfirst_69] H → va_D A [oRow ad xRow_depth xRow_length xRow_people xRow_scarves xRow_main xRow_faultPlace, ar (ad 3) cA 20 gRkinds, ar (ad 4) cA 20 gRlates, ar (ad 5) cA 20 gRhands, ar (ad 6) cA 20 gRslow, oSU ad xSU_sleeper_69 xSU_lastDue_69 xSU_unreached_69, ar (ad 18) cA 640 gSUdue_69, ar (ad 19) cA 20 gSUbusy_69, ar (ad 20) cA 20 gSUfelt_69, ar (ad 21) cA 20 gSUlost_69, ar (ad 22) cA 20 gSUfirst_69] → va_S A s.heap H locs → ∀ ls : Array Slot, lv_has ls 8 [(0, .ref (ad 17)), (2, .int v2_69), (3, .int v3_69), (5, .int v5_69)] → W p l e (headSpec wsX8_run ({ frames := 3, cells := 0, slots := 0, locals := 76 })).room s m ([.ref (ad 17), .int a1, .int a2, .int a3, .int a4] : List Value).toArray below meth c H locs 0 0 QQ (F0 m 69 ls []) := by
    intro v2_69 v3_69 v5_69 xSU_sleeper_69 xSU_lastDue_69 xSU_unreached_69 gSUdue_69 gSUbusy_69 gSUfelt_69 gSUlost_69 gSUfirst_69 hm H locs hP hD hS ls hl
    unfold fS_run_U_69 at hm
    refine lv_iconst (v := 0) hx hb dX8_run_69 (by decide) ?_
    refine lv_istore (lv' := [(6, .int 0), (0, .ref (ad 17)), (2, .int v2_69), (3, .int v3_69), (5, .int v5_69)]) hx hb dX8_run_70 hl (by decide) rfl (fun ls hl => ?_)
    exact h_72 _ _ _ _ _ _ _ _ _ _ _ _ _ hm _ _ hP hD hS _ (lv_sub hl [1, 2, 3, 4, 0] rfl)
  have b_59 : ∀ (v2_59 : Int32) (v3_59 : Int32) (v5_59 : Int32) (xSU_sleeper_59 : Int32) (xSU_lastDue_59 : Int32) (xSU_unreached_59 : Int32) (gSUdue_59 : Nat → Int32) (gSUbusy_59 : Nat → Int32) (gSUfelt_59 : Nat → Int32) (gSUlost_59 : Nat → Int32) (gSUfirst_59 : Nat → Int32), fS_run_U_59 v2_59 v3_59 v5_59 xRow_people gRkinds gRlates gRhands gRslow xSU_sleeper_59 xSU_lastDue_59 xSU_unreached_59 gSUdue_59 gSUbusy_59 gSUfelt_59 gSUlost_59 gSUfirst_59 = some u → ∀ (H : Heap) (locs : List Loc), va_P (dC, dI) vwCl [oRow ad xRow_depth xRow_length xRow_people xRow_scarves xRow_main xRow_faultPlace, ar (ad 3) cA 20 gRkinds, ar (ad 4) cA 20 gRlates, ar (ad 5) cA 20 gRhands, ar (ad 6) cA 20 gRslow, oSU ad xSU_sleeper_59 xSU_lastDue_59 xSU_unreached_59, ar (ad 18) cA 640 gSUdue_59, ar (ad 19) cA 20 gSUbusy_59, ar (ad 20) cA 20 gSUfelt_59, ar (ad 21) cA 20 gSUlost_59, ar (ad 22) cA 20 gSUfirst_59] H → va_D A [oRow ad xRow_depth xRow_length xRow_people xRow_scarves xRow_main xRow_faultPlace, ar (ad 3) cA 20 gRkinds, ar (ad 4) cA 20 gRlates, ar (ad 5) cA 20 gRhands, ar (ad 6) cA 20 gRslow, oSU ad xSU_sleeper_59 xSU_lastDue_59 xSU_unreached_59, ar (ad 18) cA 640 gSUdue_59, ar (ad 19) cA 20 gSUbusy_59, ar (ad 20) cA 20 gSUfelt_59, ar (ad 21) cA 20 gSUlost_59, ar (ad 22) cA 20 gSUfirst_59] → va_S A s.heap H locs → ∀ ls : Array Slot, lv_has ls 8 [(0, .ref (ad 17)), (2, .int v2_59), (3, .int v3_59), (5, .int v5_59)] → W p l e (headSpec wsX8_run ({ frames := 3, cells := 0, slots := 0, locals := 76 })).room s m ([.ref (ad 17), .int a1, .int a2, .int a3, .int a4] : List Value).toArray below meth c H locs 0 0 QQ (F0 m 59 ls []) := by
    intro v2_59 v3_59 v5_59 xSU_sleeper_59 xSU_lastDue_59 xSU_unreached_59 gSUdue_59 gSUbusy_59 gSUfelt_59 gSUlost_59 gSUfirst_59 hm H locs hP hD hS ls hl
    unfold fS_run_U_59 at hm
    refine lv_iload hx hb dX8_run_59 (lv_at hl 3 rfl) ?_
    refine lv_if_eq (tgt := 69) hx hb dX8_run_61 (by decide) (fun c_10 => ?_) (fun c_10 => ?_)
    · have hm := it_pos c_10 hm
      exact b_69 _ _ _ _ _ _ _ _ _ _ _ hm _ _ hP hD hS _ (lv_sub hl [0, 1, 2, 3] rfl)
    · have hm := it_neg c_10 hm
      refine lv_aload_n hx hb dX8_run_64 rfl (lv_at hl 0 rfl) ?_
      refine lv_iload_n hx hb dX8_run_65 rfl (lv_at hl 2 rfl) ?_
      refine va_put (D := (dC, dI)) (ci := 8) (v := .int v3_59) (ty := .int) (C := RX8) (T := TX8) (N := 10) hx hb hts hinX8 tyX8 tyX8_ok nmX8 hown hK hP hD hS 5 rfl rfl 8 (by decide) hl_47 (fun _ h9 => h9) rfl (by decide +kernel) rfl rfl (Nat.le_of_ble_eq_true rfl) dX8_run_66 (fun H locs hP hD hS => ?_)
      have hP : va_P (dC, dI) vwCl [oRow ad xRow_depth xRow_length xRow_people xRow_scarves xRow_main xRow_faultPlace, ar (ad 3) cA 20 gRkinds, ar (ad 4) cA 20 gRlates, ar (ad 5) cA 20 gRhands, ar (ad 6) cA 20 gRslow, oSU ad xSU_sleeper_59 v3_59 xSU_unreached_59, ar (ad 18) cA 640 gSUdue_59, ar (ad 19) cA 20 gSUbusy_59, ar (ad 20) cA 20 gSUfelt_59, ar (ad 21) cA 20 gSUlost_59, ar (ad 22) cA 20 gSUfirst_59] H := hP
      have hD : va_D A [oRow ad xRow_depth xRow_length xRow_people xRow_scarves xRow_main xRow_faultPlace, ar (ad 3) cA 20 gRkinds, ar (ad 4) cA 20 gRlates, ar (ad 5) cA 20 gRhands, ar (ad 6) cA 20 gRslow, oSU ad xSU_sleeper_59 v3_59 xSU_unreached_59, ar (ad 18) cA 640 gSUdue_59, ar (ad 19) cA 20 gSUbusy_59, ar (ad 20) cA 20 gSUfelt_59, ar (ad 21) cA 20 gSUlost_59, ar (ad 22) cA 20 gSUfirst_59] := hD
      exact b_69 _ _ _ _ _ _ _ _ _ _ _ hm _ _ hP hD hS _ (lv_sub hl [0, 1, 2, 3] rfl)
  have b_31 : ∀ (v1_31 : Int32) (v2_31 : Int32) (v3_31 : Int32) (s0_31 : Int32) (xSU_sleeper_31 : Int32) (xSU_lastDue_31 : Int32) (xSU_unreached_31 : Int32) (gSUdue_31 : Nat → Int32) (gSUbusy_31 : Nat → Int32) (gSUfelt_31 : Nat → Int32) (gSUlost_31 : Nat → Int32) (gSUfirst_31 : Nat → Int32), fS_run_U_31 v1_31 v2_31 v3_31 s0_31 xRow_people gRkinds gRlates gRhands gRslow xSU_sleeper_31 xSU_lastDue_31 xSU_unreached_31 gSUdue_31 gSUbusy_31 gSUfelt_31 gSUlost_31 gSUfirst_31 = some u → ∀ (H : Heap) (locs : List Loc), va_P (dC, dI) vwCl [oRow ad xRow_depth xRow_length xRow_people xRow_scarves xRow_main xRow_faultPlace, ar (ad 3) cA 20 gRkinds, ar (ad 4) cA 20 gRlates, ar (ad 5) cA 20 gRhands, ar (ad 6) cA 20 gRslow, oSU ad xSU_sleeper_31 xSU_lastDue_31 xSU_unreached_31, ar (ad 18) cA 640 gSUdue_31, ar (ad 19) cA 20 gSUbusy_31, ar (ad 20) cA 20 gSUfelt_31, ar (ad 21) cA 20 gSUlost_31, ar (ad 22) cA 20 gSUfirst_31] H → va_D A [oRow ad xRow_depth xRow_length xRow_people xRow_scarves xRow_main xRow_faultPlace, ar (ad 3) cA 20 gRkinds, ar (ad 4) cA 20 gRlates, ar (ad 5) cA 20 gRhands, ar (ad 6) cA 20 gRslow, oSU ad xSU_sleeper_31 xSU_lastDue_31 xSU_unreached_31, ar (ad 18) cA 640 gSUdue_31, ar (ad 19) cA 20 gSUbusy_31, ar (ad 20) cA 20 gSUfelt_31, ar (ad 21) cA 20 gSUlost_31, ar (ad 22) cA 20 gSUfirst_31] → va_S A s.heap H locs → ∀ ls : Array Slot, lv_has ls 8 [(0, .ref (ad 17)), (1, .int v1_31), (2, .int v2_31), (3, .int v3_31)] → W p l e (headSpec wsX8_run ({ frames := 3, cells := 0, slots := 0, locals := 76 })).room s m ([.ref (ad 17), .int a1, .int a2, .int a3, .int a4] : List Value).toArray below meth c H locs 0 0 QQ (F0 m 31 ls [.int s0_31]) := by
    intro v1_31 v2_31 v3_31 s0_31 xSU_sleeper_31 xSU_lastDue_31 xSU_unreached_31 gSUdue_31 gSUbusy_31 gSUfelt_31 gSUlost_31 gSUfirst_31 hm H locs hP hD hS ls hl
    unfold fS_run_U_31 at hm
    refine lv_istore (lv' := [(5, .int s0_31), (0, .ref (ad 17)), (1, .int v1_31), (2, .int v2_31), (3, .int v3_31)]) hx hb dX8_run_31 hl (by decide) rfl (fun ls hl => ?_)
    refine lv_iload_n hx hb dX8_run_33 rfl (lv_at hl 2 rfl) ?_
    refine lv_aload_n hx hb dX8_run_34 rfl (lv_at hl 1 rfl) ?_
    refine va_get (D := (dC, dI)) (ci := 8) (v := .ref (ad 1)) (C := RX8) (T := TX8) (N := 10) hx hb hts hinX8 hown hK hP 5 rfl rfl 0 (by decide) hl_9 (fun _ h9 => h9) rfl dX8_run_35 ?_
    refine va_get (D := (dC, dI)) (ci := 5) (v := .int xRow_people) (C := RX5) (T := TX5) (N := 13) hx hb hts hinX5 hown hK hP 0 rfl rfl 9 (by decide) hl_42 (fun _ h9 => h9) rfl dX8_run_38 ?_
    refine lv_icmp_ge (tgt := 59) hx hb dX8_run_41 (by decide) (fun c_11 => ?_) (fun c_11 => ?_)
    · have hm := it_pos c_11 hm
      exact b_59 _ _ _ _ _ _ _ _ _ _ _ hm _ _ hP hD hS _ (lv_sub hl [1, 3, 4, 0] rfl)
    · have hm := it_neg c_11 hm
      refine lv_aload_n hx hb dX8_run_44 rfl (lv_at hl 1 rfl) ?_
      refine va_get (D := (dC, dI)) (ci := 8) (v := .ref (ad 18)) (C := RX8) (T := TX8) (N := 10) hx hb hts hinX8 hown hK hP 5 rfl rfl 2 (by decide) hl_19 (fun _ h9 => h9) rfl dX8_run_45 ?_
      refine lv_iload_n hx hb dX8_run_48 rfl (lv_at hl 2 rfl) ?_
      refine lv_dup2_11 hx hb dX8_run_49 rfl rfl ?_
      obtain ⟨i_12, hm⟩ := ck_ok hm
      refine va_iald hx hb hK hP 6 0 rfl rfl i_12 dX8_run_50 ?_
      refine lv_iconst (v := 1) hx hb dX8_run_51 (by decide) ?_
      refine lv_ior hx hb dX8_run_52 ?_
      obtain ⟨i_13, hm⟩ := ck_ok hm
      refine va_iast hx hb hK hP hD hS 6 0 rfl rfl i_13 dX8_run_53 (fun H locs hP hD hS => ?_)
      have hP : va_P (dC, dI) vwCl [oRow ad xRow_depth xRow_length xRow_people xRow_scarves xRow_main xRow_faultPlace, ar (ad 3) cA 20 gRkinds, ar (ad 4) cA 20 gRlates, ar (ad 5) cA 20 gRhands, ar (ad 6) cA 20 gRslow, oSU ad xSU_sleeper_31 xSU_lastDue_31 xSU_unreached_31, ar (ad 18) cA 640 (upd gSUdue_31 v1_31.toNatClampNeg ((gSUdue_31 v1_31.toNatClampNeg) ||| 1)), ar (ad 19) cA 20 gSUbusy_31, ar (ad 20) cA 20 gSUfelt_31, ar (ad 21) cA 20 gSUlost_31, ar (ad 22) cA 20 gSUfirst_31] H := hP
      have hD : va_D A [oRow ad xRow_depth xRow_length xRow_people xRow_scarves xRow_main xRow_faultPlace, ar (ad 3) cA 20 gRkinds, ar (ad 4) cA 20 gRlates, ar (ad 5) cA 20 gRhands, ar (ad 6) cA 20 gRslow, oSU ad xSU_sleeper_31 xSU_lastDue_31 xSU_unreached_31, ar (ad 18) cA 640 (upd gSUdue_31 v1_31.toNatClampNeg ((gSUdue_31 v1_31.toNatClampNeg) ||| 1)), ar (ad 19) cA 20 gSUbusy_31, ar (ad 20) cA 20 gSUfelt_31, ar (ad 21) cA 20 gSUlost_31, ar (ad 22) cA 20 gSUfirst_31] := hD
      refine lv_aload_n hx hb dX8_run_54 rfl (lv_at hl 1 rfl) ?_
      refine lv_iconst (v := 0) hx hb dX8_run_55 (by decide) ?_
      refine va_put (D := (dC, dI)) (ci := 8) (v := .int 0) (ty := .int) (C := RX8) (T := TX8) (N := 10) hx hb hts hinX8 tyX8 tyX8_ok nmX8 hown hK hP hD hS 5 rfl rfl 8 (by decide) hl_47 (fun _ h9 => h9) rfl (by decide +kernel) rfl rfl (Nat.le_of_ble_eq_true rfl) dX8_run_56 (fun H locs hP hD hS => ?_)
      have hP : va_P (dC, dI) vwCl [oRow ad xRow_depth xRow_length xRow_people xRow_scarves xRow_main xRow_faultPlace, ar (ad 3) cA 20 gRkinds, ar (ad 4) cA 20 gRlates, ar (ad 5) cA 20 gRhands, ar (ad 6) cA 20 gRslow, oSU ad xSU_sleeper_31 0 xSU_unreached_31, ar (ad 18) cA 640 (upd gSUdue_31 v1_31.toNatClampNeg ((gSUdue_31 v1_31.toNatClampNeg) ||| 1)), ar (ad 19) cA 20 gSUbusy_31, ar (ad 20) cA 20 gSUfelt_31, ar (ad 21) cA 20 gSUlost_31, ar (ad 22) cA 20 gSUfirst_31] H := hP
      have hD : va_D A [oRow ad xRow_depth xRow_length xRow_people xRow_scarves xRow_main xRow_faultPlace, ar (ad 3) cA 20 gRkinds, ar (ad 4) cA 20 gRlates, ar (ad 5) cA 20 gRhands, ar (ad 6) cA 20 gRslow, oSU ad xSU_sleeper_31 0 xSU_unreached_31, ar (ad 18) cA 640 (upd gSUdue_31 v1_31.toNatClampNeg ((gSUdue_31 v1_31.toNatClampNeg) ||| 1)), ar (ad 19) cA 20 gSUbusy_31, ar (ad 20) cA 20 gSUfelt_31, ar (ad 21) cA 20 gSUlost_31, ar (ad 22) cA 20 gSUfirst_31] := hD
      exact b_59 _ _ _ _ _ _ _ _ _ _ _ hm _ _ hP hD hS _ (lv_sub hl [1, 3, 4, 0] rfl)
  have b_30 : ∀ (v1_30 : Int32) (v2_30 : Int32) (v3_30 : Int32) (xSU_sleeper_30 : Int32) (xSU_lastDue_30 : Int32) (xSU_unreached_30 : Int32) (gSUdue_30 : Nat → Int32) (gSUbusy_30 : Nat → Int32) (gSUfelt_30 : Nat → Int32) (gSUlost_30 : Nat → Int32) (gSUfirst_30 : Nat → Int32), fS_run_U_30 v1_30 v2_30 v3_30 xRow_people gRkinds gRlates gRhands gRslow xSU_sleeper_30 xSU_lastDue_30 xSU_unreached_30 gSUdue_30 gSUbusy_30 gSUfelt_30 gSUlost_30 gSUfirst_30 = some u → ∀ (H : Heap) (locs : List Loc), va_P (dC, dI) vwCl [oRow ad xRow_depth xRow_length xRow_people xRow_scarves xRow_main xRow_faultPlace, ar (ad 3) cA 20 gRkinds, ar (ad 4) cA 20 gRlates, ar (ad 5) cA 20 gRhands, ar (ad 6) cA 20 gRslow, oSU ad xSU_sleeper_30 xSU_lastDue_30 xSU_unreached_30, ar (ad 18) cA 640 gSUdue_30, ar (ad 19) cA 20 gSUbusy_30, ar (ad 20) cA 20 gSUfelt_30, ar (ad 21) cA 20 gSUlost_30, ar (ad 22) cA 20 gSUfirst_30] H → va_D A [oRow ad xRow_depth xRow_length xRow_people xRow_scarves xRow_main xRow_faultPlace, ar (ad 3) cA 20 gRkinds, ar (ad 4) cA 20 gRlates, ar (ad 5) cA 20 gRhands, ar (ad 6) cA 20 gRslow, oSU ad xSU_sleeper_30 xSU_lastDue_30 xSU_unreached_30, ar (ad 18) cA 640 gSUdue_30, ar (ad 19) cA 20 gSUbusy_30, ar (ad 20) cA 20 gSUfelt_30, ar (ad 21) cA 20 gSUlost_30, ar (ad 22) cA 20 gSUfirst_30] → va_S A s.heap H locs → ∀ ls : Array Slot, lv_has ls 8 [(0, .ref (ad 17)), (1, .int v1_30), (2, .int v2_30), (3, .int v3_30)] → W p l e (headSpec wsX8_run ({ frames := 3, cells := 0, slots := 0, locals := 76 })).room s m ([.ref (ad 17), .int a1, .int a2, .int a3, .int a4] : List Value).toArray below meth c H locs 0 0 QQ (F0 m 30 ls []) := by
    intro v1_30 v2_30 v3_30 xSU_sleeper_30 xSU_lastDue_30 xSU_unreached_30 gSUdue_30 gSUbusy_30 gSUfelt_30 gSUlost_30 gSUfirst_30 hm H locs hP hD hS ls hl
    unfold fS_run_U_30 at hm
    refine lv_iconst (v := 0) hx hb dX8_run_30 (by decide) ?_
    exact b_31 _ _ _ _ _ _ _ _ _ _ _ _ hm _ _ hP hD hS _ (lv_sub hl [0, 1, 2, 3] rfl)
  unfold fS_run_U at hm
  refine lv_aload_n hx hb dX8_run_0 rfl (lv_at hl 0 rfl) ?_
  have hPc := hP.sub (ws' := [oRow ad xRow_depth xRow_length xRow_people xRow_scarves xRow_main xRow_faultPlace, oSU ad xSU_sleeper xSU_lastDue xSU_unreached, ar (ad 18) cA 640 gSUdue, ar (ad 19) cA 20 gSUbusy, ar (ad 20) cA 20 gSUfelt, ar (ad 21) cA 20 gSUlost, ar (ad 22) cA 20 gSUfirst]) [0, 5, 6, 7, 8, 9, 10] rfl
  have hDc := hD.sub (ws' := [oRow ad xRow_depth xRow_length xRow_people xRow_scarves xRow_main xRow_faultPlace, oSU ad xSU_sleeper xSU_lastDue xSU_unreached, ar (ad 18) cA 640 gSUdue, ar (ad 19) cA 20 gSUbusy, ar (ad 20) cA 20 gSUfelt, ar (ad 21) cA 20 gSUlost, ar (ad 22) cA 20 gSUfirst]) [0, 5, 6, 7, 8, 9, 10] (by decide) rfl
  have hFc := va_free (wc := [oRow ad xRow_depth xRow_length xRow_people xRow_scarves xRow_main xRow_faultPlace, oSU ad xSU_sleeper xSU_lastDue xSU_unreached, ar (ad 18) cA 640 gSUdue, ar (ad 19) cA 20 gSUbusy, ar (ad 20) cA 20 gSUfelt, ar (ad 21) cA 20 gSUlost, ar (ad 22) cA 20 gSUfirst]) hD hS hA [0, 5, 6, 7, 8, 9, 10] rfl
  obtain ⟨u_14, hc_14, hm⟩ := bd_ok hm
  refine va_callv (va_runV (As := []) (rest := []) ⟨hx, hb, hml, hown, hts⟩ (kS_clear_U l dC dI cA ad s.heap.size xRow_depth xRow_length xRow_people xRow_scarves xRow_main xRow_faultPlace xSU_sleeper xSU_lastDue xSU_unreached gSUdue gSUbusy gSUfelt gSUlost gSUfirst u_14 hc_14) (cwV 0 hts gX8_run_X8_clear rfl rfl rfl (by decide +kernel) ⟨Nat.le_of_ble_eq_true rfl, Nat.le_of_ble_eq_true rfl⟩) ⟨fun a U g mk q => by obtain ⟨q0, q1, qP, qK, qD⟩ := q; exact ⟨q0, q1, qP, va_K.moved (u := U) (U := U.calling g mk a) (Vm.Alike.refl U.vm) qK, qD⟩, va_recv hK hPc (ci := 8) (q0 := 1) rfl rfl, fun U hU hW => ⟨rfl, by rw [hU], by rw [hU]; exact hPc, va_K.moved hW.alike hK, hDc.weaken (fun _ _ _ _ => trivial)⟩⟩ rfl rfl hl.1 rfl (lv_room (Nat.le_of_ble_eq_true rfl)) dX8_run_1 ⟨Nat.le_of_ble_eq_true rfl, Nat.le_of_ble_eq_true rfl⟩) hS (fun q _ h => hFc q h) hFc (fun _ t H1 locs ht hvm hw hB hz1 hk1 hS => ?_)
  obtain ⟨hP1, hK1, hD1⟩ := hB
  rw [ht] at hP1
  obtain ⟨hP, hD⟩ := va_join (wr := [ar (ad 3) cA 20 gRkinds, ar (ad 4) cA 20 gRlates, ar (ad 5) cA 20 gRhands, ar (ad 6) cA 20 gRslow]) (w1 := [oRow ad xRow_depth xRow_length xRow_people xRow_scarves xRow_main xRow_faultPlace, oSU ad xSU_sleeper u_14.1 u_14.2.1, ar (ad 18) cA 640 u_14.2.2.1, ar (ad 19) cA 20 u_14.2.2.2.1, ar (ad 20) cA 20 u_14.2.2.2.2.1, ar (ad 21) cA 20 u_14.2.2.2.2.2.1, ar (ad 22) cA 20 u_14.2.2.2.2.2.2]) hP hD [0, 5, 6, 7, 8, 9, 10] [1, 2, 3, 4] rfl rfl (by decide) (by decide) hk1 hFc hP1 hD1
  clear hPc hDc hFc hP1 hK1 hD1 hk1 hz1 hvm ht
  generalize H1 = H at hP hS ⊢
  have hP : va_P (dC, dI) vwCl [oRow ad xRow_depth xRow_length xRow_people xRow_scarves xRow_main xRow_faultPlace, ar (ad 3) cA 20 gRkinds, ar (ad 4) cA 20 gRlates, ar (ad 5) cA 20 gRhands, ar (ad 6) cA 20 gRslow, oSU ad xSU_sleeper u_14.1 u_14.2.1, ar (ad 18) cA 640 u_14.2.2.1, ar (ad 19) cA 20 u_14.2.2.2.1, ar (ad 20) cA 20 u_14.2.2.2.2.1, ar (ad 21) cA 20 u_14.2.2.2.2.2.1, ar (ad 22) cA 20 u_14.2.2.2.2.2.2] H := hP.sub [4, 0, 1, 2, 3, 5, 6, 7, 8, 9, 10] rfl
  have hD : va_D A [oRow ad xRow_depth xRow_length xRow_people xRow_scarves xRow_main xRow_faultPlace, ar (ad 3) cA 20 gRkinds, ar (ad 4) cA 20 gRlates, ar (ad 5) cA 20 gRhands, ar (ad 6) cA 20 gRslow, oSU ad xSU_sleeper u_14.1 u_14.2.1, ar (ad 18) cA 640 u_14.2.2.1, ar (ad 19) cA 20 u_14.2.2.2.1, ar (ad 20) cA 20 u_14.2.2.2.2.1, ar (ad 21) cA 20 u_14.2.2.2.2.2.1, ar (ad 22) cA 20 u_14.2.2.2.2.2.2] := hD.sub [4, 0, 1, 2, 3, 5, 6, 7, 8, 9, 10] (by decide) rfl
  refine lv_aload_n hx hb dX8_run_4 rfl (lv_at hl 0 rfl) ?_
  refine lv_iload hx hb dX8_run_5 (lv_at hl 4 rfl) ?_
  refine va_put (D := (dC, dI)) (ci := 8) (v := .int a4) (ty := .int) (C := RX8) (T := TX8) (N := 10) hx hb hts hinX8 tyX8 tyX8_ok nmX8 hown hK hP hD hS 5 rfl rfl 7 (by decide) hl_38 (fun _ h9 => h9) rfl (by decide +kernel) rfl rfl (Nat.le_of_ble_eq_true rfl) dX8_run_7 (fun H locs hP hD hS => ?_)
  have hP : va_P (dC, dI) vwCl [oRow ad xRow_depth xRow_length xRow_people xRow_scarves xRow_main xRow_faultPlace, ar (ad 3) cA 20 gRkinds, ar (ad 4) cA 20 gRlates, ar (ad 5) cA 20 gRhands, ar (ad 6) cA 20 gRslow, oSU ad a4 u_14.1 u_14.2.1, ar (ad 18) cA 640 u_14.2.2.1, ar (ad 19) cA 20 u_14.2.2.2.1, ar (ad 20) cA 20 u_14.2.2.2.2.1, ar (ad 21) cA 20 u_14.2.2.2.2.2.1, ar (ad 22) cA 20 u_14.2.2.2.2.2.2] H := hP
  have hD : va_D A [oRow ad xRow_depth xRow_length xRow_people xRow_scarves xRow_main xRow_faultPlace, ar (ad 3) cA 20 gRkinds, ar (ad 4) cA 20 gRlates, ar (ad 5) cA 20 gRhands, ar (ad 6) cA 20 gRslow, oSU ad a4 u_14.1 u_14.2.1, ar (ad 18) cA 640 u_14.2.2.1, ar (ad 19) cA 20 u_14.2.2.2.1, ar (ad 20) cA 20 u_14.2.2.2.2.1, ar (ad 21) cA 20 u_14.2.2.2.2.2.1, ar (ad 22) cA 20 u_14.2.2.2.2.2.2] := hD
  refine lv_iload_n hx hb dX8_run_10 rfl (lv_at hl 2 rfl) ?_
  refine lv_iconst (v := (-1)) hx hb dX8_run_11 (by decide) ?_
  refine lv_icmp_eq (tgt := 30) hx hb dX8_run_12 (by decide) (fun c_15 => ?_) (fun c_15 => ?_)
  · have hm := it_pos c_15 hm
    exact b_30 _ _ _ _ _ _ _ _ _ _ _ hm _ _ hP hD hS _ (lv_sub hl [0, 1, 2, 3] rfl)
  · have hm := it_neg c_15 hm
    refine lv_iload_n hx hb dX8_run_15 rfl (lv_at hl 2 rfl) ?_
    refine lv_aload_n hx hb dX8_run_16 rfl (lv_at hl 0 rfl) ?_
    refine va_get (D := (dC, dI)) (ci := 8) (v := .ref (ad 1)) (C := RX8) (T := TX8) (N := 10) hx hb hts hinX8 hown hK hP 5 rfl rfl 0 (by decide) hl_9 (fun _ h9 => h9) rfl dX8_run_17 ?_
    refine va_get (D := (dC, dI)) (ci := 5) (v := .int xRow_people) (C := RX5) (T := TX5) (N := 13) hx hb hts hinX5 hown hK hP 0 rfl rfl 9 (by decide) hl_42 (fun _ h9 => h9) rfl dX8_run_20 ?_
    refine lv_icmp_ge (tgt := 30) hx hb dX8_run_23 (by decide) (fun c_16 => ?_) (fun c_16 => ?_)
    · have hm := it_pos c_16 hm
      exact b_30 _ _ _ _ _ _ _ _ _ _ _ hm _ _ hP hD hS _ (lv_sub hl [0, 1, 2, 3] rfl)
    · have hm := it_neg c_16 hm
      refine lv_iconst (v := 1) hx hb dX8_run_26 (by decide) ?_
      refine lv_goto (tgt := 31) hx hb dX8_run_27 (by decide) ?_
      exact b_31 _ _ _ _ _ _ _ _ _ _ _ _ hm _ _ hP hD hS _ (lv_sub hl [0, 1, 2, 3] rfl)

set_option maxHeartbeats 4000000 in
set_option maxRecDepth 100000 in
theorem kS_feltAtLeast_U (l : Launch) (dC : Nat → ClassId) (dI : Nat → Nat → Nat) (cA : ClassId) (ad : Nat → Nat) (sz : Nat) (a1 : Int32) (xRow_depth : Int32) (xRow_length : Int32) (xRow_people : Int32) (xRow_scarves : Int32) (xRow_main : Int32) (xRow_faultPlace : Int32) (xSU_sleeper : Int32) (xSU_lastDue : Int32) (xSU_unreached : Int32) (gSUfelt : Nat → Int32) (u : Int32) (hm : fS_feltAtLeast_U a1 xRow_people gSUfelt = some u) : Met l yX8_feltAtLeast wsX8_feltAtLeast ({ frames := 0, cells := 0, slots := 0, locals := 0 }) (va_Pc [.ref (ad 17), .int a1] (fun U => U.heap.size = sz ∧ va_P (dC, dI) vwCl [oRow ad xRow_depth xRow_length xRow_people xRow_scarves xRow_main xRow_faultPlace, oSU ad xSU_sleeper xSU_lastDue xSU_unreached, ar (ad 20) cA 20 gSUfelt] U.heap ∧ va_K (dC, dI) vwCl [(cA, .int)] U ∧ va_D (fun _ => True) [oRow ad xRow_depth xRow_length xRow_people xRow_scarves xRow_main xRow_faultPlace, oSU ad xSU_sleeper xSU_lastDue xSU_unreached, ar (ad 20) cA 20 gSUfelt])) (va_Qi (fun (r : Int32) (_ : Unit) => r = u) (fun (_ : Unit) t => va_P (dC, dI) vwCl [oRow ad xRow_depth xRow_length xRow_people xRow_scarves xRow_main xRow_faultPlace, oSU ad xSU_sleeper xSU_lastDue xSU_unreached, ar (ad 20) cA 20 gSUfelt] t.heap ∧ va_K (dC, dI) vwCl [(cA, .int)] t ∧ va_D (va_A [oRow ad xRow_depth xRow_length xRow_people xRow_scarves xRow_main xRow_faultPlace, oSU ad xSU_sleeper xSU_lastDue xSU_unreached, ar (ad 20) cA 20 gSUfelt] sz) [oRow ad xRow_depth xRow_length xRow_people xRow_scarves xRow_main xRow_faultPlace, oSU ad xSU_sleeper xSU_lastDue xSU_unreached, ar (ad 20) cA 20 gSUfelt]) (va_A [oRow ad xRow_depth xRow_length xRow_people xRow_scarves xRow_main xRow_faultPlace, oSU ad xSU_sleeper xSU_lastDue xSU_unreached, ar (ad 20) cA 20 gSUfelt] sz)) 0 0 (va_A [oRow ad xRow_depth xRow_length xRow_people xRow_scarves xRow_main xRow_faultPlace, oSU ad xSU_sleeper xSU_lastDue xSU_unreached, ar (ad 20) cA 20 gSUfelt] sz) := by
  refine Met.ofW (cc := cX8_feltAtLeast) (maxL := 4) (ret := (some .int)) (by decide) rfl ?_
  intro p e s m args below meth c s₁ B hml hv
  obtain ⟨rfl, hsz, hP, hK, hD0⟩ := hv
  have hx := B.exec
  have hb := B.bytes
  have hr := B.returns
  have hts := atoms_spec (ws := wsX8_feltAtLeast) B.pre
  have hown : s.vm.findClass RX8 = some m.cls := findClass_of_methodNamed B.named
  have hlocks := B.notSynchronized
  subst hsz
  have hD := hD0.self (sz := s.heap.size)
  generalize hAe : va_A [oRow ad xRow_depth xRow_length xRow_people xRow_scarves xRow_main xRow_faultPlace, oSU ad xSU_sleeper xSU_lastDue xSU_unreached, ar (ad 20) cA 20 gSUfelt] s.heap.size = A at hD ⊢
  have hA : ∀ q : Nat, s.heap.size ≤ q → A q := fun q h => by rw [← hAe]; exact Or.inr h
  have hS : va_S A s.heap s.heap [] := va_S.rf
  have hl := lv_entry ([.ref (ad 17), .int a1]) (n := 4) (Nat.le_of_ble_eq_true rfl)
  rw [lg_entry_eq]
  generalize (lg_sl ([.ref (ad 17), .int a1]) ++ List.replicate (4 - (lg_sl ([.ref (ad 17), .int a1])).length) Slot.unset).toArray = ls at hl ⊢
  have hl : lv_has ls 4 [(0, .ref (ad 17)), (1, .int a1)] := hl
  refine wk_Q (fun QQ hQ => ?_)
  have hinX8 : ∀ w ∈ wsX80, w ∈ wsX8_feltAtLeast := fun w h => List.mem_cons_of_mem _ (inlX8 w h)
  have hl_9 := hts (.fieldLink RX8 9 "HandCensus$Squeeze" "row" "LHandCensus$Row;") (List.mem_cons_of_mem _ (in_r4 _ (List.mem_of_getElem? (i := 2) rfl)))
  have hinX5 : ∀ w ∈ wsX50, w ∈ wsX8_feltAtLeast := fun w h => List.mem_cons_of_mem _ (inlX5 w h)
  have hl_42 := hts (.fieldLink RX8 42 "HandCensus$Row" "people" "I") (List.mem_cons_of_mem _ (in_r14 _ (List.mem_of_getElem? (i := 19) rfl)))
  have hl_26 := hts (.fieldLink RX8 26 "HandCensus$Squeeze" "feltMany" "[I") (List.mem_cons_of_mem _ (in_r4 _ (List.mem_of_getElem? (i := 6) rfl)))
  have h_4 : ∀ (v1_4 : Int32), ∀ (n_4 : Nat), ∀ (v2_4 : Int32) (v3_4 : Int32), fS_feltAtLeast_U_4 v1_4 xRow_people gSUfelt n_4 v2_4 v3_4 = some u → ∀ (H : Heap) (locs : List Loc), va_P (dC, dI) vwCl [oRow ad xRow_depth xRow_length xRow_people xRow_scarves xRow_main xRow_faultPlace, oSU ad xSU_sleeper xSU_lastDue xSU_unreached, ar (ad 20) cA 20 gSUfelt] H → va_D A [oRow ad xRow_depth xRow_length xRow_people xRow_scarves xRow_main xRow_faultPlace, oSU ad xSU_sleeper xSU_lastDue xSU_unreached, ar (ad 20) cA 20 gSUfelt] → va_S A s.heap H locs → ∀ ls : Array Slot, lv_has ls 4 [(0, .ref (ad 17)), (1, .int v1_4), (2, .int v2_4), (3, .int v3_4)] → W p l e (headSpec wsX8_feltAtLeast ({ frames := 0, cells := 0, slots := 0, locals := 0 })).room s m ([.ref (ad 17), .int a1] : List Value).toArray below meth c H locs 0 0 QQ (F0 m 4 ls []) := by
    intro v1_4
    intro n_4
    induction n_4 with
    | zero => intro v2_4 v3_4 hm; have hm : (none : Option (Int32)) = some u := hm; cases hm
    | succ n_4 ih_4 =>
      have b_31 : ∀ (v2_31 : Int32) (v3_31 : Int32), fS_feltAtLeast_U_31 (fS_feltAtLeast_U_4  v1_4 xRow_people gSUfelt n_4) v1_4 v2_31 v3_31 xRow_people gSUfelt = some u → ∀ (H : Heap) (locs : List Loc), va_P (dC, dI) vwCl [oRow ad xRow_depth xRow_length xRow_people xRow_scarves xRow_main xRow_faultPlace, oSU ad xSU_sleeper xSU_lastDue xSU_unreached, ar (ad 20) cA 20 gSUfelt] H → va_D A [oRow ad xRow_depth xRow_length xRow_people xRow_scarves xRow_main xRow_faultPlace, oSU ad xSU_sleeper xSU_lastDue xSU_unreached, ar (ad 20) cA 20 gSUfelt] → va_S A s.heap H locs → ∀ ls : Array Slot, lv_has ls 4 [(0, .ref (ad 17)), (1, .int v1_4), (2, .int v2_31), (3, .int v3_31)] → W p l e (headSpec wsX8_feltAtLeast ({ frames := 0, cells := 0, slots := 0, locals := 0 })).room s m ([.ref (ad 17), .int a1] : List Value).toArray below meth c H locs 0 0 QQ (F0 m 31 ls []) := by
        intro v2_31 v3_31 hm H locs hP hD hS ls hl
        unfold fS_feltAtLeast_U_31 at hm
        refine lv_iinc (v := (v3_31 + 1)) (lv' := [(3, .int (v3_31 + 1)), (0, .ref (ad 17)), (1, .int v1_4), (2, .int v2_31)]) hx hb dX8_feltAtLeast_31 hl (k := 3) rfl rfl (by decide) rfl (fun ls hl => ?_)
        refine lv_goto (tgt := 4) hx hb dX8_feltAtLeast_34 (by decide) ?_
        exact ih_4 _ _ hm _ _ hP hD hS _ (lv_sub hl [1, 2, 3, 0] rfl)
      intro v2_4 v3_4 hm H locs hP hD hS ls hl
      have hm : fS_feltAtLeast_U_4_b  (fS_feltAtLeast_U_4  v1_4 xRow_people gSUfelt n_4) v1_4 xRow_people gSUfelt v2_4 v3_4 = some u := hm
      unfold fS_feltAtLeast_U_4_b at hm
      refine lv_iload_n hx hb dX8_feltAtLeast_4 rfl (lv_at hl 3 rfl) ?_
      refine lv_aload_n hx hb dX8_feltAtLeast_5 rfl (lv_at hl 0 rfl) ?_
      refine va_get (D := (dC, dI)) (ci := 8) (v := .ref (ad 1)) (C := RX8) (T := TX8) (N := 10) hx hb hts hinX8 hown hK hP 1 rfl rfl 0 (by decide) hl_9 (fun _ h9 => h9) rfl dX8_feltAtLeast_6 ?_
      refine va_get (D := (dC, dI)) (ci := 5) (v := .int xRow_people) (C := RX5) (T := TX5) (N := 13) hx hb hts hinX5 hown hK hP 0 rfl rfl 9 (by decide) hl_42 (fun _ h9 => h9) rfl dX8_feltAtLeast_9 ?_
      refine lv_icmp_ge (tgt := 37) hx hb dX8_feltAtLeast_12 (by decide) (fun c_1 => ?_) (fun c_1 => ?_)
      · have hm := it_pos c_1 hm
        refine lv_iload_n hx hb dX8_feltAtLeast_37 rfl (lv_at hl 2 rfl) ?_
        obtain rfl := Option.some.inj hm
        subst hQ
        exact W.iret (v := v2_4) hx hb hr (fun t ht hW => ⟨⟨_, (), rfl, rfl, by rw [ht]; exact hP, va_K.moved hW.alike hK, hAe ▸ hD⟩, hS.F ht⟩) hS.2.2 dX8_feltAtLeast_38
      · have hm := it_neg c_1 hm
        refine lv_aload_n hx hb dX8_feltAtLeast_15 rfl (lv_at hl 0 rfl) ?_
        refine va_get (D := (dC, dI)) (ci := 8) (v := .ref (ad 20)) (C := RX8) (T := TX8) (N := 10) hx hb hts hinX8 hown hK hP 1 rfl rfl 4 (by decide) hl_26 (fun _ h9 => h9) rfl dX8_feltAtLeast_16 ?_
        refine lv_iload_n hx hb dX8_feltAtLeast_19 rfl (lv_at hl 3 rfl) ?_
        obtain ⟨i_2, hm⟩ := ck_ok hm
        refine va_iald hx hb hK hP 2 0 rfl rfl i_2 dX8_feltAtLeast_20 ?_
        refine lv_iload_n hx hb dX8_feltAtLeast_21 rfl (lv_at hl 1 rfl) ?_
        refine lv_icmp_lt (tgt := 31) hx hb dX8_feltAtLeast_22 (by decide) (fun c_3 => ?_) (fun c_3 => ?_)
        · have hm := it_pos c_3 hm
          exact b_31 _ _ hm _ _ hP hD hS _ (lv_sub hl [0, 1, 2, 3] rfl)
        · have hm := it_neg c_3 hm
          refine lv_iload_n hx hb dX8_feltAtLeast_25 rfl (lv_at hl 2 rfl) ?_
          refine lv_iconst (v := 1) hx hb dX8_feltAtLeast_26 (by decide) ?_
          refine lv_iload_n hx hb dX8_feltAtLeast_27 rfl (lv_at hl 3 rfl) ?_
          refine lv_ishl hx hb dX8_feltAtLeast_28 ?_
          refine lv_ior hx hb dX8_feltAtLeast_29 ?_
          refine lv_istore_n (lv' := [(2, .int (v2_4 ||| (1 <<< (v3_4 &&& 31)))), (0, .ref (ad 17)), (1, .int v1_4), (3, .int v3_4)]) hx hb dX8_feltAtLeast_30 rfl hl (by decide) rfl (fun ls hl => ?_)
          exact b_31 _ _ hm _ _ hP hD hS _ (lv_sub hl [1, 2, 0, 3] rfl)
  unfold fS_feltAtLeast_U at hm
  refine lv_iconst (v := 0) hx hb dX8_feltAtLeast_0 (by decide) ?_
  refine lv_istore_n (lv' := [(2, .int 0), (0, .ref (ad 17)), (1, .int a1)]) hx hb dX8_feltAtLeast_1 rfl hl (by decide) rfl (fun ls hl => ?_)
  refine lv_iconst (v := 0) hx hb dX8_feltAtLeast_2 (by decide) ?_
  refine lv_istore_n (lv' := [(3, .int 0), (2, .int 0), (0, .ref (ad 17)), (1, .int a1)]) hx hb dX8_feltAtLeast_3 rfl hl (by decide) rfl (fun ls hl => ?_)
  exact h_4 _ _ _ _ hm _ _ hP hD hS _ (lv_sub hl [2, 3, 1, 0] rfl)

set_option maxHeartbeats 4000000 in
set_option maxRecDepth 100000 in
theorem kS_reachedBits_U (l : Launch) (dC : Nat → ClassId) (dI : Nat → Nat → Nat) (cA : ClassId) (ad : Nat → Nat) (sz : Nat) (xRow_depth : Int32) (xRow_length : Int32) (xRow_people : Int32) (xRow_scarves : Int32) (xRow_main : Int32) (xRow_faultPlace : Int32) (xSU_sleeper : Int32) (xSU_lastDue : Int32) (xSU_unreached : Int32) (gSUfelt : Nat → Int32) (u : Int32) (hm : fS_reachedBits_U xRow_people gSUfelt = some u) : Met l yX8_reachedBits wsX8_reachedBits ({ frames := 1, cells := 0, slots := 0, locals := 23 }) (va_Pc [.ref (ad 17)] (fun U => U.heap.size = sz ∧ va_P (dC, dI) vwCl [oRow ad xRow_depth xRow_length xRow_people xRow_scarves xRow_main xRow_faultPlace, oSU ad xSU_sleeper xSU_lastDue xSU_unreached, ar (ad 20) cA 20 gSUfelt] U.heap ∧ va_K (dC, dI) vwCl [(cA, .int)] U ∧ va_D (fun _ => True) [oRow ad xRow_depth xRow_length xRow_people xRow_scarves xRow_main xRow_faultPlace, oSU ad xSU_sleeper xSU_lastDue xSU_unreached, ar (ad 20) cA 20 gSUfelt])) (va_Qi (fun (r : Int32) (_ : Unit) => r = u) (fun (_ : Unit) t => va_P (dC, dI) vwCl [oRow ad xRow_depth xRow_length xRow_people xRow_scarves xRow_main xRow_faultPlace, oSU ad xSU_sleeper xSU_lastDue xSU_unreached, ar (ad 20) cA 20 gSUfelt] t.heap ∧ va_K (dC, dI) vwCl [(cA, .int)] t ∧ va_D (va_A [oRow ad xRow_depth xRow_length xRow_people xRow_scarves xRow_main xRow_faultPlace, oSU ad xSU_sleeper xSU_lastDue xSU_unreached, ar (ad 20) cA 20 gSUfelt] sz) [oRow ad xRow_depth xRow_length xRow_people xRow_scarves xRow_main xRow_faultPlace, oSU ad xSU_sleeper xSU_lastDue xSU_unreached, ar (ad 20) cA 20 gSUfelt]) (va_A [oRow ad xRow_depth xRow_length xRow_people xRow_scarves xRow_main xRow_faultPlace, oSU ad xSU_sleeper xSU_lastDue xSU_unreached, ar (ad 20) cA 20 gSUfelt] sz)) 0 0 (va_A [oRow ad xRow_depth xRow_length xRow_people xRow_scarves xRow_main xRow_faultPlace, oSU ad xSU_sleeper xSU_lastDue xSU_unreached, ar (ad 20) cA 20 gSUfelt] sz) := by
  refine Met.ofW (cc := cX8_reachedBits) (maxL := 1) (ret := (some .int)) (by decide) rfl ?_
  intro p e s m args below meth c s₁ B hml hv
  obtain ⟨rfl, hsz, hP, hK, hD0⟩ := hv
  have hx := B.exec
  have hb := B.bytes
  have hr := B.returns
  have hts := atoms_spec (ws := wsX8_reachedBits) B.pre
  have hown : s.vm.findClass RX8 = some m.cls := findClass_of_methodNamed B.named
  have hlocks := B.notSynchronized
  subst hsz
  have hD := hD0.self (sz := s.heap.size)
  generalize hAe : va_A [oRow ad xRow_depth xRow_length xRow_people xRow_scarves xRow_main xRow_faultPlace, oSU ad xSU_sleeper xSU_lastDue xSU_unreached, ar (ad 20) cA 20 gSUfelt] s.heap.size = A at hD ⊢
  have hA : ∀ q : Nat, s.heap.size ≤ q → A q := fun q h => by rw [← hAe]; exact Or.inr h
  have hS : va_S A s.heap s.heap [] := va_S.rf
  have hl := lv_entry ([.ref (ad 17)]) (n := 1) (Nat.le_of_ble_eq_true rfl)
  rw [lg_entry_eq]
  generalize (lg_sl ([.ref (ad 17)]) ++ List.replicate (1 - (lg_sl ([.ref (ad 17)])).length) Slot.unset).toArray = ls at hl ⊢
  have hl : lv_has ls 1 [(0, .ref (ad 17))] := hl
  refine wk_Q (fun QQ hQ => ?_)
  unfold fS_reachedBits_U at hm
  refine lv_aload_n hx hb dX8_reachedBits_0 rfl (lv_at hl 0 rfl) ?_
  refine lv_iconst (v := 1) hx hb dX8_reachedBits_1 (by decide) ?_
  have hPc := hP.sub (ws' := [oRow ad xRow_depth xRow_length xRow_people xRow_scarves xRow_main xRow_faultPlace, oSU ad xSU_sleeper xSU_lastDue xSU_unreached, ar (ad 20) cA 20 gSUfelt]) [0, 1, 2] rfl
  have hDc := hD.sub (ws' := [oRow ad xRow_depth xRow_length xRow_people xRow_scarves xRow_main xRow_faultPlace, oSU ad xSU_sleeper xSU_lastDue xSU_unreached, ar (ad 20) cA 20 gSUfelt]) [0, 1, 2] (by decide) rfl
  have hFc := va_free (wc := [oRow ad xRow_depth xRow_length xRow_people xRow_scarves xRow_main xRow_faultPlace, oSU ad xSU_sleeper xSU_lastDue xSU_unreached, ar (ad 20) cA 20 gSUfelt]) hD hS hA [0, 1, 2] rfl
  obtain ⟨u_1, hc_1, hm⟩ := bd_ok hm
  refine va_calli (va_runV (As := [.int 1]) (rest := []) ⟨hx, hb, hml, hown, hts⟩ (kS_feltAtLeast_U l dC dI cA ad s.heap.size 1 xRow_depth xRow_length xRow_people xRow_scarves xRow_main xRow_faultPlace xSU_sleeper xSU_lastDue xSU_unreached gSUfelt u_1 hc_1) (cwV 1 hts gX8_reachedBits_X8_feltAtLeast rfl rfl rfl (by decide +kernel) ⟨Nat.le_of_ble_eq_true rfl, Nat.le_of_ble_eq_true rfl⟩) ⟨fun a U g mk q => by obtain ⟨q0, q1, qP, qK, qD⟩ := q; exact ⟨q0, q1, qP, va_K.moved (u := U) (U := U.calling g mk a) (Vm.Alike.refl U.vm) qK, qD⟩, va_recv hK hPc (ci := 8) (q0 := 1) rfl rfl, fun U hU hW => ⟨rfl, by rw [hU], by rw [hU]; exact hPc, va_K.moved hW.alike hK, hDc.weaken (fun _ _ _ _ => trivial)⟩⟩ rfl rfl hl.1 rfl (lv_room (Nat.le_of_ble_eq_true rfl)) dX8_reachedBits_2 ⟨Nat.le_of_ble_eq_true rfl, Nat.le_of_ble_eq_true rfl⟩) hS (fun q _ h => hFc q h) hFc (fun r_1 _ t H1 locs ht hvm hw hB hz1 hk1 hS => ?_)
  obtain ⟨hP1, hK1, hD1⟩ := hB
  rw [ht] at hP1
  obtain ⟨hP, hD⟩ := va_join (wr := []) (w1 := [oRow ad xRow_depth xRow_length xRow_people xRow_scarves xRow_main xRow_faultPlace, oSU ad xSU_sleeper xSU_lastDue xSU_unreached, ar (ad 20) cA 20 gSUfelt]) hP hD [0, 1, 2] [] rfl rfl (by decide) (by decide) hk1 hFc hP1 hD1
  clear hPc hDc hFc hP1 hK1 hD1 hk1 hz1 hvm ht
  generalize H1 = H at hP hS ⊢
  have hP : va_P (dC, dI) vwCl [oRow ad xRow_depth xRow_length xRow_people xRow_scarves xRow_main xRow_faultPlace, oSU ad xSU_sleeper xSU_lastDue xSU_unreached, ar (ad 20) cA 20 gSUfelt] H := hP
  have hD : va_D A [oRow ad xRow_depth xRow_length xRow_people xRow_scarves xRow_main xRow_faultPlace, oSU ad xSU_sleeper xSU_lastDue xSU_unreached, ar (ad 20) cA 20 gSUfelt] := hD
  have hw := hw.symm
  subst hw
  obtain rfl := Option.some.inj hm
  subst hQ
  exact W.iret (v := u_1) hx hb hr (fun t ht hW => ⟨⟨_, (), rfl, rfl, by rw [ht]; exact hP, va_K.moved hW.alike hK, hAe ▸ hD⟩, hS.F ht⟩) hS.2.2 dX8_reachedBits_5

set_option maxHeartbeats 4000000 in
set_option maxRecDepth 100000 in
theorem kJ_bitCount (l : Launch) (dC : Nat → ClassId) (dI : Nat → Nat → Nat) (cA : ClassId) (sz : Nat) (a0 : Int32) (u : Int32) (hm : fJ_bitCount a0 = some u) : Met l yJ6_bitCount_0f7a4 wsJ6_bitCount_0f7a4 ({ frames := 0, cells := 0, slots := 0, locals := 0 }) (va_Pc [.int a0] (fun U => U.heap.size = sz ∧ va_P (dC, dI) vwCl [] U.heap ∧ va_K (dC, dI) vwCl [(cA, .int)] U ∧ va_D (fun _ => True) [])) (va_Qi (fun (r : Int32) (_ : Unit) => r = u) (fun (_ : Unit) t => va_P (dC, dI) vwCl [] t.heap ∧ va_K (dC, dI) vwCl [(cA, .int)] t ∧ va_D (va_A [] sz) []) (va_A [] sz)) 0 0 (va_A [] sz) := by
  refine Met.ofW (cc := cJ6_bitCount_0f7a4) (maxL := 1) (ret := (some .int)) (by decide) rfl ?_
  intro p e s m args below meth c s₁ B hml hv
  obtain ⟨rfl, hsz, hP, hK, hD0⟩ := hv
  have hx := B.exec
  have hb := B.bytes
  have hr := B.returns
  have hts := atoms_spec (ws := wsJ6_bitCount_0f7a4) B.pre
  have hown : s.vm.findClass RJ6 = some m.cls := findClass_of_methodNamed B.named
  have hlocks := B.notSynchronized
  subst hsz
  have hD := hD0.self (sz := s.heap.size)
  generalize hAe : va_A [] s.heap.size = A at hD ⊢
  have hA : ∀ q : Nat, s.heap.size ≤ q → A q := fun q h => by rw [← hAe]; exact Or.inr h
  have hS : va_S A s.heap s.heap [] := va_S.rf
  have hl := lv_entry ([.int a0]) (n := 1) (Nat.le_of_ble_eq_true rfl)
  rw [lg_entry_eq]
  generalize (lg_sl ([.int a0]) ++ List.replicate (1 - (lg_sl ([.int a0])).length) Slot.unset).toArray = ls at hl ⊢
  have hl : lv_has ls 1 [(0, .int a0)] := hl
  refine wk_Q (fun QQ hQ => ?_)
  have hw_0 := hts (.constant RJ6 265 (1431655765)) (List.mem_cons_of_mem _ (in_r25 _ (List.mem_of_getElem? (i := 17) rfl)))
  have hw_1 := hts (.constant RJ6 266 (858993459)) (List.mem_cons_of_mem _ (in_r25 _ (List.mem_of_getElem? (i := 18) rfl)))
  have hw_2 := hts (.constant RJ6 267 (252645135)) (List.mem_cons_of_mem _ (in_r25 _ (List.mem_of_getElem? (i := 19) rfl)))
  unfold fJ_bitCount at hm
  refine lv_iload_n hx hb dJ6_bitCount_0f7a4_0 rfl (lv_at hl 0 rfl) ?_
  refine lv_iload_n hx hb dJ6_bitCount_0f7a4_1 rfl (lv_at hl 0 rfl) ?_
  refine lv_iconst (v := 1) hx hb dJ6_bitCount_0f7a4_2 (by decide) ?_
  refine lv_iushr hx hb dJ6_bitCount_0f7a4_3 rfl ?_
  refine lv_ldcw hx hb hown hw_0 dJ6_bitCount_0f7a4_4 ?_
  refine lv_iand hx hb dJ6_bitCount_0f7a4_7 ?_
  refine lv_isub hx hb dJ6_bitCount_0f7a4_8 ?_
  refine lv_topi (fun y1 ey1 => ?_)
  have hm := nm_in ey1 hm
  refine lv_istore_n (lv' := [(0, .int y1)]) hx hb dJ6_bitCount_0f7a4_9 rfl hl (by decide) rfl (fun ls hl => ?_)
  refine lv_iload_n hx hb dJ6_bitCount_0f7a4_10 rfl (lv_at hl 0 rfl) ?_
  refine lv_ldcw hx hb hown hw_1 dJ6_bitCount_0f7a4_11 ?_
  refine lv_iand hx hb dJ6_bitCount_0f7a4_14 ?_
  refine lv_iload_n hx hb dJ6_bitCount_0f7a4_15 rfl (lv_at hl 0 rfl) ?_
  refine lv_iconst (v := 2) hx hb dJ6_bitCount_0f7a4_16 (by decide) ?_
  refine lv_iushr hx hb dJ6_bitCount_0f7a4_17 rfl ?_
  refine lv_ldcw hx hb hown hw_1 dJ6_bitCount_0f7a4_18 ?_
  refine lv_iand hx hb dJ6_bitCount_0f7a4_21 ?_
  refine lv_iadd hx hb dJ6_bitCount_0f7a4_22 ?_
  refine lv_topi (fun y2 ey2 => ?_)
  have hm := nm_in ey2 hm
  refine lv_istore_n (lv' := [(0, .int y2)]) hx hb dJ6_bitCount_0f7a4_23 rfl hl (by decide) rfl (fun ls hl => ?_)
  refine lv_iload_n hx hb dJ6_bitCount_0f7a4_24 rfl (lv_at hl 0 rfl) ?_
  refine lv_iload_n hx hb dJ6_bitCount_0f7a4_25 rfl (lv_at hl 0 rfl) ?_
  refine lv_iconst (v := 4) hx hb dJ6_bitCount_0f7a4_26 (by decide) ?_
  refine lv_iushr hx hb dJ6_bitCount_0f7a4_27 rfl ?_
  refine lv_iadd hx hb dJ6_bitCount_0f7a4_28 ?_
  refine lv_ldcw hx hb hown hw_2 dJ6_bitCount_0f7a4_29 ?_
  refine lv_iand hx hb dJ6_bitCount_0f7a4_32 ?_
  refine lv_topi (fun y3 ey3 => ?_)
  have hm := nm_in ey3 hm
  refine lv_istore_n (lv' := [(0, .int y3)]) hx hb dJ6_bitCount_0f7a4_33 rfl hl (by decide) rfl (fun ls hl => ?_)
  refine lv_iload_n hx hb dJ6_bitCount_0f7a4_34 rfl (lv_at hl 0 rfl) ?_
  refine lv_iload_n hx hb dJ6_bitCount_0f7a4_35 rfl (lv_at hl 0 rfl) ?_
  refine lv_bipush (v := 8) hx hb dJ6_bitCount_0f7a4_36 (by decide) ?_
  refine lv_iushr hx hb dJ6_bitCount_0f7a4_38 rfl ?_
  refine lv_iadd hx hb dJ6_bitCount_0f7a4_39 ?_
  refine lv_topi (fun y4 ey4 => ?_)
  have hm := nm_in ey4 hm
  refine lv_istore_n (lv' := [(0, .int y4)]) hx hb dJ6_bitCount_0f7a4_40 rfl hl (by decide) rfl (fun ls hl => ?_)
  refine lv_iload_n hx hb dJ6_bitCount_0f7a4_41 rfl (lv_at hl 0 rfl) ?_
  refine lv_iload_n hx hb dJ6_bitCount_0f7a4_42 rfl (lv_at hl 0 rfl) ?_
  refine lv_bipush (v := 16) hx hb dJ6_bitCount_0f7a4_43 (by decide) ?_
  refine lv_iushr hx hb dJ6_bitCount_0f7a4_45 rfl ?_
  refine lv_iadd hx hb dJ6_bitCount_0f7a4_46 ?_
  refine lv_topi (fun y5 ey5 => ?_)
  have hm := nm_in ey5 hm
  refine lv_istore_n (lv' := [(0, .int y5)]) hx hb dJ6_bitCount_0f7a4_47 rfl hl (by decide) rfl (fun ls hl => ?_)
  refine lv_iload_n hx hb dJ6_bitCount_0f7a4_48 rfl (lv_at hl 0 rfl) ?_
  refine lv_bipush (v := 63) hx hb dJ6_bitCount_0f7a4_49 (by decide) ?_
  refine lv_iand hx hb dJ6_bitCount_0f7a4_51 ?_
  obtain rfl := Option.some.inj hm
  subst hQ
  exact W.iret (v := (y5 &&& 63)) hx hb hr (fun t ht hW => ⟨⟨_, (), rfl, rfl, by rw [ht]; exact hP, va_K.moved hW.alike hK, hAe ▸ hD⟩, hS.F ht⟩) hS.2.2 dJ6_bitCount_0f7a4_52

set_option maxHeartbeats 4000000 in
set_option maxRecDepth 100000 in
theorem kS_lastTime_U (l : Launch) (dC : Nat → ClassId) (dI : Nat → Nat → Nat) (cA : ClassId) (ad : Nat → Nat) (sz : Nat) (xRow_depth : Int32) (xRow_length : Int32) (xRow_people : Int32) (xRow_scarves : Int32) (xRow_main : Int32) (xRow_faultPlace : Int32) (xSU_sleeper : Int32) (xSU_lastDue : Int32) (xSU_unreached : Int32) (gSUfirst : Nat → Int32) (u : Int32) (hm : fS_lastTime_U xRow_people gSUfirst = some u) : Met l yX8_lastTime wsX8_lastTime ({ frames := 1, cells := 0, slots := 0, locals := 21 }) (va_Pc [.ref (ad 17)] (fun U => U.heap.size = sz ∧ va_P (dC, dI) vwCl [oRow ad xRow_depth xRow_length xRow_people xRow_scarves xRow_main xRow_faultPlace, oSU ad xSU_sleeper xSU_lastDue xSU_unreached, ar (ad 22) cA 20 gSUfirst] U.heap ∧ va_K (dC, dI) vwCl [(cA, .int)] U ∧ va_D (fun _ => True) [oRow ad xRow_depth xRow_length xRow_people xRow_scarves xRow_main xRow_faultPlace, oSU ad xSU_sleeper xSU_lastDue xSU_unreached, ar (ad 22) cA 20 gSUfirst])) (va_Qi (fun (r : Int32) (_ : Unit) => r = u) (fun (_ : Unit) t => va_P (dC, dI) vwCl [oRow ad xRow_depth xRow_length xRow_people xRow_scarves xRow_main xRow_faultPlace, oSU ad xSU_sleeper xSU_lastDue xSU_unreached, ar (ad 22) cA 20 gSUfirst] t.heap ∧ va_K (dC, dI) vwCl [(cA, .int)] t ∧ va_D (va_A [oRow ad xRow_depth xRow_length xRow_people xRow_scarves xRow_main xRow_faultPlace, oSU ad xSU_sleeper xSU_lastDue xSU_unreached, ar (ad 22) cA 20 gSUfirst] sz) [oRow ad xRow_depth xRow_length xRow_people xRow_scarves xRow_main xRow_faultPlace, oSU ad xSU_sleeper xSU_lastDue xSU_unreached, ar (ad 22) cA 20 gSUfirst]) (va_A [oRow ad xRow_depth xRow_length xRow_people xRow_scarves xRow_main xRow_faultPlace, oSU ad xSU_sleeper xSU_lastDue xSU_unreached, ar (ad 22) cA 20 gSUfirst] sz)) 0 0 (va_A [oRow ad xRow_depth xRow_length xRow_people xRow_scarves xRow_main xRow_faultPlace, oSU ad xSU_sleeper xSU_lastDue xSU_unreached, ar (ad 22) cA 20 gSUfirst] sz) := by
  refine Met.ofW (cc := cX8_lastTime) (maxL := 3) (ret := (some .int)) (by decide) rfl ?_
  intro p e s m args below meth c s₁ B hml hv
  obtain ⟨rfl, hsz, hP, hK, hD0⟩ := hv
  have hx := B.exec
  have hb := B.bytes
  have hr := B.returns
  have hts := atoms_spec (ws := wsX8_lastTime) B.pre
  have hown : s.vm.findClass RX8 = some m.cls := findClass_of_methodNamed B.named
  have hlocks := B.notSynchronized
  subst hsz
  have hD := hD0.self (sz := s.heap.size)
  generalize hAe : va_A [oRow ad xRow_depth xRow_length xRow_people xRow_scarves xRow_main xRow_faultPlace, oSU ad xSU_sleeper xSU_lastDue xSU_unreached, ar (ad 22) cA 20 gSUfirst] s.heap.size = A at hD ⊢
  have hA : ∀ q : Nat, s.heap.size ≤ q → A q := fun q h => by rw [← hAe]; exact Or.inr h
  have hS : va_S A s.heap s.heap [] := va_S.rf
  have hl := lv_entry ([.ref (ad 17)]) (n := 3) (Nat.le_of_ble_eq_true rfl)
  rw [lg_entry_eq]
  generalize (lg_sl ([.ref (ad 17)]) ++ List.replicate (3 - (lg_sl ([.ref (ad 17)])).length) Slot.unset).toArray = ls at hl ⊢
  have hl : lv_has ls 3 [(0, .ref (ad 17))] := hl
  refine wk_Q (fun QQ hQ => ?_)
  have hinX8 : ∀ w ∈ wsX80, w ∈ wsX8_lastTime := fun w h => List.mem_cons_of_mem _ (inlX8 w h)
  have hl_9 := hts (.fieldLink RX8 9 "HandCensus$Squeeze" "row" "LHandCensus$Row;") (List.mem_cons_of_mem _ (in_r4 _ (List.mem_of_getElem? (i := 2) rfl)))
  have hinX5 : ∀ w ∈ wsX50, w ∈ wsX8_lastTime := fun w h => List.mem_cons_of_mem _ (inlX5 w h)
  have hl_42 := hts (.fieldLink RX8 42 "HandCensus$Row" "people" "I") (List.mem_cons_of_mem _ (in_r14 _ (List.mem_of_getElem? (i := 19) rfl)))
  have hl_32 := hts (.fieldLink RX8 32 "HandCensus$Squeeze" "firstAt" "[I") (List.mem_cons_of_mem _ (in_r4 _ (List.mem_of_getElem? (i := 8) rfl)))
  have hw_3 := hts (.methodLink RX8 99 Lib.Math.max.name) (List.mem_cons_of_mem _ (in_r23 _ (List.mem_of_getElem? (i := 6) rfl)))
  have hw_4 := hts (.static Lib.Math.max.name) (List.mem_cons_of_mem _ (in_r15 _ (List.mem_of_getElem? (i := 14) rfl)))
  have hw_5 := hts (.initialized "java/lang/Math") (List.mem_cons_of_mem _ (in_r15 _ (List.mem_of_getElem? (i := 11) rfl)))
  have hw_6 := hts (.code Lib.Math.max.name Lib.Math.max.code 2 (some .int)) (List.mem_cons_of_mem _ (in_r15 _ (List.mem_of_getElem? (i := 15) rfl)))
  have h_4 : ∀ (n_4 : Nat), ∀ (v1_4 : Int32) (v2_4 : Int32), fS_lastTime_U_4 xRow_people gSUfirst n_4 v1_4 v2_4 = some u → ∀ (H : Heap) (locs : List Loc), va_P (dC, dI) vwCl [oRow ad xRow_depth xRow_length xRow_people xRow_scarves xRow_main xRow_faultPlace, oSU ad xSU_sleeper xSU_lastDue xSU_unreached, ar (ad 22) cA 20 gSUfirst] H → va_D A [oRow ad xRow_depth xRow_length xRow_people xRow_scarves xRow_main xRow_faultPlace, oSU ad xSU_sleeper xSU_lastDue xSU_unreached, ar (ad 22) cA 20 gSUfirst] → va_S A s.heap H locs → ∀ ls : Array Slot, lv_has ls 3 [(0, .ref (ad 17)), (1, .int v1_4), (2, .int v2_4)] → W p l e (headSpec wsX8_lastTime ({ frames := 1, cells := 0, slots := 0, locals := 21 })).room s m ([.ref (ad 17)] : List Value).toArray below meth c H locs 0 0 QQ (F0 m 4 ls []) := by
    intro n_4
    induction n_4 with
    | zero => intro v1_4 v2_4 hm; have hm : (none : Option (Int32)) = some u := hm; cases hm
    | succ n_4 ih_4 =>
      intro v1_4 v2_4 hm H locs hP hD hS ls hl
      have hm : fS_lastTime_U_4_b  (fS_lastTime_U_4  xRow_people gSUfirst n_4) xRow_people gSUfirst v1_4 v2_4 = some u := hm
      unfold fS_lastTime_U_4_b at hm
      refine lv_iload_n hx hb dX8_lastTime_4 rfl (lv_at hl 2 rfl) ?_
      refine lv_aload_n hx hb dX8_lastTime_5 rfl (lv_at hl 0 rfl) ?_
      refine va_get (D := (dC, dI)) (ci := 8) (v := .ref (ad 1)) (C := RX8) (T := TX8) (N := 10) hx hb hts hinX8 hown hK hP 1 rfl rfl 0 (by decide) hl_9 (fun _ h9 => h9) rfl dX8_lastTime_6 ?_
      refine va_get (D := (dC, dI)) (ci := 5) (v := .int xRow_people) (C := RX5) (T := TX5) (N := 13) hx hb hts hinX5 hown hK hP 0 rfl rfl 9 (by decide) hl_42 (fun _ h9 => h9) rfl dX8_lastTime_9 ?_
      refine lv_icmp_ge (tgt := 32) hx hb dX8_lastTime_12 (by decide) (fun c_1 => ?_) (fun c_1 => ?_)
      · have hm := it_pos c_1 hm
        refine lv_iload_n hx hb dX8_lastTime_32 rfl (lv_at hl 1 rfl) ?_
        obtain rfl := Option.some.inj hm
        subst hQ
        exact W.iret (v := v1_4) hx hb hr (fun t ht hW => ⟨⟨_, (), rfl, rfl, by rw [ht]; exact hP, va_K.moved hW.alike hK, hAe ▸ hD⟩, hS.F ht⟩) hS.2.2 dX8_lastTime_33
      · have hm := it_neg c_1 hm
        refine lv_iload_n hx hb dX8_lastTime_15 rfl (lv_at hl 1 rfl) ?_
        refine lv_aload_n hx hb dX8_lastTime_16 rfl (lv_at hl 0 rfl) ?_
        refine va_get (D := (dC, dI)) (ci := 8) (v := .ref (ad 22)) (C := RX8) (T := TX8) (N := 10) hx hb hts hinX8 hown hK hP 1 rfl rfl 6 (by decide) hl_32 (fun _ h9 => h9) rfl dX8_lastTime_17 ?_
        refine lv_iload_n hx hb dX8_lastTime_20 rfl (lv_at hl 2 rfl) ?_
        obtain ⟨i_2, hm⟩ := ck_ok hm
        refine va_iald hx hb hK hP 2 0 rfl rfl i_2 dX8_lastTime_21 ?_
        refine va_mmax hx hb (by rw [hml]; exact hl.1.symm) hown hw_3 hw_4 hw_5 hw_6 (Nat.le_of_ble_eq_true rfl) (Nat.le_of_ble_eq_true rfl) (by first | exact Nat.zero_le _ | (show _ ≤ _ - _; omega)) (by first | exact Nat.zero_le _ | (show _ ≤ 2 * (_ - _); omega)) dX8_lastTime_22 ?_
        refine lv_topi (fun y3 ey3 => ?_)
        have hm := nm_in ey3 hm
        refine lv_istore_n (lv' := [(1, .int y3), (0, .ref (ad 17)), (2, .int v2_4)]) hx hb dX8_lastTime_25 rfl hl (by decide) rfl (fun ls hl => ?_)
        refine lv_iinc (v := (v2_4 + 1)) (lv' := [(2, .int (v2_4 + 1)), (1, .int y3), (0, .ref (ad 17))]) hx hb dX8_lastTime_26 hl (k := 2) rfl rfl (by decide) rfl (fun ls hl => ?_)
        refine lv_goto (tgt := 4) hx hb dX8_lastTime_29 (by decide) ?_
        exact ih_4 _ _ hm _ _ hP hD hS _ (lv_sub hl [2, 1, 0] rfl)
  unfold fS_lastTime_U at hm
  refine lv_iconst (v := (-1)) hx hb dX8_lastTime_0 (by decide) ?_
  refine lv_istore_n (lv' := [(1, .int (-1)), (0, .ref (ad 17))]) hx hb dX8_lastTime_1 rfl hl (by decide) rfl (fun ls hl => ?_)
  refine lv_iconst (v := 0) hx hb dX8_lastTime_2 (by decide) ?_
  refine lv_istore_n (lv' := [(2, .int 0), (1, .int (-1)), (0, .ref (ad 17))]) hx hb dX8_lastTime_3 rfl hl (by decide) rfl (fun ls hl => ?_)
  exact h_4 _ _ _ hm _ _ hP hD hS _ (lv_sub hl [2, 1, 0] rfl)

set_option maxHeartbeats 4000000 in
set_option maxRecDepth 100000 in
theorem kB_compare (l : Launch) (dC : Nat → ClassId) (dI : Nat → Nat → Nat) (cA : ClassId) (ad : Nat → Nat) (sz : Nat) (a1 : Int32) (a2 : Int32) (a3 : Int32) (xBeg_who : Int32) (xBeg_reaches : Int32) (xBeg_lastTime : Int32) (xBeg_known : Int32) (u : Int32 × Int32 × Int32) (hm : fB_compare a1 a2 a3 xBeg_who xBeg_reaches xBeg_lastTime = some u) : Met l yX0_compare wsX0_compare ({ frames := 0, cells := 0, slots := 0, locals := 0 }) (va_Pc [.ref (ad 23), .int a1, .int a2, .int a3] (fun U => U.heap.size = sz ∧ va_P (dC, dI) vwCl [oBeg ad xBeg_who xBeg_reaches xBeg_lastTime xBeg_known] U.heap ∧ va_K (dC, dI) vwCl [(cA, .int)] U ∧ va_D (fun _ => True) [oBeg ad xBeg_who xBeg_reaches xBeg_lastTime xBeg_known])) (va_Qv (fun (_ : Unit) => True) (fun (_ : Unit) t => va_P (dC, dI) vwCl [oBeg ad u.1 u.2.1 u.2.2 xBeg_known] t.heap ∧ va_K (dC, dI) vwCl [(cA, .int)] t ∧ va_D (va_A [oBeg ad xBeg_who xBeg_reaches xBeg_lastTime xBeg_known] sz) [oBeg ad u.1 u.2.1 u.2.2 xBeg_known]) (va_A [oBeg ad xBeg_who xBeg_reaches xBeg_lastTime xBeg_known] sz)) 0 0 (va_A [oBeg ad xBeg_who xBeg_reaches xBeg_lastTime xBeg_known] sz) := by
  refine Met.ofW (cc := cX0_compare) (maxL := 4) (ret := none) (by decide) rfl ?_
  intro p e s m args below meth c s₁ B hml hv
  obtain ⟨rfl, hsz, hP, hK, hD0⟩ := hv
  have hx := B.exec
  have hb := B.bytes
  have hr := B.returns
  have hts := atoms_spec (ws := wsX0_compare) B.pre
  have hown : s.vm.findClass RX0 = some m.cls := findClass_of_methodNamed B.named
  have hlocks := B.notSynchronized
  subst hsz
  have hD := hD0.self (sz := s.heap.size)
  generalize hAe : va_A [oBeg ad xBeg_who xBeg_reaches xBeg_lastTime xBeg_known] s.heap.size = A at hD ⊢
  have hA : ∀ q : Nat, s.heap.size ≤ q → A q := fun q h => by rw [← hAe]; exact Or.inr h
  have hS : va_S A s.heap s.heap [] := va_S.rf
  have hl := lv_entry ([.ref (ad 23), .int a1, .int a2, .int a3]) (n := 4) (Nat.le_of_ble_eq_true rfl)
  rw [lg_entry_eq]
  generalize (lg_sl ([.ref (ad 23), .int a1, .int a2, .int a3]) ++ List.replicate (4 - (lg_sl ([.ref (ad 23), .int a1, .int a2, .int a3])).length) Slot.unset).toArray = ls at hl ⊢
  have hl : lv_has ls 4 [(0, .ref (ad 23)), (1, .int a1), (2, .int a2), (3, .int a3)] := hl
  refine wk_Q (fun QQ hQ => ?_)
  have hinX0 : ∀ w ∈ wsX00, w ∈ wsX0_compare := fun w h => List.mem_cons_of_mem _ (inlX0 w h)
  have hl_23 := hts (.fieldLink RX0 23 "HandCensus$Beginning" "who" "I") (List.mem_cons_of_mem _ (in_r25 _ (List.mem_of_getElem? (i := 7) rfl)))
  have hl_27 := hts (.fieldLink RX0 27 "HandCensus$Beginning" "reaches" "I") (List.mem_cons_of_mem _ (in_r25 _ (List.mem_of_getElem? (i := 8) rfl)))
  have hl_30 := hts (.fieldLink RX0 30 "HandCensus$Beginning" "lastTime" "I") (List.mem_cons_of_mem _ (in_r25 _ (List.mem_of_getElem? (i := 9) rfl)))
  have b_24 : ∀ (v1_24 : Int32) (v2_24 : Int32) (v3_24 : Int32) (xBeg_who_24 : Int32) (xBeg_reaches_24 : Int32) (xBeg_lastTime_24 : Int32), fB_compare_24 v1_24 v2_24 v3_24 xBeg_who_24 xBeg_reaches_24 xBeg_lastTime_24 = some u → ∀ (H : Heap) (locs : List Loc), va_P (dC, dI) vwCl [oBeg ad xBeg_who_24 xBeg_reaches_24 xBeg_lastTime_24 xBeg_known] H → va_D A [oBeg ad xBeg_who_24 xBeg_reaches_24 xBeg_lastTime_24 xBeg_known] → va_S A s.heap H locs → ∀ ls : Array Slot, lv_has ls 4 [(0, .ref (ad 23)), (1, .int v1_24), (2, .int v2_24), (3, .int v3_24)] → W p l e (headSpec wsX0_compare ({ frames := 0, cells := 0, slots := 0, locals := 0 })).room s m ([.ref (ad 23), .int a1, .int a2, .int a3] : List Value).toArray below meth c H locs 0 0 QQ (F0 m 24 ls []) := by
    intro v1_24 v2_24 v3_24 xBeg_who_24 xBeg_reaches_24 xBeg_lastTime_24 hm H locs hP hD hS ls hl
    unfold fB_compare_24 at hm
    refine lv_aload_n hx hb dX0_compare_24 rfl (lv_at hl 0 rfl) ?_
    refine lv_iload_n hx hb dX0_compare_25 rfl (lv_at hl 1 rfl) ?_
    refine va_put (D := (dC, dI)) (ci := 0) (v := .int v1_24) (ty := .int) (C := RX0) (T := TX0) (N := 6) hx hb hts hinX0 tyX0 tyX0_ok nmX0 hown hK hP hD hS 0 rfl rfl 2 (by decide) hl_23 (fun _ h9 => h9) rfl (by decide +kernel) rfl rfl (Nat.le_of_ble_eq_true rfl) dX0_compare_26 (fun H locs hP hD hS => ?_)
    have hP : va_P (dC, dI) vwCl [oBeg ad v1_24 xBeg_reaches_24 xBeg_lastTime_24 xBeg_known] H := hP
    have hD : va_D A [oBeg ad v1_24 xBeg_reaches_24 xBeg_lastTime_24 xBeg_known] := hD
    refine lv_aload_n hx hb dX0_compare_29 rfl (lv_at hl 0 rfl) ?_
    refine lv_iload_n hx hb dX0_compare_30 rfl (lv_at hl 2 rfl) ?_
    refine va_put (D := (dC, dI)) (ci := 0) (v := .int v2_24) (ty := .int) (C := RX0) (T := TX0) (N := 6) hx hb hts hinX0 tyX0 tyX0_ok nmX0 hown hK hP hD hS 0 rfl rfl 3 (by decide) hl_27 (fun _ h9 => h9) rfl (by decide +kernel) rfl rfl (Nat.le_of_ble_eq_true rfl) dX0_compare_31 (fun H locs hP hD hS => ?_)
    have hP : va_P (dC, dI) vwCl [oBeg ad v1_24 v2_24 xBeg_lastTime_24 xBeg_known] H := hP
    have hD : va_D A [oBeg ad v1_24 v2_24 xBeg_lastTime_24 xBeg_known] := hD
    refine lv_aload_n hx hb dX0_compare_34 rfl (lv_at hl 0 rfl) ?_
    refine lv_iload_n hx hb dX0_compare_35 rfl (lv_at hl 3 rfl) ?_
    refine va_put (D := (dC, dI)) (ci := 0) (v := .int v3_24) (ty := .int) (C := RX0) (T := TX0) (N := 6) hx hb hts hinX0 tyX0 tyX0_ok nmX0 hown hK hP hD hS 0 rfl rfl 4 (by decide) hl_30 (fun _ h9 => h9) rfl (by decide +kernel) rfl rfl (Nat.le_of_ble_eq_true rfl) dX0_compare_36 (fun H locs hP hD hS => ?_)
    have hP : va_P (dC, dI) vwCl [oBeg ad v1_24 v2_24 v3_24 xBeg_known] H := hP
    have hD : va_D A [oBeg ad v1_24 v2_24 v3_24 xBeg_known] := hD
    obtain rfl := Option.some.inj hm
    subst hQ
    exact W.vret hx hb hr (fun t ht hW => ⟨⟨(), rfl, trivial, by rw [ht]; exact hP, va_K.moved hW.alike hK, hAe ▸ hD⟩, hS.F ht⟩) hS.2.2 dX0_compare_39
  unfold fB_compare at hm
  refine lv_iload_n hx hb dX0_compare_0 rfl (lv_at hl 2 rfl) ?_
  refine lv_aload_n hx hb dX0_compare_1 rfl (lv_at hl 0 rfl) ?_
  refine va_get (D := (dC, dI)) (ci := 0) (v := .int xBeg_reaches) (C := RX0) (T := TX0) (N := 6) hx hb hts hinX0 hown hK hP 0 rfl rfl 3 (by decide) hl_27 (fun _ h9 => h9) rfl dX0_compare_2 ?_
  refine lv_icmp_gt (tgt := 24) hx hb dX0_compare_5 (by decide) (fun c_1 => ?_) (fun c_1 => ?_)
  · have hm := it_pos c_1 hm
    exact b_24 _ _ _ _ _ _ hm _ _ hP hD hS _ (lv_sub hl [0, 1, 2, 3] rfl)
  · have hm := it_neg c_1 hm
    refine lv_iload_n hx hb dX0_compare_8 rfl (lv_at hl 2 rfl) ?_
    refine lv_aload_n hx hb dX0_compare_9 rfl (lv_at hl 0 rfl) ?_
    refine va_get (D := (dC, dI)) (ci := 0) (v := .int xBeg_reaches) (C := RX0) (T := TX0) (N := 6) hx hb hts hinX0 hown hK hP 0 rfl rfl 3 (by decide) hl_27 (fun _ h9 => h9) rfl dX0_compare_10 ?_
    refine lv_icmp_ne (tgt := 39) hx hb dX0_compare_13 (by decide) (fun c_2 => ?_) (fun c_2 => ?_)
    · have hm := it_neg c_2 hm
      obtain rfl := Option.some.inj hm
      subst hQ
      exact W.vret hx hb hr (fun t ht hW => ⟨⟨(), rfl, trivial, by rw [ht]; exact hP, va_K.moved hW.alike hK, hAe ▸ hD⟩, hS.F ht⟩) hS.2.2 dX0_compare_39
    · have hm := it_pos c_2 hm
      refine lv_iload_n hx hb dX0_compare_16 rfl (lv_at hl 3 rfl) ?_
      refine lv_aload_n hx hb dX0_compare_17 rfl (lv_at hl 0 rfl) ?_
      refine va_get (D := (dC, dI)) (ci := 0) (v := .int xBeg_lastTime) (C := RX0) (T := TX0) (N := 6) hx hb hts hinX0 hown hK hP 0 rfl rfl 4 (by decide) hl_30 (fun _ h9 => h9) rfl dX0_compare_18 ?_
      refine lv_icmp_ge (tgt := 39) hx hb dX0_compare_21 (by decide) (fun c_3 => ?_) (fun c_3 => ?_)
      · have hm := it_pos c_3 hm
        obtain rfl := Option.some.inj hm
        subst hQ
        exact W.vret hx hb hr (fun t ht hW => ⟨⟨(), rfl, trivial, by rw [ht]; exact hP, va_K.moved hW.alike hK, hAe ▸ hD⟩, hS.F ht⟩) hS.2.2 dX0_compare_39
      · have hm := it_neg c_3 hm
        exact b_24 _ _ _ _ _ _ hm _ _ hP hD hS _ (lv_sub hl [0, 1, 2, 3] rfl)

set_option maxHeartbeats 4000000 in
set_option maxRecDepth 100000 in
theorem kB_findOut (l : Launch) (dC : Nat → ClassId) (dI : Nat → Nat → Nat) (cA : ClassId) (ad : Nat → Nat) (sz : Nat) (xRow_depth : Int32) (xRow_length : Int32) (xRow_people : Int32) (xRow_scarves : Int32) (xRow_main : Int32) (xRow_faultPlace : Int32) (gRkinds : Nat → Int32) (gRlates : Nat → Int32) (gRhands : Nat → Int32) (gRslow : Nat → Int32) (xSU_sleeper : Int32) (xSU_lastDue : Int32) (xSU_unreached : Int32) (gSUdue : Nat → Int32) (gSUbusy : Nat → Int32) (gSUfelt : Nat → Int32) (gSUlost : Nat → Int32) (gSUfirst : Nat → Int32) (xBeg_who : Int32) (xBeg_reaches : Int32) (xBeg_lastTime : Int32) (xBeg_known : Int32) (u : Int32 × Int32 × Int32 × (Nat → Int32) × (Nat → Int32) × (Nat → Int32) × (Nat → Int32) × (Nat → Int32) × Int32 × Int32 × Int32 × Int32) (hm : fB_findOut xRow_people gRkinds gRlates gRhands gRslow xSU_sleeper xSU_lastDue xSU_unreached gSUdue gSUbusy gSUfelt gSUlost gSUfirst xBeg_who xBeg_reaches xBeg_lastTime xBeg_known = some u) : Met l yX0_findOut wsX0_findOut ({ frames := 4, cells := 0, slots := 0, locals := 103 }) (va_Pc [.ref (ad 23)] (fun U => U.heap.size = sz ∧ va_P (dC, dI) vwCl [oRow ad xRow_depth xRow_length xRow_people xRow_scarves xRow_main xRow_faultPlace, ar (ad 3) cA 20 gRkinds, ar (ad 4) cA 20 gRlates, ar (ad 5) cA 20 gRhands, ar (ad 6) cA 20 gRslow, oSU ad xSU_sleeper xSU_lastDue xSU_unreached, ar (ad 18) cA 640 gSUdue, ar (ad 19) cA 20 gSUbusy, ar (ad 20) cA 20 gSUfelt, ar (ad 21) cA 20 gSUlost, ar (ad 22) cA 20 gSUfirst, oBeg ad xBeg_who xBeg_reaches xBeg_lastTime xBeg_known] U.heap ∧ va_K (dC, dI) vwCl [(cA, .int)] U ∧ va_D (fun _ => True) [oRow ad xRow_depth xRow_length xRow_people xRow_scarves xRow_main xRow_faultPlace, ar (ad 3) cA 20 gRkinds, ar (ad 4) cA 20 gRlates, ar (ad 5) cA 20 gRhands, ar (ad 6) cA 20 gRslow, oSU ad xSU_sleeper xSU_lastDue xSU_unreached, ar (ad 18) cA 640 gSUdue, ar (ad 19) cA 20 gSUbusy, ar (ad 20) cA 20 gSUfelt, ar (ad 21) cA 20 gSUlost, ar (ad 22) cA 20 gSUfirst, oBeg ad xBeg_who xBeg_reaches xBeg_lastTime xBeg_known])) (va_Qv (fun (_ : Unit) => True) (fun (_ : Unit) t => va_P (dC, dI) vwCl [oRow ad xRow_depth xRow_length xRow_people xRow_scarves xRow_main xRow_faultPlace, ar (ad 3) cA 20 gRkinds, ar (ad 4) cA 20 gRlates, ar (ad 5) cA 20 gRhands, ar (ad 6) cA 20 gRslow, oSU ad u.1 u.2.1 u.2.2.1, ar (ad 18) cA 640 u.2.2.2.1, ar (ad 19) cA 20 u.2.2.2.2.1, ar (ad 20) cA 20 u.2.2.2.2.2.1, ar (ad 21) cA 20 u.2.2.2.2.2.2.1, ar (ad 22) cA 20 u.2.2.2.2.2.2.2.1, oBeg ad u.2.2.2.2.2.2.2.2.1 u.2.2.2.2.2.2.2.2.2.1 u.2.2.2.2.2.2.2.2.2.2.1 u.2.2.2.2.2.2.2.2.2.2.2] t.heap ∧ va_K (dC, dI) vwCl [(cA, .int)] t ∧ va_D (va_A [oRow ad xRow_depth xRow_length xRow_people xRow_scarves xRow_main xRow_faultPlace, ar (ad 3) cA 20 gRkinds, ar (ad 4) cA 20 gRlates, ar (ad 5) cA 20 gRhands, ar (ad 6) cA 20 gRslow, oSU ad xSU_sleeper xSU_lastDue xSU_unreached, ar (ad 18) cA 640 gSUdue, ar (ad 19) cA 20 gSUbusy, ar (ad 20) cA 20 gSUfelt, ar (ad 21) cA 20 gSUlost, ar (ad 22) cA 20 gSUfirst, oBeg ad xBeg_who xBeg_reaches xBeg_lastTime xBeg_known] sz) [oRow ad xRow_depth xRow_length xRow_people xRow_scarves xRow_main xRow_faultPlace, ar (ad 3) cA 20 gRkinds, ar (ad 4) cA 20 gRlates, ar (ad 5) cA 20 gRhands, ar (ad 6) cA 20 gRslow, oSU ad u.1 u.2.1 u.2.2.1, ar (ad 18) cA 640 u.2.2.2.1, ar (ad 19) cA 20 u.2.2.2.2.1, ar (ad 20) cA 20 u.2.2.2.2.2.1, ar (ad 21) cA 20 u.2.2.2.2.2.2.1, ar (ad 22) cA 20 u.2.2.2.2.2.2.2.1, oBeg ad u.2.2.2.2.2.2.2.2.1 u.2.2.2.2.2.2.2.2.2.1 u.2.2.2.2.2.2.2.2.2.2.1 u.2.2.2.2.2.2.2.2.2.2.2]) (va_A [oRow ad xRow_depth xRow_length xRow_people xRow_scarves xRow_main xRow_faultPlace, ar (ad 3) cA 20 gRkinds, ar (ad 4) cA 20 gRlates, ar (ad 5) cA 20 gRhands, ar (ad 6) cA 20 gRslow, oSU ad xSU_sleeper xSU_lastDue xSU_unreached, ar (ad 18) cA 640 gSUdue, ar (ad 19) cA 20 gSUbusy, ar (ad 20) cA 20 gSUfelt, ar (ad 21) cA 20 gSUlost, ar (ad 22) cA 20 gSUfirst, oBeg ad xBeg_who xBeg_reaches xBeg_lastTime xBeg_known] sz)) 0 0 (va_A [oRow ad xRow_depth xRow_length xRow_people xRow_scarves xRow_main xRow_faultPlace, ar (ad 3) cA 20 gRkinds, ar (ad 4) cA 20 gRlates, ar (ad 5) cA 20 gRhands, ar (ad 6) cA 20 gRslow, oSU ad xSU_sleeper xSU_lastDue xSU_unreached, ar (ad 18) cA 640 gSUdue, ar (ad 19) cA 20 gSUbusy, ar (ad 20) cA 20 gSUfelt, ar (ad 21) cA 20 gSUlost, ar (ad 22) cA 20 gSUfirst, oBeg ad xBeg_who xBeg_reaches xBeg_lastTime xBeg_known] sz) := by
  refine Met.ofW (cc := cX0_findOut) (maxL := 2) (ret := none) (by decide) rfl ?_
  intro p e s m args below meth c s₁ B hml hv
  obtain ⟨rfl, hsz, hP, hK, hD0⟩ := hv
  have hx := B.exec
  have hb := B.bytes
  have hr := B.returns
  have hts := atoms_spec (ws := wsX0_findOut) B.pre
  have hown : s.vm.findClass RX0 = some m.cls := findClass_of_methodNamed B.named
  have hlocks := B.notSynchronized
  subst hsz
  have hD := hD0.self (sz := s.heap.size)
  generalize hAe : va_A [oRow ad xRow_depth xRow_length xRow_people xRow_scarves xRow_main xRow_faultPlace, ar (ad 3) cA 20 gRkinds, ar (ad 4) cA 20 gRlates, ar (ad 5) cA 20 gRhands, ar (ad 6) cA 20 gRslow, oSU ad xSU_sleeper xSU_lastDue xSU_unreached, ar (ad 18) cA 640 gSUdue, ar (ad 19) cA 20 gSUbusy, ar (ad 20) cA 20 gSUfelt, ar (ad 21) cA 20 gSUlost, ar (ad 22) cA 20 gSUfirst, oBeg ad xBeg_who xBeg_reaches xBeg_lastTime xBeg_known] s.heap.size = A at hD ⊢
  have hA : ∀ q : Nat, s.heap.size ≤ q → A q := fun q h => by rw [← hAe]; exact Or.inr h
  have hS : va_S A s.heap s.heap [] := va_S.rf
  have hl := lv_entry ([.ref (ad 23)]) (n := 2) (Nat.le_of_ble_eq_true rfl)
  rw [lg_entry_eq]
  generalize (lg_sl ([.ref (ad 23)]) ++ List.replicate (2 - (lg_sl ([.ref (ad 23)])).length) Slot.unset).toArray = ls at hl ⊢
  have hl : lv_has ls 2 [(0, .ref (ad 23))] := hl
  refine wk_Q (fun QQ hQ => ?_)
  have hinX0 : ∀ w ∈ wsX00, w ∈ wsX0_findOut := fun w h => List.mem_cons_of_mem _ (inlX0 w h)
  have hl_9 := hts (.fieldLink RX0 9 "HandCensus$Beginning" "row" "LHandCensus$Row;") (List.mem_cons_of_mem _ (in_r4 _ (List.mem_of_getElem? (i := 13) rfl)))
  have hinX5 : ∀ w ∈ wsX50, w ∈ wsX0_findOut := fun w h => List.mem_cons_of_mem _ (inlX5 w h)
  have hl_33 := hts (.fieldLink RX0 33 "HandCensus$Row" "people" "I") (List.mem_cons_of_mem _ (in_r25 _ (List.mem_of_getElem? (i := 10) rfl)))
  have hl_19 := hts (.fieldLink RX0 19 "HandCensus$Beginning" "known" "Z") (List.mem_cons_of_mem _ (in_r4 _ (List.mem_of_getElem? (i := 15) rfl)))
  have hl_15 := hts (.fieldLink RX0 15 "HandCensus$Beginning" "trial" "LHandCensus$Squeeze;") (List.mem_cons_of_mem _ (in_r4 _ (List.mem_of_getElem? (i := 14) rfl)))
  have hl_23 := hts (.fieldLink RX0 23 "HandCensus$Beginning" "who" "I") (List.mem_cons_of_mem _ (in_r25 _ (List.mem_of_getElem? (i := 7) rfl)))
  have hl_27 := hts (.fieldLink RX0 27 "HandCensus$Beginning" "reaches" "I") (List.mem_cons_of_mem _ (in_r25 _ (List.mem_of_getElem? (i := 8) rfl)))
  have hl_30 := hts (.fieldLink RX0 30 "HandCensus$Beginning" "lastTime" "I") (List.mem_cons_of_mem _ (in_r25 _ (List.mem_of_getElem? (i := 9) rfl)))
  have h_25 : ∀ (xBeg_known_25 : Int32), ∀ (n_25 : Nat), ∀ (v1_25 : Int32) (xSU_sleeper_25 : Int32) (xSU_lastDue_25 : Int32) (xSU_unreached_25 : Int32) (gSUdue_25 : Nat → Int32) (gSUbusy_25 : Nat → Int32) (gSUfelt_25 : Nat → Int32) (gSUlost_25 : Nat → Int32) (gSUfirst_25 : Nat → Int32) (xBeg_who_25 : Int32) (xBeg_reaches_25 : Int32) (xBeg_lastTime_25 : Int32), fB_findOut_25 xRow_people gRkinds gRlates gRhands gRslow xBeg_known_25 n_25 v1_25 xSU_sleeper_25 xSU_lastDue_25 xSU_unreached_25 gSUdue_25 gSUbusy_25 gSUfelt_25 gSUlost_25 gSUfirst_25 xBeg_who_25 xBeg_reaches_25 xBeg_lastTime_25 = some u → ∀ (H : Heap) (locs : List Loc), va_P (dC, dI) vwCl [oRow ad xRow_depth xRow_length xRow_people xRow_scarves xRow_main xRow_faultPlace, ar (ad 3) cA 20 gRkinds, ar (ad 4) cA 20 gRlates, ar (ad 5) cA 20 gRhands, ar (ad 6) cA 20 gRslow, oSU ad xSU_sleeper_25 xSU_lastDue_25 xSU_unreached_25, ar (ad 18) cA 640 gSUdue_25, ar (ad 19) cA 20 gSUbusy_25, ar (ad 20) cA 20 gSUfelt_25, ar (ad 21) cA 20 gSUlost_25, ar (ad 22) cA 20 gSUfirst_25, oBeg ad xBeg_who_25 xBeg_reaches_25 xBeg_lastTime_25 xBeg_known_25] H → va_D A [oRow ad xRow_depth xRow_length xRow_people xRow_scarves xRow_main xRow_faultPlace, ar (ad 3) cA 20 gRkinds, ar (ad 4) cA 20 gRlates, ar (ad 5) cA 20 gRhands, ar (ad 6) cA 20 gRslow, oSU ad xSU_sleeper_25 xSU_lastDue_25 xSU_unreached_25, ar (ad 18) cA 640 gSUdue_25, ar (ad 19) cA 20 gSUbusy_25, ar (ad 20) cA 20 gSUfelt_25, ar (ad 21) cA 20 gSUlost_25, ar (ad 22) cA 20 gSUfirst_25, oBeg ad xBeg_who_25 xBeg_reaches_25 xBeg_lastTime_25 xBeg_known_25] → va_S A s.heap H locs → ∀ ls : Array Slot, lv_has ls 2 [(0, .ref (ad 23)), (1, .int v1_25)] → W p l e (headSpec wsX0_findOut ({ frames := 4, cells := 0, slots := 0, locals := 103 })).room s m ([.ref (ad 23)] : List Value).toArray below meth c H locs 0 0 QQ (F0 m 25 ls []) := by
    intro xBeg_known_25
    intro n_25
    induction n_25 with
    | zero => intro v1_25 xSU_sleeper_25 xSU_lastDue_25 xSU_unreached_25 gSUdue_25 gSUbusy_25 gSUfelt_25 gSUlost_25 gSUfirst_25 xBeg_who_25 xBeg_reaches_25 xBeg_lastTime_25 hm; have hm : (none : Option (Int32 × Int32 × Int32 × (Nat → Int32) × (Nat → Int32) × (Nat → Int32) × (Nat → Int32) × (Nat → Int32) × Int32 × Int32 × Int32 × Int32)) = some u := hm; cases hm
    | succ n_25 ih_25 =>
      intro v1_25 xSU_sleeper_25 xSU_lastDue_25 xSU_unreached_25 gSUdue_25 gSUbusy_25 gSUfelt_25 gSUlost_25 gSUfirst_25 xBeg_who_25 xBeg_reaches_25 xBeg_lastTime_25 hm H locs hP hD hS ls hl
      have hm : fB_findOut_25_b  (fB_findOut_25  xRow_people gRkinds gRlates gRhands gRslow xBeg_known_25 n_25) xRow_people gRkinds gRlates gRhands gRslow xBeg_known_25 v1_25 xSU_sleeper_25 xSU_lastDue_25 xSU_unreached_25 gSUdue_25 gSUbusy_25 gSUfelt_25 gSUlost_25 gSUfirst_25 xBeg_who_25 xBeg_reaches_25 xBeg_lastTime_25 = some u := hm
      unfold fB_findOut_25_b at hm
      refine lv_iload_n hx hb dX0_findOut_25 rfl (lv_at hl 1 rfl) ?_
      refine lv_aload_n hx hb dX0_findOut_26 rfl (lv_at hl 0 rfl) ?_
      refine va_get (D := (dC, dI)) (ci := 0) (v := .ref (ad 1)) (C := RX0) (T := TX0) (N := 6) hx hb hts hinX0 hown hK hP 11 rfl rfl 0 (by decide) hl_9 (fun _ h9 => h9) rfl dX0_findOut_27 ?_
      refine va_get (D := (dC, dI)) (ci := 5) (v := .int xRow_people) (C := RX5) (T := TX5) (N := 13) hx hb hts hinX5 hown hK hP 0 rfl rfl 9 (by decide) hl_33 (fun _ h9 => h9) rfl dX0_findOut_30 ?_
      refine lv_icmp_ge (tgt := 75) hx hb dX0_findOut_33 (by decide) (fun c_1 => ?_) (fun c_1 => ?_)
      · have hm := it_pos c_1 hm
        refine lv_aload_n hx hb dX0_findOut_75 rfl (lv_at hl 0 rfl) ?_
        refine lv_iconst (v := 1) hx hb dX0_findOut_76 (by decide) ?_
        refine va_put (D := (dC, dI)) (ci := 0) (v := .int 1) (ty := .boolean) (C := RX0) (T := TX0) (N := 6) hx hb hts hinX0 tyX0 tyX0_ok nmX0 hown hK hP hD hS 11 rfl rfl 5 (by decide) hl_19 (fun _ h9 => h9) rfl (by decide +kernel) rfl rfl (Nat.le_of_ble_eq_true rfl) dX0_findOut_77 (fun H locs hP hD hS => ?_)
        have hP : va_P (dC, dI) vwCl [oRow ad xRow_depth xRow_length xRow_people xRow_scarves xRow_main xRow_faultPlace, ar (ad 3) cA 20 gRkinds, ar (ad 4) cA 20 gRlates, ar (ad 5) cA 20 gRhands, ar (ad 6) cA 20 gRslow, oSU ad xSU_sleeper_25 xSU_lastDue_25 xSU_unreached_25, ar (ad 18) cA 640 gSUdue_25, ar (ad 19) cA 20 gSUbusy_25, ar (ad 20) cA 20 gSUfelt_25, ar (ad 21) cA 20 gSUlost_25, ar (ad 22) cA 20 gSUfirst_25, oBeg ad xBeg_who_25 xBeg_reaches_25 xBeg_lastTime_25 1] H := hP
        have hD : va_D A [oRow ad xRow_depth xRow_length xRow_people xRow_scarves xRow_main xRow_faultPlace, ar (ad 3) cA 20 gRkinds, ar (ad 4) cA 20 gRlates, ar (ad 5) cA 20 gRhands, ar (ad 6) cA 20 gRslow, oSU ad xSU_sleeper_25 xSU_lastDue_25 xSU_unreached_25, ar (ad 18) cA 640 gSUdue_25, ar (ad 19) cA 20 gSUbusy_25, ar (ad 20) cA 20 gSUfelt_25, ar (ad 21) cA 20 gSUlost_25, ar (ad 22) cA 20 gSUfirst_25, oBeg ad xBeg_who_25 xBeg_reaches_25 xBeg_lastTime_25 1] := hD
        obtain rfl := Option.some.inj hm
        subst hQ
        exact W.vret hx hb hr (fun t ht hW => ⟨⟨(), rfl, trivial, by rw [ht]; exact hP, va_K.moved hW.alike hK, hAe ▸ hD⟩, hS.F ht⟩) hS.2.2 dX0_findOut_80
      · have hm := it_neg c_1 hm
        refine lv_aload_n hx hb dX0_findOut_36 rfl (lv_at hl 0 rfl) ?_
        refine va_get (D := (dC, dI)) (ci := 0) (v := .ref (ad 17)) (C := RX0) (T := TX0) (N := 6) hx hb hts hinX0 hown hK hP 11 rfl rfl 1 (by decide) hl_15 (fun _ h9 => h9) rfl dX0_findOut_37 ?_
        refine lv_iload_n hx hb dX0_findOut_40 rfl (lv_at hl 1 rfl) ?_
        refine lv_iconst (v := (-1)) hx hb dX0_findOut_41 (by decide) ?_
        refine lv_iconst (v := 0) hx hb dX0_findOut_42 (by decide) ?_
        refine lv_iconst (v := (-1)) hx hb dX0_findOut_43 (by decide) ?_
        have hPc := hP.sub (ws' := [oRow ad xRow_depth xRow_length xRow_people xRow_scarves xRow_main xRow_faultPlace, ar (ad 3) cA 20 gRkinds, ar (ad 4) cA 20 gRlates, ar (ad 5) cA 20 gRhands, ar (ad 6) cA 20 gRslow, oSU ad xSU_sleeper_25 xSU_lastDue_25 xSU_unreached_25, ar (ad 18) cA 640 gSUdue_25, ar (ad 19) cA 20 gSUbusy_25, ar (ad 20) cA 20 gSUfelt_25, ar (ad 21) cA 20 gSUlost_25, ar (ad 22) cA 20 gSUfirst_25]) [0, 1, 2, 3, 4, 5, 6, 7, 8, 9, 10] rfl
        have hDc := hD.sub (ws' := [oRow ad xRow_depth xRow_length xRow_people xRow_scarves xRow_main xRow_faultPlace, ar (ad 3) cA 20 gRkinds, ar (ad 4) cA 20 gRlates, ar (ad 5) cA 20 gRhands, ar (ad 6) cA 20 gRslow, oSU ad xSU_sleeper_25 xSU_lastDue_25 xSU_unreached_25, ar (ad 18) cA 640 gSUdue_25, ar (ad 19) cA 20 gSUbusy_25, ar (ad 20) cA 20 gSUfelt_25, ar (ad 21) cA 20 gSUlost_25, ar (ad 22) cA 20 gSUfirst_25]) [0, 1, 2, 3, 4, 5, 6, 7, 8, 9, 10] (by decide) rfl
        have hFc := va_free (wc := [oRow ad xRow_depth xRow_length xRow_people xRow_scarves xRow_main xRow_faultPlace, ar (ad 3) cA 20 gRkinds, ar (ad 4) cA 20 gRlates, ar (ad 5) cA 20 gRhands, ar (ad 6) cA 20 gRslow, oSU ad xSU_sleeper_25 xSU_lastDue_25 xSU_unreached_25, ar (ad 18) cA 640 gSUdue_25, ar (ad 19) cA 20 gSUbusy_25, ar (ad 20) cA 20 gSUfelt_25, ar (ad 21) cA 20 gSUlost_25, ar (ad 22) cA 20 gSUfirst_25]) hD hS hA [0, 1, 2, 3, 4, 5, 6, 7, 8, 9, 10] rfl
        obtain ⟨u_2, hc_2, hm⟩ := bd_ok hm
        refine va_callv (va_runV (As := [.int v1_25, .int (-1), .int 0, .int (-1)]) (rest := []) ⟨hx, hb, hml, hown, hts⟩ (kS_run_U l dC dI cA ad H.size v1_25 (-1) 0 (-1) xRow_depth xRow_length xRow_people xRow_scarves xRow_main xRow_faultPlace gRkinds gRlates gRhands gRslow xSU_sleeper_25 xSU_lastDue_25 xSU_unreached_25 gSUdue_25 gSUbusy_25 gSUfelt_25 gSUlost_25 gSUfirst_25 u_2 hc_2) (cwV 4 hts gX0_findOut_X8_run rfl rfl rfl (by decide +kernel) ⟨Nat.le_of_ble_eq_true rfl, Nat.le_of_ble_eq_true rfl⟩) ⟨fun a U g mk q => by obtain ⟨q0, q1, qP, qK, qD⟩ := q; exact ⟨q0, q1, qP, va_K.moved (u := U) (U := U.calling g mk a) (Vm.Alike.refl U.vm) qK, qD⟩, va_recv hK hPc (ci := 8) (q0 := 5) rfl rfl, fun U hU hW => ⟨rfl, by rw [hU], by rw [hU]; exact hPc, va_K.moved hW.alike hK, hDc.weaken (fun _ _ _ _ => trivial)⟩⟩ rfl rfl hl.1 rfl (lv_room (Nat.le_of_ble_eq_true rfl)) dX0_findOut_44 ⟨Nat.le_of_ble_eq_true rfl, Nat.le_of_ble_eq_true rfl⟩) hS (fun q _ h => hFc q h) hFc (fun _ t H1 locs ht hvm hw hB hz1 hk1 hS => ?_)
        obtain ⟨hP1, hK1, hD1⟩ := hB
        rw [ht] at hP1
        obtain ⟨hP, hD⟩ := va_join (wr := [oBeg ad xBeg_who_25 xBeg_reaches_25 xBeg_lastTime_25 xBeg_known_25]) (w1 := [oRow ad xRow_depth xRow_length xRow_people xRow_scarves xRow_main xRow_faultPlace, ar (ad 3) cA 20 gRkinds, ar (ad 4) cA 20 gRlates, ar (ad 5) cA 20 gRhands, ar (ad 6) cA 20 gRslow, oSU ad u_2.1 u_2.2.1 u_2.2.2.1, ar (ad 18) cA 640 u_2.2.2.2.1, ar (ad 19) cA 20 u_2.2.2.2.2.1, ar (ad 20) cA 20 u_2.2.2.2.2.2.1, ar (ad 21) cA 20 u_2.2.2.2.2.2.2.1, ar (ad 22) cA 20 u_2.2.2.2.2.2.2.2]) hP hD [0, 1, 2, 3, 4, 5, 6, 7, 8, 9, 10] [11] rfl rfl (by decide) (by decide) hk1 hFc hP1 hD1
        clear hPc hDc hFc hP1 hK1 hD1 hk1 hz1 hvm ht
        generalize H1 = H at hP hS ⊢
        have hP : va_P (dC, dI) vwCl [oRow ad xRow_depth xRow_length xRow_people xRow_scarves xRow_main xRow_faultPlace, ar (ad 3) cA 20 gRkinds, ar (ad 4) cA 20 gRlates, ar (ad 5) cA 20 gRhands, ar (ad 6) cA 20 gRslow, oSU ad u_2.1 u_2.2.1 u_2.2.2.1, ar (ad 18) cA 640 u_2.2.2.2.1, ar (ad 19) cA 20 u_2.2.2.2.2.1, ar (ad 20) cA 20 u_2.2.2.2.2.2.1, ar (ad 21) cA 20 u_2.2.2.2.2.2.2.1, ar (ad 22) cA 20 u_2.2.2.2.2.2.2.2, oBeg ad xBeg_who_25 xBeg_reaches_25 xBeg_lastTime_25 xBeg_known_25] H := hP.sub [1, 2, 3, 4, 5, 6, 7, 8, 9, 10, 11, 0] rfl
        have hD : va_D A [oRow ad xRow_depth xRow_length xRow_people xRow_scarves xRow_main xRow_faultPlace, ar (ad 3) cA 20 gRkinds, ar (ad 4) cA 20 gRlates, ar (ad 5) cA 20 gRhands, ar (ad 6) cA 20 gRslow, oSU ad u_2.1 u_2.2.1 u_2.2.2.1, ar (ad 18) cA 640 u_2.2.2.2.1, ar (ad 19) cA 20 u_2.2.2.2.2.1, ar (ad 20) cA 20 u_2.2.2.2.2.2.1, ar (ad 21) cA 20 u_2.2.2.2.2.2.2.1, ar (ad 22) cA 20 u_2.2.2.2.2.2.2.2, oBeg ad xBeg_who_25 xBeg_reaches_25 xBeg_lastTime_25 xBeg_known_25] := hD.sub [1, 2, 3, 4, 5, 6, 7, 8, 9, 10, 11, 0] (by decide) rfl
        refine lv_aload_n hx hb dX0_findOut_47 rfl (lv_at hl 0 rfl) ?_
        refine lv_iload_n hx hb dX0_findOut_48 rfl (lv_at hl 1 rfl) ?_
        refine lv_aload_n hx hb dX0_findOut_49 rfl (lv_at hl 0 rfl) ?_
        refine va_get (D := (dC, dI)) (ci := 0) (v := .ref (ad 17)) (C := RX0) (T := TX0) (N := 6) hx hb hts hinX0 hown hK hP 11 rfl rfl 1 (by decide) hl_15 (fun _ h9 => h9) rfl dX0_findOut_50 ?_
        have hPc := hP.sub (ws' := [oRow ad xRow_depth xRow_length xRow_people xRow_scarves xRow_main xRow_faultPlace, oSU ad u_2.1 u_2.2.1 u_2.2.2.1, ar (ad 20) cA 20 u_2.2.2.2.2.2.1]) [0, 5, 8] rfl
        have hDc := hD.sub (ws' := [oRow ad xRow_depth xRow_length xRow_people xRow_scarves xRow_main xRow_faultPlace, oSU ad u_2.1 u_2.2.1 u_2.2.2.1, ar (ad 20) cA 20 u_2.2.2.2.2.2.1]) [0, 5, 8] (by decide) rfl
        have hFc := va_free (wc := [oRow ad xRow_depth xRow_length xRow_people xRow_scarves xRow_main xRow_faultPlace, oSU ad u_2.1 u_2.2.1 u_2.2.2.1, ar (ad 20) cA 20 u_2.2.2.2.2.2.1]) hD hS hA [0, 5, 8] rfl
        obtain ⟨u_3, hc_3, hm⟩ := bd_ok hm
        refine va_calli (va_runV (As := []) (rest := [.int v1_25, .ref (ad 23)]) ⟨hx, hb, hml, hown, hts⟩ (kS_reachedBits_U l dC dI cA ad H.size xRow_depth xRow_length xRow_people xRow_scarves xRow_main xRow_faultPlace u_2.1 u_2.2.1 u_2.2.2.1 u_2.2.2.2.2.2.1 u_3 hc_3) (cwV 0 hts gX0_findOut_X8_reachedBits rfl rfl rfl (by decide +kernel) ⟨Nat.le_of_ble_eq_true rfl, Nat.le_of_ble_eq_true rfl⟩) ⟨fun a U g mk q => by obtain ⟨q0, q1, qP, qK, qD⟩ := q; exact ⟨q0, q1, qP, va_K.moved (u := U) (U := U.calling g mk a) (Vm.Alike.refl U.vm) qK, qD⟩, va_recv hK hPc (ci := 8) (q0 := 1) rfl rfl, fun U hU hW => ⟨rfl, by rw [hU], by rw [hU]; exact hPc, va_K.moved hW.alike hK, hDc.weaken (fun _ _ _ _ => trivial)⟩⟩ rfl rfl hl.1 rfl (lv_room (Nat.le_of_ble_eq_true rfl)) dX0_findOut_53 ⟨Nat.le_of_ble_eq_true rfl, Nat.le_of_ble_eq_true rfl⟩) hS (fun q _ h => hFc q h) hFc (fun r_3 _ t H1 locs ht hvm hw hB hz1 hk1 hS => ?_)
        obtain ⟨hP1, hK1, hD1⟩ := hB
        rw [ht] at hP1
        obtain ⟨hP, hD⟩ := va_join (wr := [ar (ad 3) cA 20 gRkinds, ar (ad 4) cA 20 gRlates, ar (ad 5) cA 20 gRhands, ar (ad 6) cA 20 gRslow, ar (ad 18) cA 640 u_2.2.2.2.1, ar (ad 19) cA 20 u_2.2.2.2.2.1, ar (ad 21) cA 20 u_2.2.2.2.2.2.2.1, ar (ad 22) cA 20 u_2.2.2.2.2.2.2.2, oBeg ad xBeg_who_25 xBeg_reaches_25 xBeg_lastTime_25 xBeg_known_25]) (w1 := [oRow ad xRow_depth xRow_length xRow_people xRow_scarves xRow_main xRow_faultPlace, oSU ad u_2.1 u_2.2.1 u_2.2.2.1, ar (ad 20) cA 20 u_2.2.2.2.2.2.1]) hP hD [0, 5, 8] [1, 2, 3, 4, 6, 7, 9, 10, 11] rfl rfl (by decide) (by decide) hk1 hFc hP1 hD1
        clear hPc hDc hFc hP1 hK1 hD1 hk1 hz1 hvm ht
        generalize H1 = H at hP hS ⊢
        have hP : va_P (dC, dI) vwCl [oRow ad xRow_depth xRow_length xRow_people xRow_scarves xRow_main xRow_faultPlace, ar (ad 3) cA 20 gRkinds, ar (ad 4) cA 20 gRlates, ar (ad 5) cA 20 gRhands, ar (ad 6) cA 20 gRslow, oSU ad u_2.1 u_2.2.1 u_2.2.2.1, ar (ad 18) cA 640 u_2.2.2.2.1, ar (ad 19) cA 20 u_2.2.2.2.2.1, ar (ad 20) cA 20 u_2.2.2.2.2.2.1, ar (ad 21) cA 20 u_2.2.2.2.2.2.2.1, ar (ad 22) cA 20 u_2.2.2.2.2.2.2.2, oBeg ad xBeg_who_25 xBeg_reaches_25 xBeg_lastTime_25 xBeg_known_25] H := hP.sub [9, 0, 1, 2, 3, 10, 4, 5, 11, 6, 7, 8] rfl
        have hD : va_D A [oRow ad xRow_depth xRow_length xRow_people xRow_scarves xRow_main xRow_faultPlace, ar (ad 3) cA 20 gRkinds, ar (ad 4) cA 20 gRlates, ar (ad 5) cA 20 gRhands, ar (ad 6) cA 20 gRslow, oSU ad u_2.1 u_2.2.1 u_2.2.2.1, ar (ad 18) cA 640 u_2.2.2.2.1, ar (ad 19) cA 20 u_2.2.2.2.2.1, ar (ad 20) cA 20 u_2.2.2.2.2.2.1, ar (ad 21) cA 20 u_2.2.2.2.2.2.2.1, ar (ad 22) cA 20 u_2.2.2.2.2.2.2.2, oBeg ad xBeg_who_25 xBeg_reaches_25 xBeg_lastTime_25 xBeg_known_25] := hD.sub [9, 0, 1, 2, 3, 10, 4, 5, 11, 6, 7, 8] (by decide) rfl
        have hw := hw.symm
        subst hw
        have hPc := hP.sub (ws' := []) [] rfl
        have hDc := hD.sub (ws' := []) [] (by decide) rfl
        have hFc := va_free (wc := []) hD hS hA [] rfl
        obtain ⟨u_4, hc_4, hm⟩ := bd_ok hm
        refine va_calli (va_runS (As := [.int u_3]) (rest := [.int v1_25, .ref (ad 23)]) ⟨hx, hb, hml, hown, hts⟩ (kJ_bitCount l dC dI cA H.size u_3 u_4 hc_4) (va_cwS 1 hts gX0_findOut_J6_bitCount_0f7a4 rfl rfl rfl (by decide +kernel) ⟨Nat.le_of_ble_eq_true rfl, Nat.le_of_ble_eq_true rfl⟩) ⟨fun a U g mk q => by obtain ⟨q0, q1, qP, qK, qD⟩ := q; exact ⟨q0, q1, qP, va_K.moved (u := U) (U := U.calling g mk a) (Vm.Alike.refl U.vm) qK, qD⟩, fun U hU hW => ⟨rfl, by rw [hU], by rw [hU]; exact hPc, va_K.moved hW.alike hK, hDc.weaken (fun _ _ _ _ => trivial)⟩⟩ rfl rfl hl.1 rfl (lv_room (Nat.le_of_ble_eq_true rfl)) dX0_findOut_56 ⟨Nat.le_of_ble_eq_true rfl, Nat.le_of_ble_eq_true rfl⟩) hS (fun q _ h => hFc q h) hFc (fun r_4 _ t H1 locs ht hvm hw hB hz1 hk1 hS => ?_)
        obtain ⟨hP1, hK1, hD1⟩ := hB
        rw [ht] at hP1
        obtain ⟨hP, hD⟩ := va_join (wr := [oRow ad xRow_depth xRow_length xRow_people xRow_scarves xRow_main xRow_faultPlace, ar (ad 3) cA 20 gRkinds, ar (ad 4) cA 20 gRlates, ar (ad 5) cA 20 gRhands, ar (ad 6) cA 20 gRslow, oSU ad u_2.1 u_2.2.1 u_2.2.2.1, ar (ad 18) cA 640 u_2.2.2.2.1, ar (ad 19) cA 20 u_2.2.2.2.2.1, ar (ad 20) cA 20 u_2.2.2.2.2.2.1, ar (ad 21) cA 20 u_2.2.2.2.2.2.2.1, ar (ad 22) cA 20 u_2.2.2.2.2.2.2.2, oBeg ad xBeg_who_25 xBeg_reaches_25 xBeg_lastTime_25 xBeg_known_25]) (w1 := []) hP hD [] [0, 1, 2, 3, 4, 5, 6, 7, 8, 9, 10, 11] rfl rfl (by decide) (by decide) hk1 hFc hP1 hD1
        clear hPc hDc hFc hP1 hK1 hD1 hk1 hz1 hvm ht
        generalize H1 = H at hP hS ⊢
        have hP : va_P (dC, dI) vwCl [oRow ad xRow_depth xRow_length xRow_people xRow_scarves xRow_main xRow_faultPlace, ar (ad 3) cA 20 gRkinds, ar (ad 4) cA 20 gRlates, ar (ad 5) cA 20 gRhands, ar (ad 6) cA 20 gRslow, oSU ad u_2.1 u_2.2.1 u_2.2.2.1, ar (ad 18) cA 640 u_2.2.2.2.1, ar (ad 19) cA 20 u_2.2.2.2.2.1, ar (ad 20) cA 20 u_2.2.2.2.2.2.1, ar (ad 21) cA 20 u_2.2.2.2.2.2.2.1, ar (ad 22) cA 20 u_2.2.2.2.2.2.2.2, oBeg ad xBeg_who_25 xBeg_reaches_25 xBeg_lastTime_25 xBeg_known_25] H := hP
        have hD : va_D A [oRow ad xRow_depth xRow_length xRow_people xRow_scarves xRow_main xRow_faultPlace, ar (ad 3) cA 20 gRkinds, ar (ad 4) cA 20 gRlates, ar (ad 5) cA 20 gRhands, ar (ad 6) cA 20 gRslow, oSU ad u_2.1 u_2.2.1 u_2.2.2.1, ar (ad 18) cA 640 u_2.2.2.2.1, ar (ad 19) cA 20 u_2.2.2.2.2.1, ar (ad 20) cA 20 u_2.2.2.2.2.2.1, ar (ad 21) cA 20 u_2.2.2.2.2.2.2.1, ar (ad 22) cA 20 u_2.2.2.2.2.2.2.2, oBeg ad xBeg_who_25 xBeg_reaches_25 xBeg_lastTime_25 xBeg_known_25] := hD
        have hw := hw.symm
        subst hw
        refine lv_aload_n hx hb dX0_findOut_59 rfl (lv_at hl 0 rfl) ?_
        refine va_get (D := (dC, dI)) (ci := 0) (v := .ref (ad 17)) (C := RX0) (T := TX0) (N := 6) hx hb hts hinX0 hown hK hP 11 rfl rfl 1 (by decide) hl_15 (fun _ h9 => h9) rfl dX0_findOut_60 ?_
        have hPc := hP.sub (ws' := [oRow ad xRow_depth xRow_length xRow_people xRow_scarves xRow_main xRow_faultPlace, oSU ad u_2.1 u_2.2.1 u_2.2.2.1, ar (ad 22) cA 20 u_2.2.2.2.2.2.2.2]) [0, 5, 10] rfl
        have hDc := hD.sub (ws' := [oRow ad xRow_depth xRow_length xRow_people xRow_scarves xRow_main xRow_faultPlace, oSU ad u_2.1 u_2.2.1 u_2.2.2.1, ar (ad 22) cA 20 u_2.2.2.2.2.2.2.2]) [0, 5, 10] (by decide) rfl
        have hFc := va_free (wc := [oRow ad xRow_depth xRow_length xRow_people xRow_scarves xRow_main xRow_faultPlace, oSU ad u_2.1 u_2.2.1 u_2.2.2.1, ar (ad 22) cA 20 u_2.2.2.2.2.2.2.2]) hD hS hA [0, 5, 10] rfl
        obtain ⟨u_5, hc_5, hm⟩ := bd_ok hm
        refine va_calli (va_runV (As := []) (rest := [.int u_4, .int v1_25, .ref (ad 23)]) ⟨hx, hb, hml, hown, hts⟩ (kS_lastTime_U l dC dI cA ad H.size xRow_depth xRow_length xRow_people xRow_scarves xRow_main xRow_faultPlace u_2.1 u_2.2.1 u_2.2.2.1 u_2.2.2.2.2.2.2.2 u_5 hc_5) (cwV 0 hts gX0_findOut_X8_lastTime rfl rfl rfl (by decide +kernel) ⟨Nat.le_of_ble_eq_true rfl, Nat.le_of_ble_eq_true rfl⟩) ⟨fun a U g mk q => by obtain ⟨q0, q1, qP, qK, qD⟩ := q; exact ⟨q0, q1, qP, va_K.moved (u := U) (U := U.calling g mk a) (Vm.Alike.refl U.vm) qK, qD⟩, va_recv hK hPc (ci := 8) (q0 := 1) rfl rfl, fun U hU hW => ⟨rfl, by rw [hU], by rw [hU]; exact hPc, va_K.moved hW.alike hK, hDc.weaken (fun _ _ _ _ => trivial)⟩⟩ rfl rfl hl.1 rfl (lv_room (Nat.le_of_ble_eq_true rfl)) dX0_findOut_63 ⟨Nat.le_of_ble_eq_true rfl, Nat.le_of_ble_eq_true rfl⟩) hS (fun q _ h => hFc q h) hFc (fun r_5 _ t H1 locs ht hvm hw hB hz1 hk1 hS => ?_)
        obtain ⟨hP1, hK1, hD1⟩ := hB
        rw [ht] at hP1
        obtain ⟨hP, hD⟩ := va_join (wr := [ar (ad 3) cA 20 gRkinds, ar (ad 4) cA 20 gRlates, ar (ad 5) cA 20 gRhands, ar (ad 6) cA 20 gRslow, ar (ad 18) cA 640 u_2.2.2.2.1, ar (ad 19) cA 20 u_2.2.2.2.2.1, ar (ad 20) cA 20 u_2.2.2.2.2.2.1, ar (ad 21) cA 20 u_2.2.2.2.2.2.2.1, oBeg ad xBeg_who_25 xBeg_reaches_25 xBeg_lastTime_25 xBeg_known_25]) (w1 := [oRow ad xRow_depth xRow_length xRow_people xRow_scarves xRow_main xRow_faultPlace, oSU ad u_2.1 u_2.2.1 u_2.2.2.1, ar (ad 22) cA 20 u_2.2.2.2.2.2.2.2]) hP hD [0, 5, 10] [1, 2, 3, 4, 6, 7, 8, 9, 11] rfl rfl (by decide) (by decide) hk1 hFc hP1 hD1
        clear hPc hDc hFc hP1 hK1 hD1 hk1 hz1 hvm ht
        generalize H1 = H at hP hS ⊢
        have hP : va_P (dC, dI) vwCl [oRow ad xRow_depth xRow_length xRow_people xRow_scarves xRow_main xRow_faultPlace, ar (ad 3) cA 20 gRkinds, ar (ad 4) cA 20 gRlates, ar (ad 5) cA 20 gRhands, ar (ad 6) cA 20 gRslow, oSU ad u_2.1 u_2.2.1 u_2.2.2.1, ar (ad 18) cA 640 u_2.2.2.2.1, ar (ad 19) cA 20 u_2.2.2.2.2.1, ar (ad 20) cA 20 u_2.2.2.2.2.2.1, ar (ad 21) cA 20 u_2.2.2.2.2.2.2.1, ar (ad 22) cA 20 u_2.2.2.2.2.2.2.2, oBeg ad xBeg_who_25 xBeg_reaches_25 xBeg_lastTime_25 xBeg_known_25] H := hP.sub [9, 0, 1, 2, 3, 10, 4, 5, 6, 7, 11, 8] rfl
        have hD : va_D A [oRow ad xRow_depth xRow_length xRow_people xRow_scarves xRow_main xRow_faultPlace, ar (ad 3) cA 20 gRkinds, ar (ad 4) cA 20 gRlates, ar (ad 5) cA 20 gRhands, ar (ad 6) cA 20 gRslow, oSU ad u_2.1 u_2.2.1 u_2.2.2.1, ar (ad 18) cA 640 u_2.2.2.2.1, ar (ad 19) cA 20 u_2.2.2.2.2.1, ar (ad 20) cA 20 u_2.2.2.2.2.2.1, ar (ad 21) cA 20 u_2.2.2.2.2.2.2.1, ar (ad 22) cA 20 u_2.2.2.2.2.2.2.2, oBeg ad xBeg_who_25 xBeg_reaches_25 xBeg_lastTime_25 xBeg_known_25] := hD.sub [9, 0, 1, 2, 3, 10, 4, 5, 6, 7, 11, 8] (by decide) rfl
        have hw := hw.symm
        subst hw
        have hPc := hP.sub (ws' := [oBeg ad xBeg_who_25 xBeg_reaches_25 xBeg_lastTime_25 xBeg_known_25]) [11] rfl
        have hDc := hD.sub (ws' := [oBeg ad xBeg_who_25 xBeg_reaches_25 xBeg_lastTime_25 xBeg_known_25]) [11] (by decide) rfl
        have hFc := va_free (wc := [oBeg ad xBeg_who_25 xBeg_reaches_25 xBeg_lastTime_25 xBeg_known_25]) hD hS hA [11] rfl
        obtain ⟨u_6, hc_6, hm⟩ := bd_ok hm
        refine va_callv (va_runV (As := [.int v1_25, .int u_4, .int u_5]) (rest := []) ⟨hx, hb, hml, hown, hts⟩ (kB_compare l dC dI cA ad H.size v1_25 u_4 u_5 xBeg_who_25 xBeg_reaches_25 xBeg_lastTime_25 xBeg_known_25 u_6 hc_6) (cwV 3 hts gX0_findOut_X0_compare rfl rfl rfl (by decide +kernel) ⟨Nat.le_of_ble_eq_true rfl, Nat.le_of_ble_eq_true rfl⟩) ⟨fun a U g mk q => by obtain ⟨q0, q1, qP, qK, qD⟩ := q; exact ⟨q0, q1, qP, va_K.moved (u := U) (U := U.calling g mk a) (Vm.Alike.refl U.vm) qK, qD⟩, va_recv hK hPc (ci := 0) (q0 := 0) rfl rfl, fun U hU hW => ⟨rfl, by rw [hU], by rw [hU]; exact hPc, va_K.moved hW.alike hK, hDc.weaken (fun _ _ _ _ => trivial)⟩⟩ rfl rfl hl.1 rfl (lv_room (Nat.le_of_ble_eq_true rfl)) dX0_findOut_66 ⟨Nat.le_of_ble_eq_true rfl, Nat.le_of_ble_eq_true rfl⟩) hS (fun q _ h => hFc q h) hFc (fun _ t H1 locs ht hvm hw hB hz1 hk1 hS => ?_)
        obtain ⟨hP1, hK1, hD1⟩ := hB
        rw [ht] at hP1
        obtain ⟨hP, hD⟩ := va_join (wr := [oRow ad xRow_depth xRow_length xRow_people xRow_scarves xRow_main xRow_faultPlace, ar (ad 3) cA 20 gRkinds, ar (ad 4) cA 20 gRlates, ar (ad 5) cA 20 gRhands, ar (ad 6) cA 20 gRslow, oSU ad u_2.1 u_2.2.1 u_2.2.2.1, ar (ad 18) cA 640 u_2.2.2.2.1, ar (ad 19) cA 20 u_2.2.2.2.2.1, ar (ad 20) cA 20 u_2.2.2.2.2.2.1, ar (ad 21) cA 20 u_2.2.2.2.2.2.2.1, ar (ad 22) cA 20 u_2.2.2.2.2.2.2.2]) (w1 := [oBeg ad u_6.1 u_6.2.1 u_6.2.2 xBeg_known_25]) hP hD [11] [0, 1, 2, 3, 4, 5, 6, 7, 8, 9, 10] rfl rfl (by decide) (by decide) hk1 hFc hP1 hD1
        clear hPc hDc hFc hP1 hK1 hD1 hk1 hz1 hvm ht
        generalize H1 = H at hP hS ⊢
        have hP : va_P (dC, dI) vwCl [oRow ad xRow_depth xRow_length xRow_people xRow_scarves xRow_main xRow_faultPlace, ar (ad 3) cA 20 gRkinds, ar (ad 4) cA 20 gRlates, ar (ad 5) cA 20 gRhands, ar (ad 6) cA 20 gRslow, oSU ad u_2.1 u_2.2.1 u_2.2.2.1, ar (ad 18) cA 640 u_2.2.2.2.1, ar (ad 19) cA 20 u_2.2.2.2.2.1, ar (ad 20) cA 20 u_2.2.2.2.2.2.1, ar (ad 21) cA 20 u_2.2.2.2.2.2.2.1, ar (ad 22) cA 20 u_2.2.2.2.2.2.2.2, oBeg ad u_6.1 u_6.2.1 u_6.2.2 xBeg_known_25] H := hP
        have hD : va_D A [oRow ad xRow_depth xRow_length xRow_people xRow_scarves xRow_main xRow_faultPlace, ar (ad 3) cA 20 gRkinds, ar (ad 4) cA 20 gRlates, ar (ad 5) cA 20 gRhands, ar (ad 6) cA 20 gRslow, oSU ad u_2.1 u_2.2.1 u_2.2.2.1, ar (ad 18) cA 640 u_2.2.2.2.1, ar (ad 19) cA 20 u_2.2.2.2.2.1, ar (ad 20) cA 20 u_2.2.2.2.2.2.1, ar (ad 21) cA 20 u_2.2.2.2.2.2.2.1, ar (ad 22) cA 20 u_2.2.2.2.2.2.2.2, oBeg ad u_6.1 u_6.2.1 u_6.2.2 xBeg_known_25] := hD
        refine lv_iinc (v := (v1_25 + 1)) (lv' := [(1, .int (v1_25 + 1)), (0, .ref (ad 23))]) hx hb dX0_findOut_69 hl (k := 1) rfl rfl (by decide) rfl (fun ls hl => ?_)
        refine lv_goto (tgt := 25) hx hb dX0_findOut_72 (by decide) ?_
        exact ih_25 _ _ _ _ _ _ _ _ _ _ _ _ hm _ _ hP hD hS _ (lv_sub hl [1, 0] rfl)
  unfold fB_findOut at hm
  refine lv_aload_n hx hb dX0_findOut_0 rfl (lv_at hl 0 rfl) ?_
  refine va_get (D := (dC, dI)) (ci := 0) (v := .int xBeg_known) (C := RX0) (T := TX0) (N := 6) hx hb hts hinX0 hown hK hP 11 rfl rfl 5 (by decide) hl_19 (fun _ h9 => h9) rfl dX0_findOut_1 ?_
  refine lv_if_eq (tgt := 8) hx hb dX0_findOut_4 (by decide) (fun c_7 => ?_) (fun c_7 => ?_)
  · have hm := it_pos c_7 hm
    refine lv_aload_n hx hb dX0_findOut_8 rfl (lv_at hl 0 rfl) ?_
    refine lv_iconst (v := (-1)) hx hb dX0_findOut_9 (by decide) ?_
    refine va_put (D := (dC, dI)) (ci := 0) (v := .int (-1)) (ty := .int) (C := RX0) (T := TX0) (N := 6) hx hb hts hinX0 tyX0 tyX0_ok nmX0 hown hK hP hD hS 11 rfl rfl 2 (by decide) hl_23 (fun _ h9 => h9) rfl (by decide +kernel) rfl rfl (Nat.le_of_ble_eq_true rfl) dX0_findOut_10 (fun H locs hP hD hS => ?_)
    have hP : va_P (dC, dI) vwCl [oRow ad xRow_depth xRow_length xRow_people xRow_scarves xRow_main xRow_faultPlace, ar (ad 3) cA 20 gRkinds, ar (ad 4) cA 20 gRlates, ar (ad 5) cA 20 gRhands, ar (ad 6) cA 20 gRslow, oSU ad xSU_sleeper xSU_lastDue xSU_unreached, ar (ad 18) cA 640 gSUdue, ar (ad 19) cA 20 gSUbusy, ar (ad 20) cA 20 gSUfelt, ar (ad 21) cA 20 gSUlost, ar (ad 22) cA 20 gSUfirst, oBeg ad (-1) xBeg_reaches xBeg_lastTime xBeg_known] H := hP
    have hD : va_D A [oRow ad xRow_depth xRow_length xRow_people xRow_scarves xRow_main xRow_faultPlace, ar (ad 3) cA 20 gRkinds, ar (ad 4) cA 20 gRlates, ar (ad 5) cA 20 gRhands, ar (ad 6) cA 20 gRslow, oSU ad xSU_sleeper xSU_lastDue xSU_unreached, ar (ad 18) cA 640 gSUdue, ar (ad 19) cA 20 gSUbusy, ar (ad 20) cA 20 gSUfelt, ar (ad 21) cA 20 gSUlost, ar (ad 22) cA 20 gSUfirst, oBeg ad (-1) xBeg_reaches xBeg_lastTime xBeg_known] := hD
    refine lv_aload_n hx hb dX0_findOut_13 rfl (lv_at hl 0 rfl) ?_
    refine lv_iconst (v := 0) hx hb dX0_findOut_14 (by decide) ?_
    refine va_put (D := (dC, dI)) (ci := 0) (v := .int 0) (ty := .int) (C := RX0) (T := TX0) (N := 6) hx hb hts hinX0 tyX0 tyX0_ok nmX0 hown hK hP hD hS 11 rfl rfl 3 (by decide) hl_27 (fun _ h9 => h9) rfl (by decide +kernel) rfl rfl (Nat.le_of_ble_eq_true rfl) dX0_findOut_15 (fun H locs hP hD hS => ?_)
    have hP : va_P (dC, dI) vwCl [oRow ad xRow_depth xRow_length xRow_people xRow_scarves xRow_main xRow_faultPlace, ar (ad 3) cA 20 gRkinds, ar (ad 4) cA 20 gRlates, ar (ad 5) cA 20 gRhands, ar (ad 6) cA 20 gRslow, oSU ad xSU_sleeper xSU_lastDue xSU_unreached, ar (ad 18) cA 640 gSUdue, ar (ad 19) cA 20 gSUbusy, ar (ad 20) cA 20 gSUfelt, ar (ad 21) cA 20 gSUlost, ar (ad 22) cA 20 gSUfirst, oBeg ad (-1) 0 xBeg_lastTime xBeg_known] H := hP
    have hD : va_D A [oRow ad xRow_depth xRow_length xRow_people xRow_scarves xRow_main xRow_faultPlace, ar (ad 3) cA 20 gRkinds, ar (ad 4) cA 20 gRlates, ar (ad 5) cA 20 gRhands, ar (ad 6) cA 20 gRslow, oSU ad xSU_sleeper xSU_lastDue xSU_unreached, ar (ad 18) cA 640 gSUdue, ar (ad 19) cA 20 gSUbusy, ar (ad 20) cA 20 gSUfelt, ar (ad 21) cA 20 gSUlost, ar (ad 22) cA 20 gSUfirst, oBeg ad (-1) 0 xBeg_lastTime xBeg_known] := hD
    refine lv_aload_n hx hb dX0_findOut_18 rfl (lv_at hl 0 rfl) ?_
    refine lv_iconst (v := (-1)) hx hb dX0_findOut_19 (by decide) ?_
    refine va_put (D := (dC, dI)) (ci := 0) (v := .int (-1)) (ty := .int) (C := RX0) (T := TX0) (N := 6) hx hb hts hinX0 tyX0 tyX0_ok nmX0 hown hK hP hD hS 11 rfl rfl 4 (by decide) hl_30 (fun _ h9 => h9) rfl (by decide +kernel) rfl rfl (Nat.le_of_ble_eq_true rfl) dX0_findOut_20 (fun H locs hP hD hS => ?_)
    have hP : va_P (dC, dI) vwCl [oRow ad xRow_depth xRow_length xRow_people xRow_scarves xRow_main xRow_faultPlace, ar (ad 3) cA 20 gRkinds, ar (ad 4) cA 20 gRlates, ar (ad 5) cA 20 gRhands, ar (ad 6) cA 20 gRslow, oSU ad xSU_sleeper xSU_lastDue xSU_unreached, ar (ad 18) cA 640 gSUdue, ar (ad 19) cA 20 gSUbusy, ar (ad 20) cA 20 gSUfelt, ar (ad 21) cA 20 gSUlost, ar (ad 22) cA 20 gSUfirst, oBeg ad (-1) 0 (-1) xBeg_known] H := hP
    have hD : va_D A [oRow ad xRow_depth xRow_length xRow_people xRow_scarves xRow_main xRow_faultPlace, ar (ad 3) cA 20 gRkinds, ar (ad 4) cA 20 gRlates, ar (ad 5) cA 20 gRhands, ar (ad 6) cA 20 gRslow, oSU ad xSU_sleeper xSU_lastDue xSU_unreached, ar (ad 18) cA 640 gSUdue, ar (ad 19) cA 20 gSUbusy, ar (ad 20) cA 20 gSUfelt, ar (ad 21) cA 20 gSUlost, ar (ad 22) cA 20 gSUfirst, oBeg ad (-1) 0 (-1) xBeg_known] := hD
    refine lv_iconst (v := 0) hx hb dX0_findOut_23 (by decide) ?_
    refine lv_istore_n (lv' := [(1, .int 0), (0, .ref (ad 23))]) hx hb dX0_findOut_24 rfl hl (by decide) rfl (fun ls hl => ?_)
    exact h_25 _ _ _ _ _ _ _ _ _ _ _ _ _ _ hm _ _ hP hD hS _ (lv_sub hl [1, 0] rfl)
  · have hm := it_neg c_7 hm
    obtain rfl := Option.some.inj hm
    subst hQ
    exact W.vret hx hb hr (fun t ht hW => ⟨⟨(), rfl, trivial, by rw [ht]; exact hP, va_K.moved hW.alike hK, hAe ▸ hD⟩, hS.F ht⟩) hS.2.2 dX0_findOut_7

set_option maxHeartbeats 4000000 in
set_option maxRecDepth 100000 in
theorem kC_begin (l : Launch) (dC : Nat → ClassId) (dI : Nat → Nat → Nat) (cA : ClassId) (ad : Nat → Nat) (sz : Nat) (a1 : Int32) (xHC_first : Int32) (xHC_second : Int32) (xHC_when : Int32) (xHC_ran : Int32) (xRow_depth : Int32) (xRow_length : Int32) (xRow_people : Int32) (xRow_scarves : Int32) (xRow_main : Int32) (xRow_faultPlace : Int32) (gRkinds : Nat → Int32) (gRlates : Nat → Int32) (gRhands : Nat → Int32) (gRslow : Nat → Int32) (xSU_sleeper : Int32) (xSU_lastDue : Int32) (xSU_unreached : Int32) (gSUdue : Nat → Int32) (gSUbusy : Nat → Int32) (gSUfelt : Nat → Int32) (gSUlost : Nat → Int32) (gSUfirst : Nat → Int32) (xBeg_who : Int32) (xBeg_reaches : Int32) (xBeg_lastTime : Int32) (xBeg_known : Int32) (u : Int32 × Int32 × Int32 × Int32 × (Nat → Int32) × (Nat → Int32) × (Nat → Int32) × (Nat → Int32) × (Nat → Int32) × Int32 × Int32 × Int32 × Int32) (hm : fC_begin a1 xRow_people gRkinds gRlates gRhands gRslow xSU_sleeper xSU_lastDue xSU_unreached gSUdue gSUbusy gSUfelt gSUlost gSUfirst xBeg_who xBeg_reaches xBeg_lastTime xBeg_known = some u) : Met l yX9_begin wsX9_begin ({ frames := 5, cells := 0, slots := 0, locals := 124 }) (va_Pc [.ref (ad 0), .int a1] (fun U => U.heap.size = sz ∧ va_P (dC, dI) vwCl [oHC ad xHC_first xHC_second xHC_when xHC_ran, oRow ad xRow_depth xRow_length xRow_people xRow_scarves xRow_main xRow_faultPlace, ar (ad 3) cA 20 gRkinds, ar (ad 4) cA 20 gRlates, ar (ad 5) cA 20 gRhands, ar (ad 6) cA 20 gRslow, oSU ad xSU_sleeper xSU_lastDue xSU_unreached, ar (ad 18) cA 640 gSUdue, ar (ad 19) cA 20 gSUbusy, ar (ad 20) cA 20 gSUfelt, ar (ad 21) cA 20 gSUlost, ar (ad 22) cA 20 gSUfirst, oBeg ad xBeg_who xBeg_reaches xBeg_lastTime xBeg_known] U.heap ∧ va_K (dC, dI) vwCl [(cA, .int)] U ∧ va_D (fun _ => True) [oHC ad xHC_first xHC_second xHC_when xHC_ran, oRow ad xRow_depth xRow_length xRow_people xRow_scarves xRow_main xRow_faultPlace, ar (ad 3) cA 20 gRkinds, ar (ad 4) cA 20 gRlates, ar (ad 5) cA 20 gRhands, ar (ad 6) cA 20 gRslow, oSU ad xSU_sleeper xSU_lastDue xSU_unreached, ar (ad 18) cA 640 gSUdue, ar (ad 19) cA 20 gSUbusy, ar (ad 20) cA 20 gSUfelt, ar (ad 21) cA 20 gSUlost, ar (ad 22) cA 20 gSUfirst, oBeg ad xBeg_who xBeg_reaches xBeg_lastTime xBeg_known])) (va_Qi (fun (r : Int32) (_ : Unit) => r = u.1) (fun (_ : Unit) t => va_P (dC, dI) vwCl [oHC ad xHC_first xHC_second xHC_when xHC_ran, oRow ad xRow_depth xRow_length xRow_people xRow_scarves xRow_main xRow_faultPlace, ar (ad 3) cA 20 gRkinds, ar (ad 4) cA 20 gRlates, ar (ad 5) cA 20 gRhands, ar (ad 6) cA 20 gRslow, oSU ad u.2.1 u.2.2.1 u.2.2.2.1, ar (ad 18) cA 640 u.2.2.2.2.1, ar (ad 19) cA 20 u.2.2.2.2.2.1, ar (ad 20) cA 20 u.2.2.2.2.2.2.1, ar (ad 21) cA 20 u.2.2.2.2.2.2.2.1, ar (ad 22) cA 20 u.2.2.2.2.2.2.2.2.1, oBeg ad u.2.2.2.2.2.2.2.2.2.1 u.2.2.2.2.2.2.2.2.2.2.1 u.2.2.2.2.2.2.2.2.2.2.2.1 u.2.2.2.2.2.2.2.2.2.2.2.2] t.heap ∧ va_K (dC, dI) vwCl [(cA, .int)] t ∧ va_D (va_A [oHC ad xHC_first xHC_second xHC_when xHC_ran, oRow ad xRow_depth xRow_length xRow_people xRow_scarves xRow_main xRow_faultPlace, ar (ad 3) cA 20 gRkinds, ar (ad 4) cA 20 gRlates, ar (ad 5) cA 20 gRhands, ar (ad 6) cA 20 gRslow, oSU ad xSU_sleeper xSU_lastDue xSU_unreached, ar (ad 18) cA 640 gSUdue, ar (ad 19) cA 20 gSUbusy, ar (ad 20) cA 20 gSUfelt, ar (ad 21) cA 20 gSUlost, ar (ad 22) cA 20 gSUfirst, oBeg ad xBeg_who xBeg_reaches xBeg_lastTime xBeg_known] sz) [oHC ad xHC_first xHC_second xHC_when xHC_ran, oRow ad xRow_depth xRow_length xRow_people xRow_scarves xRow_main xRow_faultPlace, ar (ad 3) cA 20 gRkinds, ar (ad 4) cA 20 gRlates, ar (ad 5) cA 20 gRhands, ar (ad 6) cA 20 gRslow, oSU ad u.2.1 u.2.2.1 u.2.2.2.1, ar (ad 18) cA 640 u.2.2.2.2.1, ar (ad 19) cA 20 u.2.2.2.2.2.1, ar (ad 20) cA 20 u.2.2.2.2.2.2.1, ar (ad 21) cA 20 u.2.2.2.2.2.2.2.1, ar (ad 22) cA 20 u.2.2.2.2.2.2.2.2.1, oBeg ad u.2.2.2.2.2.2.2.2.2.1 u.2.2.2.2.2.2.2.2.2.2.1 u.2.2.2.2.2.2.2.2.2.2.2.1 u.2.2.2.2.2.2.2.2.2.2.2.2]) (va_A [oHC ad xHC_first xHC_second xHC_when xHC_ran, oRow ad xRow_depth xRow_length xRow_people xRow_scarves xRow_main xRow_faultPlace, ar (ad 3) cA 20 gRkinds, ar (ad 4) cA 20 gRlates, ar (ad 5) cA 20 gRhands, ar (ad 6) cA 20 gRslow, oSU ad xSU_sleeper xSU_lastDue xSU_unreached, ar (ad 18) cA 640 gSUdue, ar (ad 19) cA 20 gSUbusy, ar (ad 20) cA 20 gSUfelt, ar (ad 21) cA 20 gSUlost, ar (ad 22) cA 20 gSUfirst, oBeg ad xBeg_who xBeg_reaches xBeg_lastTime xBeg_known] sz)) 0 0 (va_A [oHC ad xHC_first xHC_second xHC_when xHC_ran, oRow ad xRow_depth xRow_length xRow_people xRow_scarves xRow_main xRow_faultPlace, ar (ad 3) cA 20 gRkinds, ar (ad 4) cA 20 gRlates, ar (ad 5) cA 20 gRhands, ar (ad 6) cA 20 gRslow, oSU ad xSU_sleeper xSU_lastDue xSU_unreached, ar (ad 18) cA 640 gSUdue, ar (ad 19) cA 20 gSUbusy, ar (ad 20) cA 20 gSUfelt, ar (ad 21) cA 20 gSUlost, ar (ad 22) cA 20 gSUfirst, oBeg ad xBeg_who xBeg_reaches xBeg_lastTime xBeg_known] sz) := by
  refine Met.ofW (cc := cX9_begin) (maxL := 2) (ret := (some .int)) (by decide) rfl ?_
  intro p e s m args below meth c s₁ B hml hv
  obtain ⟨rfl, hsz, hP, hK, hD0⟩ := hv
  have hx := B.exec
  have hb := B.bytes
  have hr := B.returns
  have hts := atoms_spec (ws := wsX9_begin) B.pre
  have hown : s.vm.findClass RX9 = some m.cls := findClass_of_methodNamed B.named
  have hlocks := B.notSynchronized
  subst hsz
  have hD := hD0.self (sz := s.heap.size)
  generalize hAe : va_A [oHC ad xHC_first xHC_second xHC_when xHC_ran, oRow ad xRow_depth xRow_length xRow_people xRow_scarves xRow_main xRow_faultPlace, ar (ad 3) cA 20 gRkinds, ar (ad 4) cA 20 gRlates, ar (ad 5) cA 20 gRhands, ar (ad 6) cA 20 gRslow, oSU ad xSU_sleeper xSU_lastDue xSU_unreached, ar (ad 18) cA 640 gSUdue, ar (ad 19) cA 20 gSUbusy, ar (ad 20) cA 20 gSUfelt, ar (ad 21) cA 20 gSUlost, ar (ad 22) cA 20 gSUfirst, oBeg ad xBeg_who xBeg_reaches xBeg_lastTime xBeg_known] s.heap.size = A at hD ⊢
  have hA : ∀ q : Nat, s.heap.size ≤ q → A q := fun q h => by rw [← hAe]; exact Or.inr h
  have hS : va_S A s.heap s.heap [] := va_S.rf
  have hl := lv_entry ([.ref (ad 0), .int a1]) (n := 2) (Nat.le_of_ble_eq_true rfl)
  rw [lg_entry_eq]
  generalize (lg_sl ([.ref (ad 0), .int a1]) ++ List.replicate (2 - (lg_sl ([.ref (ad 0), .int a1])).length) Slot.unset).toArray = ls at hl ⊢
  have hl : lv_has ls 2 [(0, .ref (ad 0)), (1, .int a1)] := hl
  refine wk_Q (fun QQ hQ => ?_)
  have hinX9 : ∀ w ∈ wsX90, w ∈ wsX9_begin := fun w h => List.mem_cons_of_mem _ (inlX9 w h)
  have hl_33 := hts (.fieldLink RX9 33 "HandCensus" "beginning" "LHandCensus$Beginning;") (List.mem_cons_of_mem _ (in_r2 _ (List.mem_of_getElem? (i := 2) rfl)))
  have hinX0 : ∀ w ∈ wsX00, w ∈ wsX9_begin := fun w h => List.mem_cons_of_mem _ (inlX0 w h)
  have hl_166 := hts (.fieldLink RX9 166 "HandCensus$Beginning" "lastTime" "I") (List.mem_cons_of_mem _ (in_r25 _ (List.mem_of_getElem? (i := 2) rfl)))
  have hl_163 := hts (.fieldLink RX9 163 "HandCensus$Beginning" "reaches" "I") (List.mem_cons_of_mem _ (in_r25 _ (List.mem_of_getElem? (i := 1) rfl)))
  have hl_160 := hts (.fieldLink RX9 160 "HandCensus$Beginning" "who" "I") (List.mem_cons_of_mem _ (in_r25 _ (List.mem_of_getElem? (i := 0) rfl)))
  unfold fC_begin at hm
  refine lv_iload_n hx hb dX9_begin_0 rfl (lv_at hl 1 rfl) ?_
  refine lv_if_lt (tgt := 9) hx hb dX9_begin_1 (by decide) (fun c_1 => ?_) (fun c_1 => ?_)
  · have hm := it_pos c_1 hm
    refine lv_bipush (v := (-2)) hx hb dX9_begin_9 (by decide) ?_
    obtain rfl := Option.some.inj hm
    subst hQ
    exact W.iret (v := (-2)) hx hb hr (fun t ht hW => ⟨⟨_, (), rfl, rfl, by rw [ht]; exact hP, va_K.moved hW.alike hK, hAe ▸ hD⟩, hS.F ht⟩) hS.2.2 dX9_begin_11
  · have hm := it_neg c_1 hm
    refine lv_iload_n hx hb dX9_begin_4 rfl (lv_at hl 1 rfl) ?_
    refine lv_iconst (v := 2) hx hb dX9_begin_5 (by decide) ?_
    refine lv_icmp_le (tgt := 12) hx hb dX9_begin_6 (by decide) (fun c_2 => ?_) (fun c_2 => ?_)
    · have hm := it_pos c_2 hm
      refine lv_aload_n hx hb dX9_begin_12 rfl (lv_at hl 0 rfl) ?_
      refine va_get (D := (dC, dI)) (ci := 9) (v := .ref (ad 23)) (C := RX9) (T := TX9) (N := 12) hx hb hts hinX9 hown hK hP 0 rfl rfl 2 (by decide) hl_33 (fun _ h9 => h9) rfl dX9_begin_13 ?_
      have hPc := hP.sub (ws' := [oRow ad xRow_depth xRow_length xRow_people xRow_scarves xRow_main xRow_faultPlace, ar (ad 3) cA 20 gRkinds, ar (ad 4) cA 20 gRlates, ar (ad 5) cA 20 gRhands, ar (ad 6) cA 20 gRslow, oSU ad xSU_sleeper xSU_lastDue xSU_unreached, ar (ad 18) cA 640 gSUdue, ar (ad 19) cA 20 gSUbusy, ar (ad 20) cA 20 gSUfelt, ar (ad 21) cA 20 gSUlost, ar (ad 22) cA 20 gSUfirst, oBeg ad xBeg_who xBeg_reaches xBeg_lastTime xBeg_known]) [1, 2, 3, 4, 5, 6, 7, 8, 9, 10, 11, 12] rfl
      have hDc := hD.sub (ws' := [oRow ad xRow_depth xRow_length xRow_people xRow_scarves xRow_main xRow_faultPlace, ar (ad 3) cA 20 gRkinds, ar (ad 4) cA 20 gRlates, ar (ad 5) cA 20 gRhands, ar (ad 6) cA 20 gRslow, oSU ad xSU_sleeper xSU_lastDue xSU_unreached, ar (ad 18) cA 640 gSUdue, ar (ad 19) cA 20 gSUbusy, ar (ad 20) cA 20 gSUfelt, ar (ad 21) cA 20 gSUlost, ar (ad 22) cA 20 gSUfirst, oBeg ad xBeg_who xBeg_reaches xBeg_lastTime xBeg_known]) [1, 2, 3, 4, 5, 6, 7, 8, 9, 10, 11, 12] (by decide) rfl
      have hFc := va_free (wc := [oRow ad xRow_depth xRow_length xRow_people xRow_scarves xRow_main xRow_faultPlace, ar (ad 3) cA 20 gRkinds, ar (ad 4) cA 20 gRlates, ar (ad 5) cA 20 gRhands, ar (ad 6) cA 20 gRslow, oSU ad xSU_sleeper xSU_lastDue xSU_unreached, ar (ad 18) cA 640 gSUdue, ar (ad 19) cA 20 gSUbusy, ar (ad 20) cA 20 gSUfelt, ar (ad 21) cA 20 gSUlost, ar (ad 22) cA 20 gSUfirst, oBeg ad xBeg_who xBeg_reaches xBeg_lastTime xBeg_known]) hD hS hA [1, 2, 3, 4, 5, 6, 7, 8, 9, 10, 11, 12] rfl
      obtain ⟨u_3, hc_3, hm⟩ := bd_ok hm
      refine va_callv (va_runV (As := []) (rest := []) ⟨hx, hb, hml, hown, hts⟩ (kB_findOut l dC dI cA ad s.heap.size xRow_depth xRow_length xRow_people xRow_scarves xRow_main xRow_faultPlace gRkinds gRlates gRhands gRslow xSU_sleeper xSU_lastDue xSU_unreached gSUdue gSUbusy gSUfelt gSUlost gSUfirst xBeg_who xBeg_reaches xBeg_lastTime xBeg_known u_3 hc_3) (cwV 0 hts gX9_begin_X0_findOut rfl rfl rfl (by decide +kernel) ⟨Nat.le_of_ble_eq_true rfl, Nat.le_of_ble_eq_true rfl⟩) ⟨fun a U g mk q => by obtain ⟨q0, q1, qP, qK, qD⟩ := q; exact ⟨q0, q1, qP, va_K.moved (u := U) (U := U.calling g mk a) (Vm.Alike.refl U.vm) qK, qD⟩, va_recv hK hPc (ci := 0) (q0 := 11) rfl rfl, fun U hU hW => ⟨rfl, by rw [hU], by rw [hU]; exact hPc, va_K.moved hW.alike hK, hDc.weaken (fun _ _ _ _ => trivial)⟩⟩ rfl rfl hl.1 rfl (lv_room (Nat.le_of_ble_eq_true rfl)) dX9_begin_16 ⟨Nat.le_of_ble_eq_true rfl, Nat.le_of_ble_eq_true rfl⟩) hS (fun q _ h => hFc q h) hFc (fun _ t H1 locs ht hvm hw hB hz1 hk1 hS => ?_)
      obtain ⟨hP1, hK1, hD1⟩ := hB
      rw [ht] at hP1
      obtain ⟨hP, hD⟩ := va_join (wr := [oHC ad xHC_first xHC_second xHC_when xHC_ran]) (w1 := [oRow ad xRow_depth xRow_length xRow_people xRow_scarves xRow_main xRow_faultPlace, ar (ad 3) cA 20 gRkinds, ar (ad 4) cA 20 gRlates, ar (ad 5) cA 20 gRhands, ar (ad 6) cA 20 gRslow, oSU ad u_3.1 u_3.2.1 u_3.2.2.1, ar (ad 18) cA 640 u_3.2.2.2.1, ar (ad 19) cA 20 u_3.2.2.2.2.1, ar (ad 20) cA 20 u_3.2.2.2.2.2.1, ar (ad 21) cA 20 u_3.2.2.2.2.2.2.1, ar (ad 22) cA 20 u_3.2.2.2.2.2.2.2.1, oBeg ad u_3.2.2.2.2.2.2.2.2.1 u_3.2.2.2.2.2.2.2.2.2.1 u_3.2.2.2.2.2.2.2.2.2.2.1 u_3.2.2.2.2.2.2.2.2.2.2.2]) hP hD [1, 2, 3, 4, 5, 6, 7, 8, 9, 10, 11, 12] [0] rfl rfl (by decide) (by decide) hk1 hFc hP1 hD1
      clear hPc hDc hFc hP1 hK1 hD1 hk1 hz1 hvm ht
      generalize H1 = H at hP hS ⊢
      have hP : va_P (dC, dI) vwCl [oHC ad xHC_first xHC_second xHC_when xHC_ran, oRow ad xRow_depth xRow_length xRow_people xRow_scarves xRow_main xRow_faultPlace, ar (ad 3) cA 20 gRkinds, ar (ad 4) cA 20 gRlates, ar (ad 5) cA 20 gRhands, ar (ad 6) cA 20 gRslow, oSU ad u_3.1 u_3.2.1 u_3.2.2.1, ar (ad 18) cA 640 u_3.2.2.2.1, ar (ad 19) cA 20 u_3.2.2.2.2.1, ar (ad 20) cA 20 u_3.2.2.2.2.2.1, ar (ad 21) cA 20 u_3.2.2.2.2.2.2.1, ar (ad 22) cA 20 u_3.2.2.2.2.2.2.2.1, oBeg ad u_3.2.2.2.2.2.2.2.2.1 u_3.2.2.2.2.2.2.2.2.2.1 u_3.2.2.2.2.2.2.2.2.2.2.1 u_3.2.2.2.2.2.2.2.2.2.2.2] H := hP
      have hD : va_D A [oHC ad xHC_first xHC_second xHC_when xHC_ran, oRow ad xRow_depth xRow_length xRow_people xRow_scarves xRow_main xRow_faultPlace, ar (ad 3) cA 20 gRkinds, ar (ad 4) cA 20 gRlates, ar (ad 5) cA 20 gRhands, ar (ad 6) cA 20 gRslow, oSU ad u_3.1 u_3.2.1 u_3.2.2.1, ar (ad 18) cA 640 u_3.2.2.2.1, ar (ad 19) cA 20 u_3.2.2.2.2.1, ar (ad 20) cA 20 u_3.2.2.2.2.2.1, ar (ad 21) cA 20 u_3.2.2.2.2.2.2.1, ar (ad 22) cA 20 u_3.2.2.2.2.2.2.2.1, oBeg ad u_3.2.2.2.2.2.2.2.2.1 u_3.2.2.2.2.2.2.2.2.2.1 u_3.2.2.2.2.2.2.2.2.2.2.1 u_3.2.2.2.2.2.2.2.2.2.2.2] := hD
      refine lv_iload_n hx hb dX9_begin_19 rfl (lv_at hl 1 rfl) ?_
      refine lv_if_ne (tgt := 31) hx hb dX9_begin_20 (by decide) (fun c_4 => ?_) (fun c_4 => ?_)
      · have hm := it_neg c_4 hm
        refine lv_iload_n hx hb dX9_begin_31 rfl (lv_at hl 1 rfl) ?_
        refine lv_iconst (v := 1) hx hb dX9_begin_32 (by decide) ?_
        refine lv_icmp_ne (tgt := 46) hx hb dX9_begin_33 (by decide) (fun c_5 => ?_) (fun c_5 => ?_)
        · have hm := it_neg c_5 hm
          refine lv_aload_n hx hb dX9_begin_46 rfl (lv_at hl 0 rfl) ?_
          refine va_get (D := (dC, dI)) (ci := 9) (v := .ref (ad 23)) (C := RX9) (T := TX9) (N := 12) hx hb hts hinX9 hown hK hP 0 rfl rfl 2 (by decide) hl_33 (fun _ h9 => h9) rfl dX9_begin_47 ?_
          refine va_get (D := (dC, dI)) (ci := 0) (v := .int u_3.2.2.2.2.2.2.2.2.2.2.1) (C := RX0) (T := TX0) (N := 6) hx hb hts hinX0 hown hK hP 12 rfl rfl 4 (by decide) hl_166 (fun _ h9 => h9) rfl dX9_begin_50 ?_
          obtain rfl := Option.some.inj hm
          subst hQ
          exact W.iret (v := u_3.2.2.2.2.2.2.2.2.2.2.1) hx hb hr (fun t ht hW => ⟨⟨_, (), rfl, rfl, by rw [ht]; exact hP, va_K.moved hW.alike hK, hAe ▸ hD⟩, hS.F ht⟩) hS.2.2 dX9_begin_53
        · have hm := it_pos c_5 hm
          refine lv_aload_n hx hb dX9_begin_36 rfl (lv_at hl 0 rfl) ?_
          refine va_get (D := (dC, dI)) (ci := 9) (v := .ref (ad 23)) (C := RX9) (T := TX9) (N := 12) hx hb hts hinX9 hown hK hP 0 rfl rfl 2 (by decide) hl_33 (fun _ h9 => h9) rfl dX9_begin_37 ?_
          refine va_get (D := (dC, dI)) (ci := 0) (v := .int u_3.2.2.2.2.2.2.2.2.2.1) (C := RX0) (T := TX0) (N := 6) hx hb hts hinX0 hown hK hP 12 rfl rfl 3 (by decide) hl_163 (fun _ h9 => h9) rfl dX9_begin_40 ?_
          refine lv_goto (tgt := 53) hx hb dX9_begin_43 (by decide) ?_
          obtain rfl := Option.some.inj hm
          subst hQ
          exact W.iret (v := u_3.2.2.2.2.2.2.2.2.2.1) hx hb hr (fun t ht hW => ⟨⟨_, (), rfl, rfl, by rw [ht]; exact hP, va_K.moved hW.alike hK, hAe ▸ hD⟩, hS.F ht⟩) hS.2.2 dX9_begin_53
      · have hm := it_pos c_4 hm
        refine lv_aload_n hx hb dX9_begin_23 rfl (lv_at hl 0 rfl) ?_
        refine va_get (D := (dC, dI)) (ci := 9) (v := .ref (ad 23)) (C := RX9) (T := TX9) (N := 12) hx hb hts hinX9 hown hK hP 0 rfl rfl 2 (by decide) hl_33 (fun _ h9 => h9) rfl dX9_begin_24 ?_
        refine va_get (D := (dC, dI)) (ci := 0) (v := .int u_3.2.2.2.2.2.2.2.2.1) (C := RX0) (T := TX0) (N := 6) hx hb hts hinX0 hown hK hP 12 rfl rfl 2 (by decide) hl_160 (fun _ h9 => h9) rfl dX9_begin_27 ?_
        obtain rfl := Option.some.inj hm
        subst hQ
        exact W.iret (v := u_3.2.2.2.2.2.2.2.2.1) hx hb hr (fun t ht hW => ⟨⟨_, (), rfl, rfl, by rw [ht]; exact hP, va_K.moved hW.alike hK, hAe ▸ hD⟩, hS.F ht⟩) hS.2.2 dX9_begin_30
    · have hm := it_neg c_2 hm
      refine lv_bipush (v := (-2)) hx hb dX9_begin_9 (by decide) ?_
      obtain rfl := Option.some.inj hm
      subst hQ
      exact W.iret (v := (-2)) hx hb hr (fun t ht hW => ⟨⟨_, (), rfl, rfl, by rw [ht]; exact hP, va_K.moved hW.alike hK, hAe ▸ hD⟩, hS.F ht⟩) hS.2.2 dX9_begin_11

set_option maxHeartbeats 4000000 in
set_option maxRecDepth 100000 in
theorem kD_tallyAllFelt (l : Launch) (dC : Nat → ClassId) (dI : Nat → Nat → Nat) (cA : ClassId) (ad : Nat → Nat) (qe : Nat) (sz : Nat) (a1 : Int32) (xDia_size : Int32) (ne : Nat) (gDent : Nat → Int32) (u : Int32) (hm : fD_tallyAllFelt a1 xDia_size ne gDent = some u) : Met l yX1_tallyAllFelt wsX1_tallyAllFelt ({ frames := 1, cells := 0, slots := 0, locals := 20 }) (va_Pc [.ref (ad 15), .int a1] (fun U => U.heap.size = sz ∧ va_P (dC, dI) vwCl [oDia ad qe xDia_size, ar qe cA ne gDent] U.heap ∧ va_K (dC, dI) vwCl [(cA, .int)] U ∧ va_D (fun _ => True) [oDia ad qe xDia_size, ar qe cA ne gDent])) (va_Qi (fun (r : Int32) (_ : Unit) => r = u) (fun (_ : Unit) t => va_P (dC, dI) vwCl [oDia ad qe xDia_size, ar qe cA ne gDent] t.heap ∧ va_K (dC, dI) vwCl [(cA, .int)] t ∧ va_D (va_A [oDia ad qe xDia_size, ar qe cA ne gDent] sz) [oDia ad qe xDia_size, ar qe cA ne gDent]) (va_A [oDia ad qe xDia_size, ar qe cA ne gDent] sz)) 0 0 (va_A [oDia ad qe xDia_size, ar qe cA ne gDent] sz) := by
  refine Met.ofW (cc := cX1_tallyAllFelt) (maxL := 4) (ret := (some .int)) (by decide) rfl ?_
  intro p e s m args below meth c s₁ B hml hv
  obtain ⟨rfl, hsz, hP, hK, hD0⟩ := hv
  have hx := B.exec
  have hb := B.bytes
  have hr := B.returns
  have hts := atoms_spec (ws := wsX1_tallyAllFelt) B.pre
  have hown : s.vm.findClass RX1 = some m.cls := findClass_of_methodNamed B.named
  have hlocks := B.notSynchronized
  subst hsz
  have hD := hD0.self (sz := s.heap.size)
  generalize hAe : va_A [oDia ad qe xDia_size, ar qe cA ne gDent] s.heap.size = A at hD ⊢
  have hA : ∀ q : Nat, s.heap.size ≤ q → A q := fun q h => by rw [← hAe]; exact Or.inr h
  have hS : va_S A s.heap s.heap [] := va_S.rf
  have hl := lv_entry ([.ref (ad 15), .int a1]) (n := 4) (Nat.le_of_ble_eq_true rfl)
  rw [lg_entry_eq]
  generalize (lg_sl ([.ref (ad 15), .int a1]) ++ List.replicate (4 - (lg_sl ([.ref (ad 15), .int a1])).length) Slot.unset).toArray = ls at hl ⊢
  have hl : lv_has ls 4 [(0, .ref (ad 15)), (1, .int a1)] := hl
  refine wk_Q (fun QQ hQ => ?_)
  have hinX1 : ∀ w ∈ wsX10, w ∈ wsX1_tallyAllFelt := fun w h => List.mem_cons_of_mem _ (inlX1 w h)
  have hl_15 := hts (.fieldLink RX1 15 "HandCensus$Diary" "size" "I") (List.mem_cons_of_mem _ (in_r3 _ (List.mem_of_getElem? (i := 21) rfl)))
  have hl_9 := hts (.fieldLink RX1 9 "HandCensus$Diary" "entries" "[I") (List.mem_cons_of_mem _ (in_r3 _ (List.mem_of_getElem? (i := 20) rfl)))
  have h_4 : ∀ (v1_4 : Int32), ∀ (n_4 : Nat), ∀ (v2_4 : Int32) (v3_4 : Int32), fD_tallyAllFelt_4 v1_4 xDia_size ne gDent n_4 v2_4 v3_4 = some u → ∀ (H : Heap) (locs : List Loc), va_P (dC, dI) vwCl [oDia ad qe xDia_size, ar qe cA ne gDent] H → va_D A [oDia ad qe xDia_size, ar qe cA ne gDent] → va_S A s.heap H locs → ∀ ls : Array Slot, lv_has ls 4 [(0, .ref (ad 15)), (1, .int v1_4), (2, .int v2_4), (3, .int v3_4)] → W p l e (headSpec wsX1_tallyAllFelt ({ frames := 1, cells := 0, slots := 0, locals := 20 })).room s m ([.ref (ad 15), .int a1] : List Value).toArray below meth c H locs 0 0 QQ (F0 m 4 ls []) := by
    intro v1_4
    intro n_4
    induction n_4 with
    | zero => intro v2_4 v3_4 hm; have hm : (none : Option (Int32)) = some u := hm; cases hm
    | succ n_4 ih_4 =>
      have b_39 : ∀ (v2_39 : Int32) (v3_39 : Int32), fD_tallyAllFelt_39 (fD_tallyAllFelt_4  v1_4 xDia_size ne gDent n_4) v1_4 v2_39 v3_39 xDia_size ne gDent = some u → ∀ (H : Heap) (locs : List Loc), va_P (dC, dI) vwCl [oDia ad qe xDia_size, ar qe cA ne gDent] H → va_D A [oDia ad qe xDia_size, ar qe cA ne gDent] → va_S A s.heap H locs → ∀ ls : Array Slot, lv_has ls 4 [(0, .ref (ad 15)), (1, .int v1_4), (2, .int v2_39), (3, .int v3_39)] → W p l e (headSpec wsX1_tallyAllFelt ({ frames := 1, cells := 0, slots := 0, locals := 20 })).room s m ([.ref (ad 15), .int a1] : List Value).toArray below meth c H locs 0 0 QQ (F0 m 39 ls []) := by
        intro v2_39 v3_39 hm H locs hP hD hS ls hl
        unfold fD_tallyAllFelt_39 at hm
        refine lv_iinc (v := (v3_39 + 1)) (lv' := [(3, .int (v3_39 + 1)), (0, .ref (ad 15)), (1, .int v1_4), (2, .int v2_39)]) hx hb dX1_tallyAllFelt_39 hl (k := 3) rfl rfl (by decide) rfl (fun ls hl => ?_)
        refine lv_goto (tgt := 4) hx hb dX1_tallyAllFelt_42 (by decide) ?_
        exact ih_4 _ _ hm _ _ hP hD hS _ (lv_sub hl [1, 2, 3, 0] rfl)
      intro v2_4 v3_4 hm H locs hP hD hS ls hl
      have hm : fD_tallyAllFelt_4_b  (fD_tallyAllFelt_4  v1_4 xDia_size ne gDent n_4) v1_4 xDia_size ne gDent v2_4 v3_4 = some u := hm
      unfold fD_tallyAllFelt_4_b at hm
      refine lv_iload_n hx hb dX1_tallyAllFelt_4 rfl (lv_at hl 3 rfl) ?_
      refine lv_aload_n hx hb dX1_tallyAllFelt_5 rfl (lv_at hl 0 rfl) ?_
      refine va_get (D := (dC, dI)) (ci := 1) (v := .int xDia_size) (C := RX1) (T := TX1) (N := 2) hx hb hts hinX1 hown hK hP 0 rfl rfl 1 (by decide) hl_15 (fun _ h9 => h9) rfl dX1_tallyAllFelt_6 ?_
      refine lv_icmp_ge (tgt := 45) hx hb dX1_tallyAllFelt_9 (by decide) (fun c_1 => ?_) (fun c_1 => ?_)
      · have hm := it_pos c_1 hm
        refine lv_iload_n hx hb dX1_tallyAllFelt_45 rfl (lv_at hl 2 rfl) ?_
        obtain rfl := Option.some.inj hm
        subst hQ
        exact W.iret (v := v2_4) hx hb hr (fun t ht hW => ⟨⟨_, (), rfl, rfl, by rw [ht]; exact hP, va_K.moved hW.alike hK, hAe ▸ hD⟩, hS.F ht⟩) hS.2.2 dX1_tallyAllFelt_46
      · have hm := it_neg c_1 hm
        refine lv_aload_n hx hb dX1_tallyAllFelt_12 rfl (lv_at hl 0 rfl) ?_
        refine va_get (D := (dC, dI)) (ci := 1) (v := .ref qe) (C := RX1) (T := TX1) (N := 2) hx hb hts hinX1 hown hK hP 0 rfl rfl 0 (by decide) hl_9 (fun _ h9 => h9) rfl dX1_tallyAllFelt_13 ?_
        refine lv_iload_n hx hb dX1_tallyAllFelt_16 rfl (lv_at hl 3 rfl) ?_
        obtain ⟨i_2, hm⟩ := ck_ok hm
        refine va_iald hx hb hK hP 1 0 rfl rfl i_2 dX1_tallyAllFelt_17 ?_
        have hPc := hP.sub (ws' := []) [] rfl
        have hDc := hD.sub (ws' := []) [] (by decide) rfl
        have hFc := va_free (wc := []) hD hS hA [] rfl
        obtain ⟨u_3, hc_3, hm⟩ := bd_ok hm
        refine va_calli (va_runS (As := [.int (gDent v3_4.toNatClampNeg)]) (rest := []) ⟨hx, hb, hml, hown, hts⟩ (kD_timeOf l dC dI cA ad H.size (gDent v3_4.toNatClampNeg) u_3 hc_3) (va_cwS 1 hts gX1_tallyAllFelt_X1_timeOf rfl rfl rfl (by decide +kernel) ⟨Nat.le_of_ble_eq_true rfl, Nat.le_of_ble_eq_true rfl⟩) ⟨fun a U g mk q => by obtain ⟨q0, q1, qP, qK, qD⟩ := q; exact ⟨q0, q1, qP, va_K.moved (u := U) (U := U.calling g mk a) (Vm.Alike.refl U.vm) qK, qD⟩, fun U hU hW => ⟨rfl, by rw [hU], by rw [hU]; exact hPc, va_K.moved hW.alike hK, hDc.weaken (fun _ _ _ _ => trivial)⟩⟩ rfl rfl hl.1 rfl (lv_room (Nat.le_of_ble_eq_true rfl)) dX1_tallyAllFelt_18 ⟨Nat.le_of_ble_eq_true rfl, Nat.le_of_ble_eq_true rfl⟩) hS (fun q _ h => hFc q h) hFc (fun r_3 _ t H1 locs ht hvm hw hB hz1 hk1 hS => ?_)
        obtain ⟨hP1, hK1, hD1⟩ := hB
        rw [ht] at hP1
        obtain ⟨hP, hD⟩ := va_join (wr := [oDia ad qe xDia_size, ar qe cA ne gDent]) (w1 := []) hP hD [] [0, 1] rfl rfl (by decide) (by decide) hk1 hFc hP1 hD1
        clear hPc hDc hFc hP1 hK1 hD1 hk1 hz1 hvm ht
        generalize H1 = H at hP hS ⊢
        have hP : va_P (dC, dI) vwCl [oDia ad qe xDia_size, ar qe cA ne gDent] H := hP
        have hD : va_D A [oDia ad qe xDia_size, ar qe cA ne gDent] := hD
        have hw := hw.symm
        subst hw
        refine lv_iload_n hx hb dX1_tallyAllFelt_21 rfl (lv_at hl 1 rfl) ?_
        refine lv_icmp_gt (tgt := 45) hx hb dX1_tallyAllFelt_22 (by decide) (fun c_4 => ?_) (fun c_4 => ?_)
        · have hm := it_pos c_4 hm
          refine lv_iload_n hx hb dX1_tallyAllFelt_45 rfl (lv_at hl 2 rfl) ?_
          obtain rfl := Option.some.inj hm
          subst hQ
          exact W.iret (v := v2_4) hx hb hr (fun t ht hW => ⟨⟨_, (), rfl, rfl, by rw [ht]; exact hP, va_K.moved hW.alike hK, hAe ▸ hD⟩, hS.F ht⟩) hS.2.2 dX1_tallyAllFelt_46
        · have hm := it_neg c_4 hm
          refine lv_aload_n hx hb dX1_tallyAllFelt_25 rfl (lv_at hl 0 rfl) ?_
          refine va_get (D := (dC, dI)) (ci := 1) (v := .ref qe) (C := RX1) (T := TX1) (N := 2) hx hb hts hinX1 hown hK hP 0 rfl rfl 0 (by decide) hl_9 (fun _ h9 => h9) rfl dX1_tallyAllFelt_26 ?_
          refine lv_iload_n hx hb dX1_tallyAllFelt_29 rfl (lv_at hl 3 rfl) ?_
          obtain ⟨i_5, hm⟩ := ck_ok hm
          refine va_iald hx hb hK hP 1 0 rfl rfl i_5 dX1_tallyAllFelt_30 ?_
          refine lv_iconst (v := 1) hx hb dX1_tallyAllFelt_31 (by decide) ?_
          refine lv_iand hx hb dX1_tallyAllFelt_32 ?_
          refine lv_if_ne (tgt := 39) hx hb dX1_tallyAllFelt_33 (by decide) (fun c_6 => ?_) (fun c_6 => ?_)
          · have hm := it_neg c_6 hm
            exact b_39 _ _ hm _ _ hP hD hS _ (lv_sub hl [0, 1, 2, 3] rfl)
          · have hm := it_pos c_6 hm
            refine lv_iinc (v := (v2_4 + 1)) (lv' := [(2, .int (v2_4 + 1)), (0, .ref (ad 15)), (1, .int v1_4), (3, .int v3_4)]) hx hb dX1_tallyAllFelt_36 hl (k := 2) rfl rfl (by decide) rfl (fun ls hl => ?_)
            exact b_39 _ _ hm _ _ hP hD hS _ (lv_sub hl [1, 2, 0, 3] rfl)
  unfold fD_tallyAllFelt at hm
  refine lv_iconst (v := 0) hx hb dX1_tallyAllFelt_0 (by decide) ?_
  refine lv_istore_n (lv' := [(2, .int 0), (0, .ref (ad 15)), (1, .int a1)]) hx hb dX1_tallyAllFelt_1 rfl hl (by decide) rfl (fun ls hl => ?_)
  refine lv_iconst (v := 0) hx hb dX1_tallyAllFelt_2 (by decide) ?_
  refine lv_istore_n (lv' := [(3, .int 0), (2, .int 0), (0, .ref (ad 15)), (1, .int a1)]) hx hb dX1_tallyAllFelt_3 rfl hl (by decide) rfl (fun ls hl => ?_)
  exact h_4 _ _ _ _ hm _ _ hP hD hS _ (lv_sub hl [2, 3, 1, 0] rfl)

set_option maxHeartbeats 4000000 in
set_option maxRecDepth 100000 in
theorem kS_allFeltUpTo_T (l : Launch) (dC : Nat → ClassId) (dI : Nat → Nat → Nat) (cA : ClassId) (ad : Nat → Nat) (qe : Nat) (sz : Nat) (a1 : Int32) (xST_sleeper : Int32) (xST_lastDue : Int32) (xST_unreached : Int32) (xDia_size : Int32) (ne : Nat) (gDent : Nat → Int32) (u : Int32) (hm : fS_allFeltUpTo_T a1 xDia_size ne gDent = some u) : Met l yX8_allFeltUpTo wsX8_allFeltUpTo ({ frames := 2, cells := 0, slots := 0, locals := 43 }) (va_Pc [.ref (ad 9), .int a1] (fun U => U.heap.size = sz ∧ va_P (dC, dI) vwCl [oST ad xST_sleeper xST_lastDue xST_unreached, oDia ad qe xDia_size, ar qe cA ne gDent] U.heap ∧ va_K (dC, dI) vwCl [(cA, .int)] U ∧ va_D (fun _ => True) [oST ad xST_sleeper xST_lastDue xST_unreached, oDia ad qe xDia_size, ar qe cA ne gDent])) (va_Qi (fun (r : Int32) (_ : Unit) => r = u) (fun (_ : Unit) t => va_P (dC, dI) vwCl [oST ad xST_sleeper xST_lastDue xST_unreached, oDia ad qe xDia_size, ar qe cA ne gDent] t.heap ∧ va_K (dC, dI) vwCl [(cA, .int)] t ∧ va_D (va_A [oST ad xST_sleeper xST_lastDue xST_unreached, oDia ad qe xDia_size, ar qe cA ne gDent] sz) [oST ad xST_sleeper xST_lastDue xST_unreached, oDia ad qe xDia_size, ar qe cA ne gDent]) (va_A [oST ad xST_sleeper xST_lastDue xST_unreached, oDia ad qe xDia_size, ar qe cA ne gDent] sz)) 0 0 (va_A [oST ad xST_sleeper xST_lastDue xST_unreached, oDia ad qe xDia_size, ar qe cA ne gDent] sz) := by
  refine Met.ofW (cc := cX8_allFeltUpTo) (maxL := 2) (ret := (some .int)) (by decide) rfl ?_
  intro p e s m args below meth c s₁ B hml hv
  obtain ⟨rfl, hsz, hP, hK, hD0⟩ := hv
  have hx := B.exec
  have hb := B.bytes
  have hr := B.returns
  have hts := atoms_spec (ws := wsX8_allFeltUpTo) B.pre
  have hown : s.vm.findClass RX8 = some m.cls := findClass_of_methodNamed B.named
  have hlocks := B.notSynchronized
  subst hsz
  have hD := hD0.self (sz := s.heap.size)
  generalize hAe : va_A [oST ad xST_sleeper xST_lastDue xST_unreached, oDia ad qe xDia_size, ar qe cA ne gDent] s.heap.size = A at hD ⊢
  have hA : ∀ q : Nat, s.heap.size ≤ q → A q := fun q h => by rw [← hAe]; exact Or.inr h
  have hS : va_S A s.heap s.heap [] := va_S.rf
  have hl := lv_entry ([.ref (ad 9), .int a1]) (n := 2) (Nat.le_of_ble_eq_true rfl)
  rw [lg_entry_eq]
  generalize (lg_sl ([.ref (ad 9), .int a1]) ++ List.replicate (2 - (lg_sl ([.ref (ad 9), .int a1])).length) Slot.unset).toArray = ls at hl ⊢
  have hl : lv_has ls 2 [(0, .ref (ad 9)), (1, .int a1)] := hl
  refine wk_Q (fun QQ hQ => ?_)
  have hinX8 : ∀ w ∈ wsX80, w ∈ wsX8_allFeltUpTo := fun w h => List.mem_cons_of_mem _ (inlX8 w h)
  have hl_15 := hts (.fieldLink RX8 15 "HandCensus$Squeeze" "diary" "LHandCensus$Diary;") (List.mem_cons_of_mem _ (in_r4 _ (List.mem_of_getElem? (i := 3) rfl)))
  unfold fS_allFeltUpTo_T at hm
  refine lv_aload_n hx hb dX8_allFeltUpTo_0 rfl (lv_at hl 0 rfl) ?_
  refine va_get (D := (dC, dI)) (ci := 8) (v := .ref (ad 15)) (C := RX8) (T := TX8) (N := 10) hx hb hts hinX8 hown hK hP 0 rfl rfl 1 (by decide) hl_15 (fun _ h9 => h9) rfl dX8_allFeltUpTo_1 ?_
  refine lv_ifnonnull (tgt := 11) hx hb dX8_allFeltUpTo_4 (by decide) ?_
  refine lv_aload_n hx hb dX8_allFeltUpTo_11 rfl (lv_at hl 0 rfl) ?_
  refine va_get (D := (dC, dI)) (ci := 8) (v := .ref (ad 15)) (C := RX8) (T := TX8) (N := 10) hx hb hts hinX8 hown hK hP 0 rfl rfl 1 (by decide) hl_15 (fun _ h9 => h9) rfl dX8_allFeltUpTo_12 ?_
  refine lv_iload_n hx hb dX8_allFeltUpTo_15 rfl (lv_at hl 1 rfl) ?_
  have hPc := hP.sub (ws' := [oDia ad qe xDia_size, ar qe cA ne gDent]) [1, 2] rfl
  have hDc := hD.sub (ws' := [oDia ad qe xDia_size, ar qe cA ne gDent]) [1, 2] (by decide) rfl
  have hFc := va_free (wc := [oDia ad qe xDia_size, ar qe cA ne gDent]) hD hS hA [1, 2] rfl
  obtain ⟨u_1, hc_1, hm⟩ := bd_ok hm
  refine va_calli (va_runV (As := [.int a1]) (rest := []) ⟨hx, hb, hml, hown, hts⟩ (kD_tallyAllFelt l dC dI cA ad qe s.heap.size a1 xDia_size ne gDent u_1 hc_1) (cwV 1 hts gX8_allFeltUpTo_X1_tallyAllFelt rfl rfl rfl (by decide +kernel) ⟨Nat.le_of_ble_eq_true rfl, Nat.le_of_ble_eq_true rfl⟩) ⟨fun a U g mk q => by obtain ⟨q0, q1, qP, qK, qD⟩ := q; exact ⟨q0, q1, qP, va_K.moved (u := U) (U := U.calling g mk a) (Vm.Alike.refl U.vm) qK, qD⟩, va_recv hK hPc (ci := 1) (q0 := 0) rfl rfl, fun U hU hW => ⟨rfl, by rw [hU], by rw [hU]; exact hPc, va_K.moved hW.alike hK, hDc.weaken (fun _ _ _ _ => trivial)⟩⟩ rfl rfl hl.1 rfl (lv_room (Nat.le_of_ble_eq_true rfl)) dX8_allFeltUpTo_16 ⟨Nat.le_of_ble_eq_true rfl, Nat.le_of_ble_eq_true rfl⟩) hS (fun q _ h => hFc q h) hFc (fun r_1 _ t H1 locs ht hvm hw hB hz1 hk1 hS => ?_)
  obtain ⟨hP1, hK1, hD1⟩ := hB
  rw [ht] at hP1
  obtain ⟨hP, hD⟩ := va_join (wr := [oST ad xST_sleeper xST_lastDue xST_unreached]) (w1 := [oDia ad qe xDia_size, ar qe cA ne gDent]) hP hD [1, 2] [0] rfl rfl (by decide) (by decide) hk1 hFc hP1 hD1
  clear hPc hDc hFc hP1 hK1 hD1 hk1 hz1 hvm ht
  generalize H1 = H at hP hS ⊢
  have hP : va_P (dC, dI) vwCl [oST ad xST_sleeper xST_lastDue xST_unreached, oDia ad qe xDia_size, ar qe cA ne gDent] H := hP
  have hD : va_D A [oST ad xST_sleeper xST_lastDue xST_unreached, oDia ad qe xDia_size, ar qe cA ne gDent] := hD
  have hw := hw.symm
  subst hw
  obtain rfl := Option.some.inj hm
  subst hQ
  exact W.iret (v := u_1) hx hb hr (fun t ht hW => ⟨⟨_, (), rfl, rfl, by rw [ht]; exact hP, va_K.moved hW.alike hK, hAe ▸ hD⟩, hS.F ht⟩) hS.2.2 dX8_allFeltUpTo_19

set_option maxHeartbeats 4000000 in
set_option maxRecDepth 100000 in
theorem kC_passed (l : Launch) (dC : Nat → ClassId) (dI : Nat → Nat → Nat) (cA : ClassId) (ad : Nat → Nat) (qe : Nat) (sz : Nat) (a1 : Int32) (xHC_first : Int32) (xHC_second : Int32) (xHC_when : Int32) (xHC_ran : Int32) (xRow_depth : Int32) (xRow_length : Int32) (xRow_people : Int32) (xRow_scarves : Int32) (xRow_main : Int32) (xRow_faultPlace : Int32) (gRkinds : Nat → Int32) (gRlates : Nat → Int32) (gRhands : Nat → Int32) (gRslow : Nat → Int32) (xST_sleeper : Int32) (xST_lastDue : Int32) (xST_unreached : Int32) (gSTdue : Nat → Int32) (gSTbusy : Nat → Int32) (gSTfelt : Nat → Int32) (gSTlost : Nat → Int32) (gSTfirst : Nat → Int32) (xDia_size : Int32) (ne : Nat) (gDent : Nat → Int32) (u : Int32 × Int32 × Int32 × Int32 × Int32 × (Nat → Int32) × (Nat → Int32) × (Nat → Int32) × (Nat → Int32) × (Nat → Int32) × Int32 × Nat × (Nat → Int32)) (hm : fC_passed a1 xHC_first xHC_second xHC_when xHC_ran xRow_people gRkinds gRlates gRhands gRslow xST_sleeper xST_lastDue xST_unreached gSTdue gSTbusy gSTfelt gSTlost gSTfirst xDia_size ne gDent = some u) : Met l yX9_passed wsX9_passed ({ frames := 5, cells := (u.2.2.2.2.2.2.2.2.2.2.2.1 - ne), slots := (2 * (u.2.2.2.2.2.2.2.2.2.2.2.1 - ne)), locals := 123 }) (va_Pc [.ref (ad 0), .int a1] (fun U => U.heap.size = sz ∧ va_P (dC, dI) vwCl [oHC ad xHC_first xHC_second xHC_when xHC_ran, oRow ad xRow_depth xRow_length xRow_people xRow_scarves xRow_main xRow_faultPlace, ar (ad 3) cA 20 gRkinds, ar (ad 4) cA 20 gRlates, ar (ad 5) cA 20 gRhands, ar (ad 6) cA 20 gRslow, oST ad xST_sleeper xST_lastDue xST_unreached, ar (ad 10) cA 640 gSTdue, ar (ad 11) cA 20 gSTbusy, ar (ad 12) cA 20 gSTfelt, ar (ad 13) cA 20 gSTlost, ar (ad 14) cA 20 gSTfirst, oDia ad qe xDia_size, ar qe cA ne gDent] U.heap ∧ va_K (dC, dI) vwCl [(cA, .int)] U ∧ va_D (fun _ => True) [oHC ad xHC_first xHC_second xHC_when xHC_ran, oRow ad xRow_depth xRow_length xRow_people xRow_scarves xRow_main xRow_faultPlace, ar (ad 3) cA 20 gRkinds, ar (ad 4) cA 20 gRlates, ar (ad 5) cA 20 gRhands, ar (ad 6) cA 20 gRslow, oST ad xST_sleeper xST_lastDue xST_unreached, ar (ad 10) cA 640 gSTdue, ar (ad 11) cA 20 gSTbusy, ar (ad 12) cA 20 gSTfelt, ar (ad 13) cA 20 gSTlost, ar (ad 14) cA 20 gSTfirst, oDia ad qe xDia_size, ar qe cA ne gDent])) (va_Qi (fun (r : Int32) (_ : Nat) => r = u.1) (fun (qe2 : Nat) t => va_P (dC, dI) vwCl [oHC ad xHC_first xHC_second xHC_when u.2.1, oRow ad xRow_depth xRow_length xRow_people xRow_scarves xRow_main xRow_faultPlace, ar (ad 3) cA 20 gRkinds, ar (ad 4) cA 20 gRlates, ar (ad 5) cA 20 gRhands, ar (ad 6) cA 20 gRslow, oST ad u.2.2.1 u.2.2.2.1 u.2.2.2.2.1, ar (ad 10) cA 640 u.2.2.2.2.2.1, ar (ad 11) cA 20 u.2.2.2.2.2.2.1, ar (ad 12) cA 20 u.2.2.2.2.2.2.2.1, ar (ad 13) cA 20 u.2.2.2.2.2.2.2.2.1, ar (ad 14) cA 20 u.2.2.2.2.2.2.2.2.2.1, oDia ad qe2 u.2.2.2.2.2.2.2.2.2.2.1, ar qe2 cA u.2.2.2.2.2.2.2.2.2.2.2.1 u.2.2.2.2.2.2.2.2.2.2.2.2] t.heap ∧ va_K (dC, dI) vwCl [(cA, .int)] t ∧ va_D (va_A [oHC ad xHC_first xHC_second xHC_when xHC_ran, oRow ad xRow_depth xRow_length xRow_people xRow_scarves xRow_main xRow_faultPlace, ar (ad 3) cA 20 gRkinds, ar (ad 4) cA 20 gRlates, ar (ad 5) cA 20 gRhands, ar (ad 6) cA 20 gRslow, oST ad xST_sleeper xST_lastDue xST_unreached, ar (ad 10) cA 640 gSTdue, ar (ad 11) cA 20 gSTbusy, ar (ad 12) cA 20 gSTfelt, ar (ad 13) cA 20 gSTlost, ar (ad 14) cA 20 gSTfirst, oDia ad qe xDia_size, ar qe cA ne gDent] sz) [oHC ad xHC_first xHC_second xHC_when u.2.1, oRow ad xRow_depth xRow_length xRow_people xRow_scarves xRow_main xRow_faultPlace, ar (ad 3) cA 20 gRkinds, ar (ad 4) cA 20 gRlates, ar (ad 5) cA 20 gRhands, ar (ad 6) cA 20 gRslow, oST ad u.2.2.1 u.2.2.2.1 u.2.2.2.2.1, ar (ad 10) cA 640 u.2.2.2.2.2.1, ar (ad 11) cA 20 u.2.2.2.2.2.2.1, ar (ad 12) cA 20 u.2.2.2.2.2.2.2.1, ar (ad 13) cA 20 u.2.2.2.2.2.2.2.2.1, ar (ad 14) cA 20 u.2.2.2.2.2.2.2.2.2.1, oDia ad qe2 u.2.2.2.2.2.2.2.2.2.2.1, ar qe2 cA u.2.2.2.2.2.2.2.2.2.2.2.1 u.2.2.2.2.2.2.2.2.2.2.2.2]) (va_A [oHC ad xHC_first xHC_second xHC_when xHC_ran, oRow ad xRow_depth xRow_length xRow_people xRow_scarves xRow_main xRow_faultPlace, ar (ad 3) cA 20 gRkinds, ar (ad 4) cA 20 gRlates, ar (ad 5) cA 20 gRhands, ar (ad 6) cA 20 gRslow, oST ad xST_sleeper xST_lastDue xST_unreached, ar (ad 10) cA 640 gSTdue, ar (ad 11) cA 20 gSTbusy, ar (ad 12) cA 20 gSTfelt, ar (ad 13) cA 20 gSTlost, ar (ad 14) cA 20 gSTfirst, oDia ad qe xDia_size, ar qe cA ne gDent] sz)) (u.2.2.2.2.2.2.2.2.2.2.2.1 - ne) (2 * (u.2.2.2.2.2.2.2.2.2.2.2.1 - ne)) (va_A [oHC ad xHC_first xHC_second xHC_when xHC_ran, oRow ad xRow_depth xRow_length xRow_people xRow_scarves xRow_main xRow_faultPlace, ar (ad 3) cA 20 gRkinds, ar (ad 4) cA 20 gRlates, ar (ad 5) cA 20 gRhands, ar (ad 6) cA 20 gRslow, oST ad xST_sleeper xST_lastDue xST_unreached, ar (ad 10) cA 640 gSTdue, ar (ad 11) cA 20 gSTbusy, ar (ad 12) cA 20 gSTfelt, ar (ad 13) cA 20 gSTlost, ar (ad 14) cA 20 gSTfirst, oDia ad qe xDia_size, ar qe cA ne gDent] sz) := by
  refine Met.ofW (cc := cX9_passed) (maxL := 2) (ret := (some .int)) (by decide) rfl ?_
  intro p e s m args below meth c s₁ B hml hv
  obtain ⟨rfl, hsz, hP, hK, hD0⟩ := hv
  have hx := B.exec
  have hb := B.bytes
  have hr := B.returns
  have hts := atoms_spec (ws := wsX9_passed) B.pre
  have hown : s.vm.findClass RX9 = some m.cls := findClass_of_methodNamed B.named
  have hlocks := B.notSynchronized
  subst hsz
  have hD := hD0.self (sz := s.heap.size)
  generalize hAe : va_A [oHC ad xHC_first xHC_second xHC_when xHC_ran, oRow ad xRow_depth xRow_length xRow_people xRow_scarves xRow_main xRow_faultPlace, ar (ad 3) cA 20 gRkinds, ar (ad 4) cA 20 gRlates, ar (ad 5) cA 20 gRhands, ar (ad 6) cA 20 gRslow, oST ad xST_sleeper xST_lastDue xST_unreached, ar (ad 10) cA 640 gSTdue, ar (ad 11) cA 20 gSTbusy, ar (ad 12) cA 20 gSTfelt, ar (ad 13) cA 20 gSTlost, ar (ad 14) cA 20 gSTfirst, oDia ad qe xDia_size, ar qe cA ne gDent] s.heap.size = A at hD ⊢
  have hA : ∀ q : Nat, s.heap.size ≤ q → A q := fun q h => by rw [← hAe]; exact Or.inr h
  have hS : va_S A s.heap s.heap [] := va_S.rf
  have hl := lv_entry ([.ref (ad 0), .int a1]) (n := 2) (Nat.le_of_ble_eq_true rfl)
  rw [lg_entry_eq]
  generalize (lg_sl ([.ref (ad 0), .int a1]) ++ List.replicate (2 - (lg_sl ([.ref (ad 0), .int a1])).length) Slot.unset).toArray = ls at hl ⊢
  have hl : lv_has ls 2 [(0, .ref (ad 0)), (1, .int a1)] := hl
  refine wk_Q (fun QQ hQ => ?_)
  unfold fC_passed at hm
  obtain ⟨hz0, hm⟩ := mz_ok hm
  have hz0 : ne ≤ u.2.2.2.2.2.2.2.2.2.2.2.1 := hz0
  refine lv_iload_n hx hb dX9_passed_0 rfl (lv_at hl 1 rfl) ?_
  have hPc := hP.sub (ws' := []) [] rfl
  have hDc := hD.sub (ws' := []) [] (by decide) rfl
  have hFc := va_free (wc := []) hD hS hA [] rfl
  obtain ⟨u_1, hc_1, hm⟩ := bd_ok hm
  refine va_calli (va_runS (As := [.int a1]) (rest := []) ⟨hx, hb, hml, hown, hts⟩ (kC_isTime l dC dI cA ad s.heap.size a1 u_1 hc_1) (va_cwS 1 hts gX9_passed_X9_isTime rfl rfl rfl (by decide +kernel) ⟨Nat.le_of_ble_eq_true rfl, Nat.le_of_ble_eq_true rfl⟩) ⟨fun a U g mk q => by obtain ⟨q0, q1, qP, qK, qD⟩ := q; exact ⟨q0, q1, qP, va_K.moved (u := U) (U := U.calling g mk a) (Vm.Alike.refl U.vm) qK, qD⟩, fun U hU hW => ⟨rfl, by rw [hU], by rw [hU]; exact hPc, va_K.moved hW.alike hK, hDc.weaken (fun _ _ _ _ => trivial)⟩⟩ rfl rfl hl.1 rfl (lv_room (Nat.le_of_ble_eq_true rfl)) dX9_passed_1 ⟨by (show _ ≤ _ - _); omega, by (show _ ≤ 2 * (_ - _)); omega⟩) hS (fun q _ h => hFc q h) hFc (fun r_1 _ t H1 locs ht hvm hw hB hz1 hk1 hS => ?_)
  obtain ⟨hP1, hK1, hD1⟩ := hB
  rw [ht] at hP1
  obtain ⟨hP, hD⟩ := va_join (wr := [oHC ad xHC_first xHC_second xHC_when xHC_ran, oRow ad xRow_depth xRow_length xRow_people xRow_scarves xRow_main xRow_faultPlace, ar (ad 3) cA 20 gRkinds, ar (ad 4) cA 20 gRlates, ar (ad 5) cA 20 gRhands, ar (ad 6) cA 20 gRslow, oST ad xST_sleeper xST_lastDue xST_unreached, ar (ad 10) cA 640 gSTdue, ar (ad 11) cA 20 gSTbusy, ar (ad 12) cA 20 gSTfelt, ar (ad 13) cA 20 gSTlost, ar (ad 14) cA 20 gSTfirst, oDia ad qe xDia_size, ar qe cA ne gDent]) (w1 := []) hP hD [] [0, 1, 2, 3, 4, 5, 6, 7, 8, 9, 10, 11, 12, 13] rfl rfl (by decide) (by decide) hk1 hFc hP1 hD1
  clear hPc hDc hFc hP1 hK1 hD1 hk1 hz1 hvm ht
  generalize H1 = H at hP hS ⊢
  have hP : va_P (dC, dI) vwCl [oHC ad xHC_first xHC_second xHC_when xHC_ran, oRow ad xRow_depth xRow_length xRow_people xRow_scarves xRow_main xRow_faultPlace, ar (ad 3) cA 20 gRkinds, ar (ad 4) cA 20 gRlates, ar (ad 5) cA 20 gRhands, ar (ad 6) cA 20 gRslow, oST ad xST_sleeper xST_lastDue xST_unreached, ar (ad 10) cA 640 gSTdue, ar (ad 11) cA 20 gSTbusy, ar (ad 12) cA 20 gSTfelt, ar (ad 13) cA 20 gSTlost, ar (ad 14) cA 20 gSTfirst, oDia ad qe xDia_size, ar qe cA ne gDent] H := hP
  have hD : va_D A [oHC ad xHC_first xHC_second xHC_when xHC_ran, oRow ad xRow_depth xRow_length xRow_people xRow_scarves xRow_main xRow_faultPlace, ar (ad 3) cA 20 gRkinds, ar (ad 4) cA 20 gRlates, ar (ad 5) cA 20 gRhands, ar (ad 6) cA 20 gRslow, oST ad xST_sleeper xST_lastDue xST_unreached, ar (ad 10) cA 640 gSTdue, ar (ad 11) cA 20 gSTbusy, ar (ad 12) cA 20 gSTfelt, ar (ad 13) cA 20 gSTlost, ar (ad 14) cA 20 gSTfirst, oDia ad qe xDia_size, ar qe cA ne gDent] := hD
  have hw := hw.symm
  subst hw
  refine lv_if_eq (tgt := 18) hx hb dX9_passed_4 (by decide) (fun c_2 => ?_) (fun c_2 => ?_)
  · have hm := it_pos c_2 hm
    refine lv_bipush (v := (-2)) hx hb dX9_passed_18 (by decide) ?_
    obtain rfl := Option.some.inj hm
    subst hQ
    refine W.widen (k := ne - ne) (n := 2 * (ne - ne)) (by first | exact Nat.le_refl _ | omega) (by first | exact Nat.le_refl _ | omega) ?_
    exact W.iret (v := (-2)) hx hb hr (fun t ht hW => ⟨⟨_, qe, rfl, rfl, by rw [ht]; exact hP, va_K.moved hW.alike hK, hAe ▸ hD⟩, hS.F ht⟩) hS.2.2 dX9_passed_20
  · have hm := it_neg c_2 hm
    refine lv_aload_n hx hb dX9_passed_7 rfl (lv_at hl 0 rfl) ?_
    have hPc := hP.sub (ws' := [oHC ad xHC_first xHC_second xHC_when xHC_ran, oRow ad xRow_depth xRow_length xRow_people xRow_scarves xRow_main xRow_faultPlace, ar (ad 3) cA 20 gRkinds, ar (ad 4) cA 20 gRlates, ar (ad 5) cA 20 gRhands, ar (ad 6) cA 20 gRslow, oST ad xST_sleeper xST_lastDue xST_unreached, ar (ad 10) cA 640 gSTdue, ar (ad 11) cA 20 gSTbusy, ar (ad 12) cA 20 gSTfelt, ar (ad 13) cA 20 gSTlost, ar (ad 14) cA 20 gSTfirst, oDia ad qe xDia_size, ar qe cA ne gDent]) [0, 1, 2, 3, 4, 5, 6, 7, 8, 9, 10, 11, 12, 13] rfl
    have hDc := hD.sub (ws' := [oHC ad xHC_first xHC_second xHC_when xHC_ran, oRow ad xRow_depth xRow_length xRow_people xRow_scarves xRow_main xRow_faultPlace, ar (ad 3) cA 20 gRkinds, ar (ad 4) cA 20 gRlates, ar (ad 5) cA 20 gRhands, ar (ad 6) cA 20 gRslow, oST ad xST_sleeper xST_lastDue xST_unreached, ar (ad 10) cA 640 gSTdue, ar (ad 11) cA 20 gSTbusy, ar (ad 12) cA 20 gSTfelt, ar (ad 13) cA 20 gSTlost, ar (ad 14) cA 20 gSTfirst, oDia ad qe xDia_size, ar qe cA ne gDent]) [0, 1, 2, 3, 4, 5, 6, 7, 8, 9, 10, 11, 12, 13] (by decide) rfl
    have hFc := va_free (wc := [oHC ad xHC_first xHC_second xHC_when xHC_ran, oRow ad xRow_depth xRow_length xRow_people xRow_scarves xRow_main xRow_faultPlace, ar (ad 3) cA 20 gRkinds, ar (ad 4) cA 20 gRlates, ar (ad 5) cA 20 gRhands, ar (ad 6) cA 20 gRslow, oST ad xST_sleeper xST_lastDue xST_unreached, ar (ad 10) cA 640 gSTdue, ar (ad 11) cA 20 gSTbusy, ar (ad 12) cA 20 gSTfelt, ar (ad 13) cA 20 gSTlost, ar (ad 14) cA 20 gSTfirst, oDia ad qe xDia_size, ar qe cA ne gDent]) hD hS hA [0, 1, 2, 3, 4, 5, 6, 7, 8, 9, 10, 11, 12, 13] rfl
    obtain ⟨u_3, hc_3, hn1_3, hn2_3, hm⟩ := bm_ok hm
    have hn1_3 : ne ≤ u_3.2.2.2.2.2.2.2.2.2.2.1 := hn1_3
    have hn2_3 : u_3.2.2.2.2.2.2.2.2.2.2.1 ≤ u.2.2.2.2.2.2.2.2.2.2.2.1 := hn2_3
    refine va_callr (va_runV (As := []) (rest := []) ⟨hx, hb, hml, hown, hts⟩ (kC_asTold l dC dI cA ad qe H.size xHC_first xHC_second xHC_when xHC_ran xRow_depth xRow_length xRow_people xRow_scarves xRow_main xRow_faultPlace gRkinds gRlates gRhands gRslow xST_sleeper xST_lastDue xST_unreached gSTdue gSTbusy gSTfelt gSTlost gSTfirst xDia_size ne gDent u_3 hc_3) (cwV 0 hts gX9_passed_X9_asTold rfl rfl rfl (by decide +kernel) ⟨Nat.le_of_ble_eq_true rfl, Nat.le_of_ble_eq_true rfl⟩) ⟨fun a U g mk q => by obtain ⟨q0, q1, qP, qK, qD⟩ := q; exact ⟨q0, q1, qP, va_K.moved (u := U) (U := U.calling g mk a) (Vm.Alike.refl U.vm) qK, qD⟩, va_recv hK hPc (ci := 9) (q0 := 0) rfl rfl, fun U hU hW => ⟨rfl, by rw [hU], by rw [hU]; exact hPc, va_K.moved hW.alike hK, hDc.weaken (fun _ _ _ _ => trivial)⟩⟩ rfl rfl hl.1 rfl (lv_room (Nat.le_of_ble_eq_true rfl)) dX9_passed_8 ⟨by (show _ ≤ _ - _); omega, by (show _ ≤ 2 * (_ - _)); omega⟩) hS (fun q _ h => hFc q h) hFc (fun qe_1003 ra_3 t H1 locs ht hvm hw hB hz1 hk1 hS => ?_)
    obtain ⟨hra_3, hP1, hK1, hD1⟩ := hB
    subst hra_3
    rw [ht] at hP1
    obtain ⟨hP, hD⟩ := va_join (wr := []) (w1 := [oHC ad xHC_first xHC_second xHC_when u_3.1, oRow ad xRow_depth xRow_length xRow_people xRow_scarves xRow_main xRow_faultPlace, ar (ad 3) cA 20 gRkinds, ar (ad 4) cA 20 gRlates, ar (ad 5) cA 20 gRhands, ar (ad 6) cA 20 gRslow, oST ad u_3.2.1 u_3.2.2.1 u_3.2.2.2.1, ar (ad 10) cA 640 u_3.2.2.2.2.1, ar (ad 11) cA 20 u_3.2.2.2.2.2.1, ar (ad 12) cA 20 u_3.2.2.2.2.2.2.1, ar (ad 13) cA 20 u_3.2.2.2.2.2.2.2.1, ar (ad 14) cA 20 u_3.2.2.2.2.2.2.2.2.1, oDia ad qe_1003 u_3.2.2.2.2.2.2.2.2.2.1, ar qe_1003 cA u_3.2.2.2.2.2.2.2.2.2.2.1 u_3.2.2.2.2.2.2.2.2.2.2.2]) hP hD [0, 1, 2, 3, 4, 5, 6, 7, 8, 9, 10, 11, 12, 13] [] rfl rfl (by decide) (by decide) hk1 hFc hP1 hD1
    clear hPc hDc hFc hP1 hK1 hD1 hk1 hz1 hvm ht
    generalize H1 = H at hP hS ⊢
    have hP : va_P (dC, dI) vwCl [oHC ad xHC_first xHC_second xHC_when u_3.1, oRow ad xRow_depth xRow_length xRow_people xRow_scarves xRow_main xRow_faultPlace, ar (ad 3) cA 20 gRkinds, ar (ad 4) cA 20 gRlates, ar (ad 5) cA 20 gRhands, ar (ad 6) cA 20 gRslow, oST ad u_3.2.1 u_3.2.2.1 u_3.2.2.2.1, ar (ad 10) cA 640 u_3.2.2.2.2.1, ar (ad 11) cA 20 u_3.2.2.2.2.2.1, ar (ad 12) cA 20 u_3.2.2.2.2.2.2.1, ar (ad 13) cA 20 u_3.2.2.2.2.2.2.2.1, ar (ad 14) cA 20 u_3.2.2.2.2.2.2.2.2.1, oDia ad qe_1003 u_3.2.2.2.2.2.2.2.2.2.1, ar qe_1003 cA u_3.2.2.2.2.2.2.2.2.2.2.1 u_3.2.2.2.2.2.2.2.2.2.2.2] H := hP
    have hD : va_D A [oHC ad xHC_first xHC_second xHC_when u_3.1, oRow ad xRow_depth xRow_length xRow_people xRow_scarves xRow_main xRow_faultPlace, ar (ad 3) cA 20 gRkinds, ar (ad 4) cA 20 gRlates, ar (ad 5) cA 20 gRhands, ar (ad 6) cA 20 gRslow, oST ad u_3.2.1 u_3.2.2.1 u_3.2.2.2.1, ar (ad 10) cA 640 u_3.2.2.2.2.1, ar (ad 11) cA 20 u_3.2.2.2.2.2.1, ar (ad 12) cA 20 u_3.2.2.2.2.2.2.1, ar (ad 13) cA 20 u_3.2.2.2.2.2.2.2.1, ar (ad 14) cA 20 u_3.2.2.2.2.2.2.2.2.1, oDia ad qe_1003 u_3.2.2.2.2.2.2.2.2.2.1, ar qe_1003 cA u_3.2.2.2.2.2.2.2.2.2.2.1 u_3.2.2.2.2.2.2.2.2.2.2.2] := hD
    refine W.widen (k := u_3.2.2.2.2.2.2.2.2.2.2.1 - ne) (n := 2 * (u_3.2.2.2.2.2.2.2.2.2.2.1 - ne)) (by omega) (by omega) ?_
    refine lv_iload_n hx hb dX9_passed_11 rfl (lv_at hl 1 rfl) ?_
    have hPc := hP.sub (ws' := [oST ad u_3.2.1 u_3.2.2.1 u_3.2.2.2.1, oDia ad qe_1003 u_3.2.2.2.2.2.2.2.2.2.1, ar qe_1003 cA u_3.2.2.2.2.2.2.2.2.2.2.1 u_3.2.2.2.2.2.2.2.2.2.2.2]) [6, 12, 13] rfl
    have hDc := hD.sub (ws' := [oST ad u_3.2.1 u_3.2.2.1 u_3.2.2.2.1, oDia ad qe_1003 u_3.2.2.2.2.2.2.2.2.2.1, ar qe_1003 cA u_3.2.2.2.2.2.2.2.2.2.2.1 u_3.2.2.2.2.2.2.2.2.2.2.2]) [6, 12, 13] (by decide) rfl
    have hFc := va_free (wc := [oST ad u_3.2.1 u_3.2.2.1 u_3.2.2.2.1, oDia ad qe_1003 u_3.2.2.2.2.2.2.2.2.2.1, ar qe_1003 cA u_3.2.2.2.2.2.2.2.2.2.2.1 u_3.2.2.2.2.2.2.2.2.2.2.2]) hD hS hA [6, 12, 13] rfl
    obtain ⟨u_4, hc_4, hm⟩ := bd_ok hm
    refine va_calli (va_runV (As := [.int a1]) (rest := []) ⟨hx, hb, hml, hown, hts⟩ (kS_allFeltUpTo_T l dC dI cA ad qe_1003 H.size a1 u_3.2.1 u_3.2.2.1 u_3.2.2.2.1 u_3.2.2.2.2.2.2.2.2.2.1 u_3.2.2.2.2.2.2.2.2.2.2.1 u_3.2.2.2.2.2.2.2.2.2.2.2 u_4 hc_4) (cwV 1 hts gX9_passed_X8_allFeltUpTo rfl rfl rfl (by decide +kernel) ⟨Nat.le_of_ble_eq_true rfl, Nat.le_of_ble_eq_true rfl⟩) ⟨fun a U g mk q => by obtain ⟨q0, q1, qP, qK, qD⟩ := q; exact ⟨q0, q1, qP, va_K.moved (u := U) (U := U.calling g mk a) (Vm.Alike.refl U.vm) qK, qD⟩, va_recv hK hPc (ci := 8) (q0 := 0) rfl rfl, fun U hU hW => ⟨rfl, by rw [hU], by rw [hU]; exact hPc, va_K.moved hW.alike hK, hDc.weaken (fun _ _ _ _ => trivial)⟩⟩ rfl rfl hl.1 rfl (lv_room (Nat.le_of_ble_eq_true rfl)) dX9_passed_12 ⟨by (show _ ≤ _ - _); omega, by (show _ ≤ 2 * (_ - _)); omega⟩) hS (fun q _ h => hFc q h) hFc (fun r_4 _ t H1 locs ht hvm hw hB hz1 hk1 hS => ?_)
    obtain ⟨hP1, hK1, hD1⟩ := hB
    rw [ht] at hP1
    obtain ⟨hP, hD⟩ := va_join (wr := [oHC ad xHC_first xHC_second xHC_when u_3.1, oRow ad xRow_depth xRow_length xRow_people xRow_scarves xRow_main xRow_faultPlace, ar (ad 3) cA 20 gRkinds, ar (ad 4) cA 20 gRlates, ar (ad 5) cA 20 gRhands, ar (ad 6) cA 20 gRslow, ar (ad 10) cA 640 u_3.2.2.2.2.1, ar (ad 11) cA 20 u_3.2.2.2.2.2.1, ar (ad 12) cA 20 u_3.2.2.2.2.2.2.1, ar (ad 13) cA 20 u_3.2.2.2.2.2.2.2.1, ar (ad 14) cA 20 u_3.2.2.2.2.2.2.2.2.1]) (w1 := [oST ad u_3.2.1 u_3.2.2.1 u_3.2.2.2.1, oDia ad qe_1003 u_3.2.2.2.2.2.2.2.2.2.1, ar qe_1003 cA u_3.2.2.2.2.2.2.2.2.2.2.1 u_3.2.2.2.2.2.2.2.2.2.2.2]) hP hD [6, 12, 13] [0, 1, 2, 3, 4, 5, 7, 8, 9, 10, 11] rfl rfl (by decide) (by decide) hk1 hFc hP1 hD1
    clear hPc hDc hFc hP1 hK1 hD1 hk1 hz1 hvm ht
    generalize H1 = H at hP hS ⊢
    have hP : va_P (dC, dI) vwCl [oHC ad xHC_first xHC_second xHC_when u_3.1, oRow ad xRow_depth xRow_length xRow_people xRow_scarves xRow_main xRow_faultPlace, ar (ad 3) cA 20 gRkinds, ar (ad 4) cA 20 gRlates, ar (ad 5) cA 20 gRhands, ar (ad 6) cA 20 gRslow, oST ad u_3.2.1 u_3.2.2.1 u_3.2.2.2.1, ar (ad 10) cA 640 u_3.2.2.2.2.1, ar (ad 11) cA 20 u_3.2.2.2.2.2.1, ar (ad 12) cA 20 u_3.2.2.2.2.2.2.1, ar (ad 13) cA 20 u_3.2.2.2.2.2.2.2.1, ar (ad 14) cA 20 u_3.2.2.2.2.2.2.2.2.1, oDia ad qe_1003 u_3.2.2.2.2.2.2.2.2.2.1, ar qe_1003 cA u_3.2.2.2.2.2.2.2.2.2.2.1 u_3.2.2.2.2.2.2.2.2.2.2.2] H := hP.sub [0, 1, 2, 3, 4, 5, 11, 6, 7, 8, 9, 10, 12, 13] rfl
    have hD : va_D A [oHC ad xHC_first xHC_second xHC_when u_3.1, oRow ad xRow_depth xRow_length xRow_people xRow_scarves xRow_main xRow_faultPlace, ar (ad 3) cA 20 gRkinds, ar (ad 4) cA 20 gRlates, ar (ad 5) cA 20 gRhands, ar (ad 6) cA 20 gRslow, oST ad u_3.2.1 u_3.2.2.1 u_3.2.2.2.1, ar (ad 10) cA 640 u_3.2.2.2.2.1, ar (ad 11) cA 20 u_3.2.2.2.2.2.1, ar (ad 12) cA 20 u_3.2.2.2.2.2.2.1, ar (ad 13) cA 20 u_3.2.2.2.2.2.2.2.1, ar (ad 14) cA 20 u_3.2.2.2.2.2.2.2.2.1, oDia ad qe_1003 u_3.2.2.2.2.2.2.2.2.2.1, ar qe_1003 cA u_3.2.2.2.2.2.2.2.2.2.2.1 u_3.2.2.2.2.2.2.2.2.2.2.2] := hD.sub [0, 1, 2, 3, 4, 5, 11, 6, 7, 8, 9, 10, 12, 13] (by decide) rfl
    have hw := hw.symm
    subst hw
    refine lv_goto (tgt := 20) hx hb dX9_passed_15 (by decide) ?_
    obtain rfl := Option.some.inj hm
    subst hQ
    refine W.widen (k := u_3.2.2.2.2.2.2.2.2.2.2.1 - ne) (n := 2 * (u_3.2.2.2.2.2.2.2.2.2.2.1 - ne)) (by first | exact Nat.le_refl _ | omega) (by first | exact Nat.le_refl _ | omega) ?_
    exact W.iret (v := u_4) hx hb hr (fun t ht hW => ⟨⟨_, qe_1003, rfl, rfl, by rw [ht]; exact hP, va_K.moved hW.alike hK, hAe ▸ hD⟩, hS.F ht⟩) hS.2.2 dX9_passed_20

set_option maxHeartbeats 4000000 in
set_option maxRecDepth 100000 in
theorem kC_areLimits (l : Launch) (dC : Nat → ClassId) (dI : Nat → Nat → Nat) (cA : ClassId) (ad : Nat → Nat) (sz : Nat) (a0 : Int32) (a1 : Int32) (a2 : Int32) (u : Int32) (hm : fC_areLimits a0 a1 a2 = some u) : Met l yX9_areLimits wsX9_areLimits ({ frames := 0, cells := 0, slots := 0, locals := 0 }) (va_Pc [.int a0, .int a1, .int a2] (fun U => U.heap.size = sz ∧ va_P (dC, dI) vwCl [] U.heap ∧ va_K (dC, dI) vwCl [(cA, .int)] U ∧ va_D (fun _ => True) [])) (va_Qi (fun (r : Int32) (_ : Unit) => r = u) (fun (_ : Unit) t => va_P (dC, dI) vwCl [] t.heap ∧ va_K (dC, dI) vwCl [(cA, .int)] t ∧ va_D (va_A [] sz) []) (va_A [] sz)) 0 0 (va_A [] sz) := by
  refine Met.ofW (cc := cX9_areLimits) (maxL := 3) (ret := (some .boolean)) (by decide) rfl ?_
  intro p e s m args below meth c s₁ B hml hv
  obtain ⟨rfl, hsz, hP, hK, hD0⟩ := hv
  have hx := B.exec
  have hb := B.bytes
  have hr := B.returns
  have hts := atoms_spec (ws := wsX9_areLimits) B.pre
  have hown : s.vm.findClass RX9 = some m.cls := findClass_of_methodNamed B.named
  have hlocks := B.notSynchronized
  subst hsz
  have hD := hD0.self (sz := s.heap.size)
  generalize hAe : va_A [] s.heap.size = A at hD ⊢
  have hA : ∀ q : Nat, s.heap.size ≤ q → A q := fun q h => by rw [← hAe]; exact Or.inr h
  have hS : va_S A s.heap s.heap [] := va_S.rf
  have hl := lv_entry ([.int a0, .int a1, .int a2]) (n := 3) (Nat.le_of_ble_eq_true rfl)
  rw [lg_entry_eq]
  generalize (lg_sl ([.int a0, .int a1, .int a2]) ++ List.replicate (3 - (lg_sl ([.int a0, .int a1, .int a2])).length) Slot.unset).toArray = ls at hl ⊢
  have hl : lv_has ls 3 [(0, .int a0), (1, .int a1), (2, .int a2)] := hl
  refine wk_Q (fun QQ hQ => ?_)
  unfold fC_areLimits at hm
  refine lv_iload_n hx hb dX9_areLimits_0 rfl (lv_at hl 0 rfl) ?_
  refine lv_iconst (v := 1) hx hb dX9_areLimits_1 (by decide) ?_
  refine lv_icmp_lt (tgt := 30) hx hb dX9_areLimits_2 (by decide) (fun c_1 => ?_) (fun c_1 => ?_)
  · have hm := it_pos c_1 hm
    refine lv_iconst (v := 0) hx hb dX9_areLimits_30 (by decide) ?_
    obtain rfl := Option.some.inj hm
    subst hQ
    exact W.zret (v := 0) hx hb hr rfl (fun t ht hW => ⟨⟨_, (), rfl, rfl, by rw [ht]; exact hP, va_K.moved hW.alike hK, hAe ▸ hD⟩, hS.F ht⟩) hS.2.2 dX9_areLimits_31
  · have hm := it_neg c_1 hm
    refine lv_iload_n hx hb dX9_areLimits_5 rfl (lv_at hl 0 rfl) ?_
    refine lv_iload_n hx hb dX9_areLimits_6 rfl (lv_at hl 1 rfl) ?_
    refine lv_icmp_gt (tgt := 30) hx hb dX9_areLimits_7 (by decide) (fun c_2 => ?_) (fun c_2 => ?_)
    · have hm := it_pos c_2 hm
      refine lv_iconst (v := 0) hx hb dX9_areLimits_30 (by decide) ?_
      obtain rfl := Option.some.inj hm
      subst hQ
      exact W.zret (v := 0) hx hb hr rfl (fun t ht hW => ⟨⟨_, (), rfl, rfl, by rw [ht]; exact hP, va_K.moved hW.alike hK, hAe ▸ hD⟩, hS.F ht⟩) hS.2.2 dX9_areLimits_31
    · have hm := it_neg c_2 hm
      refine lv_iload_n hx hb dX9_areLimits_10 rfl (lv_at hl 1 rfl) ?_
      refine lv_bipush (v := 9) hx hb dX9_areLimits_11 (by decide) ?_
      refine lv_icmp_gt (tgt := 30) hx hb dX9_areLimits_13 (by decide) (fun c_3 => ?_) (fun c_3 => ?_)
      · have hm := it_pos c_3 hm
        refine lv_iconst (v := 0) hx hb dX9_areLimits_30 (by decide) ?_
        obtain rfl := Option.some.inj hm
        subst hQ
        exact W.zret (v := 0) hx hb hr rfl (fun t ht hW => ⟨⟨_, (), rfl, rfl, by rw [ht]; exact hP, va_K.moved hW.alike hK, hAe ▸ hD⟩, hS.F ht⟩) hS.2.2 dX9_areLimits_31
      · have hm := it_neg c_3 hm
        refine lv_iload_n hx hb dX9_areLimits_16 rfl (lv_at hl 2 rfl) ?_
        refine lv_if_lt (tgt := 30) hx hb dX9_areLimits_17 (by decide) (fun c_4 => ?_) (fun c_4 => ?_)
        · have hm := it_pos c_4 hm
          refine lv_iconst (v := 0) hx hb dX9_areLimits_30 (by decide) ?_
          obtain rfl := Option.some.inj hm
          subst hQ
          exact W.zret (v := 0) hx hb hr rfl (fun t ht hW => ⟨⟨_, (), rfl, rfl, by rw [ht]; exact hP, va_K.moved hW.alike hK, hAe ▸ hD⟩, hS.F ht⟩) hS.2.2 dX9_areLimits_31
        · have hm := it_neg c_4 hm
          refine lv_iload_n hx hb dX9_areLimits_20 rfl (lv_at hl 2 rfl) ?_
          refine lv_bipush (v := 20) hx hb dX9_areLimits_21 (by decide) ?_
          refine lv_icmp_gt (tgt := 30) hx hb dX9_areLimits_23 (by decide) (fun c_5 => ?_) (fun c_5 => ?_)
          · have hm := it_pos c_5 hm
            refine lv_iconst (v := 0) hx hb dX9_areLimits_30 (by decide) ?_
            obtain rfl := Option.some.inj hm
            subst hQ
            exact W.zret (v := 0) hx hb hr rfl (fun t ht hW => ⟨⟨_, (), rfl, rfl, by rw [ht]; exact hP, va_K.moved hW.alike hK, hAe ▸ hD⟩, hS.F ht⟩) hS.2.2 dX9_areLimits_31
          · have hm := it_neg c_5 hm
            refine lv_iconst (v := 1) hx hb dX9_areLimits_26 (by decide) ?_
            refine lv_goto (tgt := 31) hx hb dX9_areLimits_27 (by decide) ?_
            obtain rfl := Option.some.inj hm
            subst hQ
            exact W.zret (v := 1) hx hb hr rfl (fun t ht hW => ⟨⟨_, (), rfl, rfl, by rw [ht]; exact hP, va_K.moved hW.alike hK, hAe ▸ hD⟩, hS.F ht⟩) hS.2.2 dX9_areLimits_31

set_option maxHeartbeats 4000000 in
set_option maxRecDepth 100000 in
theorem kP_fewest (l : Launch) (dC : Nat → ClassId) (dI : Nat → Nat → Nat) (cA : ClassId) (ad : Nat → Nat) (sz : Nat) (a0 : Int32) (a1 : Int32) (a2 : Int32) (u : Int32) (hm : fP_fewest a0 a1 a2 = some u) : Met l yX3_fewest wsX3_fewest ({ frames := 1, cells := 0, slots := 0, locals := 21 }) (va_Pc [.int a0, .int a1, .int a2] (fun U => U.heap.size = sz ∧ va_P (dC, dI) vwCl [] U.heap ∧ va_K (dC, dI) vwCl [(cA, .int)] U ∧ va_D (fun _ => True) [])) (va_Qi (fun (r : Int32) (_ : Unit) => r = u) (fun (_ : Unit) t => va_P (dC, dI) vwCl [] t.heap ∧ va_K (dC, dI) vwCl [(cA, .int)] t ∧ va_D (va_A [] sz) []) (va_A [] sz)) 0 0 (va_A [] sz) := by
  refine Met.ofW (cc := cX3_fewest) (maxL := 4) (ret := (some .int)) (by decide) rfl ?_
  intro p e s m args below meth c s₁ B hml hv
  obtain ⟨rfl, hsz, hP, hK, hD0⟩ := hv
  have hx := B.exec
  have hb := B.bytes
  have hr := B.returns
  have hts := atoms_spec (ws := wsX3_fewest) B.pre
  have hown : s.vm.findClass RX3 = some m.cls := findClass_of_methodNamed B.named
  have hlocks := B.notSynchronized
  subst hsz
  have hD := hD0.self (sz := s.heap.size)
  generalize hAe : va_A [] s.heap.size = A at hD ⊢
  have hA : ∀ q : Nat, s.heap.size ≤ q → A q := fun q h => by rw [← hAe]; exact Or.inr h
  have hS : va_S A s.heap s.heap [] := va_S.rf
  have hl := lv_entry ([.int a0, .int a1, .int a2]) (n := 4) (Nat.le_of_ble_eq_true rfl)
  rw [lg_entry_eq]
  generalize (lg_sl ([.int a0, .int a1, .int a2]) ++ List.replicate (4 - (lg_sl ([.int a0, .int a1, .int a2])).length) Slot.unset).toArray = ls at hl ⊢
  have hl : lv_has ls 4 [(0, .int a0), (1, .int a1), (2, .int a2)] := hl
  refine wk_Q (fun QQ hQ => ?_)
  have hw_0 := hts (.methodLink RX3 34 Lib.Math.max.name) (List.mem_cons_of_mem _ (in_r27 _ (List.mem_of_getElem? (i := 15) rfl)))
  have hw_1 := hts (.static Lib.Math.max.name) (List.mem_cons_of_mem _ (in_r15 _ (List.mem_of_getElem? (i := 14) rfl)))
  have hw_2 := hts (.initialized "java/lang/Math") (List.mem_cons_of_mem _ (in_r15 _ (List.mem_of_getElem? (i := 11) rfl)))
  have hw_3 := hts (.code Lib.Math.max.name Lib.Math.max.code 2 (some .int)) (List.mem_cons_of_mem _ (in_r15 _ (List.mem_of_getElem? (i := 15) rfl)))
  unfold fP_fewest at hm
  refine lv_iload_n hx hb dX3_fewest_0 rfl (lv_at hl 0 rfl) ?_
  refine lv_iload_n hx hb dX3_fewest_1 rfl (lv_at hl 2 rfl) ?_
  refine lv_isub hx hb dX3_fewest_2 ?_
  refine lv_iconst (v := 0) hx hb dX3_fewest_3 (by decide) ?_
  refine va_mmax hx hb (by rw [hml]; exact hl.1.symm) hown hw_0 hw_1 hw_2 hw_3 (Nat.le_of_ble_eq_true rfl) (Nat.le_of_ble_eq_true rfl) (by first | exact Nat.zero_le _ | (show _ ≤ _ - _; omega)) (by first | exact Nat.zero_le _ | (show _ ≤ 2 * (_ - _); omega)) dX3_fewest_4 ?_
  refine lv_istore_n (lv' := [(3, .int (if (a0 - a2) < 0 then 0 else (a0 - a2))), (0, .int a0), (1, .int a1), (2, .int a2)]) hx hb dX3_fewest_7 rfl hl (by decide) rfl (fun ls hl => ?_)
  refine lv_iload_n hx hb dX3_fewest_8 rfl (lv_at hl 2 rfl) ?_
  refine lv_iconst (v := 1) hx hb dX3_fewest_9 (by decide) ?_
  refine lv_icmp_ge (tgt := 17) hx hb dX3_fewest_10 (by decide) (fun c_1 => ?_) (fun c_1 => ?_)
  · have hm := it_pos c_1 hm
    refine lv_iload_n hx hb dX3_fewest_17 rfl (lv_at hl 0 rfl) ?_
    refine lv_iload_n hx hb dX3_fewest_18 rfl (lv_at hl 2 rfl) ?_
    refine lv_iadd hx hb dX3_fewest_19 ?_
    refine lv_iconst (v := 1) hx hb dX3_fewest_20 (by decide) ?_
    refine lv_isub hx hb dX3_fewest_21 ?_
    refine lv_iload_n hx hb dX3_fewest_22 rfl (lv_at hl 2 rfl) ?_
    obtain ⟨z_2, hm⟩ := dz_ok hm
    refine lv_idiv hx hb dX3_fewest_23 z_2 ?_
    obtain rfl := Option.some.inj hm
    subst hQ
    exact W.iret (v := ((((if (a0 - a2) < 0 then 0 else (a0 - a2)) + a1) - 1) / a1)) hx hb hr (fun t ht hW => ⟨⟨_, (), rfl, rfl, by rw [ht]; exact hP, va_K.moved hW.alike hK, hAe ▸ hD⟩, hS.F ht⟩) hS.2.2 dX3_fewest_24
  · have hm := it_neg c_1 hm
    refine lv_iconst (v := 0) hx hb dX3_fewest_13 (by decide) ?_
    refine lv_goto (tgt := 24) hx hb dX3_fewest_14 (by decide) ?_
    obtain rfl := Option.some.inj hm
    subst hQ
    exact W.iret (v := 0) hx hb hr (fun t ht hW => ⟨⟨_, (), rfl, rfl, by rw [ht]; exact hP, va_K.moved hW.alike hK, hAe ▸ hD⟩, hS.F ht⟩) hS.2.2 dX3_fewest_24

set_option maxHeartbeats 4000000 in
set_option maxRecDepth 100000 in
theorem kP_most (l : Launch) (dC : Nat → ClassId) (dI : Nat → Nat → Nat) (cA : ClassId) (ad : Nat → Nat) (sz : Nat) (a0 : Int32) (a1 : Int32) (a2 : Int32) (u : Int32) (hm : fP_most a0 a1 a2 = some u) : Met l yX3_most wsX3_most ({ frames := 0, cells := 0, slots := 0, locals := 0 }) (va_Pc [.int a0, .int a1, .int a2] (fun U => U.heap.size = sz ∧ va_P (dC, dI) vwCl [] U.heap ∧ va_K (dC, dI) vwCl [(cA, .int)] U ∧ va_D (fun _ => True) [])) (va_Qi (fun (r : Int32) (_ : Unit) => r = u) (fun (_ : Unit) t => va_P (dC, dI) vwCl [] t.heap ∧ va_K (dC, dI) vwCl [(cA, .int)] t ∧ va_D (va_A [] sz) []) (va_A [] sz)) 0 0 (va_A [] sz) := by
  refine Met.ofW (cc := cX3_most) (maxL := 3) (ret := (some .int)) (by decide) rfl ?_
  intro p e s m args below meth c s₁ B hml hv
  obtain ⟨rfl, hsz, hP, hK, hD0⟩ := hv
  have hx := B.exec
  have hb := B.bytes
  have hr := B.returns
  have hts := atoms_spec (ws := wsX3_most) B.pre
  have hown : s.vm.findClass RX3 = some m.cls := findClass_of_methodNamed B.named
  have hlocks := B.notSynchronized
  subst hsz
  have hD := hD0.self (sz := s.heap.size)
  generalize hAe : va_A [] s.heap.size = A at hD ⊢
  have hA : ∀ q : Nat, s.heap.size ≤ q → A q := fun q h => by rw [← hAe]; exact Or.inr h
  have hS : va_S A s.heap s.heap [] := va_S.rf
  have hl := lv_entry ([.int a0, .int a1, .int a2]) (n := 3) (Nat.le_of_ble_eq_true rfl)
  rw [lg_entry_eq]
  generalize (lg_sl ([.int a0, .int a1, .int a2]) ++ List.replicate (3 - (lg_sl ([.int a0, .int a1, .int a2])).length) Slot.unset).toArray = ls at hl ⊢
  have hl : lv_has ls 3 [(0, .int a0), (1, .int a1), (2, .int a2)] := hl
  refine wk_Q (fun QQ hQ => ?_)
  unfold fP_most at hm
  refine lv_iload_n hx hb dX3_most_0 rfl (lv_at hl 1 rfl) ?_
  refine lv_iconst (v := 1) hx hb dX3_most_1 (by decide) ?_
  refine lv_icmp_ge (tgt := 9) hx hb dX3_most_2 (by decide) (fun c_1 => ?_) (fun c_1 => ?_)
  · have hm := it_pos c_1 hm
    refine lv_iload_n hx hb dX3_most_9 rfl (lv_at hl 0 rfl) ?_
    refine lv_iload_n hx hb dX3_most_10 rfl (lv_at hl 2 rfl) ?_
    refine lv_iadd hx hb dX3_most_11 ?_
    refine lv_iload_n hx hb dX3_most_12 rfl (lv_at hl 1 rfl) ?_
    obtain ⟨z_2, hm⟩ := dz_ok hm
    refine lv_idiv hx hb dX3_most_13 z_2 ?_
    obtain rfl := Option.some.inj hm
    subst hQ
    exact W.iret (v := ((a0 + a2) / a1)) hx hb hr (fun t ht hW => ⟨⟨_, (), rfl, rfl, by rw [ht]; exact hP, va_K.moved hW.alike hK, hAe ▸ hD⟩, hS.F ht⟩) hS.2.2 dX3_most_14
  · have hm := it_neg c_1 hm
    refine lv_iconst (v := 0) hx hb dX3_most_5 (by decide) ?_
    refine lv_goto (tgt := 14) hx hb dX3_most_6 (by decide) ?_
    obtain rfl := Option.some.inj hm
    subst hQ
    exact W.iret (v := 0) hx hb hr (fun t ht hW => ⟨⟨_, (), rfl, rfl, by rw [ht]; exact hP, va_K.moved hW.alike hK, hAe ▸ hD⟩, hS.F ht⟩) hS.2.2 dX3_most_14

set_option maxHeartbeats 4000000 in
set_option maxRecDepth 100000 in
theorem kC_spans (l : Launch) (dC : Nat → ClassId) (dI : Nat → Nat → Nat) (cA : ClassId) (ad : Nat → Nat) (sz : Nat) (a1 : Int32) (a2 : Int32) (a3 : Int32) (a4 : Int32) (a5 : Int32) (u : Int32) (hm : fC_spans a1 a2 a3 a4 a5 = some u) : Met l yX9_spans wsX9_spans ({ frames := 2, cells := 0, slots := 0, locals := 44 }) (va_Pc [.ref (ad 0), .int a1, .int a2, .int a3, .int a4, .int a5] (fun U => U.heap.size = sz ∧ va_P (dC, dI) vwCl [] U.heap ∧ va_K (dC, dI) vwCl [(cA, .int)] U ∧ va_D (fun _ => True) [])) (va_Qi (fun (r : Int32) (_ : Unit) => r = u) (fun (_ : Unit) t => va_P (dC, dI) vwCl [] t.heap ∧ va_K (dC, dI) vwCl [(cA, .int)] t ∧ va_D (va_A [] sz) []) (va_A [] sz)) 0 0 (va_A [] sz) := by
  refine Met.ofW (cc := cX9_spans) (maxL := 8) (ret := (some .int)) (by decide) rfl ?_
  intro p e s m args below meth c s₁ B hml hv
  obtain ⟨rfl, hsz, hP, hK, hD0⟩ := hv
  have hx := B.exec
  have hb := B.bytes
  have hr := B.returns
  have hts := atoms_spec (ws := wsX9_spans) B.pre
  have hown : s.vm.findClass RX9 = some m.cls := findClass_of_methodNamed B.named
  have hlocks := B.notSynchronized
  subst hsz
  have hD := hD0.self (sz := s.heap.size)
  generalize hAe : va_A [] s.heap.size = A at hD ⊢
  have hA : ∀ q : Nat, s.heap.size ≤ q → A q := fun q h => by rw [← hAe]; exact Or.inr h
  have hS : va_S A s.heap s.heap [] := va_S.rf
  have hl := lv_entry ([.ref (ad 0), .int a1, .int a2, .int a3, .int a4, .int a5]) (n := 8) (Nat.le_of_ble_eq_true rfl)
  rw [lg_entry_eq]
  generalize (lg_sl ([.ref (ad 0), .int a1, .int a2, .int a3, .int a4, .int a5]) ++ List.replicate (8 - (lg_sl ([.ref (ad 0), .int a1, .int a2, .int a3, .int a4, .int a5])).length) Slot.unset).toArray = ls at hl ⊢
  have hl : lv_has ls 8 [(0, .ref (ad 0)), (1, .int a1), (2, .int a2), (3, .int a3), (4, .int a4), (5, .int a5)] := hl
  refine wk_Q (fun QQ hQ => ?_)
  unfold fC_spans at hm
  refine lv_iload_n hx hb dX9_spans_0 rfl (lv_at hl 1 rfl) ?_
  have hPc := hP.sub (ws' := []) [] rfl
  have hDc := hD.sub (ws' := []) [] (by decide) rfl
  have hFc := va_free (wc := []) hD hS hA [] rfl
  obtain ⟨u_1, hc_1, hm⟩ := bd_ok hm
  refine va_calli (va_runS (As := [.int a1]) (rest := []) ⟨hx, hb, hml, hown, hts⟩ (kC_isTime l dC dI cA ad s.heap.size a1 u_1 hc_1) (va_cwS 1 hts gX9_spans_X9_isTime rfl rfl rfl (by decide +kernel) ⟨Nat.le_of_ble_eq_true rfl, Nat.le_of_ble_eq_true rfl⟩) ⟨fun a U g mk q => by obtain ⟨q0, q1, qP, qK, qD⟩ := q; exact ⟨q0, q1, qP, va_K.moved (u := U) (U := U.calling g mk a) (Vm.Alike.refl U.vm) qK, qD⟩, fun U hU hW => ⟨rfl, by rw [hU], by rw [hU]; exact hPc, va_K.moved hW.alike hK, hDc.weaken (fun _ _ _ _ => trivial)⟩⟩ rfl rfl hl.1 rfl (lv_room (Nat.le_of_ble_eq_true rfl)) dX9_spans_1 ⟨Nat.le_of_ble_eq_true rfl, Nat.le_of_ble_eq_true rfl⟩) hS (fun q _ h => hFc q h) hFc (fun r_1 _ t H1 locs ht hvm hw hB hz1 hk1 hS => ?_)
  obtain ⟨hP1, hK1, hD1⟩ := hB
  rw [ht] at hP1
  obtain ⟨hP, hD⟩ := va_join (wr := []) (w1 := []) hP hD [] [] rfl rfl (by decide) (by decide) hk1 hFc hP1 hD1
  clear hPc hDc hFc hP1 hK1 hD1 hk1 hz1 hvm ht
  generalize H1 = H at hP hS ⊢
  have hP : va_P (dC, dI) vwCl [] H := hP
  have hD : va_D A [] := hD
  have hw := hw.symm
  subst hw
  refine lv_if_eq (tgt := 28) hx hb dX9_spans_4 (by decide) (fun c_2 => ?_) (fun c_2 => ?_)
  · have hm := it_pos c_2 hm
    refine lv_bipush (v := (-2)) hx hb dX9_spans_28 (by decide) ?_
    obtain rfl := Option.some.inj hm
    subst hQ
    exact W.iret (v := (-2)) hx hb hr (fun t ht hW => ⟨⟨_, (), rfl, rfl, by rw [ht]; exact hP, va_K.moved hW.alike hK, hAe ▸ hD⟩, hS.F ht⟩) hS.2.2 dX9_spans_30
  · have hm := it_neg c_2 hm
    refine lv_iload_n hx hb dX9_spans_7 rfl (lv_at hl 2 rfl) ?_
    refine lv_iload_n hx hb dX9_spans_8 rfl (lv_at hl 3 rfl) ?_
    refine lv_iload hx hb dX9_spans_9 (lv_at hl 4 rfl) ?_
    have hPc := hP.sub (ws' := []) [] rfl
    have hDc := hD.sub (ws' := []) [] (by decide) rfl
    have hFc := va_free (wc := []) hD hS hA [] rfl
    obtain ⟨u_3, hc_3, hm⟩ := bd_ok hm
    refine va_calli (va_runS (As := [.int a2, .int a3, .int a4]) (rest := []) ⟨hx, hb, hml, hown, hts⟩ (kC_areLimits l dC dI cA ad H.size a2 a3 a4 u_3 hc_3) (va_cwS 3 hts gX9_spans_X9_areLimits rfl rfl rfl (by decide +kernel) ⟨Nat.le_of_ble_eq_true rfl, Nat.le_of_ble_eq_true rfl⟩) ⟨fun a U g mk q => by obtain ⟨q0, q1, qP, qK, qD⟩ := q; exact ⟨q0, q1, qP, va_K.moved (u := U) (U := U.calling g mk a) (Vm.Alike.refl U.vm) qK, qD⟩, fun U hU hW => ⟨rfl, by rw [hU], by rw [hU]; exact hPc, va_K.moved hW.alike hK, hDc.weaken (fun _ _ _ _ => trivial)⟩⟩ rfl rfl hl.1 rfl (lv_room (Nat.le_of_ble_eq_true rfl)) dX9_spans_11 ⟨Nat.le_of_ble_eq_true rfl, Nat.le_of_ble_eq_true rfl⟩) hS (fun q _ h => hFc q h) hFc (fun r_3 _ t H1 locs ht hvm hw hB hz1 hk1 hS => ?_)
    obtain ⟨hP1, hK1, hD1⟩ := hB
    rw [ht] at hP1
    obtain ⟨hP, hD⟩ := va_join (wr := []) (w1 := []) hP hD [] [] rfl rfl (by decide) (by decide) hk1 hFc hP1 hD1
    clear hPc hDc hFc hP1 hK1 hD1 hk1 hz1 hvm ht
    generalize H1 = H at hP hS ⊢
    have hP : va_P (dC, dI) vwCl [] H := hP
    have hD : va_D A [] := hD
    have hw := hw.symm
    subst hw
    refine lv_if_eq (tgt := 28) hx hb dX9_spans_14 (by decide) (fun c_4 => ?_) (fun c_4 => ?_)
    · have hm := it_pos c_4 hm
      refine lv_bipush (v := (-2)) hx hb dX9_spans_28 (by decide) ?_
      obtain rfl := Option.some.inj hm
      subst hQ
      exact W.iret (v := (-2)) hx hb hr (fun t ht hW => ⟨⟨_, (), rfl, rfl, by rw [ht]; exact hP, va_K.moved hW.alike hK, hAe ▸ hD⟩, hS.F ht⟩) hS.2.2 dX9_spans_30
    · have hm := it_neg c_4 hm
      refine lv_iload hx hb dX9_spans_17 (lv_at hl 5 rfl) ?_
      refine lv_if_lt (tgt := 28) hx hb dX9_spans_19 (by decide) (fun c_5 => ?_) (fun c_5 => ?_)
      · have hm := it_pos c_5 hm
        refine lv_bipush (v := (-2)) hx hb dX9_spans_28 (by decide) ?_
        obtain rfl := Option.some.inj hm
        subst hQ
        exact W.iret (v := (-2)) hx hb hr (fun t ht hW => ⟨⟨_, (), rfl, rfl, by rw [ht]; exact hP, va_K.moved hW.alike hK, hAe ▸ hD⟩, hS.F ht⟩) hS.2.2 dX9_spans_30
      · have hm := it_neg c_5 hm
        refine lv_iload hx hb dX9_spans_22 (lv_at hl 5 rfl) ?_
        refine lv_iconst (v := 1) hx hb dX9_spans_24 (by decide) ?_
        refine lv_icmp_le (tgt := 31) hx hb dX9_spans_25 (by decide) (fun c_6 => ?_) (fun c_6 => ?_)
        · have hm := it_pos c_6 hm
          refine lv_iload_n hx hb dX9_spans_31 rfl (lv_at hl 1 rfl) ?_
          refine lv_iload_n hx hb dX9_spans_32 rfl (lv_at hl 3 rfl) ?_
          refine lv_iload hx hb dX9_spans_33 (lv_at hl 4 rfl) ?_
          have hPc := hP.sub (ws' := []) [] rfl
          have hDc := hD.sub (ws' := []) [] (by decide) rfl
          have hFc := va_free (wc := []) hD hS hA [] rfl
          obtain ⟨u_7, hc_7, hm⟩ := bd_ok hm
          refine va_calli (va_runS (As := [.int a1, .int a3, .int a4]) (rest := []) ⟨hx, hb, hml, hown, hts⟩ (kP_fewest l dC dI cA ad H.size a1 a3 a4 u_7 hc_7) (va_cwS 3 hts gX9_spans_X3_fewest rfl rfl rfl (by decide +kernel) ⟨Nat.le_of_ble_eq_true rfl, Nat.le_of_ble_eq_true rfl⟩) ⟨fun a U g mk q => by obtain ⟨q0, q1, qP, qK, qD⟩ := q; exact ⟨q0, q1, qP, va_K.moved (u := U) (U := U.calling g mk a) (Vm.Alike.refl U.vm) qK, qD⟩, fun U hU hW => ⟨rfl, by rw [hU], by rw [hU]; exact hPc, va_K.moved hW.alike hK, hDc.weaken (fun _ _ _ _ => trivial)⟩⟩ rfl rfl hl.1 rfl (lv_room (Nat.le_of_ble_eq_true rfl)) dX9_spans_35 ⟨Nat.le_of_ble_eq_true rfl, Nat.le_of_ble_eq_true rfl⟩) hS (fun q _ h => hFc q h) hFc (fun r_7 _ t H1 locs ht hvm hw hB hz1 hk1 hS => ?_)
          obtain ⟨hP1, hK1, hD1⟩ := hB
          rw [ht] at hP1
          obtain ⟨hP, hD⟩ := va_join (wr := []) (w1 := []) hP hD [] [] rfl rfl (by decide) (by decide) hk1 hFc hP1 hD1
          clear hPc hDc hFc hP1 hK1 hD1 hk1 hz1 hvm ht
          generalize H1 = H at hP hS ⊢
          have hP : va_P (dC, dI) vwCl [] H := hP
          have hD : va_D A [] := hD
          have hw := hw.symm
          subst hw
          refine lv_istore (lv' := [(6, .int u_7), (0, .ref (ad 0)), (1, .int a1), (2, .int a2), (3, .int a3), (4, .int a4), (5, .int a5)]) hx hb dX9_spans_38 hl (by decide) rfl (fun ls hl => ?_)
          refine lv_iload_n hx hb dX9_spans_40 rfl (lv_at hl 2 rfl) ?_
          refine lv_iload_n hx hb dX9_spans_41 rfl (lv_at hl 3 rfl) ?_
          refine lv_iload hx hb dX9_spans_42 (lv_at hl 5 rfl) ?_
          have hPc := hP.sub (ws' := []) [] rfl
          have hDc := hD.sub (ws' := []) [] (by decide) rfl
          have hFc := va_free (wc := []) hD hS hA [] rfl
          obtain ⟨u_8, hc_8, hm⟩ := bd_ok hm
          refine va_calli (va_runS (As := [.int a1, .int a2, .int a4]) (rest := []) ⟨hx, hb, hml, hown, hts⟩ (kP_most l dC dI cA ad H.size a1 a2 a4 u_8 hc_8) (va_cwS 3 hts gX9_spans_X3_most rfl rfl rfl (by decide +kernel) ⟨Nat.le_of_ble_eq_true rfl, Nat.le_of_ble_eq_true rfl⟩) ⟨fun a U g mk q => by obtain ⟨q0, q1, qP, qK, qD⟩ := q; exact ⟨q0, q1, qP, va_K.moved (u := U) (U := U.calling g mk a) (Vm.Alike.refl U.vm) qK, qD⟩, fun U hU hW => ⟨rfl, by rw [hU], by rw [hU]; exact hPc, va_K.moved hW.alike hK, hDc.weaken (fun _ _ _ _ => trivial)⟩⟩ rfl rfl hl.1 rfl (lv_room (Nat.le_of_ble_eq_true rfl)) dX9_spans_44 ⟨Nat.le_of_ble_eq_true rfl, Nat.le_of_ble_eq_true rfl⟩) hS (fun q _ h => hFc q h) hFc (fun r_8 _ t H1 locs ht hvm hw hB hz1 hk1 hS => ?_)
          obtain ⟨hP1, hK1, hD1⟩ := hB
          rw [ht] at hP1
          obtain ⟨hP, hD⟩ := va_join (wr := []) (w1 := []) hP hD [] [] rfl rfl (by decide) (by decide) hk1 hFc hP1 hD1
          clear hPc hDc hFc hP1 hK1 hD1 hk1 hz1 hvm ht
          generalize H1 = H at hP hS ⊢
          have hP : va_P (dC, dI) vwCl [] H := hP
          have hD : va_D A [] := hD
          have hw := hw.symm
          subst hw
          refine lv_istore (lv' := [(7, .int u_8), (6, .int u_7), (0, .ref (ad 0)), (1, .int a1), (2, .int a2), (3, .int a3), (4, .int a4), (5, .int a5)]) hx hb dX9_spans_47 hl (by decide) rfl (fun ls hl => ?_)
          refine lv_iload hx hb dX9_spans_49 (lv_at hl 0 rfl) ?_
          refine lv_iload hx hb dX9_spans_51 (lv_at hl 1 rfl) ?_
          refine lv_icmp_ge (tgt := 58) hx hb dX9_spans_53 (by decide) (fun c_9 => ?_) (fun c_9 => ?_)
          · have hm := it_pos c_9 hm
            refine lv_iload hx hb dX9_spans_58 (lv_at hl 7 rfl) ?_
            refine lv_if_ne (tgt := 68) hx hb dX9_spans_60 (by decide) (fun c_10 => ?_) (fun c_10 => ?_)
            · have hm := it_neg c_10 hm
              refine lv_iload hx hb dX9_spans_68 (lv_at hl 0 rfl) ?_
              obtain rfl := Option.some.inj hm
              subst hQ
              exact W.iret (v := u_8) hx hb hr (fun t ht hW => ⟨⟨_, (), rfl, rfl, by rw [ht]; exact hP, va_K.moved hW.alike hK, hAe ▸ hD⟩, hS.F ht⟩) hS.2.2 dX9_spans_70
            · have hm := it_pos c_10 hm
              refine lv_iload hx hb dX9_spans_63 (lv_at hl 1 rfl) ?_
              refine lv_goto (tgt := 70) hx hb dX9_spans_65 (by decide) ?_
              obtain rfl := Option.some.inj hm
              subst hQ
              exact W.iret (v := u_7) hx hb hr (fun t ht hW => ⟨⟨_, (), rfl, rfl, by rw [ht]; exact hP, va_K.moved hW.alike hK, hAe ▸ hD⟩, hS.F ht⟩) hS.2.2 dX9_spans_70
          · have hm := it_neg c_9 hm
            refine lv_iconst (v := (-1)) hx hb dX9_spans_56 (by decide) ?_
            obtain rfl := Option.some.inj hm
            subst hQ
            exact W.iret (v := (-1)) hx hb hr (fun t ht hW => ⟨⟨_, (), rfl, rfl, by rw [ht]; exact hP, va_K.moved hW.alike hK, hAe ▸ hD⟩, hS.F ht⟩) hS.2.2 dX9_spans_57
        · have hm := it_neg c_6 hm
          refine lv_bipush (v := (-2)) hx hb dX9_spans_28 (by decide) ?_
          obtain rfl := Option.some.inj hm
          subst hQ
          exact W.iret (v := (-2)) hx hb hr (fun t ht hW => ⟨⟨_, (), rfl, rfl, by rw [ht]; exact hP, va_K.moved hW.alike hK, hAe ▸ hD⟩, hS.F ht⟩) hS.2.2 dX9_spans_30
