set_option maxHeartbeats 4000000 in
set_option maxRecDepth 100000 in
theorem kH_notSo_F (l : Launch) (dC : Nat → ClassId) (dI : Nat → Nat → Nat) (cA : ClassId) (ad : Nat → Nat) (sz : Nat) (a2 : Int32) (gSTfirst : Nat → Int32) (xHea_size : Int32) (gHwho : Nat → Int32) (gHtimes : Nat → Int32) (u : Int32) (hm : fH_notSo_F a2 gSTfirst xHea_size gHwho gHtimes = some u) : Met l yX2_notSo wsX2_notSo ({ frames := 0, cells := 0, slots := 0, locals := 0 }) (va_Pc [.ref (ad 30), .ref (ad 14), .int a2] (fun U => U.heap.size = sz ∧ va_P (dC, dI) vwCl [ar (ad 14) cA 20 gSTfirst, oHea ad xHea_size, ar (ad 31) cA 12 gHwho, ar (ad 32) cA 12 gHtimes] U.heap ∧ va_K (dC, dI) vwCl [(cA, .int)] U ∧ va_D (fun _ => True) [ar (ad 14) cA 20 gSTfirst, oHea ad xHea_size, ar (ad 31) cA 12 gHwho, ar (ad 32) cA 12 gHtimes])) (va_Qi (fun (r : Int32) (_ : Unit) => r = u) (fun (_ : Unit) t => va_P (dC, dI) vwCl [ar (ad 14) cA 20 gSTfirst, oHea ad xHea_size, ar (ad 31) cA 12 gHwho, ar (ad 32) cA 12 gHtimes] t.heap ∧ va_K (dC, dI) vwCl [(cA, .int)] t ∧ va_D (va_A [ar (ad 14) cA 20 gSTfirst, oHea ad xHea_size, ar (ad 31) cA 12 gHwho, ar (ad 32) cA 12 gHtimes] sz) [ar (ad 14) cA 20 gSTfirst, oHea ad xHea_size, ar (ad 31) cA 12 gHwho, ar (ad 32) cA 12 gHtimes]) (va_A [ar (ad 14) cA 20 gSTfirst, oHea ad xHea_size, ar (ad 31) cA 12 gHwho, ar (ad 32) cA 12 gHtimes] sz)) 0 0 (va_A [ar (ad 14) cA 20 gSTfirst, oHea ad xHea_size, ar (ad 31) cA 12 gHwho, ar (ad 32) cA 12 gHtimes] sz) := by
  refine Met.ofW (cc := cX2_notSo) (maxL := 6) (ret := (some .int)) (by decide) rfl ?_
  intro p e s m args below meth c s₁ B hml hv
  obtain ⟨rfl, hsz, hP, hK, hD0⟩ := hv
  have hx := B.exec
  have hb := B.bytes
  have hr := B.returns
  have hts := atoms_spec (ws := wsX2_notSo) B.pre
  have hown : s.vm.findClass RX2 = some m.cls := findClass_of_methodNamed B.named
  have hlocks := B.notSynchronized
  subst hsz
  have hD := hD0.self (sz := s.heap.size)
  generalize hAe : va_A [ar (ad 14) cA 20 gSTfirst, oHea ad xHea_size, ar (ad 31) cA 12 gHwho, ar (ad 32) cA 12 gHtimes] s.heap.size = A at hD ⊢
  have hA : ∀ q : Nat, s.heap.size ≤ q → A q := fun q h => by rw [← hAe]; exact Or.inr h
  have hS : va_S A s.heap s.heap [] := va_S.rf
  have hl := lv_entry ([.ref (ad 30), .ref (ad 14), .int a2]) (n := 6) (Nat.le_of_ble_eq_true rfl)
  rw [lg_entry_eq]
  generalize (lg_sl ([.ref (ad 30), .ref (ad 14), .int a2]) ++ List.replicate (6 - (lg_sl ([.ref (ad 30), .ref (ad 14), .int a2])).length) Slot.unset).toArray = ls at hl ⊢
  have hl : lv_has ls 6 [(0, .ref (ad 30)), (1, .ref (ad 14)), (2, .int a2)] := hl
  refine wk_Q (fun QQ hQ => ?_)
  have hinX2 : ∀ w ∈ wsX20, w ∈ wsX2_notSo := fun w h => List.mem_cons_of_mem _ (inlX2 w h)
  have hl_18 := hts (.fieldLink RX2 18 "HandCensus$Hearsay" "size" "I") (List.mem_cons_of_mem _ (in_r5 _ (List.mem_of_getElem? (i := 17) rfl)))
  have hl_11 := hts (.fieldLink RX2 11 "HandCensus$Hearsay" "who" "[I") (List.mem_cons_of_mem _ (in_r5 _ (List.mem_of_getElem? (i := 15) rfl)))
  have hl_15 := hts (.fieldLink RX2 15 "HandCensus$Hearsay" "times" "[I") (List.mem_cons_of_mem _ (in_r5 _ (List.mem_of_getElem? (i := 16) rfl)))
  have h_5 : ∀ (v2_5 : Int32), ∀ (n_5 : Nat), ∀ (v3_5 : Int32) (v4_5 : Int32), fH_notSo_F_5 v2_5 gSTfirst xHea_size gHwho gHtimes n_5 v3_5 v4_5 = some u → ∀ (H : Heap) (locs : List Loc), va_P (dC, dI) vwCl [ar (ad 14) cA 20 gSTfirst, oHea ad xHea_size, ar (ad 31) cA 12 gHwho, ar (ad 32) cA 12 gHtimes] H → va_D A [ar (ad 14) cA 20 gSTfirst, oHea ad xHea_size, ar (ad 31) cA 12 gHwho, ar (ad 32) cA 12 gHtimes] → va_S A s.heap H locs → ∀ ls : Array Slot, lv_has ls 6 [(0, .ref (ad 30)), (1, .ref (ad 14)), (2, .int v2_5), (3, .int v3_5), (4, .int v4_5)] → W p l e (headSpec wsX2_notSo ({ frames := 0, cells := 0, slots := 0, locals := 0 })).room s m ([.ref (ad 30), .ref (ad 14), .int a2] : List Value).toArray below meth c H locs 0 0 QQ (F0 m 5 ls []) := by
    intro v2_5
    intro n_5
    induction n_5 with
    | zero => intro v3_5 v4_5 hm; have hm : (none : Option (Int32)) = some u := hm; cases hm
    | succ n_5 ih_5 =>
      have b_49 : ∀ (v3_49 : Int32) (v4_49 : Int32), fH_notSo_F_49 (fH_notSo_F_5  v2_5 gSTfirst xHea_size gHwho gHtimes n_5) v2_5 v3_49 v4_49 gSTfirst xHea_size gHwho gHtimes = some u → ∀ (H : Heap) (locs : List Loc), va_P (dC, dI) vwCl [ar (ad 14) cA 20 gSTfirst, oHea ad xHea_size, ar (ad 31) cA 12 gHwho, ar (ad 32) cA 12 gHtimes] H → va_D A [ar (ad 14) cA 20 gSTfirst, oHea ad xHea_size, ar (ad 31) cA 12 gHwho, ar (ad 32) cA 12 gHtimes] → va_S A s.heap H locs → ∀ ls : Array Slot, lv_has ls 6 [(0, .ref (ad 30)), (1, .ref (ad 14)), (2, .int v2_5), (3, .int v3_49), (4, .int v4_49)] → W p l e (headSpec wsX2_notSo ({ frames := 0, cells := 0, slots := 0, locals := 0 })).room s m ([.ref (ad 30), .ref (ad 14), .int a2] : List Value).toArray below meth c H locs 0 0 QQ (F0 m 49 ls []) := by
        intro v3_49 v4_49 hm H locs hP hD hS ls hl
        unfold fH_notSo_F_49 at hm
        refine lv_iinc (v := (v4_49 + 1)) (lv' := [(4, .int (v4_49 + 1)), (0, .ref (ad 30)), (1, .ref (ad 14)), (2, .int v2_5), (3, .int v3_49)]) hx hb dX2_notSo_49 hl (k := 4) rfl rfl (by decide) rfl (fun ls hl => ?_)
        refine lv_goto (tgt := 5) hx hb dX2_notSo_52 (by decide) ?_
        exact ih_5 _ _ hm _ _ hP hD hS _ (lv_sub hl [1, 2, 3, 4, 0] rfl)
      have b_46 : ∀ (v3_46 : Int32) (v4_46 : Int32), fH_notSo_F_46 (fH_notSo_F_5  v2_5 gSTfirst xHea_size gHwho gHtimes n_5) v2_5 v3_46 v4_46 gSTfirst xHea_size gHwho gHtimes = some u → ∀ (H : Heap) (locs : List Loc), va_P (dC, dI) vwCl [ar (ad 14) cA 20 gSTfirst, oHea ad xHea_size, ar (ad 31) cA 12 gHwho, ar (ad 32) cA 12 gHtimes] H → va_D A [ar (ad 14) cA 20 gSTfirst, oHea ad xHea_size, ar (ad 31) cA 12 gHwho, ar (ad 32) cA 12 gHtimes] → va_S A s.heap H locs → ∀ ls : Array Slot, lv_has ls 6 [(0, .ref (ad 30)), (1, .ref (ad 14)), (2, .int v2_5), (3, .int v3_46), (4, .int v4_46)] → W p l e (headSpec wsX2_notSo ({ frames := 0, cells := 0, slots := 0, locals := 0 })).room s m ([.ref (ad 30), .ref (ad 14), .int a2] : List Value).toArray below meth c H locs 0 0 QQ (F0 m 46 ls []) := by
        intro v3_46 v4_46 hm H locs hP hD hS ls hl
        unfold fH_notSo_F_46 at hm
        refine lv_iinc (v := (v3_46 + 1)) (lv' := [(3, .int (v3_46 + 1)), (0, .ref (ad 30)), (1, .ref (ad 14)), (2, .int v2_5), (4, .int v4_46)]) hx hb dX2_notSo_46 hl (k := 3) rfl rfl (by decide) rfl (fun ls hl => ?_)
        exact b_49 _ _ hm _ _ hP hD hS _ (lv_sub hl [1, 2, 3, 0, 4] rfl)
      intro v3_5 v4_5 hm H locs hP hD hS ls hl
      have hm : fH_notSo_F_5_b  (fH_notSo_F_5  v2_5 gSTfirst xHea_size gHwho gHtimes n_5) v2_5 gSTfirst xHea_size gHwho gHtimes v3_5 v4_5 = some u := hm
      unfold fH_notSo_F_5_b at hm
      refine lv_iload hx hb dX2_notSo_5 (lv_at hl 4 rfl) ?_
      refine lv_aload_n hx hb dX2_notSo_7 rfl (lv_at hl 0 rfl) ?_
      refine va_get (D := (dC, dI)) (ci := 2) (v := .int xHea_size) (C := RX2) (T := TX2) (N := 3) hx hb hts hinX2 hown hK hP 1 rfl rfl 2 (by decide) hl_18 (fun _ h9 => h9) rfl dX2_notSo_8 ?_
      refine lv_icmp_ge (tgt := 55) hx hb dX2_notSo_11 (by decide) (fun c_1 => ?_) (fun c_1 => ?_)
      · have hm := it_pos c_1 hm
        refine lv_iload_n hx hb dX2_notSo_55 rfl (lv_at hl 3 rfl) ?_
        obtain rfl := Option.some.inj hm
        subst hQ
        exact W.iret (v := v3_5) hx hb hr (fun t ht hW => ⟨⟨_, (), rfl, rfl, by rw [ht]; exact hP, va_K.moved hW.alike hK, hAe ▸ hD⟩, hS.F ht⟩) hS.2.2 dX2_notSo_56
      · have hm := it_neg c_1 hm
        refine lv_iload_n hx hb dX2_notSo_14 rfl (lv_at hl 2 rfl) ?_
        refine lv_aload_n hx hb dX2_notSo_15 rfl (lv_at hl 0 rfl) ?_
        refine va_get (D := (dC, dI)) (ci := 2) (v := .ref (ad 31)) (C := RX2) (T := TX2) (N := 3) hx hb hts hinX2 hown hK hP 1 rfl rfl 0 (by decide) hl_11 (fun _ h9 => h9) rfl dX2_notSo_16 ?_
        refine lv_iload hx hb dX2_notSo_19 (lv_at hl 4 rfl) ?_
        obtain ⟨i_2, hm⟩ := ck_ok hm
        refine va_iald hx hb hK hP 2 0 rfl rfl i_2 dX2_notSo_21 ?_
        refine lv_iadd hx hb dX2_notSo_22 ?_
        refine lv_istore (lv' := [(5, .int (v2_5 + (gHwho v4_5.toNatClampNeg))), (0, .ref (ad 30)), (1, .ref (ad 14)), (2, .int v2_5), (3, .int v3_5), (4, .int v4_5)]) hx hb dX2_notSo_23 hl (by decide) rfl (fun ls hl => ?_)
        refine lv_iload hx hb dX2_notSo_25 (lv_at hl 0 rfl) ?_
        refine lv_aload_n hx hb dX2_notSo_27 rfl (lv_at hl 2 rfl) ?_
        refine va_alen (v := 20) hx hb hK hP 0 0 rfl rfl rfl dX2_notSo_28 ?_
        refine lv_icmp_ge (tgt := 46) hx hb dX2_notSo_29 (by decide) (fun c_3 => ?_) (fun c_3 => ?_)
        · have hm := it_pos c_3 hm
          exact b_46 _ _ hm _ _ hP hD hS _ (lv_sub hl [1, 2, 3, 4, 5] rfl)
        · have hm := it_neg c_3 hm
          refine lv_aload_n hx hb dX2_notSo_32 rfl (lv_at hl 2 rfl) ?_
          refine lv_iload hx hb dX2_notSo_33 (lv_at hl 0 rfl) ?_
          obtain ⟨i_4, hm⟩ := ck_ok hm
          refine va_iald hx hb hK hP 0 0 rfl rfl i_4 dX2_notSo_35 ?_
          refine lv_aload_n hx hb dX2_notSo_36 rfl (lv_at hl 1 rfl) ?_
          refine va_get (D := (dC, dI)) (ci := 2) (v := .ref (ad 32)) (C := RX2) (T := TX2) (N := 3) hx hb hts hinX2 hown hK hP 1 rfl rfl 1 (by decide) hl_15 (fun _ h9 => h9) rfl dX2_notSo_37 ?_
          refine lv_iload hx hb dX2_notSo_40 (lv_at hl 5 rfl) ?_
          obtain ⟨i_5, hm⟩ := ck_ok hm
          refine va_iald hx hb hK hP 3 0 rfl rfl i_5 dX2_notSo_42 ?_
          refine lv_icmp_eq (tgt := 49) hx hb dX2_notSo_43 (by decide) (fun c_6 => ?_) (fun c_6 => ?_)
          · have hm := it_pos c_6 hm
            exact b_49 _ _ hm _ _ hP hD hS _ (lv_sub hl [1, 2, 3, 4, 5] rfl)
          · have hm := it_neg c_6 hm
            exact b_46 _ _ hm _ _ hP hD hS _ (lv_sub hl [1, 2, 3, 4, 5] rfl)
  unfold fH_notSo_F at hm
  refine lv_iconst (v := 0) hx hb dX2_notSo_0 (by decide) ?_
  refine lv_istore_n (lv' := [(3, .int 0), (0, .ref (ad 30)), (1, .ref (ad 14)), (2, .int a2)]) hx hb dX2_notSo_1 rfl hl (by decide) rfl (fun ls hl => ?_)
  refine lv_iconst (v := 0) hx hb dX2_notSo_2 (by decide) ?_
  refine lv_istore (lv' := [(4, .int 0), (3, .int 0), (0, .ref (ad 30)), (1, .ref (ad 14)), (2, .int a2)]) hx hb dX2_notSo_3 hl (by decide) rfl (fun ls hl => ?_)
  exact h_5 _ _ _ _ hm _ _ hP hD hS _ (lv_sub hl [2, 3, 4, 1, 0] rfl)

set_option maxHeartbeats 4000000 in
set_option maxRecDepth 100000 in
theorem kC_unlike (l : Launch) (dC : Nat → ClassId) (dI : Nat → Nat → Nat) (cA : ClassId) (ad : Nat → Nat) (qe : Nat) (sz : Nat) (xHC_first : Int32) (xHC_second : Int32) (xHC_when : Int32) (xHC_ran : Int32) (xRow_depth : Int32) (xRow_length : Int32) (xRow_people : Int32) (xRow_scarves : Int32) (xRow_main : Int32) (xRow_faultPlace : Int32) (gRkinds : Nat → Int32) (gRlates : Nat → Int32) (gRhands : Nat → Int32) (gRslow : Nat → Int32) (xST_sleeper : Int32) (xST_lastDue : Int32) (xST_unreached : Int32) (gSTdue : Nat → Int32) (gSTbusy : Nat → Int32) (gSTfelt : Nat → Int32) (gSTlost : Nat → Int32) (gSTfirst : Nat → Int32) (xDia_size : Int32) (ne : Nat) (gDent : Nat → Int32) (xHea_size : Int32) (gHwho : Nat → Int32) (gHtimes : Nat → Int32) (u : Int32 × Int32 × Int32 × Int32 × Int32 × (Nat → Int32) × (Nat → Int32) × (Nat → Int32) × (Nat → Int32) × (Nat → Int32) × Int32 × Nat × (Nat → Int32)) (hm : fC_unlike xHC_first xHC_second xHC_when xHC_ran xRow_people gRkinds gRlates gRhands gRslow xST_sleeper xST_lastDue xST_unreached gSTdue gSTbusy gSTfelt gSTlost gSTfirst xDia_size ne gDent xHea_size gHwho gHtimes = some u) : Met l yX9_unlike wsX9_unlike ({ frames := 5, cells := (u.2.2.2.2.2.2.2.2.2.2.2.1 - ne), slots := (2 * (u.2.2.2.2.2.2.2.2.2.2.2.1 - ne)), locals := 123 }) (va_Pc [.ref (ad 0)] (fun U => U.heap.size = sz ∧ va_P (dC, dI) vwCl [oHC ad xHC_first xHC_second xHC_when xHC_ran, oRow ad xRow_depth xRow_length xRow_people xRow_scarves xRow_main xRow_faultPlace, ar (ad 3) cA 20 gRkinds, ar (ad 4) cA 20 gRlates, ar (ad 5) cA 20 gRhands, ar (ad 6) cA 20 gRslow, oST ad xST_sleeper xST_lastDue xST_unreached, ar (ad 10) cA 640 gSTdue, ar (ad 11) cA 20 gSTbusy, ar (ad 12) cA 20 gSTfelt, ar (ad 13) cA 20 gSTlost, ar (ad 14) cA 20 gSTfirst, oDia ad qe xDia_size, ar qe cA ne gDent, oHea ad xHea_size, ar (ad 31) cA 12 gHwho, ar (ad 32) cA 12 gHtimes] U.heap ∧ va_K (dC, dI) vwCl [(cA, .int)] U ∧ va_D (fun _ => True) [oHC ad xHC_first xHC_second xHC_when xHC_ran, oRow ad xRow_depth xRow_length xRow_people xRow_scarves xRow_main xRow_faultPlace, ar (ad 3) cA 20 gRkinds, ar (ad 4) cA 20 gRlates, ar (ad 5) cA 20 gRhands, ar (ad 6) cA 20 gRslow, oST ad xST_sleeper xST_lastDue xST_unreached, ar (ad 10) cA 640 gSTdue, ar (ad 11) cA 20 gSTbusy, ar (ad 12) cA 20 gSTfelt, ar (ad 13) cA 20 gSTlost, ar (ad 14) cA 20 gSTfirst, oDia ad qe xDia_size, ar qe cA ne gDent, oHea ad xHea_size, ar (ad 31) cA 12 gHwho, ar (ad 32) cA 12 gHtimes])) (va_Qi (fun (r : Int32) (_ : Nat) => r = u.1) (fun (qe2 : Nat) t => va_P (dC, dI) vwCl [oHC ad xHC_first xHC_second xHC_when u.2.1, oRow ad xRow_depth xRow_length xRow_people xRow_scarves xRow_main xRow_faultPlace, ar (ad 3) cA 20 gRkinds, ar (ad 4) cA 20 gRlates, ar (ad 5) cA 20 gRhands, ar (ad 6) cA 20 gRslow, oST ad u.2.2.1 u.2.2.2.1 u.2.2.2.2.1, ar (ad 10) cA 640 u.2.2.2.2.2.1, ar (ad 11) cA 20 u.2.2.2.2.2.2.1, ar (ad 12) cA 20 u.2.2.2.2.2.2.2.1, ar (ad 13) cA 20 u.2.2.2.2.2.2.2.2.1, ar (ad 14) cA 20 u.2.2.2.2.2.2.2.2.2.1, oDia ad qe2 u.2.2.2.2.2.2.2.2.2.2.1, ar qe2 cA u.2.2.2.2.2.2.2.2.2.2.2.1 u.2.2.2.2.2.2.2.2.2.2.2.2, oHea ad xHea_size, ar (ad 31) cA 12 gHwho, ar (ad 32) cA 12 gHtimes] t.heap ∧ va_K (dC, dI) vwCl [(cA, .int)] t ∧ va_D (va_A [oHC ad xHC_first xHC_second xHC_when xHC_ran, oRow ad xRow_depth xRow_length xRow_people xRow_scarves xRow_main xRow_faultPlace, ar (ad 3) cA 20 gRkinds, ar (ad 4) cA 20 gRlates, ar (ad 5) cA 20 gRhands, ar (ad 6) cA 20 gRslow, oST ad xST_sleeper xST_lastDue xST_unreached, ar (ad 10) cA 640 gSTdue, ar (ad 11) cA 20 gSTbusy, ar (ad 12) cA 20 gSTfelt, ar (ad 13) cA 20 gSTlost, ar (ad 14) cA 20 gSTfirst, oDia ad qe xDia_size, ar qe cA ne gDent, oHea ad xHea_size, ar (ad 31) cA 12 gHwho, ar (ad 32) cA 12 gHtimes] sz) [oHC ad xHC_first xHC_second xHC_when u.2.1, oRow ad xRow_depth xRow_length xRow_people xRow_scarves xRow_main xRow_faultPlace, ar (ad 3) cA 20 gRkinds, ar (ad 4) cA 20 gRlates, ar (ad 5) cA 20 gRhands, ar (ad 6) cA 20 gRslow, oST ad u.2.2.1 u.2.2.2.1 u.2.2.2.2.1, ar (ad 10) cA 640 u.2.2.2.2.2.1, ar (ad 11) cA 20 u.2.2.2.2.2.2.1, ar (ad 12) cA 20 u.2.2.2.2.2.2.2.1, ar (ad 13) cA 20 u.2.2.2.2.2.2.2.2.1, ar (ad 14) cA 20 u.2.2.2.2.2.2.2.2.2.1, oDia ad qe2 u.2.2.2.2.2.2.2.2.2.2.1, ar qe2 cA u.2.2.2.2.2.2.2.2.2.2.2.1 u.2.2.2.2.2.2.2.2.2.2.2.2, oHea ad xHea_size, ar (ad 31) cA 12 gHwho, ar (ad 32) cA 12 gHtimes]) (va_A [oHC ad xHC_first xHC_second xHC_when xHC_ran, oRow ad xRow_depth xRow_length xRow_people xRow_scarves xRow_main xRow_faultPlace, ar (ad 3) cA 20 gRkinds, ar (ad 4) cA 20 gRlates, ar (ad 5) cA 20 gRhands, ar (ad 6) cA 20 gRslow, oST ad xST_sleeper xST_lastDue xST_unreached, ar (ad 10) cA 640 gSTdue, ar (ad 11) cA 20 gSTbusy, ar (ad 12) cA 20 gSTfelt, ar (ad 13) cA 20 gSTlost, ar (ad 14) cA 20 gSTfirst, oDia ad qe xDia_size, ar qe cA ne gDent, oHea ad xHea_size, ar (ad 31) cA 12 gHwho, ar (ad 32) cA 12 gHtimes] sz)) (u.2.2.2.2.2.2.2.2.2.2.2.1 - ne) (2 * (u.2.2.2.2.2.2.2.2.2.2.2.1 - ne)) (va_A [oHC ad xHC_first xHC_second xHC_when xHC_ran, oRow ad xRow_depth xRow_length xRow_people xRow_scarves xRow_main xRow_faultPlace, ar (ad 3) cA 20 gRkinds, ar (ad 4) cA 20 gRlates, ar (ad 5) cA 20 gRhands, ar (ad 6) cA 20 gRslow, oST ad xST_sleeper xST_lastDue xST_unreached, ar (ad 10) cA 640 gSTdue, ar (ad 11) cA 20 gSTbusy, ar (ad 12) cA 20 gSTfelt, ar (ad 13) cA 20 gSTlost, ar (ad 14) cA 20 gSTfirst, oDia ad qe xDia_size, ar qe cA ne gDent, oHea ad xHea_size, ar (ad 31) cA 12 gHwho, ar (ad 32) cA 12 gHtimes] sz) := by
  refine Met.ofW (cc := cX9_unlike) (maxL := 1) (ret := (some .int)) (by decide) rfl ?_
  intro p e s m args below meth c s₁ B hml hv
  obtain ⟨rfl, hsz, hP, hK, hD0⟩ := hv
  have hx := B.exec
  have hb := B.bytes
  have hr := B.returns
  have hts := atoms_spec (ws := wsX9_unlike) B.pre
  have hown : s.vm.findClass RX9 = some m.cls := findClass_of_methodNamed B.named
  have hlocks := B.notSynchronized
  subst hsz
  have hD := hD0.self (sz := s.heap.size)
  generalize hAe : va_A [oHC ad xHC_first xHC_second xHC_when xHC_ran, oRow ad xRow_depth xRow_length xRow_people xRow_scarves xRow_main xRow_faultPlace, ar (ad 3) cA 20 gRkinds, ar (ad 4) cA 20 gRlates, ar (ad 5) cA 20 gRhands, ar (ad 6) cA 20 gRslow, oST ad xST_sleeper xST_lastDue xST_unreached, ar (ad 10) cA 640 gSTdue, ar (ad 11) cA 20 gSTbusy, ar (ad 12) cA 20 gSTfelt, ar (ad 13) cA 20 gSTlost, ar (ad 14) cA 20 gSTfirst, oDia ad qe xDia_size, ar qe cA ne gDent, oHea ad xHea_size, ar (ad 31) cA 12 gHwho, ar (ad 32) cA 12 gHtimes] s.heap.size = A at hD ⊢
  have hA : ∀ q : Nat, s.heap.size ≤ q → A q := fun q h => by rw [← hAe]; exact Or.inr h
  have hS : va_S A s.heap s.heap [] := va_S.rf
  have hl := lv_entry ([.ref (ad 0)]) (n := 1) (Nat.le_of_ble_eq_true rfl)
  rw [lg_entry_eq]
  generalize (lg_sl ([.ref (ad 0)]) ++ List.replicate (1 - (lg_sl ([.ref (ad 0)])).length) Slot.unset).toArray = ls at hl ⊢
  have hl : lv_has ls 1 [(0, .ref (ad 0))] := hl
  refine wk_Q (fun QQ hQ => ?_)
  have hinX9 : ∀ w ∈ wsX90, w ∈ wsX9_unlike := fun w h => List.mem_cons_of_mem _ (inlX9 w h)
  have hl_54 := hts (.fieldLink RX9 54 "HandCensus" "hearsay" "LHandCensus$Hearsay;") (List.mem_cons_of_mem _ (in_r2 _ (List.mem_of_getElem? (i := 14) rfl)))
  have hinX8 : ∀ w ∈ wsX80, w ∈ wsX9_unlike := fun w h => List.mem_cons_of_mem _ (inlX8 w h)
  have hl_154 := hts (.fieldLink RX9 154 "HandCensus$Squeeze" "firstAt" "[I") (List.mem_cons_of_mem _ (in_r24 _ (List.mem_of_getElem? (i := 11) rfl)))
  unfold fC_unlike at hm
  obtain ⟨hz0, hm⟩ := mz_ok hm
  have hz0 : ne ≤ u.2.2.2.2.2.2.2.2.2.2.2.1 := hz0
  refine lv_aload_n hx hb dX9_unlike_0 rfl (lv_at hl 0 rfl) ?_
  refine va_get (D := (dC, dI)) (ci := 9) (v := .ref (ad 30)) (C := RX9) (T := TX9) (N := 12) hx hb hts hinX9 hown hK hP 0 rfl rfl 5 (by decide) hl_54 (fun _ h9 => h9) rfl dX9_unlike_1 ?_
  refine lv_aload_n hx hb dX9_unlike_4 rfl (lv_at hl 0 rfl) ?_
  have hPc := hP.sub (ws' := [oHC ad xHC_first xHC_second xHC_when xHC_ran, oRow ad xRow_depth xRow_length xRow_people xRow_scarves xRow_main xRow_faultPlace, ar (ad 3) cA 20 gRkinds, ar (ad 4) cA 20 gRlates, ar (ad 5) cA 20 gRhands, ar (ad 6) cA 20 gRslow, oST ad xST_sleeper xST_lastDue xST_unreached, ar (ad 10) cA 640 gSTdue, ar (ad 11) cA 20 gSTbusy, ar (ad 12) cA 20 gSTfelt, ar (ad 13) cA 20 gSTlost, ar (ad 14) cA 20 gSTfirst, oDia ad qe xDia_size, ar qe cA ne gDent]) [0, 1, 2, 3, 4, 5, 6, 7, 8, 9, 10, 11, 12, 13] rfl
  have hDc := hD.sub (ws' := [oHC ad xHC_first xHC_second xHC_when xHC_ran, oRow ad xRow_depth xRow_length xRow_people xRow_scarves xRow_main xRow_faultPlace, ar (ad 3) cA 20 gRkinds, ar (ad 4) cA 20 gRlates, ar (ad 5) cA 20 gRhands, ar (ad 6) cA 20 gRslow, oST ad xST_sleeper xST_lastDue xST_unreached, ar (ad 10) cA 640 gSTdue, ar (ad 11) cA 20 gSTbusy, ar (ad 12) cA 20 gSTfelt, ar (ad 13) cA 20 gSTlost, ar (ad 14) cA 20 gSTfirst, oDia ad qe xDia_size, ar qe cA ne gDent]) [0, 1, 2, 3, 4, 5, 6, 7, 8, 9, 10, 11, 12, 13] (by decide) rfl
  have hFc := va_free (wc := [oHC ad xHC_first xHC_second xHC_when xHC_ran, oRow ad xRow_depth xRow_length xRow_people xRow_scarves xRow_main xRow_faultPlace, ar (ad 3) cA 20 gRkinds, ar (ad 4) cA 20 gRlates, ar (ad 5) cA 20 gRhands, ar (ad 6) cA 20 gRslow, oST ad xST_sleeper xST_lastDue xST_unreached, ar (ad 10) cA 640 gSTdue, ar (ad 11) cA 20 gSTbusy, ar (ad 12) cA 20 gSTfelt, ar (ad 13) cA 20 gSTlost, ar (ad 14) cA 20 gSTfirst, oDia ad qe xDia_size, ar qe cA ne gDent]) hD hS hA [0, 1, 2, 3, 4, 5, 6, 7, 8, 9, 10, 11, 12, 13] rfl
  obtain ⟨u_1, hc_1, hn1_1, hn2_1, hm⟩ := bm_ok hm
  have hn1_1 : ne ≤ u_1.2.2.2.2.2.2.2.2.2.2.1 := hn1_1
  have hn2_1 : u_1.2.2.2.2.2.2.2.2.2.2.1 ≤ u.2.2.2.2.2.2.2.2.2.2.2.1 := hn2_1
  refine va_callr (va_runV (As := []) (rest := [.ref (ad 30)]) ⟨hx, hb, hml, hown, hts⟩ (kC_asTold l dC dI cA ad qe s.heap.size xHC_first xHC_second xHC_when xHC_ran xRow_depth xRow_length xRow_people xRow_scarves xRow_main xRow_faultPlace gRkinds gRlates gRhands gRslow xST_sleeper xST_lastDue xST_unreached gSTdue gSTbusy gSTfelt gSTlost gSTfirst xDia_size ne gDent u_1 hc_1) (cwV 0 hts gX9_unlike_X9_asTold rfl rfl rfl (by decide +kernel) ⟨Nat.le_of_ble_eq_true rfl, Nat.le_of_ble_eq_true rfl⟩) ⟨fun a U g mk q => by obtain ⟨q0, q1, qP, qK, qD⟩ := q; exact ⟨q0, q1, qP, va_K.moved (u := U) (U := U.calling g mk a) (Vm.Alike.refl U.vm) qK, qD⟩, va_recv hK hPc (ci := 9) (q0 := 0) rfl rfl, fun U hU hW => ⟨rfl, by rw [hU], by rw [hU]; exact hPc, va_K.moved hW.alike hK, hDc.weaken (fun _ _ _ _ => trivial)⟩⟩ rfl rfl hl.1 rfl (lv_room (Nat.le_of_ble_eq_true rfl)) dX9_unlike_5 ⟨by (show _ ≤ _ - _); omega, by (show _ ≤ 2 * (_ - _)); omega⟩) hS (fun q _ h => hFc q h) hFc (fun qe_1001 ra_1 t H1 locs ht hvm hw hB hz1 hk1 hS => ?_)
  obtain ⟨hra_1, hP1, hK1, hD1⟩ := hB
  subst hra_1
  rw [ht] at hP1
  obtain ⟨hP, hD⟩ := va_join (wr := [oHea ad xHea_size, ar (ad 31) cA 12 gHwho, ar (ad 32) cA 12 gHtimes]) (w1 := [oHC ad xHC_first xHC_second xHC_when u_1.1, oRow ad xRow_depth xRow_length xRow_people xRow_scarves xRow_main xRow_faultPlace, ar (ad 3) cA 20 gRkinds, ar (ad 4) cA 20 gRlates, ar (ad 5) cA 20 gRhands, ar (ad 6) cA 20 gRslow, oST ad u_1.2.1 u_1.2.2.1 u_1.2.2.2.1, ar (ad 10) cA 640 u_1.2.2.2.2.1, ar (ad 11) cA 20 u_1.2.2.2.2.2.1, ar (ad 12) cA 20 u_1.2.2.2.2.2.2.1, ar (ad 13) cA 20 u_1.2.2.2.2.2.2.2.1, ar (ad 14) cA 20 u_1.2.2.2.2.2.2.2.2.1, oDia ad qe_1001 u_1.2.2.2.2.2.2.2.2.2.1, ar qe_1001 cA u_1.2.2.2.2.2.2.2.2.2.2.1 u_1.2.2.2.2.2.2.2.2.2.2.2]) hP hD [0, 1, 2, 3, 4, 5, 6, 7, 8, 9, 10, 11, 12, 13] [14, 15, 16] rfl rfl (by decide) (by decide) hk1 hFc hP1 hD1
  clear hPc hDc hFc hP1 hK1 hD1 hk1 hz1 hvm ht
  generalize H1 = H at hP hS ⊢
  have hP : va_P (dC, dI) vwCl [oHC ad xHC_first xHC_second xHC_when u_1.1, oRow ad xRow_depth xRow_length xRow_people xRow_scarves xRow_main xRow_faultPlace, ar (ad 3) cA 20 gRkinds, ar (ad 4) cA 20 gRlates, ar (ad 5) cA 20 gRhands, ar (ad 6) cA 20 gRslow, oST ad u_1.2.1 u_1.2.2.1 u_1.2.2.2.1, ar (ad 10) cA 640 u_1.2.2.2.2.1, ar (ad 11) cA 20 u_1.2.2.2.2.2.1, ar (ad 12) cA 20 u_1.2.2.2.2.2.2.1, ar (ad 13) cA 20 u_1.2.2.2.2.2.2.2.1, ar (ad 14) cA 20 u_1.2.2.2.2.2.2.2.2.1, oDia ad qe_1001 u_1.2.2.2.2.2.2.2.2.2.1, ar qe_1001 cA u_1.2.2.2.2.2.2.2.2.2.2.1 u_1.2.2.2.2.2.2.2.2.2.2.2, oHea ad xHea_size, ar (ad 31) cA 12 gHwho, ar (ad 32) cA 12 gHtimes] H := hP.sub [3, 4, 5, 6, 7, 8, 9, 10, 11, 12, 13, 14, 15, 16, 0, 1, 2] rfl
  have hD : va_D A [oHC ad xHC_first xHC_second xHC_when u_1.1, oRow ad xRow_depth xRow_length xRow_people xRow_scarves xRow_main xRow_faultPlace, ar (ad 3) cA 20 gRkinds, ar (ad 4) cA 20 gRlates, ar (ad 5) cA 20 gRhands, ar (ad 6) cA 20 gRslow, oST ad u_1.2.1 u_1.2.2.1 u_1.2.2.2.1, ar (ad 10) cA 640 u_1.2.2.2.2.1, ar (ad 11) cA 20 u_1.2.2.2.2.2.1, ar (ad 12) cA 20 u_1.2.2.2.2.2.2.1, ar (ad 13) cA 20 u_1.2.2.2.2.2.2.2.1, ar (ad 14) cA 20 u_1.2.2.2.2.2.2.2.2.1, oDia ad qe_1001 u_1.2.2.2.2.2.2.2.2.2.1, ar qe_1001 cA u_1.2.2.2.2.2.2.2.2.2.2.1 u_1.2.2.2.2.2.2.2.2.2.2.2, oHea ad xHea_size, ar (ad 31) cA 12 gHwho, ar (ad 32) cA 12 gHtimes] := hD.sub [3, 4, 5, 6, 7, 8, 9, 10, 11, 12, 13, 14, 15, 16, 0, 1, 2] (by decide) rfl
  refine W.widen (k := u_1.2.2.2.2.2.2.2.2.2.2.1 - ne) (n := 2 * (u_1.2.2.2.2.2.2.2.2.2.2.1 - ne)) (by omega) (by omega) ?_
  refine va_get (D := (dC, dI)) (ci := 8) (v := .ref (ad 14)) (C := RX8) (T := TX8) (N := 10) hx hb hts hinX8 hown hK hP 6 rfl rfl 6 (by decide) hl_154 (fun _ h9 => h9) rfl dX9_unlike_8 ?_
  refine lv_iconst (v := 0) hx hb dX9_unlike_11 (by decide) ?_
  have hPc := hP.sub (ws' := [ar (ad 14) cA 20 u_1.2.2.2.2.2.2.2.2.1, oHea ad xHea_size, ar (ad 31) cA 12 gHwho, ar (ad 32) cA 12 gHtimes]) [11, 14, 15, 16] rfl
  have hDc := hD.sub (ws' := [ar (ad 14) cA 20 u_1.2.2.2.2.2.2.2.2.1, oHea ad xHea_size, ar (ad 31) cA 12 gHwho, ar (ad 32) cA 12 gHtimes]) [11, 14, 15, 16] (by decide) rfl
  have hFc := va_free (wc := [ar (ad 14) cA 20 u_1.2.2.2.2.2.2.2.2.1, oHea ad xHea_size, ar (ad 31) cA 12 gHwho, ar (ad 32) cA 12 gHtimes]) hD hS hA [11, 14, 15, 16] rfl
  obtain ⟨u_2, hc_2, hm⟩ := bd_ok hm
  refine va_calli (va_runV (As := [.ref (ad 14), .int 0]) (rest := []) ⟨hx, hb, hml, hown, hts⟩ (kH_notSo_F l dC dI cA ad H.size 0 u_1.2.2.2.2.2.2.2.2.1 xHea_size gHwho gHtimes u_2 hc_2) (cwV 2 hts gX9_unlike_X2_notSo rfl rfl rfl (by decide +kernel) ⟨Nat.le_of_ble_eq_true rfl, Nat.le_of_ble_eq_true rfl⟩) ⟨fun a U g mk q => by obtain ⟨q0, q1, qP, qK, qD⟩ := q; exact ⟨q0, q1, qP, va_K.moved (u := U) (U := U.calling g mk a) (Vm.Alike.refl U.vm) qK, qD⟩, va_recv hK hPc (ci := 2) (q0 := 1) rfl rfl, fun U hU hW => ⟨rfl, by rw [hU], by rw [hU]; exact hPc, va_K.moved hW.alike hK, hDc.weaken (fun _ _ _ _ => trivial)⟩⟩ rfl rfl hl.1 rfl (lv_room (Nat.le_of_ble_eq_true rfl)) dX9_unlike_12 ⟨by (show _ ≤ _ - _); omega, by (show _ ≤ 2 * (_ - _)); omega⟩) hS (fun q _ h => hFc q h) hFc (fun r_2 _ t H1 locs ht hvm hw hB hz1 hk1 hS => ?_)
  obtain ⟨hP1, hK1, hD1⟩ := hB
  rw [ht] at hP1
  obtain ⟨hP, hD⟩ := va_join (wr := [oHC ad xHC_first xHC_second xHC_when u_1.1, oRow ad xRow_depth xRow_length xRow_people xRow_scarves xRow_main xRow_faultPlace, ar (ad 3) cA 20 gRkinds, ar (ad 4) cA 20 gRlates, ar (ad 5) cA 20 gRhands, ar (ad 6) cA 20 gRslow, oST ad u_1.2.1 u_1.2.2.1 u_1.2.2.2.1, ar (ad 10) cA 640 u_1.2.2.2.2.1, ar (ad 11) cA 20 u_1.2.2.2.2.2.1, ar (ad 12) cA 20 u_1.2.2.2.2.2.2.1, ar (ad 13) cA 20 u_1.2.2.2.2.2.2.2.1, oDia ad qe_1001 u_1.2.2.2.2.2.2.2.2.2.1, ar qe_1001 cA u_1.2.2.2.2.2.2.2.2.2.2.1 u_1.2.2.2.2.2.2.2.2.2.2.2]) (w1 := [ar (ad 14) cA 20 u_1.2.2.2.2.2.2.2.2.1, oHea ad xHea_size, ar (ad 31) cA 12 gHwho, ar (ad 32) cA 12 gHtimes]) hP hD [11, 14, 15, 16] [0, 1, 2, 3, 4, 5, 6, 7, 8, 9, 10, 12, 13] rfl rfl (by decide) (by decide) hk1 hFc hP1 hD1
  clear hPc hDc hFc hP1 hK1 hD1 hk1 hz1 hvm ht
  generalize H1 = H at hP hS ⊢
  have hP : va_P (dC, dI) vwCl [oHC ad xHC_first xHC_second xHC_when u_1.1, oRow ad xRow_depth xRow_length xRow_people xRow_scarves xRow_main xRow_faultPlace, ar (ad 3) cA 20 gRkinds, ar (ad 4) cA 20 gRlates, ar (ad 5) cA 20 gRhands, ar (ad 6) cA 20 gRslow, oST ad u_1.2.1 u_1.2.2.1 u_1.2.2.2.1, ar (ad 10) cA 640 u_1.2.2.2.2.1, ar (ad 11) cA 20 u_1.2.2.2.2.2.1, ar (ad 12) cA 20 u_1.2.2.2.2.2.2.1, ar (ad 13) cA 20 u_1.2.2.2.2.2.2.2.1, ar (ad 14) cA 20 u_1.2.2.2.2.2.2.2.2.1, oDia ad qe_1001 u_1.2.2.2.2.2.2.2.2.2.1, ar qe_1001 cA u_1.2.2.2.2.2.2.2.2.2.2.1 u_1.2.2.2.2.2.2.2.2.2.2.2, oHea ad xHea_size, ar (ad 31) cA 12 gHwho, ar (ad 32) cA 12 gHtimes] H := hP.sub [0, 1, 2, 3, 4, 5, 6, 7, 8, 9, 10, 13, 11, 12, 14, 15, 16] rfl
  have hD : va_D A [oHC ad xHC_first xHC_second xHC_when u_1.1, oRow ad xRow_depth xRow_length xRow_people xRow_scarves xRow_main xRow_faultPlace, ar (ad 3) cA 20 gRkinds, ar (ad 4) cA 20 gRlates, ar (ad 5) cA 20 gRhands, ar (ad 6) cA 20 gRslow, oST ad u_1.2.1 u_1.2.2.1 u_1.2.2.2.1, ar (ad 10) cA 640 u_1.2.2.2.2.1, ar (ad 11) cA 20 u_1.2.2.2.2.2.1, ar (ad 12) cA 20 u_1.2.2.2.2.2.2.1, ar (ad 13) cA 20 u_1.2.2.2.2.2.2.2.1, ar (ad 14) cA 20 u_1.2.2.2.2.2.2.2.2.1, oDia ad qe_1001 u_1.2.2.2.2.2.2.2.2.2.1, ar qe_1001 cA u_1.2.2.2.2.2.2.2.2.2.2.1 u_1.2.2.2.2.2.2.2.2.2.2.2, oHea ad xHea_size, ar (ad 31) cA 12 gHwho, ar (ad 32) cA 12 gHtimes] := hD.sub [0, 1, 2, 3, 4, 5, 6, 7, 8, 9, 10, 13, 11, 12, 14, 15, 16] (by decide) rfl
  have hw := hw.symm
  subst hw
  obtain rfl := Option.some.inj hm
  subst hQ
  refine W.widen (k := u_1.2.2.2.2.2.2.2.2.2.2.1 - ne) (n := 2 * (u_1.2.2.2.2.2.2.2.2.2.2.1 - ne)) (by first | exact Nat.le_refl _ | omega) (by first | exact Nat.le_refl _ | omega) ?_
  exact W.iret (v := u_2) hx hb hr (fun t ht hW => ⟨⟨_, qe_1001, rfl, rfl, by rw [ht]; exact hP, va_K.moved hW.alike hK, hAe ▸ hD⟩, hS.F ht⟩) hS.2.2 dX9_unlike_15

set_option maxHeartbeats 4000000 in
set_option maxRecDepth 100000 in
theorem kZ_findOut (l : Launch) (dC : Nat → ClassId) (dI : Nat → Nat → Nat) (cA : ClassId) (ad : Nat → Nat) (sz : Nat) (a1 : Int32) (a2 : Int32) (a3 : Int32) (xRow_depth : Int32) (xRow_length : Int32) (xRow_people : Int32) (xRow_scarves : Int32) (xRow_main : Int32) (xRow_faultPlace : Int32) (gRkinds : Nat → Int32) (gRlates : Nat → Int32) (gRhands : Nat → Int32) (gRslow : Nat → Int32) (xSU_sleeper : Int32) (xSU_lastDue : Int32) (xSU_unreached : Int32) (gSUdue : Nat → Int32) (gSUbusy : Nat → Int32) (gSUfelt : Nat → Int32) (gSUlost : Nat → Int32) (gSUfirst : Nat → Int32) (xSlp_known : Int32) (gStimes : Nat → Int32) (u : Int32 × Int32 × Int32 × (Nat → Int32) × (Nat → Int32) × (Nat → Int32) × (Nat → Int32) × (Nat → Int32) × Int32 × (Nat → Int32)) (hm : fZ_findOut a1 a2 a3 xRow_people gRkinds gRlates gRhands gRslow xSU_sleeper xSU_lastDue xSU_unreached gSUdue gSUbusy gSUfelt gSUlost gSUfirst xSlp_known gStimes = some u) : Met l yX7_findOut wsX7_findOut ({ frames := 4, cells := 0, slots := 0, locals := 103 }) (va_Pc [.ref (ad 24), .int a1, .int a2, .int a3] (fun U => U.heap.size = sz ∧ va_P (dC, dI) vwCl [oRow ad xRow_depth xRow_length xRow_people xRow_scarves xRow_main xRow_faultPlace, ar (ad 3) cA 20 gRkinds, ar (ad 4) cA 20 gRlates, ar (ad 5) cA 20 gRhands, ar (ad 6) cA 20 gRslow, oSU ad xSU_sleeper xSU_lastDue xSU_unreached, ar (ad 18) cA 640 gSUdue, ar (ad 19) cA 20 gSUbusy, ar (ad 20) cA 20 gSUfelt, ar (ad 21) cA 20 gSUlost, ar (ad 22) cA 20 gSUfirst, oSlp ad xSlp_known, ar (ad 25) cA 400 gStimes] U.heap ∧ va_K (dC, dI) vwCl [(cA, .int)] U ∧ va_D (fun _ => True) [oRow ad xRow_depth xRow_length xRow_people xRow_scarves xRow_main xRow_faultPlace, ar (ad 3) cA 20 gRkinds, ar (ad 4) cA 20 gRlates, ar (ad 5) cA 20 gRhands, ar (ad 6) cA 20 gRslow, oSU ad xSU_sleeper xSU_lastDue xSU_unreached, ar (ad 18) cA 640 gSUdue, ar (ad 19) cA 20 gSUbusy, ar (ad 20) cA 20 gSUfelt, ar (ad 21) cA 20 gSUlost, ar (ad 22) cA 20 gSUfirst, oSlp ad xSlp_known, ar (ad 25) cA 400 gStimes])) (va_Qv (fun (_ : Unit) => True) (fun (_ : Unit) t => va_P (dC, dI) vwCl [oRow ad xRow_depth xRow_length xRow_people xRow_scarves xRow_main xRow_faultPlace, ar (ad 3) cA 20 gRkinds, ar (ad 4) cA 20 gRlates, ar (ad 5) cA 20 gRhands, ar (ad 6) cA 20 gRslow, oSU ad u.1 u.2.1 u.2.2.1, ar (ad 18) cA 640 u.2.2.2.1, ar (ad 19) cA 20 u.2.2.2.2.1, ar (ad 20) cA 20 u.2.2.2.2.2.1, ar (ad 21) cA 20 u.2.2.2.2.2.2.1, ar (ad 22) cA 20 u.2.2.2.2.2.2.2.1, oSlp ad u.2.2.2.2.2.2.2.2.1, ar (ad 25) cA 400 u.2.2.2.2.2.2.2.2.2] t.heap ∧ va_K (dC, dI) vwCl [(cA, .int)] t ∧ va_D (va_A [oRow ad xRow_depth xRow_length xRow_people xRow_scarves xRow_main xRow_faultPlace, ar (ad 3) cA 20 gRkinds, ar (ad 4) cA 20 gRlates, ar (ad 5) cA 20 gRhands, ar (ad 6) cA 20 gRslow, oSU ad xSU_sleeper xSU_lastDue xSU_unreached, ar (ad 18) cA 640 gSUdue, ar (ad 19) cA 20 gSUbusy, ar (ad 20) cA 20 gSUfelt, ar (ad 21) cA 20 gSUlost, ar (ad 22) cA 20 gSUfirst, oSlp ad xSlp_known, ar (ad 25) cA 400 gStimes] sz) [oRow ad xRow_depth xRow_length xRow_people xRow_scarves xRow_main xRow_faultPlace, ar (ad 3) cA 20 gRkinds, ar (ad 4) cA 20 gRlates, ar (ad 5) cA 20 gRhands, ar (ad 6) cA 20 gRslow, oSU ad u.1 u.2.1 u.2.2.1, ar (ad 18) cA 640 u.2.2.2.1, ar (ad 19) cA 20 u.2.2.2.2.1, ar (ad 20) cA 20 u.2.2.2.2.2.1, ar (ad 21) cA 20 u.2.2.2.2.2.2.1, ar (ad 22) cA 20 u.2.2.2.2.2.2.2.1, oSlp ad u.2.2.2.2.2.2.2.2.1, ar (ad 25) cA 400 u.2.2.2.2.2.2.2.2.2]) (va_A [oRow ad xRow_depth xRow_length xRow_people xRow_scarves xRow_main xRow_faultPlace, ar (ad 3) cA 20 gRkinds, ar (ad 4) cA 20 gRlates, ar (ad 5) cA 20 gRhands, ar (ad 6) cA 20 gRslow, oSU ad xSU_sleeper xSU_lastDue xSU_unreached, ar (ad 18) cA 640 gSUdue, ar (ad 19) cA 20 gSUbusy, ar (ad 20) cA 20 gSUfelt, ar (ad 21) cA 20 gSUlost, ar (ad 22) cA 20 gSUfirst, oSlp ad xSlp_known, ar (ad 25) cA 400 gStimes] sz)) 0 0 (va_A [oRow ad xRow_depth xRow_length xRow_people xRow_scarves xRow_main xRow_faultPlace, ar (ad 3) cA 20 gRkinds, ar (ad 4) cA 20 gRlates, ar (ad 5) cA 20 gRhands, ar (ad 6) cA 20 gRslow, oSU ad xSU_sleeper xSU_lastDue xSU_unreached, ar (ad 18) cA 640 gSUdue, ar (ad 19) cA 20 gSUbusy, ar (ad 20) cA 20 gSUfelt, ar (ad 21) cA 20 gSUlost, ar (ad 22) cA 20 gSUfirst, oSlp ad xSlp_known, ar (ad 25) cA 400 gStimes] sz) := by
  refine Met.ofW (cc := cX7_findOut) (maxL := 5) (ret := none) (by decide) rfl ?_
  intro p e s m args below meth c s₁ B hml hv
  obtain ⟨rfl, hsz, hP, hK, hD0⟩ := hv
  have hx := B.exec
  have hb := B.bytes
  have hr := B.returns
  have hts := atoms_spec (ws := wsX7_findOut) B.pre
  have hown : s.vm.findClass RX7 = some m.cls := findClass_of_methodNamed B.named
  have hlocks := B.notSynchronized
  subst hsz
  have hD := hD0.self (sz := s.heap.size)
  generalize hAe : va_A [oRow ad xRow_depth xRow_length xRow_people xRow_scarves xRow_main xRow_faultPlace, ar (ad 3) cA 20 gRkinds, ar (ad 4) cA 20 gRlates, ar (ad 5) cA 20 gRhands, ar (ad 6) cA 20 gRslow, oSU ad xSU_sleeper xSU_lastDue xSU_unreached, ar (ad 18) cA 640 gSUdue, ar (ad 19) cA 20 gSUbusy, ar (ad 20) cA 20 gSUfelt, ar (ad 21) cA 20 gSUlost, ar (ad 22) cA 20 gSUfirst, oSlp ad xSlp_known, ar (ad 25) cA 400 gStimes] s.heap.size = A at hD ⊢
  have hA : ∀ q : Nat, s.heap.size ≤ q → A q := fun q h => by rw [← hAe]; exact Or.inr h
  have hS : va_S A s.heap s.heap [] := va_S.rf
  have hl := lv_entry ([.ref (ad 24), .int a1, .int a2, .int a3]) (n := 5) (Nat.le_of_ble_eq_true rfl)
  rw [lg_entry_eq]
  generalize (lg_sl ([.ref (ad 24), .int a1, .int a2, .int a3]) ++ List.replicate (5 - (lg_sl ([.ref (ad 24), .int a1, .int a2, .int a3])).length) Slot.unset).toArray = ls at hl ⊢
  have hl : lv_has ls 5 [(0, .ref (ad 24)), (1, .int a1), (2, .int a2), (3, .int a3)] := hl
  refine wk_Q (fun QQ hQ => ?_)
  have hinX7 : ∀ w ∈ wsX70, w ∈ wsX7_findOut := fun w h => List.mem_cons_of_mem _ (inlX7 w h)
  have hl_9 := hts (.fieldLink RX7 9 "HandCensus$Sleepers" "row" "LHandCensus$Row;") (List.mem_cons_of_mem _ (in_r4 _ (List.mem_of_getElem? (i := 20) rfl)))
  have hinX5 : ∀ w ∈ wsX50, w ∈ wsX7_findOut := fun w h => List.mem_cons_of_mem _ (inlX5 w h)
  have hl_27 := hts (.fieldLink RX7 27 "HandCensus$Row" "people" "I") (List.mem_cons_of_mem _ (in_r35 _ (List.mem_of_getElem? (i := 19) rfl)))
  have hl_23 := hts (.fieldLink RX7 23 "HandCensus$Sleepers" "known" "Z") (List.mem_cons_of_mem _ (in_r4 _ (List.mem_of_getElem? (i := 23) rfl)))
  have hl_15 := hts (.fieldLink RX7 15 "HandCensus$Sleepers" "trial" "LHandCensus$Squeeze;") (List.mem_cons_of_mem _ (in_r4 _ (List.mem_of_getElem? (i := 21) rfl)))
  have hinX8 : ∀ w ∈ wsX80, w ∈ wsX7_findOut := fun w h => List.mem_cons_of_mem _ (inlX8 w h)
  have hl_39 := hts (.fieldLink RX7 39 "HandCensus$Squeeze" "firstAt" "[I") (List.mem_cons_of_mem _ (in_r35 _ (List.mem_of_getElem? (i := 20) rfl)))
  have hl_19 := hts (.fieldLink RX7 19 "HandCensus$Sleepers" "times" "[I") (List.mem_cons_of_mem _ (in_r4 _ (List.mem_of_getElem? (i := 22) rfl)))
  have hw_6 := hts (.methodLink RX7 42 arraycopyName) (List.mem_cons_of_mem _ (in_r35 _ (List.mem_of_getElem? (i := 21) rfl)))
  have hw_7 := hts (.native arraycopyName) (List.mem_cons_of_mem _ (in_r16 _ (List.mem_of_getElem? (i := 3) rfl)))
  have hw_8 := hts (.static arraycopyName) (List.mem_cons_of_mem _ (in_r16 _ (List.mem_of_getElem? (i := 4) rfl)))
  have hw_9 := hts (.initialized "java/lang/System") (List.mem_cons_of_mem _ (in_r16 _ (List.mem_of_getElem? (i := 5) rfl)))
  have h_11 : ∀ (v1_11 : Int32) (v2_11 : Int32) (v3_11 : Int32) (xSlp_known_11 : Int32), ∀ (n_11 : Nat), ∀ (v4_11 : Int32) (xSU_sleeper_11 : Int32) (xSU_lastDue_11 : Int32) (xSU_unreached_11 : Int32) (gSUdue_11 : Nat → Int32) (gSUbusy_11 : Nat → Int32) (gSUfelt_11 : Nat → Int32) (gSUlost_11 : Nat → Int32) (gSUfirst_11 : Nat → Int32) (gStimes_11 : Nat → Int32), fZ_findOut_11 v1_11 v2_11 v3_11 xRow_people gRkinds gRlates gRhands gRslow xSlp_known_11 n_11 v4_11 xSU_sleeper_11 xSU_lastDue_11 xSU_unreached_11 gSUdue_11 gSUbusy_11 gSUfelt_11 gSUlost_11 gSUfirst_11 gStimes_11 = some u → ∀ (H : Heap) (locs : List Loc), va_P (dC, dI) vwCl [oRow ad xRow_depth xRow_length xRow_people xRow_scarves xRow_main xRow_faultPlace, ar (ad 3) cA 20 gRkinds, ar (ad 4) cA 20 gRlates, ar (ad 5) cA 20 gRhands, ar (ad 6) cA 20 gRslow, oSU ad xSU_sleeper_11 xSU_lastDue_11 xSU_unreached_11, ar (ad 18) cA 640 gSUdue_11, ar (ad 19) cA 20 gSUbusy_11, ar (ad 20) cA 20 gSUfelt_11, ar (ad 21) cA 20 gSUlost_11, ar (ad 22) cA 20 gSUfirst_11, oSlp ad xSlp_known_11, ar (ad 25) cA 400 gStimes_11] H → va_D A [oRow ad xRow_depth xRow_length xRow_people xRow_scarves xRow_main xRow_faultPlace, ar (ad 3) cA 20 gRkinds, ar (ad 4) cA 20 gRlates, ar (ad 5) cA 20 gRhands, ar (ad 6) cA 20 gRslow, oSU ad xSU_sleeper_11 xSU_lastDue_11 xSU_unreached_11, ar (ad 18) cA 640 gSUdue_11, ar (ad 19) cA 20 gSUbusy_11, ar (ad 20) cA 20 gSUfelt_11, ar (ad 21) cA 20 gSUlost_11, ar (ad 22) cA 20 gSUfirst_11, oSlp ad xSlp_known_11, ar (ad 25) cA 400 gStimes_11] → va_S A s.heap H locs → ∀ ls : Array Slot, lv_has ls 5 [(0, .ref (ad 24)), (1, .int v1_11), (2, .int v2_11), (3, .int v3_11), (4, .int v4_11)] → W p l e (headSpec wsX7_findOut ({ frames := 4, cells := 0, slots := 0, locals := 103 })).room s m ([.ref (ad 24), .int a1, .int a2, .int a3] : List Value).toArray below meth c H locs 0 0 QQ (F0 m 11 ls []) := by
    intro v1_11 v2_11 v3_11 xSlp_known_11
    intro n_11
    induction n_11 with
    | zero => intro v4_11 xSU_sleeper_11 xSU_lastDue_11 xSU_unreached_11 gSUdue_11 gSUbusy_11 gSUfelt_11 gSUlost_11 gSUfirst_11 gStimes_11 hm; have hm : (none : Option (Int32 × Int32 × Int32 × (Nat → Int32) × (Nat → Int32) × (Nat → Int32) × (Nat → Int32) × (Nat → Int32) × Int32 × (Nat → Int32))) = some u := hm; cases hm
    | succ n_11 ih_11 =>
      intro v4_11 xSU_sleeper_11 xSU_lastDue_11 xSU_unreached_11 gSUdue_11 gSUbusy_11 gSUfelt_11 gSUlost_11 gSUfirst_11 gStimes_11 hm H locs hP hD hS ls hl
      have hm : fZ_findOut_11_b  (fZ_findOut_11  v1_11 v2_11 v3_11 xRow_people gRkinds gRlates gRhands gRslow xSlp_known_11 n_11) v1_11 v2_11 v3_11 xRow_people gRkinds gRlates gRhands gRslow xSlp_known_11 v4_11 xSU_sleeper_11 xSU_lastDue_11 xSU_unreached_11 gSUdue_11 gSUbusy_11 gSUfelt_11 gSUlost_11 gSUfirst_11 gStimes_11 = some u := hm
      unfold fZ_findOut_11_b at hm
      refine lv_iload hx hb dX7_findOut_11 (lv_at hl 4 rfl) ?_
      refine lv_aload_n hx hb dX7_findOut_13 rfl (lv_at hl 0 rfl) ?_
      refine va_get (D := (dC, dI)) (ci := 7) (v := .ref (ad 1)) (C := RX7) (T := TX7) (N := 4) hx hb hts hinX7 hown hK hP 11 rfl rfl 0 (by decide) hl_9 (fun _ h9 => h9) rfl dX7_findOut_14 ?_
      refine va_get (D := (dC, dI)) (ci := 5) (v := .int xRow_people) (C := RX5) (T := TX5) (N := 13) hx hb hts hinX5 hown hK hP 0 rfl rfl 9 (by decide) hl_27 (fun _ h9 => h9) rfl dX7_findOut_17 ?_
      refine lv_icmp_ge (tgt := 63) hx hb dX7_findOut_20 (by decide) (fun c_1 => ?_) (fun c_1 => ?_)
      · have hm := it_pos c_1 hm
        refine lv_aload_n hx hb dX7_findOut_63 rfl (lv_at hl 0 rfl) ?_
        refine lv_iconst (v := 1) hx hb dX7_findOut_64 (by decide) ?_
        refine va_put (D := (dC, dI)) (ci := 7) (v := .int 1) (ty := .boolean) (C := RX7) (T := TX7) (N := 4) hx hb hts hinX7 tyX7 tyX7_ok nmX7 hown hK hP hD hS 11 rfl rfl 3 (by decide) hl_23 (fun _ h9 => h9) rfl (by decide +kernel) rfl rfl (Nat.le_of_ble_eq_true rfl) dX7_findOut_65 (fun H locs hP hD hS => ?_)
        have hP : va_P (dC, dI) vwCl [oRow ad xRow_depth xRow_length xRow_people xRow_scarves xRow_main xRow_faultPlace, ar (ad 3) cA 20 gRkinds, ar (ad 4) cA 20 gRlates, ar (ad 5) cA 20 gRhands, ar (ad 6) cA 20 gRslow, oSU ad xSU_sleeper_11 xSU_lastDue_11 xSU_unreached_11, ar (ad 18) cA 640 gSUdue_11, ar (ad 19) cA 20 gSUbusy_11, ar (ad 20) cA 20 gSUfelt_11, ar (ad 21) cA 20 gSUlost_11, ar (ad 22) cA 20 gSUfirst_11, oSlp ad 1, ar (ad 25) cA 400 gStimes_11] H := hP
        have hD : va_D A [oRow ad xRow_depth xRow_length xRow_people xRow_scarves xRow_main xRow_faultPlace, ar (ad 3) cA 20 gRkinds, ar (ad 4) cA 20 gRlates, ar (ad 5) cA 20 gRhands, ar (ad 6) cA 20 gRslow, oSU ad xSU_sleeper_11 xSU_lastDue_11 xSU_unreached_11, ar (ad 18) cA 640 gSUdue_11, ar (ad 19) cA 20 gSUbusy_11, ar (ad 20) cA 20 gSUfelt_11, ar (ad 21) cA 20 gSUlost_11, ar (ad 22) cA 20 gSUfirst_11, oSlp ad 1, ar (ad 25) cA 400 gStimes_11] := hD
        obtain rfl := Option.some.inj hm
        subst hQ
        exact W.vret hx hb hr (fun t ht hW => ⟨⟨(), rfl, trivial, by rw [ht]; exact hP, va_K.moved hW.alike hK, hAe ▸ hD⟩, hS.F ht⟩) hS.2.2 dX7_findOut_68
      · have hm := it_neg c_1 hm
        refine lv_aload_n hx hb dX7_findOut_23 rfl (lv_at hl 0 rfl) ?_
        refine va_get (D := (dC, dI)) (ci := 7) (v := .ref (ad 17)) (C := RX7) (T := TX7) (N := 4) hx hb hts hinX7 hown hK hP 11 rfl rfl 1 (by decide) hl_15 (fun _ h9 => h9) rfl dX7_findOut_24 ?_
        refine lv_iload_n hx hb dX7_findOut_27 rfl (lv_at hl 1 rfl) ?_
        refine lv_iload_n hx hb dX7_findOut_28 rfl (lv_at hl 2 rfl) ?_
        refine lv_iload_n hx hb dX7_findOut_29 rfl (lv_at hl 3 rfl) ?_
        refine lv_iload hx hb dX7_findOut_30 (lv_at hl 4 rfl) ?_
        have hPc := hP.sub (ws' := [oRow ad xRow_depth xRow_length xRow_people xRow_scarves xRow_main xRow_faultPlace, ar (ad 3) cA 20 gRkinds, ar (ad 4) cA 20 gRlates, ar (ad 5) cA 20 gRhands, ar (ad 6) cA 20 gRslow, oSU ad xSU_sleeper_11 xSU_lastDue_11 xSU_unreached_11, ar (ad 18) cA 640 gSUdue_11, ar (ad 19) cA 20 gSUbusy_11, ar (ad 20) cA 20 gSUfelt_11, ar (ad 21) cA 20 gSUlost_11, ar (ad 22) cA 20 gSUfirst_11]) [0, 1, 2, 3, 4, 5, 6, 7, 8, 9, 10] rfl
        have hDc := hD.sub (ws' := [oRow ad xRow_depth xRow_length xRow_people xRow_scarves xRow_main xRow_faultPlace, ar (ad 3) cA 20 gRkinds, ar (ad 4) cA 20 gRlates, ar (ad 5) cA 20 gRhands, ar (ad 6) cA 20 gRslow, oSU ad xSU_sleeper_11 xSU_lastDue_11 xSU_unreached_11, ar (ad 18) cA 640 gSUdue_11, ar (ad 19) cA 20 gSUbusy_11, ar (ad 20) cA 20 gSUfelt_11, ar (ad 21) cA 20 gSUlost_11, ar (ad 22) cA 20 gSUfirst_11]) [0, 1, 2, 3, 4, 5, 6, 7, 8, 9, 10] (by decide) rfl
        have hFc := va_free (wc := [oRow ad xRow_depth xRow_length xRow_people xRow_scarves xRow_main xRow_faultPlace, ar (ad 3) cA 20 gRkinds, ar (ad 4) cA 20 gRlates, ar (ad 5) cA 20 gRhands, ar (ad 6) cA 20 gRslow, oSU ad xSU_sleeper_11 xSU_lastDue_11 xSU_unreached_11, ar (ad 18) cA 640 gSUdue_11, ar (ad 19) cA 20 gSUbusy_11, ar (ad 20) cA 20 gSUfelt_11, ar (ad 21) cA 20 gSUlost_11, ar (ad 22) cA 20 gSUfirst_11]) hD hS hA [0, 1, 2, 3, 4, 5, 6, 7, 8, 9, 10] rfl
        obtain ⟨u_2, hc_2, hm⟩ := bd_ok hm
        refine va_callv (va_runV (As := [.int v1_11, .int v2_11, .int v3_11, .int v4_11]) (rest := []) ⟨hx, hb, hml, hown, hts⟩ (kS_run_U l dC dI cA ad H.size v1_11 v2_11 v3_11 v4_11 xRow_depth xRow_length xRow_people xRow_scarves xRow_main xRow_faultPlace gRkinds gRlates gRhands gRslow xSU_sleeper_11 xSU_lastDue_11 xSU_unreached_11 gSUdue_11 gSUbusy_11 gSUfelt_11 gSUlost_11 gSUfirst_11 u_2 hc_2) (cwV 4 hts gX7_findOut_X8_run rfl rfl rfl (by decide +kernel) ⟨Nat.le_of_ble_eq_true rfl, Nat.le_of_ble_eq_true rfl⟩) ⟨fun a U g mk q => by obtain ⟨q0, q1, qP, qK, qD⟩ := q; exact ⟨q0, q1, qP, va_K.moved (u := U) (U := U.calling g mk a) (Vm.Alike.refl U.vm) qK, qD⟩, va_recv hK hPc (ci := 8) (q0 := 5) rfl rfl, fun U hU hW => ⟨rfl, by rw [hU], by rw [hU]; exact hPc, va_K.moved hW.alike hK, hDc.weaken (fun _ _ _ _ => trivial)⟩⟩ rfl rfl hl.1 rfl (lv_room (Nat.le_of_ble_eq_true rfl)) dX7_findOut_32 ⟨Nat.le_of_ble_eq_true rfl, Nat.le_of_ble_eq_true rfl⟩) hS (fun q _ h => hFc q h) hFc (fun _ t H1 locs ht hvm hw hB hz1 hk1 hS => ?_)
        obtain ⟨hP1, hK1, hD1⟩ := hB
        rw [ht] at hP1
        obtain ⟨hP, hD⟩ := va_join (wr := [oSlp ad xSlp_known_11, ar (ad 25) cA 400 gStimes_11]) (w1 := [oRow ad xRow_depth xRow_length xRow_people xRow_scarves xRow_main xRow_faultPlace, ar (ad 3) cA 20 gRkinds, ar (ad 4) cA 20 gRlates, ar (ad 5) cA 20 gRhands, ar (ad 6) cA 20 gRslow, oSU ad u_2.1 u_2.2.1 u_2.2.2.1, ar (ad 18) cA 640 u_2.2.2.2.1, ar (ad 19) cA 20 u_2.2.2.2.2.1, ar (ad 20) cA 20 u_2.2.2.2.2.2.1, ar (ad 21) cA 20 u_2.2.2.2.2.2.2.1, ar (ad 22) cA 20 u_2.2.2.2.2.2.2.2]) hP hD [0, 1, 2, 3, 4, 5, 6, 7, 8, 9, 10] [11, 12] rfl rfl (by decide) (by decide) hk1 hFc hP1 hD1
        clear hPc hDc hFc hP1 hK1 hD1 hk1 hz1 hvm ht
        generalize H1 = H at hP hS ⊢
        have hP : va_P (dC, dI) vwCl [oRow ad xRow_depth xRow_length xRow_people xRow_scarves xRow_main xRow_faultPlace, ar (ad 3) cA 20 gRkinds, ar (ad 4) cA 20 gRlates, ar (ad 5) cA 20 gRhands, ar (ad 6) cA 20 gRslow, oSU ad u_2.1 u_2.2.1 u_2.2.2.1, ar (ad 18) cA 640 u_2.2.2.2.1, ar (ad 19) cA 20 u_2.2.2.2.2.1, ar (ad 20) cA 20 u_2.2.2.2.2.2.1, ar (ad 21) cA 20 u_2.2.2.2.2.2.2.1, ar (ad 22) cA 20 u_2.2.2.2.2.2.2.2, oSlp ad xSlp_known_11, ar (ad 25) cA 400 gStimes_11] H := hP.sub [2, 3, 4, 5, 6, 7, 8, 9, 10, 11, 12, 0, 1] rfl
        have hD : va_D A [oRow ad xRow_depth xRow_length xRow_people xRow_scarves xRow_main xRow_faultPlace, ar (ad 3) cA 20 gRkinds, ar (ad 4) cA 20 gRlates, ar (ad 5) cA 20 gRhands, ar (ad 6) cA 20 gRslow, oSU ad u_2.1 u_2.2.1 u_2.2.2.1, ar (ad 18) cA 640 u_2.2.2.2.1, ar (ad 19) cA 20 u_2.2.2.2.2.1, ar (ad 20) cA 20 u_2.2.2.2.2.2.1, ar (ad 21) cA 20 u_2.2.2.2.2.2.2.1, ar (ad 22) cA 20 u_2.2.2.2.2.2.2.2, oSlp ad xSlp_known_11, ar (ad 25) cA 400 gStimes_11] := hD.sub [2, 3, 4, 5, 6, 7, 8, 9, 10, 11, 12, 0, 1] (by decide) rfl
        refine lv_aload_n hx hb dX7_findOut_35 rfl (lv_at hl 0 rfl) ?_
        refine va_get (D := (dC, dI)) (ci := 7) (v := .ref (ad 17)) (C := RX7) (T := TX7) (N := 4) hx hb hts hinX7 hown hK hP 11 rfl rfl 1 (by decide) hl_15 (fun _ h9 => h9) rfl dX7_findOut_36 ?_
        refine va_get (D := (dC, dI)) (ci := 8) (v := .ref (ad 22)) (C := RX8) (T := TX8) (N := 10) hx hb hts hinX8 hown hK hP 5 rfl rfl 6 (by decide) hl_39 (fun _ h9 => h9) rfl dX7_findOut_39 ?_
        refine lv_iconst (v := 0) hx hb dX7_findOut_42 (by decide) ?_
        refine lv_aload_n hx hb dX7_findOut_43 rfl (lv_at hl 0 rfl) ?_
        refine va_get (D := (dC, dI)) (ci := 7) (v := .ref (ad 25)) (C := RX7) (T := TX7) (N := 4) hx hb hts hinX7 hown hK hP 11 rfl rfl 2 (by decide) hl_19 (fun _ h9 => h9) rfl dX7_findOut_44 ?_
        refine lv_iload hx hb dX7_findOut_47 (lv_at hl 4 rfl) ?_
        refine lv_bipush (v := 20) hx hb dX7_findOut_49 (by decide) ?_
        refine lv_imul hx hb dX7_findOut_51 ?_
        refine lv_bipush (v := 20) hx hb dX7_findOut_52 (by decide) ?_
        obtain ⟨⟨y1_3, y2_3, y3_3, y4_3, y5_3⟩, hm⟩ := ac_ok hm
        refine va_copyi hx hb (by rw [hml]; exact hl.1.symm) hown hw_6 hw_7 hw_8 hw_9 hK hP hD hS 10 12 0 0 rfl rfl rfl rfl rfl y1_3 y2_3 y3_3 y4_3 y5_3 (fun _ _ => rfl) (Nat.le_of_ble_eq_true rfl) (Nat.le_of_ble_eq_true rfl) dX7_findOut_54 (fun H locs hP hD hS => ?_)
        have hP : va_P (dC, dI) vwCl [oRow ad xRow_depth xRow_length xRow_people xRow_scarves xRow_main xRow_faultPlace, ar (ad 3) cA 20 gRkinds, ar (ad 4) cA 20 gRlates, ar (ad 5) cA 20 gRhands, ar (ad 6) cA 20 gRslow, oSU ad u_2.1 u_2.2.1 u_2.2.2.1, ar (ad 18) cA 640 u_2.2.2.2.1, ar (ad 19) cA 20 u_2.2.2.2.2.1, ar (ad 20) cA 20 u_2.2.2.2.2.2.1, ar (ad 21) cA 20 u_2.2.2.2.2.2.2.1, ar (ad 22) cA 20 u_2.2.2.2.2.2.2.2, oSlp ad xSlp_known_11, ar (ad 25) cA 400 (va_cpy u_2.2.2.2.2.2.2.2 gStimes_11 (0 : Int32).toNatClampNeg (v4_11 * 20).toNatClampNeg (20 : Int32).toNatClampNeg)] H := hP
        have hD : va_D A [oRow ad xRow_depth xRow_length xRow_people xRow_scarves xRow_main xRow_faultPlace, ar (ad 3) cA 20 gRkinds, ar (ad 4) cA 20 gRlates, ar (ad 5) cA 20 gRhands, ar (ad 6) cA 20 gRslow, oSU ad u_2.1 u_2.2.1 u_2.2.2.1, ar (ad 18) cA 640 u_2.2.2.2.1, ar (ad 19) cA 20 u_2.2.2.2.2.1, ar (ad 20) cA 20 u_2.2.2.2.2.2.1, ar (ad 21) cA 20 u_2.2.2.2.2.2.2.1, ar (ad 22) cA 20 u_2.2.2.2.2.2.2.2, oSlp ad xSlp_known_11, ar (ad 25) cA 400 (va_cpy u_2.2.2.2.2.2.2.2 gStimes_11 (0 : Int32).toNatClampNeg (v4_11 * 20).toNatClampNeg (20 : Int32).toNatClampNeg)] := hD
        refine lv_iinc (v := (v4_11 + 1)) (lv' := [(4, .int (v4_11 + 1)), (0, .ref (ad 24)), (1, .int v1_11), (2, .int v2_11), (3, .int v3_11)]) hx hb dX7_findOut_57 hl (k := 4) rfl rfl (by decide) rfl (fun ls hl => ?_)
        refine lv_goto (tgt := 11) hx hb dX7_findOut_60 (by decide) ?_
        exact ih_11 _ _ _ _ _ _ _ _ _ _ hm _ _ hP hD hS _ (lv_sub hl [1, 2, 3, 4, 0] rfl)
  unfold fZ_findOut at hm
  refine lv_aload_n hx hb dX7_findOut_0 rfl (lv_at hl 0 rfl) ?_
  refine va_get (D := (dC, dI)) (ci := 7) (v := .int xSlp_known) (C := RX7) (T := TX7) (N := 4) hx hb hts hinX7 hown hK hP 11 rfl rfl 3 (by decide) hl_23 (fun _ h9 => h9) rfl dX7_findOut_1 ?_
  refine lv_if_eq (tgt := 8) hx hb dX7_findOut_4 (by decide) (fun c_4 => ?_) (fun c_4 => ?_)
  · have hm := it_pos c_4 hm
    refine lv_iconst (v := 0) hx hb dX7_findOut_8 (by decide) ?_
    refine lv_istore (lv' := [(4, .int 0), (0, .ref (ad 24)), (1, .int a1), (2, .int a2), (3, .int a3)]) hx hb dX7_findOut_9 hl (by decide) rfl (fun ls hl => ?_)
    exact h_11 _ _ _ _ _ _ _ _ _ _ _ _ _ _ _ hm _ _ hP hD hS _ (lv_sub hl [1, 2, 3, 4, 0] rfl)
  · have hm := it_neg c_4 hm
    obtain rfl := Option.some.inj hm
    subst hQ
    exact W.vret hx hb hr (fun t ht hW => ⟨⟨(), rfl, trivial, by rw [ht]; exact hP, va_K.moved hW.alike hK, hAe ▸ hD⟩, hS.F ht⟩) hS.2.2 dX7_findOut_7

set_option maxHeartbeats 4000000 in
set_option maxRecDepth 100000 in
theorem kH_notSo_S (l : Launch) (dC : Nat → ClassId) (dI : Nat → Nat → Nat) (cA : ClassId) (ad : Nat → Nat) (sz : Nat) (a2 : Int32) (gStimes : Nat → Int32) (xHea_size : Int32) (gHwho : Nat → Int32) (gHtimes : Nat → Int32) (u : Int32) (hm : fH_notSo_S a2 gStimes xHea_size gHwho gHtimes = some u) : Met l yX2_notSo wsX2_notSo ({ frames := 0, cells := 0, slots := 0, locals := 0 }) (va_Pc [.ref (ad 30), .ref (ad 25), .int a2] (fun U => U.heap.size = sz ∧ va_P (dC, dI) vwCl [ar (ad 25) cA 400 gStimes, oHea ad xHea_size, ar (ad 31) cA 12 gHwho, ar (ad 32) cA 12 gHtimes] U.heap ∧ va_K (dC, dI) vwCl [(cA, .int)] U ∧ va_D (fun _ => True) [ar (ad 25) cA 400 gStimes, oHea ad xHea_size, ar (ad 31) cA 12 gHwho, ar (ad 32) cA 12 gHtimes])) (va_Qi (fun (r : Int32) (_ : Unit) => r = u) (fun (_ : Unit) t => va_P (dC, dI) vwCl [ar (ad 25) cA 400 gStimes, oHea ad xHea_size, ar (ad 31) cA 12 gHwho, ar (ad 32) cA 12 gHtimes] t.heap ∧ va_K (dC, dI) vwCl [(cA, .int)] t ∧ va_D (va_A [ar (ad 25) cA 400 gStimes, oHea ad xHea_size, ar (ad 31) cA 12 gHwho, ar (ad 32) cA 12 gHtimes] sz) [ar (ad 25) cA 400 gStimes, oHea ad xHea_size, ar (ad 31) cA 12 gHwho, ar (ad 32) cA 12 gHtimes]) (va_A [ar (ad 25) cA 400 gStimes, oHea ad xHea_size, ar (ad 31) cA 12 gHwho, ar (ad 32) cA 12 gHtimes] sz)) 0 0 (va_A [ar (ad 25) cA 400 gStimes, oHea ad xHea_size, ar (ad 31) cA 12 gHwho, ar (ad 32) cA 12 gHtimes] sz) := by
  refine Met.ofW (cc := cX2_notSo) (maxL := 6) (ret := (some .int)) (by decide) rfl ?_
  intro p e s m args below meth c s₁ B hml hv
  obtain ⟨rfl, hsz, hP, hK, hD0⟩ := hv
  have hx := B.exec
  have hb := B.bytes
  have hr := B.returns
  have hts := atoms_spec (ws := wsX2_notSo) B.pre
  have hown : s.vm.findClass RX2 = some m.cls := findClass_of_methodNamed B.named
  have hlocks := B.notSynchronized
  subst hsz
  have hD := hD0.self (sz := s.heap.size)
  generalize hAe : va_A [ar (ad 25) cA 400 gStimes, oHea ad xHea_size, ar (ad 31) cA 12 gHwho, ar (ad 32) cA 12 gHtimes] s.heap.size = A at hD ⊢
  have hA : ∀ q : Nat, s.heap.size ≤ q → A q := fun q h => by rw [← hAe]; exact Or.inr h
  have hS : va_S A s.heap s.heap [] := va_S.rf
  have hl := lv_entry ([.ref (ad 30), .ref (ad 25), .int a2]) (n := 6) (Nat.le_of_ble_eq_true rfl)
  rw [lg_entry_eq]
  generalize (lg_sl ([.ref (ad 30), .ref (ad 25), .int a2]) ++ List.replicate (6 - (lg_sl ([.ref (ad 30), .ref (ad 25), .int a2])).length) Slot.unset).toArray = ls at hl ⊢
  have hl : lv_has ls 6 [(0, .ref (ad 30)), (1, .ref (ad 25)), (2, .int a2)] := hl
  refine wk_Q (fun QQ hQ => ?_)
  have hinX2 : ∀ w ∈ wsX20, w ∈ wsX2_notSo := fun w h => List.mem_cons_of_mem _ (inlX2 w h)
  have hl_18 := hts (.fieldLink RX2 18 "HandCensus$Hearsay" "size" "I") (List.mem_cons_of_mem _ (in_r5 _ (List.mem_of_getElem? (i := 17) rfl)))
  have hl_11 := hts (.fieldLink RX2 11 "HandCensus$Hearsay" "who" "[I") (List.mem_cons_of_mem _ (in_r5 _ (List.mem_of_getElem? (i := 15) rfl)))
  have hl_15 := hts (.fieldLink RX2 15 "HandCensus$Hearsay" "times" "[I") (List.mem_cons_of_mem _ (in_r5 _ (List.mem_of_getElem? (i := 16) rfl)))
  have h_5 : ∀ (v2_5 : Int32), ∀ (n_5 : Nat), ∀ (v3_5 : Int32) (v4_5 : Int32), fH_notSo_S_5 v2_5 gStimes xHea_size gHwho gHtimes n_5 v3_5 v4_5 = some u → ∀ (H : Heap) (locs : List Loc), va_P (dC, dI) vwCl [ar (ad 25) cA 400 gStimes, oHea ad xHea_size, ar (ad 31) cA 12 gHwho, ar (ad 32) cA 12 gHtimes] H → va_D A [ar (ad 25) cA 400 gStimes, oHea ad xHea_size, ar (ad 31) cA 12 gHwho, ar (ad 32) cA 12 gHtimes] → va_S A s.heap H locs → ∀ ls : Array Slot, lv_has ls 6 [(0, .ref (ad 30)), (1, .ref (ad 25)), (2, .int v2_5), (3, .int v3_5), (4, .int v4_5)] → W p l e (headSpec wsX2_notSo ({ frames := 0, cells := 0, slots := 0, locals := 0 })).room s m ([.ref (ad 30), .ref (ad 25), .int a2] : List Value).toArray below meth c H locs 0 0 QQ (F0 m 5 ls []) := by
    intro v2_5
    intro n_5
    induction n_5 with
    | zero => intro v3_5 v4_5 hm; have hm : (none : Option (Int32)) = some u := hm; cases hm
    | succ n_5 ih_5 =>
      have b_49 : ∀ (v3_49 : Int32) (v4_49 : Int32), fH_notSo_S_49 (fH_notSo_S_5  v2_5 gStimes xHea_size gHwho gHtimes n_5) v2_5 v3_49 v4_49 gStimes xHea_size gHwho gHtimes = some u → ∀ (H : Heap) (locs : List Loc), va_P (dC, dI) vwCl [ar (ad 25) cA 400 gStimes, oHea ad xHea_size, ar (ad 31) cA 12 gHwho, ar (ad 32) cA 12 gHtimes] H → va_D A [ar (ad 25) cA 400 gStimes, oHea ad xHea_size, ar (ad 31) cA 12 gHwho, ar (ad 32) cA 12 gHtimes] → va_S A s.heap H locs → ∀ ls : Array Slot, lv_has ls 6 [(0, .ref (ad 30)), (1, .ref (ad 25)), (2, .int v2_5), (3, .int v3_49), (4, .int v4_49)] → W p l e (headSpec wsX2_notSo ({ frames := 0, cells := 0, slots := 0, locals := 0 })).room s m ([.ref (ad 30), .ref (ad 25), .int a2] : List Value).toArray below meth c H locs 0 0 QQ (F0 m 49 ls []) := by
        intro v3_49 v4_49 hm H locs hP hD hS ls hl
        unfold fH_notSo_S_49 at hm
        refine lv_iinc (v := (v4_49 + 1)) (lv' := [(4, .int (v4_49 + 1)), (0, .ref (ad 30)), (1, .ref (ad 25)), (2, .int v2_5), (3, .int v3_49)]) hx hb dX2_notSo_49 hl (k := 4) rfl rfl (by decide) rfl (fun ls hl => ?_)
        refine lv_goto (tgt := 5) hx hb dX2_notSo_52 (by decide) ?_
        exact ih_5 _ _ hm _ _ hP hD hS _ (lv_sub hl [1, 2, 3, 4, 0] rfl)
      have b_46 : ∀ (v3_46 : Int32) (v4_46 : Int32), fH_notSo_S_46 (fH_notSo_S_5  v2_5 gStimes xHea_size gHwho gHtimes n_5) v2_5 v3_46 v4_46 gStimes xHea_size gHwho gHtimes = some u → ∀ (H : Heap) (locs : List Loc), va_P (dC, dI) vwCl [ar (ad 25) cA 400 gStimes, oHea ad xHea_size, ar (ad 31) cA 12 gHwho, ar (ad 32) cA 12 gHtimes] H → va_D A [ar (ad 25) cA 400 gStimes, oHea ad xHea_size, ar (ad 31) cA 12 gHwho, ar (ad 32) cA 12 gHtimes] → va_S A s.heap H locs → ∀ ls : Array Slot, lv_has ls 6 [(0, .ref (ad 30)), (1, .ref (ad 25)), (2, .int v2_5), (3, .int v3_46), (4, .int v4_46)] → W p l e (headSpec wsX2_notSo ({ frames := 0, cells := 0, slots := 0, locals := 0 })).room s m ([.ref (ad 30), .ref (ad 25), .int a2] : List Value).toArray below meth c H locs 0 0 QQ (F0 m 46 ls []) := by
        intro v3_46 v4_46 hm H locs hP hD hS ls hl
        unfold fH_notSo_S_46 at hm
        refine lv_iinc (v := (v3_46 + 1)) (lv' := [(3, .int (v3_46 + 1)), (0, .ref (ad 30)), (1, .ref (ad 25)), (2, .int v2_5), (4, .int v4_46)]) hx hb dX2_notSo_46 hl (k := 3) rfl rfl (by decide) rfl (fun ls hl => ?_)
        exact b_49 _ _ hm _ _ hP hD hS _ (lv_sub hl [1, 2, 3, 0, 4] rfl)
      intro v3_5 v4_5 hm H locs hP hD hS ls hl
      have hm : fH_notSo_S_5_b  (fH_notSo_S_5  v2_5 gStimes xHea_size gHwho gHtimes n_5) v2_5 gStimes xHea_size gHwho gHtimes v3_5 v4_5 = some u := hm
      unfold fH_notSo_S_5_b at hm
      refine lv_iload hx hb dX2_notSo_5 (lv_at hl 4 rfl) ?_
      refine lv_aload_n hx hb dX2_notSo_7 rfl (lv_at hl 0 rfl) ?_
      refine va_get (D := (dC, dI)) (ci := 2) (v := .int xHea_size) (C := RX2) (T := TX2) (N := 3) hx hb hts hinX2 hown hK hP 1 rfl rfl 2 (by decide) hl_18 (fun _ h9 => h9) rfl dX2_notSo_8 ?_
      refine lv_icmp_ge (tgt := 55) hx hb dX2_notSo_11 (by decide) (fun c_1 => ?_) (fun c_1 => ?_)
      · have hm := it_pos c_1 hm
        refine lv_iload_n hx hb dX2_notSo_55 rfl (lv_at hl 3 rfl) ?_
        obtain rfl := Option.some.inj hm
        subst hQ
        exact W.iret (v := v3_5) hx hb hr (fun t ht hW => ⟨⟨_, (), rfl, rfl, by rw [ht]; exact hP, va_K.moved hW.alike hK, hAe ▸ hD⟩, hS.F ht⟩) hS.2.2 dX2_notSo_56
      · have hm := it_neg c_1 hm
        refine lv_iload_n hx hb dX2_notSo_14 rfl (lv_at hl 2 rfl) ?_
        refine lv_aload_n hx hb dX2_notSo_15 rfl (lv_at hl 0 rfl) ?_
        refine va_get (D := (dC, dI)) (ci := 2) (v := .ref (ad 31)) (C := RX2) (T := TX2) (N := 3) hx hb hts hinX2 hown hK hP 1 rfl rfl 0 (by decide) hl_11 (fun _ h9 => h9) rfl dX2_notSo_16 ?_
        refine lv_iload hx hb dX2_notSo_19 (lv_at hl 4 rfl) ?_
        obtain ⟨i_2, hm⟩ := ck_ok hm
        refine va_iald hx hb hK hP 2 0 rfl rfl i_2 dX2_notSo_21 ?_
        refine lv_iadd hx hb dX2_notSo_22 ?_
        refine lv_istore (lv' := [(5, .int (v2_5 + (gHwho v4_5.toNatClampNeg))), (0, .ref (ad 30)), (1, .ref (ad 25)), (2, .int v2_5), (3, .int v3_5), (4, .int v4_5)]) hx hb dX2_notSo_23 hl (by decide) rfl (fun ls hl => ?_)
        refine lv_iload hx hb dX2_notSo_25 (lv_at hl 0 rfl) ?_
        refine lv_aload_n hx hb dX2_notSo_27 rfl (lv_at hl 2 rfl) ?_
        refine va_alen (v := 400) hx hb hK hP 0 0 rfl rfl rfl dX2_notSo_28 ?_
        refine lv_icmp_ge (tgt := 46) hx hb dX2_notSo_29 (by decide) (fun c_3 => ?_) (fun c_3 => ?_)
        · have hm := it_pos c_3 hm
          exact b_46 _ _ hm _ _ hP hD hS _ (lv_sub hl [1, 2, 3, 4, 5] rfl)
        · have hm := it_neg c_3 hm
          refine lv_aload_n hx hb dX2_notSo_32 rfl (lv_at hl 2 rfl) ?_
          refine lv_iload hx hb dX2_notSo_33 (lv_at hl 0 rfl) ?_
          obtain ⟨i_4, hm⟩ := ck_ok hm
          refine va_iald hx hb hK hP 0 0 rfl rfl i_4 dX2_notSo_35 ?_
          refine lv_aload_n hx hb dX2_notSo_36 rfl (lv_at hl 1 rfl) ?_
          refine va_get (D := (dC, dI)) (ci := 2) (v := .ref (ad 32)) (C := RX2) (T := TX2) (N := 3) hx hb hts hinX2 hown hK hP 1 rfl rfl 1 (by decide) hl_15 (fun _ h9 => h9) rfl dX2_notSo_37 ?_
          refine lv_iload hx hb dX2_notSo_40 (lv_at hl 5 rfl) ?_
          obtain ⟨i_5, hm⟩ := ck_ok hm
          refine va_iald hx hb hK hP 3 0 rfl rfl i_5 dX2_notSo_42 ?_
          refine lv_icmp_eq (tgt := 49) hx hb dX2_notSo_43 (by decide) (fun c_6 => ?_) (fun c_6 => ?_)
          · have hm := it_pos c_6 hm
            exact b_49 _ _ hm _ _ hP hD hS _ (lv_sub hl [1, 2, 3, 4, 5] rfl)
          · have hm := it_neg c_6 hm
            exact b_46 _ _ hm _ _ hP hD hS _ (lv_sub hl [1, 2, 3, 4, 5] rfl)
  unfold fH_notSo_S at hm
  refine lv_iconst (v := 0) hx hb dX2_notSo_0 (by decide) ?_
  refine lv_istore_n (lv' := [(3, .int 0), (0, .ref (ad 30)), (1, .ref (ad 25)), (2, .int a2)]) hx hb dX2_notSo_1 rfl hl (by decide) rfl (fun ls hl => ?_)
  refine lv_iconst (v := 0) hx hb dX2_notSo_2 (by decide) ?_
  refine lv_istore (lv' := [(4, .int 0), (3, .int 0), (0, .ref (ad 30)), (1, .ref (ad 25)), (2, .int a2)]) hx hb dX2_notSo_3 hl (by decide) rfl (fun ls hl => ?_)
  exact h_5 _ _ _ _ hm _ _ hP hD hS _ (lv_sub hl [2, 3, 4, 1, 0] rfl)

set_option maxHeartbeats 4000000 in
set_option maxRecDepth 100000 in
theorem kC_asleep (l : Launch) (dC : Nat → ClassId) (dI : Nat → Nat → Nat) (cA : ClassId) (ad : Nat → Nat) (qe : Nat) (sz : Nat) (a1 : Int32) (xHC_first : Int32) (xHC_second : Int32) (xHC_when : Int32) (xHC_ran : Int32) (xRow_depth : Int32) (xRow_length : Int32) (xRow_people : Int32) (xRow_scarves : Int32) (xRow_main : Int32) (xRow_faultPlace : Int32) (gRkinds : Nat → Int32) (gRlates : Nat → Int32) (gRhands : Nat → Int32) (gRslow : Nat → Int32) (xST_sleeper : Int32) (xST_lastDue : Int32) (xST_unreached : Int32) (gSTdue : Nat → Int32) (gSTbusy : Nat → Int32) (gSTfelt : Nat → Int32) (gSTlost : Nat → Int32) (gSTfirst : Nat → Int32) (xDia_size : Int32) (ne : Nat) (gDent : Nat → Int32) (xSU_sleeper : Int32) (xSU_lastDue : Int32) (xSU_unreached : Int32) (gSUdue : Nat → Int32) (gSUbusy : Nat → Int32) (gSUfelt : Nat → Int32) (gSUlost : Nat → Int32) (gSUfirst : Nat → Int32) (xSlp_known : Int32) (gStimes : Nat → Int32) (xHea_size : Int32) (gHwho : Nat → Int32) (gHtimes : Nat → Int32) (u : Int32 × Int32 × Int32 × Int32 × Int32 × (Nat → Int32) × (Nat → Int32) × (Nat → Int32) × (Nat → Int32) × (Nat → Int32) × Int32 × Nat × (Nat → Int32) × Int32 × Int32 × Int32 × (Nat → Int32) × (Nat → Int32) × (Nat → Int32) × (Nat → Int32) × (Nat → Int32) × Int32 × (Nat → Int32)) (hm : fC_asleep a1 xHC_first xHC_second xHC_when xHC_ran xRow_people gRkinds gRlates gRhands gRslow xST_sleeper xST_lastDue xST_unreached gSTdue gSTbusy gSTfelt gSTlost gSTfirst xDia_size ne gDent xSU_sleeper xSU_lastDue xSU_unreached gSUdue gSUbusy gSUfelt gSUlost gSUfirst xSlp_known gStimes xHea_size gHwho gHtimes = some u) : Met l yX9_asleep wsX9_asleep ({ frames := 5, cells := (u.2.2.2.2.2.2.2.2.2.2.2.1 - ne), slots := (2 * (u.2.2.2.2.2.2.2.2.2.2.2.1 - ne)), locals := 127 }) (va_Pc [.ref (ad 0), .int a1] (fun U => U.heap.size = sz ∧ va_P (dC, dI) vwCl [oHC ad xHC_first xHC_second xHC_when xHC_ran, oRow ad xRow_depth xRow_length xRow_people xRow_scarves xRow_main xRow_faultPlace, ar (ad 3) cA 20 gRkinds, ar (ad 4) cA 20 gRlates, ar (ad 5) cA 20 gRhands, ar (ad 6) cA 20 gRslow, oST ad xST_sleeper xST_lastDue xST_unreached, ar (ad 10) cA 640 gSTdue, ar (ad 11) cA 20 gSTbusy, ar (ad 12) cA 20 gSTfelt, ar (ad 13) cA 20 gSTlost, ar (ad 14) cA 20 gSTfirst, oDia ad qe xDia_size, ar qe cA ne gDent, oSU ad xSU_sleeper xSU_lastDue xSU_unreached, ar (ad 18) cA 640 gSUdue, ar (ad 19) cA 20 gSUbusy, ar (ad 20) cA 20 gSUfelt, ar (ad 21) cA 20 gSUlost, ar (ad 22) cA 20 gSUfirst, oSlp ad xSlp_known, ar (ad 25) cA 400 gStimes, oHea ad xHea_size, ar (ad 31) cA 12 gHwho, ar (ad 32) cA 12 gHtimes] U.heap ∧ va_K (dC, dI) vwCl [(cA, .int)] U ∧ va_D (fun _ => True) [oHC ad xHC_first xHC_second xHC_when xHC_ran, oRow ad xRow_depth xRow_length xRow_people xRow_scarves xRow_main xRow_faultPlace, ar (ad 3) cA 20 gRkinds, ar (ad 4) cA 20 gRlates, ar (ad 5) cA 20 gRhands, ar (ad 6) cA 20 gRslow, oST ad xST_sleeper xST_lastDue xST_unreached, ar (ad 10) cA 640 gSTdue, ar (ad 11) cA 20 gSTbusy, ar (ad 12) cA 20 gSTfelt, ar (ad 13) cA 20 gSTlost, ar (ad 14) cA 20 gSTfirst, oDia ad qe xDia_size, ar qe cA ne gDent, oSU ad xSU_sleeper xSU_lastDue xSU_unreached, ar (ad 18) cA 640 gSUdue, ar (ad 19) cA 20 gSUbusy, ar (ad 20) cA 20 gSUfelt, ar (ad 21) cA 20 gSUlost, ar (ad 22) cA 20 gSUfirst, oSlp ad xSlp_known, ar (ad 25) cA 400 gStimes, oHea ad xHea_size, ar (ad 31) cA 12 gHwho, ar (ad 32) cA 12 gHtimes])) (va_Qi (fun (r : Int32) (_ : Nat) => r = u.1) (fun (qe2 : Nat) t => va_P (dC, dI) vwCl [oHC ad xHC_first xHC_second xHC_when u.2.1, oRow ad xRow_depth xRow_length xRow_people xRow_scarves xRow_main xRow_faultPlace, ar (ad 3) cA 20 gRkinds, ar (ad 4) cA 20 gRlates, ar (ad 5) cA 20 gRhands, ar (ad 6) cA 20 gRslow, oST ad u.2.2.1 u.2.2.2.1 u.2.2.2.2.1, ar (ad 10) cA 640 u.2.2.2.2.2.1, ar (ad 11) cA 20 u.2.2.2.2.2.2.1, ar (ad 12) cA 20 u.2.2.2.2.2.2.2.1, ar (ad 13) cA 20 u.2.2.2.2.2.2.2.2.1, ar (ad 14) cA 20 u.2.2.2.2.2.2.2.2.2.1, oDia ad qe2 u.2.2.2.2.2.2.2.2.2.2.1, ar qe2 cA u.2.2.2.2.2.2.2.2.2.2.2.1 u.2.2.2.2.2.2.2.2.2.2.2.2.1, oSU ad u.2.2.2.2.2.2.2.2.2.2.2.2.2.1 u.2.2.2.2.2.2.2.2.2.2.2.2.2.2.1 u.2.2.2.2.2.2.2.2.2.2.2.2.2.2.2.1, ar (ad 18) cA 640 u.2.2.2.2.2.2.2.2.2.2.2.2.2.2.2.2.1, ar (ad 19) cA 20 u.2.2.2.2.2.2.2.2.2.2.2.2.2.2.2.2.2.1, ar (ad 20) cA 20 u.2.2.2.2.2.2.2.2.2.2.2.2.2.2.2.2.2.2.1, ar (ad 21) cA 20 u.2.2.2.2.2.2.2.2.2.2.2.2.2.2.2.2.2.2.2.1, ar (ad 22) cA 20 u.2.2.2.2.2.2.2.2.2.2.2.2.2.2.2.2.2.2.2.2.1, oSlp ad u.2.2.2.2.2.2.2.2.2.2.2.2.2.2.2.2.2.2.2.2.2.1, ar (ad 25) cA 400 u.2.2.2.2.2.2.2.2.2.2.2.2.2.2.2.2.2.2.2.2.2.2, oHea ad xHea_size, ar (ad 31) cA 12 gHwho, ar (ad 32) cA 12 gHtimes] t.heap ∧ va_K (dC, dI) vwCl [(cA, .int)] t ∧ va_D (va_A [oHC ad xHC_first xHC_second xHC_when xHC_ran, oRow ad xRow_depth xRow_length xRow_people xRow_scarves xRow_main xRow_faultPlace, ar (ad 3) cA 20 gRkinds, ar (ad 4) cA 20 gRlates, ar (ad 5) cA 20 gRhands, ar (ad 6) cA 20 gRslow, oST ad xST_sleeper xST_lastDue xST_unreached, ar (ad 10) cA 640 gSTdue, ar (ad 11) cA 20 gSTbusy, ar (ad 12) cA 20 gSTfelt, ar (ad 13) cA 20 gSTlost, ar (ad 14) cA 20 gSTfirst, oDia ad qe xDia_size, ar qe cA ne gDent, oSU ad xSU_sleeper xSU_lastDue xSU_unreached, ar (ad 18) cA 640 gSUdue, ar (ad 19) cA 20 gSUbusy, ar (ad 20) cA 20 gSUfelt, ar (ad 21) cA 20 gSUlost, ar (ad 22) cA 20 gSUfirst, oSlp ad xSlp_known, ar (ad 25) cA 400 gStimes, oHea ad xHea_size, ar (ad 31) cA 12 gHwho, ar (ad 32) cA 12 gHtimes] sz) [oHC ad xHC_first xHC_second xHC_when u.2.1, oRow ad xRow_depth xRow_length xRow_people xRow_scarves xRow_main xRow_faultPlace, ar (ad 3) cA 20 gRkinds, ar (ad 4) cA 20 gRlates, ar (ad 5) cA 20 gRhands, ar (ad 6) cA 20 gRslow, oST ad u.2.2.1 u.2.2.2.1 u.2.2.2.2.1, ar (ad 10) cA 640 u.2.2.2.2.2.1, ar (ad 11) cA 20 u.2.2.2.2.2.2.1, ar (ad 12) cA 20 u.2.2.2.2.2.2.2.1, ar (ad 13) cA 20 u.2.2.2.2.2.2.2.2.1, ar (ad 14) cA 20 u.2.2.2.2.2.2.2.2.2.1, oDia ad qe2 u.2.2.2.2.2.2.2.2.2.2.1, ar qe2 cA u.2.2.2.2.2.2.2.2.2.2.2.1 u.2.2.2.2.2.2.2.2.2.2.2.2.1, oSU ad u.2.2.2.2.2.2.2.2.2.2.2.2.2.1 u.2.2.2.2.2.2.2.2.2.2.2.2.2.2.1 u.2.2.2.2.2.2.2.2.2.2.2.2.2.2.2.1, ar (ad 18) cA 640 u.2.2.2.2.2.2.2.2.2.2.2.2.2.2.2.2.1, ar (ad 19) cA 20 u.2.2.2.2.2.2.2.2.2.2.2.2.2.2.2.2.2.1, ar (ad 20) cA 20 u.2.2.2.2.2.2.2.2.2.2.2.2.2.2.2.2.2.2.1, ar (ad 21) cA 20 u.2.2.2.2.2.2.2.2.2.2.2.2.2.2.2.2.2.2.2.1, ar (ad 22) cA 20 u.2.2.2.2.2.2.2.2.2.2.2.2.2.2.2.2.2.2.2.2.1, oSlp ad u.2.2.2.2.2.2.2.2.2.2.2.2.2.2.2.2.2.2.2.2.2.1, ar (ad 25) cA 400 u.2.2.2.2.2.2.2.2.2.2.2.2.2.2.2.2.2.2.2.2.2.2, oHea ad xHea_size, ar (ad 31) cA 12 gHwho, ar (ad 32) cA 12 gHtimes]) (va_A [oHC ad xHC_first xHC_second xHC_when xHC_ran, oRow ad xRow_depth xRow_length xRow_people xRow_scarves xRow_main xRow_faultPlace, ar (ad 3) cA 20 gRkinds, ar (ad 4) cA 20 gRlates, ar (ad 5) cA 20 gRhands, ar (ad 6) cA 20 gRslow, oST ad xST_sleeper xST_lastDue xST_unreached, ar (ad 10) cA 640 gSTdue, ar (ad 11) cA 20 gSTbusy, ar (ad 12) cA 20 gSTfelt, ar (ad 13) cA 20 gSTlost, ar (ad 14) cA 20 gSTfirst, oDia ad qe xDia_size, ar qe cA ne gDent, oSU ad xSU_sleeper xSU_lastDue xSU_unreached, ar (ad 18) cA 640 gSUdue, ar (ad 19) cA 20 gSUbusy, ar (ad 20) cA 20 gSUfelt, ar (ad 21) cA 20 gSUlost, ar (ad 22) cA 20 gSUfirst, oSlp ad xSlp_known, ar (ad 25) cA 400 gStimes, oHea ad xHea_size, ar (ad 31) cA 12 gHwho, ar (ad 32) cA 12 gHtimes] sz)) (u.2.2.2.2.2.2.2.2.2.2.2.1 - ne) (2 * (u.2.2.2.2.2.2.2.2.2.2.2.1 - ne)) (va_A [oHC ad xHC_first xHC_second xHC_when xHC_ran, oRow ad xRow_depth xRow_length xRow_people xRow_scarves xRow_main xRow_faultPlace, ar (ad 3) cA 20 gRkinds, ar (ad 4) cA 20 gRlates, ar (ad 5) cA 20 gRhands, ar (ad 6) cA 20 gRslow, oST ad xST_sleeper xST_lastDue xST_unreached, ar (ad 10) cA 640 gSTdue, ar (ad 11) cA 20 gSTbusy, ar (ad 12) cA 20 gSTfelt, ar (ad 13) cA 20 gSTlost, ar (ad 14) cA 20 gSTfirst, oDia ad qe xDia_size, ar qe cA ne gDent, oSU ad xSU_sleeper xSU_lastDue xSU_unreached, ar (ad 18) cA 640 gSUdue, ar (ad 19) cA 20 gSUbusy, ar (ad 20) cA 20 gSUfelt, ar (ad 21) cA 20 gSUlost, ar (ad 22) cA 20 gSUfirst, oSlp ad xSlp_known, ar (ad 25) cA 400 gStimes, oHea ad xHea_size, ar (ad 31) cA 12 gHwho, ar (ad 32) cA 12 gHtimes] sz) := by
  refine Met.ofW (cc := cX9_asleep) (maxL := 4) (ret := (some .int)) (by decide) rfl ?_
  intro p e s m args below meth c s₁ B hml hv
  obtain ⟨rfl, hsz, hP, hK, hD0⟩ := hv
  have hx := B.exec
  have hb := B.bytes
  have hr := B.returns
  have hts := atoms_spec (ws := wsX9_asleep) B.pre
  have hown : s.vm.findClass RX9 = some m.cls := findClass_of_methodNamed B.named
  have hlocks := B.notSynchronized
  subst hsz
  have hD := hD0.self (sz := s.heap.size)
  generalize hAe : va_A [oHC ad xHC_first xHC_second xHC_when xHC_ran, oRow ad xRow_depth xRow_length xRow_people xRow_scarves xRow_main xRow_faultPlace, ar (ad 3) cA 20 gRkinds, ar (ad 4) cA 20 gRlates, ar (ad 5) cA 20 gRhands, ar (ad 6) cA 20 gRslow, oST ad xST_sleeper xST_lastDue xST_unreached, ar (ad 10) cA 640 gSTdue, ar (ad 11) cA 20 gSTbusy, ar (ad 12) cA 20 gSTfelt, ar (ad 13) cA 20 gSTlost, ar (ad 14) cA 20 gSTfirst, oDia ad qe xDia_size, ar qe cA ne gDent, oSU ad xSU_sleeper xSU_lastDue xSU_unreached, ar (ad 18) cA 640 gSUdue, ar (ad 19) cA 20 gSUbusy, ar (ad 20) cA 20 gSUfelt, ar (ad 21) cA 20 gSUlost, ar (ad 22) cA 20 gSUfirst, oSlp ad xSlp_known, ar (ad 25) cA 400 gStimes, oHea ad xHea_size, ar (ad 31) cA 12 gHwho, ar (ad 32) cA 12 gHtimes] s.heap.size = A at hD ⊢
  have hA : ∀ q : Nat, s.heap.size ≤ q → A q := fun q h => by rw [← hAe]; exact Or.inr h
  have hS : va_S A s.heap s.heap [] := va_S.rf
  have hl := lv_entry ([.ref (ad 0), .int a1]) (n := 4) (Nat.le_of_ble_eq_true rfl)
  rw [lg_entry_eq]
  generalize (lg_sl ([.ref (ad 0), .int a1]) ++ List.replicate (4 - (lg_sl ([.ref (ad 0), .int a1])).length) Slot.unset).toArray = ls at hl ⊢
  have hl : lv_has ls 4 [(0, .ref (ad 0)), (1, .int a1)] := hl
  refine wk_Q (fun QQ hQ => ?_)
  have hinX9 : ∀ w ∈ wsX90, w ∈ wsX9_asleep := fun w h => List.mem_cons_of_mem _ (inlX9 w h)
  have hl_10 := hts (.fieldLink RX9 10 "HandCensus" "row" "LHandCensus$Row;") (List.mem_cons_of_mem _ (in_r1 _ (List.mem_of_getElem? (i := 15) rfl)))
  have hinX5 : ∀ w ∈ wsX50, w ∈ wsX9_asleep := fun w h => List.mem_cons_of_mem _ (inlX5 w h)
  have hl_233 := hts (.fieldLink RX9 233 "HandCensus$Row" "people" "I") (List.mem_cons_of_mem _ (in_r13 _ (List.mem_of_getElem? (i := 9) rfl)))
  have hl_54 := hts (.fieldLink RX9 54 "HandCensus" "hearsay" "LHandCensus$Hearsay;") (List.mem_cons_of_mem _ (in_r2 _ (List.mem_of_getElem? (i := 14) rfl)))
  have hl_40 := hts (.fieldLink RX9 40 "HandCensus" "sleepers" "LHandCensus$Sleepers;") (List.mem_cons_of_mem _ (in_r2 _ (List.mem_of_getElem? (i := 6) rfl)))
  have hinX7 : ∀ w ∈ wsX70, w ∈ wsX9_asleep := fun w h => List.mem_cons_of_mem _ (inlX7 w h)
  have hl_236 := hts (.fieldLink RX9 236 "HandCensus$Sleepers" "times" "[I") (List.mem_cons_of_mem _ (in_r35 _ (List.mem_of_getElem? (i := 14) rfl)))
  have hl_72 := hts (.fieldLink RX9 72 "HandCensus" "first" "I") (List.mem_cons_of_mem _ (in_r2 _ (List.mem_of_getElem? (i := 23) rfl)))
  have hl_76 := hts (.fieldLink RX9 76 "HandCensus" "second" "I") (List.mem_cons_of_mem _ (in_r3 _ (List.mem_of_getElem? (i := 0) rfl)))
  have hl_79 := hts (.fieldLink RX9 79 "HandCensus" "when" "I") (List.mem_cons_of_mem _ (in_r3 _ (List.mem_of_getElem? (i := 1) rfl)))
  have hinX8 : ∀ w ∈ wsX80, w ∈ wsX9_asleep := fun w h => List.mem_cons_of_mem _ (inlX8 w h)
  have hl_154 := hts (.fieldLink RX9 154 "HandCensus$Squeeze" "firstAt" "[I") (List.mem_cons_of_mem _ (in_r24 _ (List.mem_of_getElem? (i := 11) rfl)))
  have h_64 : ∀ (xHC_ran_64 : Int32) (xST_sleeper_64 : Int32) (xST_lastDue_64 : Int32) (xST_unreached_64 : Int32) (gSTdue_64 : Nat → Int32) (gSTbusy_64 : Nat → Int32) (gSTfelt_64 : Nat → Int32) (gSTlost_64 : Nat → Int32) (gSTfirst_64 : Nat → Int32) (xDia_size_64 : Int32) (ne_64 : Nat) (gDent_64 : Nat → Int32) (xSU_sleeper_64 : Int32) (xSU_lastDue_64 : Int32) (xSU_unreached_64 : Int32) (gSUdue_64 : Nat → Int32) (gSUbusy_64 : Nat → Int32) (gSUfelt_64 : Nat → Int32) (gSUlost_64 : Nat → Int32) (gSUfirst_64 : Nat → Int32) (xSlp_known_64 : Int32) (gStimes_64 : Nat → Int32), ∀ (n_64 : Nat), ∀ (v2_64 : Int32) (v3_64 : Int32), fC_asleep_64 xHC_ran_64 xRow_people xST_sleeper_64 xST_lastDue_64 xST_unreached_64 gSTdue_64 gSTbusy_64 gSTfelt_64 gSTlost_64 gSTfirst_64 xDia_size_64 ne_64 gDent_64 xSU_sleeper_64 xSU_lastDue_64 xSU_unreached_64 gSUdue_64 gSUbusy_64 gSUfelt_64 gSUlost_64 gSUfirst_64 xSlp_known_64 gStimes_64 xHea_size gHwho gHtimes n_64 v2_64 v3_64 = some u → ∀ (qe_64 : Nat) (H : Heap) (locs : List Loc), ne ≤ ne_64 → ne_64 ≤ u.2.2.2.2.2.2.2.2.2.2.2.1 → va_P (dC, dI) vwCl [oHC ad xHC_first xHC_second xHC_when xHC_ran_64, oRow ad xRow_depth xRow_length xRow_people xRow_scarves xRow_main xRow_faultPlace, ar (ad 3) cA 20 gRkinds, ar (ad 4) cA 20 gRlates, ar (ad 5) cA 20 gRhands, ar (ad 6) cA 20 gRslow, oST ad xST_sleeper_64 xST_lastDue_64 xST_unreached_64, ar (ad 10) cA 640 gSTdue_64, ar (ad 11) cA 20 gSTbusy_64, ar (ad 12) cA 20 gSTfelt_64, ar (ad 13) cA 20 gSTlost_64, ar (ad 14) cA 20 gSTfirst_64, oDia ad qe_64 xDia_size_64, ar qe_64 cA ne_64 gDent_64, oSU ad xSU_sleeper_64 xSU_lastDue_64 xSU_unreached_64, ar (ad 18) cA 640 gSUdue_64, ar (ad 19) cA 20 gSUbusy_64, ar (ad 20) cA 20 gSUfelt_64, ar (ad 21) cA 20 gSUlost_64, ar (ad 22) cA 20 gSUfirst_64, oSlp ad xSlp_known_64, ar (ad 25) cA 400 gStimes_64, oHea ad xHea_size, ar (ad 31) cA 12 gHwho, ar (ad 32) cA 12 gHtimes] H → va_D A [oHC ad xHC_first xHC_second xHC_when xHC_ran_64, oRow ad xRow_depth xRow_length xRow_people xRow_scarves xRow_main xRow_faultPlace, ar (ad 3) cA 20 gRkinds, ar (ad 4) cA 20 gRlates, ar (ad 5) cA 20 gRhands, ar (ad 6) cA 20 gRslow, oST ad xST_sleeper_64 xST_lastDue_64 xST_unreached_64, ar (ad 10) cA 640 gSTdue_64, ar (ad 11) cA 20 gSTbusy_64, ar (ad 12) cA 20 gSTfelt_64, ar (ad 13) cA 20 gSTlost_64, ar (ad 14) cA 20 gSTfirst_64, oDia ad qe_64 xDia_size_64, ar qe_64 cA ne_64 gDent_64, oSU ad xSU_sleeper_64 xSU_lastDue_64 xSU_unreached_64, ar (ad 18) cA 640 gSUdue_64, ar (ad 19) cA 20 gSUbusy_64, ar (ad 20) cA 20 gSUfelt_64, ar (ad 21) cA 20 gSUlost_64, ar (ad 22) cA 20 gSUfirst_64, oSlp ad xSlp_known_64, ar (ad 25) cA 400 gStimes_64, oHea ad xHea_size, ar (ad 31) cA 12 gHwho, ar (ad 32) cA 12 gHtimes] → va_S A s.heap H locs → ∀ ls : Array Slot, lv_has ls 4 [(0, .ref (ad 0)), (2, .int v2_64), (3, .int v3_64)] → W p l e (headSpec wsX9_asleep ({ frames := 5, cells := (u.2.2.2.2.2.2.2.2.2.2.2.1 - ne), slots := (2 * (u.2.2.2.2.2.2.2.2.2.2.2.1 - ne)), locals := 127 })).room s m ([.ref (ad 0), .int a1] : List Value).toArray below meth c H locs (ne_64 - ne) (2 * (ne_64 - ne)) QQ (F0 m 64 ls []) := by
    intro xHC_ran_64 xST_sleeper_64 xST_lastDue_64 xST_unreached_64 gSTdue_64 gSTbusy_64 gSTfelt_64 gSTlost_64 gSTfirst_64 xDia_size_64 ne_64 gDent_64 xSU_sleeper_64 xSU_lastDue_64 xSU_unreached_64 gSUdue_64 gSUbusy_64 gSUfelt_64 gSUlost_64 gSUfirst_64 xSlp_known_64 gStimes_64
    intro n_64
    induction n_64 with
    | zero => intro v2_64 v3_64 hm; have hm : (none : Option (Int32 × Int32 × Int32 × Int32 × Int32 × (Nat → Int32) × (Nat → Int32) × (Nat → Int32) × (Nat → Int32) × (Nat → Int32) × Int32 × Nat × (Nat → Int32) × Int32 × Int32 × Int32 × (Nat → Int32) × (Nat → Int32) × (Nat → Int32) × (Nat → Int32) × (Nat → Int32) × Int32 × (Nat → Int32))) = some u := hm; cases hm
    | succ n_64 ih_64 =>
      have b_102 : ∀ (v2_102 : Int32) (v3_102 : Int32), fC_asleep_102 (fC_asleep_64  xHC_ran_64 xRow_people xST_sleeper_64 xST_lastDue_64 xST_unreached_64 gSTdue_64 gSTbusy_64 gSTfelt_64 gSTlost_64 gSTfirst_64 xDia_size_64 ne_64 gDent_64 xSU_sleeper_64 xSU_lastDue_64 xSU_unreached_64 gSUdue_64 gSUbusy_64 gSUfelt_64 gSUlost_64 gSUfirst_64 xSlp_known_64 gStimes_64 xHea_size gHwho gHtimes n_64) v2_102 v3_102 xHC_ran_64 xRow_people xST_sleeper_64 xST_lastDue_64 xST_unreached_64 gSTdue_64 gSTbusy_64 gSTfelt_64 gSTlost_64 gSTfirst_64 xDia_size_64 ne_64 gDent_64 xSU_sleeper_64 xSU_lastDue_64 xSU_unreached_64 gSUdue_64 gSUbusy_64 gSUfelt_64 gSUlost_64 gSUfirst_64 xSlp_known_64 gStimes_64 xHea_size gHwho gHtimes = some u → ∀ (qe_102 : Nat) (H : Heap) (locs : List Loc), ne ≤ ne_64 → ne_64 ≤ u.2.2.2.2.2.2.2.2.2.2.2.1 → va_P (dC, dI) vwCl [oHC ad xHC_first xHC_second xHC_when xHC_ran_64, oRow ad xRow_depth xRow_length xRow_people xRow_scarves xRow_main xRow_faultPlace, ar (ad 3) cA 20 gRkinds, ar (ad 4) cA 20 gRlates, ar (ad 5) cA 20 gRhands, ar (ad 6) cA 20 gRslow, oST ad xST_sleeper_64 xST_lastDue_64 xST_unreached_64, ar (ad 10) cA 640 gSTdue_64, ar (ad 11) cA 20 gSTbusy_64, ar (ad 12) cA 20 gSTfelt_64, ar (ad 13) cA 20 gSTlost_64, ar (ad 14) cA 20 gSTfirst_64, oDia ad qe_102 xDia_size_64, ar qe_102 cA ne_64 gDent_64, oSU ad xSU_sleeper_64 xSU_lastDue_64 xSU_unreached_64, ar (ad 18) cA 640 gSUdue_64, ar (ad 19) cA 20 gSUbusy_64, ar (ad 20) cA 20 gSUfelt_64, ar (ad 21) cA 20 gSUlost_64, ar (ad 22) cA 20 gSUfirst_64, oSlp ad xSlp_known_64, ar (ad 25) cA 400 gStimes_64, oHea ad xHea_size, ar (ad 31) cA 12 gHwho, ar (ad 32) cA 12 gHtimes] H → va_D A [oHC ad xHC_first xHC_second xHC_when xHC_ran_64, oRow ad xRow_depth xRow_length xRow_people xRow_scarves xRow_main xRow_faultPlace, ar (ad 3) cA 20 gRkinds, ar (ad 4) cA 20 gRlates, ar (ad 5) cA 20 gRhands, ar (ad 6) cA 20 gRslow, oST ad xST_sleeper_64 xST_lastDue_64 xST_unreached_64, ar (ad 10) cA 640 gSTdue_64, ar (ad 11) cA 20 gSTbusy_64, ar (ad 12) cA 20 gSTfelt_64, ar (ad 13) cA 20 gSTlost_64, ar (ad 14) cA 20 gSTfirst_64, oDia ad qe_102 xDia_size_64, ar qe_102 cA ne_64 gDent_64, oSU ad xSU_sleeper_64 xSU_lastDue_64 xSU_unreached_64, ar (ad 18) cA 640 gSUdue_64, ar (ad 19) cA 20 gSUbusy_64, ar (ad 20) cA 20 gSUfelt_64, ar (ad 21) cA 20 gSUlost_64, ar (ad 22) cA 20 gSUfirst_64, oSlp ad xSlp_known_64, ar (ad 25) cA 400 gStimes_64, oHea ad xHea_size, ar (ad 31) cA 12 gHwho, ar (ad 32) cA 12 gHtimes] → va_S A s.heap H locs → ∀ ls : Array Slot, lv_has ls 4 [(0, .ref (ad 0)), (2, .int v2_102), (3, .int v3_102)] → W p l e (headSpec wsX9_asleep ({ frames := 5, cells := (u.2.2.2.2.2.2.2.2.2.2.2.1 - ne), slots := (2 * (u.2.2.2.2.2.2.2.2.2.2.2.1 - ne)), locals := 127 })).room s m ([.ref (ad 0), .int a1] : List Value).toArray below meth c H locs (ne_64 - ne) (2 * (ne_64 - ne)) QQ (F0 m 102 ls []) := by
        intro v2_102 v3_102 hm qe_102 H locs hne hnu hP hD hS ls hl
        unfold fC_asleep_102 at hm
        refine lv_iinc (v := (v3_102 + 1)) (lv' := [(3, .int (v3_102 + 1)), (0, .ref (ad 0)), (2, .int v2_102)]) hx hb dX9_asleep_102 hl (k := 2) rfl rfl (by decide) rfl (fun ls hl => ?_)
        refine lv_goto (tgt := 64) hx hb dX9_asleep_105 (by decide) ?_
        refine W.widen (k := ne_64 - ne) (n := 2 * (ne_64 - ne)) (by first | exact Nat.le_refl _ | omega) (by first | exact Nat.le_refl _ | omega) ?_
        exact ih_64 _ _ hm _ _ _ (by omega) (by omega) hP hD hS _ (lv_sub hl [1, 2, 0] rfl)
      intro v2_64 v3_64 hm qe_64 H locs hne hnu hP hD hS ls hl
      have hm : fC_asleep_64_b  (fC_asleep_64  xHC_ran_64 xRow_people xST_sleeper_64 xST_lastDue_64 xST_unreached_64 gSTdue_64 gSTbusy_64 gSTfelt_64 gSTlost_64 gSTfirst_64 xDia_size_64 ne_64 gDent_64 xSU_sleeper_64 xSU_lastDue_64 xSU_unreached_64 gSUdue_64 gSUbusy_64 gSUfelt_64 gSUlost_64 gSUfirst_64 xSlp_known_64 gStimes_64 xHea_size gHwho gHtimes n_64) xHC_ran_64 xRow_people xST_sleeper_64 xST_lastDue_64 xST_unreached_64 gSTdue_64 gSTbusy_64 gSTfelt_64 gSTlost_64 gSTfirst_64 xDia_size_64 ne_64 gDent_64 xSU_sleeper_64 xSU_lastDue_64 xSU_unreached_64 gSUdue_64 gSUbusy_64 gSUfelt_64 gSUlost_64 gSUfirst_64 xSlp_known_64 gStimes_64 xHea_size gHwho gHtimes v2_64 v3_64 = some u := hm
      unfold fC_asleep_64_b at hm
      refine lv_iload_n hx hb dX9_asleep_64 rfl (lv_at hl 2 rfl) ?_
      refine lv_aload_n hx hb dX9_asleep_65 rfl (lv_at hl 0 rfl) ?_
      refine va_get (D := (dC, dI)) (ci := 9) (v := .ref (ad 1)) (C := RX9) (T := TX9) (N := 12) hx hb hts hinX9 hown hK hP 0 rfl rfl 0 (by decide) hl_10 (fun _ h9 => h9) rfl dX9_asleep_66 ?_
      refine va_get (D := (dC, dI)) (ci := 5) (v := .int xRow_people) (C := RX5) (T := TX5) (N := 13) hx hb hts hinX5 hown hK hP 1 rfl rfl 9 (by decide) hl_233 (fun _ h9 => h9) rfl dX9_asleep_69 ?_
      refine lv_icmp_ge (tgt := 108) hx hb dX9_asleep_72 (by decide) (fun c_1 => ?_) (fun c_1 => ?_)
      · have hm := it_pos c_1 hm
        refine lv_iload_n hx hb dX9_asleep_108 rfl (lv_at hl 1 rfl) ?_
        obtain rfl := Option.some.inj hm
        subst hQ
        refine W.widen (k := ne_64 - ne) (n := 2 * (ne_64 - ne)) (by first | exact Nat.le_refl _ | omega) (by first | exact Nat.le_refl _ | omega) ?_
        exact W.iret (v := v2_64) hx hb hr (fun t ht hW => ⟨⟨_, qe_64, rfl, rfl, by rw [ht]; exact hP, va_K.moved hW.alike hK, hAe ▸ hD⟩, hS.F ht⟩) hS.2.2 dX9_asleep_109
      · have hm := it_neg c_1 hm
        refine lv_aload_n hx hb dX9_asleep_75 rfl (lv_at hl 0 rfl) ?_
        refine va_get (D := (dC, dI)) (ci := 9) (v := .ref (ad 30)) (C := RX9) (T := TX9) (N := 12) hx hb hts hinX9 hown hK hP 0 rfl rfl 5 (by decide) hl_54 (fun _ h9 => h9) rfl dX9_asleep_76 ?_
        refine lv_aload_n hx hb dX9_asleep_79 rfl (lv_at hl 0 rfl) ?_
        refine va_get (D := (dC, dI)) (ci := 9) (v := .ref (ad 24)) (C := RX9) (T := TX9) (N := 12) hx hb hts hinX9 hown hK hP 0 rfl rfl 3 (by decide) hl_40 (fun _ h9 => h9) rfl dX9_asleep_80 ?_
        refine va_get (D := (dC, dI)) (ci := 7) (v := .ref (ad 25)) (C := RX7) (T := TX7) (N := 4) hx hb hts hinX7 hown hK hP 20 rfl rfl 2 (by decide) hl_236 (fun _ h9 => h9) rfl dX9_asleep_83 ?_
        refine lv_iload_n hx hb dX9_asleep_86 rfl (lv_at hl 2 rfl) ?_
        refine lv_bipush (v := 20) hx hb dX9_asleep_87 (by decide) ?_
        refine lv_imul hx hb dX9_asleep_89 ?_
        have hPc := hP.sub (ws' := [ar (ad 25) cA 400 gStimes_64, oHea ad xHea_size, ar (ad 31) cA 12 gHwho, ar (ad 32) cA 12 gHtimes]) [21, 22, 23, 24] rfl
        have hDc := hD.sub (ws' := [ar (ad 25) cA 400 gStimes_64, oHea ad xHea_size, ar (ad 31) cA 12 gHwho, ar (ad 32) cA 12 gHtimes]) [21, 22, 23, 24] (by decide) rfl
        have hFc := va_free (wc := [ar (ad 25) cA 400 gStimes_64, oHea ad xHea_size, ar (ad 31) cA 12 gHwho, ar (ad 32) cA 12 gHtimes]) hD hS hA [21, 22, 23, 24] rfl
        obtain ⟨u_2, hc_2, hm⟩ := bd_ok hm
        refine va_calli (va_runV (As := [.ref (ad 25), .int (v3_64 * 20)]) (rest := []) ⟨hx, hb, hml, hown, hts⟩ (kH_notSo_S l dC dI cA ad H.size (v3_64 * 20) gStimes_64 xHea_size gHwho gHtimes u_2 hc_2) (cwV 2 hts gX9_asleep_X2_notSo rfl rfl rfl (by decide +kernel) ⟨Nat.le_of_ble_eq_true rfl, Nat.le_of_ble_eq_true rfl⟩) ⟨fun a U g mk q => by obtain ⟨q0, q1, qP, qK, qD⟩ := q; exact ⟨q0, q1, qP, va_K.moved (u := U) (U := U.calling g mk a) (Vm.Alike.refl U.vm) qK, qD⟩, va_recv hK hPc (ci := 2) (q0 := 1) rfl rfl, fun U hU hW => ⟨rfl, by rw [hU], by rw [hU]; exact hPc, va_K.moved hW.alike hK, hDc.weaken (fun _ _ _ _ => trivial)⟩⟩ rfl rfl hl.1 rfl (lv_room (Nat.le_of_ble_eq_true rfl)) dX9_asleep_90 ⟨by (show _ ≤ _ - _); omega, by (show _ ≤ 2 * (_ - _)); omega⟩) hS (fun q _ h => hFc q h) hFc (fun r_2 _ t H1 locs ht hvm hw hB hz1 hk1 hS => ?_)
        obtain ⟨hP1, hK1, hD1⟩ := hB
        rw [ht] at hP1
        obtain ⟨hP, hD⟩ := va_join (wr := [oHC ad xHC_first xHC_second xHC_when xHC_ran_64, oRow ad xRow_depth xRow_length xRow_people xRow_scarves xRow_main xRow_faultPlace, ar (ad 3) cA 20 gRkinds, ar (ad 4) cA 20 gRlates, ar (ad 5) cA 20 gRhands, ar (ad 6) cA 20 gRslow, oST ad xST_sleeper_64 xST_lastDue_64 xST_unreached_64, ar (ad 10) cA 640 gSTdue_64, ar (ad 11) cA 20 gSTbusy_64, ar (ad 12) cA 20 gSTfelt_64, ar (ad 13) cA 20 gSTlost_64, ar (ad 14) cA 20 gSTfirst_64, oDia ad qe_64 xDia_size_64, ar qe_64 cA ne_64 gDent_64, oSU ad xSU_sleeper_64 xSU_lastDue_64 xSU_unreached_64, ar (ad 18) cA 640 gSUdue_64, ar (ad 19) cA 20 gSUbusy_64, ar (ad 20) cA 20 gSUfelt_64, ar (ad 21) cA 20 gSUlost_64, ar (ad 22) cA 20 gSUfirst_64, oSlp ad xSlp_known_64]) (w1 := [ar (ad 25) cA 400 gStimes_64, oHea ad xHea_size, ar (ad 31) cA 12 gHwho, ar (ad 32) cA 12 gHtimes]) hP hD [21, 22, 23, 24] [0, 1, 2, 3, 4, 5, 6, 7, 8, 9, 10, 11, 12, 13, 14, 15, 16, 17, 18, 19, 20] rfl rfl (by decide) (by decide) hk1 hFc hP1 hD1
        clear hPc hDc hFc hP1 hK1 hD1 hk1 hz1 hvm ht
        generalize H1 = H at hP hS ⊢
        have hP : va_P (dC, dI) vwCl [oHC ad xHC_first xHC_second xHC_when xHC_ran_64, oRow ad xRow_depth xRow_length xRow_people xRow_scarves xRow_main xRow_faultPlace, ar (ad 3) cA 20 gRkinds, ar (ad 4) cA 20 gRlates, ar (ad 5) cA 20 gRhands, ar (ad 6) cA 20 gRslow, oST ad xST_sleeper_64 xST_lastDue_64 xST_unreached_64, ar (ad 10) cA 640 gSTdue_64, ar (ad 11) cA 20 gSTbusy_64, ar (ad 12) cA 20 gSTfelt_64, ar (ad 13) cA 20 gSTlost_64, ar (ad 14) cA 20 gSTfirst_64, oDia ad qe_64 xDia_size_64, ar qe_64 cA ne_64 gDent_64, oSU ad xSU_sleeper_64 xSU_lastDue_64 xSU_unreached_64, ar (ad 18) cA 640 gSUdue_64, ar (ad 19) cA 20 gSUbusy_64, ar (ad 20) cA 20 gSUfelt_64, ar (ad 21) cA 20 gSUlost_64, ar (ad 22) cA 20 gSUfirst_64, oSlp ad xSlp_known_64, ar (ad 25) cA 400 gStimes_64, oHea ad xHea_size, ar (ad 31) cA 12 gHwho, ar (ad 32) cA 12 gHtimes] H := hP
        have hD : va_D A [oHC ad xHC_first xHC_second xHC_when xHC_ran_64, oRow ad xRow_depth xRow_length xRow_people xRow_scarves xRow_main xRow_faultPlace, ar (ad 3) cA 20 gRkinds, ar (ad 4) cA 20 gRlates, ar (ad 5) cA 20 gRhands, ar (ad 6) cA 20 gRslow, oST ad xST_sleeper_64 xST_lastDue_64 xST_unreached_64, ar (ad 10) cA 640 gSTdue_64, ar (ad 11) cA 20 gSTbusy_64, ar (ad 12) cA 20 gSTfelt_64, ar (ad 13) cA 20 gSTlost_64, ar (ad 14) cA 20 gSTfirst_64, oDia ad qe_64 xDia_size_64, ar qe_64 cA ne_64 gDent_64, oSU ad xSU_sleeper_64 xSU_lastDue_64 xSU_unreached_64, ar (ad 18) cA 640 gSUdue_64, ar (ad 19) cA 20 gSUbusy_64, ar (ad 20) cA 20 gSUfelt_64, ar (ad 21) cA 20 gSUlost_64, ar (ad 22) cA 20 gSUfirst_64, oSlp ad xSlp_known_64, ar (ad 25) cA 400 gStimes_64, oHea ad xHea_size, ar (ad 31) cA 12 gHwho, ar (ad 32) cA 12 gHtimes] := hD
        have hw := hw.symm
        subst hw
        refine lv_if_ne (tgt := 102) hx hb dX9_asleep_93 (by decide) (fun c_3 => ?_) (fun c_3 => ?_)
        · have hm := it_neg c_3 hm
          refine W.widen (k := ne_64 - ne) (n := 2 * (ne_64 - ne)) (by first | exact Nat.le_refl _ | omega) (by first | exact Nat.le_refl _ | omega) ?_
          exact b_102 _ _ hm _ _ _ (by omega) (by omega) hP hD hS _ (lv_sub hl [0, 1, 2] rfl)
        · have hm := it_pos c_3 hm
          refine lv_iload_n hx hb dX9_asleep_96 rfl (lv_at hl 1 rfl) ?_
          refine lv_iconst (v := 1) hx hb dX9_asleep_97 (by decide) ?_
          refine lv_iload_n hx hb dX9_asleep_98 rfl (lv_at hl 2 rfl) ?_
          refine lv_ishl hx hb dX9_asleep_99 ?_
          refine lv_ior hx hb dX9_asleep_100 ?_
          refine lv_istore_n (lv' := [(2, .int (v2_64 ||| (1 <<< (v3_64 &&& 31)))), (0, .ref (ad 0)), (3, .int v3_64)]) hx hb dX9_asleep_101 rfl hl (by decide) rfl (fun ls hl => ?_)
          refine W.widen (k := ne_64 - ne) (n := 2 * (ne_64 - ne)) (by first | exact Nat.le_refl _ | omega) (by first | exact Nat.le_refl _ | omega) ?_
          exact b_102 _ _ hm _ _ _ (by omega) (by omega) hP hD hS _ (lv_sub hl [1, 0, 2] rfl)
  unfold fC_asleep at hm
  obtain ⟨hz0, hm⟩ := mz_ok hm
  have hz0 : ne ≤ u.2.2.2.2.2.2.2.2.2.2.2.1 := hz0
  refine lv_iload_n hx hb dX9_asleep_0 rfl (lv_at hl 1 rfl) ?_
  refine lv_if_lt (tgt := 9) hx hb dX9_asleep_1 (by decide) (fun c_4 => ?_) (fun c_4 => ?_)
  · have hm := it_pos c_4 hm
    refine lv_bipush (v := (-2)) hx hb dX9_asleep_9 (by decide) ?_
    obtain rfl := Option.some.inj hm
    subst hQ
    refine W.widen (k := ne - ne) (n := 2 * (ne - ne)) (by first | exact Nat.le_refl _ | omega) (by first | exact Nat.le_refl _ | omega) ?_
    exact W.iret (v := (-2)) hx hb hr (fun t ht hW => ⟨⟨_, qe, rfl, rfl, by rw [ht]; exact hP, va_K.moved hW.alike hK, hAe ▸ hD⟩, hS.F ht⟩) hS.2.2 dX9_asleep_11
  · have hm := it_neg c_4 hm
    refine lv_iload_n hx hb dX9_asleep_4 rfl (lv_at hl 1 rfl) ?_
    refine lv_iconst (v := 1) hx hb dX9_asleep_5 (by decide) ?_
    refine lv_icmp_le (tgt := 12) hx hb dX9_asleep_6 (by decide) (fun c_5 => ?_) (fun c_5 => ?_)
    · have hm := it_pos c_5 hm
      refine lv_iload_n hx hb dX9_asleep_12 rfl (lv_at hl 1 rfl) ?_
      refine lv_iconst (v := 1) hx hb dX9_asleep_13 (by decide) ?_
      refine lv_icmp_ne (tgt := 41) hx hb dX9_asleep_14 (by decide) (fun c_6 => ?_) (fun c_6 => ?_)
      · have hm := it_neg c_6 hm
        refine lv_aload_n hx hb dX9_asleep_41 rfl (lv_at hl 0 rfl) ?_
        refine va_get (D := (dC, dI)) (ci := 9) (v := .ref (ad 24)) (C := RX9) (T := TX9) (N := 12) hx hb hts hinX9 hown hK hP 0 rfl rfl 3 (by decide) hl_40 (fun _ h9 => h9) rfl dX9_asleep_42 ?_
        refine lv_aload_n hx hb dX9_asleep_45 rfl (lv_at hl 0 rfl) ?_
        refine va_get (D := (dC, dI)) (ci := 9) (v := .int xHC_first) (C := RX9) (T := TX9) (N := 12) hx hb hts hinX9 hown hK hP 0 rfl rfl 8 (by decide) hl_72 (fun _ h9 => h9) rfl dX9_asleep_46 ?_
        refine lv_aload_n hx hb dX9_asleep_49 rfl (lv_at hl 0 rfl) ?_
        refine va_get (D := (dC, dI)) (ci := 9) (v := .int xHC_second) (C := RX9) (T := TX9) (N := 12) hx hb hts hinX9 hown hK hP 0 rfl rfl 9 (by decide) hl_76 (fun _ h9 => h9) rfl dX9_asleep_50 ?_
        refine lv_aload_n hx hb dX9_asleep_53 rfl (lv_at hl 0 rfl) ?_
        refine va_get (D := (dC, dI)) (ci := 9) (v := .int xHC_when) (C := RX9) (T := TX9) (N := 12) hx hb hts hinX9 hown hK hP 0 rfl rfl 10 (by decide) hl_79 (fun _ h9 => h9) rfl dX9_asleep_54 ?_
        have hPc := hP.sub (ws' := [oRow ad xRow_depth xRow_length xRow_people xRow_scarves xRow_main xRow_faultPlace, ar (ad 3) cA 20 gRkinds, ar (ad 4) cA 20 gRlates, ar (ad 5) cA 20 gRhands, ar (ad 6) cA 20 gRslow, oSU ad xSU_sleeper xSU_lastDue xSU_unreached, ar (ad 18) cA 640 gSUdue, ar (ad 19) cA 20 gSUbusy, ar (ad 20) cA 20 gSUfelt, ar (ad 21) cA 20 gSUlost, ar (ad 22) cA 20 gSUfirst, oSlp ad xSlp_known, ar (ad 25) cA 400 gStimes]) [1, 2, 3, 4, 5, 14, 15, 16, 17, 18, 19, 20, 21] rfl
        have hDc := hD.sub (ws' := [oRow ad xRow_depth xRow_length xRow_people xRow_scarves xRow_main xRow_faultPlace, ar (ad 3) cA 20 gRkinds, ar (ad 4) cA 20 gRlates, ar (ad 5) cA 20 gRhands, ar (ad 6) cA 20 gRslow, oSU ad xSU_sleeper xSU_lastDue xSU_unreached, ar (ad 18) cA 640 gSUdue, ar (ad 19) cA 20 gSUbusy, ar (ad 20) cA 20 gSUfelt, ar (ad 21) cA 20 gSUlost, ar (ad 22) cA 20 gSUfirst, oSlp ad xSlp_known, ar (ad 25) cA 400 gStimes]) [1, 2, 3, 4, 5, 14, 15, 16, 17, 18, 19, 20, 21] (by decide) rfl
        have hFc := va_free (wc := [oRow ad xRow_depth xRow_length xRow_people xRow_scarves xRow_main xRow_faultPlace, ar (ad 3) cA 20 gRkinds, ar (ad 4) cA 20 gRlates, ar (ad 5) cA 20 gRhands, ar (ad 6) cA 20 gRslow, oSU ad xSU_sleeper xSU_lastDue xSU_unreached, ar (ad 18) cA 640 gSUdue, ar (ad 19) cA 20 gSUbusy, ar (ad 20) cA 20 gSUfelt, ar (ad 21) cA 20 gSUlost, ar (ad 22) cA 20 gSUfirst, oSlp ad xSlp_known, ar (ad 25) cA 400 gStimes]) hD hS hA [1, 2, 3, 4, 5, 14, 15, 16, 17, 18, 19, 20, 21] rfl
        obtain ⟨u_7, hc_7, hm⟩ := bd_ok hm
        refine va_callv (va_runV (As := [.int xHC_first, .int xHC_second, .int xHC_when]) (rest := []) ⟨hx, hb, hml, hown, hts⟩ (kZ_findOut l dC dI cA ad s.heap.size xHC_first xHC_second xHC_when xRow_depth xRow_length xRow_people xRow_scarves xRow_main xRow_faultPlace gRkinds gRlates gRhands gRslow xSU_sleeper xSU_lastDue xSU_unreached gSUdue gSUbusy gSUfelt gSUlost gSUfirst xSlp_known gStimes u_7 hc_7) (cwV 3 hts gX9_asleep_X7_findOut rfl rfl rfl (by decide +kernel) ⟨Nat.le_of_ble_eq_true rfl, Nat.le_of_ble_eq_true rfl⟩) ⟨fun a U g mk q => by obtain ⟨q0, q1, qP, qK, qD⟩ := q; exact ⟨q0, q1, qP, va_K.moved (u := U) (U := U.calling g mk a) (Vm.Alike.refl U.vm) qK, qD⟩, va_recv hK hPc (ci := 7) (q0 := 11) rfl rfl, fun U hU hW => ⟨rfl, by rw [hU], by rw [hU]; exact hPc, va_K.moved hW.alike hK, hDc.weaken (fun _ _ _ _ => trivial)⟩⟩ rfl rfl hl.1 rfl (lv_room (Nat.le_of_ble_eq_true rfl)) dX9_asleep_57 ⟨by (show _ ≤ _ - _); omega, by (show _ ≤ 2 * (_ - _)); omega⟩) hS (fun q _ h => hFc q h) hFc (fun _ t H1 locs ht hvm hw hB hz1 hk1 hS => ?_)
        obtain ⟨hP1, hK1, hD1⟩ := hB
        rw [ht] at hP1
        obtain ⟨hP, hD⟩ := va_join (wr := [oHC ad xHC_first xHC_second xHC_when xHC_ran, oST ad xST_sleeper xST_lastDue xST_unreached, ar (ad 10) cA 640 gSTdue, ar (ad 11) cA 20 gSTbusy, ar (ad 12) cA 20 gSTfelt, ar (ad 13) cA 20 gSTlost, ar (ad 14) cA 20 gSTfirst, oDia ad qe xDia_size, ar qe cA ne gDent, oHea ad xHea_size, ar (ad 31) cA 12 gHwho, ar (ad 32) cA 12 gHtimes]) (w1 := [oRow ad xRow_depth xRow_length xRow_people xRow_scarves xRow_main xRow_faultPlace, ar (ad 3) cA 20 gRkinds, ar (ad 4) cA 20 gRlates, ar (ad 5) cA 20 gRhands, ar (ad 6) cA 20 gRslow, oSU ad u_7.1 u_7.2.1 u_7.2.2.1, ar (ad 18) cA 640 u_7.2.2.2.1, ar (ad 19) cA 20 u_7.2.2.2.2.1, ar (ad 20) cA 20 u_7.2.2.2.2.2.1, ar (ad 21) cA 20 u_7.2.2.2.2.2.2.1, ar (ad 22) cA 20 u_7.2.2.2.2.2.2.2.1, oSlp ad u_7.2.2.2.2.2.2.2.2.1, ar (ad 25) cA 400 u_7.2.2.2.2.2.2.2.2.2]) hP hD [1, 2, 3, 4, 5, 14, 15, 16, 17, 18, 19, 20, 21] [0, 6, 7, 8, 9, 10, 11, 12, 13, 22, 23, 24] rfl rfl (by decide) (by decide) hk1 hFc hP1 hD1
        clear hPc hDc hFc hP1 hK1 hD1 hk1 hz1 hvm ht
        generalize H1 = H at hP hS ⊢
        have hP : va_P (dC, dI) vwCl [oHC ad xHC_first xHC_second xHC_when xHC_ran, oRow ad xRow_depth xRow_length xRow_people xRow_scarves xRow_main xRow_faultPlace, ar (ad 3) cA 20 gRkinds, ar (ad 4) cA 20 gRlates, ar (ad 5) cA 20 gRhands, ar (ad 6) cA 20 gRslow, oST ad xST_sleeper xST_lastDue xST_unreached, ar (ad 10) cA 640 gSTdue, ar (ad 11) cA 20 gSTbusy, ar (ad 12) cA 20 gSTfelt, ar (ad 13) cA 20 gSTlost, ar (ad 14) cA 20 gSTfirst, oDia ad qe xDia_size, ar qe cA ne gDent, oSU ad u_7.1 u_7.2.1 u_7.2.2.1, ar (ad 18) cA 640 u_7.2.2.2.1, ar (ad 19) cA 20 u_7.2.2.2.2.1, ar (ad 20) cA 20 u_7.2.2.2.2.2.1, ar (ad 21) cA 20 u_7.2.2.2.2.2.2.1, ar (ad 22) cA 20 u_7.2.2.2.2.2.2.2.1, oSlp ad u_7.2.2.2.2.2.2.2.2.1, ar (ad 25) cA 400 u_7.2.2.2.2.2.2.2.2.2, oHea ad xHea_size, ar (ad 31) cA 12 gHwho, ar (ad 32) cA 12 gHtimes] H := hP.sub [0, 12, 13, 14, 15, 16, 1, 2, 3, 4, 5, 6, 7, 8, 17, 18, 19, 20, 21, 22, 23, 24, 9, 10, 11] rfl
        have hD : va_D A [oHC ad xHC_first xHC_second xHC_when xHC_ran, oRow ad xRow_depth xRow_length xRow_people xRow_scarves xRow_main xRow_faultPlace, ar (ad 3) cA 20 gRkinds, ar (ad 4) cA 20 gRlates, ar (ad 5) cA 20 gRhands, ar (ad 6) cA 20 gRslow, oST ad xST_sleeper xST_lastDue xST_unreached, ar (ad 10) cA 640 gSTdue, ar (ad 11) cA 20 gSTbusy, ar (ad 12) cA 20 gSTfelt, ar (ad 13) cA 20 gSTlost, ar (ad 14) cA 20 gSTfirst, oDia ad qe xDia_size, ar qe cA ne gDent, oSU ad u_7.1 u_7.2.1 u_7.2.2.1, ar (ad 18) cA 640 u_7.2.2.2.1, ar (ad 19) cA 20 u_7.2.2.2.2.1, ar (ad 20) cA 20 u_7.2.2.2.2.2.1, ar (ad 21) cA 20 u_7.2.2.2.2.2.2.1, ar (ad 22) cA 20 u_7.2.2.2.2.2.2.2.1, oSlp ad u_7.2.2.2.2.2.2.2.2.1, ar (ad 25) cA 400 u_7.2.2.2.2.2.2.2.2.2, oHea ad xHea_size, ar (ad 31) cA 12 gHwho, ar (ad 32) cA 12 gHtimes] := hD.sub [0, 12, 13, 14, 15, 16, 1, 2, 3, 4, 5, 6, 7, 8, 17, 18, 19, 20, 21, 22, 23, 24, 9, 10, 11] (by decide) rfl
        refine lv_iconst (v := 0) hx hb dX9_asleep_60 (by decide) ?_
        refine lv_istore_n (lv' := [(2, .int 0), (0, .ref (ad 0)), (1, .int a1)]) hx hb dX9_asleep_61 rfl hl (by decide) rfl (fun ls hl => ?_)
        refine lv_iconst (v := 0) hx hb dX9_asleep_62 (by decide) ?_
        refine lv_istore_n (lv' := [(3, .int 0), (2, .int 0), (0, .ref (ad 0)), (1, .int a1)]) hx hb dX9_asleep_63 rfl hl (by decide) rfl (fun ls hl => ?_)
        refine W.widen (k := ne - ne) (n := 2 * (ne - ne)) (by first | exact Nat.le_refl _ | omega) (by first | exact Nat.le_refl _ | omega) ?_
        exact h_64 _ _ _ _ _ _ _ _ _ _ _ _ _ _ _ _ _ _ _ _ _ _ _ _ _ hm _ _ _ (by omega) (by omega) hP hD hS _ (lv_sub hl [2, 1, 0] rfl)
      · have hm := it_pos c_6 hm
        refine lv_aload_n hx hb dX9_asleep_17 rfl (lv_at hl 0 rfl) ?_
        refine va_get (D := (dC, dI)) (ci := 9) (v := .ref (ad 30)) (C := RX9) (T := TX9) (N := 12) hx hb hts hinX9 hown hK hP 0 rfl rfl 5 (by decide) hl_54 (fun _ h9 => h9) rfl dX9_asleep_18 ?_
        refine lv_aload_n hx hb dX9_asleep_21 rfl (lv_at hl 0 rfl) ?_
        have hPc := hP.sub (ws' := [oHC ad xHC_first xHC_second xHC_when xHC_ran, oRow ad xRow_depth xRow_length xRow_people xRow_scarves xRow_main xRow_faultPlace, ar (ad 3) cA 20 gRkinds, ar (ad 4) cA 20 gRlates, ar (ad 5) cA 20 gRhands, ar (ad 6) cA 20 gRslow, oST ad xST_sleeper xST_lastDue xST_unreached, ar (ad 10) cA 640 gSTdue, ar (ad 11) cA 20 gSTbusy, ar (ad 12) cA 20 gSTfelt, ar (ad 13) cA 20 gSTlost, ar (ad 14) cA 20 gSTfirst, oDia ad qe xDia_size, ar qe cA ne gDent]) [0, 1, 2, 3, 4, 5, 6, 7, 8, 9, 10, 11, 12, 13] rfl
        have hDc := hD.sub (ws' := [oHC ad xHC_first xHC_second xHC_when xHC_ran, oRow ad xRow_depth xRow_length xRow_people xRow_scarves xRow_main xRow_faultPlace, ar (ad 3) cA 20 gRkinds, ar (ad 4) cA 20 gRlates, ar (ad 5) cA 20 gRhands, ar (ad 6) cA 20 gRslow, oST ad xST_sleeper xST_lastDue xST_unreached, ar (ad 10) cA 640 gSTdue, ar (ad 11) cA 20 gSTbusy, ar (ad 12) cA 20 gSTfelt, ar (ad 13) cA 20 gSTlost, ar (ad 14) cA 20 gSTfirst, oDia ad qe xDia_size, ar qe cA ne gDent]) [0, 1, 2, 3, 4, 5, 6, 7, 8, 9, 10, 11, 12, 13] (by decide) rfl
        have hFc := va_free (wc := [oHC ad xHC_first xHC_second xHC_when xHC_ran, oRow ad xRow_depth xRow_length xRow_people xRow_scarves xRow_main xRow_faultPlace, ar (ad 3) cA 20 gRkinds, ar (ad 4) cA 20 gRlates, ar (ad 5) cA 20 gRhands, ar (ad 6) cA 20 gRslow, oST ad xST_sleeper xST_lastDue xST_unreached, ar (ad 10) cA 640 gSTdue, ar (ad 11) cA 20 gSTbusy, ar (ad 12) cA 20 gSTfelt, ar (ad 13) cA 20 gSTlost, ar (ad 14) cA 20 gSTfirst, oDia ad qe xDia_size, ar qe cA ne gDent]) hD hS hA [0, 1, 2, 3, 4, 5, 6, 7, 8, 9, 10, 11, 12, 13] rfl
        obtain ⟨u_8, hc_8, hn1_8, hn2_8, hm⟩ := bm_ok hm
        have hn1_8 : ne ≤ u_8.2.2.2.2.2.2.2.2.2.2.1 := hn1_8
        have hn2_8 : u_8.2.2.2.2.2.2.2.2.2.2.1 ≤ u.2.2.2.2.2.2.2.2.2.2.2.1 := hn2_8
        refine va_callr (va_runV (As := []) (rest := [.ref (ad 30)]) ⟨hx, hb, hml, hown, hts⟩ (kC_asTold l dC dI cA ad qe s.heap.size xHC_first xHC_second xHC_when xHC_ran xRow_depth xRow_length xRow_people xRow_scarves xRow_main xRow_faultPlace gRkinds gRlates gRhands gRslow xST_sleeper xST_lastDue xST_unreached gSTdue gSTbusy gSTfelt gSTlost gSTfirst xDia_size ne gDent u_8 hc_8) (cwV 0 hts gX9_asleep_X9_asTold rfl rfl rfl (by decide +kernel) ⟨Nat.le_of_ble_eq_true rfl, Nat.le_of_ble_eq_true rfl⟩) ⟨fun a U g mk q => by obtain ⟨q0, q1, qP, qK, qD⟩ := q; exact ⟨q0, q1, qP, va_K.moved (u := U) (U := U.calling g mk a) (Vm.Alike.refl U.vm) qK, qD⟩, va_recv hK hPc (ci := 9) (q0 := 0) rfl rfl, fun U hU hW => ⟨rfl, by rw [hU], by rw [hU]; exact hPc, va_K.moved hW.alike hK, hDc.weaken (fun _ _ _ _ => trivial)⟩⟩ rfl rfl hl.1 rfl (lv_room (Nat.le_of_ble_eq_true rfl)) dX9_asleep_22 ⟨by (show _ ≤ _ - _); omega, by (show _ ≤ 2 * (_ - _)); omega⟩) hS (fun q _ h => hFc q h) hFc (fun qe_1008 ra_8 t H1 locs ht hvm hw hB hz1 hk1 hS => ?_)
        obtain ⟨hra_8, hP1, hK1, hD1⟩ := hB
        subst hra_8
        rw [ht] at hP1
        obtain ⟨hP, hD⟩ := va_join (wr := [oSU ad xSU_sleeper xSU_lastDue xSU_unreached, ar (ad 18) cA 640 gSUdue, ar (ad 19) cA 20 gSUbusy, ar (ad 20) cA 20 gSUfelt, ar (ad 21) cA 20 gSUlost, ar (ad 22) cA 20 gSUfirst, oSlp ad xSlp_known, ar (ad 25) cA 400 gStimes, oHea ad xHea_size, ar (ad 31) cA 12 gHwho, ar (ad 32) cA 12 gHtimes]) (w1 := [oHC ad xHC_first xHC_second xHC_when u_8.1, oRow ad xRow_depth xRow_length xRow_people xRow_scarves xRow_main xRow_faultPlace, ar (ad 3) cA 20 gRkinds, ar (ad 4) cA 20 gRlates, ar (ad 5) cA 20 gRhands, ar (ad 6) cA 20 gRslow, oST ad u_8.2.1 u_8.2.2.1 u_8.2.2.2.1, ar (ad 10) cA 640 u_8.2.2.2.2.1, ar (ad 11) cA 20 u_8.2.2.2.2.2.1, ar (ad 12) cA 20 u_8.2.2.2.2.2.2.1, ar (ad 13) cA 20 u_8.2.2.2.2.2.2.2.1, ar (ad 14) cA 20 u_8.2.2.2.2.2.2.2.2.1, oDia ad qe_1008 u_8.2.2.2.2.2.2.2.2.2.1, ar qe_1008 cA u_8.2.2.2.2.2.2.2.2.2.2.1 u_8.2.2.2.2.2.2.2.2.2.2.2]) hP hD [0, 1, 2, 3, 4, 5, 6, 7, 8, 9, 10, 11, 12, 13] [14, 15, 16, 17, 18, 19, 20, 21, 22, 23, 24] rfl rfl (by decide) (by decide) hk1 hFc hP1 hD1
        clear hPc hDc hFc hP1 hK1 hD1 hk1 hz1 hvm ht
        generalize H1 = H at hP hS ⊢
        have hP : va_P (dC, dI) vwCl [oHC ad xHC_first xHC_second xHC_when u_8.1, oRow ad xRow_depth xRow_length xRow_people xRow_scarves xRow_main xRow_faultPlace, ar (ad 3) cA 20 gRkinds, ar (ad 4) cA 20 gRlates, ar (ad 5) cA 20 gRhands, ar (ad 6) cA 20 gRslow, oST ad u_8.2.1 u_8.2.2.1 u_8.2.2.2.1, ar (ad 10) cA 640 u_8.2.2.2.2.1, ar (ad 11) cA 20 u_8.2.2.2.2.2.1, ar (ad 12) cA 20 u_8.2.2.2.2.2.2.1, ar (ad 13) cA 20 u_8.2.2.2.2.2.2.2.1, ar (ad 14) cA 20 u_8.2.2.2.2.2.2.2.2.1, oDia ad qe_1008 u_8.2.2.2.2.2.2.2.2.2.1, ar qe_1008 cA u_8.2.2.2.2.2.2.2.2.2.2.1 u_8.2.2.2.2.2.2.2.2.2.2.2, oSU ad xSU_sleeper xSU_lastDue xSU_unreached, ar (ad 18) cA 640 gSUdue, ar (ad 19) cA 20 gSUbusy, ar (ad 20) cA 20 gSUfelt, ar (ad 21) cA 20 gSUlost, ar (ad 22) cA 20 gSUfirst, oSlp ad xSlp_known, ar (ad 25) cA 400 gStimes, oHea ad xHea_size, ar (ad 31) cA 12 gHwho, ar (ad 32) cA 12 gHtimes] H := hP.sub [11, 12, 13, 14, 15, 16, 17, 18, 19, 20, 21, 22, 23, 24, 0, 1, 2, 3, 4, 5, 6, 7, 8, 9, 10] rfl
        have hD : va_D A [oHC ad xHC_first xHC_second xHC_when u_8.1, oRow ad xRow_depth xRow_length xRow_people xRow_scarves xRow_main xRow_faultPlace, ar (ad 3) cA 20 gRkinds, ar (ad 4) cA 20 gRlates, ar (ad 5) cA 20 gRhands, ar (ad 6) cA 20 gRslow, oST ad u_8.2.1 u_8.2.2.1 u_8.2.2.2.1, ar (ad 10) cA 640 u_8.2.2.2.2.1, ar (ad 11) cA 20 u_8.2.2.2.2.2.1, ar (ad 12) cA 20 u_8.2.2.2.2.2.2.1, ar (ad 13) cA 20 u_8.2.2.2.2.2.2.2.1, ar (ad 14) cA 20 u_8.2.2.2.2.2.2.2.2.1, oDia ad qe_1008 u_8.2.2.2.2.2.2.2.2.2.1, ar qe_1008 cA u_8.2.2.2.2.2.2.2.2.2.2.1 u_8.2.2.2.2.2.2.2.2.2.2.2, oSU ad xSU_sleeper xSU_lastDue xSU_unreached, ar (ad 18) cA 640 gSUdue, ar (ad 19) cA 20 gSUbusy, ar (ad 20) cA 20 gSUfelt, ar (ad 21) cA 20 gSUlost, ar (ad 22) cA 20 gSUfirst, oSlp ad xSlp_known, ar (ad 25) cA 400 gStimes, oHea ad xHea_size, ar (ad 31) cA 12 gHwho, ar (ad 32) cA 12 gHtimes] := hD.sub [11, 12, 13, 14, 15, 16, 17, 18, 19, 20, 21, 22, 23, 24, 0, 1, 2, 3, 4, 5, 6, 7, 8, 9, 10] (by decide) rfl
        refine W.widen (k := u_8.2.2.2.2.2.2.2.2.2.2.1 - ne) (n := 2 * (u_8.2.2.2.2.2.2.2.2.2.2.1 - ne)) (by omega) (by omega) ?_
        refine va_get (D := (dC, dI)) (ci := 8) (v := .ref (ad 14)) (C := RX8) (T := TX8) (N := 10) hx hb hts hinX8 hown hK hP 6 rfl rfl 6 (by decide) hl_154 (fun _ h9 => h9) rfl dX9_asleep_25 ?_
        refine lv_iconst (v := 0) hx hb dX9_asleep_28 (by decide) ?_
        have hPc := hP.sub (ws' := [ar (ad 14) cA 20 u_8.2.2.2.2.2.2.2.2.1, oHea ad xHea_size, ar (ad 31) cA 12 gHwho, ar (ad 32) cA 12 gHtimes]) [11, 22, 23, 24] rfl
        have hDc := hD.sub (ws' := [ar (ad 14) cA 20 u_8.2.2.2.2.2.2.2.2.1, oHea ad xHea_size, ar (ad 31) cA 12 gHwho, ar (ad 32) cA 12 gHtimes]) [11, 22, 23, 24] (by decide) rfl
        have hFc := va_free (wc := [ar (ad 14) cA 20 u_8.2.2.2.2.2.2.2.2.1, oHea ad xHea_size, ar (ad 31) cA 12 gHwho, ar (ad 32) cA 12 gHtimes]) hD hS hA [11, 22, 23, 24] rfl
        obtain ⟨u_9, hc_9, hm⟩ := bd_ok hm
        refine va_calli (va_runV (As := [.ref (ad 14), .int 0]) (rest := []) ⟨hx, hb, hml, hown, hts⟩ (kH_notSo_F l dC dI cA ad H.size 0 u_8.2.2.2.2.2.2.2.2.1 xHea_size gHwho gHtimes u_9 hc_9) (cwV 2 hts gX9_asleep_X2_notSo rfl rfl rfl (by decide +kernel) ⟨Nat.le_of_ble_eq_true rfl, Nat.le_of_ble_eq_true rfl⟩) ⟨fun a U g mk q => by obtain ⟨q0, q1, qP, qK, qD⟩ := q; exact ⟨q0, q1, qP, va_K.moved (u := U) (U := U.calling g mk a) (Vm.Alike.refl U.vm) qK, qD⟩, va_recv hK hPc (ci := 2) (q0 := 1) rfl rfl, fun U hU hW => ⟨rfl, by rw [hU], by rw [hU]; exact hPc, va_K.moved hW.alike hK, hDc.weaken (fun _ _ _ _ => trivial)⟩⟩ rfl rfl hl.1 rfl (lv_room (Nat.le_of_ble_eq_true rfl)) dX9_asleep_29 ⟨by (show _ ≤ _ - _); omega, by (show _ ≤ 2 * (_ - _)); omega⟩) hS (fun q _ h => hFc q h) hFc (fun r_9 _ t H1 locs ht hvm hw hB hz1 hk1 hS => ?_)
        obtain ⟨hP1, hK1, hD1⟩ := hB
        rw [ht] at hP1
        obtain ⟨hP, hD⟩ := va_join (wr := [oHC ad xHC_first xHC_second xHC_when u_8.1, oRow ad xRow_depth xRow_length xRow_people xRow_scarves xRow_main xRow_faultPlace, ar (ad 3) cA 20 gRkinds, ar (ad 4) cA 20 gRlates, ar (ad 5) cA 20 gRhands, ar (ad 6) cA 20 gRslow, oST ad u_8.2.1 u_8.2.2.1 u_8.2.2.2.1, ar (ad 10) cA 640 u_8.2.2.2.2.1, ar (ad 11) cA 20 u_8.2.2.2.2.2.1, ar (ad 12) cA 20 u_8.2.2.2.2.2.2.1, ar (ad 13) cA 20 u_8.2.2.2.2.2.2.2.1, oDia ad qe_1008 u_8.2.2.2.2.2.2.2.2.2.1, ar qe_1008 cA u_8.2.2.2.2.2.2.2.2.2.2.1 u_8.2.2.2.2.2.2.2.2.2.2.2, oSU ad xSU_sleeper xSU_lastDue xSU_unreached, ar (ad 18) cA 640 gSUdue, ar (ad 19) cA 20 gSUbusy, ar (ad 20) cA 20 gSUfelt, ar (ad 21) cA 20 gSUlost, ar (ad 22) cA 20 gSUfirst, oSlp ad xSlp_known, ar (ad 25) cA 400 gStimes]) (w1 := [ar (ad 14) cA 20 u_8.2.2.2.2.2.2.2.2.1, oHea ad xHea_size, ar (ad 31) cA 12 gHwho, ar (ad 32) cA 12 gHtimes]) hP hD [11, 22, 23, 24] [0, 1, 2, 3, 4, 5, 6, 7, 8, 9, 10, 12, 13, 14, 15, 16, 17, 18, 19, 20, 21] rfl rfl (by decide) (by decide) hk1 hFc hP1 hD1
        clear hPc hDc hFc hP1 hK1 hD1 hk1 hz1 hvm ht
        generalize H1 = H at hP hS ⊢
        have hP : va_P (dC, dI) vwCl [oHC ad xHC_first xHC_second xHC_when u_8.1, oRow ad xRow_depth xRow_length xRow_people xRow_scarves xRow_main xRow_faultPlace, ar (ad 3) cA 20 gRkinds, ar (ad 4) cA 20 gRlates, ar (ad 5) cA 20 gRhands, ar (ad 6) cA 20 gRslow, oST ad u_8.2.1 u_8.2.2.1 u_8.2.2.2.1, ar (ad 10) cA 640 u_8.2.2.2.2.1, ar (ad 11) cA 20 u_8.2.2.2.2.2.1, ar (ad 12) cA 20 u_8.2.2.2.2.2.2.1, ar (ad 13) cA 20 u_8.2.2.2.2.2.2.2.1, ar (ad 14) cA 20 u_8.2.2.2.2.2.2.2.2.1, oDia ad qe_1008 u_8.2.2.2.2.2.2.2.2.2.1, ar qe_1008 cA u_8.2.2.2.2.2.2.2.2.2.2.1 u_8.2.2.2.2.2.2.2.2.2.2.2, oSU ad xSU_sleeper xSU_lastDue xSU_unreached, ar (ad 18) cA 640 gSUdue, ar (ad 19) cA 20 gSUbusy, ar (ad 20) cA 20 gSUfelt, ar (ad 21) cA 20 gSUlost, ar (ad 22) cA 20 gSUfirst, oSlp ad xSlp_known, ar (ad 25) cA 400 gStimes, oHea ad xHea_size, ar (ad 31) cA 12 gHwho, ar (ad 32) cA 12 gHtimes] H := hP.sub [0, 1, 2, 3, 4, 5, 6, 7, 8, 9, 10, 21, 11, 12, 13, 14, 15, 16, 17, 18, 19, 20, 22, 23, 24] rfl
        have hD : va_D A [oHC ad xHC_first xHC_second xHC_when u_8.1, oRow ad xRow_depth xRow_length xRow_people xRow_scarves xRow_main xRow_faultPlace, ar (ad 3) cA 20 gRkinds, ar (ad 4) cA 20 gRlates, ar (ad 5) cA 20 gRhands, ar (ad 6) cA 20 gRslow, oST ad u_8.2.1 u_8.2.2.1 u_8.2.2.2.1, ar (ad 10) cA 640 u_8.2.2.2.2.1, ar (ad 11) cA 20 u_8.2.2.2.2.2.1, ar (ad 12) cA 20 u_8.2.2.2.2.2.2.1, ar (ad 13) cA 20 u_8.2.2.2.2.2.2.2.1, ar (ad 14) cA 20 u_8.2.2.2.2.2.2.2.2.1, oDia ad qe_1008 u_8.2.2.2.2.2.2.2.2.2.1, ar qe_1008 cA u_8.2.2.2.2.2.2.2.2.2.2.1 u_8.2.2.2.2.2.2.2.2.2.2.2, oSU ad xSU_sleeper xSU_lastDue xSU_unreached, ar (ad 18) cA 640 gSUdue, ar (ad 19) cA 20 gSUbusy, ar (ad 20) cA 20 gSUfelt, ar (ad 21) cA 20 gSUlost, ar (ad 22) cA 20 gSUfirst, oSlp ad xSlp_known, ar (ad 25) cA 400 gStimes, oHea ad xHea_size, ar (ad 31) cA 12 gHwho, ar (ad 32) cA 12 gHtimes] := hD.sub [0, 1, 2, 3, 4, 5, 6, 7, 8, 9, 10, 21, 11, 12, 13, 14, 15, 16, 17, 18, 19, 20, 22, 23, 24] (by decide) rfl
        have hw := hw.symm
        subst hw
        refine lv_if_ne (tgt := 39) hx hb dX9_asleep_32 (by decide) (fun c_10 => ?_) (fun c_10 => ?_)
        · have hm := it_neg c_10 hm
          refine lv_iconst (v := 0) hx hb dX9_asleep_39 (by decide) ?_
          obtain rfl := Option.some.inj hm
          subst hQ
          refine W.widen (k := u_8.2.2.2.2.2.2.2.2.2.2.1 - ne) (n := 2 * (u_8.2.2.2.2.2.2.2.2.2.2.1 - ne)) (by first | exact Nat.le_refl _ | omega) (by first | exact Nat.le_refl _ | omega) ?_
          exact W.iret (v := 0) hx hb hr (fun t ht hW => ⟨⟨_, qe_1008, rfl, rfl, by rw [ht]; exact hP, va_K.moved hW.alike hK, hAe ▸ hD⟩, hS.F ht⟩) hS.2.2 dX9_asleep_40
        · have hm := it_pos c_10 hm
          refine lv_iconst (v := 1) hx hb dX9_asleep_35 (by decide) ?_
          refine lv_goto (tgt := 40) hx hb dX9_asleep_36 (by decide) ?_
          obtain rfl := Option.some.inj hm
          subst hQ
          refine W.widen (k := u_8.2.2.2.2.2.2.2.2.2.2.1 - ne) (n := 2 * (u_8.2.2.2.2.2.2.2.2.2.2.1 - ne)) (by first | exact Nat.le_refl _ | omega) (by first | exact Nat.le_refl _ | omega) ?_
          exact W.iret (v := 1) hx hb hr (fun t ht hW => ⟨⟨_, qe_1008, rfl, rfl, by rw [ht]; exact hP, va_K.moved hW.alike hK, hAe ▸ hD⟩, hS.F ht⟩) hS.2.2 dX9_asleep_40
    · have hm := it_neg c_5 hm
      refine lv_bipush (v := (-2)) hx hb dX9_asleep_9 (by decide) ?_
      obtain rfl := Option.some.inj hm
      subst hQ
      refine W.widen (k := ne - ne) (n := 2 * (ne - ne)) (by first | exact Nat.le_refl _ | omega) (by first | exact Nat.le_refl _ | omega) ?_
      exact W.iret (v := (-2)) hx hb hr (fun t ht hW => ⟨⟨_, qe, rfl, rfl, by rw [ht]; exact hP, va_K.moved hW.alike hK, hAe ▸ hD⟩, hS.F ht⟩) hS.2.2 dX9_asleep_11

set_option maxHeartbeats 4000000 in
set_option maxRecDepth 100000 in
theorem kG_isYear (l : Launch) (dC : Nat → ClassId) (dI : Nat → Nat → Nat) (cA : ClassId) (ad : Nat → Nat) (sz : Nat) (a0 : Int32) (u : Int32) (hm : fG_isYear a0 = some u) : Met l yX4_isYear wsX4_isYear ({ frames := 0, cells := 0, slots := 0, locals := 0 }) (va_Pc [.int a0] (fun U => U.heap.size = sz ∧ va_P (dC, dI) vwCl [] U.heap ∧ va_K (dC, dI) vwCl [(cA, .int)] U ∧ va_D (fun _ => True) [])) (va_Qi (fun (r : Int32) (_ : Unit) => r = u) (fun (_ : Unit) t => va_P (dC, dI) vwCl [] t.heap ∧ va_K (dC, dI) vwCl [(cA, .int)] t ∧ va_D (va_A [] sz) []) (va_A [] sz)) 0 0 (va_A [] sz) := by
  refine Met.ofW (cc := cX4_isYear) (maxL := 1) (ret := (some .boolean)) (by decide) rfl ?_
  intro p e s m args below meth c s₁ B hml hv
  obtain ⟨rfl, hsz, hP, hK, hD0⟩ := hv
  have hx := B.exec
  have hb := B.bytes
  have hr := B.returns
  have hts := atoms_spec (ws := wsX4_isYear) B.pre
  have hown : s.vm.findClass RX4 = some m.cls := findClass_of_methodNamed B.named
  have hlocks := B.notSynchronized
  subst hsz
  have hD := hD0.self (sz := s.heap.size)
  generalize hAe : va_A [] s.heap.size = A at hD ⊢
  have hA : ∀ q : Nat, s.heap.size ≤ q → A q := fun q h => by rw [← hAe]; exact Or.inr h
  have hS : va_S A s.heap s.heap [] := va_S.rf
  have hl := lv_entry ([.int a0]) (n := 1) (Nat.le_of_ble_eq_true rfl)
  rw [lg_entry_eq]
  generalize (lg_sl ([.int a0]) ++ List.replicate (1 - (lg_sl ([.int a0])).length) Slot.unset).toArray = ls at hl ⊢
  have hl : lv_has ls 1 [(0, .int a0)] := hl
  refine wk_Q (fun QQ hQ => ?_)
  unfold fG_isYear at hm
  refine lv_iload_n hx hb dX4_isYear_0 rfl (lv_at hl 0 rfl) ?_
  refine lv_if_lt (tgt := 14) hx hb dX4_isYear_1 (by decide) (fun c_1 => ?_) (fun c_1 => ?_)
  · have hm := it_pos c_1 hm
    refine lv_iconst (v := 0) hx hb dX4_isYear_14 (by decide) ?_
    obtain rfl := Option.some.inj hm
    subst hQ
    exact W.zret (v := 0) hx hb hr rfl (fun t ht hW => ⟨⟨_, (), rfl, rfl, by rw [ht]; exact hP, va_K.moved hW.alike hK, hAe ▸ hD⟩, hS.F ht⟩) hS.2.2 dX4_isYear_15
  · have hm := it_neg c_1 hm
    refine lv_iload_n hx hb dX4_isYear_4 rfl (lv_at hl 0 rfl) ?_
    refine lv_bipush (v := 100) hx hb dX4_isYear_5 (by decide) ?_
    refine lv_icmp_ge (tgt := 14) hx hb dX4_isYear_7 (by decide) (fun c_2 => ?_) (fun c_2 => ?_)
    · have hm := it_pos c_2 hm
      refine lv_iconst (v := 0) hx hb dX4_isYear_14 (by decide) ?_
      obtain rfl := Option.some.inj hm
      subst hQ
      exact W.zret (v := 0) hx hb hr rfl (fun t ht hW => ⟨⟨_, (), rfl, rfl, by rw [ht]; exact hP, va_K.moved hW.alike hK, hAe ▸ hD⟩, hS.F ht⟩) hS.2.2 dX4_isYear_15
    · have hm := it_neg c_2 hm
      refine lv_iconst (v := 1) hx hb dX4_isYear_10 (by decide) ?_
      refine lv_goto (tgt := 15) hx hb dX4_isYear_11 (by decide) ?_
      obtain rfl := Option.some.inj hm
      subst hQ
      exact W.zret (v := 1) hx hb hr rfl (fun t ht hW => ⟨⟨_, (), rfl, rfl, by rw [ht]; exact hP, va_K.moved hW.alike hK, hAe ▸ hD⟩, hS.F ht⟩) hS.2.2 dX4_isYear_15

set_option maxHeartbeats 4000000 in
set_option maxRecDepth 100000 in
theorem kG_add (l : Launch) (dC : Nat → ClassId) (dI : Nat → Nat → Nat) (cA : ClassId) (ad : Nat → Nat) (sz : Nat) (a1 : Int32) (a2 : Int32) (xReg_size : Int32) (gGyears : Nat → Int32) (gGcounted : Nat → Int32) (u : Int32 × Int32 × (Nat → Int32) × (Nat → Int32)) (hm : fG_add a1 a2 xReg_size gGyears gGcounted = some u) : Met l yX4_add wsX4_add ({ frames := 1, cells := 0, slots := 0, locals := 20 }) (va_Pc [.ref (ad 33), .int a1, .int a2] (fun U => U.heap.size = sz ∧ va_P (dC, dI) vwCl [oReg ad xReg_size, ar (ad 34) cA 8 gGyears, ar (ad 35) cA 8 gGcounted] U.heap ∧ va_K (dC, dI) vwCl [(cA, .int)] U ∧ va_D (fun _ => True) [oReg ad xReg_size, ar (ad 34) cA 8 gGyears, ar (ad 35) cA 8 gGcounted])) (va_Qi (fun (r : Int32) (_ : Unit) => r = u.1) (fun (_ : Unit) t => va_P (dC, dI) vwCl [oReg ad u.2.1, ar (ad 34) cA 8 u.2.2.1, ar (ad 35) cA 8 u.2.2.2] t.heap ∧ va_K (dC, dI) vwCl [(cA, .int)] t ∧ va_D (va_A [oReg ad xReg_size, ar (ad 34) cA 8 gGyears, ar (ad 35) cA 8 gGcounted] sz) [oReg ad u.2.1, ar (ad 34) cA 8 u.2.2.1, ar (ad 35) cA 8 u.2.2.2]) (va_A [oReg ad xReg_size, ar (ad 34) cA 8 gGyears, ar (ad 35) cA 8 gGcounted] sz)) 0 0 (va_A [oReg ad xReg_size, ar (ad 34) cA 8 gGyears, ar (ad 35) cA 8 gGcounted] sz) := by
  refine Met.ofW (cc := cX4_add) (maxL := 3) (ret := (some .int)) (by decide) rfl ?_
  intro p e s m args below meth c s₁ B hml hv
  obtain ⟨rfl, hsz, hP, hK, hD0⟩ := hv
  have hx := B.exec
  have hb := B.bytes
  have hr := B.returns
  have hts := atoms_spec (ws := wsX4_add) B.pre
  have hown : s.vm.findClass RX4 = some m.cls := findClass_of_methodNamed B.named
  have hlocks := B.notSynchronized
  subst hsz
  have hD := hD0.self (sz := s.heap.size)
  generalize hAe : va_A [oReg ad xReg_size, ar (ad 34) cA 8 gGyears, ar (ad 35) cA 8 gGcounted] s.heap.size = A at hD ⊢
  have hA : ∀ q : Nat, s.heap.size ≤ q → A q := fun q h => by rw [← hAe]; exact Or.inr h
  have hS : va_S A s.heap s.heap [] := va_S.rf
  have hl := lv_entry ([.ref (ad 33), .int a1, .int a2]) (n := 3) (Nat.le_of_ble_eq_true rfl)
  rw [lg_entry_eq]
  generalize (lg_sl ([.ref (ad 33), .int a1, .int a2]) ++ List.replicate (3 - (lg_sl ([.ref (ad 33), .int a1, .int a2])).length) Slot.unset).toArray = ls at hl ⊢
  have hl : lv_has ls 3 [(0, .ref (ad 33)), (1, .int a1), (2, .int a2)] := hl
  refine wk_Q (fun QQ hQ => ?_)
  have hinX4 : ∀ w ∈ wsX40, w ∈ wsX4_add := fun w h => List.mem_cons_of_mem _ (inlX4 w h)
  have hl_24 := hts (.fieldLink RX4 24 "HandCensus$Register" "size" "I") (List.mem_cons_of_mem _ (in_r6 _ (List.mem_of_getElem? (i := 2) rfl)))
  have hl_11 := hts (.fieldLink RX4 11 "HandCensus$Register" "years" "[I") (List.mem_cons_of_mem _ (in_r5 _ (List.mem_of_getElem? (i := 22) rfl)))
  have hl_15 := hts (.fieldLink RX4 15 "HandCensus$Register" "counted" "[I") (List.mem_cons_of_mem _ (in_r5 _ (List.mem_of_getElem? (i := 23) rfl)))
  unfold fG_add at hm
  refine lv_iload_n hx hb dX4_add_0 rfl (lv_at hl 1 rfl) ?_
  have hPc := hP.sub (ws' := []) [] rfl
  have hDc := hD.sub (ws' := []) [] (by decide) rfl
  have hFc := va_free (wc := []) hD hS hA [] rfl
  obtain ⟨u_1, hc_1, hm⟩ := bd_ok hm
  refine va_calli (va_runS (As := [.int a1]) (rest := []) ⟨hx, hb, hml, hown, hts⟩ (kG_isYear l dC dI cA ad s.heap.size a1 u_1 hc_1) (va_cwS 1 hts gX4_add_X4_isYear rfl rfl rfl (by decide +kernel) ⟨Nat.le_of_ble_eq_true rfl, Nat.le_of_ble_eq_true rfl⟩) ⟨fun a U g mk q => by obtain ⟨q0, q1, qP, qK, qD⟩ := q; exact ⟨q0, q1, qP, va_K.moved (u := U) (U := U.calling g mk a) (Vm.Alike.refl U.vm) qK, qD⟩, fun U hU hW => ⟨rfl, by rw [hU], by rw [hU]; exact hPc, va_K.moved hW.alike hK, hDc.weaken (fun _ _ _ _ => trivial)⟩⟩ rfl rfl hl.1 rfl (lv_room (Nat.le_of_ble_eq_true rfl)) dX4_add_1 ⟨Nat.le_of_ble_eq_true rfl, Nat.le_of_ble_eq_true rfl⟩) hS (fun q _ h => hFc q h) hFc (fun r_1 _ t H1 locs ht hvm hw hB hz1 hk1 hS => ?_)
  obtain ⟨hP1, hK1, hD1⟩ := hB
  rw [ht] at hP1
  obtain ⟨hP, hD⟩ := va_join (wr := [oReg ad xReg_size, ar (ad 34) cA 8 gGyears, ar (ad 35) cA 8 gGcounted]) (w1 := []) hP hD [] [0, 1, 2] rfl rfl (by decide) (by decide) hk1 hFc hP1 hD1
  clear hPc hDc hFc hP1 hK1 hD1 hk1 hz1 hvm ht
  generalize H1 = H at hP hS ⊢
  have hP : va_P (dC, dI) vwCl [oReg ad xReg_size, ar (ad 34) cA 8 gGyears, ar (ad 35) cA 8 gGcounted] H := hP
  have hD : va_D A [oReg ad xReg_size, ar (ad 34) cA 8 gGyears, ar (ad 35) cA 8 gGcounted] := hD
  have hw := hw.symm
  subst hw
  refine lv_if_eq (tgt := 18) hx hb dX4_add_4 (by decide) (fun c_2 => ?_) (fun c_2 => ?_)
  · have hm := it_pos c_2 hm
    refine lv_bipush (v := (-2)) hx hb dX4_add_18 (by decide) ?_
    obtain rfl := Option.some.inj hm
    subst hQ
    exact W.iret (v := (-2)) hx hb hr (fun t ht hW => ⟨⟨_, (), rfl, rfl, by rw [ht]; exact hP, va_K.moved hW.alike hK, hAe ▸ hD⟩, hS.F ht⟩) hS.2.2 dX4_add_20
  · have hm := it_neg c_2 hm
    refine lv_iload_n hx hb dX4_add_7 rfl (lv_at hl 2 rfl) ?_
    refine lv_if_lt (tgt := 18) hx hb dX4_add_8 (by decide) (fun c_3 => ?_) (fun c_3 => ?_)
    · have hm := it_pos c_3 hm
      refine lv_bipush (v := (-2)) hx hb dX4_add_18 (by decide) ?_
      obtain rfl := Option.some.inj hm
      subst hQ
      exact W.iret (v := (-2)) hx hb hr (fun t ht hW => ⟨⟨_, (), rfl, rfl, by rw [ht]; exact hP, va_K.moved hW.alike hK, hAe ▸ hD⟩, hS.F ht⟩) hS.2.2 dX4_add_20
    · have hm := it_neg c_3 hm
      refine lv_iload_n hx hb dX4_add_11 rfl (lv_at hl 2 rfl) ?_
      refine lv_sipush (v := 9999) hx hb dX4_add_12 (by decide) ?_
      refine lv_icmp_le (tgt := 21) hx hb dX4_add_15 (by decide) (fun c_4 => ?_) (fun c_4 => ?_)
      · have hm := it_pos c_4 hm
        refine lv_aload_n hx hb dX4_add_21 rfl (lv_at hl 0 rfl) ?_
        refine va_get (D := (dC, dI)) (ci := 4) (v := .int xReg_size) (C := RX4) (T := TX4) (N := 5) hx hb hts hinX4 hown hK hP 0 rfl rfl 4 (by decide) hl_24 (fun _ h9 => h9) rfl dX4_add_22 ?_
        refine lv_bipush (v := 8) hx hb dX4_add_25 (by decide) ?_
        refine lv_icmp_lt (tgt := 33) hx hb dX4_add_27 (by decide) (fun c_5 => ?_) (fun c_5 => ?_)
        · have hm := it_pos c_5 hm
          refine lv_aload_n hx hb dX4_add_33 rfl (lv_at hl 0 rfl) ?_
          refine va_get (D := (dC, dI)) (ci := 4) (v := .ref (ad 34)) (C := RX4) (T := TX4) (N := 5) hx hb hts hinX4 hown hK hP 0 rfl rfl 0 (by decide) hl_11 (fun _ h9 => h9) rfl dX4_add_34 ?_
          refine lv_aload_n hx hb dX4_add_37 rfl (lv_at hl 0 rfl) ?_
          refine va_get (D := (dC, dI)) (ci := 4) (v := .int xReg_size) (C := RX4) (T := TX4) (N := 5) hx hb hts hinX4 hown hK hP 0 rfl rfl 4 (by decide) hl_24 (fun _ h9 => h9) rfl dX4_add_38 ?_
          refine lv_iload_n hx hb dX4_add_41 rfl (lv_at hl 1 rfl) ?_
          obtain ⟨i_6, hm⟩ := ck_ok hm
          refine va_iast hx hb hK hP hD hS 1 0 rfl rfl i_6 dX4_add_42 (fun H locs hP hD hS => ?_)
          have hP : va_P (dC, dI) vwCl [oReg ad xReg_size, ar (ad 34) cA 8 (upd gGyears xReg_size.toNatClampNeg a1), ar (ad 35) cA 8 gGcounted] H := hP
          have hD : va_D A [oReg ad xReg_size, ar (ad 34) cA 8 (upd gGyears xReg_size.toNatClampNeg a1), ar (ad 35) cA 8 gGcounted] := hD
          refine lv_aload_n hx hb dX4_add_43 rfl (lv_at hl 0 rfl) ?_
          refine va_get (D := (dC, dI)) (ci := 4) (v := .ref (ad 35)) (C := RX4) (T := TX4) (N := 5) hx hb hts hinX4 hown hK hP 0 rfl rfl 1 (by decide) hl_15 (fun _ h9 => h9) rfl dX4_add_44 ?_
          refine lv_aload_n hx hb dX4_add_47 rfl (lv_at hl 0 rfl) ?_
          refine va_get (D := (dC, dI)) (ci := 4) (v := .int xReg_size) (C := RX4) (T := TX4) (N := 5) hx hb hts hinX4 hown hK hP 0 rfl rfl 4 (by decide) hl_24 (fun _ h9 => h9) rfl dX4_add_48 ?_
          refine lv_iload_n hx hb dX4_add_51 rfl (lv_at hl 2 rfl) ?_
          obtain ⟨i_7, hm⟩ := ck_ok hm
          refine va_iast hx hb hK hP hD hS 2 0 rfl rfl i_7 dX4_add_52 (fun H locs hP hD hS => ?_)
          have hP : va_P (dC, dI) vwCl [oReg ad xReg_size, ar (ad 34) cA 8 (upd gGyears xReg_size.toNatClampNeg a1), ar (ad 35) cA 8 (upd gGcounted xReg_size.toNatClampNeg a2)] H := hP
          have hD : va_D A [oReg ad xReg_size, ar (ad 34) cA 8 (upd gGyears xReg_size.toNatClampNeg a1), ar (ad 35) cA 8 (upd gGcounted xReg_size.toNatClampNeg a2)] := hD
          refine lv_aload_n hx hb dX4_add_53 rfl (lv_at hl 0 rfl) ?_
          refine lv_dup hx hb dX4_add_54 rfl ?_
          refine va_get (D := (dC, dI)) (ci := 4) (v := .int xReg_size) (C := RX4) (T := TX4) (N := 5) hx hb hts hinX4 hown hK hP 0 rfl rfl 4 (by decide) hl_24 (fun _ h9 => h9) rfl dX4_add_55 ?_
          refine lv_iconst (v := 1) hx hb dX4_add_58 (by decide) ?_
          refine lv_iadd hx hb dX4_add_59 ?_
          refine va_put (D := (dC, dI)) (ci := 4) (v := .int (xReg_size + 1)) (ty := .int) (C := RX4) (T := TX4) (N := 5) hx hb hts hinX4 tyX4 tyX4_ok nmX4 hown hK hP hD hS 0 rfl rfl 4 (by decide) hl_24 (fun _ h9 => h9) rfl (by decide +kernel) rfl rfl (Nat.le_of_ble_eq_true rfl) dX4_add_60 (fun H locs hP hD hS => ?_)
          have hP : va_P (dC, dI) vwCl [oReg ad (xReg_size + 1), ar (ad 34) cA 8 (upd gGyears xReg_size.toNatClampNeg a1), ar (ad 35) cA 8 (upd gGcounted xReg_size.toNatClampNeg a2)] H := hP
          have hD : va_D A [oReg ad (xReg_size + 1), ar (ad 34) cA 8 (upd gGyears xReg_size.toNatClampNeg a1), ar (ad 35) cA 8 (upd gGcounted xReg_size.toNatClampNeg a2)] := hD
          refine lv_aload_n hx hb dX4_add_63 rfl (lv_at hl 0 rfl) ?_
          refine va_get (D := (dC, dI)) (ci := 4) (v := .int (xReg_size + 1)) (C := RX4) (T := TX4) (N := 5) hx hb hts hinX4 hown hK hP 0 rfl rfl 4 (by decide) hl_24 (fun _ h9 => h9) rfl dX4_add_64 ?_
          refine lv_iconst (v := 1) hx hb dX4_add_67 (by decide) ?_
          refine lv_isub hx hb dX4_add_68 ?_
          obtain rfl := Option.some.inj hm
          subst hQ
          exact W.iret (v := ((xReg_size + 1) - 1)) hx hb hr (fun t ht hW => ⟨⟨_, (), rfl, rfl, by rw [ht]; exact hP, va_K.moved hW.alike hK, hAe ▸ hD⟩, hS.F ht⟩) hS.2.2 dX4_add_69
        · have hm := it_neg c_5 hm
          refine lv_bipush (v := (-4)) hx hb dX4_add_30 (by decide) ?_
          obtain rfl := Option.some.inj hm
          subst hQ
          exact W.iret (v := (-4)) hx hb hr (fun t ht hW => ⟨⟨_, (), rfl, rfl, by rw [ht]; exact hP, va_K.moved hW.alike hK, hAe ▸ hD⟩, hS.F ht⟩) hS.2.2 dX4_add_32
      · have hm := it_neg c_4 hm
        refine lv_bipush (v := (-2)) hx hb dX4_add_18 (by decide) ?_
        obtain rfl := Option.some.inj hm
        subst hQ
        exact W.iret (v := (-2)) hx hb hr (fun t ht hW => ⟨⟨_, (), rfl, rfl, by rw [ht]; exact hP, va_K.moved hW.alike hK, hAe ▸ hD⟩, hS.F ht⟩) hS.2.2 dX4_add_20

set_option maxHeartbeats 4000000 in
set_option maxRecDepth 100000 in
theorem kC_census (l : Launch) (dC : Nat → ClassId) (dI : Nat → Nat → Nat) (cA : ClassId) (ad : Nat → Nat) (sz : Nat) (a1 : Int32) (a2 : Int32) (xHC_first : Int32) (xHC_second : Int32) (xHC_when : Int32) (xHC_ran : Int32) (xReg_size : Int32) (gGyears : Nat → Int32) (gGcounted : Nat → Int32) (u : Int32 × Int32 × (Nat → Int32) × (Nat → Int32)) (hm : fC_census a1 a2 xReg_size gGyears gGcounted = some u) : Met l yX9_census wsX9_census ({ frames := 2, cells := 0, slots := 0, locals := 42 }) (va_Pc [.ref (ad 0), .int a1, .int a2] (fun U => U.heap.size = sz ∧ va_P (dC, dI) vwCl [oHC ad xHC_first xHC_second xHC_when xHC_ran, oReg ad xReg_size, ar (ad 34) cA 8 gGyears, ar (ad 35) cA 8 gGcounted] U.heap ∧ va_K (dC, dI) vwCl [(cA, .int)] U ∧ va_D (fun _ => True) [oHC ad xHC_first xHC_second xHC_when xHC_ran, oReg ad xReg_size, ar (ad 34) cA 8 gGyears, ar (ad 35) cA 8 gGcounted])) (va_Qi (fun (r : Int32) (_ : Unit) => r = u.1) (fun (_ : Unit) t => va_P (dC, dI) vwCl [oHC ad xHC_first xHC_second xHC_when xHC_ran, oReg ad u.2.1, ar (ad 34) cA 8 u.2.2.1, ar (ad 35) cA 8 u.2.2.2] t.heap ∧ va_K (dC, dI) vwCl [(cA, .int)] t ∧ va_D (va_A [oHC ad xHC_first xHC_second xHC_when xHC_ran, oReg ad xReg_size, ar (ad 34) cA 8 gGyears, ar (ad 35) cA 8 gGcounted] sz) [oHC ad xHC_first xHC_second xHC_when xHC_ran, oReg ad u.2.1, ar (ad 34) cA 8 u.2.2.1, ar (ad 35) cA 8 u.2.2.2]) (va_A [oHC ad xHC_first xHC_second xHC_when xHC_ran, oReg ad xReg_size, ar (ad 34) cA 8 gGyears, ar (ad 35) cA 8 gGcounted] sz)) 0 0 (va_A [oHC ad xHC_first xHC_second xHC_when xHC_ran, oReg ad xReg_size, ar (ad 34) cA 8 gGyears, ar (ad 35) cA 8 gGcounted] sz) := by
  refine Met.ofW (cc := cX9_census) (maxL := 3) (ret := (some .int)) (by decide) rfl ?_
  intro p e s m args below meth c s₁ B hml hv
  obtain ⟨rfl, hsz, hP, hK, hD0⟩ := hv
  have hx := B.exec
  have hb := B.bytes
  have hr := B.returns
  have hts := atoms_spec (ws := wsX9_census) B.pre
  have hown : s.vm.findClass RX9 = some m.cls := findClass_of_methodNamed B.named
  have hlocks := B.notSynchronized
  subst hsz
  have hD := hD0.self (sz := s.heap.size)
  generalize hAe : va_A [oHC ad xHC_first xHC_second xHC_when xHC_ran, oReg ad xReg_size, ar (ad 34) cA 8 gGyears, ar (ad 35) cA 8 gGcounted] s.heap.size = A at hD ⊢
  have hA : ∀ q : Nat, s.heap.size ≤ q → A q := fun q h => by rw [← hAe]; exact Or.inr h
  have hS : va_S A s.heap s.heap [] := va_S.rf
  have hl := lv_entry ([.ref (ad 0), .int a1, .int a2]) (n := 3) (Nat.le_of_ble_eq_true rfl)
  rw [lg_entry_eq]
  generalize (lg_sl ([.ref (ad 0), .int a1, .int a2]) ++ List.replicate (3 - (lg_sl ([.ref (ad 0), .int a1, .int a2])).length) Slot.unset).toArray = ls at hl ⊢
  have hl : lv_has ls 3 [(0, .ref (ad 0)), (1, .int a1), (2, .int a2)] := hl
  refine wk_Q (fun QQ hQ => ?_)
  have hinX9 : ∀ w ∈ wsX90, w ∈ wsX9_census := fun w h => List.mem_cons_of_mem _ (inlX9 w h)
  have hl_61 := hts (.fieldLink RX9 61 "HandCensus" "register" "LHandCensus$Register;") (List.mem_cons_of_mem _ (in_r2 _ (List.mem_of_getElem? (i := 18) rfl)))
  unfold fC_census at hm
  refine lv_aload_n hx hb dX9_census_0 rfl (lv_at hl 0 rfl) ?_
  refine va_get (D := (dC, dI)) (ci := 9) (v := .ref (ad 33)) (C := RX9) (T := TX9) (N := 12) hx hb hts hinX9 hown hK hP 0 rfl rfl 6 (by decide) hl_61 (fun _ h9 => h9) rfl dX9_census_1 ?_
  refine lv_iload_n hx hb dX9_census_4 rfl (lv_at hl 1 rfl) ?_
  refine lv_iload_n hx hb dX9_census_5 rfl (lv_at hl 2 rfl) ?_
  have hPc := hP.sub (ws' := [oReg ad xReg_size, ar (ad 34) cA 8 gGyears, ar (ad 35) cA 8 gGcounted]) [1, 2, 3] rfl
  have hDc := hD.sub (ws' := [oReg ad xReg_size, ar (ad 34) cA 8 gGyears, ar (ad 35) cA 8 gGcounted]) [1, 2, 3] (by decide) rfl
  have hFc := va_free (wc := [oReg ad xReg_size, ar (ad 34) cA 8 gGyears, ar (ad 35) cA 8 gGcounted]) hD hS hA [1, 2, 3] rfl
  obtain ⟨u_1, hc_1, hm⟩ := bd_ok hm
  refine va_calli (va_runV (As := [.int a1, .int a2]) (rest := []) ⟨hx, hb, hml, hown, hts⟩ (kG_add l dC dI cA ad s.heap.size a1 a2 xReg_size gGyears gGcounted u_1 hc_1) (cwV 2 hts gX9_census_X4_add rfl rfl rfl (by decide +kernel) ⟨Nat.le_of_ble_eq_true rfl, Nat.le_of_ble_eq_true rfl⟩) ⟨fun a U g mk q => by obtain ⟨q0, q1, qP, qK, qD⟩ := q; exact ⟨q0, q1, qP, va_K.moved (u := U) (U := U.calling g mk a) (Vm.Alike.refl U.vm) qK, qD⟩, va_recv hK hPc (ci := 4) (q0 := 0) rfl rfl, fun U hU hW => ⟨rfl, by rw [hU], by rw [hU]; exact hPc, va_K.moved hW.alike hK, hDc.weaken (fun _ _ _ _ => trivial)⟩⟩ rfl rfl hl.1 rfl (lv_room (Nat.le_of_ble_eq_true rfl)) dX9_census_6 ⟨Nat.le_of_ble_eq_true rfl, Nat.le_of_ble_eq_true rfl⟩) hS (fun q _ h => hFc q h) hFc (fun r_1 _ t H1 locs ht hvm hw hB hz1 hk1 hS => ?_)
  obtain ⟨hP1, hK1, hD1⟩ := hB
  rw [ht] at hP1
  obtain ⟨hP, hD⟩ := va_join (wr := [oHC ad xHC_first xHC_second xHC_when xHC_ran]) (w1 := [oReg ad u_1.2.1, ar (ad 34) cA 8 u_1.2.2.1, ar (ad 35) cA 8 u_1.2.2.2]) hP hD [1, 2, 3] [0] rfl rfl (by decide) (by decide) hk1 hFc hP1 hD1
  clear hPc hDc hFc hP1 hK1 hD1 hk1 hz1 hvm ht
  generalize H1 = H at hP hS ⊢
  have hP : va_P (dC, dI) vwCl [oHC ad xHC_first xHC_second xHC_when xHC_ran, oReg ad u_1.2.1, ar (ad 34) cA 8 u_1.2.2.1, ar (ad 35) cA 8 u_1.2.2.2] H := hP
  have hD : va_D A [oHC ad xHC_first xHC_second xHC_when xHC_ran, oReg ad u_1.2.1, ar (ad 34) cA 8 u_1.2.2.1, ar (ad 35) cA 8 u_1.2.2.2] := hD
  have hw := hw.symm
  subst hw
  obtain rfl := Option.some.inj hm
  subst hQ
  exact W.iret (v := u_1.1) hx hb hr (fun t ht hW => ⟨⟨_, (), rfl, rfl, by rw [ht]; exact hP, va_K.moved hW.alike hK, hAe ▸ hD⟩, hS.F ht⟩) hS.2.2 dX9_census_9

set_option maxHeartbeats 4000000 in
set_option maxRecDepth 100000 in
theorem kG_setBirths (l : Launch) (dC : Nat → ClassId) (dI : Nat → Nat → Nat) (cA : ClassId) (ad : Nat → Nat) (sz : Nat) (a1 : Int32) (a2 : Int32) (xReg_size : Int32) (gGborn : Nat → Int32) (u : Int32 × (Nat → Int32)) (hm : fG_setBirths a1 a2 gGborn = some u) : Met l yX4_setBirths wsX4_setBirths ({ frames := 1, cells := 0, slots := 0, locals := 20 }) (va_Pc [.ref (ad 33), .int a1, .int a2] (fun U => U.heap.size = sz ∧ va_P (dC, dI) vwCl [oReg ad xReg_size, ar (ad 36) cA 100 gGborn] U.heap ∧ va_K (dC, dI) vwCl [(cA, .int)] U ∧ va_D (fun _ => True) [oReg ad xReg_size, ar (ad 36) cA 100 gGborn])) (va_Qi (fun (r : Int32) (_ : Unit) => r = u.1) (fun (_ : Unit) t => va_P (dC, dI) vwCl [oReg ad xReg_size, ar (ad 36) cA 100 u.2] t.heap ∧ va_K (dC, dI) vwCl [(cA, .int)] t ∧ va_D (va_A [oReg ad xReg_size, ar (ad 36) cA 100 gGborn] sz) [oReg ad xReg_size, ar (ad 36) cA 100 u.2]) (va_A [oReg ad xReg_size, ar (ad 36) cA 100 gGborn] sz)) 0 0 (va_A [oReg ad xReg_size, ar (ad 36) cA 100 gGborn] sz) := by
  refine Met.ofW (cc := cX4_setBirths) (maxL := 4) (ret := (some .int)) (by decide) rfl ?_
  intro p e s m args below meth c s₁ B hml hv
  obtain ⟨rfl, hsz, hP, hK, hD0⟩ := hv
  have hx := B.exec
  have hb := B.bytes
  have hr := B.returns
  have hts := atoms_spec (ws := wsX4_setBirths) B.pre
  have hown : s.vm.findClass RX4 = some m.cls := findClass_of_methodNamed B.named
  have hlocks := B.notSynchronized
  subst hsz
  have hD := hD0.self (sz := s.heap.size)
  generalize hAe : va_A [oReg ad xReg_size, ar (ad 36) cA 100 gGborn] s.heap.size = A at hD ⊢
  have hA : ∀ q : Nat, s.heap.size ≤ q → A q := fun q h => by rw [← hAe]; exact Or.inr h
  have hS : va_S A s.heap s.heap [] := va_S.rf
  have hl := lv_entry ([.ref (ad 33), .int a1, .int a2]) (n := 4) (Nat.le_of_ble_eq_true rfl)
  rw [lg_entry_eq]
  generalize (lg_sl ([.ref (ad 33), .int a1, .int a2]) ++ List.replicate (4 - (lg_sl ([.ref (ad 33), .int a1, .int a2])).length) Slot.unset).toArray = ls at hl ⊢
  have hl : lv_has ls 4 [(0, .ref (ad 33)), (1, .int a1), (2, .int a2)] := hl
  refine wk_Q (fun QQ hQ => ?_)
  have hinX4 : ∀ w ∈ wsX40, w ∈ wsX4_setBirths := fun w h => List.mem_cons_of_mem _ (inlX4 w h)
  have hl_18 := hts (.fieldLink RX4 18 "HandCensus$Register" "born" "[I") (List.mem_cons_of_mem _ (in_r6 _ (List.mem_of_getElem? (i := 0) rfl)))
  unfold fG_setBirths at hm
  refine lv_iload_n hx hb dX4_setBirths_0 rfl (lv_at hl 1 rfl) ?_
  have hPc := hP.sub (ws' := []) [] rfl
  have hDc := hD.sub (ws' := []) [] (by decide) rfl
  have hFc := va_free (wc := []) hD hS hA [] rfl
  obtain ⟨u_1, hc_1, hm⟩ := bd_ok hm
  refine va_calli (va_runS (As := [.int a1]) (rest := []) ⟨hx, hb, hml, hown, hts⟩ (kG_isYear l dC dI cA ad s.heap.size a1 u_1 hc_1) (va_cwS 1 hts gX4_setBirths_X4_isYear rfl rfl rfl (by decide +kernel) ⟨Nat.le_of_ble_eq_true rfl, Nat.le_of_ble_eq_true rfl⟩) ⟨fun a U g mk q => by obtain ⟨q0, q1, qP, qK, qD⟩ := q; exact ⟨q0, q1, qP, va_K.moved (u := U) (U := U.calling g mk a) (Vm.Alike.refl U.vm) qK, qD⟩, fun U hU hW => ⟨rfl, by rw [hU], by rw [hU]; exact hPc, va_K.moved hW.alike hK, hDc.weaken (fun _ _ _ _ => trivial)⟩⟩ rfl rfl hl.1 rfl (lv_room (Nat.le_of_ble_eq_true rfl)) dX4_setBirths_1 ⟨Nat.le_of_ble_eq_true rfl, Nat.le_of_ble_eq_true rfl⟩) hS (fun q _ h => hFc q h) hFc (fun r_1 _ t H1 locs ht hvm hw hB hz1 hk1 hS => ?_)
  obtain ⟨hP1, hK1, hD1⟩ := hB
  rw [ht] at hP1
  obtain ⟨hP, hD⟩ := va_join (wr := [oReg ad xReg_size, ar (ad 36) cA 100 gGborn]) (w1 := []) hP hD [] [0, 1] rfl rfl (by decide) (by decide) hk1 hFc hP1 hD1
  clear hPc hDc hFc hP1 hK1 hD1 hk1 hz1 hvm ht
  generalize H1 = H at hP hS ⊢
  have hP : va_P (dC, dI) vwCl [oReg ad xReg_size, ar (ad 36) cA 100 gGborn] H := hP
  have hD : va_D A [oReg ad xReg_size, ar (ad 36) cA 100 gGborn] := hD
  have hw := hw.symm
  subst hw
  refine lv_if_eq (tgt := 18) hx hb dX4_setBirths_4 (by decide) (fun c_2 => ?_) (fun c_2 => ?_)
  · have hm := it_pos c_2 hm
    refine lv_bipush (v := (-2)) hx hb dX4_setBirths_18 (by decide) ?_
    obtain rfl := Option.some.inj hm
    subst hQ
    exact W.iret (v := (-2)) hx hb hr (fun t ht hW => ⟨⟨_, (), rfl, rfl, by rw [ht]; exact hP, va_K.moved hW.alike hK, hAe ▸ hD⟩, hS.F ht⟩) hS.2.2 dX4_setBirths_20
  · have hm := it_neg c_2 hm
    refine lv_iload_n hx hb dX4_setBirths_7 rfl (lv_at hl 2 rfl) ?_
    refine lv_if_lt (tgt := 18) hx hb dX4_setBirths_8 (by decide) (fun c_3 => ?_) (fun c_3 => ?_)
    · have hm := it_pos c_3 hm
      refine lv_bipush (v := (-2)) hx hb dX4_setBirths_18 (by decide) ?_
      obtain rfl := Option.some.inj hm
      subst hQ
      exact W.iret (v := (-2)) hx hb hr (fun t ht hW => ⟨⟨_, (), rfl, rfl, by rw [ht]; exact hP, va_K.moved hW.alike hK, hAe ▸ hD⟩, hS.F ht⟩) hS.2.2 dX4_setBirths_20
    · have hm := it_neg c_3 hm
      refine lv_iload_n hx hb dX4_setBirths_11 rfl (lv_at hl 2 rfl) ?_
      refine lv_sipush (v := 999) hx hb dX4_setBirths_12 (by decide) ?_
      refine lv_icmp_le (tgt := 21) hx hb dX4_setBirths_15 (by decide) (fun c_4 => ?_) (fun c_4 => ?_)
      · have hm := it_pos c_4 hm
        refine lv_aload_n hx hb dX4_setBirths_21 rfl (lv_at hl 0 rfl) ?_
        refine va_get (D := (dC, dI)) (ci := 4) (v := .ref (ad 36)) (C := RX4) (T := TX4) (N := 5) hx hb hts hinX4 hown hK hP 0 rfl rfl 2 (by decide) hl_18 (fun _ h9 => h9) rfl dX4_setBirths_22 ?_
        refine lv_iload_n hx hb dX4_setBirths_25 rfl (lv_at hl 1 rfl) ?_
        obtain ⟨i_5, hm⟩ := ck_ok hm
        refine va_iald hx hb hK hP 1 0 rfl rfl i_5 dX4_setBirths_26 ?_
        refine lv_istore_n (lv' := [(3, .int (gGborn a1.toNatClampNeg)), (0, .ref (ad 33)), (1, .int a1), (2, .int a2)]) hx hb dX4_setBirths_27 rfl hl (by decide) rfl (fun ls hl => ?_)
        refine lv_aload_n hx hb dX4_setBirths_28 rfl (lv_at hl 1 rfl) ?_
        refine va_get (D := (dC, dI)) (ci := 4) (v := .ref (ad 36)) (C := RX4) (T := TX4) (N := 5) hx hb hts hinX4 hown hK hP 0 rfl rfl 2 (by decide) hl_18 (fun _ h9 => h9) rfl dX4_setBirths_29 ?_
        refine lv_iload_n hx hb dX4_setBirths_32 rfl (lv_at hl 2 rfl) ?_
        refine lv_iload_n hx hb dX4_setBirths_33 rfl (lv_at hl 3 rfl) ?_
        obtain ⟨i_6, hm⟩ := ck_ok hm
        refine va_iast hx hb hK hP hD hS 1 0 rfl rfl i_6 dX4_setBirths_34 (fun H locs hP hD hS => ?_)
        have hP : va_P (dC, dI) vwCl [oReg ad xReg_size, ar (ad 36) cA 100 (upd gGborn a1.toNatClampNeg a2)] H := hP
        have hD : va_D A [oReg ad xReg_size, ar (ad 36) cA 100 (upd gGborn a1.toNatClampNeg a2)] := hD
        refine lv_iload_n hx hb dX4_setBirths_35 rfl (lv_at hl 0 rfl) ?_
        obtain rfl := Option.some.inj hm
        subst hQ
        exact W.iret (v := (gGborn a1.toNatClampNeg)) hx hb hr (fun t ht hW => ⟨⟨_, (), rfl, rfl, by rw [ht]; exact hP, va_K.moved hW.alike hK, hAe ▸ hD⟩, hS.F ht⟩) hS.2.2 dX4_setBirths_36
      · have hm := it_neg c_4 hm
        refine lv_bipush (v := (-2)) hx hb dX4_setBirths_18 (by decide) ?_
        obtain rfl := Option.some.inj hm
        subst hQ
        exact W.iret (v := (-2)) hx hb hr (fun t ht hW => ⟨⟨_, (), rfl, rfl, by rw [ht]; exact hP, va_K.moved hW.alike hK, hAe ▸ hD⟩, hS.F ht⟩) hS.2.2 dX4_setBirths_20

set_option maxHeartbeats 4000000 in
set_option maxRecDepth 100000 in
theorem kC_births (l : Launch) (dC : Nat → ClassId) (dI : Nat → Nat → Nat) (cA : ClassId) (ad : Nat → Nat) (sz : Nat) (a1 : Int32) (a2 : Int32) (xHC_first : Int32) (xHC_second : Int32) (xHC_when : Int32) (xHC_ran : Int32) (xReg_size : Int32) (gGborn : Nat → Int32) (u : Int32 × (Nat → Int32)) (hm : fC_births a1 a2 gGborn = some u) : Met l yX9_births wsX9_births ({ frames := 2, cells := 0, slots := 0, locals := 43 }) (va_Pc [.ref (ad 0), .int a1, .int a2] (fun U => U.heap.size = sz ∧ va_P (dC, dI) vwCl [oHC ad xHC_first xHC_second xHC_when xHC_ran, oReg ad xReg_size, ar (ad 36) cA 100 gGborn] U.heap ∧ va_K (dC, dI) vwCl [(cA, .int)] U ∧ va_D (fun _ => True) [oHC ad xHC_first xHC_second xHC_when xHC_ran, oReg ad xReg_size, ar (ad 36) cA 100 gGborn])) (va_Qi (fun (r : Int32) (_ : Unit) => r = u.1) (fun (_ : Unit) t => va_P (dC, dI) vwCl [oHC ad xHC_first xHC_second xHC_when xHC_ran, oReg ad xReg_size, ar (ad 36) cA 100 u.2] t.heap ∧ va_K (dC, dI) vwCl [(cA, .int)] t ∧ va_D (va_A [oHC ad xHC_first xHC_second xHC_when xHC_ran, oReg ad xReg_size, ar (ad 36) cA 100 gGborn] sz) [oHC ad xHC_first xHC_second xHC_when xHC_ran, oReg ad xReg_size, ar (ad 36) cA 100 u.2]) (va_A [oHC ad xHC_first xHC_second xHC_when xHC_ran, oReg ad xReg_size, ar (ad 36) cA 100 gGborn] sz)) 0 0 (va_A [oHC ad xHC_first xHC_second xHC_when xHC_ran, oReg ad xReg_size, ar (ad 36) cA 100 gGborn] sz) := by
  refine Met.ofW (cc := cX9_births) (maxL := 3) (ret := (some .int)) (by decide) rfl ?_
  intro p e s m args below meth c s₁ B hml hv
  obtain ⟨rfl, hsz, hP, hK, hD0⟩ := hv
  have hx := B.exec
  have hb := B.bytes
  have hr := B.returns
  have hts := atoms_spec (ws := wsX9_births) B.pre
  have hown : s.vm.findClass RX9 = some m.cls := findClass_of_methodNamed B.named
  have hlocks := B.notSynchronized
  subst hsz
  have hD := hD0.self (sz := s.heap.size)
  generalize hAe : va_A [oHC ad xHC_first xHC_second xHC_when xHC_ran, oReg ad xReg_size, ar (ad 36) cA 100 gGborn] s.heap.size = A at hD ⊢
  have hA : ∀ q : Nat, s.heap.size ≤ q → A q := fun q h => by rw [← hAe]; exact Or.inr h
  have hS : va_S A s.heap s.heap [] := va_S.rf
  have hl := lv_entry ([.ref (ad 0), .int a1, .int a2]) (n := 3) (Nat.le_of_ble_eq_true rfl)
  rw [lg_entry_eq]
  generalize (lg_sl ([.ref (ad 0), .int a1, .int a2]) ++ List.replicate (3 - (lg_sl ([.ref (ad 0), .int a1, .int a2])).length) Slot.unset).toArray = ls at hl ⊢
  have hl : lv_has ls 3 [(0, .ref (ad 0)), (1, .int a1), (2, .int a2)] := hl
  refine wk_Q (fun QQ hQ => ?_)
  have hinX9 : ∀ w ∈ wsX90, w ∈ wsX9_births := fun w h => List.mem_cons_of_mem _ (inlX9 w h)
  have hl_61 := hts (.fieldLink RX9 61 "HandCensus" "register" "LHandCensus$Register;") (List.mem_cons_of_mem _ (in_r2 _ (List.mem_of_getElem? (i := 18) rfl)))
  unfold fC_births at hm
  refine lv_aload_n hx hb dX9_births_0 rfl (lv_at hl 0 rfl) ?_
  refine va_get (D := (dC, dI)) (ci := 9) (v := .ref (ad 33)) (C := RX9) (T := TX9) (N := 12) hx hb hts hinX9 hown hK hP 0 rfl rfl 6 (by decide) hl_61 (fun _ h9 => h9) rfl dX9_births_1 ?_
  refine lv_iload_n hx hb dX9_births_4 rfl (lv_at hl 1 rfl) ?_
  refine lv_iload_n hx hb dX9_births_5 rfl (lv_at hl 2 rfl) ?_
  have hPc := hP.sub (ws' := [oReg ad xReg_size, ar (ad 36) cA 100 gGborn]) [1, 2] rfl
  have hDc := hD.sub (ws' := [oReg ad xReg_size, ar (ad 36) cA 100 gGborn]) [1, 2] (by decide) rfl
  have hFc := va_free (wc := [oReg ad xReg_size, ar (ad 36) cA 100 gGborn]) hD hS hA [1, 2] rfl
  obtain ⟨u_1, hc_1, hm⟩ := bd_ok hm
  refine va_calli (va_runV (As := [.int a1, .int a2]) (rest := []) ⟨hx, hb, hml, hown, hts⟩ (kG_setBirths l dC dI cA ad s.heap.size a1 a2 xReg_size gGborn u_1 hc_1) (cwV 2 hts gX9_births_X4_setBirths rfl rfl rfl (by decide +kernel) ⟨Nat.le_of_ble_eq_true rfl, Nat.le_of_ble_eq_true rfl⟩) ⟨fun a U g mk q => by obtain ⟨q0, q1, qP, qK, qD⟩ := q; exact ⟨q0, q1, qP, va_K.moved (u := U) (U := U.calling g mk a) (Vm.Alike.refl U.vm) qK, qD⟩, va_recv hK hPc (ci := 4) (q0 := 0) rfl rfl, fun U hU hW => ⟨rfl, by rw [hU], by rw [hU]; exact hPc, va_K.moved hW.alike hK, hDc.weaken (fun _ _ _ _ => trivial)⟩⟩ rfl rfl hl.1 rfl (lv_room (Nat.le_of_ble_eq_true rfl)) dX9_births_6 ⟨Nat.le_of_ble_eq_true rfl, Nat.le_of_ble_eq_true rfl⟩) hS (fun q _ h => hFc q h) hFc (fun r_1 _ t H1 locs ht hvm hw hB hz1 hk1 hS => ?_)
  obtain ⟨hP1, hK1, hD1⟩ := hB
  rw [ht] at hP1
  obtain ⟨hP, hD⟩ := va_join (wr := [oHC ad xHC_first xHC_second xHC_when xHC_ran]) (w1 := [oReg ad xReg_size, ar (ad 36) cA 100 u_1.2]) hP hD [1, 2] [0] rfl rfl (by decide) (by decide) hk1 hFc hP1 hD1
  clear hPc hDc hFc hP1 hK1 hD1 hk1 hz1 hvm ht
  generalize H1 = H at hP hS ⊢
  have hP : va_P (dC, dI) vwCl [oHC ad xHC_first xHC_second xHC_when xHC_ran, oReg ad xReg_size, ar (ad 36) cA 100 u_1.2] H := hP
  have hD : va_D A [oHC ad xHC_first xHC_second xHC_when xHC_ran, oReg ad xReg_size, ar (ad 36) cA 100 u_1.2] := hD
  have hw := hw.symm
  subst hw
  obtain rfl := Option.some.inj hm
  subst hQ
  exact W.iret (v := u_1.1) hx hb hr (fun t ht hW => ⟨⟨_, (), rfl, rfl, by rw [ht]; exact hP, va_K.moved hW.alike hK, hAe ▸ hD⟩, hS.F ht⟩) hS.2.2 dX9_births_9

set_option maxHeartbeats 4000000 in
set_option maxRecDepth 100000 in
theorem kG_isCensus (l : Launch) (dC : Nat → ClassId) (dI : Nat → Nat → Nat) (cA : ClassId) (ad : Nat → Nat) (sz : Nat) (a1 : Int32) (xReg_size : Int32) (u : Int32) (hm : fG_isCensus a1 xReg_size = some u) : Met l yX4_isCensus wsX4_isCensus ({ frames := 0, cells := 0, slots := 0, locals := 0 }) (va_Pc [.ref (ad 33), .int a1] (fun U => U.heap.size = sz ∧ va_P (dC, dI) vwCl [oReg ad xReg_size] U.heap ∧ va_K (dC, dI) vwCl [(cA, .int)] U ∧ va_D (fun _ => True) [oReg ad xReg_size])) (va_Qi (fun (r : Int32) (_ : Unit) => r = u) (fun (_ : Unit) t => va_P (dC, dI) vwCl [oReg ad xReg_size] t.heap ∧ va_K (dC, dI) vwCl [(cA, .int)] t ∧ va_D (va_A [oReg ad xReg_size] sz) [oReg ad xReg_size]) (va_A [oReg ad xReg_size] sz)) 0 0 (va_A [oReg ad xReg_size] sz) := by
  refine Met.ofW (cc := cX4_isCensus) (maxL := 2) (ret := (some .boolean)) (by decide) rfl ?_
  intro p e s m args below meth c s₁ B hml hv
  obtain ⟨rfl, hsz, hP, hK, hD0⟩ := hv
  have hx := B.exec
  have hb := B.bytes
  have hr := B.returns
  have hts := atoms_spec (ws := wsX4_isCensus) B.pre
  have hown : s.vm.findClass RX4 = some m.cls := findClass_of_methodNamed B.named
  have hlocks := B.notSynchronized
  subst hsz
  have hD := hD0.self (sz := s.heap.size)
  generalize hAe : va_A [oReg ad xReg_size] s.heap.size = A at hD ⊢
  have hA : ∀ q : Nat, s.heap.size ≤ q → A q := fun q h => by rw [← hAe]; exact Or.inr h
  have hS : va_S A s.heap s.heap [] := va_S.rf
  have hl := lv_entry ([.ref (ad 33), .int a1]) (n := 2) (Nat.le_of_ble_eq_true rfl)
  rw [lg_entry_eq]
  generalize (lg_sl ([.ref (ad 33), .int a1]) ++ List.replicate (2 - (lg_sl ([.ref (ad 33), .int a1])).length) Slot.unset).toArray = ls at hl ⊢
  have hl : lv_has ls 2 [(0, .ref (ad 33)), (1, .int a1)] := hl
  refine wk_Q (fun QQ hQ => ?_)
  have hinX4 : ∀ w ∈ wsX40, w ∈ wsX4_isCensus := fun w h => List.mem_cons_of_mem _ (inlX4 w h)
  have hl_24 := hts (.fieldLink RX4 24 "HandCensus$Register" "size" "I") (List.mem_cons_of_mem _ (in_r6 _ (List.mem_of_getElem? (i := 2) rfl)))
  unfold fG_isCensus at hm
  refine lv_iload_n hx hb dX4_isCensus_0 rfl (lv_at hl 1 rfl) ?_
  refine lv_if_lt (tgt := 16) hx hb dX4_isCensus_1 (by decide) (fun c_1 => ?_) (fun c_1 => ?_)
  · have hm := it_pos c_1 hm
    refine lv_iconst (v := 0) hx hb dX4_isCensus_16 (by decide) ?_
    obtain rfl := Option.some.inj hm
    subst hQ
    exact W.zret (v := 0) hx hb hr rfl (fun t ht hW => ⟨⟨_, (), rfl, rfl, by rw [ht]; exact hP, va_K.moved hW.alike hK, hAe ▸ hD⟩, hS.F ht⟩) hS.2.2 dX4_isCensus_17
  · have hm := it_neg c_1 hm
    refine lv_iload_n hx hb dX4_isCensus_4 rfl (lv_at hl 1 rfl) ?_
    refine lv_aload_n hx hb dX4_isCensus_5 rfl (lv_at hl 0 rfl) ?_
    refine va_get (D := (dC, dI)) (ci := 4) (v := .int xReg_size) (C := RX4) (T := TX4) (N := 5) hx hb hts hinX4 hown hK hP 0 rfl rfl 4 (by decide) hl_24 (fun _ h9 => h9) rfl dX4_isCensus_6 ?_
    refine lv_icmp_ge (tgt := 16) hx hb dX4_isCensus_9 (by decide) (fun c_2 => ?_) (fun c_2 => ?_)
    · have hm := it_pos c_2 hm
      refine lv_iconst (v := 0) hx hb dX4_isCensus_16 (by decide) ?_
      obtain rfl := Option.some.inj hm
      subst hQ
      exact W.zret (v := 0) hx hb hr rfl (fun t ht hW => ⟨⟨_, (), rfl, rfl, by rw [ht]; exact hP, va_K.moved hW.alike hK, hAe ▸ hD⟩, hS.F ht⟩) hS.2.2 dX4_isCensus_17
    · have hm := it_neg c_2 hm
      refine lv_iconst (v := 1) hx hb dX4_isCensus_12 (by decide) ?_
      refine lv_goto (tgt := 17) hx hb dX4_isCensus_13 (by decide) ?_
      obtain rfl := Option.some.inj hm
      subst hQ
      exact W.zret (v := 1) hx hb hr rfl (fun t ht hW => ⟨⟨_, (), rfl, rfl, by rw [ht]; exact hP, va_K.moved hW.alike hK, hAe ▸ hD⟩, hS.F ht⟩) hS.2.2 dX4_isCensus_17

set_option maxHeartbeats 4000000 in
set_option maxRecDepth 100000 in
theorem kG_birthsOf (l : Launch) (dC : Nat → ClassId) (dI : Nat → Nat → Nat) (cA : ClassId) (ad : Nat → Nat) (sz : Nat) (a1 : Int32) (a2 : Int32) (xReg_size : Int32) (gGborn : Nat → Int32) (u : Int32) (hm : fG_birthsOf a1 a2 gGborn = some u) : Met l yX4_birthsOf wsX4_birthsOf ({ frames := 0, cells := 0, slots := 0, locals := 0 }) (va_Pc [.ref (ad 33), .int a1, .int a2] (fun U => U.heap.size = sz ∧ va_P (dC, dI) vwCl [oReg ad xReg_size, ar (ad 36) cA 100 gGborn] U.heap ∧ va_K (dC, dI) vwCl [(cA, .int)] U ∧ va_D (fun _ => True) [oReg ad xReg_size, ar (ad 36) cA 100 gGborn])) (va_Qi (fun (r : Int32) (_ : Unit) => r = u) (fun (_ : Unit) t => va_P (dC, dI) vwCl [oReg ad xReg_size, ar (ad 36) cA 100 gGborn] t.heap ∧ va_K (dC, dI) vwCl [(cA, .int)] t ∧ va_D (va_A [oReg ad xReg_size, ar (ad 36) cA 100 gGborn] sz) [oReg ad xReg_size, ar (ad 36) cA 100 gGborn]) (va_A [oReg ad xReg_size, ar (ad 36) cA 100 gGborn] sz)) 0 0 (va_A [oReg ad xReg_size, ar (ad 36) cA 100 gGborn] sz) := by
  refine Met.ofW (cc := cX4_birthsOf) (maxL := 5) (ret := (some .int)) (by decide) rfl ?_
  intro p e s m args below meth c s₁ B hml hv
  obtain ⟨rfl, hsz, hP, hK, hD0⟩ := hv
  have hx := B.exec
  have hb := B.bytes
  have hr := B.returns
  have hts := atoms_spec (ws := wsX4_birthsOf) B.pre
  have hown : s.vm.findClass RX4 = some m.cls := findClass_of_methodNamed B.named
  have hlocks := B.notSynchronized
  subst hsz
  have hD := hD0.self (sz := s.heap.size)
  generalize hAe : va_A [oReg ad xReg_size, ar (ad 36) cA 100 gGborn] s.heap.size = A at hD ⊢
  have hA : ∀ q : Nat, s.heap.size ≤ q → A q := fun q h => by rw [← hAe]; exact Or.inr h
  have hS : va_S A s.heap s.heap [] := va_S.rf
  have hl := lv_entry ([.ref (ad 33), .int a1, .int a2]) (n := 5) (Nat.le_of_ble_eq_true rfl)
  rw [lg_entry_eq]
  generalize (lg_sl ([.ref (ad 33), .int a1, .int a2]) ++ List.replicate (5 - (lg_sl ([.ref (ad 33), .int a1, .int a2])).length) Slot.unset).toArray = ls at hl ⊢
  have hl : lv_has ls 5 [(0, .ref (ad 33)), (1, .int a1), (2, .int a2)] := hl
  refine wk_Q (fun QQ hQ => ?_)
  have hinX4 : ∀ w ∈ wsX40, w ∈ wsX4_birthsOf := fun w h => List.mem_cons_of_mem _ (inlX4 w h)
  have hl_18 := hts (.fieldLink RX4 18 "HandCensus$Register" "born" "[I") (List.mem_cons_of_mem _ (in_r6 _ (List.mem_of_getElem? (i := 0) rfl)))
  have h_5 : ∀ (v2_5 : Int32), ∀ (n_5 : Nat), ∀ (v3_5 : Int32) (v4_5 : Int32), fG_birthsOf_5 v2_5 gGborn n_5 v3_5 v4_5 = some u → ∀ (H : Heap) (locs : List Loc), va_P (dC, dI) vwCl [oReg ad xReg_size, ar (ad 36) cA 100 gGborn] H → va_D A [oReg ad xReg_size, ar (ad 36) cA 100 gGborn] → va_S A s.heap H locs → ∀ ls : Array Slot, lv_has ls 5 [(0, .ref (ad 33)), (2, .int v2_5), (3, .int v3_5), (4, .int v4_5)] → W p l e (headSpec wsX4_birthsOf ({ frames := 0, cells := 0, slots := 0, locals := 0 })).room s m ([.ref (ad 33), .int a1, .int a2] : List Value).toArray below meth c H locs 0 0 QQ (F0 m 5 ls []) := by
    intro v2_5
    intro n_5
    induction n_5 with
    | zero => intro v3_5 v4_5 hm; have hm : (none : Option (Int32)) = some u := hm; cases hm
    | succ n_5 ih_5 =>
      intro v3_5 v4_5 hm H locs hP hD hS ls hl
      have hm : fG_birthsOf_5_b  (fG_birthsOf_5  v2_5 gGborn n_5) v2_5 gGborn v3_5 v4_5 = some u := hm
      unfold fG_birthsOf_5_b at hm
      refine lv_iload hx hb dX4_birthsOf_5 (lv_at hl 3 rfl) ?_
      refine lv_iload_n hx hb dX4_birthsOf_7 rfl (lv_at hl 1 rfl) ?_
      refine lv_icmp_ge (tgt := 34) hx hb dX4_birthsOf_8 (by decide) (fun c_1 => ?_) (fun c_1 => ?_)
      · have hm := it_pos c_1 hm
        refine lv_iload_n hx hb dX4_birthsOf_34 rfl (lv_at hl 2 rfl) ?_
        obtain rfl := Option.some.inj hm
        subst hQ
        exact W.iret (v := v3_5) hx hb hr (fun t ht hW => ⟨⟨_, (), rfl, rfl, by rw [ht]; exact hP, va_K.moved hW.alike hK, hAe ▸ hD⟩, hS.F ht⟩) hS.2.2 dX4_birthsOf_35
      · have hm := it_neg c_1 hm
        refine lv_iload hx hb dX4_birthsOf_11 (lv_at hl 3 rfl) ?_
        refine lv_bipush (v := 100) hx hb dX4_birthsOf_13 (by decide) ?_
        refine lv_icmp_ge (tgt := 34) hx hb dX4_birthsOf_15 (by decide) (fun c_2 => ?_) (fun c_2 => ?_)
        · have hm := it_pos c_2 hm
          refine lv_iload_n hx hb dX4_birthsOf_34 rfl (lv_at hl 2 rfl) ?_
          obtain rfl := Option.some.inj hm
          subst hQ
          exact W.iret (v := v3_5) hx hb hr (fun t ht hW => ⟨⟨_, (), rfl, rfl, by rw [ht]; exact hP, va_K.moved hW.alike hK, hAe ▸ hD⟩, hS.F ht⟩) hS.2.2 dX4_birthsOf_35
        · have hm := it_neg c_2 hm
          refine lv_iload_n hx hb dX4_birthsOf_18 rfl (lv_at hl 2 rfl) ?_
          refine lv_aload_n hx hb dX4_birthsOf_19 rfl (lv_at hl 0 rfl) ?_
          refine va_get (D := (dC, dI)) (ci := 4) (v := .ref (ad 36)) (C := RX4) (T := TX4) (N := 5) hx hb hts hinX4 hown hK hP 0 rfl rfl 2 (by decide) hl_18 (fun _ h9 => h9) rfl dX4_birthsOf_20 ?_
          refine lv_iload hx hb dX4_birthsOf_23 (lv_at hl 3 rfl) ?_
          obtain ⟨i_3, hm⟩ := ck_ok hm
          refine va_iald hx hb hK hP 1 0 rfl rfl i_3 dX4_birthsOf_25 ?_
          refine lv_iadd hx hb dX4_birthsOf_26 ?_
          refine lv_istore_n (lv' := [(3, .int (v3_5 + (gGborn v4_5.toNatClampNeg))), (0, .ref (ad 33)), (2, .int v2_5), (4, .int v4_5)]) hx hb dX4_birthsOf_27 rfl hl (by decide) rfl (fun ls hl => ?_)
          refine lv_iinc (v := (v4_5 + 1)) (lv' := [(4, .int (v4_5 + 1)), (3, .int (v3_5 + (gGborn v4_5.toNatClampNeg))), (0, .ref (ad 33)), (2, .int v2_5)]) hx hb dX4_birthsOf_28 hl (k := 3) rfl rfl (by decide) rfl (fun ls hl => ?_)
          refine lv_goto (tgt := 5) hx hb dX4_birthsOf_31 (by decide) ?_
          exact ih_5 _ _ hm _ _ hP hD hS _ (lv_sub hl [2, 3, 1, 0] rfl)
  unfold fG_birthsOf at hm
  refine lv_iconst (v := 0) hx hb dX4_birthsOf_0 (by decide) ?_
  refine lv_istore_n (lv' := [(3, .int 0), (0, .ref (ad 33)), (1, .int a1), (2, .int a2)]) hx hb dX4_birthsOf_1 rfl hl (by decide) rfl (fun ls hl => ?_)
  refine lv_iload_n hx hb dX4_birthsOf_2 rfl (lv_at hl 2 rfl) ?_
  refine lv_istore (lv' := [(4, .int a1), (3, .int 0), (0, .ref (ad 33)), (1, .int a1), (2, .int a2)]) hx hb dX4_birthsOf_3 hl (by decide) rfl (fun ls hl => ?_)
  exact h_5 _ _ _ _ hm _ _ hP hD hS _ (lv_sub hl [2, 4, 1, 0] rfl)

set_option maxHeartbeats 4000000 in
set_option maxRecDepth 100000 in
theorem kG_cannotBoth (l : Launch) (dC : Nat → ClassId) (dI : Nat → Nat → Nat) (cA : ClassId) (ad : Nat → Nat) (sz : Nat) (a1 : Int32) (a2 : Int32) (xReg_size : Int32) (gGyears : Nat → Int32) (gGcounted : Nat → Int32) (gGborn : Nat → Int32) (u : Int32) (hm : fG_cannotBoth a1 a2 gGyears gGcounted gGborn = some u) : Met l yX4_cannotBoth wsX4_cannotBoth ({ frames := 1, cells := 0, slots := 0, locals := 24 }) (va_Pc [.ref (ad 33), .int a1, .int a2] (fun U => U.heap.size = sz ∧ va_P (dC, dI) vwCl [oReg ad xReg_size, ar (ad 34) cA 8 gGyears, ar (ad 35) cA 8 gGcounted, ar (ad 36) cA 100 gGborn] U.heap ∧ va_K (dC, dI) vwCl [(cA, .int)] U ∧ va_D (fun _ => True) [oReg ad xReg_size, ar (ad 34) cA 8 gGyears, ar (ad 35) cA 8 gGcounted, ar (ad 36) cA 100 gGborn])) (va_Qi (fun (r : Int32) (_ : Unit) => r = u) (fun (_ : Unit) t => va_P (dC, dI) vwCl [oReg ad xReg_size, ar (ad 34) cA 8 gGyears, ar (ad 35) cA 8 gGcounted, ar (ad 36) cA 100 gGborn] t.heap ∧ va_K (dC, dI) vwCl [(cA, .int)] t ∧ va_D (va_A [oReg ad xReg_size, ar (ad 34) cA 8 gGyears, ar (ad 35) cA 8 gGcounted, ar (ad 36) cA 100 gGborn] sz) [oReg ad xReg_size, ar (ad 34) cA 8 gGyears, ar (ad 35) cA 8 gGcounted, ar (ad 36) cA 100 gGborn]) (va_A [oReg ad xReg_size, ar (ad 34) cA 8 gGyears, ar (ad 35) cA 8 gGcounted, ar (ad 36) cA 100 gGborn] sz)) 0 0 (va_A [oReg ad xReg_size, ar (ad 34) cA 8 gGyears, ar (ad 35) cA 8 gGcounted, ar (ad 36) cA 100 gGborn] sz) := by
  refine Met.ofW (cc := cX4_cannotBoth) (maxL := 5) (ret := (some .boolean)) (by decide) rfl ?_
  intro p e s m args below meth c s₁ B hml hv
  obtain ⟨rfl, hsz, hP, hK, hD0⟩ := hv
  have hx := B.exec
  have hb := B.bytes
  have hr := B.returns
  have hts := atoms_spec (ws := wsX4_cannotBoth) B.pre
  have hown : s.vm.findClass RX4 = some m.cls := findClass_of_methodNamed B.named
  have hlocks := B.notSynchronized
  subst hsz
  have hD := hD0.self (sz := s.heap.size)
  generalize hAe : va_A [oReg ad xReg_size, ar (ad 34) cA 8 gGyears, ar (ad 35) cA 8 gGcounted, ar (ad 36) cA 100 gGborn] s.heap.size = A at hD ⊢
  have hA : ∀ q : Nat, s.heap.size ≤ q → A q := fun q h => by rw [← hAe]; exact Or.inr h
  have hS : va_S A s.heap s.heap [] := va_S.rf
  have hl := lv_entry ([.ref (ad 33), .int a1, .int a2]) (n := 5) (Nat.le_of_ble_eq_true rfl)
  rw [lg_entry_eq]
  generalize (lg_sl ([.ref (ad 33), .int a1, .int a2]) ++ List.replicate (5 - (lg_sl ([.ref (ad 33), .int a1, .int a2])).length) Slot.unset).toArray = ls at hl ⊢
  have hl : lv_has ls 5 [(0, .ref (ad 33)), (1, .int a1), (2, .int a2)] := hl
  refine wk_Q (fun QQ hQ => ?_)
  have hinX4 : ∀ w ∈ wsX40, w ∈ wsX4_cannotBoth := fun w h => List.mem_cons_of_mem _ (inlX4 w h)
  have hl_15 := hts (.fieldLink RX4 15 "HandCensus$Register" "counted" "[I") (List.mem_cons_of_mem _ (in_r5 _ (List.mem_of_getElem? (i := 23) rfl)))
  have hl_11 := hts (.fieldLink RX4 11 "HandCensus$Register" "years" "[I") (List.mem_cons_of_mem _ (in_r5 _ (List.mem_of_getElem? (i := 22) rfl)))
  have b_67 : ∀ (v3_67 : Int32) (s0_67 : Int32), fG_cannotBoth_67 v3_67 s0_67 gGyears gGcounted gGborn = some u → ∀ (H : Heap) (locs : List Loc), va_P (dC, dI) vwCl [oReg ad xReg_size, ar (ad 34) cA 8 gGyears, ar (ad 35) cA 8 gGcounted, ar (ad 36) cA 100 gGborn] H → va_D A [oReg ad xReg_size, ar (ad 34) cA 8 gGyears, ar (ad 35) cA 8 gGcounted, ar (ad 36) cA 100 gGborn] → va_S A s.heap H locs → ∀ ls : Array Slot, lv_has ls 5 [(0, .ref (ad 33)), (3, .int v3_67)] → W p l e (headSpec wsX4_cannotBoth ({ frames := 1, cells := 0, slots := 0, locals := 24 })).room s m ([.ref (ad 33), .int a1, .int a2] : List Value).toArray below meth c H locs 0 0 QQ (F0 m 67 ls [.int s0_67]) := by
    intro v3_67 s0_67 hm H locs hP hD hS ls hl
    unfold fG_cannotBoth_67 at hm
    refine lv_istore (lv' := [(4, .int s0_67), (0, .ref (ad 33)), (3, .int v3_67)]) hx hb dX4_cannotBoth_67 hl (by decide) rfl (fun ls hl => ?_)
    refine lv_aload_n hx hb dX4_cannotBoth_69 rfl (lv_at hl 1 rfl) ?_
    refine va_get (D := (dC, dI)) (ci := 4) (v := .ref (ad 35)) (C := RX4) (T := TX4) (N := 5) hx hb hts hinX4 hown hK hP 0 rfl rfl 1 (by decide) hl_15 (fun _ h9 => h9) rfl dX4_cannotBoth_70 ?_
    refine lv_iload hx hb dX4_cannotBoth_73 (lv_at hl 0 rfl) ?_
    obtain ⟨i_1, hm⟩ := ck_ok hm
    refine va_iald hx hb hK hP 2 0 rfl rfl i_1 dX4_cannotBoth_75 ?_
    refine lv_aload_n hx hb dX4_cannotBoth_76 rfl (lv_at hl 1 rfl) ?_
    refine va_get (D := (dC, dI)) (ci := 4) (v := .ref (ad 35)) (C := RX4) (T := TX4) (N := 5) hx hb hts hinX4 hown hK hP 0 rfl rfl 1 (by decide) hl_15 (fun _ h9 => h9) rfl dX4_cannotBoth_77 ?_
    refine lv_iload_n hx hb dX4_cannotBoth_80 rfl (lv_at hl 2 rfl) ?_
    obtain ⟨i_2, hm⟩ := ck_ok hm
    refine va_iald hx hb hK hP 2 0 rfl rfl i_2 dX4_cannotBoth_81 ?_
    refine lv_aload_n hx hb dX4_cannotBoth_82 rfl (lv_at hl 1 rfl) ?_
    refine lv_aload_n hx hb dX4_cannotBoth_83 rfl (lv_at hl 1 rfl) ?_
    refine va_get (D := (dC, dI)) (ci := 4) (v := .ref (ad 34)) (C := RX4) (T := TX4) (N := 5) hx hb hts hinX4 hown hK hP 0 rfl rfl 0 (by decide) hl_11 (fun _ h9 => h9) rfl dX4_cannotBoth_84 ?_
    refine lv_iload_n hx hb dX4_cannotBoth_87 rfl (lv_at hl 2 rfl) ?_
    obtain ⟨i_3, hm⟩ := ck_ok hm
    refine va_iald hx hb hK hP 1 0 rfl rfl i_3 dX4_cannotBoth_88 ?_
    refine lv_aload_n hx hb dX4_cannotBoth_89 rfl (lv_at hl 1 rfl) ?_
    refine va_get (D := (dC, dI)) (ci := 4) (v := .ref (ad 34)) (C := RX4) (T := TX4) (N := 5) hx hb hts hinX4 hown hK hP 0 rfl rfl 0 (by decide) hl_11 (fun _ h9 => h9) rfl dX4_cannotBoth_90 ?_
    refine lv_iload hx hb dX4_cannotBoth_93 (lv_at hl 0 rfl) ?_
    obtain ⟨i_4, hm⟩ := ck_ok hm
    refine va_iald hx hb hK hP 1 0 rfl rfl i_4 dX4_cannotBoth_95 ?_
    have hPc := hP.sub (ws' := [oReg ad xReg_size, ar (ad 36) cA 100 gGborn]) [0, 3] rfl
    have hDc := hD.sub (ws' := [oReg ad xReg_size, ar (ad 36) cA 100 gGborn]) [0, 3] (by decide) rfl
    have hFc := va_free (wc := [oReg ad xReg_size, ar (ad 36) cA 100 gGborn]) hD hS hA [0, 3] rfl
    obtain ⟨u_5, hc_5, hm⟩ := bd_ok hm
    refine va_calli (va_runV (As := [.int (gGyears v3_67.toNatClampNeg), .int (gGyears s0_67.toNatClampNeg)]) (rest := [.int (gGcounted v3_67.toNatClampNeg), .int (gGcounted s0_67.toNatClampNeg)]) ⟨hx, hb, hml, hown, hts⟩ (kG_birthsOf l dC dI cA ad H.size (gGyears v3_67.toNatClampNeg) (gGyears s0_67.toNatClampNeg) xReg_size gGborn u_5 hc_5) (cwV 2 hts gX4_cannotBoth_X4_birthsOf rfl rfl rfl (by decide +kernel) ⟨Nat.le_of_ble_eq_true rfl, Nat.le_of_ble_eq_true rfl⟩) ⟨fun a U g mk q => by obtain ⟨q0, q1, qP, qK, qD⟩ := q; exact ⟨q0, q1, qP, va_K.moved (u := U) (U := U.calling g mk a) (Vm.Alike.refl U.vm) qK, qD⟩, va_recv hK hPc (ci := 4) (q0 := 0) rfl rfl, fun U hU hW => ⟨rfl, by rw [hU], by rw [hU]; exact hPc, va_K.moved hW.alike hK, hDc.weaken (fun _ _ _ _ => trivial)⟩⟩ rfl rfl hl.1 rfl (lv_room (Nat.le_of_ble_eq_true rfl)) dX4_cannotBoth_96 ⟨Nat.le_of_ble_eq_true rfl, Nat.le_of_ble_eq_true rfl⟩) hS (fun q _ h => hFc q h) hFc (fun r_5 _ t H1 locs ht hvm hw hB hz1 hk1 hS => ?_)
    obtain ⟨hP1, hK1, hD1⟩ := hB
    rw [ht] at hP1
    obtain ⟨hP, hD⟩ := va_join (wr := [ar (ad 34) cA 8 gGyears, ar (ad 35) cA 8 gGcounted]) (w1 := [oReg ad xReg_size, ar (ad 36) cA 100 gGborn]) hP hD [0, 3] [1, 2] rfl rfl (by decide) (by decide) hk1 hFc hP1 hD1
    clear hPc hDc hFc hP1 hK1 hD1 hk1 hz1 hvm ht
    generalize H1 = H at hP hS ⊢
    have hP : va_P (dC, dI) vwCl [oReg ad xReg_size, ar (ad 34) cA 8 gGyears, ar (ad 35) cA 8 gGcounted, ar (ad 36) cA 100 gGborn] H := hP.sub [2, 0, 1, 3] rfl
    have hD : va_D A [oReg ad xReg_size, ar (ad 34) cA 8 gGyears, ar (ad 35) cA 8 gGcounted, ar (ad 36) cA 100 gGborn] := hD.sub [2, 0, 1, 3] (by decide) rfl
    have hw := hw.symm
    subst hw
    refine lv_iadd hx hb dX4_cannotBoth_99 ?_
    refine lv_icmp_le (tgt := 107) hx hb dX4_cannotBoth_100 (by decide) (fun c_6 => ?_) (fun c_6 => ?_)
    · have hm := it_pos c_6 hm
      refine lv_iconst (v := 0) hx hb dX4_cannotBoth_107 (by decide) ?_
      obtain rfl := Option.some.inj hm
      subst hQ
      exact W.zret (v := 0) hx hb hr rfl (fun t ht hW => ⟨⟨_, (), rfl, rfl, by rw [ht]; exact hP, va_K.moved hW.alike hK, hAe ▸ hD⟩, hS.F ht⟩) hS.2.2 dX4_cannotBoth_108
    · have hm := it_neg c_6 hm
      refine lv_iconst (v := 1) hx hb dX4_cannotBoth_103 (by decide) ?_
      refine lv_goto (tgt := 108) hx hb dX4_cannotBoth_104 (by decide) ?_
      obtain rfl := Option.some.inj hm
      subst hQ
      exact W.zret (v := 1) hx hb hr rfl (fun t ht hW => ⟨⟨_, (), rfl, rfl, by rw [ht]; exact hP, va_K.moved hW.alike hK, hAe ▸ hD⟩, hS.F ht⟩) hS.2.2 dX4_cannotBoth_108
  have b_56 : ∀ (v1_56 : Int32) (v2_56 : Int32) (s0_56 : Int32), fG_cannotBoth_56 v1_56 v2_56 s0_56 gGyears gGcounted gGborn = some u → ∀ (H : Heap) (locs : List Loc), va_P (dC, dI) vwCl [oReg ad xReg_size, ar (ad 34) cA 8 gGyears, ar (ad 35) cA 8 gGcounted, ar (ad 36) cA 100 gGborn] H → va_D A [oReg ad xReg_size, ar (ad 34) cA 8 gGyears, ar (ad 35) cA 8 gGcounted, ar (ad 36) cA 100 gGborn] → va_S A s.heap H locs → ∀ ls : Array Slot, lv_has ls 5 [(0, .ref (ad 33)), (1, .int v1_56), (2, .int v2_56)] → W p l e (headSpec wsX4_cannotBoth ({ frames := 1, cells := 0, slots := 0, locals := 24 })).room s m ([.ref (ad 33), .int a1, .int a2] : List Value).toArray below meth c H locs 0 0 QQ (F0 m 56 ls [.int s0_56]) := by
    intro v1_56 v2_56 s0_56 hm H locs hP hD hS ls hl
    unfold fG_cannotBoth_56 at hm
    refine lv_istore_n (lv' := [(3, .int s0_56), (0, .ref (ad 33)), (1, .int v1_56), (2, .int v2_56)]) hx hb dX4_cannotBoth_56 rfl hl (by decide) rfl (fun ls hl => ?_)
    refine lv_iload_n hx hb dX4_cannotBoth_57 rfl (lv_at hl 0 rfl) ?_
    refine lv_iload_n hx hb dX4_cannotBoth_58 rfl (lv_at hl 2 rfl) ?_
    refine lv_icmp_ne (tgt := 66) hx hb dX4_cannotBoth_59 (by decide) (fun c_7 => ?_) (fun c_7 => ?_)
    · have hm := it_neg c_7 hm
      refine lv_iload_n hx hb dX4_cannotBoth_66 rfl (lv_at hl 2 rfl) ?_
      exact b_67 _ _ hm _ _ hP hD hS _ (lv_sub hl [1, 0] rfl)
    · have hm := it_pos c_7 hm
      refine lv_iload_n hx hb dX4_cannotBoth_62 rfl (lv_at hl 3 rfl) ?_
      refine lv_goto (tgt := 67) hx hb dX4_cannotBoth_63 (by decide) ?_
      exact b_67 _ _ hm _ _ hP hD hS _ (lv_sub hl [1, 0] rfl)
  unfold fG_cannotBoth at hm
  refine lv_aload_n hx hb dX4_cannotBoth_0 rfl (lv_at hl 0 rfl) ?_
  refine va_get (D := (dC, dI)) (ci := 4) (v := .ref (ad 34)) (C := RX4) (T := TX4) (N := 5) hx hb hts hinX4 hown hK hP 0 rfl rfl 0 (by decide) hl_11 (fun _ h9 => h9) rfl dX4_cannotBoth_1 ?_
  refine lv_iload_n hx hb dX4_cannotBoth_4 rfl (lv_at hl 1 rfl) ?_
  obtain ⟨i_8, hm⟩ := ck_ok hm
  refine va_iald hx hb hK hP 1 0 rfl rfl i_8 dX4_cannotBoth_5 ?_
  refine lv_aload_n hx hb dX4_cannotBoth_6 rfl (lv_at hl 0 rfl) ?_
  refine va_get (D := (dC, dI)) (ci := 4) (v := .ref (ad 34)) (C := RX4) (T := TX4) (N := 5) hx hb hts hinX4 hown hK hP 0 rfl rfl 0 (by decide) hl_11 (fun _ h9 => h9) rfl dX4_cannotBoth_7 ?_
  refine lv_iload_n hx hb dX4_cannotBoth_10 rfl (lv_at hl 2 rfl) ?_
  obtain ⟨i_9, hm⟩ := ck_ok hm
  refine va_iald hx hb hK hP 1 0 rfl rfl i_9 dX4_cannotBoth_11 ?_
  refine lv_icmp_ne (tgt := 36) hx hb dX4_cannotBoth_12 (by decide) (fun c_10 => ?_) (fun c_10 => ?_)
  · have hm := it_neg c_10 hm
    refine lv_aload_n hx hb dX4_cannotBoth_36 rfl (lv_at hl 0 rfl) ?_
    refine va_get (D := (dC, dI)) (ci := 4) (v := .ref (ad 34)) (C := RX4) (T := TX4) (N := 5) hx hb hts hinX4 hown hK hP 0 rfl rfl 0 (by decide) hl_11 (fun _ h9 => h9) rfl dX4_cannotBoth_37 ?_
    refine lv_iload_n hx hb dX4_cannotBoth_40 rfl (lv_at hl 1 rfl) ?_
    obtain ⟨i_11, hm⟩ := ck_ok hm
    refine va_iald hx hb hK hP 1 0 rfl rfl i_11 dX4_cannotBoth_41 ?_
    refine lv_aload_n hx hb dX4_cannotBoth_42 rfl (lv_at hl 0 rfl) ?_
    refine va_get (D := (dC, dI)) (ci := 4) (v := .ref (ad 34)) (C := RX4) (T := TX4) (N := 5) hx hb hts hinX4 hown hK hP 0 rfl rfl 0 (by decide) hl_11 (fun _ h9 => h9) rfl dX4_cannotBoth_43 ?_
    refine lv_iload_n hx hb dX4_cannotBoth_46 rfl (lv_at hl 2 rfl) ?_
    obtain ⟨i_12, hm⟩ := ck_ok hm
    refine va_iald hx hb hK hP 1 0 rfl rfl i_12 dX4_cannotBoth_47 ?_
    refine lv_icmp_ge (tgt := 55) hx hb dX4_cannotBoth_48 (by decide) (fun c_13 => ?_) (fun c_13 => ?_)
    · have hm := it_pos c_13 hm
      refine lv_iload_n hx hb dX4_cannotBoth_55 rfl (lv_at hl 2 rfl) ?_
      exact b_56 _ _ _ hm _ _ hP hD hS _ (lv_sub hl [0, 1, 2] rfl)
    · have hm := it_neg c_13 hm
      refine lv_iload_n hx hb dX4_cannotBoth_51 rfl (lv_at hl 1 rfl) ?_
      refine lv_goto (tgt := 56) hx hb dX4_cannotBoth_52 (by decide) ?_
      exact b_56 _ _ _ hm _ _ hP hD hS _ (lv_sub hl [0, 1, 2] rfl)
  · have hm := it_pos c_10 hm
    refine lv_aload_n hx hb dX4_cannotBoth_15 rfl (lv_at hl 0 rfl) ?_
    refine va_get (D := (dC, dI)) (ci := 4) (v := .ref (ad 35)) (C := RX4) (T := TX4) (N := 5) hx hb hts hinX4 hown hK hP 0 rfl rfl 1 (by decide) hl_15 (fun _ h9 => h9) rfl dX4_cannotBoth_16 ?_
    refine lv_iload_n hx hb dX4_cannotBoth_19 rfl (lv_at hl 1 rfl) ?_
    obtain ⟨i_14, hm⟩ := ck_ok hm
    refine va_iald hx hb hK hP 2 0 rfl rfl i_14 dX4_cannotBoth_20 ?_
    refine lv_aload_n hx hb dX4_cannotBoth_21 rfl (lv_at hl 0 rfl) ?_
    refine va_get (D := (dC, dI)) (ci := 4) (v := .ref (ad 35)) (C := RX4) (T := TX4) (N := 5) hx hb hts hinX4 hown hK hP 0 rfl rfl 1 (by decide) hl_15 (fun _ h9 => h9) rfl dX4_cannotBoth_22 ?_
    refine lv_iload_n hx hb dX4_cannotBoth_25 rfl (lv_at hl 2 rfl) ?_
    obtain ⟨i_15, hm⟩ := ck_ok hm
    refine va_iald hx hb hK hP 2 0 rfl rfl i_15 dX4_cannotBoth_26 ?_
    refine lv_icmp_eq (tgt := 34) hx hb dX4_cannotBoth_27 (by decide) (fun c_16 => ?_) (fun c_16 => ?_)
    · have hm := it_pos c_16 hm
      refine lv_iconst (v := 0) hx hb dX4_cannotBoth_34 (by decide) ?_
      obtain rfl := Option.some.inj hm
      subst hQ
      exact W.zret (v := 0) hx hb hr rfl (fun t ht hW => ⟨⟨_, (), rfl, rfl, by rw [ht]; exact hP, va_K.moved hW.alike hK, hAe ▸ hD⟩, hS.F ht⟩) hS.2.2 dX4_cannotBoth_35
    · have hm := it_neg c_16 hm
      refine lv_iconst (v := 1) hx hb dX4_cannotBoth_30 (by decide) ?_
      refine lv_goto (tgt := 35) hx hb dX4_cannotBoth_31 (by decide) ?_
      obtain rfl := Option.some.inj hm
      subst hQ
      exact W.zret (v := 1) hx hb hr rfl (fun t ht hW => ⟨⟨_, (), rfl, rfl, by rw [ht]; exact hP, va_K.moved hW.alike hK, hAe ▸ hD⟩, hS.F ht⟩) hS.2.2 dX4_cannotBoth_35

set_option maxHeartbeats 4000000 in
set_option maxRecDepth 100000 in
theorem kC_cannot (l : Launch) (dC : Nat → ClassId) (dI : Nat → Nat → Nat) (cA : ClassId) (ad : Nat → Nat) (sz : Nat) (a1 : Int32) (a2 : Int32) (xHC_first : Int32) (xHC_second : Int32) (xHC_when : Int32) (xHC_ran : Int32) (xReg_size : Int32) (gGyears : Nat → Int32) (gGcounted : Nat → Int32) (gGborn : Nat → Int32) (u : Int32) (hm : fC_cannot a1 a2 xReg_size gGyears gGcounted gGborn = some u) : Met l yX9_cannot wsX9_cannot ({ frames := 2, cells := 0, slots := 0, locals := 48 }) (va_Pc [.ref (ad 0), .int a1, .int a2] (fun U => U.heap.size = sz ∧ va_P (dC, dI) vwCl [oHC ad xHC_first xHC_second xHC_when xHC_ran, oReg ad xReg_size, ar (ad 34) cA 8 gGyears, ar (ad 35) cA 8 gGcounted, ar (ad 36) cA 100 gGborn] U.heap ∧ va_K (dC, dI) vwCl [(cA, .int)] U ∧ va_D (fun _ => True) [oHC ad xHC_first xHC_second xHC_when xHC_ran, oReg ad xReg_size, ar (ad 34) cA 8 gGyears, ar (ad 35) cA 8 gGcounted, ar (ad 36) cA 100 gGborn])) (va_Qi (fun (r : Int32) (_ : Unit) => r = u) (fun (_ : Unit) t => va_P (dC, dI) vwCl [oHC ad xHC_first xHC_second xHC_when xHC_ran, oReg ad xReg_size, ar (ad 34) cA 8 gGyears, ar (ad 35) cA 8 gGcounted, ar (ad 36) cA 100 gGborn] t.heap ∧ va_K (dC, dI) vwCl [(cA, .int)] t ∧ va_D (va_A [oHC ad xHC_first xHC_second xHC_when xHC_ran, oReg ad xReg_size, ar (ad 34) cA 8 gGyears, ar (ad 35) cA 8 gGcounted, ar (ad 36) cA 100 gGborn] sz) [oHC ad xHC_first xHC_second xHC_when xHC_ran, oReg ad xReg_size, ar (ad 34) cA 8 gGyears, ar (ad 35) cA 8 gGcounted, ar (ad 36) cA 100 gGborn]) (va_A [oHC ad xHC_first xHC_second xHC_when xHC_ran, oReg ad xReg_size, ar (ad 34) cA 8 gGyears, ar (ad 35) cA 8 gGcounted, ar (ad 36) cA 100 gGborn] sz)) 0 0 (va_A [oHC ad xHC_first xHC_second xHC_when xHC_ran, oReg ad xReg_size, ar (ad 34) cA 8 gGyears, ar (ad 35) cA 8 gGcounted, ar (ad 36) cA 100 gGborn] sz) := by
  refine Met.ofW (cc := cX9_cannot) (maxL := 3) (ret := (some .int)) (by decide) rfl ?_
  intro p e s m args below meth c s₁ B hml hv
  obtain ⟨rfl, hsz, hP, hK, hD0⟩ := hv
  have hx := B.exec
  have hb := B.bytes
  have hr := B.returns
  have hts := atoms_spec (ws := wsX9_cannot) B.pre
  have hown : s.vm.findClass RX9 = some m.cls := findClass_of_methodNamed B.named
  have hlocks := B.notSynchronized
  subst hsz
  have hD := hD0.self (sz := s.heap.size)
  generalize hAe : va_A [oHC ad xHC_first xHC_second xHC_when xHC_ran, oReg ad xReg_size, ar (ad 34) cA 8 gGyears, ar (ad 35) cA 8 gGcounted, ar (ad 36) cA 100 gGborn] s.heap.size = A at hD ⊢
  have hA : ∀ q : Nat, s.heap.size ≤ q → A q := fun q h => by rw [← hAe]; exact Or.inr h
  have hS : va_S A s.heap s.heap [] := va_S.rf
  have hl := lv_entry ([.ref (ad 0), .int a1, .int a2]) (n := 3) (Nat.le_of_ble_eq_true rfl)
  rw [lg_entry_eq]
  generalize (lg_sl ([.ref (ad 0), .int a1, .int a2]) ++ List.replicate (3 - (lg_sl ([.ref (ad 0), .int a1, .int a2])).length) Slot.unset).toArray = ls at hl ⊢
  have hl : lv_has ls 3 [(0, .ref (ad 0)), (1, .int a1), (2, .int a2)] := hl
  refine wk_Q (fun QQ hQ => ?_)
  have hinX9 : ∀ w ∈ wsX90, w ∈ wsX9_cannot := fun w h => List.mem_cons_of_mem _ (inlX9 w h)
  have hl_61 := hts (.fieldLink RX9 61 "HandCensus" "register" "LHandCensus$Register;") (List.mem_cons_of_mem _ (in_r2 _ (List.mem_of_getElem? (i := 18) rfl)))
  unfold fC_cannot at hm
  refine lv_aload_n hx hb dX9_cannot_0 rfl (lv_at hl 0 rfl) ?_
  refine va_get (D := (dC, dI)) (ci := 9) (v := .ref (ad 33)) (C := RX9) (T := TX9) (N := 12) hx hb hts hinX9 hown hK hP 0 rfl rfl 6 (by decide) hl_61 (fun _ h9 => h9) rfl dX9_cannot_1 ?_
  refine lv_iload_n hx hb dX9_cannot_4 rfl (lv_at hl 1 rfl) ?_
  have hPc := hP.sub (ws' := [oReg ad xReg_size]) [1] rfl
  have hDc := hD.sub (ws' := [oReg ad xReg_size]) [1] (by decide) rfl
  have hFc := va_free (wc := [oReg ad xReg_size]) hD hS hA [1] rfl
  obtain ⟨u_1, hc_1, hm⟩ := bd_ok hm
  refine va_calli (va_runV (As := [.int a1]) (rest := []) ⟨hx, hb, hml, hown, hts⟩ (kG_isCensus l dC dI cA ad s.heap.size a1 xReg_size u_1 hc_1) (cwV 1 hts gX9_cannot_X4_isCensus rfl rfl rfl (by decide +kernel) ⟨Nat.le_of_ble_eq_true rfl, Nat.le_of_ble_eq_true rfl⟩) ⟨fun a U g mk q => by obtain ⟨q0, q1, qP, qK, qD⟩ := q; exact ⟨q0, q1, qP, va_K.moved (u := U) (U := U.calling g mk a) (Vm.Alike.refl U.vm) qK, qD⟩, va_recv hK hPc (ci := 4) (q0 := 0) rfl rfl, fun U hU hW => ⟨rfl, by rw [hU], by rw [hU]; exact hPc, va_K.moved hW.alike hK, hDc.weaken (fun _ _ _ _ => trivial)⟩⟩ rfl rfl hl.1 rfl (lv_room (Nat.le_of_ble_eq_true rfl)) dX9_cannot_5 ⟨Nat.le_of_ble_eq_true rfl, Nat.le_of_ble_eq_true rfl⟩) hS (fun q _ h => hFc q h) hFc (fun r_1 _ t H1 locs ht hvm hw hB hz1 hk1 hS => ?_)
  obtain ⟨hP1, hK1, hD1⟩ := hB
  rw [ht] at hP1
  obtain ⟨hP, hD⟩ := va_join (wr := [oHC ad xHC_first xHC_second xHC_when xHC_ran, ar (ad 34) cA 8 gGyears, ar (ad 35) cA 8 gGcounted, ar (ad 36) cA 100 gGborn]) (w1 := [oReg ad xReg_size]) hP hD [1] [0, 2, 3, 4] rfl rfl (by decide) (by decide) hk1 hFc hP1 hD1
  clear hPc hDc hFc hP1 hK1 hD1 hk1 hz1 hvm ht
  generalize H1 = H at hP hS ⊢
  have hP : va_P (dC, dI) vwCl [oHC ad xHC_first xHC_second xHC_when xHC_ran, oReg ad xReg_size, ar (ad 34) cA 8 gGyears, ar (ad 35) cA 8 gGcounted, ar (ad 36) cA 100 gGborn] H := hP.sub [0, 4, 1, 2, 3] rfl
  have hD : va_D A [oHC ad xHC_first xHC_second xHC_when xHC_ran, oReg ad xReg_size, ar (ad 34) cA 8 gGyears, ar (ad 35) cA 8 gGcounted, ar (ad 36) cA 100 gGborn] := hD.sub [0, 4, 1, 2, 3] (by decide) rfl
  have hw := hw.symm
  subst hw
  refine lv_if_eq (tgt := 27) hx hb dX9_cannot_8 (by decide) (fun c_2 => ?_) (fun c_2 => ?_)
  · have hm := it_pos c_2 hm
    refine lv_bipush (v := (-2)) hx hb dX9_cannot_27 (by decide) ?_
    obtain rfl := Option.some.inj hm
    subst hQ
    exact W.iret (v := (-2)) hx hb hr (fun t ht hW => ⟨⟨_, (), rfl, rfl, by rw [ht]; exact hP, va_K.moved hW.alike hK, hAe ▸ hD⟩, hS.F ht⟩) hS.2.2 dX9_cannot_29
  · have hm := it_neg c_2 hm
    refine lv_aload_n hx hb dX9_cannot_11 rfl (lv_at hl 0 rfl) ?_
    refine va_get (D := (dC, dI)) (ci := 9) (v := .ref (ad 33)) (C := RX9) (T := TX9) (N := 12) hx hb hts hinX9 hown hK hP 0 rfl rfl 6 (by decide) hl_61 (fun _ h9 => h9) rfl dX9_cannot_12 ?_
    refine lv_iload_n hx hb dX9_cannot_15 rfl (lv_at hl 2 rfl) ?_
    have hPc := hP.sub (ws' := [oReg ad xReg_size]) [1] rfl
    have hDc := hD.sub (ws' := [oReg ad xReg_size]) [1] (by decide) rfl
    have hFc := va_free (wc := [oReg ad xReg_size]) hD hS hA [1] rfl
    obtain ⟨u_3, hc_3, hm⟩ := bd_ok hm
    refine va_calli (va_runV (As := [.int a2]) (rest := []) ⟨hx, hb, hml, hown, hts⟩ (kG_isCensus l dC dI cA ad H.size a2 xReg_size u_3 hc_3) (cwV 1 hts gX9_cannot_X4_isCensus rfl rfl rfl (by decide +kernel) ⟨Nat.le_of_ble_eq_true rfl, Nat.le_of_ble_eq_true rfl⟩) ⟨fun a U g mk q => by obtain ⟨q0, q1, qP, qK, qD⟩ := q; exact ⟨q0, q1, qP, va_K.moved (u := U) (U := U.calling g mk a) (Vm.Alike.refl U.vm) qK, qD⟩, va_recv hK hPc (ci := 4) (q0 := 0) rfl rfl, fun U hU hW => ⟨rfl, by rw [hU], by rw [hU]; exact hPc, va_K.moved hW.alike hK, hDc.weaken (fun _ _ _ _ => trivial)⟩⟩ rfl rfl hl.1 rfl (lv_room (Nat.le_of_ble_eq_true rfl)) dX9_cannot_16 ⟨Nat.le_of_ble_eq_true rfl, Nat.le_of_ble_eq_true rfl⟩) hS (fun q _ h => hFc q h) hFc (fun r_3 _ t H1 locs ht hvm hw hB hz1 hk1 hS => ?_)
    obtain ⟨hP1, hK1, hD1⟩ := hB
    rw [ht] at hP1
    obtain ⟨hP, hD⟩ := va_join (wr := [oHC ad xHC_first xHC_second xHC_when xHC_ran, ar (ad 34) cA 8 gGyears, ar (ad 35) cA 8 gGcounted, ar (ad 36) cA 100 gGborn]) (w1 := [oReg ad xReg_size]) hP hD [1] [0, 2, 3, 4] rfl rfl (by decide) (by decide) hk1 hFc hP1 hD1
    clear hPc hDc hFc hP1 hK1 hD1 hk1 hz1 hvm ht
    generalize H1 = H at hP hS ⊢
    have hP : va_P (dC, dI) vwCl [oHC ad xHC_first xHC_second xHC_when xHC_ran, oReg ad xReg_size, ar (ad 34) cA 8 gGyears, ar (ad 35) cA 8 gGcounted, ar (ad 36) cA 100 gGborn] H := hP.sub [0, 4, 1, 2, 3] rfl
    have hD : va_D A [oHC ad xHC_first xHC_second xHC_when xHC_ran, oReg ad xReg_size, ar (ad 34) cA 8 gGyears, ar (ad 35) cA 8 gGcounted, ar (ad 36) cA 100 gGborn] := hD.sub [0, 4, 1, 2, 3] (by decide) rfl
    have hw := hw.symm
    subst hw
    refine lv_if_eq (tgt := 27) hx hb dX9_cannot_19 (by decide) (fun c_4 => ?_) (fun c_4 => ?_)
    · have hm := it_pos c_4 hm
      refine lv_bipush (v := (-2)) hx hb dX9_cannot_27 (by decide) ?_
      obtain rfl := Option.some.inj hm
      subst hQ
      exact W.iret (v := (-2)) hx hb hr (fun t ht hW => ⟨⟨_, (), rfl, rfl, by rw [ht]; exact hP, va_K.moved hW.alike hK, hAe ▸ hD⟩, hS.F ht⟩) hS.2.2 dX9_cannot_29
    · have hm := it_neg c_4 hm
      refine lv_iload_n hx hb dX9_cannot_22 rfl (lv_at hl 1 rfl) ?_
      refine lv_iload_n hx hb dX9_cannot_23 rfl (lv_at hl 2 rfl) ?_
      refine lv_icmp_ne (tgt := 30) hx hb dX9_cannot_24 (by decide) (fun c_5 => ?_) (fun c_5 => ?_)
      · have hm := it_neg c_5 hm
        refine lv_aload_n hx hb dX9_cannot_30 rfl (lv_at hl 0 rfl) ?_
        refine va_get (D := (dC, dI)) (ci := 9) (v := .ref (ad 33)) (C := RX9) (T := TX9) (N := 12) hx hb hts hinX9 hown hK hP 0 rfl rfl 6 (by decide) hl_61 (fun _ h9 => h9) rfl dX9_cannot_31 ?_
        refine lv_iload_n hx hb dX9_cannot_34 rfl (lv_at hl 1 rfl) ?_
        refine lv_iload_n hx hb dX9_cannot_35 rfl (lv_at hl 2 rfl) ?_
        have hPc := hP.sub (ws' := [oReg ad xReg_size, ar (ad 34) cA 8 gGyears, ar (ad 35) cA 8 gGcounted, ar (ad 36) cA 100 gGborn]) [1, 2, 3, 4] rfl
        have hDc := hD.sub (ws' := [oReg ad xReg_size, ar (ad 34) cA 8 gGyears, ar (ad 35) cA 8 gGcounted, ar (ad 36) cA 100 gGborn]) [1, 2, 3, 4] (by decide) rfl
        have hFc := va_free (wc := [oReg ad xReg_size, ar (ad 34) cA 8 gGyears, ar (ad 35) cA 8 gGcounted, ar (ad 36) cA 100 gGborn]) hD hS hA [1, 2, 3, 4] rfl
        obtain ⟨u_6, hc_6, hm⟩ := bd_ok hm
        refine va_calli (va_runV (As := [.int a1, .int a2]) (rest := []) ⟨hx, hb, hml, hown, hts⟩ (kG_cannotBoth l dC dI cA ad H.size a1 a2 xReg_size gGyears gGcounted gGborn u_6 hc_6) (cwV 2 hts gX9_cannot_X4_cannotBoth rfl rfl rfl (by decide +kernel) ⟨Nat.le_of_ble_eq_true rfl, Nat.le_of_ble_eq_true rfl⟩) ⟨fun a U g mk q => by obtain ⟨q0, q1, qP, qK, qD⟩ := q; exact ⟨q0, q1, qP, va_K.moved (u := U) (U := U.calling g mk a) (Vm.Alike.refl U.vm) qK, qD⟩, va_recv hK hPc (ci := 4) (q0 := 0) rfl rfl, fun U hU hW => ⟨rfl, by rw [hU], by rw [hU]; exact hPc, va_K.moved hW.alike hK, hDc.weaken (fun _ _ _ _ => trivial)⟩⟩ rfl rfl hl.1 rfl (lv_room (Nat.le_of_ble_eq_true rfl)) dX9_cannot_36 ⟨Nat.le_of_ble_eq_true rfl, Nat.le_of_ble_eq_true rfl⟩) hS (fun q _ h => hFc q h) hFc (fun r_6 _ t H1 locs ht hvm hw hB hz1 hk1 hS => ?_)
        obtain ⟨hP1, hK1, hD1⟩ := hB
        rw [ht] at hP1
        obtain ⟨hP, hD⟩ := va_join (wr := [oHC ad xHC_first xHC_second xHC_when xHC_ran]) (w1 := [oReg ad xReg_size, ar (ad 34) cA 8 gGyears, ar (ad 35) cA 8 gGcounted, ar (ad 36) cA 100 gGborn]) hP hD [1, 2, 3, 4] [0] rfl rfl (by decide) (by decide) hk1 hFc hP1 hD1
        clear hPc hDc hFc hP1 hK1 hD1 hk1 hz1 hvm ht
        generalize H1 = H at hP hS ⊢
        have hP : va_P (dC, dI) vwCl [oHC ad xHC_first xHC_second xHC_when xHC_ran, oReg ad xReg_size, ar (ad 34) cA 8 gGyears, ar (ad 35) cA 8 gGcounted, ar (ad 36) cA 100 gGborn] H := hP
        have hD : va_D A [oHC ad xHC_first xHC_second xHC_when xHC_ran, oReg ad xReg_size, ar (ad 34) cA 8 gGyears, ar (ad 35) cA 8 gGcounted, ar (ad 36) cA 100 gGborn] := hD
        have hw := hw.symm
        subst hw
        refine lv_if_eq (tgt := 46) hx hb dX9_cannot_39 (by decide) (fun c_7 => ?_) (fun c_7 => ?_)
        · have hm := it_pos c_7 hm
          refine lv_iconst (v := 0) hx hb dX9_cannot_46 (by decide) ?_
          obtain rfl := Option.some.inj hm
          subst hQ
          exact W.iret (v := 0) hx hb hr (fun t ht hW => ⟨⟨_, (), rfl, rfl, by rw [ht]; exact hP, va_K.moved hW.alike hK, hAe ▸ hD⟩, hS.F ht⟩) hS.2.2 dX9_cannot_47
        · have hm := it_neg c_7 hm
          refine lv_iconst (v := 1) hx hb dX9_cannot_42 (by decide) ?_
          refine lv_goto (tgt := 47) hx hb dX9_cannot_43 (by decide) ?_
          obtain rfl := Option.some.inj hm
          subst hQ
          exact W.iret (v := 1) hx hb hr (fun t ht hW => ⟨⟨_, (), rfl, rfl, by rw [ht]; exact hP, va_K.moved hW.alike hK, hAe ▸ hD⟩, hS.F ht⟩) hS.2.2 dX9_cannot_47
      · have hm := it_pos c_5 hm
        refine lv_bipush (v := (-2)) hx hb dX9_cannot_27 (by decide) ?_
        obtain rfl := Option.some.inj hm
        subst hQ
        exact W.iret (v := (-2)) hx hb hr (fun t ht hW => ⟨⟨_, (), rfl, rfl, by rw [ht]; exact hP, va_K.moved hW.alike hK, hAe ▸ hD⟩, hS.F ht⟩) hS.2.2 dX9_cannot_29

set_option maxHeartbeats 4000000 in
set_option maxRecDepth 100000 in
theorem kG_findConflicts (l : Launch) (dC : Nat → ClassId) (dI : Nat → Nat → Nat) (cA : ClassId) (ad : Nat → Nat) (sz : Nat) (xReg_size : Int32) (gGyears : Nat → Int32) (gGcounted : Nat → Int32) (gGborn : Nat → Int32) (gGconf : Nat → Int32) (u : (Nat → Int32)) (hm : fG_findConflicts xReg_size gGyears gGcounted gGborn gGconf = some u) : Met l yX4_findConflicts wsX4_findConflicts ({ frames := 2, cells := 0, slots := 0, locals := 48 }) (va_Pc [.ref (ad 33)] (fun U => U.heap.size = sz ∧ va_P (dC, dI) vwCl [oReg ad xReg_size, ar (ad 34) cA 8 gGyears, ar (ad 35) cA 8 gGcounted, ar (ad 36) cA 100 gGborn, ar (ad 37) cA 8 gGconf] U.heap ∧ va_K (dC, dI) vwCl [(cA, .int)] U ∧ va_D (fun _ => True) [oReg ad xReg_size, ar (ad 34) cA 8 gGyears, ar (ad 35) cA 8 gGcounted, ar (ad 36) cA 100 gGborn, ar (ad 37) cA 8 gGconf])) (va_Qv (fun (_ : Unit) => True) (fun (_ : Unit) t => va_P (dC, dI) vwCl [oReg ad xReg_size, ar (ad 34) cA 8 gGyears, ar (ad 35) cA 8 gGcounted, ar (ad 36) cA 100 gGborn, ar (ad 37) cA 8 u] t.heap ∧ va_K (dC, dI) vwCl [(cA, .int)] t ∧ va_D (va_A [oReg ad xReg_size, ar (ad 34) cA 8 gGyears, ar (ad 35) cA 8 gGcounted, ar (ad 36) cA 100 gGborn, ar (ad 37) cA 8 gGconf] sz) [oReg ad xReg_size, ar (ad 34) cA 8 gGyears, ar (ad 35) cA 8 gGcounted, ar (ad 36) cA 100 gGborn, ar (ad 37) cA 8 u]) (va_A [oReg ad xReg_size, ar (ad 34) cA 8 gGyears, ar (ad 35) cA 8 gGcounted, ar (ad 36) cA 100 gGborn, ar (ad 37) cA 8 gGconf] sz)) 0 0 (va_A [oReg ad xReg_size, ar (ad 34) cA 8 gGyears, ar (ad 35) cA 8 gGcounted, ar (ad 36) cA 100 gGborn, ar (ad 37) cA 8 gGconf] sz) := by
  refine Met.ofW (cc := cX4_findConflicts) (maxL := 3) (ret := none) (by decide) rfl ?_
  intro p e s m args below meth c s₁ B hml hv
  obtain ⟨rfl, hsz, hP, hK, hD0⟩ := hv
  have hx := B.exec
  have hb := B.bytes
  have hr := B.returns
  have hts := atoms_spec (ws := wsX4_findConflicts) B.pre
  have hown : s.vm.findClass RX4 = some m.cls := findClass_of_methodNamed B.named
  have hlocks := B.notSynchronized
  subst hsz
  have hD := hD0.self (sz := s.heap.size)
  generalize hAe : va_A [oReg ad xReg_size, ar (ad 34) cA 8 gGyears, ar (ad 35) cA 8 gGcounted, ar (ad 36) cA 100 gGborn, ar (ad 37) cA 8 gGconf] s.heap.size = A at hD ⊢
  have hA : ∀ q : Nat, s.heap.size ≤ q → A q := fun q h => by rw [← hAe]; exact Or.inr h
  have hS : va_S A s.heap s.heap [] := va_S.rf
  have hl := lv_entry ([.ref (ad 33)]) (n := 3) (Nat.le_of_ble_eq_true rfl)
  rw [lg_entry_eq]
  generalize (lg_sl ([.ref (ad 33)]) ++ List.replicate (3 - (lg_sl ([.ref (ad 33)])).length) Slot.unset).toArray = ls at hl ⊢
  have hl : lv_has ls 3 [(0, .ref (ad 33))] := hl
  refine wk_Q (fun QQ hQ => ?_)
  have hinX4 : ∀ w ∈ wsX40, w ∈ wsX4_findConflicts := fun w h => List.mem_cons_of_mem _ (inlX4 w h)
  have hl_21 := hts (.fieldLink RX4 21 "HandCensus$Register" "conflicts" "[I") (List.mem_cons_of_mem _ (in_r6 _ (List.mem_of_getElem? (i := 1) rfl)))
  have hl_24 := hts (.fieldLink RX4 24 "HandCensus$Register" "size" "I") (List.mem_cons_of_mem _ (in_r6 _ (List.mem_of_getElem? (i := 2) rfl)))
  have h_10 : ∀ (n_10 : Nat), ∀ (v1_10 : Int32) (gGconf_10 : Nat → Int32), fG_findConflicts_10 xReg_size gGyears gGcounted gGborn n_10 v1_10 gGconf_10 = some u → ∀ (H : Heap) (locs : List Loc), va_P (dC, dI) vwCl [oReg ad xReg_size, ar (ad 34) cA 8 gGyears, ar (ad 35) cA 8 gGcounted, ar (ad 36) cA 100 gGborn, ar (ad 37) cA 8 gGconf_10] H → va_D A [oReg ad xReg_size, ar (ad 34) cA 8 gGyears, ar (ad 35) cA 8 gGcounted, ar (ad 36) cA 100 gGborn, ar (ad 37) cA 8 gGconf_10] → va_S A s.heap H locs → ∀ ls : Array Slot, lv_has ls 3 [(0, .ref (ad 33)), (1, .int v1_10)] → W p l e (headSpec wsX4_findConflicts ({ frames := 2, cells := 0, slots := 0, locals := 48 })).room s m ([.ref (ad 33)] : List Value).toArray below meth c H locs 0 0 QQ (F0 m 10 ls []) := by
    intro n_10
    induction n_10 with
    | zero => intro v1_10 gGconf_10 hm; have hm : (none : Option ((Nat → Int32))) = some u := hm; cases hm
    | succ n_10 ih_10 =>
      have h_20 : ∀ (v1_20 : Int32), ∀ (n_20 : Nat), ∀ (v2_20 : Int32) (gGconf_20 : Nat → Int32), fG_findConflicts_20 (fG_findConflicts_10  xReg_size gGyears gGcounted gGborn n_10) v1_20 xReg_size gGyears gGcounted gGborn n_20 v2_20 gGconf_20 = some u → ∀ (H : Heap) (locs : List Loc), va_P (dC, dI) vwCl [oReg ad xReg_size, ar (ad 34) cA 8 gGyears, ar (ad 35) cA 8 gGcounted, ar (ad 36) cA 100 gGborn, ar (ad 37) cA 8 gGconf_20] H → va_D A [oReg ad xReg_size, ar (ad 34) cA 8 gGyears, ar (ad 35) cA 8 gGcounted, ar (ad 36) cA 100 gGborn, ar (ad 37) cA 8 gGconf_20] → va_S A s.heap H locs → ∀ ls : Array Slot, lv_has ls 3 [(0, .ref (ad 33)), (1, .int v1_20), (2, .int v2_20)] → W p l e (headSpec wsX4_findConflicts ({ frames := 2, cells := 0, slots := 0, locals := 48 })).room s m ([.ref (ad 33)] : List Value).toArray below meth c H locs 0 0 QQ (F0 m 20 ls []) := by
        intro v1_20
        intro n_20
        induction n_20 with
        | zero => intro v2_20 gGconf_20 hm; have hm : (none : Option ((Nat → Int32))) = some u := hm; cases hm
        | succ n_20 ih_20 =>
          have b_58 : ∀ (v2_58 : Int32) (gGconf_58 : Nat → Int32), fG_findConflicts_58 (fG_findConflicts_10  xReg_size gGyears gGcounted gGborn n_10) (fG_findConflicts_20 (fG_findConflicts_10  xReg_size gGyears gGcounted gGborn n_10) v1_20 xReg_size gGyears gGcounted gGborn n_20) v1_20 v2_58 xReg_size gGyears gGcounted gGborn gGconf_58 = some u → ∀ (H : Heap) (locs : List Loc), va_P (dC, dI) vwCl [oReg ad xReg_size, ar (ad 34) cA 8 gGyears, ar (ad 35) cA 8 gGcounted, ar (ad 36) cA 100 gGborn, ar (ad 37) cA 8 gGconf_58] H → va_D A [oReg ad xReg_size, ar (ad 34) cA 8 gGyears, ar (ad 35) cA 8 gGcounted, ar (ad 36) cA 100 gGborn, ar (ad 37) cA 8 gGconf_58] → va_S A s.heap H locs → ∀ ls : Array Slot, lv_has ls 3 [(0, .ref (ad 33)), (1, .int v1_20), (2, .int v2_58)] → W p l e (headSpec wsX4_findConflicts ({ frames := 2, cells := 0, slots := 0, locals := 48 })).room s m ([.ref (ad 33)] : List Value).toArray below meth c H locs 0 0 QQ (F0 m 58 ls []) := by
            intro v2_58 gGconf_58 hm H locs hP hD hS ls hl
            unfold fG_findConflicts_58 at hm
            refine lv_iinc (v := (v2_58 + 1)) (lv' := [(2, .int (v2_58 + 1)), (0, .ref (ad 33)), (1, .int v1_20)]) hx hb dX4_findConflicts_58 hl (k := 2) rfl rfl (by decide) rfl (fun ls hl => ?_)
            refine lv_goto (tgt := 20) hx hb dX4_findConflicts_61 (by decide) ?_
            exact ih_20 _ _ hm _ _ hP hD hS _ (lv_sub hl [1, 2, 0] rfl)
          intro v2_20 gGconf_20 hm H locs hP hD hS ls hl
          have hm : fG_findConflicts_20_b (fG_findConflicts_10  xReg_size gGyears gGcounted gGborn n_10) (fG_findConflicts_20 (fG_findConflicts_10  xReg_size gGyears gGcounted gGborn n_10) v1_20 xReg_size gGyears gGcounted gGborn n_20) v1_20 xReg_size gGyears gGcounted gGborn v2_20 gGconf_20 = some u := hm
          unfold fG_findConflicts_20_b at hm
          refine lv_iload_n hx hb dX4_findConflicts_20 rfl (lv_at hl 2 rfl) ?_
          refine lv_iload_n hx hb dX4_findConflicts_21 rfl (lv_at hl 1 rfl) ?_
          refine lv_icmp_ge (tgt := 64) hx hb dX4_findConflicts_22 (by decide) (fun c_1 => ?_) (fun c_1 => ?_)
          · have hm := it_pos c_1 hm
            refine lv_iinc (v := (v1_20 + 1)) (lv' := [(1, .int (v1_20 + 1)), (0, .ref (ad 33)), (2, .int v2_20)]) hx hb dX4_findConflicts_64 hl (k := 1) rfl rfl (by decide) rfl (fun ls hl => ?_)
            refine lv_goto (tgt := 10) hx hb dX4_findConflicts_67 (by decide) ?_
            exact ih_10 _ _ hm _ _ hP hD hS _ (lv_sub hl [1, 0] rfl)
          · have hm := it_neg c_1 hm
            refine lv_aload_n hx hb dX4_findConflicts_25 rfl (lv_at hl 0 rfl) ?_
            refine lv_iload_n hx hb dX4_findConflicts_26 rfl (lv_at hl 1 rfl) ?_
            refine lv_iload_n hx hb dX4_findConflicts_27 rfl (lv_at hl 2 rfl) ?_
            have hPc := hP.sub (ws' := [oReg ad xReg_size, ar (ad 34) cA 8 gGyears, ar (ad 35) cA 8 gGcounted, ar (ad 36) cA 100 gGborn]) [0, 1, 2, 3] rfl
            have hDc := hD.sub (ws' := [oReg ad xReg_size, ar (ad 34) cA 8 gGyears, ar (ad 35) cA 8 gGcounted, ar (ad 36) cA 100 gGborn]) [0, 1, 2, 3] (by decide) rfl
            have hFc := va_free (wc := [oReg ad xReg_size, ar (ad 34) cA 8 gGyears, ar (ad 35) cA 8 gGcounted, ar (ad 36) cA 100 gGborn]) hD hS hA [0, 1, 2, 3] rfl
            obtain ⟨u_2, hc_2, hm⟩ := bd_ok hm
            refine va_calli (va_runV (As := [.int v1_20, .int v2_20]) (rest := []) ⟨hx, hb, hml, hown, hts⟩ (kG_cannotBoth l dC dI cA ad H.size v1_20 v2_20 xReg_size gGyears gGcounted gGborn u_2 hc_2) (cwV 2 hts gX4_findConflicts_X4_cannotBoth rfl rfl rfl (by decide +kernel) ⟨Nat.le_of_ble_eq_true rfl, Nat.le_of_ble_eq_true rfl⟩) ⟨fun a U g mk q => by obtain ⟨q0, q1, qP, qK, qD⟩ := q; exact ⟨q0, q1, qP, va_K.moved (u := U) (U := U.calling g mk a) (Vm.Alike.refl U.vm) qK, qD⟩, va_recv hK hPc (ci := 4) (q0 := 0) rfl rfl, fun U hU hW => ⟨rfl, by rw [hU], by rw [hU]; exact hPc, va_K.moved hW.alike hK, hDc.weaken (fun _ _ _ _ => trivial)⟩⟩ rfl rfl hl.1 rfl (lv_room (Nat.le_of_ble_eq_true rfl)) dX4_findConflicts_28 ⟨Nat.le_of_ble_eq_true rfl, Nat.le_of_ble_eq_true rfl⟩) hS (fun q _ h => hFc q h) hFc (fun r_2 _ t H1 locs ht hvm hw hB hz1 hk1 hS => ?_)
            obtain ⟨hP1, hK1, hD1⟩ := hB
            rw [ht] at hP1
            obtain ⟨hP, hD⟩ := va_join (wr := [ar (ad 37) cA 8 gGconf_20]) (w1 := [oReg ad xReg_size, ar (ad 34) cA 8 gGyears, ar (ad 35) cA 8 gGcounted, ar (ad 36) cA 100 gGborn]) hP hD [0, 1, 2, 3] [4] rfl rfl (by decide) (by decide) hk1 hFc hP1 hD1
            clear hPc hDc hFc hP1 hK1 hD1 hk1 hz1 hvm ht
            generalize H1 = H at hP hS ⊢
            have hP : va_P (dC, dI) vwCl [oReg ad xReg_size, ar (ad 34) cA 8 gGyears, ar (ad 35) cA 8 gGcounted, ar (ad 36) cA 100 gGborn, ar (ad 37) cA 8 gGconf_20] H := hP.sub [1, 2, 3, 4, 0] rfl
            have hD : va_D A [oReg ad xReg_size, ar (ad 34) cA 8 gGyears, ar (ad 35) cA 8 gGcounted, ar (ad 36) cA 100 gGborn, ar (ad 37) cA 8 gGconf_20] := hD.sub [1, 2, 3, 4, 0] (by decide) rfl
            have hw := hw.symm
            subst hw
            refine lv_if_eq (tgt := 58) hx hb dX4_findConflicts_31 (by decide) (fun c_3 => ?_) (fun c_3 => ?_)
            · have hm := it_pos c_3 hm
              exact b_58 _ _ hm _ _ hP hD hS _ (lv_sub hl [0, 1, 2] rfl)
            · have hm := it_neg c_3 hm
              refine lv_aload_n hx hb dX4_findConflicts_34 rfl (lv_at hl 0 rfl) ?_
              refine va_get (D := (dC, dI)) (ci := 4) (v := .ref (ad 37)) (C := RX4) (T := TX4) (N := 5) hx hb hts hinX4 hown hK hP 0 rfl rfl 3 (by decide) hl_21 (fun _ h9 => h9) rfl dX4_findConflicts_35 ?_
              refine lv_iload_n hx hb dX4_findConflicts_38 rfl (lv_at hl 1 rfl) ?_
              refine lv_dup2_11 hx hb dX4_findConflicts_39 rfl rfl ?_
              obtain ⟨i_4, hm⟩ := ck_ok hm
              refine va_iald hx hb hK hP 4 0 rfl rfl i_4 dX4_findConflicts_40 ?_
              refine lv_iconst (v := 1) hx hb dX4_findConflicts_41 (by decide) ?_
              refine lv_iload_n hx hb dX4_findConflicts_42 rfl (lv_at hl 2 rfl) ?_
              refine lv_ishl hx hb dX4_findConflicts_43 ?_
              refine lv_ior hx hb dX4_findConflicts_44 ?_
              obtain ⟨i_5, hm⟩ := ck_ok hm
              refine va_iast hx hb hK hP hD hS 4 0 rfl rfl i_5 dX4_findConflicts_45 (fun H locs hP hD hS => ?_)
              have hP : va_P (dC, dI) vwCl [oReg ad xReg_size, ar (ad 34) cA 8 gGyears, ar (ad 35) cA 8 gGcounted, ar (ad 36) cA 100 gGborn, ar (ad 37) cA 8 (upd gGconf_20 v1_20.toNatClampNeg ((gGconf_20 v1_20.toNatClampNeg) ||| (1 <<< (v2_20 &&& 31))))] H := hP
              have hD : va_D A [oReg ad xReg_size, ar (ad 34) cA 8 gGyears, ar (ad 35) cA 8 gGcounted, ar (ad 36) cA 100 gGborn, ar (ad 37) cA 8 (upd gGconf_20 v1_20.toNatClampNeg ((gGconf_20 v1_20.toNatClampNeg) ||| (1 <<< (v2_20 &&& 31))))] := hD
              refine lv_aload_n hx hb dX4_findConflicts_46 rfl (lv_at hl 0 rfl) ?_
              refine va_get (D := (dC, dI)) (ci := 4) (v := .ref (ad 37)) (C := RX4) (T := TX4) (N := 5) hx hb hts hinX4 hown hK hP 0 rfl rfl 3 (by decide) hl_21 (fun _ h9 => h9) rfl dX4_findConflicts_47 ?_
              refine lv_iload_n hx hb dX4_findConflicts_50 rfl (lv_at hl 2 rfl) ?_
              refine lv_dup2_11 hx hb dX4_findConflicts_51 rfl rfl ?_
              obtain ⟨i_6, hm⟩ := ck_ok hm
              refine va_iald hx hb hK hP 4 0 rfl rfl i_6 dX4_findConflicts_52 ?_
              refine lv_iconst (v := 1) hx hb dX4_findConflicts_53 (by decide) ?_
              refine lv_iload_n hx hb dX4_findConflicts_54 rfl (lv_at hl 1 rfl) ?_
              refine lv_ishl hx hb dX4_findConflicts_55 ?_
              refine lv_ior hx hb dX4_findConflicts_56 ?_
              obtain ⟨i_7, hm⟩ := ck_ok hm
              refine va_iast hx hb hK hP hD hS 4 0 rfl rfl i_7 dX4_findConflicts_57 (fun H locs hP hD hS => ?_)
              have hP : va_P (dC, dI) vwCl [oReg ad xReg_size, ar (ad 34) cA 8 gGyears, ar (ad 35) cA 8 gGcounted, ar (ad 36) cA 100 gGborn, ar (ad 37) cA 8 (upd (upd gGconf_20 v1_20.toNatClampNeg ((gGconf_20 v1_20.toNatClampNeg) ||| (1 <<< (v2_20 &&& 31)))) v2_20.toNatClampNeg (((upd gGconf_20 v1_20.toNatClampNeg ((gGconf_20 v1_20.toNatClampNeg) ||| (1 <<< (v2_20 &&& 31)))) v2_20.toNatClampNeg) ||| (1 <<< (v1_20 &&& 31))))] H := hP
              have hD : va_D A [oReg ad xReg_size, ar (ad 34) cA 8 gGyears, ar (ad 35) cA 8 gGcounted, ar (ad 36) cA 100 gGborn, ar (ad 37) cA 8 (upd (upd gGconf_20 v1_20.toNatClampNeg ((gGconf_20 v1_20.toNatClampNeg) ||| (1 <<< (v2_20 &&& 31)))) v2_20.toNatClampNeg (((upd gGconf_20 v1_20.toNatClampNeg ((gGconf_20 v1_20.toNatClampNeg) ||| (1 <<< (v2_20 &&& 31)))) v2_20.toNatClampNeg) ||| (1 <<< (v1_20 &&& 31))))] := hD
              exact b_58 _ _ hm _ _ hP hD hS _ (lv_sub hl [0, 1, 2] rfl)
      intro v1_10 gGconf_10 hm H locs hP hD hS ls hl
      have hm : fG_findConflicts_10_b  (fG_findConflicts_10  xReg_size gGyears gGcounted gGborn n_10) xReg_size gGyears gGcounted gGborn v1_10 gGconf_10 = some u := hm
      unfold fG_findConflicts_10_b at hm
      refine lv_iload_n hx hb dX4_findConflicts_10 rfl (lv_at hl 1 rfl) ?_
      refine lv_aload_n hx hb dX4_findConflicts_11 rfl (lv_at hl 0 rfl) ?_
      refine va_get (D := (dC, dI)) (ci := 4) (v := .int xReg_size) (C := RX4) (T := TX4) (N := 5) hx hb hts hinX4 hown hK hP 0 rfl rfl 4 (by decide) hl_24 (fun _ h9 => h9) rfl dX4_findConflicts_12 ?_
      refine lv_icmp_ge (tgt := 70) hx hb dX4_findConflicts_15 (by decide) (fun c_8 => ?_) (fun c_8 => ?_)
      · have hm := it_pos c_8 hm
        obtain rfl := Option.some.inj hm
        subst hQ
        exact W.vret hx hb hr (fun t ht hW => ⟨⟨(), rfl, trivial, by rw [ht]; exact hP, va_K.moved hW.alike hK, hAe ▸ hD⟩, hS.F ht⟩) hS.2.2 dX4_findConflicts_70
      · have hm := it_neg c_8 hm
        refine lv_iconst (v := 0) hx hb dX4_findConflicts_18 (by decide) ?_
        refine lv_istore_n (lv' := [(2, .int 0), (0, .ref (ad 33)), (1, .int v1_10)]) hx hb dX4_findConflicts_19 rfl hl (by decide) rfl (fun ls hl => ?_)
        exact h_20 _ _ _ _ hm _ _ hP hD hS _ (lv_sub hl [1, 2, 0] rfl)
  unfold fG_findConflicts at hm
  refine lv_aload_n hx hb dX4_findConflicts_0 rfl (lv_at hl 0 rfl) ?_
  refine va_get (D := (dC, dI)) (ci := 4) (v := .ref (ad 37)) (C := RX4) (T := TX4) (N := 5) hx hb hts hinX4 hown hK hP 0 rfl rfl 3 (by decide) hl_21 (fun _ h9 => h9) rfl dX4_findConflicts_1 ?_
  refine lv_iconst (v := 0) hx hb dX4_findConflicts_4 (by decide) ?_
  have hPc := hP.sub (ws' := [ar (ad 37) cA 8 gGconf]) [4] rfl
  have hDc := hD.sub (ws' := [ar (ad 37) cA 8 gGconf]) [4] (by decide) rfl
  have hFc := va_free (wc := [ar (ad 37) cA 8 gGconf]) hD hS hA [4] rfl
  obtain ⟨u_9, hc_9, hm⟩ := bd_ok hm
  refine va_callv (va_runS (As := [.ref (ad 37), .int 0]) (rest := []) ⟨hx, hb, hml, hown, hts⟩ (kJ_fill l dC dI cA (ad 37) s.heap.size 0 8 gGconf u_9 hc_9) (va_cwS 2 hts gX4_findConflicts_J7_fill_53178 rfl rfl rfl (by decide +kernel) ⟨Nat.le_of_ble_eq_true rfl, Nat.le_of_ble_eq_true rfl⟩) ⟨fun a U g mk q => by obtain ⟨q0, q1, qP, qK, qD⟩ := q; exact ⟨q0, q1, qP, va_K.moved (u := U) (U := U.calling g mk a) (Vm.Alike.refl U.vm) qK, qD⟩, fun U hU hW => ⟨rfl, by rw [hU], by rw [hU]; exact hPc, va_K.moved hW.alike hK, hDc.weaken (fun _ _ _ _ => trivial)⟩⟩ rfl rfl hl.1 rfl (lv_room (Nat.le_of_ble_eq_true rfl)) dX4_findConflicts_5 ⟨Nat.le_of_ble_eq_true rfl, Nat.le_of_ble_eq_true rfl⟩) hS (fun q _ h => hFc q h) hFc (fun _ t H1 locs ht hvm hw hB hz1 hk1 hS => ?_)
  obtain ⟨hP1, hK1, hD1⟩ := hB
  rw [ht] at hP1
  obtain ⟨hP, hD⟩ := va_join (wr := [oReg ad xReg_size, ar (ad 34) cA 8 gGyears, ar (ad 35) cA 8 gGcounted, ar (ad 36) cA 100 gGborn]) (w1 := [ar (ad 37) cA 8 u_9]) hP hD [4] [0, 1, 2, 3] rfl rfl (by decide) (by decide) hk1 hFc hP1 hD1
  clear hPc hDc hFc hP1 hK1 hD1 hk1 hz1 hvm ht
  generalize H1 = H at hP hS ⊢
  have hP : va_P (dC, dI) vwCl [oReg ad xReg_size, ar (ad 34) cA 8 gGyears, ar (ad 35) cA 8 gGcounted, ar (ad 36) cA 100 gGborn, ar (ad 37) cA 8 u_9] H := hP
  have hD : va_D A [oReg ad xReg_size, ar (ad 34) cA 8 gGyears, ar (ad 35) cA 8 gGcounted, ar (ad 36) cA 100 gGborn, ar (ad 37) cA 8 u_9] := hD
  refine lv_iconst (v := 0) hx hb dX4_findConflicts_8 (by decide) ?_
  refine lv_istore_n (lv' := [(1, .int 0), (0, .ref (ad 33))]) hx hb dX4_findConflicts_9 rfl hl (by decide) rfl (fun ls hl => ?_)
  exact h_10 _ _ _ hm _ _ hP hD hS _ (lv_sub hl [1, 0] rfl)

set_option maxHeartbeats 4000000 in
set_option maxRecDepth 100000 in
theorem kG_restCanBe (l : Launch) (dC : Nat → ClassId) (dI : Nat → Nat → Nat) (cA : ClassId) (ad : Nat → Nat) (sz : Nat) (a1 : Int32) (xReg_size : Int32) (gGconf : Nat → Int32) (u : Int32) (hm : fG_restCanBe a1 xReg_size gGconf = some u) : Met l yX4_restCanBe wsX4_restCanBe ({ frames := 0, cells := 0, slots := 0, locals := 0 }) (va_Pc [.ref (ad 33), .int a1] (fun U => U.heap.size = sz ∧ va_P (dC, dI) vwCl [oReg ad xReg_size, ar (ad 37) cA 8 gGconf] U.heap ∧ va_K (dC, dI) vwCl [(cA, .int)] U ∧ va_D (fun _ => True) [oReg ad xReg_size, ar (ad 37) cA 8 gGconf])) (va_Qi (fun (r : Int32) (_ : Unit) => r = u) (fun (_ : Unit) t => va_P (dC, dI) vwCl [oReg ad xReg_size, ar (ad 37) cA 8 gGconf] t.heap ∧ va_K (dC, dI) vwCl [(cA, .int)] t ∧ va_D (va_A [oReg ad xReg_size, ar (ad 37) cA 8 gGconf] sz) [oReg ad xReg_size, ar (ad 37) cA 8 gGconf]) (va_A [oReg ad xReg_size, ar (ad 37) cA 8 gGconf] sz)) 0 0 (va_A [oReg ad xReg_size, ar (ad 37) cA 8 gGconf] sz) := by
  refine Met.ofW (cc := cX4_restCanBe) (maxL := 3) (ret := (some .boolean)) (by decide) rfl ?_
  intro p e s m args below meth c s₁ B hml hv
  obtain ⟨rfl, hsz, hP, hK, hD0⟩ := hv
  have hx := B.exec
  have hb := B.bytes
  have hr := B.returns
  have hts := atoms_spec (ws := wsX4_restCanBe) B.pre
  have hown : s.vm.findClass RX4 = some m.cls := findClass_of_methodNamed B.named
  have hlocks := B.notSynchronized
  subst hsz
  have hD := hD0.self (sz := s.heap.size)
  generalize hAe : va_A [oReg ad xReg_size, ar (ad 37) cA 8 gGconf] s.heap.size = A at hD ⊢
  have hA : ∀ q : Nat, s.heap.size ≤ q → A q := fun q h => by rw [← hAe]; exact Or.inr h
  have hS : va_S A s.heap s.heap [] := va_S.rf
  have hl := lv_entry ([.ref (ad 33), .int a1]) (n := 3) (Nat.le_of_ble_eq_true rfl)
  rw [lg_entry_eq]
  generalize (lg_sl ([.ref (ad 33), .int a1]) ++ List.replicate (3 - (lg_sl ([.ref (ad 33), .int a1])).length) Slot.unset).toArray = ls at hl ⊢
  have hl : lv_has ls 3 [(0, .ref (ad 33)), (1, .int a1)] := hl
  refine wk_Q (fun QQ hQ => ?_)
  have hinX4 : ∀ w ∈ wsX40, w ∈ wsX4_restCanBe := fun w h => List.mem_cons_of_mem _ (inlX4 w h)
  have hl_24 := hts (.fieldLink RX4 24 "HandCensus$Register" "size" "I") (List.mem_cons_of_mem _ (in_r6 _ (List.mem_of_getElem? (i := 2) rfl)))
  have hl_21 := hts (.fieldLink RX4 21 "HandCensus$Register" "conflicts" "[I") (List.mem_cons_of_mem _ (in_r6 _ (List.mem_of_getElem? (i := 1) rfl)))
  have h_2 : ∀ (v1_2 : Int32), ∀ (n_2 : Nat), ∀ (v2_2 : Int32), fG_restCanBe_2 v1_2 xReg_size gGconf n_2 v2_2 = some u → ∀ (H : Heap) (locs : List Loc), va_P (dC, dI) vwCl [oReg ad xReg_size, ar (ad 37) cA 8 gGconf] H → va_D A [oReg ad xReg_size, ar (ad 37) cA 8 gGconf] → va_S A s.heap H locs → ∀ ls : Array Slot, lv_has ls 3 [(0, .ref (ad 33)), (1, .int v1_2), (2, .int v2_2)] → W p l e (headSpec wsX4_restCanBe ({ frames := 0, cells := 0, slots := 0, locals := 0 })).room s m ([.ref (ad 33), .int a1] : List Value).toArray below meth c H locs 0 0 QQ (F0 m 2 ls []) := by
    intro v1_2
    intro n_2
    induction n_2 with
    | zero => intro v2_2 hm; have hm : (none : Option (Int32)) = some u := hm; cases hm
    | succ n_2 ih_2 =>
      have b_33 : ∀ (v2_33 : Int32), fG_restCanBe_33 (fG_restCanBe_2  v1_2 xReg_size gGconf n_2) v1_2 v2_33 xReg_size gGconf = some u → ∀ (H : Heap) (locs : List Loc), va_P (dC, dI) vwCl [oReg ad xReg_size, ar (ad 37) cA 8 gGconf] H → va_D A [oReg ad xReg_size, ar (ad 37) cA 8 gGconf] → va_S A s.heap H locs → ∀ ls : Array Slot, lv_has ls 3 [(0, .ref (ad 33)), (1, .int v1_2), (2, .int v2_33)] → W p l e (headSpec wsX4_restCanBe ({ frames := 0, cells := 0, slots := 0, locals := 0 })).room s m ([.ref (ad 33), .int a1] : List Value).toArray below meth c H locs 0 0 QQ (F0 m 33 ls []) := by
        intro v2_33 hm H locs hP hD hS ls hl
        unfold fG_restCanBe_33 at hm
        refine lv_iinc (v := (v2_33 + 1)) (lv' := [(2, .int (v2_33 + 1)), (0, .ref (ad 33)), (1, .int v1_2)]) hx hb dX4_restCanBe_33 hl (k := 2) rfl rfl (by decide) rfl (fun ls hl => ?_)
        refine lv_goto (tgt := 2) hx hb dX4_restCanBe_36 (by decide) ?_
        exact ih_2 _ hm _ _ hP hD hS _ (lv_sub hl [1, 2, 0] rfl)
      intro v2_2 hm H locs hP hD hS ls hl
      have hm : fG_restCanBe_2_b  (fG_restCanBe_2  v1_2 xReg_size gGconf n_2) v1_2 xReg_size gGconf v2_2 = some u := hm
      unfold fG_restCanBe_2_b at hm
      refine lv_iload_n hx hb dX4_restCanBe_2 rfl (lv_at hl 2 rfl) ?_
      refine lv_aload_n hx hb dX4_restCanBe_3 rfl (lv_at hl 0 rfl) ?_
      refine va_get (D := (dC, dI)) (ci := 4) (v := .int xReg_size) (C := RX4) (T := TX4) (N := 5) hx hb hts hinX4 hown hK hP 0 rfl rfl 4 (by decide) hl_24 (fun _ h9 => h9) rfl dX4_restCanBe_4 ?_
      refine lv_icmp_ge (tgt := 39) hx hb dX4_restCanBe_7 (by decide) (fun c_1 => ?_) (fun c_1 => ?_)
      · have hm := it_pos c_1 hm
        refine lv_iconst (v := 1) hx hb dX4_restCanBe_39 (by decide) ?_
        obtain rfl := Option.some.inj hm
        subst hQ
        exact W.zret (v := 1) hx hb hr rfl (fun t ht hW => ⟨⟨_, (), rfl, rfl, by rw [ht]; exact hP, va_K.moved hW.alike hK, hAe ▸ hD⟩, hS.F ht⟩) hS.2.2 dX4_restCanBe_40
      · have hm := it_neg c_1 hm
        refine lv_iload_n hx hb dX4_restCanBe_10 rfl (lv_at hl 1 rfl) ?_
        refine lv_iload_n hx hb dX4_restCanBe_11 rfl (lv_at hl 2 rfl) ?_
        refine lv_ishr hx hb dX4_restCanBe_12 ?_
        refine lv_iconst (v := 1) hx hb dX4_restCanBe_13 (by decide) ?_
        refine lv_iand hx hb dX4_restCanBe_14 ?_
        refine lv_if_ne (tgt := 33) hx hb dX4_restCanBe_15 (by decide) (fun c_2 => ?_) (fun c_2 => ?_)
        · have hm := it_neg c_2 hm
          exact b_33 _ hm _ _ hP hD hS _ (lv_sub hl [0, 1, 2] rfl)
        · have hm := it_pos c_2 hm
          refine lv_aload_n hx hb dX4_restCanBe_18 rfl (lv_at hl 0 rfl) ?_
          refine va_get (D := (dC, dI)) (ci := 4) (v := .ref (ad 37)) (C := RX4) (T := TX4) (N := 5) hx hb hts hinX4 hown hK hP 0 rfl rfl 3 (by decide) hl_21 (fun _ h9 => h9) rfl dX4_restCanBe_19 ?_
          refine lv_iload_n hx hb dX4_restCanBe_22 rfl (lv_at hl 2 rfl) ?_
          obtain ⟨i_3, hm⟩ := ck_ok hm
          refine va_iald hx hb hK hP 1 0 rfl rfl i_3 dX4_restCanBe_23 ?_
          refine lv_iload_n hx hb dX4_restCanBe_24 rfl (lv_at hl 1 rfl) ?_
          refine lv_iconst (v := (-1)) hx hb dX4_restCanBe_25 (by decide) ?_
          refine lv_ixor hx hb dX4_restCanBe_26 ?_
          refine lv_iand hx hb dX4_restCanBe_27 ?_
          refine lv_if_eq (tgt := 33) hx hb dX4_restCanBe_28 (by decide) (fun c_4 => ?_) (fun c_4 => ?_)
          · have hm := it_pos c_4 hm
            exact b_33 _ hm _ _ hP hD hS _ (lv_sub hl [0, 1, 2] rfl)
          · have hm := it_neg c_4 hm
            refine lv_iconst (v := 0) hx hb dX4_restCanBe_31 (by decide) ?_
            obtain rfl := Option.some.inj hm
            subst hQ
            exact W.zret (v := 0) hx hb hr rfl (fun t ht hW => ⟨⟨_, (), rfl, rfl, by rw [ht]; exact hP, va_K.moved hW.alike hK, hAe ▸ hD⟩, hS.F ht⟩) hS.2.2 dX4_restCanBe_32
  unfold fG_restCanBe at hm
  refine lv_iconst (v := 0) hx hb dX4_restCanBe_0 (by decide) ?_
  refine lv_istore_n (lv' := [(2, .int 0), (0, .ref (ad 33)), (1, .int a1)]) hx hb dX4_restCanBe_1 rfl hl (by decide) rfl (fun ls hl => ?_)
  exact h_2 _ _ _ hm _ _ hP hD hS _ (lv_sub hl [1, 2, 0] rfl)

set_option maxHeartbeats 4000000 in
set_option maxRecDepth 100000 in
theorem kG_leastOut (l : Launch) (dC : Nat → ClassId) (dI : Nat → Nat → Nat) (cA : ClassId) (ad : Nat → Nat) (sz : Nat) (xReg_size : Int32) (gGconf : Nat → Int32) (u : Int32) (hm : fG_leastOut xReg_size gGconf = some u) : Met l yX4_leastOut wsX4_leastOut ({ frames := 1, cells := 0, slots := 0, locals := 22 }) (va_Pc [.ref (ad 33)] (fun U => U.heap.size = sz ∧ va_P (dC, dI) vwCl [oReg ad xReg_size, ar (ad 37) cA 8 gGconf] U.heap ∧ va_K (dC, dI) vwCl [(cA, .int)] U ∧ va_D (fun _ => True) [oReg ad xReg_size, ar (ad 37) cA 8 gGconf])) (va_Qi (fun (r : Int32) (_ : Unit) => r = u) (fun (_ : Unit) t => va_P (dC, dI) vwCl [oReg ad xReg_size, ar (ad 37) cA 8 gGconf] t.heap ∧ va_K (dC, dI) vwCl [(cA, .int)] t ∧ va_D (va_A [oReg ad xReg_size, ar (ad 37) cA 8 gGconf] sz) [oReg ad xReg_size, ar (ad 37) cA 8 gGconf]) (va_A [oReg ad xReg_size, ar (ad 37) cA 8 gGconf] sz)) 0 0 (va_A [oReg ad xReg_size, ar (ad 37) cA 8 gGconf] sz) := by
  refine Met.ofW (cc := cX4_leastOut) (maxL := 3) (ret := (some .int)) (by decide) rfl ?_
  intro p e s m args below meth c s₁ B hml hv
  obtain ⟨rfl, hsz, hP, hK, hD0⟩ := hv
  have hx := B.exec
  have hb := B.bytes
  have hr := B.returns
  have hts := atoms_spec (ws := wsX4_leastOut) B.pre
  have hown : s.vm.findClass RX4 = some m.cls := findClass_of_methodNamed B.named
  have hlocks := B.notSynchronized
  subst hsz
  have hD := hD0.self (sz := s.heap.size)
  generalize hAe : va_A [oReg ad xReg_size, ar (ad 37) cA 8 gGconf] s.heap.size = A at hD ⊢
  have hA : ∀ q : Nat, s.heap.size ≤ q → A q := fun q h => by rw [← hAe]; exact Or.inr h
  have hS : va_S A s.heap s.heap [] := va_S.rf
  have hl := lv_entry ([.ref (ad 33)]) (n := 3) (Nat.le_of_ble_eq_true rfl)
  rw [lg_entry_eq]
  generalize (lg_sl ([.ref (ad 33)]) ++ List.replicate (3 - (lg_sl ([.ref (ad 33)])).length) Slot.unset).toArray = ls at hl ⊢
  have hl : lv_has ls 3 [(0, .ref (ad 33))] := hl
  refine wk_Q (fun QQ hQ => ?_)
  have hinX4 : ∀ w ∈ wsX40, w ∈ wsX4_leastOut := fun w h => List.mem_cons_of_mem _ (inlX4 w h)
  have hl_24 := hts (.fieldLink RX4 24 "HandCensus$Register" "size" "I") (List.mem_cons_of_mem _ (in_r6 _ (List.mem_of_getElem? (i := 2) rfl)))
  have h_11 : ∀ (n_11 : Nat), ∀ (v1_11 : Int32) (v2_11 : Int32), fG_leastOut_11 xReg_size gGconf n_11 v1_11 v2_11 = some u → ∀ (H : Heap) (locs : List Loc), va_P (dC, dI) vwCl [oReg ad xReg_size, ar (ad 37) cA 8 gGconf] H → va_D A [oReg ad xReg_size, ar (ad 37) cA 8 gGconf] → va_S A s.heap H locs → ∀ ls : Array Slot, lv_has ls 3 [(0, .ref (ad 33)), (1, .int v1_11), (2, .int v2_11)] → W p l e (headSpec wsX4_leastOut ({ frames := 1, cells := 0, slots := 0, locals := 22 })).room s m ([.ref (ad 33)] : List Value).toArray below meth c H locs 0 0 QQ (F0 m 11 ls []) := by
    intro n_11
    induction n_11 with
    | zero => intro v1_11 v2_11 hm; have hm : (none : Option (Int32)) = some u := hm; cases hm
    | succ n_11 ih_11 =>
      have b_42 : ∀ (v1_42 : Int32) (v2_42 : Int32), fG_leastOut_42 (fG_leastOut_11  xReg_size gGconf n_11) v1_42 v2_42 xReg_size gGconf = some u → ∀ (H : Heap) (locs : List Loc), va_P (dC, dI) vwCl [oReg ad xReg_size, ar (ad 37) cA 8 gGconf] H → va_D A [oReg ad xReg_size, ar (ad 37) cA 8 gGconf] → va_S A s.heap H locs → ∀ ls : Array Slot, lv_has ls 3 [(0, .ref (ad 33)), (1, .int v1_42), (2, .int v2_42)] → W p l e (headSpec wsX4_leastOut ({ frames := 1, cells := 0, slots := 0, locals := 22 })).room s m ([.ref (ad 33)] : List Value).toArray below meth c H locs 0 0 QQ (F0 m 42 ls []) := by
        intro v1_42 v2_42 hm H locs hP hD hS ls hl
        unfold fG_leastOut_42 at hm
        refine lv_iinc (v := (v2_42 + 1)) (lv' := [(2, .int (v2_42 + 1)), (0, .ref (ad 33)), (1, .int v1_42)]) hx hb dX4_leastOut_42 hl (k := 2) rfl rfl (by decide) rfl (fun ls hl => ?_)
        refine lv_goto (tgt := 11) hx hb dX4_leastOut_45 (by decide) ?_
        exact ih_11 _ _ hm _ _ hP hD hS _ (lv_sub hl [1, 2, 0] rfl)
      intro v1_11 v2_11 hm H locs hP hD hS ls hl
      have hm : fG_leastOut_11_b  (fG_leastOut_11  xReg_size gGconf n_11) xReg_size gGconf v1_11 v2_11 = some u := hm
      unfold fG_leastOut_11_b at hm
      refine lv_iload_n hx hb dX4_leastOut_11 rfl (lv_at hl 2 rfl) ?_
      refine lv_iconst (v := 1) hx hb dX4_leastOut_12 (by decide) ?_
      refine lv_aload_n hx hb dX4_leastOut_13 rfl (lv_at hl 0 rfl) ?_
      refine va_get (D := (dC, dI)) (ci := 4) (v := .int xReg_size) (C := RX4) (T := TX4) (N := 5) hx hb hts hinX4 hown hK hP 0 rfl rfl 4 (by decide) hl_24 (fun _ h9 => h9) rfl dX4_leastOut_14 ?_
      refine lv_ishl hx hb dX4_leastOut_17 ?_
      refine lv_icmp_ge (tgt := 48) hx hb dX4_leastOut_18 (by decide) (fun c_1 => ?_) (fun c_1 => ?_)
      · have hm := it_pos c_1 hm
        refine lv_iload_n hx hb dX4_leastOut_48 rfl (lv_at hl 1 rfl) ?_
        obtain rfl := Option.some.inj hm
        subst hQ
        exact W.iret (v := v1_11) hx hb hr (fun t ht hW => ⟨⟨_, (), rfl, rfl, by rw [ht]; exact hP, va_K.moved hW.alike hK, hAe ▸ hD⟩, hS.F ht⟩) hS.2.2 dX4_leastOut_49
      · have hm := it_neg c_1 hm
        refine lv_iload_n hx hb dX4_leastOut_21 rfl (lv_at hl 2 rfl) ?_
        have hPc := hP.sub (ws' := []) [] rfl
        have hDc := hD.sub (ws' := []) [] (by decide) rfl
        have hFc := va_free (wc := []) hD hS hA [] rfl
        obtain ⟨u_2, hc_2, hm⟩ := bd_ok hm
        refine va_calli (va_runS (As := [.int v2_11]) (rest := []) ⟨hx, hb, hml, hown, hts⟩ (kJ_bitCount l dC dI cA H.size v2_11 u_2 hc_2) (va_cwS 1 hts gX4_leastOut_J6_bitCount_0f7a4 rfl rfl rfl (by decide +kernel) ⟨Nat.le_of_ble_eq_true rfl, Nat.le_of_ble_eq_true rfl⟩) ⟨fun a U g mk q => by obtain ⟨q0, q1, qP, qK, qD⟩ := q; exact ⟨q0, q1, qP, va_K.moved (u := U) (U := U.calling g mk a) (Vm.Alike.refl U.vm) qK, qD⟩, fun U hU hW => ⟨rfl, by rw [hU], by rw [hU]; exact hPc, va_K.moved hW.alike hK, hDc.weaken (fun _ _ _ _ => trivial)⟩⟩ rfl rfl hl.1 rfl (lv_room (Nat.le_of_ble_eq_true rfl)) dX4_leastOut_22 ⟨Nat.le_of_ble_eq_true rfl, Nat.le_of_ble_eq_true rfl⟩) hS (fun q _ h => hFc q h) hFc (fun r_2 _ t H1 locs ht hvm hw hB hz1 hk1 hS => ?_)
        obtain ⟨hP1, hK1, hD1⟩ := hB
        rw [ht] at hP1
        obtain ⟨hP, hD⟩ := va_join (wr := [oReg ad xReg_size, ar (ad 37) cA 8 gGconf]) (w1 := []) hP hD [] [0, 1] rfl rfl (by decide) (by decide) hk1 hFc hP1 hD1
        clear hPc hDc hFc hP1 hK1 hD1 hk1 hz1 hvm ht
        generalize H1 = H at hP hS ⊢
        have hP : va_P (dC, dI) vwCl [oReg ad xReg_size, ar (ad 37) cA 8 gGconf] H := hP
        have hD : va_D A [oReg ad xReg_size, ar (ad 37) cA 8 gGconf] := hD
        have hw := hw.symm
        subst hw
        refine lv_iload_n hx hb dX4_leastOut_25 rfl (lv_at hl 1 rfl) ?_
        have hPc := hP.sub (ws' := []) [] rfl
        have hDc := hD.sub (ws' := []) [] (by decide) rfl
        have hFc := va_free (wc := []) hD hS hA [] rfl
        obtain ⟨u_3, hc_3, hm⟩ := bd_ok hm
        refine va_calli (va_runS (As := [.int v1_11]) (rest := [.int u_2]) ⟨hx, hb, hml, hown, hts⟩ (kJ_bitCount l dC dI cA H.size v1_11 u_3 hc_3) (va_cwS 1 hts gX4_leastOut_J6_bitCount_0f7a4 rfl rfl rfl (by decide +kernel) ⟨Nat.le_of_ble_eq_true rfl, Nat.le_of_ble_eq_true rfl⟩) ⟨fun a U g mk q => by obtain ⟨q0, q1, qP, qK, qD⟩ := q; exact ⟨q0, q1, qP, va_K.moved (u := U) (U := U.calling g mk a) (Vm.Alike.refl U.vm) qK, qD⟩, fun U hU hW => ⟨rfl, by rw [hU], by rw [hU]; exact hPc, va_K.moved hW.alike hK, hDc.weaken (fun _ _ _ _ => trivial)⟩⟩ rfl rfl hl.1 rfl (lv_room (Nat.le_of_ble_eq_true rfl)) dX4_leastOut_26 ⟨Nat.le_of_ble_eq_true rfl, Nat.le_of_ble_eq_true rfl⟩) hS (fun q _ h => hFc q h) hFc (fun r_3 _ t H1 locs ht hvm hw hB hz1 hk1 hS => ?_)
        obtain ⟨hP1, hK1, hD1⟩ := hB
        rw [ht] at hP1
        obtain ⟨hP, hD⟩ := va_join (wr := [oReg ad xReg_size, ar (ad 37) cA 8 gGconf]) (w1 := []) hP hD [] [0, 1] rfl rfl (by decide) (by decide) hk1 hFc hP1 hD1
        clear hPc hDc hFc hP1 hK1 hD1 hk1 hz1 hvm ht
        generalize H1 = H at hP hS ⊢
        have hP : va_P (dC, dI) vwCl [oReg ad xReg_size, ar (ad 37) cA 8 gGconf] H := hP
        have hD : va_D A [oReg ad xReg_size, ar (ad 37) cA 8 gGconf] := hD
        have hw := hw.symm
        subst hw
        refine lv_icmp_ge (tgt := 42) hx hb dX4_leastOut_29 (by decide) (fun c_4 => ?_) (fun c_4 => ?_)
        · have hm := it_pos c_4 hm
          exact b_42 _ _ hm _ _ hP hD hS _ (lv_sub hl [0, 1, 2] rfl)
        · have hm := it_neg c_4 hm
          refine lv_aload_n hx hb dX4_leastOut_32 rfl (lv_at hl 0 rfl) ?_
          refine lv_iload_n hx hb dX4_leastOut_33 rfl (lv_at hl 2 rfl) ?_
          have hPc := hP.sub (ws' := [oReg ad xReg_size, ar (ad 37) cA 8 gGconf]) [0, 1] rfl
          have hDc := hD.sub (ws' := [oReg ad xReg_size, ar (ad 37) cA 8 gGconf]) [0, 1] (by decide) rfl
          have hFc := va_free (wc := [oReg ad xReg_size, ar (ad 37) cA 8 gGconf]) hD hS hA [0, 1] rfl
          obtain ⟨u_5, hc_5, hm⟩ := bd_ok hm
          refine va_calli (va_runV (As := [.int v2_11]) (rest := []) ⟨hx, hb, hml, hown, hts⟩ (kG_restCanBe l dC dI cA ad H.size v2_11 xReg_size gGconf u_5 hc_5) (cwV 1 hts gX4_leastOut_X4_restCanBe rfl rfl rfl (by decide +kernel) ⟨Nat.le_of_ble_eq_true rfl, Nat.le_of_ble_eq_true rfl⟩) ⟨fun a U g mk q => by obtain ⟨q0, q1, qP, qK, qD⟩ := q; exact ⟨q0, q1, qP, va_K.moved (u := U) (U := U.calling g mk a) (Vm.Alike.refl U.vm) qK, qD⟩, va_recv hK hPc (ci := 4) (q0 := 0) rfl rfl, fun U hU hW => ⟨rfl, by rw [hU], by rw [hU]; exact hPc, va_K.moved hW.alike hK, hDc.weaken (fun _ _ _ _ => trivial)⟩⟩ rfl rfl hl.1 rfl (lv_room (Nat.le_of_ble_eq_true rfl)) dX4_leastOut_34 ⟨Nat.le_of_ble_eq_true rfl, Nat.le_of_ble_eq_true rfl⟩) hS (fun q _ h => hFc q h) hFc (fun r_5 _ t H1 locs ht hvm hw hB hz1 hk1 hS => ?_)
          obtain ⟨hP1, hK1, hD1⟩ := hB
          rw [ht] at hP1
          obtain ⟨hP, hD⟩ := va_join (wr := []) (w1 := [oReg ad xReg_size, ar (ad 37) cA 8 gGconf]) hP hD [0, 1] [] rfl rfl (by decide) (by decide) hk1 hFc hP1 hD1
          clear hPc hDc hFc hP1 hK1 hD1 hk1 hz1 hvm ht
          generalize H1 = H at hP hS ⊢
          have hP : va_P (dC, dI) vwCl [oReg ad xReg_size, ar (ad 37) cA 8 gGconf] H := hP
          have hD : va_D A [oReg ad xReg_size, ar (ad 37) cA 8 gGconf] := hD
          have hw := hw.symm
          subst hw
          refine lv_if_eq (tgt := 42) hx hb dX4_leastOut_37 (by decide) (fun c_6 => ?_) (fun c_6 => ?_)
          · have hm := it_pos c_6 hm
            exact b_42 _ _ hm _ _ hP hD hS _ (lv_sub hl [0, 1, 2] rfl)
          · have hm := it_neg c_6 hm
            refine lv_iload_n hx hb dX4_leastOut_40 rfl (lv_at hl 2 rfl) ?_
            refine lv_istore_n (lv' := [(1, .int v2_11), (0, .ref (ad 33)), (2, .int v2_11)]) hx hb dX4_leastOut_41 rfl hl (by decide) rfl (fun ls hl => ?_)
            exact b_42 _ _ hm _ _ hP hD hS _ (lv_sub hl [1, 0, 2] rfl)
  unfold fG_leastOut at hm
  refine lv_iconst (v := 1) hx hb dX4_leastOut_0 (by decide) ?_
  refine lv_aload_n hx hb dX4_leastOut_1 rfl (lv_at hl 0 rfl) ?_
  refine va_get (D := (dC, dI)) (ci := 4) (v := .int xReg_size) (C := RX4) (T := TX4) (N := 5) hx hb hts hinX4 hown hK hP 0 rfl rfl 4 (by decide) hl_24 (fun _ h9 => h9) rfl dX4_leastOut_2 ?_
  refine lv_ishl hx hb dX4_leastOut_5 ?_
  refine lv_iconst (v := 1) hx hb dX4_leastOut_6 (by decide) ?_
  refine lv_isub hx hb dX4_leastOut_7 ?_
  refine lv_istore_n (lv' := [(1, .int ((1 <<< (xReg_size &&& 31)) - 1)), (0, .ref (ad 33))]) hx hb dX4_leastOut_8 rfl hl (by decide) rfl (fun ls hl => ?_)
  refine lv_iconst (v := 0) hx hb dX4_leastOut_9 (by decide) ?_
  refine lv_istore_n (lv' := [(2, .int 0), (1, .int ((1 <<< (xReg_size &&& 31)) - 1)), (0, .ref (ad 33))]) hx hb dX4_leastOut_10 rfl hl (by decide) rfl (fun ls hl => ?_)
  exact h_11 _ _ _ hm _ _ hP hD hS _ (lv_sub hl [2, 1, 0] rfl)

set_option maxHeartbeats 4000000 in
set_option maxRecDepth 100000 in
theorem kG_pairs (l : Launch) (dC : Nat → ClassId) (dI : Nat → Nat → Nat) (cA : ClassId) (ad : Nat → Nat) (sz : Nat) (xReg_size : Int32) (gGconf : Nat → Int32) (u : Int32) (hm : fG_pairs xReg_size gGconf = some u) : Met l yX4_pairs wsX4_pairs ({ frames := 1, cells := 0, slots := 0, locals := 20 }) (va_Pc [.ref (ad 33)] (fun U => U.heap.size = sz ∧ va_P (dC, dI) vwCl [oReg ad xReg_size, ar (ad 37) cA 8 gGconf] U.heap ∧ va_K (dC, dI) vwCl [(cA, .int)] U ∧ va_D (fun _ => True) [oReg ad xReg_size, ar (ad 37) cA 8 gGconf])) (va_Qi (fun (r : Int32) (_ : Unit) => r = u) (fun (_ : Unit) t => va_P (dC, dI) vwCl [oReg ad xReg_size, ar (ad 37) cA 8 gGconf] t.heap ∧ va_K (dC, dI) vwCl [(cA, .int)] t ∧ va_D (va_A [oReg ad xReg_size, ar (ad 37) cA 8 gGconf] sz) [oReg ad xReg_size, ar (ad 37) cA 8 gGconf]) (va_A [oReg ad xReg_size, ar (ad 37) cA 8 gGconf] sz)) 0 0 (va_A [oReg ad xReg_size, ar (ad 37) cA 8 gGconf] sz) := by
  refine Met.ofW (cc := cX4_pairs) (maxL := 3) (ret := (some .int)) (by decide) rfl ?_
  intro p e s m args below meth c s₁ B hml hv
  obtain ⟨rfl, hsz, hP, hK, hD0⟩ := hv
  have hx := B.exec
  have hb := B.bytes
  have hr := B.returns
  have hts := atoms_spec (ws := wsX4_pairs) B.pre
  have hown : s.vm.findClass RX4 = some m.cls := findClass_of_methodNamed B.named
  have hlocks := B.notSynchronized
  subst hsz
  have hD := hD0.self (sz := s.heap.size)
  generalize hAe : va_A [oReg ad xReg_size, ar (ad 37) cA 8 gGconf] s.heap.size = A at hD ⊢
  have hA : ∀ q : Nat, s.heap.size ≤ q → A q := fun q h => by rw [← hAe]; exact Or.inr h
  have hS : va_S A s.heap s.heap [] := va_S.rf
  have hl := lv_entry ([.ref (ad 33)]) (n := 3) (Nat.le_of_ble_eq_true rfl)
  rw [lg_entry_eq]
  generalize (lg_sl ([.ref (ad 33)]) ++ List.replicate (3 - (lg_sl ([.ref (ad 33)])).length) Slot.unset).toArray = ls at hl ⊢
  have hl : lv_has ls 3 [(0, .ref (ad 33))] := hl
  refine wk_Q (fun QQ hQ => ?_)
  have hinX4 : ∀ w ∈ wsX40, w ∈ wsX4_pairs := fun w h => List.mem_cons_of_mem _ (inlX4 w h)
  have hl_24 := hts (.fieldLink RX4 24 "HandCensus$Register" "size" "I") (List.mem_cons_of_mem _ (in_r6 _ (List.mem_of_getElem? (i := 2) rfl)))
  have hl_21 := hts (.fieldLink RX4 21 "HandCensus$Register" "conflicts" "[I") (List.mem_cons_of_mem _ (in_r6 _ (List.mem_of_getElem? (i := 1) rfl)))
  have h_4 : ∀ (n_4 : Nat), ∀ (v1_4 : Int32) (v2_4 : Int32), fG_pairs_4 xReg_size gGconf n_4 v1_4 v2_4 = some u → ∀ (H : Heap) (locs : List Loc), va_P (dC, dI) vwCl [oReg ad xReg_size, ar (ad 37) cA 8 gGconf] H → va_D A [oReg ad xReg_size, ar (ad 37) cA 8 gGconf] → va_S A s.heap H locs → ∀ ls : Array Slot, lv_has ls 3 [(0, .ref (ad 33)), (1, .int v1_4), (2, .int v2_4)] → W p l e (headSpec wsX4_pairs ({ frames := 1, cells := 0, slots := 0, locals := 20 })).room s m ([.ref (ad 33)] : List Value).toArray below meth c H locs 0 0 QQ (F0 m 4 ls []) := by
    intro n_4
    induction n_4 with
    | zero => intro v1_4 v2_4 hm; have hm : (none : Option (Int32)) = some u := hm; cases hm
    | succ n_4 ih_4 =>
      intro v1_4 v2_4 hm H locs hP hD hS ls hl
      have hm : fG_pairs_4_b  (fG_pairs_4  xReg_size gGconf n_4) xReg_size gGconf v1_4 v2_4 = some u := hm
      unfold fG_pairs_4_b at hm
      refine lv_iload_n hx hb dX4_pairs_4 rfl (lv_at hl 2 rfl) ?_
      refine lv_aload_n hx hb dX4_pairs_5 rfl (lv_at hl 0 rfl) ?_
      refine va_get (D := (dC, dI)) (ci := 4) (v := .int xReg_size) (C := RX4) (T := TX4) (N := 5) hx hb hts hinX4 hown hK hP 0 rfl rfl 4 (by decide) hl_24 (fun _ h9 => h9) rfl dX4_pairs_6 ?_
      refine lv_icmp_ge (tgt := 30) hx hb dX4_pairs_9 (by decide) (fun c_1 => ?_) (fun c_1 => ?_)
      · have hm := it_pos c_1 hm
        refine lv_iload_n hx hb dX4_pairs_30 rfl (lv_at hl 1 rfl) ?_
        refine lv_iconst (v := 2) hx hb dX4_pairs_31 (by decide) ?_
        refine lv_idiv hx hb dX4_pairs_32 (by decide) ?_
        obtain rfl := Option.some.inj hm
        subst hQ
        exact W.iret (v := (v1_4 / 2)) hx hb hr (fun t ht hW => ⟨⟨_, (), rfl, rfl, by rw [ht]; exact hP, va_K.moved hW.alike hK, hAe ▸ hD⟩, hS.F ht⟩) hS.2.2 dX4_pairs_33
      · have hm := it_neg c_1 hm
        refine lv_iload_n hx hb dX4_pairs_12 rfl (lv_at hl 1 rfl) ?_
        refine lv_aload_n hx hb dX4_pairs_13 rfl (lv_at hl 0 rfl) ?_
        refine va_get (D := (dC, dI)) (ci := 4) (v := .ref (ad 37)) (C := RX4) (T := TX4) (N := 5) hx hb hts hinX4 hown hK hP 0 rfl rfl 3 (by decide) hl_21 (fun _ h9 => h9) rfl dX4_pairs_14 ?_
        refine lv_iload_n hx hb dX4_pairs_17 rfl (lv_at hl 2 rfl) ?_
        obtain ⟨i_3, hm⟩ := ck_ok hm
        refine va_iald hx hb hK hP 1 0 rfl rfl i_3 dX4_pairs_18 ?_
        have hPc := hP.sub (ws' := []) [] rfl
        have hDc := hD.sub (ws' := []) [] (by decide) rfl
        have hFc := va_free (wc := []) hD hS hA [] rfl
        obtain ⟨u_4, hc_4, hm⟩ := bd_ok hm
        refine va_calli (va_runS (As := [.int (gGconf v2_4.toNatClampNeg)]) (rest := [.int v1_4]) ⟨hx, hb, hml, hown, hts⟩ (kJ_bitCount l dC dI cA H.size (gGconf v2_4.toNatClampNeg) u_4 hc_4) (va_cwS 1 hts gX4_pairs_J6_bitCount_0f7a4 rfl rfl rfl (by decide +kernel) ⟨Nat.le_of_ble_eq_true rfl, Nat.le_of_ble_eq_true rfl⟩) ⟨fun a U g mk q => by obtain ⟨q0, q1, qP, qK, qD⟩ := q; exact ⟨q0, q1, qP, va_K.moved (u := U) (U := U.calling g mk a) (Vm.Alike.refl U.vm) qK, qD⟩, fun U hU hW => ⟨rfl, by rw [hU], by rw [hU]; exact hPc, va_K.moved hW.alike hK, hDc.weaken (fun _ _ _ _ => trivial)⟩⟩ rfl rfl hl.1 rfl (lv_room (Nat.le_of_ble_eq_true rfl)) dX4_pairs_19 ⟨Nat.le_of_ble_eq_true rfl, Nat.le_of_ble_eq_true rfl⟩) hS (fun q _ h => hFc q h) hFc (fun r_4 _ t H1 locs ht hvm hw hB hz1 hk1 hS => ?_)
        obtain ⟨hP1, hK1, hD1⟩ := hB
        rw [ht] at hP1
        obtain ⟨hP, hD⟩ := va_join (wr := [oReg ad xReg_size, ar (ad 37) cA 8 gGconf]) (w1 := []) hP hD [] [0, 1] rfl rfl (by decide) (by decide) hk1 hFc hP1 hD1
        clear hPc hDc hFc hP1 hK1 hD1 hk1 hz1 hvm ht
        generalize H1 = H at hP hS ⊢
        have hP : va_P (dC, dI) vwCl [oReg ad xReg_size, ar (ad 37) cA 8 gGconf] H := hP
        have hD : va_D A [oReg ad xReg_size, ar (ad 37) cA 8 gGconf] := hD
        have hw := hw.symm
        subst hw
        refine lv_iadd hx hb dX4_pairs_22 ?_
        refine lv_istore_n (lv' := [(1, .int (v1_4 + u_4)), (0, .ref (ad 33)), (2, .int v2_4)]) hx hb dX4_pairs_23 rfl hl (by decide) rfl (fun ls hl => ?_)
        refine lv_iinc (v := (v2_4 + 1)) (lv' := [(2, .int (v2_4 + 1)), (1, .int (v1_4 + u_4)), (0, .ref (ad 33))]) hx hb dX4_pairs_24 hl (k := 2) rfl rfl (by decide) rfl (fun ls hl => ?_)
        refine lv_goto (tgt := 4) hx hb dX4_pairs_27 (by decide) ?_
        exact ih_4 _ _ hm _ _ hP hD hS _ (lv_sub hl [2, 1, 0] rfl)
  unfold fG_pairs at hm
  refine lv_iconst (v := 0) hx hb dX4_pairs_0 (by decide) ?_
  refine lv_istore_n (lv' := [(1, .int 0), (0, .ref (ad 33))]) hx hb dX4_pairs_1 rfl hl (by decide) rfl (fun ls hl => ?_)
  refine lv_iconst (v := 0) hx hb dX4_pairs_2 (by decide) ?_
  refine lv_istore_n (lv' := [(2, .int 0), (1, .int 0), (0, .ref (ad 33))]) hx hb dX4_pairs_3 rfl hl (by decide) rfl (fun ls hl => ?_)
  exact h_4 _ _ _ hm _ _ hP hD hS _ (lv_sub hl [2, 1, 0] rfl)

set_option maxHeartbeats 4000000 in
set_option maxRecDepth 100000 in
theorem kC_leave (l : Launch) (dC : Nat → ClassId) (dI : Nat → Nat → Nat) (cA : ClassId) (ad : Nat → Nat) (sz : Nat) (a1 : Int32) (xHC_first : Int32) (xHC_second : Int32) (xHC_when : Int32) (xHC_ran : Int32) (xReg_size : Int32) (gGyears : Nat → Int32) (gGcounted : Nat → Int32) (gGborn : Nat → Int32) (gGconf : Nat → Int32) (u : Int32 × (Nat → Int32)) (hm : fC_leave a1 xReg_size gGyears gGcounted gGborn gGconf = some u) : Met l yX9_leave wsX9_leave ({ frames := 3, cells := 0, slots := 0, locals := 70 }) (va_Pc [.ref (ad 0), .int a1] (fun U => U.heap.size = sz ∧ va_P (dC, dI) vwCl [oHC ad xHC_first xHC_second xHC_when xHC_ran, oReg ad xReg_size, ar (ad 34) cA 8 gGyears, ar (ad 35) cA 8 gGcounted, ar (ad 36) cA 100 gGborn, ar (ad 37) cA 8 gGconf] U.heap ∧ va_K (dC, dI) vwCl [(cA, .int)] U ∧ va_D (fun _ => True) [oHC ad xHC_first xHC_second xHC_when xHC_ran, oReg ad xReg_size, ar (ad 34) cA 8 gGyears, ar (ad 35) cA 8 gGcounted, ar (ad 36) cA 100 gGborn, ar (ad 37) cA 8 gGconf])) (va_Qi (fun (r : Int32) (_ : Unit) => r = u.1) (fun (_ : Unit) t => va_P (dC, dI) vwCl [oHC ad xHC_first xHC_second xHC_when xHC_ran, oReg ad xReg_size, ar (ad 34) cA 8 gGyears, ar (ad 35) cA 8 gGcounted, ar (ad 36) cA 100 gGborn, ar (ad 37) cA 8 u.2] t.heap ∧ va_K (dC, dI) vwCl [(cA, .int)] t ∧ va_D (va_A [oHC ad xHC_first xHC_second xHC_when xHC_ran, oReg ad xReg_size, ar (ad 34) cA 8 gGyears, ar (ad 35) cA 8 gGcounted, ar (ad 36) cA 100 gGborn, ar (ad 37) cA 8 gGconf] sz) [oHC ad xHC_first xHC_second xHC_when xHC_ran, oReg ad xReg_size, ar (ad 34) cA 8 gGyears, ar (ad 35) cA 8 gGcounted, ar (ad 36) cA 100 gGborn, ar (ad 37) cA 8 u.2]) (va_A [oHC ad xHC_first xHC_second xHC_when xHC_ran, oReg ad xReg_size, ar (ad 34) cA 8 gGyears, ar (ad 35) cA 8 gGcounted, ar (ad 36) cA 100 gGborn, ar (ad 37) cA 8 gGconf] sz)) 0 0 (va_A [oHC ad xHC_first xHC_second xHC_when xHC_ran, oReg ad xReg_size, ar (ad 34) cA 8 gGyears, ar (ad 35) cA 8 gGcounted, ar (ad 36) cA 100 gGborn, ar (ad 37) cA 8 gGconf] sz) := by
  refine Met.ofW (cc := cX9_leave) (maxL := 3) (ret := (some .int)) (by decide) rfl ?_
  intro p e s m args below meth c s₁ B hml hv
  obtain ⟨rfl, hsz, hP, hK, hD0⟩ := hv
  have hx := B.exec
  have hb := B.bytes
  have hr := B.returns
  have hts := atoms_spec (ws := wsX9_leave) B.pre
  have hown : s.vm.findClass RX9 = some m.cls := findClass_of_methodNamed B.named
  have hlocks := B.notSynchronized
  subst hsz
  have hD := hD0.self (sz := s.heap.size)
  generalize hAe : va_A [oHC ad xHC_first xHC_second xHC_when xHC_ran, oReg ad xReg_size, ar (ad 34) cA 8 gGyears, ar (ad 35) cA 8 gGcounted, ar (ad 36) cA 100 gGborn, ar (ad 37) cA 8 gGconf] s.heap.size = A at hD ⊢
  have hA : ∀ q : Nat, s.heap.size ≤ q → A q := fun q h => by rw [← hAe]; exact Or.inr h
  have hS : va_S A s.heap s.heap [] := va_S.rf
  have hl := lv_entry ([.ref (ad 0), .int a1]) (n := 3) (Nat.le_of_ble_eq_true rfl)
  rw [lg_entry_eq]
  generalize (lg_sl ([.ref (ad 0), .int a1]) ++ List.replicate (3 - (lg_sl ([.ref (ad 0), .int a1])).length) Slot.unset).toArray = ls at hl ⊢
  have hl : lv_has ls 3 [(0, .ref (ad 0)), (1, .int a1)] := hl
  refine wk_Q (fun QQ hQ => ?_)
  have hinX9 : ∀ w ∈ wsX90, w ∈ wsX9_leave := fun w h => List.mem_cons_of_mem _ (inlX9 w h)
  have hl_61 := hts (.fieldLink RX9 61 "HandCensus" "register" "LHandCensus$Register;") (List.mem_cons_of_mem _ (in_r2 _ (List.mem_of_getElem? (i := 18) rfl)))
  unfold fC_leave at hm
  refine lv_iload_n hx hb dX9_leave_0 rfl (lv_at hl 1 rfl) ?_
  refine lv_if_lt (tgt := 9) hx hb dX9_leave_1 (by decide) (fun c_1 => ?_) (fun c_1 => ?_)
  · have hm := it_pos c_1 hm
    refine lv_bipush (v := (-2)) hx hb dX9_leave_9 (by decide) ?_
    obtain rfl := Option.some.inj hm
    subst hQ
    exact W.iret (v := (-2)) hx hb hr (fun t ht hW => ⟨⟨_, (), rfl, rfl, by rw [ht]; exact hP, va_K.moved hW.alike hK, hAe ▸ hD⟩, hS.F ht⟩) hS.2.2 dX9_leave_11
  · have hm := it_neg c_1 hm
    refine lv_iload_n hx hb dX9_leave_4 rfl (lv_at hl 1 rfl) ?_
    refine lv_iconst (v := 2) hx hb dX9_leave_5 (by decide) ?_
    refine lv_icmp_le (tgt := 12) hx hb dX9_leave_6 (by decide) (fun c_2 => ?_) (fun c_2 => ?_)
    · have hm := it_pos c_2 hm
      refine lv_aload_n hx hb dX9_leave_12 rfl (lv_at hl 0 rfl) ?_
      refine va_get (D := (dC, dI)) (ci := 9) (v := .ref (ad 33)) (C := RX9) (T := TX9) (N := 12) hx hb hts hinX9 hown hK hP 0 rfl rfl 6 (by decide) hl_61 (fun _ h9 => h9) rfl dX9_leave_13 ?_
      have hPc := hP.sub (ws' := [oReg ad xReg_size, ar (ad 34) cA 8 gGyears, ar (ad 35) cA 8 gGcounted, ar (ad 36) cA 100 gGborn, ar (ad 37) cA 8 gGconf]) [1, 2, 3, 4, 5] rfl
      have hDc := hD.sub (ws' := [oReg ad xReg_size, ar (ad 34) cA 8 gGyears, ar (ad 35) cA 8 gGcounted, ar (ad 36) cA 100 gGborn, ar (ad 37) cA 8 gGconf]) [1, 2, 3, 4, 5] (by decide) rfl
      have hFc := va_free (wc := [oReg ad xReg_size, ar (ad 34) cA 8 gGyears, ar (ad 35) cA 8 gGcounted, ar (ad 36) cA 100 gGborn, ar (ad 37) cA 8 gGconf]) hD hS hA [1, 2, 3, 4, 5] rfl
      obtain ⟨u_3, hc_3, hm⟩ := bd_ok hm
      refine va_callv (va_runV (As := []) (rest := []) ⟨hx, hb, hml, hown, hts⟩ (kG_findConflicts l dC dI cA ad s.heap.size xReg_size gGyears gGcounted gGborn gGconf u_3 hc_3) (cwV 0 hts gX9_leave_X4_findConflicts rfl rfl rfl (by decide +kernel) ⟨Nat.le_of_ble_eq_true rfl, Nat.le_of_ble_eq_true rfl⟩) ⟨fun a U g mk q => by obtain ⟨q0, q1, qP, qK, qD⟩ := q; exact ⟨q0, q1, qP, va_K.moved (u := U) (U := U.calling g mk a) (Vm.Alike.refl U.vm) qK, qD⟩, va_recv hK hPc (ci := 4) (q0 := 0) rfl rfl, fun U hU hW => ⟨rfl, by rw [hU], by rw [hU]; exact hPc, va_K.moved hW.alike hK, hDc.weaken (fun _ _ _ _ => trivial)⟩⟩ rfl rfl hl.1 rfl (lv_room (Nat.le_of_ble_eq_true rfl)) dX9_leave_16 ⟨Nat.le_of_ble_eq_true rfl, Nat.le_of_ble_eq_true rfl⟩) hS (fun q _ h => hFc q h) hFc (fun _ t H1 locs ht hvm hw hB hz1 hk1 hS => ?_)
      obtain ⟨hP1, hK1, hD1⟩ := hB
      rw [ht] at hP1
      obtain ⟨hP, hD⟩ := va_join (wr := [oHC ad xHC_first xHC_second xHC_when xHC_ran]) (w1 := [oReg ad xReg_size, ar (ad 34) cA 8 gGyears, ar (ad 35) cA 8 gGcounted, ar (ad 36) cA 100 gGborn, ar (ad 37) cA 8 u_3]) hP hD [1, 2, 3, 4, 5] [0] rfl rfl (by decide) (by decide) hk1 hFc hP1 hD1
      clear hPc hDc hFc hP1 hK1 hD1 hk1 hz1 hvm ht
      generalize H1 = H at hP hS ⊢
      have hP : va_P (dC, dI) vwCl [oHC ad xHC_first xHC_second xHC_when xHC_ran, oReg ad xReg_size, ar (ad 34) cA 8 gGyears, ar (ad 35) cA 8 gGcounted, ar (ad 36) cA 100 gGborn, ar (ad 37) cA 8 u_3] H := hP
      have hD : va_D A [oHC ad xHC_first xHC_second xHC_when xHC_ran, oReg ad xReg_size, ar (ad 34) cA 8 gGyears, ar (ad 35) cA 8 gGcounted, ar (ad 36) cA 100 gGborn, ar (ad 37) cA 8 u_3] := hD
      refine lv_iload_n hx hb dX9_leave_19 rfl (lv_at hl 1 rfl) ?_
      refine lv_if_ne (tgt := 31) hx hb dX9_leave_20 (by decide) (fun c_4 => ?_) (fun c_4 => ?_)
      · have hm := it_neg c_4 hm
        refine lv_aload_n hx hb dX9_leave_31 rfl (lv_at hl 0 rfl) ?_
        refine va_get (D := (dC, dI)) (ci := 9) (v := .ref (ad 33)) (C := RX9) (T := TX9) (N := 12) hx hb hts hinX9 hown hK hP 0 rfl rfl 6 (by decide) hl_61 (fun _ h9 => h9) rfl dX9_leave_32 ?_
        have hPc := hP.sub (ws' := [oReg ad xReg_size, ar (ad 37) cA 8 u_3]) [1, 5] rfl
        have hDc := hD.sub (ws' := [oReg ad xReg_size, ar (ad 37) cA 8 u_3]) [1, 5] (by decide) rfl
        have hFc := va_free (wc := [oReg ad xReg_size, ar (ad 37) cA 8 u_3]) hD hS hA [1, 5] rfl
        obtain ⟨u_5, hc_5, hm⟩ := bd_ok hm
        refine va_calli (va_runV (As := []) (rest := []) ⟨hx, hb, hml, hown, hts⟩ (kG_leastOut l dC dI cA ad H.size xReg_size u_3 u_5 hc_5) (cwV 0 hts gX9_leave_X4_leastOut rfl rfl rfl (by decide +kernel) ⟨Nat.le_of_ble_eq_true rfl, Nat.le_of_ble_eq_true rfl⟩) ⟨fun a U g mk q => by obtain ⟨q0, q1, qP, qK, qD⟩ := q; exact ⟨q0, q1, qP, va_K.moved (u := U) (U := U.calling g mk a) (Vm.Alike.refl U.vm) qK, qD⟩, va_recv hK hPc (ci := 4) (q0 := 0) rfl rfl, fun U hU hW => ⟨rfl, by rw [hU], by rw [hU]; exact hPc, va_K.moved hW.alike hK, hDc.weaken (fun _ _ _ _ => trivial)⟩⟩ rfl rfl hl.1 rfl (lv_room (Nat.le_of_ble_eq_true rfl)) dX9_leave_35 ⟨Nat.le_of_ble_eq_true rfl, Nat.le_of_ble_eq_true rfl⟩) hS (fun q _ h => hFc q h) hFc (fun r_5 _ t H1 locs ht hvm hw hB hz1 hk1 hS => ?_)
        obtain ⟨hP1, hK1, hD1⟩ := hB
        rw [ht] at hP1
        obtain ⟨hP, hD⟩ := va_join (wr := [oHC ad xHC_first xHC_second xHC_when xHC_ran, ar (ad 34) cA 8 gGyears, ar (ad 35) cA 8 gGcounted, ar (ad 36) cA 100 gGborn]) (w1 := [oReg ad xReg_size, ar (ad 37) cA 8 u_3]) hP hD [1, 5] [0, 2, 3, 4] rfl rfl (by decide) (by decide) hk1 hFc hP1 hD1
        clear hPc hDc hFc hP1 hK1 hD1 hk1 hz1 hvm ht
        generalize H1 = H at hP hS ⊢
        have hP : va_P (dC, dI) vwCl [oHC ad xHC_first xHC_second xHC_when xHC_ran, oReg ad xReg_size, ar (ad 34) cA 8 gGyears, ar (ad 35) cA 8 gGcounted, ar (ad 36) cA 100 gGborn, ar (ad 37) cA 8 u_3] H := hP.sub [0, 4, 1, 2, 3, 5] rfl
        have hD : va_D A [oHC ad xHC_first xHC_second xHC_when xHC_ran, oReg ad xReg_size, ar (ad 34) cA 8 gGyears, ar (ad 35) cA 8 gGcounted, ar (ad 36) cA 100 gGborn, ar (ad 37) cA 8 u_3] := hD.sub [0, 4, 1, 2, 3, 5] (by decide) rfl
        have hw := hw.symm
        subst hw
        refine lv_istore_n (lv' := [(2, .int u_5), (0, .ref (ad 0)), (1, .int a1)]) hx hb dX9_leave_38 rfl hl (by decide) rfl (fun ls hl => ?_)
        refine lv_iload_n hx hb dX9_leave_39 rfl (lv_at hl 2 rfl) ?_
        refine lv_iconst (v := 1) hx hb dX9_leave_40 (by decide) ?_
        refine lv_icmp_ne (tgt := 51) hx hb dX9_leave_41 (by decide) (fun c_6 => ?_) (fun c_6 => ?_)
        · have hm := it_neg c_6 hm
          refine lv_iload_n hx hb dX9_leave_51 rfl (lv_at hl 0 rfl) ?_
          obtain rfl := Option.some.inj hm
          subst hQ
          exact W.iret (v := u_5) hx hb hr (fun t ht hW => ⟨⟨_, (), rfl, rfl, by rw [ht]; exact hP, va_K.moved hW.alike hK, hAe ▸ hD⟩, hS.F ht⟩) hS.2.2 dX9_leave_52
        · have hm := it_pos c_6 hm
          refine lv_iload_n hx hb dX9_leave_44 rfl (lv_at hl 0 rfl) ?_
          have hPc := hP.sub (ws' := []) [] rfl
          have hDc := hD.sub (ws' := []) [] (by decide) rfl
          have hFc := va_free (wc := []) hD hS hA [] rfl
          obtain ⟨u_7, hc_7, hm⟩ := bd_ok hm
          refine va_calli (va_runS (As := [.int u_5]) (rest := []) ⟨hx, hb, hml, hown, hts⟩ (kJ_bitCount l dC dI cA H.size u_5 u_7 hc_7) (va_cwS 1 hts gX9_leave_J6_bitCount_0f7a4 rfl rfl rfl (by decide +kernel) ⟨Nat.le_of_ble_eq_true rfl, Nat.le_of_ble_eq_true rfl⟩) ⟨fun a U g mk q => by obtain ⟨q0, q1, qP, qK, qD⟩ := q; exact ⟨q0, q1, qP, va_K.moved (u := U) (U := U.calling g mk a) (Vm.Alike.refl U.vm) qK, qD⟩, fun U hU hW => ⟨rfl, by rw [hU], by rw [hU]; exact hPc, va_K.moved hW.alike hK, hDc.weaken (fun _ _ _ _ => trivial)⟩⟩ rfl rfl hl.1 rfl (lv_room (Nat.le_of_ble_eq_true rfl)) dX9_leave_45 ⟨Nat.le_of_ble_eq_true rfl, Nat.le_of_ble_eq_true rfl⟩) hS (fun q _ h => hFc q h) hFc (fun r_7 _ t H1 locs ht hvm hw hB hz1 hk1 hS => ?_)
          obtain ⟨hP1, hK1, hD1⟩ := hB
          rw [ht] at hP1
          obtain ⟨hP, hD⟩ := va_join (wr := [oHC ad xHC_first xHC_second xHC_when xHC_ran, oReg ad xReg_size, ar (ad 34) cA 8 gGyears, ar (ad 35) cA 8 gGcounted, ar (ad 36) cA 100 gGborn, ar (ad 37) cA 8 u_3]) (w1 := []) hP hD [] [0, 1, 2, 3, 4, 5] rfl rfl (by decide) (by decide) hk1 hFc hP1 hD1
          clear hPc hDc hFc hP1 hK1 hD1 hk1 hz1 hvm ht
          generalize H1 = H at hP hS ⊢
          have hP : va_P (dC, dI) vwCl [oHC ad xHC_first xHC_second xHC_when xHC_ran, oReg ad xReg_size, ar (ad 34) cA 8 gGyears, ar (ad 35) cA 8 gGcounted, ar (ad 36) cA 100 gGborn, ar (ad 37) cA 8 u_3] H := hP
          have hD : va_D A [oHC ad xHC_first xHC_second xHC_when xHC_ran, oReg ad xReg_size, ar (ad 34) cA 8 gGyears, ar (ad 35) cA 8 gGcounted, ar (ad 36) cA 100 gGborn, ar (ad 37) cA 8 u_3] := hD
          have hw := hw.symm
          subst hw
          refine lv_goto (tgt := 52) hx hb dX9_leave_48 (by decide) ?_
          obtain rfl := Option.some.inj hm
          subst hQ
          exact W.iret (v := u_7) hx hb hr (fun t ht hW => ⟨⟨_, (), rfl, rfl, by rw [ht]; exact hP, va_K.moved hW.alike hK, hAe ▸ hD⟩, hS.F ht⟩) hS.2.2 dX9_leave_52
      · have hm := it_pos c_4 hm
        refine lv_aload_n hx hb dX9_leave_23 rfl (lv_at hl 0 rfl) ?_
        refine va_get (D := (dC, dI)) (ci := 9) (v := .ref (ad 33)) (C := RX9) (T := TX9) (N := 12) hx hb hts hinX9 hown hK hP 0 rfl rfl 6 (by decide) hl_61 (fun _ h9 => h9) rfl dX9_leave_24 ?_
        have hPc := hP.sub (ws' := [oReg ad xReg_size, ar (ad 37) cA 8 u_3]) [1, 5] rfl
        have hDc := hD.sub (ws' := [oReg ad xReg_size, ar (ad 37) cA 8 u_3]) [1, 5] (by decide) rfl
        have hFc := va_free (wc := [oReg ad xReg_size, ar (ad 37) cA 8 u_3]) hD hS hA [1, 5] rfl
        obtain ⟨u_8, hc_8, hm⟩ := bd_ok hm
        refine va_calli (va_runV (As := []) (rest := []) ⟨hx, hb, hml, hown, hts⟩ (kG_pairs l dC dI cA ad H.size xReg_size u_3 u_8 hc_8) (cwV 0 hts gX9_leave_X4_pairs rfl rfl rfl (by decide +kernel) ⟨Nat.le_of_ble_eq_true rfl, Nat.le_of_ble_eq_true rfl⟩) ⟨fun a U g mk q => by obtain ⟨q0, q1, qP, qK, qD⟩ := q; exact ⟨q0, q1, qP, va_K.moved (u := U) (U := U.calling g mk a) (Vm.Alike.refl U.vm) qK, qD⟩, va_recv hK hPc (ci := 4) (q0 := 0) rfl rfl, fun U hU hW => ⟨rfl, by rw [hU], by rw [hU]; exact hPc, va_K.moved hW.alike hK, hDc.weaken (fun _ _ _ _ => trivial)⟩⟩ rfl rfl hl.1 rfl (lv_room (Nat.le_of_ble_eq_true rfl)) dX9_leave_27 ⟨Nat.le_of_ble_eq_true rfl, Nat.le_of_ble_eq_true rfl⟩) hS (fun q _ h => hFc q h) hFc (fun r_8 _ t H1 locs ht hvm hw hB hz1 hk1 hS => ?_)
        obtain ⟨hP1, hK1, hD1⟩ := hB
        rw [ht] at hP1
        obtain ⟨hP, hD⟩ := va_join (wr := [oHC ad xHC_first xHC_second xHC_when xHC_ran, ar (ad 34) cA 8 gGyears, ar (ad 35) cA 8 gGcounted, ar (ad 36) cA 100 gGborn]) (w1 := [oReg ad xReg_size, ar (ad 37) cA 8 u_3]) hP hD [1, 5] [0, 2, 3, 4] rfl rfl (by decide) (by decide) hk1 hFc hP1 hD1
        clear hPc hDc hFc hP1 hK1 hD1 hk1 hz1 hvm ht
        generalize H1 = H at hP hS ⊢
        have hP : va_P (dC, dI) vwCl [oHC ad xHC_first xHC_second xHC_when xHC_ran, oReg ad xReg_size, ar (ad 34) cA 8 gGyears, ar (ad 35) cA 8 gGcounted, ar (ad 36) cA 100 gGborn, ar (ad 37) cA 8 u_3] H := hP.sub [0, 4, 1, 2, 3, 5] rfl
        have hD : va_D A [oHC ad xHC_first xHC_second xHC_when xHC_ran, oReg ad xReg_size, ar (ad 34) cA 8 gGyears, ar (ad 35) cA 8 gGcounted, ar (ad 36) cA 100 gGborn, ar (ad 37) cA 8 u_3] := hD.sub [0, 4, 1, 2, 3, 5] (by decide) rfl
        have hw := hw.symm
        subst hw
        obtain rfl := Option.some.inj hm
        subst hQ
        exact W.iret (v := u_8) hx hb hr (fun t ht hW => ⟨⟨_, (), rfl, rfl, by rw [ht]; exact hP, va_K.moved hW.alike hK, hAe ▸ hD⟩, hS.F ht⟩) hS.2.2 dX9_leave_30
    · have hm := it_neg c_2 hm
      refine lv_bipush (v := (-2)) hx hb dX9_leave_9 (by decide) ?_
      obtain rfl := Option.some.inj hm
      subst hQ
      exact W.iret (v := (-2)) hx hb hr (fun t ht hW => ⟨⟨_, (), rfl, rfl, by rw [ht]; exact hP, va_K.moved hW.alike hK, hAe ▸ hD⟩, hS.F ht⟩) hS.2.2 dX9_leave_11

set_option maxHeartbeats 4000000 in
set_option maxRecDepth 100000 in
theorem kL_isForm (l : Launch) (dC : Nat → ClassId) (dI : Nat → Nat → Nat) (cA : ClassId) (ad : Nat → Nat) (sz : Nat) (a0 : Int32) (u : Int32) (hm : fL_isForm a0 = some u) : Met l yX6_isForm wsX6_isForm ({ frames := 0, cells := 0, slots := 0, locals := 0 }) (va_Pc [.int a0] (fun U => U.heap.size = sz ∧ va_P (dC, dI) vwCl [] U.heap ∧ va_K (dC, dI) vwCl [(cA, .int)] U ∧ va_D (fun _ => True) [])) (va_Qi (fun (r : Int32) (_ : Unit) => r = u) (fun (_ : Unit) t => va_P (dC, dI) vwCl [] t.heap ∧ va_K (dC, dI) vwCl [(cA, .int)] t ∧ va_D (va_A [] sz) []) (va_A [] sz)) 0 0 (va_A [] sz) := by
  refine Met.ofW (cc := cX6_isForm) (maxL := 1) (ret := (some .boolean)) (by decide) rfl ?_
  intro p e s m args below meth c s₁ B hml hv
  obtain ⟨rfl, hsz, hP, hK, hD0⟩ := hv
  have hx := B.exec
  have hb := B.bytes
  have hr := B.returns
  have hts := atoms_spec (ws := wsX6_isForm) B.pre
  have hown : s.vm.findClass RX6 = some m.cls := findClass_of_methodNamed B.named
  have hlocks := B.notSynchronized
  subst hsz
  have hD := hD0.self (sz := s.heap.size)
  generalize hAe : va_A [] s.heap.size = A at hD ⊢
  have hA : ∀ q : Nat, s.heap.size ≤ q → A q := fun q h => by rw [← hAe]; exact Or.inr h
  have hS : va_S A s.heap s.heap [] := va_S.rf
  have hl := lv_entry ([.int a0]) (n := 1) (Nat.le_of_ble_eq_true rfl)
  rw [lg_entry_eq]
  generalize (lg_sl ([.int a0]) ++ List.replicate (1 - (lg_sl ([.int a0])).length) Slot.unset).toArray = ls at hl ⊢
  have hl : lv_has ls 1 [(0, .int a0)] := hl
  refine wk_Q (fun QQ hQ => ?_)
  unfold fL_isForm at hm
  refine lv_iload_n hx hb dX6_isForm_0 rfl (lv_at hl 0 rfl) ?_
  refine lv_if_lt (tgt := 13) hx hb dX6_isForm_1 (by decide) (fun c_1 => ?_) (fun c_1 => ?_)
  · have hm := it_pos c_1 hm
    refine lv_iconst (v := 0) hx hb dX6_isForm_13 (by decide) ?_
    obtain rfl := Option.some.inj hm
    subst hQ
    exact W.zret (v := 0) hx hb hr rfl (fun t ht hW => ⟨⟨_, (), rfl, rfl, by rw [ht]; exact hP, va_K.moved hW.alike hK, hAe ▸ hD⟩, hS.F ht⟩) hS.2.2 dX6_isForm_14
  · have hm := it_neg c_1 hm
    refine lv_iload_n hx hb dX6_isForm_4 rfl (lv_at hl 0 rfl) ?_
    refine lv_iconst (v := 2) hx hb dX6_isForm_5 (by decide) ?_
    refine lv_icmp_gt (tgt := 13) hx hb dX6_isForm_6 (by decide) (fun c_2 => ?_) (fun c_2 => ?_)
    · have hm := it_pos c_2 hm
      refine lv_iconst (v := 0) hx hb dX6_isForm_13 (by decide) ?_
      obtain rfl := Option.some.inj hm
      subst hQ
      exact W.zret (v := 0) hx hb hr rfl (fun t ht hW => ⟨⟨_, (), rfl, rfl, by rw [ht]; exact hP, va_K.moved hW.alike hK, hAe ▸ hD⟩, hS.F ht⟩) hS.2.2 dX6_isForm_14
    · have hm := it_neg c_2 hm
      refine lv_iconst (v := 1) hx hb dX6_isForm_9 (by decide) ?_
      refine lv_goto (tgt := 14) hx hb dX6_isForm_10 (by decide) ?_
      obtain rfl := Option.some.inj hm
      subst hQ
      exact W.zret (v := 1) hx hb hr rfl (fun t ht hW => ⟨⟨_, (), rfl, rfl, by rw [ht]; exact hP, va_K.moved hW.alike hK, hAe ▸ hD⟩, hS.F ht⟩) hS.2.2 dX6_isForm_14

set_option maxHeartbeats 4000000 in
set_option maxRecDepth 100000 in
theorem kL_store (l : Launch) (dC : Nat → ClassId) (dI : Nat → Nat → Nat) (cA : ClassId) (ad : Nat → Nat) (sz : Nat) (a1 : Int32) (a2 : Int32) (a3 : Int32) (xShe_latest : Int32) (gLitems : Nat → Int32) (gLforms : Nat → Int32) (u : (Nat → Int32)) (hm : fL_store a1 a2 a3 gLitems gLforms = some u) : Met l yX6_store wsX6_store ({ frames := 0, cells := 0, slots := 0, locals := 0 }) (va_Pc [.ref (ad 38), .int a1, .int a2, .int a3] (fun U => U.heap.size = sz ∧ va_P (dC, dI) vwCl [oShe ad xShe_latest, ar (ad 39) cA 240 gLitems, ar (ad 40) cA 4 gLforms] U.heap ∧ va_K (dC, dI) vwCl [(cA, .int)] U ∧ va_D (fun _ => True) [oShe ad xShe_latest, ar (ad 39) cA 240 gLitems, ar (ad 40) cA 4 gLforms])) (va_Qv (fun (_ : Unit) => True) (fun (_ : Unit) t => va_P (dC, dI) vwCl [oShe ad xShe_latest, ar (ad 39) cA 240 u, ar (ad 40) cA 4 gLforms] t.heap ∧ va_K (dC, dI) vwCl [(cA, .int)] t ∧ va_D (va_A [oShe ad xShe_latest, ar (ad 39) cA 240 gLitems, ar (ad 40) cA 4 gLforms] sz) [oShe ad xShe_latest, ar (ad 39) cA 240 u, ar (ad 40) cA 4 gLforms]) (va_A [oShe ad xShe_latest, ar (ad 39) cA 240 gLitems, ar (ad 40) cA 4 gLforms] sz)) 0 0 (va_A [oShe ad xShe_latest, ar (ad 39) cA 240 gLitems, ar (ad 40) cA 4 gLforms] sz) := by
  refine Met.ofW (cc := cX6_store) (maxL := 5) (ret := none) (by decide) rfl ?_
  intro p e s m args below meth c s₁ B hml hv
  obtain ⟨rfl, hsz, hP, hK, hD0⟩ := hv
  have hx := B.exec
  have hb := B.bytes
  have hr := B.returns
  have hts := atoms_spec (ws := wsX6_store) B.pre
  have hown : s.vm.findClass RX6 = some m.cls := findClass_of_methodNamed B.named
  have hlocks := B.notSynchronized
  subst hsz
  have hD := hD0.self (sz := s.heap.size)
  generalize hAe : va_A [oShe ad xShe_latest, ar (ad 39) cA 240 gLitems, ar (ad 40) cA 4 gLforms] s.heap.size = A at hD ⊢
  have hA : ∀ q : Nat, s.heap.size ≤ q → A q := fun q h => by rw [← hAe]; exact Or.inr h
  have hS : va_S A s.heap s.heap [] := va_S.rf
  have hl := lv_entry ([.ref (ad 38), .int a1, .int a2, .int a3]) (n := 5) (Nat.le_of_ble_eq_true rfl)
  rw [lg_entry_eq]
  generalize (lg_sl ([.ref (ad 38), .int a1, .int a2, .int a3]) ++ List.replicate (5 - (lg_sl ([.ref (ad 38), .int a1, .int a2, .int a3])).length) Slot.unset).toArray = ls at hl ⊢
  have hl : lv_has ls 5 [(0, .ref (ad 38)), (1, .int a1), (2, .int a2), (3, .int a3)] := hl
  refine wk_Q (fun QQ hQ => ?_)
  have hinX6 : ∀ w ∈ wsX60, w ∈ wsX6_store := fun w h => List.mem_cons_of_mem _ (inlX6 w h)
  have hl_11 := hts (.fieldLink RX6 11 "HandCensus$Shelf" "items" "[I") (List.mem_cons_of_mem _ (in_r6 _ (List.mem_of_getElem? (i := 7) rfl)))
  have hl_15 := hts (.fieldLink RX6 15 "HandCensus$Shelf" "forms" "[I") (List.mem_cons_of_mem _ (in_r6 _ (List.mem_of_getElem? (i := 8) rfl)))
  have b_33 : ∀ (v1_33 : Int32) (v2_33 : Int32) (v4_33 : Int32) (gLitems_33 : Nat → Int32), fL_store_33 v1_33 v2_33 v4_33 gLitems_33 = some u → ∀ (H : Heap) (locs : List Loc), va_P (dC, dI) vwCl [oShe ad xShe_latest, ar (ad 39) cA 240 gLitems_33, ar (ad 40) cA 4 gLforms] H → va_D A [oShe ad xShe_latest, ar (ad 39) cA 240 gLitems_33, ar (ad 40) cA 4 gLforms] → va_S A s.heap H locs → ∀ ls : Array Slot, lv_has ls 5 [(0, .ref (ad 38)), (1, .int v1_33), (2, .int v2_33), (4, .int v4_33)] → W p l e (headSpec wsX6_store ({ frames := 0, cells := 0, slots := 0, locals := 0 })).room s m ([.ref (ad 38), .int a1, .int a2, .int a3] : List Value).toArray below meth c H locs 0 0 QQ (F0 m 33 ls []) := by
    intro v1_33 v2_33 v4_33 gLitems_33 hm H locs hP hD hS ls hl
    unfold fL_store_33 at hm
    refine lv_aload_n hx hb dX6_store_33 rfl (lv_at hl 0 rfl) ?_
    refine va_get (D := (dC, dI)) (ci := 6) (v := .ref (ad 39)) (C := RX6) (T := TX6) (N := 4) hx hb hts hinX6 hown hK hP 0 rfl rfl 0 (by decide) hl_11 (fun _ h9 => h9) rfl dX6_store_34 ?_
    refine lv_iload_n hx hb dX6_store_37 rfl (lv_at hl 1 rfl) ?_
    refine lv_bipush (v := 60) hx hb dX6_store_38 (by decide) ?_
    refine lv_imul hx hb dX6_store_40 ?_
    refine lv_iload_n hx hb dX6_store_41 rfl (lv_at hl 2 rfl) ?_
    refine lv_iadd hx hb dX6_store_42 ?_
    refine lv_iload hx hb dX6_store_43 (lv_at hl 3 rfl) ?_
    obtain ⟨i_1, hm⟩ := ck_ok hm
    refine va_iast hx hb hK hP hD hS 1 0 rfl rfl i_1 dX6_store_45 (fun H locs hP hD hS => ?_)
    have hP : va_P (dC, dI) vwCl [oShe ad xShe_latest, ar (ad 39) cA 240 (upd gLitems_33 ((v1_33 * 60) + v2_33).toNatClampNeg v4_33), ar (ad 40) cA 4 gLforms] H := hP
    have hD : va_D A [oShe ad xShe_latest, ar (ad 39) cA 240 (upd gLitems_33 ((v1_33 * 60) + v2_33).toNatClampNeg v4_33), ar (ad 40) cA 4 gLforms] := hD
    obtain rfl := Option.some.inj hm
    subst hQ
    exact W.vret hx hb hr (fun t ht hW => ⟨⟨(), rfl, trivial, by rw [ht]; exact hP, va_K.moved hW.alike hK, hAe ▸ hD⟩, hS.F ht⟩) hS.2.2 dX6_store_46
  unfold fL_store at hm
  refine lv_iload_n hx hb dX6_store_0 rfl (lv_at hl 3 rfl) ?_
  refine lv_istore (lv' := [(4, .int a3), (0, .ref (ad 38)), (1, .int a1), (2, .int a2), (3, .int a3)]) hx hb dX6_store_1 hl (by decide) rfl (fun ls hl => ?_)
  refine lv_aload_n hx hb dX6_store_3 rfl (lv_at hl 1 rfl) ?_
  refine va_get (D := (dC, dI)) (ci := 6) (v := .ref (ad 40)) (C := RX6) (T := TX6) (N := 4) hx hb hts hinX6 hown hK hP 0 rfl rfl 1 (by decide) hl_15 (fun _ h9 => h9) rfl dX6_store_4 ?_
  refine lv_iload_n hx hb dX6_store_7 rfl (lv_at hl 2 rfl) ?_
  obtain ⟨i_2, hm⟩ := ck_ok hm
  refine va_iald hx hb hK hP 2 0 rfl rfl i_2 dX6_store_8 ?_
  refine lv_if_ne (tgt := 19) hx hb dX6_store_9 (by decide) (fun c_3 => ?_) (fun c_3 => ?_)
  · have hm := it_neg c_3 hm
    refine lv_aload_n hx hb dX6_store_19 rfl (lv_at hl 1 rfl) ?_
    refine va_get (D := (dC, dI)) (ci := 6) (v := .ref (ad 40)) (C := RX6) (T := TX6) (N := 4) hx hb hts hinX6 hown hK hP 0 rfl rfl 1 (by decide) hl_15 (fun _ h9 => h9) rfl dX6_store_20 ?_
    refine lv_iload_n hx hb dX6_store_23 rfl (lv_at hl 2 rfl) ?_
    obtain ⟨i_4, hm⟩ := ck_ok hm
    refine va_iald hx hb hK hP 2 0 rfl rfl i_4 dX6_store_24 ?_
    refine lv_iconst (v := 1) hx hb dX6_store_25 (by decide) ?_
    refine lv_icmp_ne (tgt := 33) hx hb dX6_store_26 (by decide) (fun c_5 => ?_) (fun c_5 => ?_)
    · have hm := it_neg c_5 hm
      exact b_33 _ _ _ _ hm _ _ hP hD hS _ (lv_sub hl [1, 2, 3, 0] rfl)
    · have hm := it_pos c_5 hm
      refine lv_iload_n hx hb dX6_store_29 rfl (lv_at hl 4 rfl) ?_
      refine lv_i2s hx hb dX6_store_30 rfl ?_
      refine lv_istore (lv' := [(4, .int a3.toInt16.toInt32), (0, .ref (ad 38)), (1, .int a1), (2, .int a2), (3, .int a3)]) hx hb dX6_store_31 hl (by decide) rfl (fun ls hl => ?_)
      exact b_33 _ _ _ _ hm _ _ hP hD hS _ (lv_sub hl [1, 2, 3, 0] rfl)
  · have hm := it_pos c_3 hm
    refine lv_iload_n hx hb dX6_store_12 rfl (lv_at hl 4 rfl) ?_
    refine lv_i2b hx hb dX6_store_13 rfl ?_
    refine lv_istore (lv' := [(4, .int a3.toInt8.toInt32), (0, .ref (ad 38)), (1, .int a1), (2, .int a2), (3, .int a3)]) hx hb dX6_store_14 hl (by decide) rfl (fun ls hl => ?_)
    refine lv_goto (tgt := 33) hx hb dX6_store_16 (by decide) ?_
    exact b_33 _ _ _ _ hm _ _ hP hD hS _ (lv_sub hl [1, 2, 3, 0] rfl)

set_option maxHeartbeats 4000000 in
set_option maxRecDepth 100000 in
theorem kL_layOut (l : Launch) (dC : Nat → ClassId) (dI : Nat → Nat → Nat) (cA : ClassId) (ad : Nat → Nat) (sz : Nat) (a1 : Int32) (a2 : Int32) (a3 : Int32) (xShe_latest : Int32) (gLitems : Nat → Int32) (gLforms : Nat → Int32) (gLsizes : Nat → Int32) (u : Int32 × Int32 × (Nat → Int32) × (Nat → Int32) × (Nat → Int32)) (hm : fL_layOut a1 a2 a3 xShe_latest gLitems gLforms gLsizes = some u) : Met l yX6_layOut wsX6_layOut ({ frames := 1, cells := 0, slots := 0, locals := 24 }) (va_Pc [.ref (ad 38), .int a1, .int a2, .int a3] (fun U => U.heap.size = sz ∧ va_P (dC, dI) vwCl [oShe ad xShe_latest, ar (ad 39) cA 240 gLitems, ar (ad 40) cA 4 gLforms, ar (ad 41) cA 4 gLsizes] U.heap ∧ va_K (dC, dI) vwCl [(cA, .int)] U ∧ va_D (fun _ => True) [oShe ad xShe_latest, ar (ad 39) cA 240 gLitems, ar (ad 40) cA 4 gLforms, ar (ad 41) cA 4 gLsizes])) (va_Qi (fun (r : Int32) (_ : Unit) => r = u.1) (fun (_ : Unit) t => va_P (dC, dI) vwCl [oShe ad u.2.1, ar (ad 39) cA 240 u.2.2.1, ar (ad 40) cA 4 u.2.2.2.1, ar (ad 41) cA 4 u.2.2.2.2] t.heap ∧ va_K (dC, dI) vwCl [(cA, .int)] t ∧ va_D (va_A [oShe ad xShe_latest, ar (ad 39) cA 240 gLitems, ar (ad 40) cA 4 gLforms, ar (ad 41) cA 4 gLsizes] sz) [oShe ad u.2.1, ar (ad 39) cA 240 u.2.2.1, ar (ad 40) cA 4 u.2.2.2.1, ar (ad 41) cA 4 u.2.2.2.2]) (va_A [oShe ad xShe_latest, ar (ad 39) cA 240 gLitems, ar (ad 40) cA 4 gLforms, ar (ad 41) cA 4 gLsizes] sz)) 0 0 (va_A [oShe ad xShe_latest, ar (ad 39) cA 240 gLitems, ar (ad 40) cA 4 gLforms, ar (ad 41) cA 4 gLsizes] sz) := by
  refine Met.ofW (cc := cX6_layOut) (maxL := 5) (ret := (some .int)) (by decide) rfl ?_
  intro p e s m args below meth c s₁ B hml hv
  obtain ⟨rfl, hsz, hP, hK, hD0⟩ := hv
  have hx := B.exec
  have hb := B.bytes
  have hr := B.returns
  have hts := atoms_spec (ws := wsX6_layOut) B.pre
  have hown : s.vm.findClass RX6 = some m.cls := findClass_of_methodNamed B.named
  have hlocks := B.notSynchronized
  subst hsz
  have hD := hD0.self (sz := s.heap.size)
  generalize hAe : va_A [oShe ad xShe_latest, ar (ad 39) cA 240 gLitems, ar (ad 40) cA 4 gLforms, ar (ad 41) cA 4 gLsizes] s.heap.size = A at hD ⊢
  have hA : ∀ q : Nat, s.heap.size ≤ q → A q := fun q h => by rw [← hAe]; exact Or.inr h
  have hS : va_S A s.heap s.heap [] := va_S.rf
  have hl := lv_entry ([.ref (ad 38), .int a1, .int a2, .int a3]) (n := 5) (Nat.le_of_ble_eq_true rfl)
  rw [lg_entry_eq]
  generalize (lg_sl ([.ref (ad 38), .int a1, .int a2, .int a3]) ++ List.replicate (5 - (lg_sl ([.ref (ad 38), .int a1, .int a2, .int a3])).length) Slot.unset).toArray = ls at hl ⊢
  have hl : lv_has ls 5 [(0, .ref (ad 38)), (1, .int a1), (2, .int a2), (3, .int a3)] := hl
  refine wk_Q (fun QQ hQ => ?_)
  have hinX6 : ∀ w ∈ wsX60, w ∈ wsX6_layOut := fun w h => List.mem_cons_of_mem _ (inlX6 w h)
  have hl_15 := hts (.fieldLink RX6 15 "HandCensus$Shelf" "forms" "[I") (List.mem_cons_of_mem _ (in_r6 _ (List.mem_of_getElem? (i := 8) rfl)))
  have hl_18 := hts (.fieldLink RX6 18 "HandCensus$Shelf" "sizes" "[I") (List.mem_cons_of_mem _ (in_r6 _ (List.mem_of_getElem? (i := 9) rfl)))
  have h_27 : ∀ (v1_27 : Int32) (v3_27 : Int32) (xShe_latest_27 : Int32) (gLforms_27 : Nat → Int32) (gLsizes_27 : Nat → Int32), ∀ (n_27 : Nat), ∀ (v4_27 : Int32) (gLitems_27 : Nat → Int32), fL_layOut_27 v1_27 v3_27 xShe_latest_27 gLforms_27 gLsizes_27 n_27 v4_27 gLitems_27 = some u → ∀ (H : Heap) (locs : List Loc), va_P (dC, dI) vwCl [oShe ad xShe_latest_27, ar (ad 39) cA 240 gLitems_27, ar (ad 40) cA 4 gLforms_27, ar (ad 41) cA 4 gLsizes_27] H → va_D A [oShe ad xShe_latest_27, ar (ad 39) cA 240 gLitems_27, ar (ad 40) cA 4 gLforms_27, ar (ad 41) cA 4 gLsizes_27] → va_S A s.heap H locs → ∀ ls : Array Slot, lv_has ls 5 [(0, .ref (ad 38)), (1, .int v1_27), (3, .int v3_27), (4, .int v4_27)] → W p l e (headSpec wsX6_layOut ({ frames := 1, cells := 0, slots := 0, locals := 24 })).room s m ([.ref (ad 38), .int a1, .int a2, .int a3] : List Value).toArray below meth c H locs 0 0 QQ (F0 m 27 ls []) := by
    intro v1_27 v3_27 xShe_latest_27 gLforms_27 gLsizes_27
    intro n_27
    induction n_27 with
    | zero => intro v4_27 gLitems_27 hm; have hm : (none : Option (Int32 × Int32 × (Nat → Int32) × (Nat → Int32) × (Nat → Int32))) = some u := hm; cases hm
    | succ n_27 ih_27 =>
      intro v4_27 gLitems_27 hm H locs hP hD hS ls hl
      have hm : fL_layOut_27_b  (fL_layOut_27  v1_27 v3_27 xShe_latest_27 gLforms_27 gLsizes_27 n_27) v1_27 v3_27 xShe_latest_27 gLforms_27 gLsizes_27 v4_27 gLitems_27 = some u := hm
      unfold fL_layOut_27_b at hm
      refine lv_iload hx hb dX6_layOut_27 (lv_at hl 3 rfl) ?_
      refine lv_iload_n hx hb dX6_layOut_29 rfl (lv_at hl 2 rfl) ?_
      refine lv_icmp_ge (tgt := 47) hx hb dX6_layOut_30 (by decide) (fun c_1 => ?_) (fun c_1 => ?_)
      · have hm := it_pos c_1 hm
        refine lv_iload_n hx hb dX6_layOut_47 rfl (lv_at hl 2 rfl) ?_
        obtain rfl := Option.some.inj hm
        subst hQ
        exact W.iret (v := v3_27) hx hb hr (fun t ht hW => ⟨⟨_, (), rfl, rfl, by rw [ht]; exact hP, va_K.moved hW.alike hK, hAe ▸ hD⟩, hS.F ht⟩) hS.2.2 dX6_layOut_48
      · have hm := it_neg c_1 hm
        refine lv_aload_n hx hb dX6_layOut_33 rfl (lv_at hl 0 rfl) ?_
        refine lv_iload_n hx hb dX6_layOut_34 rfl (lv_at hl 1 rfl) ?_
        refine lv_iload hx hb dX6_layOut_35 (lv_at hl 3 rfl) ?_
        refine lv_iconst (v := 0) hx hb dX6_layOut_37 (by decide) ?_
        have hPc := hP.sub (ws' := [oShe ad xShe_latest_27, ar (ad 39) cA 240 gLitems_27, ar (ad 40) cA 4 gLforms_27]) [0, 1, 2] rfl
        have hDc := hD.sub (ws' := [oShe ad xShe_latest_27, ar (ad 39) cA 240 gLitems_27, ar (ad 40) cA 4 gLforms_27]) [0, 1, 2] (by decide) rfl
        have hFc := va_free (wc := [oShe ad xShe_latest_27, ar (ad 39) cA 240 gLitems_27, ar (ad 40) cA 4 gLforms_27]) hD hS hA [0, 1, 2] rfl
        obtain ⟨u_2, hc_2, hm⟩ := bd_ok hm
        refine va_callv (va_runV (As := [.int v1_27, .int v4_27, .int 0]) (rest := []) ⟨hx, hb, hml, hown, hts⟩ (kL_store l dC dI cA ad H.size v1_27 v4_27 0 xShe_latest_27 gLitems_27 gLforms_27 u_2 hc_2) (cwV 3 hts gX6_layOut_X6_store rfl rfl rfl (by decide +kernel) ⟨Nat.le_of_ble_eq_true rfl, Nat.le_of_ble_eq_true rfl⟩) ⟨fun a U g mk q => by obtain ⟨q0, q1, qP, qK, qD⟩ := q; exact ⟨q0, q1, qP, va_K.moved (u := U) (U := U.calling g mk a) (Vm.Alike.refl U.vm) qK, qD⟩, va_recv hK hPc (ci := 6) (q0 := 0) rfl rfl, fun U hU hW => ⟨rfl, by rw [hU], by rw [hU]; exact hPc, va_K.moved hW.alike hK, hDc.weaken (fun _ _ _ _ => trivial)⟩⟩ rfl rfl hl.1 rfl (lv_room (Nat.le_of_ble_eq_true rfl)) dX6_layOut_38 ⟨Nat.le_of_ble_eq_true rfl, Nat.le_of_ble_eq_true rfl⟩) hS (fun q _ h => hFc q h) hFc (fun _ t H1 locs ht hvm hw hB hz1 hk1 hS => ?_)
        obtain ⟨hP1, hK1, hD1⟩ := hB
        rw [ht] at hP1
        obtain ⟨hP, hD⟩ := va_join (wr := [ar (ad 41) cA 4 gLsizes_27]) (w1 := [oShe ad xShe_latest_27, ar (ad 39) cA 240 u_2, ar (ad 40) cA 4 gLforms_27]) hP hD [0, 1, 2] [3] rfl rfl (by decide) (by decide) hk1 hFc hP1 hD1
        clear hPc hDc hFc hP1 hK1 hD1 hk1 hz1 hvm ht
        generalize H1 = H at hP hS ⊢
        have hP : va_P (dC, dI) vwCl [oShe ad xShe_latest_27, ar (ad 39) cA 240 u_2, ar (ad 40) cA 4 gLforms_27, ar (ad 41) cA 4 gLsizes_27] H := hP.sub [1, 2, 3, 0] rfl
        have hD : va_D A [oShe ad xShe_latest_27, ar (ad 39) cA 240 u_2, ar (ad 40) cA 4 gLforms_27, ar (ad 41) cA 4 gLsizes_27] := hD.sub [1, 2, 3, 0] (by decide) rfl
        refine lv_iinc (v := (v4_27 + 1)) (lv' := [(4, .int (v4_27 + 1)), (0, .ref (ad 38)), (1, .int v1_27), (3, .int v3_27)]) hx hb dX6_layOut_41 hl (k := 3) rfl rfl (by decide) rfl (fun ls hl => ?_)
        refine lv_goto (tgt := 27) hx hb dX6_layOut_44 (by decide) ?_
        exact ih_27 _ _ hm _ _ hP hD hS _ (lv_sub hl [1, 2, 3, 0] rfl)
  unfold fL_layOut at hm
  refine lv_iload_n hx hb dX6_layOut_0 rfl (lv_at hl 3 rfl) ?_
  refine lv_if_ge (tgt := 10) hx hb dX6_layOut_1 (by decide) (fun c_3 => ?_) (fun c_3 => ?_)
  · have hm := it_pos c_3 hm
    refine lv_aload_n hx hb dX6_layOut_10 rfl (lv_at hl 0 rfl) ?_
    refine va_get (D := (dC, dI)) (ci := 6) (v := .ref (ad 40)) (C := RX6) (T := TX6) (N := 4) hx hb hts hinX6 hown hK hP 0 rfl rfl 1 (by decide) hl_15 (fun _ h9 => h9) rfl dX6_layOut_11 ?_
    refine lv_iload_n hx hb dX6_layOut_14 rfl (lv_at hl 1 rfl) ?_
    refine lv_iload_n hx hb dX6_layOut_15 rfl (lv_at hl 2 rfl) ?_
    obtain ⟨i_4, hm⟩ := ck_ok hm
    refine va_iast hx hb hK hP hD hS 2 0 rfl rfl i_4 dX6_layOut_16 (fun H locs hP hD hS => ?_)
    have hP : va_P (dC, dI) vwCl [oShe ad xShe_latest, ar (ad 39) cA 240 gLitems, ar (ad 40) cA 4 (upd gLforms a1.toNatClampNeg a2), ar (ad 41) cA 4 gLsizes] H := hP
    have hD : va_D A [oShe ad xShe_latest, ar (ad 39) cA 240 gLitems, ar (ad 40) cA 4 (upd gLforms a1.toNatClampNeg a2), ar (ad 41) cA 4 gLsizes] := hD
    refine lv_aload_n hx hb dX6_layOut_17 rfl (lv_at hl 0 rfl) ?_
    refine va_get (D := (dC, dI)) (ci := 6) (v := .ref (ad 41)) (C := RX6) (T := TX6) (N := 4) hx hb hts hinX6 hown hK hP 0 rfl rfl 2 (by decide) hl_18 (fun _ h9 => h9) rfl dX6_layOut_18 ?_
    refine lv_iload_n hx hb dX6_layOut_21 rfl (lv_at hl 1 rfl) ?_
    refine lv_iload_n hx hb dX6_layOut_22 rfl (lv_at hl 3 rfl) ?_
    obtain ⟨i_5, hm⟩ := ck_ok hm
    refine va_iast hx hb hK hP hD hS 3 0 rfl rfl i_5 dX6_layOut_23 (fun H locs hP hD hS => ?_)
    have hP : va_P (dC, dI) vwCl [oShe ad xShe_latest, ar (ad 39) cA 240 gLitems, ar (ad 40) cA 4 (upd gLforms a1.toNatClampNeg a2), ar (ad 41) cA 4 (upd gLsizes a1.toNatClampNeg a3)] H := hP
    have hD : va_D A [oShe ad xShe_latest, ar (ad 39) cA 240 gLitems, ar (ad 40) cA 4 (upd gLforms a1.toNatClampNeg a2), ar (ad 41) cA 4 (upd gLsizes a1.toNatClampNeg a3)] := hD
    refine lv_iconst (v := 0) hx hb dX6_layOut_24 (by decide) ?_
    refine lv_istore (lv' := [(4, .int 0), (0, .ref (ad 38)), (1, .int a1), (2, .int a2), (3, .int a3)]) hx hb dX6_layOut_25 hl (by decide) rfl (fun ls hl => ?_)
    exact h_27 _ _ _ _ _ _ _ _ hm _ _ hP hD hS _ (lv_sub hl [1, 2, 4, 0] rfl)
  · have hm := it_neg c_3 hm
    refine lv_aload_n hx hb dX6_layOut_4 rfl (lv_at hl 0 rfl) ?_
    refine lv_iconst (v := 5) hx hb dX6_layOut_5 (by decide) ?_
    have hPc := hP.sub (ws' := [oShe ad xShe_latest]) [0] rfl
    have hDc := hD.sub (ws' := [oShe ad xShe_latest]) [0] (by decide) rfl
    have hFc := va_free (wc := [oShe ad xShe_latest]) hD hS hA [0] rfl
    obtain ⟨u_6, hc_6, hm⟩ := bd_ok hm
    refine va_calli (va_runV (As := [.int 5]) (rest := []) ⟨hx, hb, hml, hown, hts⟩ (kL_finding l dC dI cA ad s.heap.size 5 xShe_latest u_6 hc_6) (cwV 1 hts gX6_layOut_X6_finding rfl rfl rfl (by decide +kernel) ⟨Nat.le_of_ble_eq_true rfl, Nat.le_of_ble_eq_true rfl⟩) ⟨fun a U g mk q => by obtain ⟨q0, q1, qP, qK, qD⟩ := q; exact ⟨q0, q1, qP, va_K.moved (u := U) (U := U.calling g mk a) (Vm.Alike.refl U.vm) qK, qD⟩, va_recv hK hPc (ci := 6) (q0 := 0) rfl rfl, fun U hU hW => ⟨rfl, by rw [hU], by rw [hU]; exact hPc, va_K.moved hW.alike hK, hDc.weaken (fun _ _ _ _ => trivial)⟩⟩ rfl rfl hl.1 rfl (lv_room (Nat.le_of_ble_eq_true rfl)) dX6_layOut_6 ⟨Nat.le_of_ble_eq_true rfl, Nat.le_of_ble_eq_true rfl⟩) hS (fun q _ h => hFc q h) hFc (fun r_6 _ t H1 locs ht hvm hw hB hz1 hk1 hS => ?_)
    obtain ⟨hP1, hK1, hD1⟩ := hB
    rw [ht] at hP1
    obtain ⟨hP, hD⟩ := va_join (wr := [ar (ad 39) cA 240 gLitems, ar (ad 40) cA 4 gLforms, ar (ad 41) cA 4 gLsizes]) (w1 := [oShe ad u_6.2]) hP hD [0] [1, 2, 3] rfl rfl (by decide) (by decide) hk1 hFc hP1 hD1
    clear hPc hDc hFc hP1 hK1 hD1 hk1 hz1 hvm ht
    generalize H1 = H at hP hS ⊢
    have hP : va_P (dC, dI) vwCl [oShe ad u_6.2, ar (ad 39) cA 240 gLitems, ar (ad 40) cA 4 gLforms, ar (ad 41) cA 4 gLsizes] H := hP.sub [3, 0, 1, 2] rfl
    have hD : va_D A [oShe ad u_6.2, ar (ad 39) cA 240 gLitems, ar (ad 40) cA 4 gLforms, ar (ad 41) cA 4 gLsizes] := hD.sub [3, 0, 1, 2] (by decide) rfl
    have hw := hw.symm
    subst hw
    obtain rfl := Option.some.inj hm
    subst hQ
    exact W.iret (v := u_6.1) hx hb hr (fun t ht hW => ⟨⟨_, (), rfl, rfl, by rw [ht]; exact hP, va_K.moved hW.alike hK, hAe ▸ hD⟩, hS.F ht⟩) hS.2.2 dX6_layOut_9
