set_option maxHeartbeats 4000000 in
set_option maxRecDepth 100000 in
theorem kC_isTime (l : Launch) (dC : Nat → ClassId) (dI : Nat → Nat → Nat) (cA : ClassId) (ad : Nat → Nat) (sz : Nat) (a0 : Int32) (u : Int32) (hm : fC_isTime a0 = some u) : Met l yX9_isTime wsX9_isTime ({ frames := 0, cells := 0, slots := 0, locals := 0 }) (va_Pc [.int a0] (fun U => U.heap.size = sz ∧ va_P (dC, dI) vwCl [] U.heap ∧ va_K (dC, dI) vwCl [(cA, .int)] U ∧ va_D (fun _ => True) [])) (va_Qi (fun (r : Int32) (_ : Unit) => r = u) (fun (_ : Unit) t => va_P (dC, dI) vwCl [] t.heap ∧ va_K (dC, dI) vwCl [(cA, .int)] t ∧ va_D (va_A [] sz) []) (va_A [] sz)) 0 0 (va_A [] sz) := by
  refine Met.ofW (cc := cX9_isTime) (maxL := 1) (ret := (some .boolean)) (by decide) rfl ?_
  intro p e s m args below meth c s₁ B hml hv
  obtain ⟨rfl, hsz, hP, hK, hD0⟩ := hv
  have hx := B.exec
  have hb := B.bytes
  have hr := B.returns
  have hts := atoms_spec (ws := wsX9_isTime) B.pre
  have hown : s.vm.findClass RX9 = some m.cls := findClass_of_methodNamed B.named
  have hlocks := B.notSynchronized
  subst hsz
  have hD := hD0.self (sz := s.heap.size)
  generalize hAe : va_A [] s.heap.size = A at hD ⊢
  have hA : ∀ q : Nat, s.heap.size ≤ q → A q := fun q h => by rw [← hAe]; exact Or.inr h
  have hS : va_S A s.heap s.heap [] := va_S.rf
  have hl := lv_entry ([.int a0]) (n := 1) (Nat.le_of_ble_eq_true rfl)
  rw [lg_entry_eq]
  generalize (lg_sl ([.int a0]) ++ List.replicate (1 - (lg_sl ([.int a0])).length) Slot.unset).toArray = ls at hl ⊢
  have hl : lv_has ls 1 [(0, .int a0)] := hl
  refine wk_Q (fun QQ hQ => ?_)
  unfold fC_isTime at hm
  refine lv_iload_n hx hb dX9_isTime_0 rfl (lv_at hl 0 rfl) ?_
  refine lv_if_lt (tgt := 15) hx hb dX9_isTime_1 (by decide) (fun c_1 => ?_) (fun c_1 => ?_)
  · have hm := it_pos c_1 hm
    refine lv_iconst (v := 0) hx hb dX9_isTime_15 (by decide) ?_
    obtain rfl := Option.some.inj hm
    subst hQ
    exact W.zret (v := 0) hx hb hr rfl (fun t ht hW => ⟨⟨_, (), rfl, rfl, by rw [ht]; exact hP, va_K.moved hW.alike hK, hAe ▸ hD⟩, hS.F ht⟩) hS.2.2 dX9_isTime_16
  · have hm := it_neg c_1 hm
    refine lv_iload_n hx hb dX9_isTime_4 rfl (lv_at hl 0 rfl) ?_
    refine lv_sipush (v := 400) hx hb dX9_isTime_5 (by decide) ?_
    refine lv_icmp_gt (tgt := 15) hx hb dX9_isTime_8 (by decide) (fun c_2 => ?_) (fun c_2 => ?_)
    · have hm := it_pos c_2 hm
      refine lv_iconst (v := 0) hx hb dX9_isTime_15 (by decide) ?_
      obtain rfl := Option.some.inj hm
      subst hQ
      exact W.zret (v := 0) hx hb hr rfl (fun t ht hW => ⟨⟨_, (), rfl, rfl, by rw [ht]; exact hP, va_K.moved hW.alike hK, hAe ▸ hD⟩, hS.F ht⟩) hS.2.2 dX9_isTime_16
    · have hm := it_neg c_2 hm
      refine lv_iconst (v := 1) hx hb dX9_isTime_11 (by decide) ?_
      refine lv_goto (tgt := 16) hx hb dX9_isTime_12 (by decide) ?_
      obtain rfl := Option.some.inj hm
      subst hQ
      exact W.zret (v := 1) hx hb hr rfl (fun t ht hW => ⟨⟨_, (), rfl, rfl, by rw [ht]; exact hP, va_K.moved hW.alike hK, hAe ▸ hD⟩, hS.F ht⟩) hS.2.2 dX9_isTime_16

set_option maxHeartbeats 4000000 in
set_option maxRecDepth 100000 in
theorem kD_tally (l : Launch) (dC : Nat → ClassId) (dI : Nat → Nat → Nat) (cA : ClassId) (ad : Nat → Nat) (qe : Nat) (sz : Nat) (a1 : Int32) (a2 : Int32) (a3 : Int32) (xDia_size : Int32) (ne : Nat) (gDent : Nat → Int32) (u : Int32) (hm : fD_tally a1 a2 a3 xDia_size ne gDent = some u) : Met l yX1_tally wsX1_tally ({ frames := 1, cells := 0, slots := 0, locals := 22 }) (va_Pc [.ref (ad 15), .int a1, .int a2, .int a3] (fun U => U.heap.size = sz ∧ va_P (dC, dI) vwCl [oDia ad qe xDia_size, ar qe cA ne gDent] U.heap ∧ va_K (dC, dI) vwCl [(cA, .int)] U ∧ va_D (fun _ => True) [oDia ad qe xDia_size, ar qe cA ne gDent])) (va_Qi (fun (r : Int32) (_ : Unit) => r = u) (fun (_ : Unit) t => va_P (dC, dI) vwCl [oDia ad qe xDia_size, ar qe cA ne gDent] t.heap ∧ va_K (dC, dI) vwCl [(cA, .int)] t ∧ va_D (va_A [oDia ad qe xDia_size, ar qe cA ne gDent] sz) [oDia ad qe xDia_size, ar qe cA ne gDent]) (va_A [oDia ad qe xDia_size, ar qe cA ne gDent] sz)) 0 0 (va_A [oDia ad qe xDia_size, ar qe cA ne gDent] sz) := by
  refine Met.ofW (cc := cX1_tally) (maxL := 6) (ret := (some .int)) (by decide) rfl ?_
  intro p e s m args below meth c s₁ B hml hv
  obtain ⟨rfl, hsz, hP, hK, hD0⟩ := hv
  have hx := B.exec
  have hb := B.bytes
  have hr := B.returns
  have hts := atoms_spec (ws := wsX1_tally) B.pre
  have hown : s.vm.findClass RX1 = some m.cls := findClass_of_methodNamed B.named
  have hlocks := B.notSynchronized
  subst hsz
  have hD := hD0.self (sz := s.heap.size)
  generalize hAe : va_A [oDia ad qe xDia_size, ar qe cA ne gDent] s.heap.size = A at hD ⊢
  have hA : ∀ q : Nat, s.heap.size ≤ q → A q := fun q h => by rw [← hAe]; exact Or.inr h
  have hS : va_S A s.heap s.heap [] := va_S.rf
  have hl := lv_entry ([.ref (ad 15), .int a1, .int a2, .int a3]) (n := 6) (Nat.le_of_ble_eq_true rfl)
  rw [lg_entry_eq]
  generalize (lg_sl ([.ref (ad 15), .int a1, .int a2, .int a3]) ++ List.replicate (6 - (lg_sl ([.ref (ad 15), .int a1, .int a2, .int a3])).length) Slot.unset).toArray = ls at hl ⊢
  have hl : lv_has ls 6 [(0, .ref (ad 15)), (1, .int a1), (2, .int a2), (3, .int a3)] := hl
  refine wk_Q (fun QQ hQ => ?_)
  have hinX1 : ∀ w ∈ wsX10, w ∈ wsX1_tally := fun w h => List.mem_cons_of_mem _ (inlX1 w h)
  have hl_15 := hts (.fieldLink RX1 15 "HandCensus$Diary" "size" "I") (List.mem_cons_of_mem _ (in_r3 _ (List.mem_of_getElem? (i := 21) rfl)))
  have hl_9 := hts (.fieldLink RX1 9 "HandCensus$Diary" "entries" "[I") (List.mem_cons_of_mem _ (in_r3 _ (List.mem_of_getElem? (i := 20) rfl)))
  have h_6 : ∀ (v1_6 : Int32) (v2_6 : Int32) (v3_6 : Int32), ∀ (n_6 : Nat), ∀ (v4_6 : Int32) (v5_6 : Int32), fD_tally_6 v1_6 v2_6 v3_6 xDia_size ne gDent n_6 v4_6 v5_6 = some u → ∀ (H : Heap) (locs : List Loc), va_P (dC, dI) vwCl [oDia ad qe xDia_size, ar qe cA ne gDent] H → va_D A [oDia ad qe xDia_size, ar qe cA ne gDent] → va_S A s.heap H locs → ∀ ls : Array Slot, lv_has ls 6 [(0, .ref (ad 15)), (1, .int v1_6), (2, .int v2_6), (3, .int v3_6), (4, .int v4_6), (5, .int v5_6)] → W p l e (headSpec wsX1_tally ({ frames := 1, cells := 0, slots := 0, locals := 22 })).room s m ([.ref (ad 15), .int a1, .int a2, .int a3] : List Value).toArray below meth c H locs 0 0 QQ (F0 m 6 ls []) := by
    intro v1_6 v2_6 v3_6
    intro n_6
    induction n_6 with
    | zero => intro v4_6 v5_6 hm; have hm : (none : Option (Int32)) = some u := hm; cases hm
    | succ n_6 ih_6 =>
      have b_47 : ∀ (v4_47 : Int32) (v5_47 : Int32), fD_tally_47 (fD_tally_6  v1_6 v2_6 v3_6 xDia_size ne gDent n_6) v1_6 v2_6 v3_6 v4_47 v5_47 xDia_size ne gDent = some u → ∀ (H : Heap) (locs : List Loc), va_P (dC, dI) vwCl [oDia ad qe xDia_size, ar qe cA ne gDent] H → va_D A [oDia ad qe xDia_size, ar qe cA ne gDent] → va_S A s.heap H locs → ∀ ls : Array Slot, lv_has ls 6 [(0, .ref (ad 15)), (1, .int v1_6), (2, .int v2_6), (3, .int v3_6), (4, .int v4_47), (5, .int v5_47)] → W p l e (headSpec wsX1_tally ({ frames := 1, cells := 0, slots := 0, locals := 22 })).room s m ([.ref (ad 15), .int a1, .int a2, .int a3] : List Value).toArray below meth c H locs 0 0 QQ (F0 m 47 ls []) := by
        intro v4_47 v5_47 hm H locs hP hD hS ls hl
        unfold fD_tally_47 at hm
        refine lv_iinc (v := (v5_47 + 1)) (lv' := [(5, .int (v5_47 + 1)), (0, .ref (ad 15)), (1, .int v1_6), (2, .int v2_6), (3, .int v3_6), (4, .int v4_47)]) hx hb dX1_tally_47 hl (k := 5) rfl rfl (by decide) rfl (fun ls hl => ?_)
        refine lv_goto (tgt := 6) hx hb dX1_tally_50 (by decide) ?_
        exact ih_6 _ _ hm _ _ hP hD hS _ (lv_sub hl [1, 2, 3, 4, 5, 0] rfl)
      intro v4_6 v5_6 hm H locs hP hD hS ls hl
      have hm : fD_tally_6_b  (fD_tally_6  v1_6 v2_6 v3_6 xDia_size ne gDent n_6) v1_6 v2_6 v3_6 xDia_size ne gDent v4_6 v5_6 = some u := hm
      unfold fD_tally_6_b at hm
      refine lv_iload hx hb dX1_tally_6 (lv_at hl 5 rfl) ?_
      refine lv_aload_n hx hb dX1_tally_8 rfl (lv_at hl 0 rfl) ?_
      refine va_get (D := (dC, dI)) (ci := 1) (v := .int xDia_size) (C := RX1) (T := TX1) (N := 2) hx hb hts hinX1 hown hK hP 0 rfl rfl 1 (by decide) hl_15 (fun _ h9 => h9) rfl dX1_tally_9 ?_
      refine lv_icmp_ge (tgt := 53) hx hb dX1_tally_12 (by decide) (fun c_1 => ?_) (fun c_1 => ?_)
      · have hm := it_pos c_1 hm
        refine lv_iload hx hb dX1_tally_53 (lv_at hl 4 rfl) ?_
        obtain rfl := Option.some.inj hm
        subst hQ
        exact W.iret (v := v4_6) hx hb hr (fun t ht hW => ⟨⟨_, (), rfl, rfl, by rw [ht]; exact hP, va_K.moved hW.alike hK, hAe ▸ hD⟩, hS.F ht⟩) hS.2.2 dX1_tally_55
      · have hm := it_neg c_1 hm
        refine lv_aload_n hx hb dX1_tally_15 rfl (lv_at hl 0 rfl) ?_
        refine va_get (D := (dC, dI)) (ci := 1) (v := .ref qe) (C := RX1) (T := TX1) (N := 2) hx hb hts hinX1 hown hK hP 0 rfl rfl 0 (by decide) hl_9 (fun _ h9 => h9) rfl dX1_tally_16 ?_
        refine lv_iload hx hb dX1_tally_19 (lv_at hl 5 rfl) ?_
        obtain ⟨i_2, hm⟩ := ck_ok hm
        refine va_iald hx hb hK hP 1 0 rfl rfl i_2 dX1_tally_21 ?_
        have hPc := hP.sub (ws' := []) [] rfl
        have hDc := hD.sub (ws' := []) [] (by decide) rfl
        have hFc := va_free (wc := []) hD hS hA [] rfl
        obtain ⟨u_3, hc_3, hm⟩ := bd_ok hm
        refine va_calli (va_runS (As := [.int (gDent v5_6.toNatClampNeg)]) (rest := []) ⟨hx, hb, hml, hown, hts⟩ (kD_timeOf l dC dI cA ad H.size (gDent v5_6.toNatClampNeg) u_3 hc_3) (va_cwS 1 hts gX1_tally_X1_timeOf rfl rfl rfl (by decide +kernel) ⟨Nat.le_of_ble_eq_true rfl, Nat.le_of_ble_eq_true rfl⟩) ⟨fun a U g mk q => by obtain ⟨q0, q1, qP, qK, qD⟩ := q; exact ⟨q0, q1, qP, va_K.moved (u := U) (U := U.calling g mk a) (Vm.Alike.refl U.vm) qK, qD⟩, fun U hU hW => ⟨rfl, by rw [hU], by rw [hU]; exact hPc, va_K.moved hW.alike hK, hDc.weaken (fun _ _ _ _ => trivial)⟩⟩ rfl rfl hl.1 rfl (lv_room (Nat.le_of_ble_eq_true rfl)) dX1_tally_22 ⟨Nat.le_of_ble_eq_true rfl, Nat.le_of_ble_eq_true rfl⟩) hS (fun q _ h => hFc q h) hFc (fun r_3 _ t H1 locs ht hvm hw hB hz1 hk1 hS => ?_)
        obtain ⟨hP1, hK1, hD1⟩ := hB
        rw [ht] at hP1
        obtain ⟨hP, hD⟩ := va_join (wr := [oDia ad qe xDia_size, ar qe cA ne gDent]) (w1 := []) hP hD [] [0, 1] rfl rfl (by decide) (by decide) hk1 hFc hP1 hD1
        clear hPc hDc hFc hP1 hK1 hD1 hk1 hz1 hvm ht
        generalize H1 = H at hP hS ⊢
        have hP : va_P (dC, dI) vwCl [oDia ad qe xDia_size, ar qe cA ne gDent] H := hP
        have hD : va_D A [oDia ad qe xDia_size, ar qe cA ne gDent] := hD
        have hw := hw.symm
        subst hw
        refine lv_iload_n hx hb dX1_tally_25 rfl (lv_at hl 2 rfl) ?_
        refine lv_icmp_gt (tgt := 53) hx hb dX1_tally_26 (by decide) (fun c_4 => ?_) (fun c_4 => ?_)
        · have hm := it_pos c_4 hm
          refine lv_iload hx hb dX1_tally_53 (lv_at hl 4 rfl) ?_
          obtain rfl := Option.some.inj hm
          subst hQ
          exact W.iret (v := v4_6) hx hb hr (fun t ht hW => ⟨⟨_, (), rfl, rfl, by rw [ht]; exact hP, va_K.moved hW.alike hK, hAe ▸ hD⟩, hS.F ht⟩) hS.2.2 dX1_tally_55
        · have hm := it_neg c_4 hm
          refine lv_aload_n hx hb dX1_tally_29 rfl (lv_at hl 0 rfl) ?_
          refine va_get (D := (dC, dI)) (ci := 1) (v := .ref qe) (C := RX1) (T := TX1) (N := 2) hx hb hts hinX1 hown hK hP 0 rfl rfl 0 (by decide) hl_9 (fun _ h9 => h9) rfl dX1_tally_30 ?_
          refine lv_iload hx hb dX1_tally_33 (lv_at hl 5 rfl) ?_
          obtain ⟨i_5, hm⟩ := ck_ok hm
          refine va_iald hx hb hK hP 1 0 rfl rfl i_5 dX1_tally_35 ?_
          refine lv_iload_n hx hb dX1_tally_36 rfl (lv_at hl 1 rfl) ?_
          refine lv_iload_n hx hb dX1_tally_37 rfl (lv_at hl 3 rfl) ?_
          have hPc := hP.sub (ws' := []) [] rfl
          have hDc := hD.sub (ws' := []) [] (by decide) rfl
          have hFc := va_free (wc := []) hD hS hA [] rfl
          obtain ⟨u_6, hc_6, hm⟩ := bd_ok hm
          refine va_calli (va_runS (As := [.int (gDent v5_6.toNatClampNeg), .int v1_6, .int v3_6]) (rest := []) ⟨hx, hb, hml, hown, hts⟩ (kD_isOf l dC dI cA ad H.size (gDent v5_6.toNatClampNeg) v1_6 v3_6 u_6 hc_6) (va_cwS 3 hts gX1_tally_X1_isOf rfl rfl rfl (by decide +kernel) ⟨Nat.le_of_ble_eq_true rfl, Nat.le_of_ble_eq_true rfl⟩) ⟨fun a U g mk q => by obtain ⟨q0, q1, qP, qK, qD⟩ := q; exact ⟨q0, q1, qP, va_K.moved (u := U) (U := U.calling g mk a) (Vm.Alike.refl U.vm) qK, qD⟩, fun U hU hW => ⟨rfl, by rw [hU], by rw [hU]; exact hPc, va_K.moved hW.alike hK, hDc.weaken (fun _ _ _ _ => trivial)⟩⟩ rfl rfl hl.1 rfl (lv_room (Nat.le_of_ble_eq_true rfl)) dX1_tally_38 ⟨Nat.le_of_ble_eq_true rfl, Nat.le_of_ble_eq_true rfl⟩) hS (fun q _ h => hFc q h) hFc (fun r_6 _ t H1 locs ht hvm hw hB hz1 hk1 hS => ?_)
          obtain ⟨hP1, hK1, hD1⟩ := hB
          rw [ht] at hP1
          obtain ⟨hP, hD⟩ := va_join (wr := [oDia ad qe xDia_size, ar qe cA ne gDent]) (w1 := []) hP hD [] [0, 1] rfl rfl (by decide) (by decide) hk1 hFc hP1 hD1
          clear hPc hDc hFc hP1 hK1 hD1 hk1 hz1 hvm ht
          generalize H1 = H at hP hS ⊢
          have hP : va_P (dC, dI) vwCl [oDia ad qe xDia_size, ar qe cA ne gDent] H := hP
          have hD : va_D A [oDia ad qe xDia_size, ar qe cA ne gDent] := hD
          have hw := hw.symm
          subst hw
          refine lv_if_eq (tgt := 47) hx hb dX1_tally_41 (by decide) (fun c_7 => ?_) (fun c_7 => ?_)
          · have hm := it_pos c_7 hm
            exact b_47 _ _ hm _ _ hP hD hS _ (lv_sub hl [0, 1, 2, 3, 4, 5] rfl)
          · have hm := it_neg c_7 hm
            refine lv_iinc (v := (v4_6 + 1)) (lv' := [(4, .int (v4_6 + 1)), (0, .ref (ad 15)), (1, .int v1_6), (2, .int v2_6), (3, .int v3_6), (5, .int v5_6)]) hx hb dX1_tally_44 hl (k := 4) rfl rfl (by decide) rfl (fun ls hl => ?_)
            exact b_47 _ _ hm _ _ hP hD hS _ (lv_sub hl [1, 2, 3, 4, 0, 5] rfl)
  unfold fD_tally at hm
  refine lv_iconst (v := 0) hx hb dX1_tally_0 (by decide) ?_
  refine lv_istore (lv' := [(4, .int 0), (0, .ref (ad 15)), (1, .int a1), (2, .int a2), (3, .int a3)]) hx hb dX1_tally_1 hl (by decide) rfl (fun ls hl => ?_)
  refine lv_iconst (v := 0) hx hb dX1_tally_3 (by decide) ?_
  refine lv_istore (lv' := [(5, .int 0), (4, .int 0), (0, .ref (ad 15)), (1, .int a1), (2, .int a2), (3, .int a3)]) hx hb dX1_tally_4 hl (by decide) rfl (fun ls hl => ?_)
  exact h_6 _ _ _ _ _ _ hm _ _ hP hD hS _ (lv_sub hl [2, 3, 4, 5, 1, 0] rfl)

set_option maxHeartbeats 4000000 in
set_option maxRecDepth 100000 in
theorem kS_feltUpTo_T (l : Launch) (dC : Nat → ClassId) (dI : Nat → Nat → Nat) (cA : ClassId) (ad : Nat → Nat) (qe : Nat) (sz : Nat) (a1 : Int32) (a2 : Int32) (xST_sleeper : Int32) (xST_lastDue : Int32) (xST_unreached : Int32) (xDia_size : Int32) (ne : Nat) (gDent : Nat → Int32) (u : Int32) (hm : fS_feltUpTo_T a1 a2 xDia_size ne gDent = some u) : Met l yX8_feltUpTo wsX8_feltUpTo ({ frames := 2, cells := 0, slots := 0, locals := 47 }) (va_Pc [.ref (ad 9), .int a1, .int a2] (fun U => U.heap.size = sz ∧ va_P (dC, dI) vwCl [oST ad xST_sleeper xST_lastDue xST_unreached, oDia ad qe xDia_size, ar qe cA ne gDent] U.heap ∧ va_K (dC, dI) vwCl [(cA, .int)] U ∧ va_D (fun _ => True) [oST ad xST_sleeper xST_lastDue xST_unreached, oDia ad qe xDia_size, ar qe cA ne gDent])) (va_Qi (fun (r : Int32) (_ : Unit) => r = u) (fun (_ : Unit) t => va_P (dC, dI) vwCl [oST ad xST_sleeper xST_lastDue xST_unreached, oDia ad qe xDia_size, ar qe cA ne gDent] t.heap ∧ va_K (dC, dI) vwCl [(cA, .int)] t ∧ va_D (va_A [oST ad xST_sleeper xST_lastDue xST_unreached, oDia ad qe xDia_size, ar qe cA ne gDent] sz) [oST ad xST_sleeper xST_lastDue xST_unreached, oDia ad qe xDia_size, ar qe cA ne gDent]) (va_A [oST ad xST_sleeper xST_lastDue xST_unreached, oDia ad qe xDia_size, ar qe cA ne gDent] sz)) 0 0 (va_A [oST ad xST_sleeper xST_lastDue xST_unreached, oDia ad qe xDia_size, ar qe cA ne gDent] sz) := by
  refine Met.ofW (cc := cX8_feltUpTo) (maxL := 3) (ret := (some .int)) (by decide) rfl ?_
  intro p e s m args below meth c s₁ B hml hv
  obtain ⟨rfl, hsz, hP, hK, hD0⟩ := hv
  have hx := B.exec
  have hb := B.bytes
  have hr := B.returns
  have hts := atoms_spec (ws := wsX8_feltUpTo) B.pre
  have hown : s.vm.findClass RX8 = some m.cls := findClass_of_methodNamed B.named
  have hlocks := B.notSynchronized
  subst hsz
  have hD := hD0.self (sz := s.heap.size)
  generalize hAe : va_A [oST ad xST_sleeper xST_lastDue xST_unreached, oDia ad qe xDia_size, ar qe cA ne gDent] s.heap.size = A at hD ⊢
  have hA : ∀ q : Nat, s.heap.size ≤ q → A q := fun q h => by rw [← hAe]; exact Or.inr h
  have hS : va_S A s.heap s.heap [] := va_S.rf
  have hl := lv_entry ([.ref (ad 9), .int a1, .int a2]) (n := 3) (Nat.le_of_ble_eq_true rfl)
  rw [lg_entry_eq]
  generalize (lg_sl ([.ref (ad 9), .int a1, .int a2]) ++ List.replicate (3 - (lg_sl ([.ref (ad 9), .int a1, .int a2])).length) Slot.unset).toArray = ls at hl ⊢
  have hl : lv_has ls 3 [(0, .ref (ad 9)), (1, .int a1), (2, .int a2)] := hl
  refine wk_Q (fun QQ hQ => ?_)
  have hinX8 : ∀ w ∈ wsX80, w ∈ wsX8_feltUpTo := fun w h => List.mem_cons_of_mem _ (inlX8 w h)
  have hl_15 := hts (.fieldLink RX8 15 "HandCensus$Squeeze" "diary" "LHandCensus$Diary;") (List.mem_cons_of_mem _ (in_r4 _ (List.mem_of_getElem? (i := 3) rfl)))
  unfold fS_feltUpTo_T at hm
  refine lv_aload_n hx hb dX8_feltUpTo_0 rfl (lv_at hl 0 rfl) ?_
  refine va_get (D := (dC, dI)) (ci := 8) (v := .ref (ad 15)) (C := RX8) (T := TX8) (N := 10) hx hb hts hinX8 hown hK hP 0 rfl rfl 1 (by decide) hl_15 (fun _ h9 => h9) rfl dX8_feltUpTo_1 ?_
  refine lv_ifnonnull (tgt := 11) hx hb dX8_feltUpTo_4 (by decide) ?_
  refine lv_aload_n hx hb dX8_feltUpTo_11 rfl (lv_at hl 0 rfl) ?_
  refine va_get (D := (dC, dI)) (ci := 8) (v := .ref (ad 15)) (C := RX8) (T := TX8) (N := 10) hx hb hts hinX8 hown hK hP 0 rfl rfl 1 (by decide) hl_15 (fun _ h9 => h9) rfl dX8_feltUpTo_12 ?_
  refine lv_iload_n hx hb dX8_feltUpTo_15 rfl (lv_at hl 1 rfl) ?_
  refine lv_iload_n hx hb dX8_feltUpTo_16 rfl (lv_at hl 2 rfl) ?_
  refine lv_iconst (v := 0) hx hb dX8_feltUpTo_17 (by decide) ?_
  have hPc := hP.sub (ws' := [oDia ad qe xDia_size, ar qe cA ne gDent]) [1, 2] rfl
  have hDc := hD.sub (ws' := [oDia ad qe xDia_size, ar qe cA ne gDent]) [1, 2] (by decide) rfl
  have hFc := va_free (wc := [oDia ad qe xDia_size, ar qe cA ne gDent]) hD hS hA [1, 2] rfl
  obtain ⟨u_1, hc_1, hm⟩ := bd_ok hm
  refine va_calli (va_runV (As := [.int a1, .int a2, .int 0]) (rest := []) ⟨hx, hb, hml, hown, hts⟩ (kD_tally l dC dI cA ad qe s.heap.size a1 a2 0 xDia_size ne gDent u_1 hc_1) (cwV 3 hts gX8_feltUpTo_X1_tally rfl rfl rfl (by decide +kernel) ⟨Nat.le_of_ble_eq_true rfl, Nat.le_of_ble_eq_true rfl⟩) ⟨fun a U g mk q => by obtain ⟨q0, q1, qP, qK, qD⟩ := q; exact ⟨q0, q1, qP, va_K.moved (u := U) (U := U.calling g mk a) (Vm.Alike.refl U.vm) qK, qD⟩, va_recv hK hPc (ci := 1) (q0 := 0) rfl rfl, fun U hU hW => ⟨rfl, by rw [hU], by rw [hU]; exact hPc, va_K.moved hW.alike hK, hDc.weaken (fun _ _ _ _ => trivial)⟩⟩ rfl rfl hl.1 rfl (lv_room (Nat.le_of_ble_eq_true rfl)) dX8_feltUpTo_18 ⟨Nat.le_of_ble_eq_true rfl, Nat.le_of_ble_eq_true rfl⟩) hS (fun q _ h => hFc q h) hFc (fun r_1 _ t H1 locs ht hvm hw hB hz1 hk1 hS => ?_)
  obtain ⟨hP1, hK1, hD1⟩ := hB
  rw [ht] at hP1
  obtain ⟨hP, hD⟩ := va_join (wr := [oST ad xST_sleeper xST_lastDue xST_unreached]) (w1 := [oDia ad qe xDia_size, ar qe cA ne gDent]) hP hD [1, 2] [0] rfl rfl (by decide) (by decide) hk1 hFc hP1 hD1
  clear hPc hDc hFc hP1 hK1 hD1 hk1 hz1 hvm ht
  generalize H1 = H at hP hS ⊢
  have hP : va_P (dC, dI) vwCl [oST ad xST_sleeper xST_lastDue xST_unreached, oDia ad qe xDia_size, ar qe cA ne gDent] H := hP
  have hD : va_D A [oST ad xST_sleeper xST_lastDue xST_unreached, oDia ad qe xDia_size, ar qe cA ne gDent] := hD
  have hw := hw.symm
  subst hw
  obtain rfl := Option.some.inj hm
  subst hQ
  exact W.iret (v := u_1) hx hb hr (fun t ht hW => ⟨⟨_, (), rfl, rfl, by rw [ht]; exact hP, va_K.moved hW.alike hK, hAe ▸ hD⟩, hS.F ht⟩) hS.2.2 dX8_feltUpTo_21

set_option maxHeartbeats 4000000 in
set_option maxRecDepth 100000 in
theorem kC_many (l : Launch) (dC : Nat → ClassId) (dI : Nat → Nat → Nat) (cA : ClassId) (ad : Nat → Nat) (qe : Nat) (sz : Nat) (a1 : Int32) (a2 : Int32) (xHC_first : Int32) (xHC_second : Int32) (xHC_when : Int32) (xHC_ran : Int32) (xRow_depth : Int32) (xRow_length : Int32) (xRow_people : Int32) (xRow_scarves : Int32) (xRow_main : Int32) (xRow_faultPlace : Int32) (gRkinds : Nat → Int32) (gRlates : Nat → Int32) (gRhands : Nat → Int32) (gRslow : Nat → Int32) (xST_sleeper : Int32) (xST_lastDue : Int32) (xST_unreached : Int32) (gSTdue : Nat → Int32) (gSTbusy : Nat → Int32) (gSTfelt : Nat → Int32) (gSTlost : Nat → Int32) (gSTfirst : Nat → Int32) (xDia_size : Int32) (ne : Nat) (gDent : Nat → Int32) (u : Int32 × Int32 × Int32 × Int32 × Int32 × (Nat → Int32) × (Nat → Int32) × (Nat → Int32) × (Nat → Int32) × (Nat → Int32) × Int32 × Nat × (Nat → Int32)) (hm : fC_many a1 a2 xHC_first xHC_second xHC_when xHC_ran xRow_people gRkinds gRlates gRhands gRslow xST_sleeper xST_lastDue xST_unreached gSTdue gSTbusy gSTfelt gSTlost gSTfirst xDia_size ne gDent = some u) : Met l yX9_many wsX9_many ({ frames := 5, cells := (u.2.2.2.2.2.2.2.2.2.2.2.1 - ne), slots := (2 * (u.2.2.2.2.2.2.2.2.2.2.2.1 - ne)), locals := 123 }) (va_Pc [.ref (ad 0), .int a1, .int a2] (fun U => U.heap.size = sz ∧ va_P (dC, dI) vwCl [oHC ad xHC_first xHC_second xHC_when xHC_ran, oRow ad xRow_depth xRow_length xRow_people xRow_scarves xRow_main xRow_faultPlace, ar (ad 3) cA 20 gRkinds, ar (ad 4) cA 20 gRlates, ar (ad 5) cA 20 gRhands, ar (ad 6) cA 20 gRslow, oST ad xST_sleeper xST_lastDue xST_unreached, ar (ad 10) cA 640 gSTdue, ar (ad 11) cA 20 gSTbusy, ar (ad 12) cA 20 gSTfelt, ar (ad 13) cA 20 gSTlost, ar (ad 14) cA 20 gSTfirst, oDia ad qe xDia_size, ar qe cA ne gDent] U.heap ∧ va_K (dC, dI) vwCl [(cA, .int)] U ∧ va_D (fun _ => True) [oHC ad xHC_first xHC_second xHC_when xHC_ran, oRow ad xRow_depth xRow_length xRow_people xRow_scarves xRow_main xRow_faultPlace, ar (ad 3) cA 20 gRkinds, ar (ad 4) cA 20 gRlates, ar (ad 5) cA 20 gRhands, ar (ad 6) cA 20 gRslow, oST ad xST_sleeper xST_lastDue xST_unreached, ar (ad 10) cA 640 gSTdue, ar (ad 11) cA 20 gSTbusy, ar (ad 12) cA 20 gSTfelt, ar (ad 13) cA 20 gSTlost, ar (ad 14) cA 20 gSTfirst, oDia ad qe xDia_size, ar qe cA ne gDent])) (va_Qi (fun (r : Int32) (_ : Nat) => r = u.1) (fun (qe2 : Nat) t => va_P (dC, dI) vwCl [oHC ad xHC_first xHC_second xHC_when u.2.1, oRow ad xRow_depth xRow_length xRow_people xRow_scarves xRow_main xRow_faultPlace, ar (ad 3) cA 20 gRkinds, ar (ad 4) cA 20 gRlates, ar (ad 5) cA 20 gRhands, ar (ad 6) cA 20 gRslow, oST ad u.2.2.1 u.2.2.2.1 u.2.2.2.2.1, ar (ad 10) cA 640 u.2.2.2.2.2.1, ar (ad 11) cA 20 u.2.2.2.2.2.2.1, ar (ad 12) cA 20 u.2.2.2.2.2.2.2.1, ar (ad 13) cA 20 u.2.2.2.2.2.2.2.2.1, ar (ad 14) cA 20 u.2.2.2.2.2.2.2.2.2.1, oDia ad qe2 u.2.2.2.2.2.2.2.2.2.2.1, ar qe2 cA u.2.2.2.2.2.2.2.2.2.2.2.1 u.2.2.2.2.2.2.2.2.2.2.2.2] t.heap ∧ va_K (dC, dI) vwCl [(cA, .int)] t ∧ va_D (va_A [oHC ad xHC_first xHC_second xHC_when xHC_ran, oRow ad xRow_depth xRow_length xRow_people xRow_scarves xRow_main xRow_faultPlace, ar (ad 3) cA 20 gRkinds, ar (ad 4) cA 20 gRlates, ar (ad 5) cA 20 gRhands, ar (ad 6) cA 20 gRslow, oST ad xST_sleeper xST_lastDue xST_unreached, ar (ad 10) cA 640 gSTdue, ar (ad 11) cA 20 gSTbusy, ar (ad 12) cA 20 gSTfelt, ar (ad 13) cA 20 gSTlost, ar (ad 14) cA 20 gSTfirst, oDia ad qe xDia_size, ar qe cA ne gDent] sz) [oHC ad xHC_first xHC_second xHC_when u.2.1, oRow ad xRow_depth xRow_length xRow_people xRow_scarves xRow_main xRow_faultPlace, ar (ad 3) cA 20 gRkinds, ar (ad 4) cA 20 gRlates, ar (ad 5) cA 20 gRhands, ar (ad 6) cA 20 gRslow, oST ad u.2.2.1 u.2.2.2.1 u.2.2.2.2.1, ar (ad 10) cA 640 u.2.2.2.2.2.1, ar (ad 11) cA 20 u.2.2.2.2.2.2.1, ar (ad 12) cA 20 u.2.2.2.2.2.2.2.1, ar (ad 13) cA 20 u.2.2.2.2.2.2.2.2.1, ar (ad 14) cA 20 u.2.2.2.2.2.2.2.2.2.1, oDia ad qe2 u.2.2.2.2.2.2.2.2.2.2.1, ar qe2 cA u.2.2.2.2.2.2.2.2.2.2.2.1 u.2.2.2.2.2.2.2.2.2.2.2.2]) (va_A [oHC ad xHC_first xHC_second xHC_when xHC_ran, oRow ad xRow_depth xRow_length xRow_people xRow_scarves xRow_main xRow_faultPlace, ar (ad 3) cA 20 gRkinds, ar (ad 4) cA 20 gRlates, ar (ad 5) cA 20 gRhands, ar (ad 6) cA 20 gRslow, oST ad xST_sleeper xST_lastDue xST_unreached, ar (ad 10) cA 640 gSTdue, ar (ad 11) cA 20 gSTbusy, ar (ad 12) cA 20 gSTfelt, ar (ad 13) cA 20 gSTlost, ar (ad 14) cA 20 gSTfirst, oDia ad qe xDia_size, ar qe cA ne gDent] sz)) (u.2.2.2.2.2.2.2.2.2.2.2.1 - ne) (2 * (u.2.2.2.2.2.2.2.2.2.2.2.1 - ne)) (va_A [oHC ad xHC_first xHC_second xHC_when xHC_ran, oRow ad xRow_depth xRow_length xRow_people xRow_scarves xRow_main xRow_faultPlace, ar (ad 3) cA 20 gRkinds, ar (ad 4) cA 20 gRlates, ar (ad 5) cA 20 gRhands, ar (ad 6) cA 20 gRslow, oST ad xST_sleeper xST_lastDue xST_unreached, ar (ad 10) cA 640 gSTdue, ar (ad 11) cA 20 gSTbusy, ar (ad 12) cA 20 gSTfelt, ar (ad 13) cA 20 gSTlost, ar (ad 14) cA 20 gSTfirst, oDia ad qe xDia_size, ar qe cA ne gDent] sz) := by
  refine Met.ofW (cc := cX9_many) (maxL := 3) (ret := (some .int)) (by decide) rfl ?_
  intro p e s m args below meth c s₁ B hml hv
  obtain ⟨rfl, hsz, hP, hK, hD0⟩ := hv
  have hx := B.exec
  have hb := B.bytes
  have hr := B.returns
  have hts := atoms_spec (ws := wsX9_many) B.pre
  have hown : s.vm.findClass RX9 = some m.cls := findClass_of_methodNamed B.named
  have hlocks := B.notSynchronized
  subst hsz
  have hD := hD0.self (sz := s.heap.size)
  generalize hAe : va_A [oHC ad xHC_first xHC_second xHC_when xHC_ran, oRow ad xRow_depth xRow_length xRow_people xRow_scarves xRow_main xRow_faultPlace, ar (ad 3) cA 20 gRkinds, ar (ad 4) cA 20 gRlates, ar (ad 5) cA 20 gRhands, ar (ad 6) cA 20 gRslow, oST ad xST_sleeper xST_lastDue xST_unreached, ar (ad 10) cA 640 gSTdue, ar (ad 11) cA 20 gSTbusy, ar (ad 12) cA 20 gSTfelt, ar (ad 13) cA 20 gSTlost, ar (ad 14) cA 20 gSTfirst, oDia ad qe xDia_size, ar qe cA ne gDent] s.heap.size = A at hD ⊢
  have hA : ∀ q : Nat, s.heap.size ≤ q → A q := fun q h => by rw [← hAe]; exact Or.inr h
  have hS : va_S A s.heap s.heap [] := va_S.rf
  have hl := lv_entry ([.ref (ad 0), .int a1, .int a2]) (n := 3) (Nat.le_of_ble_eq_true rfl)
  rw [lg_entry_eq]
  generalize (lg_sl ([.ref (ad 0), .int a1, .int a2]) ++ List.replicate (3 - (lg_sl ([.ref (ad 0), .int a1, .int a2])).length) Slot.unset).toArray = ls at hl ⊢
  have hl : lv_has ls 3 [(0, .ref (ad 0)), (1, .int a1), (2, .int a2)] := hl
  refine wk_Q (fun QQ hQ => ?_)
  unfold fC_many at hm
  obtain ⟨hz0, hm⟩ := mz_ok hm
  have hz0 : ne ≤ u.2.2.2.2.2.2.2.2.2.2.2.1 := hz0
  refine lv_aload_n hx hb dX9_many_0 rfl (lv_at hl 0 rfl) ?_
  refine lv_iload_n hx hb dX9_many_1 rfl (lv_at hl 1 rfl) ?_
  have hPc := hP.sub (ws' := [oHC ad xHC_first xHC_second xHC_when xHC_ran, oRow ad xRow_depth xRow_length xRow_people xRow_scarves xRow_main xRow_faultPlace]) [0, 1] rfl
  have hDc := hD.sub (ws' := [oHC ad xHC_first xHC_second xHC_when xHC_ran, oRow ad xRow_depth xRow_length xRow_people xRow_scarves xRow_main xRow_faultPlace]) [0, 1] (by decide) rfl
  have hFc := va_free (wc := [oHC ad xHC_first xHC_second xHC_when xHC_ran, oRow ad xRow_depth xRow_length xRow_people xRow_scarves xRow_main xRow_faultPlace]) hD hS hA [0, 1] rfl
  obtain ⟨u_1, hc_1, hm⟩ := bd_ok hm
  refine va_calli (va_runV (As := [.int a1]) (rest := []) ⟨hx, hb, hml, hown, hts⟩ (kC_isPerson l dC dI cA ad s.heap.size a1 xHC_first xHC_second xHC_when xHC_ran xRow_depth xRow_length xRow_people xRow_scarves xRow_main xRow_faultPlace u_1 hc_1) (cwV 1 hts gX9_many_X9_isPerson rfl rfl rfl (by decide +kernel) ⟨Nat.le_of_ble_eq_true rfl, Nat.le_of_ble_eq_true rfl⟩) ⟨fun a U g mk q => by obtain ⟨q0, q1, qP, qK, qD⟩ := q; exact ⟨q0, q1, qP, va_K.moved (u := U) (U := U.calling g mk a) (Vm.Alike.refl U.vm) qK, qD⟩, va_recv hK hPc (ci := 9) (q0 := 0) rfl rfl, fun U hU hW => ⟨rfl, by rw [hU], by rw [hU]; exact hPc, va_K.moved hW.alike hK, hDc.weaken (fun _ _ _ _ => trivial)⟩⟩ rfl rfl hl.1 rfl (lv_room (Nat.le_of_ble_eq_true rfl)) dX9_many_2 ⟨by (show _ ≤ _ - _); omega, by (show _ ≤ 2 * (_ - _)); omega⟩) hS (fun q _ h => hFc q h) hFc (fun r_1 _ t H1 locs ht hvm hw hB hz1 hk1 hS => ?_)
  obtain ⟨hP1, hK1, hD1⟩ := hB
  rw [ht] at hP1
  obtain ⟨hP, hD⟩ := va_join (wr := [ar (ad 3) cA 20 gRkinds, ar (ad 4) cA 20 gRlates, ar (ad 5) cA 20 gRhands, ar (ad 6) cA 20 gRslow, oST ad xST_sleeper xST_lastDue xST_unreached, ar (ad 10) cA 640 gSTdue, ar (ad 11) cA 20 gSTbusy, ar (ad 12) cA 20 gSTfelt, ar (ad 13) cA 20 gSTlost, ar (ad 14) cA 20 gSTfirst, oDia ad qe xDia_size, ar qe cA ne gDent]) (w1 := [oHC ad xHC_first xHC_second xHC_when xHC_ran, oRow ad xRow_depth xRow_length xRow_people xRow_scarves xRow_main xRow_faultPlace]) hP hD [0, 1] [2, 3, 4, 5, 6, 7, 8, 9, 10, 11, 12, 13] rfl rfl (by decide) (by decide) hk1 hFc hP1 hD1
  clear hPc hDc hFc hP1 hK1 hD1 hk1 hz1 hvm ht
  generalize H1 = H at hP hS ⊢
  have hP : va_P (dC, dI) vwCl [oHC ad xHC_first xHC_second xHC_when xHC_ran, oRow ad xRow_depth xRow_length xRow_people xRow_scarves xRow_main xRow_faultPlace, ar (ad 3) cA 20 gRkinds, ar (ad 4) cA 20 gRlates, ar (ad 5) cA 20 gRhands, ar (ad 6) cA 20 gRslow, oST ad xST_sleeper xST_lastDue xST_unreached, ar (ad 10) cA 640 gSTdue, ar (ad 11) cA 20 gSTbusy, ar (ad 12) cA 20 gSTfelt, ar (ad 13) cA 20 gSTlost, ar (ad 14) cA 20 gSTfirst, oDia ad qe xDia_size, ar qe cA ne gDent] H := hP.sub [12, 13, 0, 1, 2, 3, 4, 5, 6, 7, 8, 9, 10, 11] rfl
  have hD : va_D A [oHC ad xHC_first xHC_second xHC_when xHC_ran, oRow ad xRow_depth xRow_length xRow_people xRow_scarves xRow_main xRow_faultPlace, ar (ad 3) cA 20 gRkinds, ar (ad 4) cA 20 gRlates, ar (ad 5) cA 20 gRhands, ar (ad 6) cA 20 gRslow, oST ad xST_sleeper xST_lastDue xST_unreached, ar (ad 10) cA 640 gSTdue, ar (ad 11) cA 20 gSTbusy, ar (ad 12) cA 20 gSTfelt, ar (ad 13) cA 20 gSTlost, ar (ad 14) cA 20 gSTfirst, oDia ad qe xDia_size, ar qe cA ne gDent] := hD.sub [12, 13, 0, 1, 2, 3, 4, 5, 6, 7, 8, 9, 10, 11] (by decide) rfl
  have hw := hw.symm
  subst hw
  refine lv_if_eq (tgt := 15) hx hb dX9_many_5 (by decide) (fun c_2 => ?_) (fun c_2 => ?_)
  · have hm := it_pos c_2 hm
    refine lv_bipush (v := (-2)) hx hb dX9_many_15 (by decide) ?_
    obtain rfl := Option.some.inj hm
    subst hQ
    refine W.widen (k := ne - ne) (n := 2 * (ne - ne)) (by first | exact Nat.le_refl _ | omega) (by first | exact Nat.le_refl _ | omega) ?_
    exact W.iret (v := (-2)) hx hb hr (fun t ht hW => ⟨⟨_, qe, rfl, rfl, by rw [ht]; exact hP, va_K.moved hW.alike hK, hAe ▸ hD⟩, hS.F ht⟩) hS.2.2 dX9_many_17
  · have hm := it_neg c_2 hm
    refine lv_iload_n hx hb dX9_many_8 rfl (lv_at hl 2 rfl) ?_
    have hPc := hP.sub (ws' := []) [] rfl
    have hDc := hD.sub (ws' := []) [] (by decide) rfl
    have hFc := va_free (wc := []) hD hS hA [] rfl
    obtain ⟨u_3, hc_3, hm⟩ := bd_ok hm
    refine va_calli (va_runS (As := [.int a2]) (rest := []) ⟨hx, hb, hml, hown, hts⟩ (kC_isTime l dC dI cA ad H.size a2 u_3 hc_3) (va_cwS 1 hts gX9_many_X9_isTime rfl rfl rfl (by decide +kernel) ⟨Nat.le_of_ble_eq_true rfl, Nat.le_of_ble_eq_true rfl⟩) ⟨fun a U g mk q => by obtain ⟨q0, q1, qP, qK, qD⟩ := q; exact ⟨q0, q1, qP, va_K.moved (u := U) (U := U.calling g mk a) (Vm.Alike.refl U.vm) qK, qD⟩, fun U hU hW => ⟨rfl, by rw [hU], by rw [hU]; exact hPc, va_K.moved hW.alike hK, hDc.weaken (fun _ _ _ _ => trivial)⟩⟩ rfl rfl hl.1 rfl (lv_room (Nat.le_of_ble_eq_true rfl)) dX9_many_9 ⟨by (show _ ≤ _ - _); omega, by (show _ ≤ 2 * (_ - _)); omega⟩) hS (fun q _ h => hFc q h) hFc (fun r_3 _ t H1 locs ht hvm hw hB hz1 hk1 hS => ?_)
    obtain ⟨hP1, hK1, hD1⟩ := hB
    rw [ht] at hP1
    obtain ⟨hP, hD⟩ := va_join (wr := [oHC ad xHC_first xHC_second xHC_when xHC_ran, oRow ad xRow_depth xRow_length xRow_people xRow_scarves xRow_main xRow_faultPlace, ar (ad 3) cA 20 gRkinds, ar (ad 4) cA 20 gRlates, ar (ad 5) cA 20 gRhands, ar (ad 6) cA 20 gRslow, oST ad xST_sleeper xST_lastDue xST_unreached, ar (ad 10) cA 640 gSTdue, ar (ad 11) cA 20 gSTbusy, ar (ad 12) cA 20 gSTfelt, ar (ad 13) cA 20 gSTlost, ar (ad 14) cA 20 gSTfirst, oDia ad qe xDia_size, ar qe cA ne gDent]) (w1 := []) hP hD [] [0, 1, 2, 3, 4, 5, 6, 7, 8, 9, 10, 11, 12, 13] rfl rfl (by decide) (by decide) hk1 hFc hP1 hD1
    clear hPc hDc hFc hP1 hK1 hD1 hk1 hz1 hvm ht
    generalize H1 = H at hP hS ⊢
    have hP : va_P (dC, dI) vwCl [oHC ad xHC_first xHC_second xHC_when xHC_ran, oRow ad xRow_depth xRow_length xRow_people xRow_scarves xRow_main xRow_faultPlace, ar (ad 3) cA 20 gRkinds, ar (ad 4) cA 20 gRlates, ar (ad 5) cA 20 gRhands, ar (ad 6) cA 20 gRslow, oST ad xST_sleeper xST_lastDue xST_unreached, ar (ad 10) cA 640 gSTdue, ar (ad 11) cA 20 gSTbusy, ar (ad 12) cA 20 gSTfelt, ar (ad 13) cA 20 gSTlost, ar (ad 14) cA 20 gSTfirst, oDia ad qe xDia_size, ar qe cA ne gDent] H := hP
    have hD : va_D A [oHC ad xHC_first xHC_second xHC_when xHC_ran, oRow ad xRow_depth xRow_length xRow_people xRow_scarves xRow_main xRow_faultPlace, ar (ad 3) cA 20 gRkinds, ar (ad 4) cA 20 gRlates, ar (ad 5) cA 20 gRhands, ar (ad 6) cA 20 gRslow, oST ad xST_sleeper xST_lastDue xST_unreached, ar (ad 10) cA 640 gSTdue, ar (ad 11) cA 20 gSTbusy, ar (ad 12) cA 20 gSTfelt, ar (ad 13) cA 20 gSTlost, ar (ad 14) cA 20 gSTfirst, oDia ad qe xDia_size, ar qe cA ne gDent] := hD
    have hw := hw.symm
    subst hw
    refine lv_if_ne (tgt := 18) hx hb dX9_many_12 (by decide) (fun c_4 => ?_) (fun c_4 => ?_)
    · have hm := it_neg c_4 hm
      refine lv_aload_n hx hb dX9_many_18 rfl (lv_at hl 0 rfl) ?_
      have hPc := hP.sub (ws' := [oHC ad xHC_first xHC_second xHC_when xHC_ran, oRow ad xRow_depth xRow_length xRow_people xRow_scarves xRow_main xRow_faultPlace, ar (ad 3) cA 20 gRkinds, ar (ad 4) cA 20 gRlates, ar (ad 5) cA 20 gRhands, ar (ad 6) cA 20 gRslow, oST ad xST_sleeper xST_lastDue xST_unreached, ar (ad 10) cA 640 gSTdue, ar (ad 11) cA 20 gSTbusy, ar (ad 12) cA 20 gSTfelt, ar (ad 13) cA 20 gSTlost, ar (ad 14) cA 20 gSTfirst, oDia ad qe xDia_size, ar qe cA ne gDent]) [0, 1, 2, 3, 4, 5, 6, 7, 8, 9, 10, 11, 12, 13] rfl
      have hDc := hD.sub (ws' := [oHC ad xHC_first xHC_second xHC_when xHC_ran, oRow ad xRow_depth xRow_length xRow_people xRow_scarves xRow_main xRow_faultPlace, ar (ad 3) cA 20 gRkinds, ar (ad 4) cA 20 gRlates, ar (ad 5) cA 20 gRhands, ar (ad 6) cA 20 gRslow, oST ad xST_sleeper xST_lastDue xST_unreached, ar (ad 10) cA 640 gSTdue, ar (ad 11) cA 20 gSTbusy, ar (ad 12) cA 20 gSTfelt, ar (ad 13) cA 20 gSTlost, ar (ad 14) cA 20 gSTfirst, oDia ad qe xDia_size, ar qe cA ne gDent]) [0, 1, 2, 3, 4, 5, 6, 7, 8, 9, 10, 11, 12, 13] (by decide) rfl
      have hFc := va_free (wc := [oHC ad xHC_first xHC_second xHC_when xHC_ran, oRow ad xRow_depth xRow_length xRow_people xRow_scarves xRow_main xRow_faultPlace, ar (ad 3) cA 20 gRkinds, ar (ad 4) cA 20 gRlates, ar (ad 5) cA 20 gRhands, ar (ad 6) cA 20 gRslow, oST ad xST_sleeper xST_lastDue xST_unreached, ar (ad 10) cA 640 gSTdue, ar (ad 11) cA 20 gSTbusy, ar (ad 12) cA 20 gSTfelt, ar (ad 13) cA 20 gSTlost, ar (ad 14) cA 20 gSTfirst, oDia ad qe xDia_size, ar qe cA ne gDent]) hD hS hA [0, 1, 2, 3, 4, 5, 6, 7, 8, 9, 10, 11, 12, 13] rfl
      obtain ⟨u_5, hc_5, hn1_5, hn2_5, hm⟩ := bm_ok hm
      have hn1_5 : ne ≤ u_5.2.2.2.2.2.2.2.2.2.2.1 := hn1_5
      have hn2_5 : u_5.2.2.2.2.2.2.2.2.2.2.1 ≤ u.2.2.2.2.2.2.2.2.2.2.2.1 := hn2_5
      refine va_callr (va_runV (As := []) (rest := []) ⟨hx, hb, hml, hown, hts⟩ (kC_asTold l dC dI cA ad qe H.size xHC_first xHC_second xHC_when xHC_ran xRow_depth xRow_length xRow_people xRow_scarves xRow_main xRow_faultPlace gRkinds gRlates gRhands gRslow xST_sleeper xST_lastDue xST_unreached gSTdue gSTbusy gSTfelt gSTlost gSTfirst xDia_size ne gDent u_5 hc_5) (cwV 0 hts gX9_many_X9_asTold rfl rfl rfl (by decide +kernel) ⟨Nat.le_of_ble_eq_true rfl, Nat.le_of_ble_eq_true rfl⟩) ⟨fun a U g mk q => by obtain ⟨q0, q1, qP, qK, qD⟩ := q; exact ⟨q0, q1, qP, va_K.moved (u := U) (U := U.calling g mk a) (Vm.Alike.refl U.vm) qK, qD⟩, va_recv hK hPc (ci := 9) (q0 := 0) rfl rfl, fun U hU hW => ⟨rfl, by rw [hU], by rw [hU]; exact hPc, va_K.moved hW.alike hK, hDc.weaken (fun _ _ _ _ => trivial)⟩⟩ rfl rfl hl.1 rfl (lv_room (Nat.le_of_ble_eq_true rfl)) dX9_many_19 ⟨by (show _ ≤ _ - _); omega, by (show _ ≤ 2 * (_ - _)); omega⟩) hS (fun q _ h => hFc q h) hFc (fun qe_1005 ra_5 t H1 locs ht hvm hw hB hz1 hk1 hS => ?_)
      obtain ⟨hra_5, hP1, hK1, hD1⟩ := hB
      subst hra_5
      rw [ht] at hP1
      obtain ⟨hP, hD⟩ := va_join (wr := []) (w1 := [oHC ad xHC_first xHC_second xHC_when u_5.1, oRow ad xRow_depth xRow_length xRow_people xRow_scarves xRow_main xRow_faultPlace, ar (ad 3) cA 20 gRkinds, ar (ad 4) cA 20 gRlates, ar (ad 5) cA 20 gRhands, ar (ad 6) cA 20 gRslow, oST ad u_5.2.1 u_5.2.2.1 u_5.2.2.2.1, ar (ad 10) cA 640 u_5.2.2.2.2.1, ar (ad 11) cA 20 u_5.2.2.2.2.2.1, ar (ad 12) cA 20 u_5.2.2.2.2.2.2.1, ar (ad 13) cA 20 u_5.2.2.2.2.2.2.2.1, ar (ad 14) cA 20 u_5.2.2.2.2.2.2.2.2.1, oDia ad qe_1005 u_5.2.2.2.2.2.2.2.2.2.1, ar qe_1005 cA u_5.2.2.2.2.2.2.2.2.2.2.1 u_5.2.2.2.2.2.2.2.2.2.2.2]) hP hD [0, 1, 2, 3, 4, 5, 6, 7, 8, 9, 10, 11, 12, 13] [] rfl rfl (by decide) (by decide) hk1 hFc hP1 hD1
      clear hPc hDc hFc hP1 hK1 hD1 hk1 hz1 hvm ht
      generalize H1 = H at hP hS ⊢
      have hP : va_P (dC, dI) vwCl [oHC ad xHC_first xHC_second xHC_when u_5.1, oRow ad xRow_depth xRow_length xRow_people xRow_scarves xRow_main xRow_faultPlace, ar (ad 3) cA 20 gRkinds, ar (ad 4) cA 20 gRlates, ar (ad 5) cA 20 gRhands, ar (ad 6) cA 20 gRslow, oST ad u_5.2.1 u_5.2.2.1 u_5.2.2.2.1, ar (ad 10) cA 640 u_5.2.2.2.2.1, ar (ad 11) cA 20 u_5.2.2.2.2.2.1, ar (ad 12) cA 20 u_5.2.2.2.2.2.2.1, ar (ad 13) cA 20 u_5.2.2.2.2.2.2.2.1, ar (ad 14) cA 20 u_5.2.2.2.2.2.2.2.2.1, oDia ad qe_1005 u_5.2.2.2.2.2.2.2.2.2.1, ar qe_1005 cA u_5.2.2.2.2.2.2.2.2.2.2.1 u_5.2.2.2.2.2.2.2.2.2.2.2] H := hP
      have hD : va_D A [oHC ad xHC_first xHC_second xHC_when u_5.1, oRow ad xRow_depth xRow_length xRow_people xRow_scarves xRow_main xRow_faultPlace, ar (ad 3) cA 20 gRkinds, ar (ad 4) cA 20 gRlates, ar (ad 5) cA 20 gRhands, ar (ad 6) cA 20 gRslow, oST ad u_5.2.1 u_5.2.2.1 u_5.2.2.2.1, ar (ad 10) cA 640 u_5.2.2.2.2.1, ar (ad 11) cA 20 u_5.2.2.2.2.2.1, ar (ad 12) cA 20 u_5.2.2.2.2.2.2.1, ar (ad 13) cA 20 u_5.2.2.2.2.2.2.2.1, ar (ad 14) cA 20 u_5.2.2.2.2.2.2.2.2.1, oDia ad qe_1005 u_5.2.2.2.2.2.2.2.2.2.1, ar qe_1005 cA u_5.2.2.2.2.2.2.2.2.2.2.1 u_5.2.2.2.2.2.2.2.2.2.2.2] := hD
      refine W.widen (k := u_5.2.2.2.2.2.2.2.2.2.2.1 - ne) (n := 2 * (u_5.2.2.2.2.2.2.2.2.2.2.1 - ne)) (by omega) (by omega) ?_
      refine lv_iload_n hx hb dX9_many_22 rfl (lv_at hl 1 rfl) ?_
      refine lv_iload_n hx hb dX9_many_23 rfl (lv_at hl 2 rfl) ?_
      have hPc := hP.sub (ws' := [oST ad u_5.2.1 u_5.2.2.1 u_5.2.2.2.1, oDia ad qe_1005 u_5.2.2.2.2.2.2.2.2.2.1, ar qe_1005 cA u_5.2.2.2.2.2.2.2.2.2.2.1 u_5.2.2.2.2.2.2.2.2.2.2.2]) [6, 12, 13] rfl
      have hDc := hD.sub (ws' := [oST ad u_5.2.1 u_5.2.2.1 u_5.2.2.2.1, oDia ad qe_1005 u_5.2.2.2.2.2.2.2.2.2.1, ar qe_1005 cA u_5.2.2.2.2.2.2.2.2.2.2.1 u_5.2.2.2.2.2.2.2.2.2.2.2]) [6, 12, 13] (by decide) rfl
      have hFc := va_free (wc := [oST ad u_5.2.1 u_5.2.2.1 u_5.2.2.2.1, oDia ad qe_1005 u_5.2.2.2.2.2.2.2.2.2.1, ar qe_1005 cA u_5.2.2.2.2.2.2.2.2.2.2.1 u_5.2.2.2.2.2.2.2.2.2.2.2]) hD hS hA [6, 12, 13] rfl
      obtain ⟨u_6, hc_6, hm⟩ := bd_ok hm
      refine va_calli (va_runV (As := [.int a1, .int a2]) (rest := []) ⟨hx, hb, hml, hown, hts⟩ (kS_feltUpTo_T l dC dI cA ad qe_1005 H.size a1 a2 u_5.2.1 u_5.2.2.1 u_5.2.2.2.1 u_5.2.2.2.2.2.2.2.2.2.1 u_5.2.2.2.2.2.2.2.2.2.2.1 u_5.2.2.2.2.2.2.2.2.2.2.2 u_6 hc_6) (cwV 2 hts gX9_many_X8_feltUpTo rfl rfl rfl (by decide +kernel) ⟨Nat.le_of_ble_eq_true rfl, Nat.le_of_ble_eq_true rfl⟩) ⟨fun a U g mk q => by obtain ⟨q0, q1, qP, qK, qD⟩ := q; exact ⟨q0, q1, qP, va_K.moved (u := U) (U := U.calling g mk a) (Vm.Alike.refl U.vm) qK, qD⟩, va_recv hK hPc (ci := 8) (q0 := 0) rfl rfl, fun U hU hW => ⟨rfl, by rw [hU], by rw [hU]; exact hPc, va_K.moved hW.alike hK, hDc.weaken (fun _ _ _ _ => trivial)⟩⟩ rfl rfl hl.1 rfl (lv_room (Nat.le_of_ble_eq_true rfl)) dX9_many_24 ⟨by (show _ ≤ _ - _); omega, by (show _ ≤ 2 * (_ - _)); omega⟩) hS (fun q _ h => hFc q h) hFc (fun r_6 _ t H1 locs ht hvm hw hB hz1 hk1 hS => ?_)
      obtain ⟨hP1, hK1, hD1⟩ := hB
      rw [ht] at hP1
      obtain ⟨hP, hD⟩ := va_join (wr := [oHC ad xHC_first xHC_second xHC_when u_5.1, oRow ad xRow_depth xRow_length xRow_people xRow_scarves xRow_main xRow_faultPlace, ar (ad 3) cA 20 gRkinds, ar (ad 4) cA 20 gRlates, ar (ad 5) cA 20 gRhands, ar (ad 6) cA 20 gRslow, ar (ad 10) cA 640 u_5.2.2.2.2.1, ar (ad 11) cA 20 u_5.2.2.2.2.2.1, ar (ad 12) cA 20 u_5.2.2.2.2.2.2.1, ar (ad 13) cA 20 u_5.2.2.2.2.2.2.2.1, ar (ad 14) cA 20 u_5.2.2.2.2.2.2.2.2.1]) (w1 := [oST ad u_5.2.1 u_5.2.2.1 u_5.2.2.2.1, oDia ad qe_1005 u_5.2.2.2.2.2.2.2.2.2.1, ar qe_1005 cA u_5.2.2.2.2.2.2.2.2.2.2.1 u_5.2.2.2.2.2.2.2.2.2.2.2]) hP hD [6, 12, 13] [0, 1, 2, 3, 4, 5, 7, 8, 9, 10, 11] rfl rfl (by decide) (by decide) hk1 hFc hP1 hD1
      clear hPc hDc hFc hP1 hK1 hD1 hk1 hz1 hvm ht
      generalize H1 = H at hP hS ⊢
      have hP : va_P (dC, dI) vwCl [oHC ad xHC_first xHC_second xHC_when u_5.1, oRow ad xRow_depth xRow_length xRow_people xRow_scarves xRow_main xRow_faultPlace, ar (ad 3) cA 20 gRkinds, ar (ad 4) cA 20 gRlates, ar (ad 5) cA 20 gRhands, ar (ad 6) cA 20 gRslow, oST ad u_5.2.1 u_5.2.2.1 u_5.2.2.2.1, ar (ad 10) cA 640 u_5.2.2.2.2.1, ar (ad 11) cA 20 u_5.2.2.2.2.2.1, ar (ad 12) cA 20 u_5.2.2.2.2.2.2.1, ar (ad 13) cA 20 u_5.2.2.2.2.2.2.2.1, ar (ad 14) cA 20 u_5.2.2.2.2.2.2.2.2.1, oDia ad qe_1005 u_5.2.2.2.2.2.2.2.2.2.1, ar qe_1005 cA u_5.2.2.2.2.2.2.2.2.2.2.1 u_5.2.2.2.2.2.2.2.2.2.2.2] H := hP.sub [0, 1, 2, 3, 4, 5, 11, 6, 7, 8, 9, 10, 12, 13] rfl
      have hD : va_D A [oHC ad xHC_first xHC_second xHC_when u_5.1, oRow ad xRow_depth xRow_length xRow_people xRow_scarves xRow_main xRow_faultPlace, ar (ad 3) cA 20 gRkinds, ar (ad 4) cA 20 gRlates, ar (ad 5) cA 20 gRhands, ar (ad 6) cA 20 gRslow, oST ad u_5.2.1 u_5.2.2.1 u_5.2.2.2.1, ar (ad 10) cA 640 u_5.2.2.2.2.1, ar (ad 11) cA 20 u_5.2.2.2.2.2.1, ar (ad 12) cA 20 u_5.2.2.2.2.2.2.1, ar (ad 13) cA 20 u_5.2.2.2.2.2.2.2.1, ar (ad 14) cA 20 u_5.2.2.2.2.2.2.2.2.1, oDia ad qe_1005 u_5.2.2.2.2.2.2.2.2.2.1, ar qe_1005 cA u_5.2.2.2.2.2.2.2.2.2.2.1 u_5.2.2.2.2.2.2.2.2.2.2.2] := hD.sub [0, 1, 2, 3, 4, 5, 11, 6, 7, 8, 9, 10, 12, 13] (by decide) rfl
      have hw := hw.symm
      subst hw
      obtain rfl := Option.some.inj hm
      subst hQ
      refine W.widen (k := u_5.2.2.2.2.2.2.2.2.2.2.1 - ne) (n := 2 * (u_5.2.2.2.2.2.2.2.2.2.2.1 - ne)) (by first | exact Nat.le_refl _ | omega) (by first | exact Nat.le_refl _ | omega) ?_
      exact W.iret (v := u_6) hx hb hr (fun t ht hW => ⟨⟨_, qe_1005, rfl, rfl, by rw [ht]; exact hP, va_K.moved hW.alike hK, hAe ▸ hD⟩, hS.F ht⟩) hS.2.2 dX9_many_27
    · have hm := it_pos c_4 hm
      refine lv_bipush (v := (-2)) hx hb dX9_many_15 (by decide) ?_
      obtain rfl := Option.some.inj hm
      subst hQ
      refine W.widen (k := ne - ne) (n := 2 * (ne - ne)) (by first | exact Nat.le_refl _ | omega) (by first | exact Nat.le_refl _ | omega) ?_
      exact W.iret (v := (-2)) hx hb hr (fun t ht hW => ⟨⟨_, qe, rfl, rfl, by rw [ht]; exact hP, va_K.moved hW.alike hK, hAe ▸ hD⟩, hS.F ht⟩) hS.2.2 dX9_many_17

set_option maxHeartbeats 4000000 in
set_option maxRecDepth 100000 in
theorem kS_lostUpTo_T (l : Launch) (dC : Nat → ClassId) (dI : Nat → Nat → Nat) (cA : ClassId) (ad : Nat → Nat) (qe : Nat) (sz : Nat) (a1 : Int32) (a2 : Int32) (xST_sleeper : Int32) (xST_lastDue : Int32) (xST_unreached : Int32) (xDia_size : Int32) (ne : Nat) (gDent : Nat → Int32) (u : Int32) (hm : fS_lostUpTo_T a1 a2 xDia_size ne gDent = some u) : Met l yX8_lostUpTo wsX8_lostUpTo ({ frames := 2, cells := 0, slots := 0, locals := 47 }) (va_Pc [.ref (ad 9), .int a1, .int a2] (fun U => U.heap.size = sz ∧ va_P (dC, dI) vwCl [oST ad xST_sleeper xST_lastDue xST_unreached, oDia ad qe xDia_size, ar qe cA ne gDent] U.heap ∧ va_K (dC, dI) vwCl [(cA, .int)] U ∧ va_D (fun _ => True) [oST ad xST_sleeper xST_lastDue xST_unreached, oDia ad qe xDia_size, ar qe cA ne gDent])) (va_Qi (fun (r : Int32) (_ : Unit) => r = u) (fun (_ : Unit) t => va_P (dC, dI) vwCl [oST ad xST_sleeper xST_lastDue xST_unreached, oDia ad qe xDia_size, ar qe cA ne gDent] t.heap ∧ va_K (dC, dI) vwCl [(cA, .int)] t ∧ va_D (va_A [oST ad xST_sleeper xST_lastDue xST_unreached, oDia ad qe xDia_size, ar qe cA ne gDent] sz) [oST ad xST_sleeper xST_lastDue xST_unreached, oDia ad qe xDia_size, ar qe cA ne gDent]) (va_A [oST ad xST_sleeper xST_lastDue xST_unreached, oDia ad qe xDia_size, ar qe cA ne gDent] sz)) 0 0 (va_A [oST ad xST_sleeper xST_lastDue xST_unreached, oDia ad qe xDia_size, ar qe cA ne gDent] sz) := by
  refine Met.ofW (cc := cX8_lostUpTo) (maxL := 3) (ret := (some .int)) (by decide) rfl ?_
  intro p e s m args below meth c s₁ B hml hv
  obtain ⟨rfl, hsz, hP, hK, hD0⟩ := hv
  have hx := B.exec
  have hb := B.bytes
  have hr := B.returns
  have hts := atoms_spec (ws := wsX8_lostUpTo) B.pre
  have hown : s.vm.findClass RX8 = some m.cls := findClass_of_methodNamed B.named
  have hlocks := B.notSynchronized
  subst hsz
  have hD := hD0.self (sz := s.heap.size)
  generalize hAe : va_A [oST ad xST_sleeper xST_lastDue xST_unreached, oDia ad qe xDia_size, ar qe cA ne gDent] s.heap.size = A at hD ⊢
  have hA : ∀ q : Nat, s.heap.size ≤ q → A q := fun q h => by rw [← hAe]; exact Or.inr h
  have hS : va_S A s.heap s.heap [] := va_S.rf
  have hl := lv_entry ([.ref (ad 9), .int a1, .int a2]) (n := 3) (Nat.le_of_ble_eq_true rfl)
  rw [lg_entry_eq]
  generalize (lg_sl ([.ref (ad 9), .int a1, .int a2]) ++ List.replicate (3 - (lg_sl ([.ref (ad 9), .int a1, .int a2])).length) Slot.unset).toArray = ls at hl ⊢
  have hl : lv_has ls 3 [(0, .ref (ad 9)), (1, .int a1), (2, .int a2)] := hl
  refine wk_Q (fun QQ hQ => ?_)
  have hinX8 : ∀ w ∈ wsX80, w ∈ wsX8_lostUpTo := fun w h => List.mem_cons_of_mem _ (inlX8 w h)
  have hl_15 := hts (.fieldLink RX8 15 "HandCensus$Squeeze" "diary" "LHandCensus$Diary;") (List.mem_cons_of_mem _ (in_r4 _ (List.mem_of_getElem? (i := 3) rfl)))
  unfold fS_lostUpTo_T at hm
  refine lv_aload_n hx hb dX8_lostUpTo_0 rfl (lv_at hl 0 rfl) ?_
  refine va_get (D := (dC, dI)) (ci := 8) (v := .ref (ad 15)) (C := RX8) (T := TX8) (N := 10) hx hb hts hinX8 hown hK hP 0 rfl rfl 1 (by decide) hl_15 (fun _ h9 => h9) rfl dX8_lostUpTo_1 ?_
  refine lv_ifnonnull (tgt := 11) hx hb dX8_lostUpTo_4 (by decide) ?_
  refine lv_aload_n hx hb dX8_lostUpTo_11 rfl (lv_at hl 0 rfl) ?_
  refine va_get (D := (dC, dI)) (ci := 8) (v := .ref (ad 15)) (C := RX8) (T := TX8) (N := 10) hx hb hts hinX8 hown hK hP 0 rfl rfl 1 (by decide) hl_15 (fun _ h9 => h9) rfl dX8_lostUpTo_12 ?_
  refine lv_iload_n hx hb dX8_lostUpTo_15 rfl (lv_at hl 1 rfl) ?_
  refine lv_iload_n hx hb dX8_lostUpTo_16 rfl (lv_at hl 2 rfl) ?_
  refine lv_iconst (v := 1) hx hb dX8_lostUpTo_17 (by decide) ?_
  have hPc := hP.sub (ws' := [oDia ad qe xDia_size, ar qe cA ne gDent]) [1, 2] rfl
  have hDc := hD.sub (ws' := [oDia ad qe xDia_size, ar qe cA ne gDent]) [1, 2] (by decide) rfl
  have hFc := va_free (wc := [oDia ad qe xDia_size, ar qe cA ne gDent]) hD hS hA [1, 2] rfl
  obtain ⟨u_1, hc_1, hm⟩ := bd_ok hm
  refine va_calli (va_runV (As := [.int a1, .int a2, .int 1]) (rest := []) ⟨hx, hb, hml, hown, hts⟩ (kD_tally l dC dI cA ad qe s.heap.size a1 a2 1 xDia_size ne gDent u_1 hc_1) (cwV 3 hts gX8_lostUpTo_X1_tally rfl rfl rfl (by decide +kernel) ⟨Nat.le_of_ble_eq_true rfl, Nat.le_of_ble_eq_true rfl⟩) ⟨fun a U g mk q => by obtain ⟨q0, q1, qP, qK, qD⟩ := q; exact ⟨q0, q1, qP, va_K.moved (u := U) (U := U.calling g mk a) (Vm.Alike.refl U.vm) qK, qD⟩, va_recv hK hPc (ci := 1) (q0 := 0) rfl rfl, fun U hU hW => ⟨rfl, by rw [hU], by rw [hU]; exact hPc, va_K.moved hW.alike hK, hDc.weaken (fun _ _ _ _ => trivial)⟩⟩ rfl rfl hl.1 rfl (lv_room (Nat.le_of_ble_eq_true rfl)) dX8_lostUpTo_18 ⟨Nat.le_of_ble_eq_true rfl, Nat.le_of_ble_eq_true rfl⟩) hS (fun q _ h => hFc q h) hFc (fun r_1 _ t H1 locs ht hvm hw hB hz1 hk1 hS => ?_)
  obtain ⟨hP1, hK1, hD1⟩ := hB
  rw [ht] at hP1
  obtain ⟨hP, hD⟩ := va_join (wr := [oST ad xST_sleeper xST_lastDue xST_unreached]) (w1 := [oDia ad qe xDia_size, ar qe cA ne gDent]) hP hD [1, 2] [0] rfl rfl (by decide) (by decide) hk1 hFc hP1 hD1
  clear hPc hDc hFc hP1 hK1 hD1 hk1 hz1 hvm ht
  generalize H1 = H at hP hS ⊢
  have hP : va_P (dC, dI) vwCl [oST ad xST_sleeper xST_lastDue xST_unreached, oDia ad qe xDia_size, ar qe cA ne gDent] H := hP
  have hD : va_D A [oST ad xST_sleeper xST_lastDue xST_unreached, oDia ad qe xDia_size, ar qe cA ne gDent] := hD
  have hw := hw.symm
  subst hw
  obtain rfl := Option.some.inj hm
  subst hQ
  exact W.iret (v := u_1) hx hb hr (fun t ht hW => ⟨⟨_, (), rfl, rfl, by rw [ht]; exact hP, va_K.moved hW.alike hK, hAe ▸ hD⟩, hS.F ht⟩) hS.2.2 dX8_lostUpTo_21

set_option maxHeartbeats 4000000 in
set_option maxRecDepth 100000 in
theorem kC_lost (l : Launch) (dC : Nat → ClassId) (dI : Nat → Nat → Nat) (cA : ClassId) (ad : Nat → Nat) (qe : Nat) (sz : Nat) (a1 : Int32) (a2 : Int32) (xHC_first : Int32) (xHC_second : Int32) (xHC_when : Int32) (xHC_ran : Int32) (xRow_depth : Int32) (xRow_length : Int32) (xRow_people : Int32) (xRow_scarves : Int32) (xRow_main : Int32) (xRow_faultPlace : Int32) (gRkinds : Nat → Int32) (gRlates : Nat → Int32) (gRhands : Nat → Int32) (gRslow : Nat → Int32) (xST_sleeper : Int32) (xST_lastDue : Int32) (xST_unreached : Int32) (gSTdue : Nat → Int32) (gSTbusy : Nat → Int32) (gSTfelt : Nat → Int32) (gSTlost : Nat → Int32) (gSTfirst : Nat → Int32) (xDia_size : Int32) (ne : Nat) (gDent : Nat → Int32) (u : Int32 × Int32 × Int32 × Int32 × Int32 × (Nat → Int32) × (Nat → Int32) × (Nat → Int32) × (Nat → Int32) × (Nat → Int32) × Int32 × Nat × (Nat → Int32)) (hm : fC_lost a1 a2 xHC_first xHC_second xHC_when xHC_ran xRow_people gRkinds gRlates gRhands gRslow xST_sleeper xST_lastDue xST_unreached gSTdue gSTbusy gSTfelt gSTlost gSTfirst xDia_size ne gDent = some u) : Met l yX9_lost wsX9_lost ({ frames := 5, cells := (u.2.2.2.2.2.2.2.2.2.2.2.1 - ne), slots := (2 * (u.2.2.2.2.2.2.2.2.2.2.2.1 - ne)), locals := 123 }) (va_Pc [.ref (ad 0), .int a1, .int a2] (fun U => U.heap.size = sz ∧ va_P (dC, dI) vwCl [oHC ad xHC_first xHC_second xHC_when xHC_ran, oRow ad xRow_depth xRow_length xRow_people xRow_scarves xRow_main xRow_faultPlace, ar (ad 3) cA 20 gRkinds, ar (ad 4) cA 20 gRlates, ar (ad 5) cA 20 gRhands, ar (ad 6) cA 20 gRslow, oST ad xST_sleeper xST_lastDue xST_unreached, ar (ad 10) cA 640 gSTdue, ar (ad 11) cA 20 gSTbusy, ar (ad 12) cA 20 gSTfelt, ar (ad 13) cA 20 gSTlost, ar (ad 14) cA 20 gSTfirst, oDia ad qe xDia_size, ar qe cA ne gDent] U.heap ∧ va_K (dC, dI) vwCl [(cA, .int)] U ∧ va_D (fun _ => True) [oHC ad xHC_first xHC_second xHC_when xHC_ran, oRow ad xRow_depth xRow_length xRow_people xRow_scarves xRow_main xRow_faultPlace, ar (ad 3) cA 20 gRkinds, ar (ad 4) cA 20 gRlates, ar (ad 5) cA 20 gRhands, ar (ad 6) cA 20 gRslow, oST ad xST_sleeper xST_lastDue xST_unreached, ar (ad 10) cA 640 gSTdue, ar (ad 11) cA 20 gSTbusy, ar (ad 12) cA 20 gSTfelt, ar (ad 13) cA 20 gSTlost, ar (ad 14) cA 20 gSTfirst, oDia ad qe xDia_size, ar qe cA ne gDent])) (va_Qi (fun (r : Int32) (_ : Nat) => r = u.1) (fun (qe2 : Nat) t => va_P (dC, dI) vwCl [oHC ad xHC_first xHC_second xHC_when u.2.1, oRow ad xRow_depth xRow_length xRow_people xRow_scarves xRow_main xRow_faultPlace, ar (ad 3) cA 20 gRkinds, ar (ad 4) cA 20 gRlates, ar (ad 5) cA 20 gRhands, ar (ad 6) cA 20 gRslow, oST ad u.2.2.1 u.2.2.2.1 u.2.2.2.2.1, ar (ad 10) cA 640 u.2.2.2.2.2.1, ar (ad 11) cA 20 u.2.2.2.2.2.2.1, ar (ad 12) cA 20 u.2.2.2.2.2.2.2.1, ar (ad 13) cA 20 u.2.2.2.2.2.2.2.2.1, ar (ad 14) cA 20 u.2.2.2.2.2.2.2.2.2.1, oDia ad qe2 u.2.2.2.2.2.2.2.2.2.2.1, ar qe2 cA u.2.2.2.2.2.2.2.2.2.2.2.1 u.2.2.2.2.2.2.2.2.2.2.2.2] t.heap ∧ va_K (dC, dI) vwCl [(cA, .int)] t ∧ va_D (va_A [oHC ad xHC_first xHC_second xHC_when xHC_ran, oRow ad xRow_depth xRow_length xRow_people xRow_scarves xRow_main xRow_faultPlace, ar (ad 3) cA 20 gRkinds, ar (ad 4) cA 20 gRlates, ar (ad 5) cA 20 gRhands, ar (ad 6) cA 20 gRslow, oST ad xST_sleeper xST_lastDue xST_unreached, ar (ad 10) cA 640 gSTdue, ar (ad 11) cA 20 gSTbusy, ar (ad 12) cA 20 gSTfelt, ar (ad 13) cA 20 gSTlost, ar (ad 14) cA 20 gSTfirst, oDia ad qe xDia_size, ar qe cA ne gDent] sz) [oHC ad xHC_first xHC_second xHC_when u.2.1, oRow ad xRow_depth xRow_length xRow_people xRow_scarves xRow_main xRow_faultPlace, ar (ad 3) cA 20 gRkinds, ar (ad 4) cA 20 gRlates, ar (ad 5) cA 20 gRhands, ar (ad 6) cA 20 gRslow, oST ad u.2.2.1 u.2.2.2.1 u.2.2.2.2.1, ar (ad 10) cA 640 u.2.2.2.2.2.1, ar (ad 11) cA 20 u.2.2.2.2.2.2.1, ar (ad 12) cA 20 u.2.2.2.2.2.2.2.1, ar (ad 13) cA 20 u.2.2.2.2.2.2.2.2.1, ar (ad 14) cA 20 u.2.2.2.2.2.2.2.2.2.1, oDia ad qe2 u.2.2.2.2.2.2.2.2.2.2.1, ar qe2 cA u.2.2.2.2.2.2.2.2.2.2.2.1 u.2.2.2.2.2.2.2.2.2.2.2.2]) (va_A [oHC ad xHC_first xHC_second xHC_when xHC_ran, oRow ad xRow_depth xRow_length xRow_people xRow_scarves xRow_main xRow_faultPlace, ar (ad 3) cA 20 gRkinds, ar (ad 4) cA 20 gRlates, ar (ad 5) cA 20 gRhands, ar (ad 6) cA 20 gRslow, oST ad xST_sleeper xST_lastDue xST_unreached, ar (ad 10) cA 640 gSTdue, ar (ad 11) cA 20 gSTbusy, ar (ad 12) cA 20 gSTfelt, ar (ad 13) cA 20 gSTlost, ar (ad 14) cA 20 gSTfirst, oDia ad qe xDia_size, ar qe cA ne gDent] sz)) (u.2.2.2.2.2.2.2.2.2.2.2.1 - ne) (2 * (u.2.2.2.2.2.2.2.2.2.2.2.1 - ne)) (va_A [oHC ad xHC_first xHC_second xHC_when xHC_ran, oRow ad xRow_depth xRow_length xRow_people xRow_scarves xRow_main xRow_faultPlace, ar (ad 3) cA 20 gRkinds, ar (ad 4) cA 20 gRlates, ar (ad 5) cA 20 gRhands, ar (ad 6) cA 20 gRslow, oST ad xST_sleeper xST_lastDue xST_unreached, ar (ad 10) cA 640 gSTdue, ar (ad 11) cA 20 gSTbusy, ar (ad 12) cA 20 gSTfelt, ar (ad 13) cA 20 gSTlost, ar (ad 14) cA 20 gSTfirst, oDia ad qe xDia_size, ar qe cA ne gDent] sz) := by
  refine Met.ofW (cc := cX9_lost) (maxL := 3) (ret := (some .int)) (by decide) rfl ?_
  intro p e s m args below meth c s₁ B hml hv
  obtain ⟨rfl, hsz, hP, hK, hD0⟩ := hv
  have hx := B.exec
  have hb := B.bytes
  have hr := B.returns
  have hts := atoms_spec (ws := wsX9_lost) B.pre
  have hown : s.vm.findClass RX9 = some m.cls := findClass_of_methodNamed B.named
  have hlocks := B.notSynchronized
  subst hsz
  have hD := hD0.self (sz := s.heap.size)
  generalize hAe : va_A [oHC ad xHC_first xHC_second xHC_when xHC_ran, oRow ad xRow_depth xRow_length xRow_people xRow_scarves xRow_main xRow_faultPlace, ar (ad 3) cA 20 gRkinds, ar (ad 4) cA 20 gRlates, ar (ad 5) cA 20 gRhands, ar (ad 6) cA 20 gRslow, oST ad xST_sleeper xST_lastDue xST_unreached, ar (ad 10) cA 640 gSTdue, ar (ad 11) cA 20 gSTbusy, ar (ad 12) cA 20 gSTfelt, ar (ad 13) cA 20 gSTlost, ar (ad 14) cA 20 gSTfirst, oDia ad qe xDia_size, ar qe cA ne gDent] s.heap.size = A at hD ⊢
  have hA : ∀ q : Nat, s.heap.size ≤ q → A q := fun q h => by rw [← hAe]; exact Or.inr h
  have hS : va_S A s.heap s.heap [] := va_S.rf
  have hl := lv_entry ([.ref (ad 0), .int a1, .int a2]) (n := 3) (Nat.le_of_ble_eq_true rfl)
  rw [lg_entry_eq]
  generalize (lg_sl ([.ref (ad 0), .int a1, .int a2]) ++ List.replicate (3 - (lg_sl ([.ref (ad 0), .int a1, .int a2])).length) Slot.unset).toArray = ls at hl ⊢
  have hl : lv_has ls 3 [(0, .ref (ad 0)), (1, .int a1), (2, .int a2)] := hl
  refine wk_Q (fun QQ hQ => ?_)
  unfold fC_lost at hm
  obtain ⟨hz0, hm⟩ := mz_ok hm
  have hz0 : ne ≤ u.2.2.2.2.2.2.2.2.2.2.2.1 := hz0
  refine lv_aload_n hx hb dX9_lost_0 rfl (lv_at hl 0 rfl) ?_
  refine lv_iload_n hx hb dX9_lost_1 rfl (lv_at hl 1 rfl) ?_
  have hPc := hP.sub (ws' := [oHC ad xHC_first xHC_second xHC_when xHC_ran, oRow ad xRow_depth xRow_length xRow_people xRow_scarves xRow_main xRow_faultPlace]) [0, 1] rfl
  have hDc := hD.sub (ws' := [oHC ad xHC_first xHC_second xHC_when xHC_ran, oRow ad xRow_depth xRow_length xRow_people xRow_scarves xRow_main xRow_faultPlace]) [0, 1] (by decide) rfl
  have hFc := va_free (wc := [oHC ad xHC_first xHC_second xHC_when xHC_ran, oRow ad xRow_depth xRow_length xRow_people xRow_scarves xRow_main xRow_faultPlace]) hD hS hA [0, 1] rfl
  obtain ⟨u_1, hc_1, hm⟩ := bd_ok hm
  refine va_calli (va_runV (As := [.int a1]) (rest := []) ⟨hx, hb, hml, hown, hts⟩ (kC_isPerson l dC dI cA ad s.heap.size a1 xHC_first xHC_second xHC_when xHC_ran xRow_depth xRow_length xRow_people xRow_scarves xRow_main xRow_faultPlace u_1 hc_1) (cwV 1 hts gX9_lost_X9_isPerson rfl rfl rfl (by decide +kernel) ⟨Nat.le_of_ble_eq_true rfl, Nat.le_of_ble_eq_true rfl⟩) ⟨fun a U g mk q => by obtain ⟨q0, q1, qP, qK, qD⟩ := q; exact ⟨q0, q1, qP, va_K.moved (u := U) (U := U.calling g mk a) (Vm.Alike.refl U.vm) qK, qD⟩, va_recv hK hPc (ci := 9) (q0 := 0) rfl rfl, fun U hU hW => ⟨rfl, by rw [hU], by rw [hU]; exact hPc, va_K.moved hW.alike hK, hDc.weaken (fun _ _ _ _ => trivial)⟩⟩ rfl rfl hl.1 rfl (lv_room (Nat.le_of_ble_eq_true rfl)) dX9_lost_2 ⟨by (show _ ≤ _ - _); omega, by (show _ ≤ 2 * (_ - _)); omega⟩) hS (fun q _ h => hFc q h) hFc (fun r_1 _ t H1 locs ht hvm hw hB hz1 hk1 hS => ?_)
  obtain ⟨hP1, hK1, hD1⟩ := hB
  rw [ht] at hP1
  obtain ⟨hP, hD⟩ := va_join (wr := [ar (ad 3) cA 20 gRkinds, ar (ad 4) cA 20 gRlates, ar (ad 5) cA 20 gRhands, ar (ad 6) cA 20 gRslow, oST ad xST_sleeper xST_lastDue xST_unreached, ar (ad 10) cA 640 gSTdue, ar (ad 11) cA 20 gSTbusy, ar (ad 12) cA 20 gSTfelt, ar (ad 13) cA 20 gSTlost, ar (ad 14) cA 20 gSTfirst, oDia ad qe xDia_size, ar qe cA ne gDent]) (w1 := [oHC ad xHC_first xHC_second xHC_when xHC_ran, oRow ad xRow_depth xRow_length xRow_people xRow_scarves xRow_main xRow_faultPlace]) hP hD [0, 1] [2, 3, 4, 5, 6, 7, 8, 9, 10, 11, 12, 13] rfl rfl (by decide) (by decide) hk1 hFc hP1 hD1
  clear hPc hDc hFc hP1 hK1 hD1 hk1 hz1 hvm ht
  generalize H1 = H at hP hS ⊢
  have hP : va_P (dC, dI) vwCl [oHC ad xHC_first xHC_second xHC_when xHC_ran, oRow ad xRow_depth xRow_length xRow_people xRow_scarves xRow_main xRow_faultPlace, ar (ad 3) cA 20 gRkinds, ar (ad 4) cA 20 gRlates, ar (ad 5) cA 20 gRhands, ar (ad 6) cA 20 gRslow, oST ad xST_sleeper xST_lastDue xST_unreached, ar (ad 10) cA 640 gSTdue, ar (ad 11) cA 20 gSTbusy, ar (ad 12) cA 20 gSTfelt, ar (ad 13) cA 20 gSTlost, ar (ad 14) cA 20 gSTfirst, oDia ad qe xDia_size, ar qe cA ne gDent] H := hP.sub [12, 13, 0, 1, 2, 3, 4, 5, 6, 7, 8, 9, 10, 11] rfl
  have hD : va_D A [oHC ad xHC_first xHC_second xHC_when xHC_ran, oRow ad xRow_depth xRow_length xRow_people xRow_scarves xRow_main xRow_faultPlace, ar (ad 3) cA 20 gRkinds, ar (ad 4) cA 20 gRlates, ar (ad 5) cA 20 gRhands, ar (ad 6) cA 20 gRslow, oST ad xST_sleeper xST_lastDue xST_unreached, ar (ad 10) cA 640 gSTdue, ar (ad 11) cA 20 gSTbusy, ar (ad 12) cA 20 gSTfelt, ar (ad 13) cA 20 gSTlost, ar (ad 14) cA 20 gSTfirst, oDia ad qe xDia_size, ar qe cA ne gDent] := hD.sub [12, 13, 0, 1, 2, 3, 4, 5, 6, 7, 8, 9, 10, 11] (by decide) rfl
  have hw := hw.symm
  subst hw
  refine lv_if_eq (tgt := 15) hx hb dX9_lost_5 (by decide) (fun c_2 => ?_) (fun c_2 => ?_)
  · have hm := it_pos c_2 hm
    refine lv_bipush (v := (-2)) hx hb dX9_lost_15 (by decide) ?_
    obtain rfl := Option.some.inj hm
    subst hQ
    refine W.widen (k := ne - ne) (n := 2 * (ne - ne)) (by first | exact Nat.le_refl _ | omega) (by first | exact Nat.le_refl _ | omega) ?_
    exact W.iret (v := (-2)) hx hb hr (fun t ht hW => ⟨⟨_, qe, rfl, rfl, by rw [ht]; exact hP, va_K.moved hW.alike hK, hAe ▸ hD⟩, hS.F ht⟩) hS.2.2 dX9_lost_17
  · have hm := it_neg c_2 hm
    refine lv_iload_n hx hb dX9_lost_8 rfl (lv_at hl 2 rfl) ?_
    have hPc := hP.sub (ws' := []) [] rfl
    have hDc := hD.sub (ws' := []) [] (by decide) rfl
    have hFc := va_free (wc := []) hD hS hA [] rfl
    obtain ⟨u_3, hc_3, hm⟩ := bd_ok hm
    refine va_calli (va_runS (As := [.int a2]) (rest := []) ⟨hx, hb, hml, hown, hts⟩ (kC_isTime l dC dI cA ad H.size a2 u_3 hc_3) (va_cwS 1 hts gX9_lost_X9_isTime rfl rfl rfl (by decide +kernel) ⟨Nat.le_of_ble_eq_true rfl, Nat.le_of_ble_eq_true rfl⟩) ⟨fun a U g mk q => by obtain ⟨q0, q1, qP, qK, qD⟩ := q; exact ⟨q0, q1, qP, va_K.moved (u := U) (U := U.calling g mk a) (Vm.Alike.refl U.vm) qK, qD⟩, fun U hU hW => ⟨rfl, by rw [hU], by rw [hU]; exact hPc, va_K.moved hW.alike hK, hDc.weaken (fun _ _ _ _ => trivial)⟩⟩ rfl rfl hl.1 rfl (lv_room (Nat.le_of_ble_eq_true rfl)) dX9_lost_9 ⟨by (show _ ≤ _ - _); omega, by (show _ ≤ 2 * (_ - _)); omega⟩) hS (fun q _ h => hFc q h) hFc (fun r_3 _ t H1 locs ht hvm hw hB hz1 hk1 hS => ?_)
    obtain ⟨hP1, hK1, hD1⟩ := hB
    rw [ht] at hP1
    obtain ⟨hP, hD⟩ := va_join (wr := [oHC ad xHC_first xHC_second xHC_when xHC_ran, oRow ad xRow_depth xRow_length xRow_people xRow_scarves xRow_main xRow_faultPlace, ar (ad 3) cA 20 gRkinds, ar (ad 4) cA 20 gRlates, ar (ad 5) cA 20 gRhands, ar (ad 6) cA 20 gRslow, oST ad xST_sleeper xST_lastDue xST_unreached, ar (ad 10) cA 640 gSTdue, ar (ad 11) cA 20 gSTbusy, ar (ad 12) cA 20 gSTfelt, ar (ad 13) cA 20 gSTlost, ar (ad 14) cA 20 gSTfirst, oDia ad qe xDia_size, ar qe cA ne gDent]) (w1 := []) hP hD [] [0, 1, 2, 3, 4, 5, 6, 7, 8, 9, 10, 11, 12, 13] rfl rfl (by decide) (by decide) hk1 hFc hP1 hD1
    clear hPc hDc hFc hP1 hK1 hD1 hk1 hz1 hvm ht
    generalize H1 = H at hP hS ⊢
    have hP : va_P (dC, dI) vwCl [oHC ad xHC_first xHC_second xHC_when xHC_ran, oRow ad xRow_depth xRow_length xRow_people xRow_scarves xRow_main xRow_faultPlace, ar (ad 3) cA 20 gRkinds, ar (ad 4) cA 20 gRlates, ar (ad 5) cA 20 gRhands, ar (ad 6) cA 20 gRslow, oST ad xST_sleeper xST_lastDue xST_unreached, ar (ad 10) cA 640 gSTdue, ar (ad 11) cA 20 gSTbusy, ar (ad 12) cA 20 gSTfelt, ar (ad 13) cA 20 gSTlost, ar (ad 14) cA 20 gSTfirst, oDia ad qe xDia_size, ar qe cA ne gDent] H := hP
    have hD : va_D A [oHC ad xHC_first xHC_second xHC_when xHC_ran, oRow ad xRow_depth xRow_length xRow_people xRow_scarves xRow_main xRow_faultPlace, ar (ad 3) cA 20 gRkinds, ar (ad 4) cA 20 gRlates, ar (ad 5) cA 20 gRhands, ar (ad 6) cA 20 gRslow, oST ad xST_sleeper xST_lastDue xST_unreached, ar (ad 10) cA 640 gSTdue, ar (ad 11) cA 20 gSTbusy, ar (ad 12) cA 20 gSTfelt, ar (ad 13) cA 20 gSTlost, ar (ad 14) cA 20 gSTfirst, oDia ad qe xDia_size, ar qe cA ne gDent] := hD
    have hw := hw.symm
    subst hw
    refine lv_if_ne (tgt := 18) hx hb dX9_lost_12 (by decide) (fun c_4 => ?_) (fun c_4 => ?_)
    · have hm := it_neg c_4 hm
      refine lv_aload_n hx hb dX9_lost_18 rfl (lv_at hl 0 rfl) ?_
      have hPc := hP.sub (ws' := [oHC ad xHC_first xHC_second xHC_when xHC_ran, oRow ad xRow_depth xRow_length xRow_people xRow_scarves xRow_main xRow_faultPlace, ar (ad 3) cA 20 gRkinds, ar (ad 4) cA 20 gRlates, ar (ad 5) cA 20 gRhands, ar (ad 6) cA 20 gRslow, oST ad xST_sleeper xST_lastDue xST_unreached, ar (ad 10) cA 640 gSTdue, ar (ad 11) cA 20 gSTbusy, ar (ad 12) cA 20 gSTfelt, ar (ad 13) cA 20 gSTlost, ar (ad 14) cA 20 gSTfirst, oDia ad qe xDia_size, ar qe cA ne gDent]) [0, 1, 2, 3, 4, 5, 6, 7, 8, 9, 10, 11, 12, 13] rfl
      have hDc := hD.sub (ws' := [oHC ad xHC_first xHC_second xHC_when xHC_ran, oRow ad xRow_depth xRow_length xRow_people xRow_scarves xRow_main xRow_faultPlace, ar (ad 3) cA 20 gRkinds, ar (ad 4) cA 20 gRlates, ar (ad 5) cA 20 gRhands, ar (ad 6) cA 20 gRslow, oST ad xST_sleeper xST_lastDue xST_unreached, ar (ad 10) cA 640 gSTdue, ar (ad 11) cA 20 gSTbusy, ar (ad 12) cA 20 gSTfelt, ar (ad 13) cA 20 gSTlost, ar (ad 14) cA 20 gSTfirst, oDia ad qe xDia_size, ar qe cA ne gDent]) [0, 1, 2, 3, 4, 5, 6, 7, 8, 9, 10, 11, 12, 13] (by decide) rfl
      have hFc := va_free (wc := [oHC ad xHC_first xHC_second xHC_when xHC_ran, oRow ad xRow_depth xRow_length xRow_people xRow_scarves xRow_main xRow_faultPlace, ar (ad 3) cA 20 gRkinds, ar (ad 4) cA 20 gRlates, ar (ad 5) cA 20 gRhands, ar (ad 6) cA 20 gRslow, oST ad xST_sleeper xST_lastDue xST_unreached, ar (ad 10) cA 640 gSTdue, ar (ad 11) cA 20 gSTbusy, ar (ad 12) cA 20 gSTfelt, ar (ad 13) cA 20 gSTlost, ar (ad 14) cA 20 gSTfirst, oDia ad qe xDia_size, ar qe cA ne gDent]) hD hS hA [0, 1, 2, 3, 4, 5, 6, 7, 8, 9, 10, 11, 12, 13] rfl
      obtain ⟨u_5, hc_5, hn1_5, hn2_5, hm⟩ := bm_ok hm
      have hn1_5 : ne ≤ u_5.2.2.2.2.2.2.2.2.2.2.1 := hn1_5
      have hn2_5 : u_5.2.2.2.2.2.2.2.2.2.2.1 ≤ u.2.2.2.2.2.2.2.2.2.2.2.1 := hn2_5
      refine va_callr (va_runV (As := []) (rest := []) ⟨hx, hb, hml, hown, hts⟩ (kC_asTold l dC dI cA ad qe H.size xHC_first xHC_second xHC_when xHC_ran xRow_depth xRow_length xRow_people xRow_scarves xRow_main xRow_faultPlace gRkinds gRlates gRhands gRslow xST_sleeper xST_lastDue xST_unreached gSTdue gSTbusy gSTfelt gSTlost gSTfirst xDia_size ne gDent u_5 hc_5) (cwV 0 hts gX9_lost_X9_asTold rfl rfl rfl (by decide +kernel) ⟨Nat.le_of_ble_eq_true rfl, Nat.le_of_ble_eq_true rfl⟩) ⟨fun a U g mk q => by obtain ⟨q0, q1, qP, qK, qD⟩ := q; exact ⟨q0, q1, qP, va_K.moved (u := U) (U := U.calling g mk a) (Vm.Alike.refl U.vm) qK, qD⟩, va_recv hK hPc (ci := 9) (q0 := 0) rfl rfl, fun U hU hW => ⟨rfl, by rw [hU], by rw [hU]; exact hPc, va_K.moved hW.alike hK, hDc.weaken (fun _ _ _ _ => trivial)⟩⟩ rfl rfl hl.1 rfl (lv_room (Nat.le_of_ble_eq_true rfl)) dX9_lost_19 ⟨by (show _ ≤ _ - _); omega, by (show _ ≤ 2 * (_ - _)); omega⟩) hS (fun q _ h => hFc q h) hFc (fun qe_1005 ra_5 t H1 locs ht hvm hw hB hz1 hk1 hS => ?_)
      obtain ⟨hra_5, hP1, hK1, hD1⟩ := hB
      subst hra_5
      rw [ht] at hP1
      obtain ⟨hP, hD⟩ := va_join (wr := []) (w1 := [oHC ad xHC_first xHC_second xHC_when u_5.1, oRow ad xRow_depth xRow_length xRow_people xRow_scarves xRow_main xRow_faultPlace, ar (ad 3) cA 20 gRkinds, ar (ad 4) cA 20 gRlates, ar (ad 5) cA 20 gRhands, ar (ad 6) cA 20 gRslow, oST ad u_5.2.1 u_5.2.2.1 u_5.2.2.2.1, ar (ad 10) cA 640 u_5.2.2.2.2.1, ar (ad 11) cA 20 u_5.2.2.2.2.2.1, ar (ad 12) cA 20 u_5.2.2.2.2.2.2.1, ar (ad 13) cA 20 u_5.2.2.2.2.2.2.2.1, ar (ad 14) cA 20 u_5.2.2.2.2.2.2.2.2.1, oDia ad qe_1005 u_5.2.2.2.2.2.2.2.2.2.1, ar qe_1005 cA u_5.2.2.2.2.2.2.2.2.2.2.1 u_5.2.2.2.2.2.2.2.2.2.2.2]) hP hD [0, 1, 2, 3, 4, 5, 6, 7, 8, 9, 10, 11, 12, 13] [] rfl rfl (by decide) (by decide) hk1 hFc hP1 hD1
      clear hPc hDc hFc hP1 hK1 hD1 hk1 hz1 hvm ht
      generalize H1 = H at hP hS ⊢
      have hP : va_P (dC, dI) vwCl [oHC ad xHC_first xHC_second xHC_when u_5.1, oRow ad xRow_depth xRow_length xRow_people xRow_scarves xRow_main xRow_faultPlace, ar (ad 3) cA 20 gRkinds, ar (ad 4) cA 20 gRlates, ar (ad 5) cA 20 gRhands, ar (ad 6) cA 20 gRslow, oST ad u_5.2.1 u_5.2.2.1 u_5.2.2.2.1, ar (ad 10) cA 640 u_5.2.2.2.2.1, ar (ad 11) cA 20 u_5.2.2.2.2.2.1, ar (ad 12) cA 20 u_5.2.2.2.2.2.2.1, ar (ad 13) cA 20 u_5.2.2.2.2.2.2.2.1, ar (ad 14) cA 20 u_5.2.2.2.2.2.2.2.2.1, oDia ad qe_1005 u_5.2.2.2.2.2.2.2.2.2.1, ar qe_1005 cA u_5.2.2.2.2.2.2.2.2.2.2.1 u_5.2.2.2.2.2.2.2.2.2.2.2] H := hP
      have hD : va_D A [oHC ad xHC_first xHC_second xHC_when u_5.1, oRow ad xRow_depth xRow_length xRow_people xRow_scarves xRow_main xRow_faultPlace, ar (ad 3) cA 20 gRkinds, ar (ad 4) cA 20 gRlates, ar (ad 5) cA 20 gRhands, ar (ad 6) cA 20 gRslow, oST ad u_5.2.1 u_5.2.2.1 u_5.2.2.2.1, ar (ad 10) cA 640 u_5.2.2.2.2.1, ar (ad 11) cA 20 u_5.2.2.2.2.2.1, ar (ad 12) cA 20 u_5.2.2.2.2.2.2.1, ar (ad 13) cA 20 u_5.2.2.2.2.2.2.2.1, ar (ad 14) cA 20 u_5.2.2.2.2.2.2.2.2.1, oDia ad qe_1005 u_5.2.2.2.2.2.2.2.2.2.1, ar qe_1005 cA u_5.2.2.2.2.2.2.2.2.2.2.1 u_5.2.2.2.2.2.2.2.2.2.2.2] := hD
      refine W.widen (k := u_5.2.2.2.2.2.2.2.2.2.2.1 - ne) (n := 2 * (u_5.2.2.2.2.2.2.2.2.2.2.1 - ne)) (by omega) (by omega) ?_
      refine lv_iload_n hx hb dX9_lost_22 rfl (lv_at hl 1 rfl) ?_
      refine lv_iload_n hx hb dX9_lost_23 rfl (lv_at hl 2 rfl) ?_
      have hPc := hP.sub (ws' := [oST ad u_5.2.1 u_5.2.2.1 u_5.2.2.2.1, oDia ad qe_1005 u_5.2.2.2.2.2.2.2.2.2.1, ar qe_1005 cA u_5.2.2.2.2.2.2.2.2.2.2.1 u_5.2.2.2.2.2.2.2.2.2.2.2]) [6, 12, 13] rfl
      have hDc := hD.sub (ws' := [oST ad u_5.2.1 u_5.2.2.1 u_5.2.2.2.1, oDia ad qe_1005 u_5.2.2.2.2.2.2.2.2.2.1, ar qe_1005 cA u_5.2.2.2.2.2.2.2.2.2.2.1 u_5.2.2.2.2.2.2.2.2.2.2.2]) [6, 12, 13] (by decide) rfl
      have hFc := va_free (wc := [oST ad u_5.2.1 u_5.2.2.1 u_5.2.2.2.1, oDia ad qe_1005 u_5.2.2.2.2.2.2.2.2.2.1, ar qe_1005 cA u_5.2.2.2.2.2.2.2.2.2.2.1 u_5.2.2.2.2.2.2.2.2.2.2.2]) hD hS hA [6, 12, 13] rfl
      obtain ⟨u_6, hc_6, hm⟩ := bd_ok hm
      refine va_calli (va_runV (As := [.int a1, .int a2]) (rest := []) ⟨hx, hb, hml, hown, hts⟩ (kS_lostUpTo_T l dC dI cA ad qe_1005 H.size a1 a2 u_5.2.1 u_5.2.2.1 u_5.2.2.2.1 u_5.2.2.2.2.2.2.2.2.2.1 u_5.2.2.2.2.2.2.2.2.2.2.1 u_5.2.2.2.2.2.2.2.2.2.2.2 u_6 hc_6) (cwV 2 hts gX9_lost_X8_lostUpTo rfl rfl rfl (by decide +kernel) ⟨Nat.le_of_ble_eq_true rfl, Nat.le_of_ble_eq_true rfl⟩) ⟨fun a U g mk q => by obtain ⟨q0, q1, qP, qK, qD⟩ := q; exact ⟨q0, q1, qP, va_K.moved (u := U) (U := U.calling g mk a) (Vm.Alike.refl U.vm) qK, qD⟩, va_recv hK hPc (ci := 8) (q0 := 0) rfl rfl, fun U hU hW => ⟨rfl, by rw [hU], by rw [hU]; exact hPc, va_K.moved hW.alike hK, hDc.weaken (fun _ _ _ _ => trivial)⟩⟩ rfl rfl hl.1 rfl (lv_room (Nat.le_of_ble_eq_true rfl)) dX9_lost_24 ⟨by (show _ ≤ _ - _); omega, by (show _ ≤ 2 * (_ - _)); omega⟩) hS (fun q _ h => hFc q h) hFc (fun r_6 _ t H1 locs ht hvm hw hB hz1 hk1 hS => ?_)
      obtain ⟨hP1, hK1, hD1⟩ := hB
      rw [ht] at hP1
      obtain ⟨hP, hD⟩ := va_join (wr := [oHC ad xHC_first xHC_second xHC_when u_5.1, oRow ad xRow_depth xRow_length xRow_people xRow_scarves xRow_main xRow_faultPlace, ar (ad 3) cA 20 gRkinds, ar (ad 4) cA 20 gRlates, ar (ad 5) cA 20 gRhands, ar (ad 6) cA 20 gRslow, ar (ad 10) cA 640 u_5.2.2.2.2.1, ar (ad 11) cA 20 u_5.2.2.2.2.2.1, ar (ad 12) cA 20 u_5.2.2.2.2.2.2.1, ar (ad 13) cA 20 u_5.2.2.2.2.2.2.2.1, ar (ad 14) cA 20 u_5.2.2.2.2.2.2.2.2.1]) (w1 := [oST ad u_5.2.1 u_5.2.2.1 u_5.2.2.2.1, oDia ad qe_1005 u_5.2.2.2.2.2.2.2.2.2.1, ar qe_1005 cA u_5.2.2.2.2.2.2.2.2.2.2.1 u_5.2.2.2.2.2.2.2.2.2.2.2]) hP hD [6, 12, 13] [0, 1, 2, 3, 4, 5, 7, 8, 9, 10, 11] rfl rfl (by decide) (by decide) hk1 hFc hP1 hD1
      clear hPc hDc hFc hP1 hK1 hD1 hk1 hz1 hvm ht
      generalize H1 = H at hP hS ⊢
      have hP : va_P (dC, dI) vwCl [oHC ad xHC_first xHC_second xHC_when u_5.1, oRow ad xRow_depth xRow_length xRow_people xRow_scarves xRow_main xRow_faultPlace, ar (ad 3) cA 20 gRkinds, ar (ad 4) cA 20 gRlates, ar (ad 5) cA 20 gRhands, ar (ad 6) cA 20 gRslow, oST ad u_5.2.1 u_5.2.2.1 u_5.2.2.2.1, ar (ad 10) cA 640 u_5.2.2.2.2.1, ar (ad 11) cA 20 u_5.2.2.2.2.2.1, ar (ad 12) cA 20 u_5.2.2.2.2.2.2.1, ar (ad 13) cA 20 u_5.2.2.2.2.2.2.2.1, ar (ad 14) cA 20 u_5.2.2.2.2.2.2.2.2.1, oDia ad qe_1005 u_5.2.2.2.2.2.2.2.2.2.1, ar qe_1005 cA u_5.2.2.2.2.2.2.2.2.2.2.1 u_5.2.2.2.2.2.2.2.2.2.2.2] H := hP.sub [0, 1, 2, 3, 4, 5, 11, 6, 7, 8, 9, 10, 12, 13] rfl
      have hD : va_D A [oHC ad xHC_first xHC_second xHC_when u_5.1, oRow ad xRow_depth xRow_length xRow_people xRow_scarves xRow_main xRow_faultPlace, ar (ad 3) cA 20 gRkinds, ar (ad 4) cA 20 gRlates, ar (ad 5) cA 20 gRhands, ar (ad 6) cA 20 gRslow, oST ad u_5.2.1 u_5.2.2.1 u_5.2.2.2.1, ar (ad 10) cA 640 u_5.2.2.2.2.1, ar (ad 11) cA 20 u_5.2.2.2.2.2.1, ar (ad 12) cA 20 u_5.2.2.2.2.2.2.1, ar (ad 13) cA 20 u_5.2.2.2.2.2.2.2.1, ar (ad 14) cA 20 u_5.2.2.2.2.2.2.2.2.1, oDia ad qe_1005 u_5.2.2.2.2.2.2.2.2.2.1, ar qe_1005 cA u_5.2.2.2.2.2.2.2.2.2.2.1 u_5.2.2.2.2.2.2.2.2.2.2.2] := hD.sub [0, 1, 2, 3, 4, 5, 11, 6, 7, 8, 9, 10, 12, 13] (by decide) rfl
      have hw := hw.symm
      subst hw
      obtain rfl := Option.some.inj hm
      subst hQ
      refine W.widen (k := u_5.2.2.2.2.2.2.2.2.2.2.1 - ne) (n := 2 * (u_5.2.2.2.2.2.2.2.2.2.2.1 - ne)) (by first | exact Nat.le_refl _ | omega) (by first | exact Nat.le_refl _ | omega) ?_
      exact W.iret (v := u_6) hx hb hr (fun t ht hW => ⟨⟨_, qe_1005, rfl, rfl, by rw [ht]; exact hP, va_K.moved hW.alike hK, hAe ▸ hD⟩, hS.F ht⟩) hS.2.2 dX9_lost_27
    · have hm := it_pos c_4 hm
      refine lv_bipush (v := (-2)) hx hb dX9_lost_15 (by decide) ?_
      obtain rfl := Option.some.inj hm
      subst hQ
      refine W.widen (k := ne - ne) (n := 2 * (ne - ne)) (by first | exact Nat.le_refl _ | omega) (by first | exact Nat.le_refl _ | omega) ?_
      exact W.iret (v := (-2)) hx hb hr (fun t ht hW => ⟨⟨_, qe, rfl, rfl, by rw [ht]; exact hP, va_K.moved hW.alike hK, hAe ▸ hD⟩, hS.F ht⟩) hS.2.2 dX9_lost_17

set_option maxHeartbeats 4000000 in
set_option maxRecDepth 100000 in
theorem kD_sourceOf (l : Launch) (dC : Nat → ClassId) (dI : Nat → Nat → Nat) (cA : ClassId) (ad : Nat → Nat) (sz : Nat) (a0 : Int32) (u : Int32) (hm : fD_sourceOf a0 = some u) : Met l yX1_sourceOf wsX1_sourceOf ({ frames := 0, cells := 0, slots := 0, locals := 0 }) (va_Pc [.int a0] (fun U => U.heap.size = sz ∧ va_P (dC, dI) vwCl [] U.heap ∧ va_K (dC, dI) vwCl [(cA, .int)] U ∧ va_D (fun _ => True) [])) (va_Qi (fun (r : Int32) (_ : Unit) => r = u) (fun (_ : Unit) t => va_P (dC, dI) vwCl [] t.heap ∧ va_K (dC, dI) vwCl [(cA, .int)] t ∧ va_D (va_A [] sz) []) (va_A [] sz)) 0 0 (va_A [] sz) := by
  refine Met.ofW (cc := cX1_sourceOf) (maxL := 1) (ret := (some .int)) (by decide) rfl ?_
  intro p e s m args below meth c s₁ B hml hv
  obtain ⟨rfl, hsz, hP, hK, hD0⟩ := hv
  have hx := B.exec
  have hb := B.bytes
  have hr := B.returns
  have hts := atoms_spec (ws := wsX1_sourceOf) B.pre
  have hown : s.vm.findClass RX1 = some m.cls := findClass_of_methodNamed B.named
  have hlocks := B.notSynchronized
  subst hsz
  have hD := hD0.self (sz := s.heap.size)
  generalize hAe : va_A [] s.heap.size = A at hD ⊢
  have hA : ∀ q : Nat, s.heap.size ≤ q → A q := fun q h => by rw [← hAe]; exact Or.inr h
  have hS : va_S A s.heap s.heap [] := va_S.rf
  have hl := lv_entry ([.int a0]) (n := 1) (Nat.le_of_ble_eq_true rfl)
  rw [lg_entry_eq]
  generalize (lg_sl ([.int a0]) ++ List.replicate (1 - (lg_sl ([.int a0])).length) Slot.unset).toArray = ls at hl ⊢
  have hl : lv_has ls 1 [(0, .int a0)] := hl
  refine wk_Q (fun QQ hQ => ?_)
  unfold fD_sourceOf at hm
  refine lv_iload_n hx hb dX1_sourceOf_0 rfl (lv_at hl 0 rfl) ?_
  refine lv_iconst (v := 1) hx hb dX1_sourceOf_1 (by decide) ?_
  refine lv_ishr hx hb dX1_sourceOf_2 ?_
  refine lv_bipush (v := 31) hx hb dX1_sourceOf_3 (by decide) ?_
  refine lv_iand hx hb dX1_sourceOf_5 ?_
  refine lv_iconst (v := 1) hx hb dX1_sourceOf_6 (by decide) ?_
  refine lv_isub hx hb dX1_sourceOf_7 ?_
  obtain rfl := Option.some.inj hm
  subst hQ
  exact W.iret (v := (((a0 >>> (1 &&& 31)) &&& 31) - 1)) hx hb hr (fun t ht hW => ⟨⟨_, (), rfl, rfl, by rw [ht]; exact hP, va_K.moved hW.alike hK, hAe ▸ hD⟩, hS.F ht⟩) hS.2.2 dX1_sourceOf_8

set_option maxHeartbeats 4000000 in
set_option maxRecDepth 100000 in
theorem kS_sourceOfFelt_T (l : Launch) (dC : Nat → ClassId) (dI : Nat → Nat → Nat) (cA : ClassId) (ad : Nat → Nat) (qe : Nat) (sz : Nat) (a1 : Int32) (a2 : Int32) (xST_sleeper : Int32) (xST_lastDue : Int32) (xST_unreached : Int32) (xDia_size : Int32) (ne : Nat) (gDent : Nat → Int32) (u : Int32) (hm : fS_sourceOfFelt_T a1 a2 xDia_size ne gDent = some u) : Met l yX8_sourceOfFelt wsX8_sourceOfFelt ({ frames := 2, cells := 0, slots := 0, locals := 46 }) (va_Pc [.ref (ad 9), .int a1, .int a2] (fun U => U.heap.size = sz ∧ va_P (dC, dI) vwCl [oST ad xST_sleeper xST_lastDue xST_unreached, oDia ad qe xDia_size, ar qe cA ne gDent] U.heap ∧ va_K (dC, dI) vwCl [(cA, .int)] U ∧ va_D (fun _ => True) [oST ad xST_sleeper xST_lastDue xST_unreached, oDia ad qe xDia_size, ar qe cA ne gDent])) (va_Qi (fun (r : Int32) (_ : Unit) => r = u) (fun (_ : Unit) t => va_P (dC, dI) vwCl [oST ad xST_sleeper xST_lastDue xST_unreached, oDia ad qe xDia_size, ar qe cA ne gDent] t.heap ∧ va_K (dC, dI) vwCl [(cA, .int)] t ∧ va_D (va_A [oST ad xST_sleeper xST_lastDue xST_unreached, oDia ad qe xDia_size, ar qe cA ne gDent] sz) [oST ad xST_sleeper xST_lastDue xST_unreached, oDia ad qe xDia_size, ar qe cA ne gDent]) (va_A [oST ad xST_sleeper xST_lastDue xST_unreached, oDia ad qe xDia_size, ar qe cA ne gDent] sz)) 0 0 (va_A [oST ad xST_sleeper xST_lastDue xST_unreached, oDia ad qe xDia_size, ar qe cA ne gDent] sz) := by
  refine Met.ofW (cc := cX8_sourceOfFelt) (maxL := 4) (ret := (some .int)) (by decide) rfl ?_
  intro p e s m args below meth c s₁ B hml hv
  obtain ⟨rfl, hsz, hP, hK, hD0⟩ := hv
  have hx := B.exec
  have hb := B.bytes
  have hr := B.returns
  have hts := atoms_spec (ws := wsX8_sourceOfFelt) B.pre
  have hown : s.vm.findClass RX8 = some m.cls := findClass_of_methodNamed B.named
  have hlocks := B.notSynchronized
  subst hsz
  have hD := hD0.self (sz := s.heap.size)
  generalize hAe : va_A [oST ad xST_sleeper xST_lastDue xST_unreached, oDia ad qe xDia_size, ar qe cA ne gDent] s.heap.size = A at hD ⊢
  have hA : ∀ q : Nat, s.heap.size ≤ q → A q := fun q h => by rw [← hAe]; exact Or.inr h
  have hS : va_S A s.heap s.heap [] := va_S.rf
  have hl := lv_entry ([.ref (ad 9), .int a1, .int a2]) (n := 4) (Nat.le_of_ble_eq_true rfl)
  rw [lg_entry_eq]
  generalize (lg_sl ([.ref (ad 9), .int a1, .int a2]) ++ List.replicate (4 - (lg_sl ([.ref (ad 9), .int a1, .int a2])).length) Slot.unset).toArray = ls at hl ⊢
  have hl : lv_has ls 4 [(0, .ref (ad 9)), (1, .int a1), (2, .int a2)] := hl
  refine wk_Q (fun QQ hQ => ?_)
  have hinX8 : ∀ w ∈ wsX80, w ∈ wsX8_sourceOfFelt := fun w h => List.mem_cons_of_mem _ (inlX8 w h)
  have hl_15 := hts (.fieldLink RX8 15 "HandCensus$Squeeze" "diary" "LHandCensus$Diary;") (List.mem_cons_of_mem _ (in_r4 _ (List.mem_of_getElem? (i := 3) rfl)))
  unfold fS_sourceOfFelt_T at hm
  refine lv_aload_n hx hb dX8_sourceOfFelt_0 rfl (lv_at hl 0 rfl) ?_
  refine va_get (D := (dC, dI)) (ci := 8) (v := .ref (ad 15)) (C := RX8) (T := TX8) (N := 10) hx hb hts hinX8 hown hK hP 0 rfl rfl 1 (by decide) hl_15 (fun _ h9 => h9) rfl dX8_sourceOfFelt_1 ?_
  refine lv_ifnonnull (tgt := 11) hx hb dX8_sourceOfFelt_4 (by decide) ?_
  refine lv_aload_n hx hb dX8_sourceOfFelt_11 rfl (lv_at hl 0 rfl) ?_
  refine va_get (D := (dC, dI)) (ci := 8) (v := .ref (ad 15)) (C := RX8) (T := TX8) (N := 10) hx hb hts hinX8 hown hK hP 0 rfl rfl 1 (by decide) hl_15 (fun _ h9 => h9) rfl dX8_sourceOfFelt_12 ?_
  refine lv_iload_n hx hb dX8_sourceOfFelt_15 rfl (lv_at hl 1 rfl) ?_
  refine lv_iload_n hx hb dX8_sourceOfFelt_16 rfl (lv_at hl 2 rfl) ?_
  have hPc := hP.sub (ws' := [oDia ad qe xDia_size, ar qe cA ne gDent]) [1, 2] rfl
  have hDc := hD.sub (ws' := [oDia ad qe xDia_size, ar qe cA ne gDent]) [1, 2] (by decide) rfl
  have hFc := va_free (wc := [oDia ad qe xDia_size, ar qe cA ne gDent]) hD hS hA [1, 2] rfl
  obtain ⟨u_1, hc_1, hm⟩ := bd_ok hm
  refine va_calli (va_runV (As := [.int a1, .int a2]) (rest := []) ⟨hx, hb, hml, hown, hts⟩ (kD_findFelt l dC dI cA ad qe s.heap.size a1 a2 xDia_size ne gDent u_1 hc_1) (cwV 2 hts gX8_sourceOfFelt_X1_findFelt rfl rfl rfl (by decide +kernel) ⟨Nat.le_of_ble_eq_true rfl, Nat.le_of_ble_eq_true rfl⟩) ⟨fun a U g mk q => by obtain ⟨q0, q1, qP, qK, qD⟩ := q; exact ⟨q0, q1, qP, va_K.moved (u := U) (U := U.calling g mk a) (Vm.Alike.refl U.vm) qK, qD⟩, va_recv hK hPc (ci := 1) (q0 := 0) rfl rfl, fun U hU hW => ⟨rfl, by rw [hU], by rw [hU]; exact hPc, va_K.moved hW.alike hK, hDc.weaken (fun _ _ _ _ => trivial)⟩⟩ rfl rfl hl.1 rfl (lv_room (Nat.le_of_ble_eq_true rfl)) dX8_sourceOfFelt_17 ⟨Nat.le_of_ble_eq_true rfl, Nat.le_of_ble_eq_true rfl⟩) hS (fun q _ h => hFc q h) hFc (fun r_1 _ t H1 locs ht hvm hw hB hz1 hk1 hS => ?_)
  obtain ⟨hP1, hK1, hD1⟩ := hB
  rw [ht] at hP1
  obtain ⟨hP, hD⟩ := va_join (wr := [oST ad xST_sleeper xST_lastDue xST_unreached]) (w1 := [oDia ad qe xDia_size, ar qe cA ne gDent]) hP hD [1, 2] [0] rfl rfl (by decide) (by decide) hk1 hFc hP1 hD1
  clear hPc hDc hFc hP1 hK1 hD1 hk1 hz1 hvm ht
  generalize H1 = H at hP hS ⊢
  have hP : va_P (dC, dI) vwCl [oST ad xST_sleeper xST_lastDue xST_unreached, oDia ad qe xDia_size, ar qe cA ne gDent] H := hP
  have hD : va_D A [oST ad xST_sleeper xST_lastDue xST_unreached, oDia ad qe xDia_size, ar qe cA ne gDent] := hD
  have hw := hw.symm
  subst hw
  refine lv_istore_n (lv' := [(3, .int u_1), (0, .ref (ad 9)), (1, .int a1), (2, .int a2)]) hx hb dX8_sourceOfFelt_20 rfl hl (by decide) rfl (fun ls hl => ?_)
  refine lv_iload_n hx hb dX8_sourceOfFelt_21 rfl (lv_at hl 0 rfl) ?_
  refine lv_iconst (v := (-1)) hx hb dX8_sourceOfFelt_22 (by decide) ?_
  refine lv_icmp_ne (tgt := 30) hx hb dX8_sourceOfFelt_23 (by decide) (fun c_2 => ?_) (fun c_2 => ?_)
  · have hm := it_neg c_2 hm
    refine lv_iload_n hx hb dX8_sourceOfFelt_30 rfl (lv_at hl 0 rfl) ?_
    have hPc := hP.sub (ws' := []) [] rfl
    have hDc := hD.sub (ws' := []) [] (by decide) rfl
    have hFc := va_free (wc := []) hD hS hA [] rfl
    obtain ⟨u_3, hc_3, hm⟩ := bd_ok hm
    refine va_calli (va_runS (As := [.int u_1]) (rest := []) ⟨hx, hb, hml, hown, hts⟩ (kD_sourceOf l dC dI cA ad H.size u_1 u_3 hc_3) (va_cwS 1 hts gX8_sourceOfFelt_X1_sourceOf rfl rfl rfl (by decide +kernel) ⟨Nat.le_of_ble_eq_true rfl, Nat.le_of_ble_eq_true rfl⟩) ⟨fun a U g mk q => by obtain ⟨q0, q1, qP, qK, qD⟩ := q; exact ⟨q0, q1, qP, va_K.moved (u := U) (U := U.calling g mk a) (Vm.Alike.refl U.vm) qK, qD⟩, fun U hU hW => ⟨rfl, by rw [hU], by rw [hU]; exact hPc, va_K.moved hW.alike hK, hDc.weaken (fun _ _ _ _ => trivial)⟩⟩ rfl rfl hl.1 rfl (lv_room (Nat.le_of_ble_eq_true rfl)) dX8_sourceOfFelt_31 ⟨Nat.le_of_ble_eq_true rfl, Nat.le_of_ble_eq_true rfl⟩) hS (fun q _ h => hFc q h) hFc (fun r_3 _ t H1 locs ht hvm hw hB hz1 hk1 hS => ?_)
    obtain ⟨hP1, hK1, hD1⟩ := hB
    rw [ht] at hP1
    obtain ⟨hP, hD⟩ := va_join (wr := [oST ad xST_sleeper xST_lastDue xST_unreached, oDia ad qe xDia_size, ar qe cA ne gDent]) (w1 := []) hP hD [] [0, 1, 2] rfl rfl (by decide) (by decide) hk1 hFc hP1 hD1
    clear hPc hDc hFc hP1 hK1 hD1 hk1 hz1 hvm ht
    generalize H1 = H at hP hS ⊢
    have hP : va_P (dC, dI) vwCl [oST ad xST_sleeper xST_lastDue xST_unreached, oDia ad qe xDia_size, ar qe cA ne gDent] H := hP
    have hD : va_D A [oST ad xST_sleeper xST_lastDue xST_unreached, oDia ad qe xDia_size, ar qe cA ne gDent] := hD
    have hw := hw.symm
    subst hw
    obtain rfl := Option.some.inj hm
    subst hQ
    exact W.iret (v := u_3) hx hb hr (fun t ht hW => ⟨⟨_, (), rfl, rfl, by rw [ht]; exact hP, va_K.moved hW.alike hK, hAe ▸ hD⟩, hS.F ht⟩) hS.2.2 dX8_sourceOfFelt_34
  · have hm := it_pos c_2 hm
    refine lv_iconst (v := (-1)) hx hb dX8_sourceOfFelt_26 (by decide) ?_
    refine lv_goto (tgt := 34) hx hb dX8_sourceOfFelt_27 (by decide) ?_
    obtain rfl := Option.some.inj hm
    subst hQ
    exact W.iret (v := (-1)) hx hb hr (fun t ht hW => ⟨⟨_, (), rfl, rfl, by rw [ht]; exact hP, va_K.moved hW.alike hK, hAe ▸ hD⟩, hS.F ht⟩) hS.2.2 dX8_sourceOfFelt_34

set_option maxHeartbeats 4000000 in
set_option maxRecDepth 100000 in
theorem kC_from (l : Launch) (dC : Nat → ClassId) (dI : Nat → Nat → Nat) (cA : ClassId) (ad : Nat → Nat) (qe : Nat) (sz : Nat) (a1 : Int32) (a2 : Int32) (xHC_first : Int32) (xHC_second : Int32) (xHC_when : Int32) (xHC_ran : Int32) (xRow_depth : Int32) (xRow_length : Int32) (xRow_people : Int32) (xRow_scarves : Int32) (xRow_main : Int32) (xRow_faultPlace : Int32) (gRkinds : Nat → Int32) (gRlates : Nat → Int32) (gRhands : Nat → Int32) (gRslow : Nat → Int32) (xST_sleeper : Int32) (xST_lastDue : Int32) (xST_unreached : Int32) (gSTdue : Nat → Int32) (gSTbusy : Nat → Int32) (gSTfelt : Nat → Int32) (gSTlost : Nat → Int32) (gSTfirst : Nat → Int32) (xDia_size : Int32) (ne : Nat) (gDent : Nat → Int32) (u : Int32 × Int32 × Int32 × Int32 × Int32 × (Nat → Int32) × (Nat → Int32) × (Nat → Int32) × (Nat → Int32) × (Nat → Int32) × Int32 × Nat × (Nat → Int32)) (hm : fC_from a1 a2 xHC_first xHC_second xHC_when xHC_ran xRow_people gRkinds gRlates gRhands gRslow xST_sleeper xST_lastDue xST_unreached gSTdue gSTbusy gSTfelt gSTlost gSTfirst xDia_size ne gDent = some u) : Met l yX9_from wsX9_from ({ frames := 5, cells := (u.2.2.2.2.2.2.2.2.2.2.2.1 - ne), slots := (2 * (u.2.2.2.2.2.2.2.2.2.2.2.1 - ne)), locals := 123 }) (va_Pc [.ref (ad 0), .int a1, .int a2] (fun U => U.heap.size = sz ∧ va_P (dC, dI) vwCl [oHC ad xHC_first xHC_second xHC_when xHC_ran, oRow ad xRow_depth xRow_length xRow_people xRow_scarves xRow_main xRow_faultPlace, ar (ad 3) cA 20 gRkinds, ar (ad 4) cA 20 gRlates, ar (ad 5) cA 20 gRhands, ar (ad 6) cA 20 gRslow, oST ad xST_sleeper xST_lastDue xST_unreached, ar (ad 10) cA 640 gSTdue, ar (ad 11) cA 20 gSTbusy, ar (ad 12) cA 20 gSTfelt, ar (ad 13) cA 20 gSTlost, ar (ad 14) cA 20 gSTfirst, oDia ad qe xDia_size, ar qe cA ne gDent] U.heap ∧ va_K (dC, dI) vwCl [(cA, .int)] U ∧ va_D (fun _ => True) [oHC ad xHC_first xHC_second xHC_when xHC_ran, oRow ad xRow_depth xRow_length xRow_people xRow_scarves xRow_main xRow_faultPlace, ar (ad 3) cA 20 gRkinds, ar (ad 4) cA 20 gRlates, ar (ad 5) cA 20 gRhands, ar (ad 6) cA 20 gRslow, oST ad xST_sleeper xST_lastDue xST_unreached, ar (ad 10) cA 640 gSTdue, ar (ad 11) cA 20 gSTbusy, ar (ad 12) cA 20 gSTfelt, ar (ad 13) cA 20 gSTlost, ar (ad 14) cA 20 gSTfirst, oDia ad qe xDia_size, ar qe cA ne gDent])) (va_Qi (fun (r : Int32) (_ : Nat) => r = u.1) (fun (qe2 : Nat) t => va_P (dC, dI) vwCl [oHC ad xHC_first xHC_second xHC_when u.2.1, oRow ad xRow_depth xRow_length xRow_people xRow_scarves xRow_main xRow_faultPlace, ar (ad 3) cA 20 gRkinds, ar (ad 4) cA 20 gRlates, ar (ad 5) cA 20 gRhands, ar (ad 6) cA 20 gRslow, oST ad u.2.2.1 u.2.2.2.1 u.2.2.2.2.1, ar (ad 10) cA 640 u.2.2.2.2.2.1, ar (ad 11) cA 20 u.2.2.2.2.2.2.1, ar (ad 12) cA 20 u.2.2.2.2.2.2.2.1, ar (ad 13) cA 20 u.2.2.2.2.2.2.2.2.1, ar (ad 14) cA 20 u.2.2.2.2.2.2.2.2.2.1, oDia ad qe2 u.2.2.2.2.2.2.2.2.2.2.1, ar qe2 cA u.2.2.2.2.2.2.2.2.2.2.2.1 u.2.2.2.2.2.2.2.2.2.2.2.2] t.heap ∧ va_K (dC, dI) vwCl [(cA, .int)] t ∧ va_D (va_A [oHC ad xHC_first xHC_second xHC_when xHC_ran, oRow ad xRow_depth xRow_length xRow_people xRow_scarves xRow_main xRow_faultPlace, ar (ad 3) cA 20 gRkinds, ar (ad 4) cA 20 gRlates, ar (ad 5) cA 20 gRhands, ar (ad 6) cA 20 gRslow, oST ad xST_sleeper xST_lastDue xST_unreached, ar (ad 10) cA 640 gSTdue, ar (ad 11) cA 20 gSTbusy, ar (ad 12) cA 20 gSTfelt, ar (ad 13) cA 20 gSTlost, ar (ad 14) cA 20 gSTfirst, oDia ad qe xDia_size, ar qe cA ne gDent] sz) [oHC ad xHC_first xHC_second xHC_when u.2.1, oRow ad xRow_depth xRow_length xRow_people xRow_scarves xRow_main xRow_faultPlace, ar (ad 3) cA 20 gRkinds, ar (ad 4) cA 20 gRlates, ar (ad 5) cA 20 gRhands, ar (ad 6) cA 20 gRslow, oST ad u.2.2.1 u.2.2.2.1 u.2.2.2.2.1, ar (ad 10) cA 640 u.2.2.2.2.2.1, ar (ad 11) cA 20 u.2.2.2.2.2.2.1, ar (ad 12) cA 20 u.2.2.2.2.2.2.2.1, ar (ad 13) cA 20 u.2.2.2.2.2.2.2.2.1, ar (ad 14) cA 20 u.2.2.2.2.2.2.2.2.2.1, oDia ad qe2 u.2.2.2.2.2.2.2.2.2.2.1, ar qe2 cA u.2.2.2.2.2.2.2.2.2.2.2.1 u.2.2.2.2.2.2.2.2.2.2.2.2]) (va_A [oHC ad xHC_first xHC_second xHC_when xHC_ran, oRow ad xRow_depth xRow_length xRow_people xRow_scarves xRow_main xRow_faultPlace, ar (ad 3) cA 20 gRkinds, ar (ad 4) cA 20 gRlates, ar (ad 5) cA 20 gRhands, ar (ad 6) cA 20 gRslow, oST ad xST_sleeper xST_lastDue xST_unreached, ar (ad 10) cA 640 gSTdue, ar (ad 11) cA 20 gSTbusy, ar (ad 12) cA 20 gSTfelt, ar (ad 13) cA 20 gSTlost, ar (ad 14) cA 20 gSTfirst, oDia ad qe xDia_size, ar qe cA ne gDent] sz)) (u.2.2.2.2.2.2.2.2.2.2.2.1 - ne) (2 * (u.2.2.2.2.2.2.2.2.2.2.2.1 - ne)) (va_A [oHC ad xHC_first xHC_second xHC_when xHC_ran, oRow ad xRow_depth xRow_length xRow_people xRow_scarves xRow_main xRow_faultPlace, ar (ad 3) cA 20 gRkinds, ar (ad 4) cA 20 gRlates, ar (ad 5) cA 20 gRhands, ar (ad 6) cA 20 gRslow, oST ad xST_sleeper xST_lastDue xST_unreached, ar (ad 10) cA 640 gSTdue, ar (ad 11) cA 20 gSTbusy, ar (ad 12) cA 20 gSTfelt, ar (ad 13) cA 20 gSTlost, ar (ad 14) cA 20 gSTfirst, oDia ad qe xDia_size, ar qe cA ne gDent] sz) := by
  refine Met.ofW (cc := cX9_from) (maxL := 3) (ret := (some .int)) (by decide) rfl ?_
  intro p e s m args below meth c s₁ B hml hv
  obtain ⟨rfl, hsz, hP, hK, hD0⟩ := hv
  have hx := B.exec
  have hb := B.bytes
  have hr := B.returns
  have hts := atoms_spec (ws := wsX9_from) B.pre
  have hown : s.vm.findClass RX9 = some m.cls := findClass_of_methodNamed B.named
  have hlocks := B.notSynchronized
  subst hsz
  have hD := hD0.self (sz := s.heap.size)
  generalize hAe : va_A [oHC ad xHC_first xHC_second xHC_when xHC_ran, oRow ad xRow_depth xRow_length xRow_people xRow_scarves xRow_main xRow_faultPlace, ar (ad 3) cA 20 gRkinds, ar (ad 4) cA 20 gRlates, ar (ad 5) cA 20 gRhands, ar (ad 6) cA 20 gRslow, oST ad xST_sleeper xST_lastDue xST_unreached, ar (ad 10) cA 640 gSTdue, ar (ad 11) cA 20 gSTbusy, ar (ad 12) cA 20 gSTfelt, ar (ad 13) cA 20 gSTlost, ar (ad 14) cA 20 gSTfirst, oDia ad qe xDia_size, ar qe cA ne gDent] s.heap.size = A at hD ⊢
  have hA : ∀ q : Nat, s.heap.size ≤ q → A q := fun q h => by rw [← hAe]; exact Or.inr h
  have hS : va_S A s.heap s.heap [] := va_S.rf
  have hl := lv_entry ([.ref (ad 0), .int a1, .int a2]) (n := 3) (Nat.le_of_ble_eq_true rfl)
  rw [lg_entry_eq]
  generalize (lg_sl ([.ref (ad 0), .int a1, .int a2]) ++ List.replicate (3 - (lg_sl ([.ref (ad 0), .int a1, .int a2])).length) Slot.unset).toArray = ls at hl ⊢
  have hl : lv_has ls 3 [(0, .ref (ad 0)), (1, .int a1), (2, .int a2)] := hl
  refine wk_Q (fun QQ hQ => ?_)
  unfold fC_from at hm
  obtain ⟨hz0, hm⟩ := mz_ok hm
  have hz0 : ne ≤ u.2.2.2.2.2.2.2.2.2.2.2.1 := hz0
  refine lv_aload_n hx hb dX9_from_0 rfl (lv_at hl 0 rfl) ?_
  refine lv_iload_n hx hb dX9_from_1 rfl (lv_at hl 1 rfl) ?_
  have hPc := hP.sub (ws' := [oHC ad xHC_first xHC_second xHC_when xHC_ran, oRow ad xRow_depth xRow_length xRow_people xRow_scarves xRow_main xRow_faultPlace]) [0, 1] rfl
  have hDc := hD.sub (ws' := [oHC ad xHC_first xHC_second xHC_when xHC_ran, oRow ad xRow_depth xRow_length xRow_people xRow_scarves xRow_main xRow_faultPlace]) [0, 1] (by decide) rfl
  have hFc := va_free (wc := [oHC ad xHC_first xHC_second xHC_when xHC_ran, oRow ad xRow_depth xRow_length xRow_people xRow_scarves xRow_main xRow_faultPlace]) hD hS hA [0, 1] rfl
  obtain ⟨u_1, hc_1, hm⟩ := bd_ok hm
  refine va_calli (va_runV (As := [.int a1]) (rest := []) ⟨hx, hb, hml, hown, hts⟩ (kC_isPerson l dC dI cA ad s.heap.size a1 xHC_first xHC_second xHC_when xHC_ran xRow_depth xRow_length xRow_people xRow_scarves xRow_main xRow_faultPlace u_1 hc_1) (cwV 1 hts gX9_from_X9_isPerson rfl rfl rfl (by decide +kernel) ⟨Nat.le_of_ble_eq_true rfl, Nat.le_of_ble_eq_true rfl⟩) ⟨fun a U g mk q => by obtain ⟨q0, q1, qP, qK, qD⟩ := q; exact ⟨q0, q1, qP, va_K.moved (u := U) (U := U.calling g mk a) (Vm.Alike.refl U.vm) qK, qD⟩, va_recv hK hPc (ci := 9) (q0 := 0) rfl rfl, fun U hU hW => ⟨rfl, by rw [hU], by rw [hU]; exact hPc, va_K.moved hW.alike hK, hDc.weaken (fun _ _ _ _ => trivial)⟩⟩ rfl rfl hl.1 rfl (lv_room (Nat.le_of_ble_eq_true rfl)) dX9_from_2 ⟨by (show _ ≤ _ - _); omega, by (show _ ≤ 2 * (_ - _)); omega⟩) hS (fun q _ h => hFc q h) hFc (fun r_1 _ t H1 locs ht hvm hw hB hz1 hk1 hS => ?_)
  obtain ⟨hP1, hK1, hD1⟩ := hB
  rw [ht] at hP1
  obtain ⟨hP, hD⟩ := va_join (wr := [ar (ad 3) cA 20 gRkinds, ar (ad 4) cA 20 gRlates, ar (ad 5) cA 20 gRhands, ar (ad 6) cA 20 gRslow, oST ad xST_sleeper xST_lastDue xST_unreached, ar (ad 10) cA 640 gSTdue, ar (ad 11) cA 20 gSTbusy, ar (ad 12) cA 20 gSTfelt, ar (ad 13) cA 20 gSTlost, ar (ad 14) cA 20 gSTfirst, oDia ad qe xDia_size, ar qe cA ne gDent]) (w1 := [oHC ad xHC_first xHC_second xHC_when xHC_ran, oRow ad xRow_depth xRow_length xRow_people xRow_scarves xRow_main xRow_faultPlace]) hP hD [0, 1] [2, 3, 4, 5, 6, 7, 8, 9, 10, 11, 12, 13] rfl rfl (by decide) (by decide) hk1 hFc hP1 hD1
  clear hPc hDc hFc hP1 hK1 hD1 hk1 hz1 hvm ht
  generalize H1 = H at hP hS ⊢
  have hP : va_P (dC, dI) vwCl [oHC ad xHC_first xHC_second xHC_when xHC_ran, oRow ad xRow_depth xRow_length xRow_people xRow_scarves xRow_main xRow_faultPlace, ar (ad 3) cA 20 gRkinds, ar (ad 4) cA 20 gRlates, ar (ad 5) cA 20 gRhands, ar (ad 6) cA 20 gRslow, oST ad xST_sleeper xST_lastDue xST_unreached, ar (ad 10) cA 640 gSTdue, ar (ad 11) cA 20 gSTbusy, ar (ad 12) cA 20 gSTfelt, ar (ad 13) cA 20 gSTlost, ar (ad 14) cA 20 gSTfirst, oDia ad qe xDia_size, ar qe cA ne gDent] H := hP.sub [12, 13, 0, 1, 2, 3, 4, 5, 6, 7, 8, 9, 10, 11] rfl
  have hD : va_D A [oHC ad xHC_first xHC_second xHC_when xHC_ran, oRow ad xRow_depth xRow_length xRow_people xRow_scarves xRow_main xRow_faultPlace, ar (ad 3) cA 20 gRkinds, ar (ad 4) cA 20 gRlates, ar (ad 5) cA 20 gRhands, ar (ad 6) cA 20 gRslow, oST ad xST_sleeper xST_lastDue xST_unreached, ar (ad 10) cA 640 gSTdue, ar (ad 11) cA 20 gSTbusy, ar (ad 12) cA 20 gSTfelt, ar (ad 13) cA 20 gSTlost, ar (ad 14) cA 20 gSTfirst, oDia ad qe xDia_size, ar qe cA ne gDent] := hD.sub [12, 13, 0, 1, 2, 3, 4, 5, 6, 7, 8, 9, 10, 11] (by decide) rfl
  have hw := hw.symm
  subst hw
  refine lv_if_eq (tgt := 12) hx hb dX9_from_5 (by decide) (fun c_2 => ?_) (fun c_2 => ?_)
  · have hm := it_pos c_2 hm
    refine lv_bipush (v := (-2)) hx hb dX9_from_12 (by decide) ?_
    obtain rfl := Option.some.inj hm
    subst hQ
    refine W.widen (k := ne - ne) (n := 2 * (ne - ne)) (by first | exact Nat.le_refl _ | omega) (by first | exact Nat.le_refl _ | omega) ?_
    exact W.iret (v := (-2)) hx hb hr (fun t ht hW => ⟨⟨_, qe, rfl, rfl, by rw [ht]; exact hP, va_K.moved hW.alike hK, hAe ▸ hD⟩, hS.F ht⟩) hS.2.2 dX9_from_14
  · have hm := it_neg c_2 hm
    refine lv_iload_n hx hb dX9_from_8 rfl (lv_at hl 2 rfl) ?_
    refine lv_if_ge (tgt := 15) hx hb dX9_from_9 (by decide) (fun c_3 => ?_) (fun c_3 => ?_)
    · have hm := it_pos c_3 hm
      refine lv_aload_n hx hb dX9_from_15 rfl (lv_at hl 0 rfl) ?_
      have hPc := hP.sub (ws' := [oHC ad xHC_first xHC_second xHC_when xHC_ran, oRow ad xRow_depth xRow_length xRow_people xRow_scarves xRow_main xRow_faultPlace, ar (ad 3) cA 20 gRkinds, ar (ad 4) cA 20 gRlates, ar (ad 5) cA 20 gRhands, ar (ad 6) cA 20 gRslow, oST ad xST_sleeper xST_lastDue xST_unreached, ar (ad 10) cA 640 gSTdue, ar (ad 11) cA 20 gSTbusy, ar (ad 12) cA 20 gSTfelt, ar (ad 13) cA 20 gSTlost, ar (ad 14) cA 20 gSTfirst, oDia ad qe xDia_size, ar qe cA ne gDent]) [0, 1, 2, 3, 4, 5, 6, 7, 8, 9, 10, 11, 12, 13] rfl
      have hDc := hD.sub (ws' := [oHC ad xHC_first xHC_second xHC_when xHC_ran, oRow ad xRow_depth xRow_length xRow_people xRow_scarves xRow_main xRow_faultPlace, ar (ad 3) cA 20 gRkinds, ar (ad 4) cA 20 gRlates, ar (ad 5) cA 20 gRhands, ar (ad 6) cA 20 gRslow, oST ad xST_sleeper xST_lastDue xST_unreached, ar (ad 10) cA 640 gSTdue, ar (ad 11) cA 20 gSTbusy, ar (ad 12) cA 20 gSTfelt, ar (ad 13) cA 20 gSTlost, ar (ad 14) cA 20 gSTfirst, oDia ad qe xDia_size, ar qe cA ne gDent]) [0, 1, 2, 3, 4, 5, 6, 7, 8, 9, 10, 11, 12, 13] (by decide) rfl
      have hFc := va_free (wc := [oHC ad xHC_first xHC_second xHC_when xHC_ran, oRow ad xRow_depth xRow_length xRow_people xRow_scarves xRow_main xRow_faultPlace, ar (ad 3) cA 20 gRkinds, ar (ad 4) cA 20 gRlates, ar (ad 5) cA 20 gRhands, ar (ad 6) cA 20 gRslow, oST ad xST_sleeper xST_lastDue xST_unreached, ar (ad 10) cA 640 gSTdue, ar (ad 11) cA 20 gSTbusy, ar (ad 12) cA 20 gSTfelt, ar (ad 13) cA 20 gSTlost, ar (ad 14) cA 20 gSTfirst, oDia ad qe xDia_size, ar qe cA ne gDent]) hD hS hA [0, 1, 2, 3, 4, 5, 6, 7, 8, 9, 10, 11, 12, 13] rfl
      obtain ⟨u_4, hc_4, hn1_4, hn2_4, hm⟩ := bm_ok hm
      have hn1_4 : ne ≤ u_4.2.2.2.2.2.2.2.2.2.2.1 := hn1_4
      have hn2_4 : u_4.2.2.2.2.2.2.2.2.2.2.1 ≤ u.2.2.2.2.2.2.2.2.2.2.2.1 := hn2_4
      refine va_callr (va_runV (As := []) (rest := []) ⟨hx, hb, hml, hown, hts⟩ (kC_asTold l dC dI cA ad qe H.size xHC_first xHC_second xHC_when xHC_ran xRow_depth xRow_length xRow_people xRow_scarves xRow_main xRow_faultPlace gRkinds gRlates gRhands gRslow xST_sleeper xST_lastDue xST_unreached gSTdue gSTbusy gSTfelt gSTlost gSTfirst xDia_size ne gDent u_4 hc_4) (cwV 0 hts gX9_from_X9_asTold rfl rfl rfl (by decide +kernel) ⟨Nat.le_of_ble_eq_true rfl, Nat.le_of_ble_eq_true rfl⟩) ⟨fun a U g mk q => by obtain ⟨q0, q1, qP, qK, qD⟩ := q; exact ⟨q0, q1, qP, va_K.moved (u := U) (U := U.calling g mk a) (Vm.Alike.refl U.vm) qK, qD⟩, va_recv hK hPc (ci := 9) (q0 := 0) rfl rfl, fun U hU hW => ⟨rfl, by rw [hU], by rw [hU]; exact hPc, va_K.moved hW.alike hK, hDc.weaken (fun _ _ _ _ => trivial)⟩⟩ rfl rfl hl.1 rfl (lv_room (Nat.le_of_ble_eq_true rfl)) dX9_from_16 ⟨by (show _ ≤ _ - _); omega, by (show _ ≤ 2 * (_ - _)); omega⟩) hS (fun q _ h => hFc q h) hFc (fun qe_1004 ra_4 t H1 locs ht hvm hw hB hz1 hk1 hS => ?_)
      obtain ⟨hra_4, hP1, hK1, hD1⟩ := hB
      subst hra_4
      rw [ht] at hP1
      obtain ⟨hP, hD⟩ := va_join (wr := []) (w1 := [oHC ad xHC_first xHC_second xHC_when u_4.1, oRow ad xRow_depth xRow_length xRow_people xRow_scarves xRow_main xRow_faultPlace, ar (ad 3) cA 20 gRkinds, ar (ad 4) cA 20 gRlates, ar (ad 5) cA 20 gRhands, ar (ad 6) cA 20 gRslow, oST ad u_4.2.1 u_4.2.2.1 u_4.2.2.2.1, ar (ad 10) cA 640 u_4.2.2.2.2.1, ar (ad 11) cA 20 u_4.2.2.2.2.2.1, ar (ad 12) cA 20 u_4.2.2.2.2.2.2.1, ar (ad 13) cA 20 u_4.2.2.2.2.2.2.2.1, ar (ad 14) cA 20 u_4.2.2.2.2.2.2.2.2.1, oDia ad qe_1004 u_4.2.2.2.2.2.2.2.2.2.1, ar qe_1004 cA u_4.2.2.2.2.2.2.2.2.2.2.1 u_4.2.2.2.2.2.2.2.2.2.2.2]) hP hD [0, 1, 2, 3, 4, 5, 6, 7, 8, 9, 10, 11, 12, 13] [] rfl rfl (by decide) (by decide) hk1 hFc hP1 hD1
      clear hPc hDc hFc hP1 hK1 hD1 hk1 hz1 hvm ht
      generalize H1 = H at hP hS ⊢
      have hP : va_P (dC, dI) vwCl [oHC ad xHC_first xHC_second xHC_when u_4.1, oRow ad xRow_depth xRow_length xRow_people xRow_scarves xRow_main xRow_faultPlace, ar (ad 3) cA 20 gRkinds, ar (ad 4) cA 20 gRlates, ar (ad 5) cA 20 gRhands, ar (ad 6) cA 20 gRslow, oST ad u_4.2.1 u_4.2.2.1 u_4.2.2.2.1, ar (ad 10) cA 640 u_4.2.2.2.2.1, ar (ad 11) cA 20 u_4.2.2.2.2.2.1, ar (ad 12) cA 20 u_4.2.2.2.2.2.2.1, ar (ad 13) cA 20 u_4.2.2.2.2.2.2.2.1, ar (ad 14) cA 20 u_4.2.2.2.2.2.2.2.2.1, oDia ad qe_1004 u_4.2.2.2.2.2.2.2.2.2.1, ar qe_1004 cA u_4.2.2.2.2.2.2.2.2.2.2.1 u_4.2.2.2.2.2.2.2.2.2.2.2] H := hP
      have hD : va_D A [oHC ad xHC_first xHC_second xHC_when u_4.1, oRow ad xRow_depth xRow_length xRow_people xRow_scarves xRow_main xRow_faultPlace, ar (ad 3) cA 20 gRkinds, ar (ad 4) cA 20 gRlates, ar (ad 5) cA 20 gRhands, ar (ad 6) cA 20 gRslow, oST ad u_4.2.1 u_4.2.2.1 u_4.2.2.2.1, ar (ad 10) cA 640 u_4.2.2.2.2.1, ar (ad 11) cA 20 u_4.2.2.2.2.2.1, ar (ad 12) cA 20 u_4.2.2.2.2.2.2.1, ar (ad 13) cA 20 u_4.2.2.2.2.2.2.2.1, ar (ad 14) cA 20 u_4.2.2.2.2.2.2.2.2.1, oDia ad qe_1004 u_4.2.2.2.2.2.2.2.2.2.1, ar qe_1004 cA u_4.2.2.2.2.2.2.2.2.2.2.1 u_4.2.2.2.2.2.2.2.2.2.2.2] := hD
      refine W.widen (k := u_4.2.2.2.2.2.2.2.2.2.2.1 - ne) (n := 2 * (u_4.2.2.2.2.2.2.2.2.2.2.1 - ne)) (by omega) (by omega) ?_
      refine lv_iload_n hx hb dX9_from_19 rfl (lv_at hl 1 rfl) ?_
      refine lv_iload_n hx hb dX9_from_20 rfl (lv_at hl 2 rfl) ?_
      have hPc := hP.sub (ws' := [oST ad u_4.2.1 u_4.2.2.1 u_4.2.2.2.1, oDia ad qe_1004 u_4.2.2.2.2.2.2.2.2.2.1, ar qe_1004 cA u_4.2.2.2.2.2.2.2.2.2.2.1 u_4.2.2.2.2.2.2.2.2.2.2.2]) [6, 12, 13] rfl
      have hDc := hD.sub (ws' := [oST ad u_4.2.1 u_4.2.2.1 u_4.2.2.2.1, oDia ad qe_1004 u_4.2.2.2.2.2.2.2.2.2.1, ar qe_1004 cA u_4.2.2.2.2.2.2.2.2.2.2.1 u_4.2.2.2.2.2.2.2.2.2.2.2]) [6, 12, 13] (by decide) rfl
      have hFc := va_free (wc := [oST ad u_4.2.1 u_4.2.2.1 u_4.2.2.2.1, oDia ad qe_1004 u_4.2.2.2.2.2.2.2.2.2.1, ar qe_1004 cA u_4.2.2.2.2.2.2.2.2.2.2.1 u_4.2.2.2.2.2.2.2.2.2.2.2]) hD hS hA [6, 12, 13] rfl
      obtain ⟨u_5, hc_5, hm⟩ := bd_ok hm
      refine va_calli (va_runV (As := [.int a1, .int a2]) (rest := []) ⟨hx, hb, hml, hown, hts⟩ (kS_sourceOfFelt_T l dC dI cA ad qe_1004 H.size a1 a2 u_4.2.1 u_4.2.2.1 u_4.2.2.2.1 u_4.2.2.2.2.2.2.2.2.2.1 u_4.2.2.2.2.2.2.2.2.2.2.1 u_4.2.2.2.2.2.2.2.2.2.2.2 u_5 hc_5) (cwV 2 hts gX9_from_X8_sourceOfFelt rfl rfl rfl (by decide +kernel) ⟨Nat.le_of_ble_eq_true rfl, Nat.le_of_ble_eq_true rfl⟩) ⟨fun a U g mk q => by obtain ⟨q0, q1, qP, qK, qD⟩ := q; exact ⟨q0, q1, qP, va_K.moved (u := U) (U := U.calling g mk a) (Vm.Alike.refl U.vm) qK, qD⟩, va_recv hK hPc (ci := 8) (q0 := 0) rfl rfl, fun U hU hW => ⟨rfl, by rw [hU], by rw [hU]; exact hPc, va_K.moved hW.alike hK, hDc.weaken (fun _ _ _ _ => trivial)⟩⟩ rfl rfl hl.1 rfl (lv_room (Nat.le_of_ble_eq_true rfl)) dX9_from_21 ⟨by (show _ ≤ _ - _); omega, by (show _ ≤ 2 * (_ - _)); omega⟩) hS (fun q _ h => hFc q h) hFc (fun r_5 _ t H1 locs ht hvm hw hB hz1 hk1 hS => ?_)
      obtain ⟨hP1, hK1, hD1⟩ := hB
      rw [ht] at hP1
      obtain ⟨hP, hD⟩ := va_join (wr := [oHC ad xHC_first xHC_second xHC_when u_4.1, oRow ad xRow_depth xRow_length xRow_people xRow_scarves xRow_main xRow_faultPlace, ar (ad 3) cA 20 gRkinds, ar (ad 4) cA 20 gRlates, ar (ad 5) cA 20 gRhands, ar (ad 6) cA 20 gRslow, ar (ad 10) cA 640 u_4.2.2.2.2.1, ar (ad 11) cA 20 u_4.2.2.2.2.2.1, ar (ad 12) cA 20 u_4.2.2.2.2.2.2.1, ar (ad 13) cA 20 u_4.2.2.2.2.2.2.2.1, ar (ad 14) cA 20 u_4.2.2.2.2.2.2.2.2.1]) (w1 := [oST ad u_4.2.1 u_4.2.2.1 u_4.2.2.2.1, oDia ad qe_1004 u_4.2.2.2.2.2.2.2.2.2.1, ar qe_1004 cA u_4.2.2.2.2.2.2.2.2.2.2.1 u_4.2.2.2.2.2.2.2.2.2.2.2]) hP hD [6, 12, 13] [0, 1, 2, 3, 4, 5, 7, 8, 9, 10, 11] rfl rfl (by decide) (by decide) hk1 hFc hP1 hD1
      clear hPc hDc hFc hP1 hK1 hD1 hk1 hz1 hvm ht
      generalize H1 = H at hP hS ⊢
      have hP : va_P (dC, dI) vwCl [oHC ad xHC_first xHC_second xHC_when u_4.1, oRow ad xRow_depth xRow_length xRow_people xRow_scarves xRow_main xRow_faultPlace, ar (ad 3) cA 20 gRkinds, ar (ad 4) cA 20 gRlates, ar (ad 5) cA 20 gRhands, ar (ad 6) cA 20 gRslow, oST ad u_4.2.1 u_4.2.2.1 u_4.2.2.2.1, ar (ad 10) cA 640 u_4.2.2.2.2.1, ar (ad 11) cA 20 u_4.2.2.2.2.2.1, ar (ad 12) cA 20 u_4.2.2.2.2.2.2.1, ar (ad 13) cA 20 u_4.2.2.2.2.2.2.2.1, ar (ad 14) cA 20 u_4.2.2.2.2.2.2.2.2.1, oDia ad qe_1004 u_4.2.2.2.2.2.2.2.2.2.1, ar qe_1004 cA u_4.2.2.2.2.2.2.2.2.2.2.1 u_4.2.2.2.2.2.2.2.2.2.2.2] H := hP.sub [0, 1, 2, 3, 4, 5, 11, 6, 7, 8, 9, 10, 12, 13] rfl
      have hD : va_D A [oHC ad xHC_first xHC_second xHC_when u_4.1, oRow ad xRow_depth xRow_length xRow_people xRow_scarves xRow_main xRow_faultPlace, ar (ad 3) cA 20 gRkinds, ar (ad 4) cA 20 gRlates, ar (ad 5) cA 20 gRhands, ar (ad 6) cA 20 gRslow, oST ad u_4.2.1 u_4.2.2.1 u_4.2.2.2.1, ar (ad 10) cA 640 u_4.2.2.2.2.1, ar (ad 11) cA 20 u_4.2.2.2.2.2.1, ar (ad 12) cA 20 u_4.2.2.2.2.2.2.1, ar (ad 13) cA 20 u_4.2.2.2.2.2.2.2.1, ar (ad 14) cA 20 u_4.2.2.2.2.2.2.2.2.1, oDia ad qe_1004 u_4.2.2.2.2.2.2.2.2.2.1, ar qe_1004 cA u_4.2.2.2.2.2.2.2.2.2.2.1 u_4.2.2.2.2.2.2.2.2.2.2.2] := hD.sub [0, 1, 2, 3, 4, 5, 11, 6, 7, 8, 9, 10, 12, 13] (by decide) rfl
      have hw := hw.symm
      subst hw
      obtain rfl := Option.some.inj hm
      subst hQ
      refine W.widen (k := u_4.2.2.2.2.2.2.2.2.2.2.1 - ne) (n := 2 * (u_4.2.2.2.2.2.2.2.2.2.2.1 - ne)) (by first | exact Nat.le_refl _ | omega) (by first | exact Nat.le_refl _ | omega) ?_
      exact W.iret (v := u_5) hx hb hr (fun t ht hW => ⟨⟨_, qe_1004, rfl, rfl, by rw [ht]; exact hP, va_K.moved hW.alike hK, hAe ▸ hD⟩, hS.F ht⟩) hS.2.2 dX9_from_24
    · have hm := it_neg c_3 hm
      refine lv_bipush (v := (-2)) hx hb dX9_from_12 (by decide) ?_
      obtain rfl := Option.some.inj hm
      subst hQ
      refine W.widen (k := ne - ne) (n := 2 * (ne - ne)) (by first | exact Nat.le_refl _ | omega) (by first | exact Nat.le_refl _ | omega) ?_
      exact W.iret (v := (-2)) hx hb hr (fun t ht hW => ⟨⟨_, qe, rfl, rfl, by rw [ht]; exact hP, va_K.moved hW.alike hK, hAe ▸ hD⟩, hS.F ht⟩) hS.2.2 dX9_from_14

set_option maxHeartbeats 4000000 in
set_option maxRecDepth 100000 in
theorem kS_feltAtLeast_T (l : Launch) (dC : Nat → ClassId) (dI : Nat → Nat → Nat) (cA : ClassId) (ad : Nat → Nat) (sz : Nat) (a1 : Int32) (xRow_depth : Int32) (xRow_length : Int32) (xRow_people : Int32) (xRow_scarves : Int32) (xRow_main : Int32) (xRow_faultPlace : Int32) (xST_sleeper : Int32) (xST_lastDue : Int32) (xST_unreached : Int32) (gSTfelt : Nat → Int32) (u : Int32) (hm : fS_feltAtLeast_T a1 xRow_people gSTfelt = some u) : Met l yX8_feltAtLeast wsX8_feltAtLeast ({ frames := 0, cells := 0, slots := 0, locals := 0 }) (va_Pc [.ref (ad 9), .int a1] (fun U => U.heap.size = sz ∧ va_P (dC, dI) vwCl [oRow ad xRow_depth xRow_length xRow_people xRow_scarves xRow_main xRow_faultPlace, oST ad xST_sleeper xST_lastDue xST_unreached, ar (ad 12) cA 20 gSTfelt] U.heap ∧ va_K (dC, dI) vwCl [(cA, .int)] U ∧ va_D (fun _ => True) [oRow ad xRow_depth xRow_length xRow_people xRow_scarves xRow_main xRow_faultPlace, oST ad xST_sleeper xST_lastDue xST_unreached, ar (ad 12) cA 20 gSTfelt])) (va_Qi (fun (r : Int32) (_ : Unit) => r = u) (fun (_ : Unit) t => va_P (dC, dI) vwCl [oRow ad xRow_depth xRow_length xRow_people xRow_scarves xRow_main xRow_faultPlace, oST ad xST_sleeper xST_lastDue xST_unreached, ar (ad 12) cA 20 gSTfelt] t.heap ∧ va_K (dC, dI) vwCl [(cA, .int)] t ∧ va_D (va_A [oRow ad xRow_depth xRow_length xRow_people xRow_scarves xRow_main xRow_faultPlace, oST ad xST_sleeper xST_lastDue xST_unreached, ar (ad 12) cA 20 gSTfelt] sz) [oRow ad xRow_depth xRow_length xRow_people xRow_scarves xRow_main xRow_faultPlace, oST ad xST_sleeper xST_lastDue xST_unreached, ar (ad 12) cA 20 gSTfelt]) (va_A [oRow ad xRow_depth xRow_length xRow_people xRow_scarves xRow_main xRow_faultPlace, oST ad xST_sleeper xST_lastDue xST_unreached, ar (ad 12) cA 20 gSTfelt] sz)) 0 0 (va_A [oRow ad xRow_depth xRow_length xRow_people xRow_scarves xRow_main xRow_faultPlace, oST ad xST_sleeper xST_lastDue xST_unreached, ar (ad 12) cA 20 gSTfelt] sz) := by
  refine Met.ofW (cc := cX8_feltAtLeast) (maxL := 4) (ret := (some .int)) (by decide) rfl ?_
  intro p e s m args below meth c s₁ B hml hv
  obtain ⟨rfl, hsz, hP, hK, hD0⟩ := hv
  have hx := B.exec
  have hb := B.bytes
  have hr := B.returns
  have hts := atoms_spec (ws := wsX8_feltAtLeast) B.pre
  have hown : s.vm.findClass RX8 = some m.cls := findClass_of_methodNamed B.named
  have hlocks := B.notSynchronized
  subst hsz
  have hD := hD0.self (sz := s.heap.size)
  generalize hAe : va_A [oRow ad xRow_depth xRow_length xRow_people xRow_scarves xRow_main xRow_faultPlace, oST ad xST_sleeper xST_lastDue xST_unreached, ar (ad 12) cA 20 gSTfelt] s.heap.size = A at hD ⊢
  have hA : ∀ q : Nat, s.heap.size ≤ q → A q := fun q h => by rw [← hAe]; exact Or.inr h
  have hS : va_S A s.heap s.heap [] := va_S.rf
  have hl := lv_entry ([.ref (ad 9), .int a1]) (n := 4) (Nat.le_of_ble_eq_true rfl)
  rw [lg_entry_eq]
  generalize (lg_sl ([.ref (ad 9), .int a1]) ++ List.replicate (4 - (lg_sl ([.ref (ad 9), .int a1])).length) Slot.unset).toArray = ls at hl ⊢
  have hl : lv_has ls 4 [(0, .ref (ad 9)), (1, .int a1)] := hl
  refine wk_Q (fun QQ hQ => ?_)
  have hinX8 : ∀ w ∈ wsX80, w ∈ wsX8_feltAtLeast := fun w h => List.mem_cons_of_mem _ (inlX8 w h)
  have hl_9 := hts (.fieldLink RX8 9 "HandCensus$Squeeze" "row" "LHandCensus$Row;") (List.mem_cons_of_mem _ (in_r4 _ (List.mem_of_getElem? (i := 2) rfl)))
  have hinX5 : ∀ w ∈ wsX50, w ∈ wsX8_feltAtLeast := fun w h => List.mem_cons_of_mem _ (inlX5 w h)
  have hl_42 := hts (.fieldLink RX8 42 "HandCensus$Row" "people" "I") (List.mem_cons_of_mem _ (in_r14 _ (List.mem_of_getElem? (i := 19) rfl)))
  have hl_26 := hts (.fieldLink RX8 26 "HandCensus$Squeeze" "feltMany" "[I") (List.mem_cons_of_mem _ (in_r4 _ (List.mem_of_getElem? (i := 6) rfl)))
  have h_4 : ∀ (v1_4 : Int32), ∀ (n_4 : Nat), ∀ (v2_4 : Int32) (v3_4 : Int32), fS_feltAtLeast_T_4 v1_4 xRow_people gSTfelt n_4 v2_4 v3_4 = some u → ∀ (H : Heap) (locs : List Loc), va_P (dC, dI) vwCl [oRow ad xRow_depth xRow_length xRow_people xRow_scarves xRow_main xRow_faultPlace, oST ad xST_sleeper xST_lastDue xST_unreached, ar (ad 12) cA 20 gSTfelt] H → va_D A [oRow ad xRow_depth xRow_length xRow_people xRow_scarves xRow_main xRow_faultPlace, oST ad xST_sleeper xST_lastDue xST_unreached, ar (ad 12) cA 20 gSTfelt] → va_S A s.heap H locs → ∀ ls : Array Slot, lv_has ls 4 [(0, .ref (ad 9)), (1, .int v1_4), (2, .int v2_4), (3, .int v3_4)] → W p l e (headSpec wsX8_feltAtLeast ({ frames := 0, cells := 0, slots := 0, locals := 0 })).room s m ([.ref (ad 9), .int a1] : List Value).toArray below meth c H locs 0 0 QQ (F0 m 4 ls []) := by
    intro v1_4
    intro n_4
    induction n_4 with
    | zero => intro v2_4 v3_4 hm; have hm : (none : Option (Int32)) = some u := hm; cases hm
    | succ n_4 ih_4 =>
      have b_31 : ∀ (v2_31 : Int32) (v3_31 : Int32), fS_feltAtLeast_T_31 (fS_feltAtLeast_T_4  v1_4 xRow_people gSTfelt n_4) v1_4 v2_31 v3_31 xRow_people gSTfelt = some u → ∀ (H : Heap) (locs : List Loc), va_P (dC, dI) vwCl [oRow ad xRow_depth xRow_length xRow_people xRow_scarves xRow_main xRow_faultPlace, oST ad xST_sleeper xST_lastDue xST_unreached, ar (ad 12) cA 20 gSTfelt] H → va_D A [oRow ad xRow_depth xRow_length xRow_people xRow_scarves xRow_main xRow_faultPlace, oST ad xST_sleeper xST_lastDue xST_unreached, ar (ad 12) cA 20 gSTfelt] → va_S A s.heap H locs → ∀ ls : Array Slot, lv_has ls 4 [(0, .ref (ad 9)), (1, .int v1_4), (2, .int v2_31), (3, .int v3_31)] → W p l e (headSpec wsX8_feltAtLeast ({ frames := 0, cells := 0, slots := 0, locals := 0 })).room s m ([.ref (ad 9), .int a1] : List Value).toArray below meth c H locs 0 0 QQ (F0 m 31 ls []) := by
        intro v2_31 v3_31 hm H locs hP hD hS ls hl
        unfold fS_feltAtLeast_T_31 at hm
        refine lv_iinc (v := (v3_31 + 1)) (lv' := [(3, .int (v3_31 + 1)), (0, .ref (ad 9)), (1, .int v1_4), (2, .int v2_31)]) hx hb dX8_feltAtLeast_31 hl (k := 3) rfl rfl (by decide) rfl (fun ls hl => ?_)
        refine lv_goto (tgt := 4) hx hb dX8_feltAtLeast_34 (by decide) ?_
        exact ih_4 _ _ hm _ _ hP hD hS _ (lv_sub hl [1, 2, 3, 0] rfl)
      intro v2_4 v3_4 hm H locs hP hD hS ls hl
      have hm : fS_feltAtLeast_T_4_b  (fS_feltAtLeast_T_4  v1_4 xRow_people gSTfelt n_4) v1_4 xRow_people gSTfelt v2_4 v3_4 = some u := hm
      unfold fS_feltAtLeast_T_4_b at hm
      refine lv_iload_n hx hb dX8_feltAtLeast_4 rfl (lv_at hl 3 rfl) ?_
      refine lv_aload_n hx hb dX8_feltAtLeast_5 rfl (lv_at hl 0 rfl) ?_
      refine va_get (D := (dC, dI)) (ci := 8) (v := .ref (ad 1)) (C := RX8) (T := TX8) (N := 10) hx hb hts hinX8 hown hK hP 1 rfl rfl 0 (by decide) hl_9 (fun _ h9 => h9) rfl dX8_feltAtLeast_6 ?_
      refine va_get (D := (dC, dI)) (ci := 5) (v := .int xRow_people) (C := RX5) (T := TX5) (N := 13) hx hb hts hinX5 hown hK hP 0 rfl rfl 9 (by decide) hl_42 (fun _ h9 => h9) rfl dX8_feltAtLeast_9 ?_
      refine lv_icmp_ge (tgt := 37) hx hb dX8_feltAtLeast_12 (by decide) (fun c_1 => ?_) (fun c_1 => ?_)
      · have hm := it_pos c_1 hm
        refine lv_iload_n hx hb dX8_feltAtLeast_37 rfl (lv_at hl 2 rfl) ?_
        obtain rfl := Option.some.inj hm
        subst hQ
        exact W.iret (v := v2_4) hx hb hr (fun t ht hW => ⟨⟨_, (), rfl, rfl, by rw [ht]; exact hP, va_K.moved hW.alike hK, hAe ▸ hD⟩, hS.F ht⟩) hS.2.2 dX8_feltAtLeast_38
      · have hm := it_neg c_1 hm
        refine lv_aload_n hx hb dX8_feltAtLeast_15 rfl (lv_at hl 0 rfl) ?_
        refine va_get (D := (dC, dI)) (ci := 8) (v := .ref (ad 12)) (C := RX8) (T := TX8) (N := 10) hx hb hts hinX8 hown hK hP 1 rfl rfl 4 (by decide) hl_26 (fun _ h9 => h9) rfl dX8_feltAtLeast_16 ?_
        refine lv_iload_n hx hb dX8_feltAtLeast_19 rfl (lv_at hl 3 rfl) ?_
        obtain ⟨i_2, hm⟩ := ck_ok hm
        refine va_iald hx hb hK hP 2 0 rfl rfl i_2 dX8_feltAtLeast_20 ?_
        refine lv_iload_n hx hb dX8_feltAtLeast_21 rfl (lv_at hl 1 rfl) ?_
        refine lv_icmp_lt (tgt := 31) hx hb dX8_feltAtLeast_22 (by decide) (fun c_3 => ?_) (fun c_3 => ?_)
        · have hm := it_pos c_3 hm
          exact b_31 _ _ hm _ _ hP hD hS _ (lv_sub hl [0, 1, 2, 3] rfl)
        · have hm := it_neg c_3 hm
          refine lv_iload_n hx hb dX8_feltAtLeast_25 rfl (lv_at hl 2 rfl) ?_
          refine lv_iconst (v := 1) hx hb dX8_feltAtLeast_26 (by decide) ?_
          refine lv_iload_n hx hb dX8_feltAtLeast_27 rfl (lv_at hl 3 rfl) ?_
          refine lv_ishl hx hb dX8_feltAtLeast_28 ?_
          refine lv_ior hx hb dX8_feltAtLeast_29 ?_
          refine lv_istore_n (lv' := [(2, .int (v2_4 ||| (1 <<< (v3_4 &&& 31)))), (0, .ref (ad 9)), (1, .int v1_4), (3, .int v3_4)]) hx hb dX8_feltAtLeast_30 rfl hl (by decide) rfl (fun ls hl => ?_)
          exact b_31 _ _ hm _ _ hP hD hS _ (lv_sub hl [1, 2, 0, 3] rfl)
  unfold fS_feltAtLeast_T at hm
  refine lv_iconst (v := 0) hx hb dX8_feltAtLeast_0 (by decide) ?_
  refine lv_istore_n (lv' := [(2, .int 0), (0, .ref (ad 9)), (1, .int a1)]) hx hb dX8_feltAtLeast_1 rfl hl (by decide) rfl (fun ls hl => ?_)
  refine lv_iconst (v := 0) hx hb dX8_feltAtLeast_2 (by decide) ?_
  refine lv_istore_n (lv' := [(3, .int 0), (2, .int 0), (0, .ref (ad 9)), (1, .int a1)]) hx hb dX8_feltAtLeast_3 rfl hl (by decide) rfl (fun ls hl => ?_)
  exact h_4 _ _ _ _ hm _ _ hP hD hS _ (lv_sub hl [2, 3, 1, 0] rfl)

set_option maxHeartbeats 4000000 in
set_option maxRecDepth 100000 in
theorem kS_reachedBits_T (l : Launch) (dC : Nat → ClassId) (dI : Nat → Nat → Nat) (cA : ClassId) (ad : Nat → Nat) (sz : Nat) (xRow_depth : Int32) (xRow_length : Int32) (xRow_people : Int32) (xRow_scarves : Int32) (xRow_main : Int32) (xRow_faultPlace : Int32) (xST_sleeper : Int32) (xST_lastDue : Int32) (xST_unreached : Int32) (gSTfelt : Nat → Int32) (u : Int32) (hm : fS_reachedBits_T xRow_people gSTfelt = some u) : Met l yX8_reachedBits wsX8_reachedBits ({ frames := 1, cells := 0, slots := 0, locals := 23 }) (va_Pc [.ref (ad 9)] (fun U => U.heap.size = sz ∧ va_P (dC, dI) vwCl [oRow ad xRow_depth xRow_length xRow_people xRow_scarves xRow_main xRow_faultPlace, oST ad xST_sleeper xST_lastDue xST_unreached, ar (ad 12) cA 20 gSTfelt] U.heap ∧ va_K (dC, dI) vwCl [(cA, .int)] U ∧ va_D (fun _ => True) [oRow ad xRow_depth xRow_length xRow_people xRow_scarves xRow_main xRow_faultPlace, oST ad xST_sleeper xST_lastDue xST_unreached, ar (ad 12) cA 20 gSTfelt])) (va_Qi (fun (r : Int32) (_ : Unit) => r = u) (fun (_ : Unit) t => va_P (dC, dI) vwCl [oRow ad xRow_depth xRow_length xRow_people xRow_scarves xRow_main xRow_faultPlace, oST ad xST_sleeper xST_lastDue xST_unreached, ar (ad 12) cA 20 gSTfelt] t.heap ∧ va_K (dC, dI) vwCl [(cA, .int)] t ∧ va_D (va_A [oRow ad xRow_depth xRow_length xRow_people xRow_scarves xRow_main xRow_faultPlace, oST ad xST_sleeper xST_lastDue xST_unreached, ar (ad 12) cA 20 gSTfelt] sz) [oRow ad xRow_depth xRow_length xRow_people xRow_scarves xRow_main xRow_faultPlace, oST ad xST_sleeper xST_lastDue xST_unreached, ar (ad 12) cA 20 gSTfelt]) (va_A [oRow ad xRow_depth xRow_length xRow_people xRow_scarves xRow_main xRow_faultPlace, oST ad xST_sleeper xST_lastDue xST_unreached, ar (ad 12) cA 20 gSTfelt] sz)) 0 0 (va_A [oRow ad xRow_depth xRow_length xRow_people xRow_scarves xRow_main xRow_faultPlace, oST ad xST_sleeper xST_lastDue xST_unreached, ar (ad 12) cA 20 gSTfelt] sz) := by
  refine Met.ofW (cc := cX8_reachedBits) (maxL := 1) (ret := (some .int)) (by decide) rfl ?_
  intro p e s m args below meth c s₁ B hml hv
  obtain ⟨rfl, hsz, hP, hK, hD0⟩ := hv
  have hx := B.exec
  have hb := B.bytes
  have hr := B.returns
  have hts := atoms_spec (ws := wsX8_reachedBits) B.pre
  have hown : s.vm.findClass RX8 = some m.cls := findClass_of_methodNamed B.named
  have hlocks := B.notSynchronized
  subst hsz
  have hD := hD0.self (sz := s.heap.size)
  generalize hAe : va_A [oRow ad xRow_depth xRow_length xRow_people xRow_scarves xRow_main xRow_faultPlace, oST ad xST_sleeper xST_lastDue xST_unreached, ar (ad 12) cA 20 gSTfelt] s.heap.size = A at hD ⊢
  have hA : ∀ q : Nat, s.heap.size ≤ q → A q := fun q h => by rw [← hAe]; exact Or.inr h
  have hS : va_S A s.heap s.heap [] := va_S.rf
  have hl := lv_entry ([.ref (ad 9)]) (n := 1) (Nat.le_of_ble_eq_true rfl)
  rw [lg_entry_eq]
  generalize (lg_sl ([.ref (ad 9)]) ++ List.replicate (1 - (lg_sl ([.ref (ad 9)])).length) Slot.unset).toArray = ls at hl ⊢
  have hl : lv_has ls 1 [(0, .ref (ad 9))] := hl
  refine wk_Q (fun QQ hQ => ?_)
  unfold fS_reachedBits_T at hm
  refine lv_aload_n hx hb dX8_reachedBits_0 rfl (lv_at hl 0 rfl) ?_
  refine lv_iconst (v := 1) hx hb dX8_reachedBits_1 (by decide) ?_
  have hPc := hP.sub (ws' := [oRow ad xRow_depth xRow_length xRow_people xRow_scarves xRow_main xRow_faultPlace, oST ad xST_sleeper xST_lastDue xST_unreached, ar (ad 12) cA 20 gSTfelt]) [0, 1, 2] rfl
  have hDc := hD.sub (ws' := [oRow ad xRow_depth xRow_length xRow_people xRow_scarves xRow_main xRow_faultPlace, oST ad xST_sleeper xST_lastDue xST_unreached, ar (ad 12) cA 20 gSTfelt]) [0, 1, 2] (by decide) rfl
  have hFc := va_free (wc := [oRow ad xRow_depth xRow_length xRow_people xRow_scarves xRow_main xRow_faultPlace, oST ad xST_sleeper xST_lastDue xST_unreached, ar (ad 12) cA 20 gSTfelt]) hD hS hA [0, 1, 2] rfl
  obtain ⟨u_1, hc_1, hm⟩ := bd_ok hm
  refine va_calli (va_runV (As := [.int 1]) (rest := []) ⟨hx, hb, hml, hown, hts⟩ (kS_feltAtLeast_T l dC dI cA ad s.heap.size 1 xRow_depth xRow_length xRow_people xRow_scarves xRow_main xRow_faultPlace xST_sleeper xST_lastDue xST_unreached gSTfelt u_1 hc_1) (cwV 1 hts gX8_reachedBits_X8_feltAtLeast rfl rfl rfl (by decide +kernel) ⟨Nat.le_of_ble_eq_true rfl, Nat.le_of_ble_eq_true rfl⟩) ⟨fun a U g mk q => by obtain ⟨q0, q1, qP, qK, qD⟩ := q; exact ⟨q0, q1, qP, va_K.moved (u := U) (U := U.calling g mk a) (Vm.Alike.refl U.vm) qK, qD⟩, va_recv hK hPc (ci := 8) (q0 := 1) rfl rfl, fun U hU hW => ⟨rfl, by rw [hU], by rw [hU]; exact hPc, va_K.moved hW.alike hK, hDc.weaken (fun _ _ _ _ => trivial)⟩⟩ rfl rfl hl.1 rfl (lv_room (Nat.le_of_ble_eq_true rfl)) dX8_reachedBits_2 ⟨Nat.le_of_ble_eq_true rfl, Nat.le_of_ble_eq_true rfl⟩) hS (fun q _ h => hFc q h) hFc (fun r_1 _ t H1 locs ht hvm hw hB hz1 hk1 hS => ?_)
  obtain ⟨hP1, hK1, hD1⟩ := hB
  rw [ht] at hP1
  obtain ⟨hP, hD⟩ := va_join (wr := []) (w1 := [oRow ad xRow_depth xRow_length xRow_people xRow_scarves xRow_main xRow_faultPlace, oST ad xST_sleeper xST_lastDue xST_unreached, ar (ad 12) cA 20 gSTfelt]) hP hD [0, 1, 2] [] rfl rfl (by decide) (by decide) hk1 hFc hP1 hD1
  clear hPc hDc hFc hP1 hK1 hD1 hk1 hz1 hvm ht
  generalize H1 = H at hP hS ⊢
  have hP : va_P (dC, dI) vwCl [oRow ad xRow_depth xRow_length xRow_people xRow_scarves xRow_main xRow_faultPlace, oST ad xST_sleeper xST_lastDue xST_unreached, ar (ad 12) cA 20 gSTfelt] H := hP
  have hD : va_D A [oRow ad xRow_depth xRow_length xRow_people xRow_scarves xRow_main xRow_faultPlace, oST ad xST_sleeper xST_lastDue xST_unreached, ar (ad 12) cA 20 gSTfelt] := hD
  have hw := hw.symm
  subst hw
  obtain rfl := Option.some.inj hm
  subst hQ
  exact W.iret (v := u_1) hx hb hr (fun t ht hW => ⟨⟨_, (), rfl, rfl, by rw [ht]; exact hP, va_K.moved hW.alike hK, hAe ▸ hD⟩, hS.F ht⟩) hS.2.2 dX8_reachedBits_5

set_option maxHeartbeats 4000000 in
set_option maxRecDepth 100000 in
theorem kC_reached (l : Launch) (dC : Nat → ClassId) (dI : Nat → Nat → Nat) (cA : ClassId) (ad : Nat → Nat) (qe : Nat) (sz : Nat) (xHC_first : Int32) (xHC_second : Int32) (xHC_when : Int32) (xHC_ran : Int32) (xRow_depth : Int32) (xRow_length : Int32) (xRow_people : Int32) (xRow_scarves : Int32) (xRow_main : Int32) (xRow_faultPlace : Int32) (gRkinds : Nat → Int32) (gRlates : Nat → Int32) (gRhands : Nat → Int32) (gRslow : Nat → Int32) (xST_sleeper : Int32) (xST_lastDue : Int32) (xST_unreached : Int32) (gSTdue : Nat → Int32) (gSTbusy : Nat → Int32) (gSTfelt : Nat → Int32) (gSTlost : Nat → Int32) (gSTfirst : Nat → Int32) (xDia_size : Int32) (ne : Nat) (gDent : Nat → Int32) (u : Int32 × Int32 × Int32 × Int32 × Int32 × (Nat → Int32) × (Nat → Int32) × (Nat → Int32) × (Nat → Int32) × (Nat → Int32) × Int32 × Nat × (Nat → Int32)) (hm : fC_reached xHC_first xHC_second xHC_when xHC_ran xRow_people gRkinds gRlates gRhands gRslow xST_sleeper xST_lastDue xST_unreached gSTdue gSTbusy gSTfelt gSTlost gSTfirst xDia_size ne gDent = some u) : Met l yX9_reached wsX9_reached ({ frames := 5, cells := (u.2.2.2.2.2.2.2.2.2.2.2.1 - ne), slots := (2 * (u.2.2.2.2.2.2.2.2.2.2.2.1 - ne)), locals := 123 }) (va_Pc [.ref (ad 0)] (fun U => U.heap.size = sz ∧ va_P (dC, dI) vwCl [oHC ad xHC_first xHC_second xHC_when xHC_ran, oRow ad xRow_depth xRow_length xRow_people xRow_scarves xRow_main xRow_faultPlace, ar (ad 3) cA 20 gRkinds, ar (ad 4) cA 20 gRlates, ar (ad 5) cA 20 gRhands, ar (ad 6) cA 20 gRslow, oST ad xST_sleeper xST_lastDue xST_unreached, ar (ad 10) cA 640 gSTdue, ar (ad 11) cA 20 gSTbusy, ar (ad 12) cA 20 gSTfelt, ar (ad 13) cA 20 gSTlost, ar (ad 14) cA 20 gSTfirst, oDia ad qe xDia_size, ar qe cA ne gDent] U.heap ∧ va_K (dC, dI) vwCl [(cA, .int)] U ∧ va_D (fun _ => True) [oHC ad xHC_first xHC_second xHC_when xHC_ran, oRow ad xRow_depth xRow_length xRow_people xRow_scarves xRow_main xRow_faultPlace, ar (ad 3) cA 20 gRkinds, ar (ad 4) cA 20 gRlates, ar (ad 5) cA 20 gRhands, ar (ad 6) cA 20 gRslow, oST ad xST_sleeper xST_lastDue xST_unreached, ar (ad 10) cA 640 gSTdue, ar (ad 11) cA 20 gSTbusy, ar (ad 12) cA 20 gSTfelt, ar (ad 13) cA 20 gSTlost, ar (ad 14) cA 20 gSTfirst, oDia ad qe xDia_size, ar qe cA ne gDent])) (va_Qi (fun (r : Int32) (_ : Nat) => r = u.1) (fun (qe2 : Nat) t => va_P (dC, dI) vwCl [oHC ad xHC_first xHC_second xHC_when u.2.1, oRow ad xRow_depth xRow_length xRow_people xRow_scarves xRow_main xRow_faultPlace, ar (ad 3) cA 20 gRkinds, ar (ad 4) cA 20 gRlates, ar (ad 5) cA 20 gRhands, ar (ad 6) cA 20 gRslow, oST ad u.2.2.1 u.2.2.2.1 u.2.2.2.2.1, ar (ad 10) cA 640 u.2.2.2.2.2.1, ar (ad 11) cA 20 u.2.2.2.2.2.2.1, ar (ad 12) cA 20 u.2.2.2.2.2.2.2.1, ar (ad 13) cA 20 u.2.2.2.2.2.2.2.2.1, ar (ad 14) cA 20 u.2.2.2.2.2.2.2.2.2.1, oDia ad qe2 u.2.2.2.2.2.2.2.2.2.2.1, ar qe2 cA u.2.2.2.2.2.2.2.2.2.2.2.1 u.2.2.2.2.2.2.2.2.2.2.2.2] t.heap ∧ va_K (dC, dI) vwCl [(cA, .int)] t ∧ va_D (va_A [oHC ad xHC_first xHC_second xHC_when xHC_ran, oRow ad xRow_depth xRow_length xRow_people xRow_scarves xRow_main xRow_faultPlace, ar (ad 3) cA 20 gRkinds, ar (ad 4) cA 20 gRlates, ar (ad 5) cA 20 gRhands, ar (ad 6) cA 20 gRslow, oST ad xST_sleeper xST_lastDue xST_unreached, ar (ad 10) cA 640 gSTdue, ar (ad 11) cA 20 gSTbusy, ar (ad 12) cA 20 gSTfelt, ar (ad 13) cA 20 gSTlost, ar (ad 14) cA 20 gSTfirst, oDia ad qe xDia_size, ar qe cA ne gDent] sz) [oHC ad xHC_first xHC_second xHC_when u.2.1, oRow ad xRow_depth xRow_length xRow_people xRow_scarves xRow_main xRow_faultPlace, ar (ad 3) cA 20 gRkinds, ar (ad 4) cA 20 gRlates, ar (ad 5) cA 20 gRhands, ar (ad 6) cA 20 gRslow, oST ad u.2.2.1 u.2.2.2.1 u.2.2.2.2.1, ar (ad 10) cA 640 u.2.2.2.2.2.1, ar (ad 11) cA 20 u.2.2.2.2.2.2.1, ar (ad 12) cA 20 u.2.2.2.2.2.2.2.1, ar (ad 13) cA 20 u.2.2.2.2.2.2.2.2.1, ar (ad 14) cA 20 u.2.2.2.2.2.2.2.2.2.1, oDia ad qe2 u.2.2.2.2.2.2.2.2.2.2.1, ar qe2 cA u.2.2.2.2.2.2.2.2.2.2.2.1 u.2.2.2.2.2.2.2.2.2.2.2.2]) (va_A [oHC ad xHC_first xHC_second xHC_when xHC_ran, oRow ad xRow_depth xRow_length xRow_people xRow_scarves xRow_main xRow_faultPlace, ar (ad 3) cA 20 gRkinds, ar (ad 4) cA 20 gRlates, ar (ad 5) cA 20 gRhands, ar (ad 6) cA 20 gRslow, oST ad xST_sleeper xST_lastDue xST_unreached, ar (ad 10) cA 640 gSTdue, ar (ad 11) cA 20 gSTbusy, ar (ad 12) cA 20 gSTfelt, ar (ad 13) cA 20 gSTlost, ar (ad 14) cA 20 gSTfirst, oDia ad qe xDia_size, ar qe cA ne gDent] sz)) (u.2.2.2.2.2.2.2.2.2.2.2.1 - ne) (2 * (u.2.2.2.2.2.2.2.2.2.2.2.1 - ne)) (va_A [oHC ad xHC_first xHC_second xHC_when xHC_ran, oRow ad xRow_depth xRow_length xRow_people xRow_scarves xRow_main xRow_faultPlace, ar (ad 3) cA 20 gRkinds, ar (ad 4) cA 20 gRlates, ar (ad 5) cA 20 gRhands, ar (ad 6) cA 20 gRslow, oST ad xST_sleeper xST_lastDue xST_unreached, ar (ad 10) cA 640 gSTdue, ar (ad 11) cA 20 gSTbusy, ar (ad 12) cA 20 gSTfelt, ar (ad 13) cA 20 gSTlost, ar (ad 14) cA 20 gSTfirst, oDia ad qe xDia_size, ar qe cA ne gDent] sz) := by
  refine Met.ofW (cc := cX9_reached) (maxL := 1) (ret := (some .int)) (by decide) rfl ?_
  intro p e s m args below meth c s₁ B hml hv
  obtain ⟨rfl, hsz, hP, hK, hD0⟩ := hv
  have hx := B.exec
  have hb := B.bytes
  have hr := B.returns
  have hts := atoms_spec (ws := wsX9_reached) B.pre
  have hown : s.vm.findClass RX9 = some m.cls := findClass_of_methodNamed B.named
  have hlocks := B.notSynchronized
  subst hsz
  have hD := hD0.self (sz := s.heap.size)
  generalize hAe : va_A [oHC ad xHC_first xHC_second xHC_when xHC_ran, oRow ad xRow_depth xRow_length xRow_people xRow_scarves xRow_main xRow_faultPlace, ar (ad 3) cA 20 gRkinds, ar (ad 4) cA 20 gRlates, ar (ad 5) cA 20 gRhands, ar (ad 6) cA 20 gRslow, oST ad xST_sleeper xST_lastDue xST_unreached, ar (ad 10) cA 640 gSTdue, ar (ad 11) cA 20 gSTbusy, ar (ad 12) cA 20 gSTfelt, ar (ad 13) cA 20 gSTlost, ar (ad 14) cA 20 gSTfirst, oDia ad qe xDia_size, ar qe cA ne gDent] s.heap.size = A at hD ⊢
  have hA : ∀ q : Nat, s.heap.size ≤ q → A q := fun q h => by rw [← hAe]; exact Or.inr h
  have hS : va_S A s.heap s.heap [] := va_S.rf
  have hl := lv_entry ([.ref (ad 0)]) (n := 1) (Nat.le_of_ble_eq_true rfl)
  rw [lg_entry_eq]
  generalize (lg_sl ([.ref (ad 0)]) ++ List.replicate (1 - (lg_sl ([.ref (ad 0)])).length) Slot.unset).toArray = ls at hl ⊢
  have hl : lv_has ls 1 [(0, .ref (ad 0))] := hl
  refine wk_Q (fun QQ hQ => ?_)
  unfold fC_reached at hm
  obtain ⟨hz0, hm⟩ := mz_ok hm
  have hz0 : ne ≤ u.2.2.2.2.2.2.2.2.2.2.2.1 := hz0
  refine lv_aload_n hx hb dX9_reached_0 rfl (lv_at hl 0 rfl) ?_
  have hPc := hP.sub (ws' := [oHC ad xHC_first xHC_second xHC_when xHC_ran, oRow ad xRow_depth xRow_length xRow_people xRow_scarves xRow_main xRow_faultPlace, ar (ad 3) cA 20 gRkinds, ar (ad 4) cA 20 gRlates, ar (ad 5) cA 20 gRhands, ar (ad 6) cA 20 gRslow, oST ad xST_sleeper xST_lastDue xST_unreached, ar (ad 10) cA 640 gSTdue, ar (ad 11) cA 20 gSTbusy, ar (ad 12) cA 20 gSTfelt, ar (ad 13) cA 20 gSTlost, ar (ad 14) cA 20 gSTfirst, oDia ad qe xDia_size, ar qe cA ne gDent]) [0, 1, 2, 3, 4, 5, 6, 7, 8, 9, 10, 11, 12, 13] rfl
  have hDc := hD.sub (ws' := [oHC ad xHC_first xHC_second xHC_when xHC_ran, oRow ad xRow_depth xRow_length xRow_people xRow_scarves xRow_main xRow_faultPlace, ar (ad 3) cA 20 gRkinds, ar (ad 4) cA 20 gRlates, ar (ad 5) cA 20 gRhands, ar (ad 6) cA 20 gRslow, oST ad xST_sleeper xST_lastDue xST_unreached, ar (ad 10) cA 640 gSTdue, ar (ad 11) cA 20 gSTbusy, ar (ad 12) cA 20 gSTfelt, ar (ad 13) cA 20 gSTlost, ar (ad 14) cA 20 gSTfirst, oDia ad qe xDia_size, ar qe cA ne gDent]) [0, 1, 2, 3, 4, 5, 6, 7, 8, 9, 10, 11, 12, 13] (by decide) rfl
  have hFc := va_free (wc := [oHC ad xHC_first xHC_second xHC_when xHC_ran, oRow ad xRow_depth xRow_length xRow_people xRow_scarves xRow_main xRow_faultPlace, ar (ad 3) cA 20 gRkinds, ar (ad 4) cA 20 gRlates, ar (ad 5) cA 20 gRhands, ar (ad 6) cA 20 gRslow, oST ad xST_sleeper xST_lastDue xST_unreached, ar (ad 10) cA 640 gSTdue, ar (ad 11) cA 20 gSTbusy, ar (ad 12) cA 20 gSTfelt, ar (ad 13) cA 20 gSTlost, ar (ad 14) cA 20 gSTfirst, oDia ad qe xDia_size, ar qe cA ne gDent]) hD hS hA [0, 1, 2, 3, 4, 5, 6, 7, 8, 9, 10, 11, 12, 13] rfl
  obtain ⟨u_1, hc_1, hn1_1, hn2_1, hm⟩ := bm_ok hm
  have hn1_1 : ne ≤ u_1.2.2.2.2.2.2.2.2.2.2.1 := hn1_1
  have hn2_1 : u_1.2.2.2.2.2.2.2.2.2.2.1 ≤ u.2.2.2.2.2.2.2.2.2.2.2.1 := hn2_1
  refine va_callr (va_runV (As := []) (rest := []) ⟨hx, hb, hml, hown, hts⟩ (kC_asTold l dC dI cA ad qe s.heap.size xHC_first xHC_second xHC_when xHC_ran xRow_depth xRow_length xRow_people xRow_scarves xRow_main xRow_faultPlace gRkinds gRlates gRhands gRslow xST_sleeper xST_lastDue xST_unreached gSTdue gSTbusy gSTfelt gSTlost gSTfirst xDia_size ne gDent u_1 hc_1) (cwV 0 hts gX9_reached_X9_asTold rfl rfl rfl (by decide +kernel) ⟨Nat.le_of_ble_eq_true rfl, Nat.le_of_ble_eq_true rfl⟩) ⟨fun a U g mk q => by obtain ⟨q0, q1, qP, qK, qD⟩ := q; exact ⟨q0, q1, qP, va_K.moved (u := U) (U := U.calling g mk a) (Vm.Alike.refl U.vm) qK, qD⟩, va_recv hK hPc (ci := 9) (q0 := 0) rfl rfl, fun U hU hW => ⟨rfl, by rw [hU], by rw [hU]; exact hPc, va_K.moved hW.alike hK, hDc.weaken (fun _ _ _ _ => trivial)⟩⟩ rfl rfl hl.1 rfl (lv_room (Nat.le_of_ble_eq_true rfl)) dX9_reached_1 ⟨by (show _ ≤ _ - _); omega, by (show _ ≤ 2 * (_ - _)); omega⟩) hS (fun q _ h => hFc q h) hFc (fun qe_1001 ra_1 t H1 locs ht hvm hw hB hz1 hk1 hS => ?_)
  obtain ⟨hra_1, hP1, hK1, hD1⟩ := hB
  subst hra_1
  rw [ht] at hP1
  obtain ⟨hP, hD⟩ := va_join (wr := []) (w1 := [oHC ad xHC_first xHC_second xHC_when u_1.1, oRow ad xRow_depth xRow_length xRow_people xRow_scarves xRow_main xRow_faultPlace, ar (ad 3) cA 20 gRkinds, ar (ad 4) cA 20 gRlates, ar (ad 5) cA 20 gRhands, ar (ad 6) cA 20 gRslow, oST ad u_1.2.1 u_1.2.2.1 u_1.2.2.2.1, ar (ad 10) cA 640 u_1.2.2.2.2.1, ar (ad 11) cA 20 u_1.2.2.2.2.2.1, ar (ad 12) cA 20 u_1.2.2.2.2.2.2.1, ar (ad 13) cA 20 u_1.2.2.2.2.2.2.2.1, ar (ad 14) cA 20 u_1.2.2.2.2.2.2.2.2.1, oDia ad qe_1001 u_1.2.2.2.2.2.2.2.2.2.1, ar qe_1001 cA u_1.2.2.2.2.2.2.2.2.2.2.1 u_1.2.2.2.2.2.2.2.2.2.2.2]) hP hD [0, 1, 2, 3, 4, 5, 6, 7, 8, 9, 10, 11, 12, 13] [] rfl rfl (by decide) (by decide) hk1 hFc hP1 hD1
  clear hPc hDc hFc hP1 hK1 hD1 hk1 hz1 hvm ht
  generalize H1 = H at hP hS ⊢
  have hP : va_P (dC, dI) vwCl [oHC ad xHC_first xHC_second xHC_when u_1.1, oRow ad xRow_depth xRow_length xRow_people xRow_scarves xRow_main xRow_faultPlace, ar (ad 3) cA 20 gRkinds, ar (ad 4) cA 20 gRlates, ar (ad 5) cA 20 gRhands, ar (ad 6) cA 20 gRslow, oST ad u_1.2.1 u_1.2.2.1 u_1.2.2.2.1, ar (ad 10) cA 640 u_1.2.2.2.2.1, ar (ad 11) cA 20 u_1.2.2.2.2.2.1, ar (ad 12) cA 20 u_1.2.2.2.2.2.2.1, ar (ad 13) cA 20 u_1.2.2.2.2.2.2.2.1, ar (ad 14) cA 20 u_1.2.2.2.2.2.2.2.2.1, oDia ad qe_1001 u_1.2.2.2.2.2.2.2.2.2.1, ar qe_1001 cA u_1.2.2.2.2.2.2.2.2.2.2.1 u_1.2.2.2.2.2.2.2.2.2.2.2] H := hP
  have hD : va_D A [oHC ad xHC_first xHC_second xHC_when u_1.1, oRow ad xRow_depth xRow_length xRow_people xRow_scarves xRow_main xRow_faultPlace, ar (ad 3) cA 20 gRkinds, ar (ad 4) cA 20 gRlates, ar (ad 5) cA 20 gRhands, ar (ad 6) cA 20 gRslow, oST ad u_1.2.1 u_1.2.2.1 u_1.2.2.2.1, ar (ad 10) cA 640 u_1.2.2.2.2.1, ar (ad 11) cA 20 u_1.2.2.2.2.2.1, ar (ad 12) cA 20 u_1.2.2.2.2.2.2.1, ar (ad 13) cA 20 u_1.2.2.2.2.2.2.2.1, ar (ad 14) cA 20 u_1.2.2.2.2.2.2.2.2.1, oDia ad qe_1001 u_1.2.2.2.2.2.2.2.2.2.1, ar qe_1001 cA u_1.2.2.2.2.2.2.2.2.2.2.1 u_1.2.2.2.2.2.2.2.2.2.2.2] := hD
  refine W.widen (k := u_1.2.2.2.2.2.2.2.2.2.2.1 - ne) (n := 2 * (u_1.2.2.2.2.2.2.2.2.2.2.1 - ne)) (by omega) (by omega) ?_
  have hPc := hP.sub (ws' := [oRow ad xRow_depth xRow_length xRow_people xRow_scarves xRow_main xRow_faultPlace, oST ad u_1.2.1 u_1.2.2.1 u_1.2.2.2.1, ar (ad 12) cA 20 u_1.2.2.2.2.2.2.1]) [1, 6, 9] rfl
  have hDc := hD.sub (ws' := [oRow ad xRow_depth xRow_length xRow_people xRow_scarves xRow_main xRow_faultPlace, oST ad u_1.2.1 u_1.2.2.1 u_1.2.2.2.1, ar (ad 12) cA 20 u_1.2.2.2.2.2.2.1]) [1, 6, 9] (by decide) rfl
  have hFc := va_free (wc := [oRow ad xRow_depth xRow_length xRow_people xRow_scarves xRow_main xRow_faultPlace, oST ad u_1.2.1 u_1.2.2.1 u_1.2.2.2.1, ar (ad 12) cA 20 u_1.2.2.2.2.2.2.1]) hD hS hA [1, 6, 9] rfl
  obtain ⟨u_2, hc_2, hm⟩ := bd_ok hm
  refine va_calli (va_runV (As := []) (rest := []) ⟨hx, hb, hml, hown, hts⟩ (kS_reachedBits_T l dC dI cA ad H.size xRow_depth xRow_length xRow_people xRow_scarves xRow_main xRow_faultPlace u_1.2.1 u_1.2.2.1 u_1.2.2.2.1 u_1.2.2.2.2.2.2.1 u_2 hc_2) (cwV 0 hts gX9_reached_X8_reachedBits rfl rfl rfl (by decide +kernel) ⟨Nat.le_of_ble_eq_true rfl, Nat.le_of_ble_eq_true rfl⟩) ⟨fun a U g mk q => by obtain ⟨q0, q1, qP, qK, qD⟩ := q; exact ⟨q0, q1, qP, va_K.moved (u := U) (U := U.calling g mk a) (Vm.Alike.refl U.vm) qK, qD⟩, va_recv hK hPc (ci := 8) (q0 := 1) rfl rfl, fun U hU hW => ⟨rfl, by rw [hU], by rw [hU]; exact hPc, va_K.moved hW.alike hK, hDc.weaken (fun _ _ _ _ => trivial)⟩⟩ rfl rfl hl.1 rfl (lv_room (Nat.le_of_ble_eq_true rfl)) dX9_reached_4 ⟨by (show _ ≤ _ - _); omega, by (show _ ≤ 2 * (_ - _)); omega⟩) hS (fun q _ h => hFc q h) hFc (fun r_2 _ t H1 locs ht hvm hw hB hz1 hk1 hS => ?_)
  obtain ⟨hP1, hK1, hD1⟩ := hB
  rw [ht] at hP1
  obtain ⟨hP, hD⟩ := va_join (wr := [oHC ad xHC_first xHC_second xHC_when u_1.1, ar (ad 3) cA 20 gRkinds, ar (ad 4) cA 20 gRlates, ar (ad 5) cA 20 gRhands, ar (ad 6) cA 20 gRslow, ar (ad 10) cA 640 u_1.2.2.2.2.1, ar (ad 11) cA 20 u_1.2.2.2.2.2.1, ar (ad 13) cA 20 u_1.2.2.2.2.2.2.2.1, ar (ad 14) cA 20 u_1.2.2.2.2.2.2.2.2.1, oDia ad qe_1001 u_1.2.2.2.2.2.2.2.2.2.1, ar qe_1001 cA u_1.2.2.2.2.2.2.2.2.2.2.1 u_1.2.2.2.2.2.2.2.2.2.2.2]) (w1 := [oRow ad xRow_depth xRow_length xRow_people xRow_scarves xRow_main xRow_faultPlace, oST ad u_1.2.1 u_1.2.2.1 u_1.2.2.2.1, ar (ad 12) cA 20 u_1.2.2.2.2.2.2.1]) hP hD [1, 6, 9] [0, 2, 3, 4, 5, 7, 8, 10, 11, 12, 13] rfl rfl (by decide) (by decide) hk1 hFc hP1 hD1
  clear hPc hDc hFc hP1 hK1 hD1 hk1 hz1 hvm ht
  generalize H1 = H at hP hS ⊢
  have hP : va_P (dC, dI) vwCl [oHC ad xHC_first xHC_second xHC_when u_1.1, oRow ad xRow_depth xRow_length xRow_people xRow_scarves xRow_main xRow_faultPlace, ar (ad 3) cA 20 gRkinds, ar (ad 4) cA 20 gRlates, ar (ad 5) cA 20 gRhands, ar (ad 6) cA 20 gRslow, oST ad u_1.2.1 u_1.2.2.1 u_1.2.2.2.1, ar (ad 10) cA 640 u_1.2.2.2.2.1, ar (ad 11) cA 20 u_1.2.2.2.2.2.1, ar (ad 12) cA 20 u_1.2.2.2.2.2.2.1, ar (ad 13) cA 20 u_1.2.2.2.2.2.2.2.1, ar (ad 14) cA 20 u_1.2.2.2.2.2.2.2.2.1, oDia ad qe_1001 u_1.2.2.2.2.2.2.2.2.2.1, ar qe_1001 cA u_1.2.2.2.2.2.2.2.2.2.2.1 u_1.2.2.2.2.2.2.2.2.2.2.2] H := hP.sub [0, 11, 1, 2, 3, 4, 12, 5, 6, 13, 7, 8, 9, 10] rfl
  have hD : va_D A [oHC ad xHC_first xHC_second xHC_when u_1.1, oRow ad xRow_depth xRow_length xRow_people xRow_scarves xRow_main xRow_faultPlace, ar (ad 3) cA 20 gRkinds, ar (ad 4) cA 20 gRlates, ar (ad 5) cA 20 gRhands, ar (ad 6) cA 20 gRslow, oST ad u_1.2.1 u_1.2.2.1 u_1.2.2.2.1, ar (ad 10) cA 640 u_1.2.2.2.2.1, ar (ad 11) cA 20 u_1.2.2.2.2.2.1, ar (ad 12) cA 20 u_1.2.2.2.2.2.2.1, ar (ad 13) cA 20 u_1.2.2.2.2.2.2.2.1, ar (ad 14) cA 20 u_1.2.2.2.2.2.2.2.2.1, oDia ad qe_1001 u_1.2.2.2.2.2.2.2.2.2.1, ar qe_1001 cA u_1.2.2.2.2.2.2.2.2.2.2.1 u_1.2.2.2.2.2.2.2.2.2.2.2] := hD.sub [0, 11, 1, 2, 3, 4, 12, 5, 6, 13, 7, 8, 9, 10] (by decide) rfl
  have hw := hw.symm
  subst hw
  obtain rfl := Option.some.inj hm
  subst hQ
  refine W.widen (k := u_1.2.2.2.2.2.2.2.2.2.2.1 - ne) (n := 2 * (u_1.2.2.2.2.2.2.2.2.2.2.1 - ne)) (by first | exact Nat.le_refl _ | omega) (by first | exact Nat.le_refl _ | omega) ?_
  exact W.iret (v := u_2) hx hb hr (fun t ht hW => ⟨⟨_, qe_1001, rfl, rfl, by rw [ht]; exact hP, va_K.moved hW.alike hK, hAe ▸ hD⟩, hS.F ht⟩) hS.2.2 dX9_reached_7

set_option maxHeartbeats 4000000 in
set_option maxRecDepth 100000 in
theorem kS_lastTime_T (l : Launch) (dC : Nat → ClassId) (dI : Nat → Nat → Nat) (cA : ClassId) (ad : Nat → Nat) (sz : Nat) (xRow_depth : Int32) (xRow_length : Int32) (xRow_people : Int32) (xRow_scarves : Int32) (xRow_main : Int32) (xRow_faultPlace : Int32) (xST_sleeper : Int32) (xST_lastDue : Int32) (xST_unreached : Int32) (gSTfirst : Nat → Int32) (u : Int32) (hm : fS_lastTime_T xRow_people gSTfirst = some u) : Met l yX8_lastTime wsX8_lastTime ({ frames := 1, cells := 0, slots := 0, locals := 21 }) (va_Pc [.ref (ad 9)] (fun U => U.heap.size = sz ∧ va_P (dC, dI) vwCl [oRow ad xRow_depth xRow_length xRow_people xRow_scarves xRow_main xRow_faultPlace, oST ad xST_sleeper xST_lastDue xST_unreached, ar (ad 14) cA 20 gSTfirst] U.heap ∧ va_K (dC, dI) vwCl [(cA, .int)] U ∧ va_D (fun _ => True) [oRow ad xRow_depth xRow_length xRow_people xRow_scarves xRow_main xRow_faultPlace, oST ad xST_sleeper xST_lastDue xST_unreached, ar (ad 14) cA 20 gSTfirst])) (va_Qi (fun (r : Int32) (_ : Unit) => r = u) (fun (_ : Unit) t => va_P (dC, dI) vwCl [oRow ad xRow_depth xRow_length xRow_people xRow_scarves xRow_main xRow_faultPlace, oST ad xST_sleeper xST_lastDue xST_unreached, ar (ad 14) cA 20 gSTfirst] t.heap ∧ va_K (dC, dI) vwCl [(cA, .int)] t ∧ va_D (va_A [oRow ad xRow_depth xRow_length xRow_people xRow_scarves xRow_main xRow_faultPlace, oST ad xST_sleeper xST_lastDue xST_unreached, ar (ad 14) cA 20 gSTfirst] sz) [oRow ad xRow_depth xRow_length xRow_people xRow_scarves xRow_main xRow_faultPlace, oST ad xST_sleeper xST_lastDue xST_unreached, ar (ad 14) cA 20 gSTfirst]) (va_A [oRow ad xRow_depth xRow_length xRow_people xRow_scarves xRow_main xRow_faultPlace, oST ad xST_sleeper xST_lastDue xST_unreached, ar (ad 14) cA 20 gSTfirst] sz)) 0 0 (va_A [oRow ad xRow_depth xRow_length xRow_people xRow_scarves xRow_main xRow_faultPlace, oST ad xST_sleeper xST_lastDue xST_unreached, ar (ad 14) cA 20 gSTfirst] sz) := by
  refine Met.ofW (cc := cX8_lastTime) (maxL := 3) (ret := (some .int)) (by decide) rfl ?_
  intro p e s m args below meth c s₁ B hml hv
  obtain ⟨rfl, hsz, hP, hK, hD0⟩ := hv
  have hx := B.exec
  have hb := B.bytes
  have hr := B.returns
  have hts := atoms_spec (ws := wsX8_lastTime) B.pre
  have hown : s.vm.findClass RX8 = some m.cls := findClass_of_methodNamed B.named
  have hlocks := B.notSynchronized
  subst hsz
  have hD := hD0.self (sz := s.heap.size)
  generalize hAe : va_A [oRow ad xRow_depth xRow_length xRow_people xRow_scarves xRow_main xRow_faultPlace, oST ad xST_sleeper xST_lastDue xST_unreached, ar (ad 14) cA 20 gSTfirst] s.heap.size = A at hD ⊢
  have hA : ∀ q : Nat, s.heap.size ≤ q → A q := fun q h => by rw [← hAe]; exact Or.inr h
  have hS : va_S A s.heap s.heap [] := va_S.rf
  have hl := lv_entry ([.ref (ad 9)]) (n := 3) (Nat.le_of_ble_eq_true rfl)
  rw [lg_entry_eq]
  generalize (lg_sl ([.ref (ad 9)]) ++ List.replicate (3 - (lg_sl ([.ref (ad 9)])).length) Slot.unset).toArray = ls at hl ⊢
  have hl : lv_has ls 3 [(0, .ref (ad 9))] := hl
  refine wk_Q (fun QQ hQ => ?_)
  have hinX8 : ∀ w ∈ wsX80, w ∈ wsX8_lastTime := fun w h => List.mem_cons_of_mem _ (inlX8 w h)
  have hl_9 := hts (.fieldLink RX8 9 "HandCensus$Squeeze" "row" "LHandCensus$Row;") (List.mem_cons_of_mem _ (in_r4 _ (List.mem_of_getElem? (i := 2) rfl)))
  have hinX5 : ∀ w ∈ wsX50, w ∈ wsX8_lastTime := fun w h => List.mem_cons_of_mem _ (inlX5 w h)
  have hl_42 := hts (.fieldLink RX8 42 "HandCensus$Row" "people" "I") (List.mem_cons_of_mem _ (in_r14 _ (List.mem_of_getElem? (i := 19) rfl)))
  have hl_32 := hts (.fieldLink RX8 32 "HandCensus$Squeeze" "firstAt" "[I") (List.mem_cons_of_mem _ (in_r4 _ (List.mem_of_getElem? (i := 8) rfl)))
  have hw_3 := hts (.methodLink RX8 99 Lib.Math.max.name) (List.mem_cons_of_mem _ (in_r23 _ (List.mem_of_getElem? (i := 6) rfl)))
  have hw_4 := hts (.static Lib.Math.max.name) (List.mem_cons_of_mem _ (in_r15 _ (List.mem_of_getElem? (i := 14) rfl)))
  have hw_5 := hts (.initialized "java/lang/Math") (List.mem_cons_of_mem _ (in_r15 _ (List.mem_of_getElem? (i := 11) rfl)))
  have hw_6 := hts (.code Lib.Math.max.name Lib.Math.max.code 2 (some .int)) (List.mem_cons_of_mem _ (in_r15 _ (List.mem_of_getElem? (i := 15) rfl)))
  have h_4 : ∀ (n_4 : Nat), ∀ (v1_4 : Int32) (v2_4 : Int32), fS_lastTime_T_4 xRow_people gSTfirst n_4 v1_4 v2_4 = some u → ∀ (H : Heap) (locs : List Loc), va_P (dC, dI) vwCl [oRow ad xRow_depth xRow_length xRow_people xRow_scarves xRow_main xRow_faultPlace, oST ad xST_sleeper xST_lastDue xST_unreached, ar (ad 14) cA 20 gSTfirst] H → va_D A [oRow ad xRow_depth xRow_length xRow_people xRow_scarves xRow_main xRow_faultPlace, oST ad xST_sleeper xST_lastDue xST_unreached, ar (ad 14) cA 20 gSTfirst] → va_S A s.heap H locs → ∀ ls : Array Slot, lv_has ls 3 [(0, .ref (ad 9)), (1, .int v1_4), (2, .int v2_4)] → W p l e (headSpec wsX8_lastTime ({ frames := 1, cells := 0, slots := 0, locals := 21 })).room s m ([.ref (ad 9)] : List Value).toArray below meth c H locs 0 0 QQ (F0 m 4 ls []) := by
    intro n_4
    induction n_4 with
    | zero => intro v1_4 v2_4 hm; have hm : (none : Option (Int32)) = some u := hm; cases hm
    | succ n_4 ih_4 =>
      intro v1_4 v2_4 hm H locs hP hD hS ls hl
      have hm : fS_lastTime_T_4_b  (fS_lastTime_T_4  xRow_people gSTfirst n_4) xRow_people gSTfirst v1_4 v2_4 = some u := hm
      unfold fS_lastTime_T_4_b at hm
      refine lv_iload_n hx hb dX8_lastTime_4 rfl (lv_at hl 2 rfl) ?_
      refine lv_aload_n hx hb dX8_lastTime_5 rfl (lv_at hl 0 rfl) ?_
      refine va_get (D := (dC, dI)) (ci := 8) (v := .ref (ad 1)) (C := RX8) (T := TX8) (N := 10) hx hb hts hinX8 hown hK hP 1 rfl rfl 0 (by decide) hl_9 (fun _ h9 => h9) rfl dX8_lastTime_6 ?_
      refine va_get (D := (dC, dI)) (ci := 5) (v := .int xRow_people) (C := RX5) (T := TX5) (N := 13) hx hb hts hinX5 hown hK hP 0 rfl rfl 9 (by decide) hl_42 (fun _ h9 => h9) rfl dX8_lastTime_9 ?_
      refine lv_icmp_ge (tgt := 32) hx hb dX8_lastTime_12 (by decide) (fun c_1 => ?_) (fun c_1 => ?_)
      · have hm := it_pos c_1 hm
        refine lv_iload_n hx hb dX8_lastTime_32 rfl (lv_at hl 1 rfl) ?_
        obtain rfl := Option.some.inj hm
        subst hQ
        exact W.iret (v := v1_4) hx hb hr (fun t ht hW => ⟨⟨_, (), rfl, rfl, by rw [ht]; exact hP, va_K.moved hW.alike hK, hAe ▸ hD⟩, hS.F ht⟩) hS.2.2 dX8_lastTime_33
      · have hm := it_neg c_1 hm
        refine lv_iload_n hx hb dX8_lastTime_15 rfl (lv_at hl 1 rfl) ?_
        refine lv_aload_n hx hb dX8_lastTime_16 rfl (lv_at hl 0 rfl) ?_
        refine va_get (D := (dC, dI)) (ci := 8) (v := .ref (ad 14)) (C := RX8) (T := TX8) (N := 10) hx hb hts hinX8 hown hK hP 1 rfl rfl 6 (by decide) hl_32 (fun _ h9 => h9) rfl dX8_lastTime_17 ?_
        refine lv_iload_n hx hb dX8_lastTime_20 rfl (lv_at hl 2 rfl) ?_
        obtain ⟨i_2, hm⟩ := ck_ok hm
        refine va_iald hx hb hK hP 2 0 rfl rfl i_2 dX8_lastTime_21 ?_
        refine va_mmax hx hb (by rw [hml]; exact hl.1.symm) hown hw_3 hw_4 hw_5 hw_6 (Nat.le_of_ble_eq_true rfl) (Nat.le_of_ble_eq_true rfl) (by first | exact Nat.zero_le _ | (show _ ≤ _ - _; omega)) (by first | exact Nat.zero_le _ | (show _ ≤ 2 * (_ - _); omega)) dX8_lastTime_22 ?_
        refine lv_topi (fun y3 ey3 => ?_)
        have hm := nm_in ey3 hm
        refine lv_istore_n (lv' := [(1, .int y3), (0, .ref (ad 9)), (2, .int v2_4)]) hx hb dX8_lastTime_25 rfl hl (by decide) rfl (fun ls hl => ?_)
        refine lv_iinc (v := (v2_4 + 1)) (lv' := [(2, .int (v2_4 + 1)), (1, .int y3), (0, .ref (ad 9))]) hx hb dX8_lastTime_26 hl (k := 2) rfl rfl (by decide) rfl (fun ls hl => ?_)
        refine lv_goto (tgt := 4) hx hb dX8_lastTime_29 (by decide) ?_
        exact ih_4 _ _ hm _ _ hP hD hS _ (lv_sub hl [2, 1, 0] rfl)
  unfold fS_lastTime_T at hm
  refine lv_iconst (v := (-1)) hx hb dX8_lastTime_0 (by decide) ?_
  refine lv_istore_n (lv' := [(1, .int (-1)), (0, .ref (ad 9))]) hx hb dX8_lastTime_1 rfl hl (by decide) rfl (fun ls hl => ?_)
  refine lv_iconst (v := 0) hx hb dX8_lastTime_2 (by decide) ?_
  refine lv_istore_n (lv' := [(2, .int 0), (1, .int (-1)), (0, .ref (ad 9))]) hx hb dX8_lastTime_3 rfl hl (by decide) rfl (fun ls hl => ?_)
  exact h_4 _ _ _ hm _ _ hP hD hS _ (lv_sub hl [2, 1, 0] rfl)

set_option maxHeartbeats 4000000 in
set_option maxRecDepth 100000 in
theorem kC_last (l : Launch) (dC : Nat → ClassId) (dI : Nat → Nat → Nat) (cA : ClassId) (ad : Nat → Nat) (qe : Nat) (sz : Nat) (xHC_first : Int32) (xHC_second : Int32) (xHC_when : Int32) (xHC_ran : Int32) (xRow_depth : Int32) (xRow_length : Int32) (xRow_people : Int32) (xRow_scarves : Int32) (xRow_main : Int32) (xRow_faultPlace : Int32) (gRkinds : Nat → Int32) (gRlates : Nat → Int32) (gRhands : Nat → Int32) (gRslow : Nat → Int32) (xST_sleeper : Int32) (xST_lastDue : Int32) (xST_unreached : Int32) (gSTdue : Nat → Int32) (gSTbusy : Nat → Int32) (gSTfelt : Nat → Int32) (gSTlost : Nat → Int32) (gSTfirst : Nat → Int32) (xDia_size : Int32) (ne : Nat) (gDent : Nat → Int32) (u : Int32 × Int32 × Int32 × Int32 × Int32 × (Nat → Int32) × (Nat → Int32) × (Nat → Int32) × (Nat → Int32) × (Nat → Int32) × Int32 × Nat × (Nat → Int32)) (hm : fC_last xHC_first xHC_second xHC_when xHC_ran xRow_people gRkinds gRlates gRhands gRslow xST_sleeper xST_lastDue xST_unreached gSTdue gSTbusy gSTfelt gSTlost gSTfirst xDia_size ne gDent = some u) : Met l yX9_last wsX9_last ({ frames := 5, cells := (u.2.2.2.2.2.2.2.2.2.2.2.1 - ne), slots := (2 * (u.2.2.2.2.2.2.2.2.2.2.2.1 - ne)), locals := 123 }) (va_Pc [.ref (ad 0)] (fun U => U.heap.size = sz ∧ va_P (dC, dI) vwCl [oHC ad xHC_first xHC_second xHC_when xHC_ran, oRow ad xRow_depth xRow_length xRow_people xRow_scarves xRow_main xRow_faultPlace, ar (ad 3) cA 20 gRkinds, ar (ad 4) cA 20 gRlates, ar (ad 5) cA 20 gRhands, ar (ad 6) cA 20 gRslow, oST ad xST_sleeper xST_lastDue xST_unreached, ar (ad 10) cA 640 gSTdue, ar (ad 11) cA 20 gSTbusy, ar (ad 12) cA 20 gSTfelt, ar (ad 13) cA 20 gSTlost, ar (ad 14) cA 20 gSTfirst, oDia ad qe xDia_size, ar qe cA ne gDent] U.heap ∧ va_K (dC, dI) vwCl [(cA, .int)] U ∧ va_D (fun _ => True) [oHC ad xHC_first xHC_second xHC_when xHC_ran, oRow ad xRow_depth xRow_length xRow_people xRow_scarves xRow_main xRow_faultPlace, ar (ad 3) cA 20 gRkinds, ar (ad 4) cA 20 gRlates, ar (ad 5) cA 20 gRhands, ar (ad 6) cA 20 gRslow, oST ad xST_sleeper xST_lastDue xST_unreached, ar (ad 10) cA 640 gSTdue, ar (ad 11) cA 20 gSTbusy, ar (ad 12) cA 20 gSTfelt, ar (ad 13) cA 20 gSTlost, ar (ad 14) cA 20 gSTfirst, oDia ad qe xDia_size, ar qe cA ne gDent])) (va_Qi (fun (r : Int32) (_ : Nat) => r = u.1) (fun (qe2 : Nat) t => va_P (dC, dI) vwCl [oHC ad xHC_first xHC_second xHC_when u.2.1, oRow ad xRow_depth xRow_length xRow_people xRow_scarves xRow_main xRow_faultPlace, ar (ad 3) cA 20 gRkinds, ar (ad 4) cA 20 gRlates, ar (ad 5) cA 20 gRhands, ar (ad 6) cA 20 gRslow, oST ad u.2.2.1 u.2.2.2.1 u.2.2.2.2.1, ar (ad 10) cA 640 u.2.2.2.2.2.1, ar (ad 11) cA 20 u.2.2.2.2.2.2.1, ar (ad 12) cA 20 u.2.2.2.2.2.2.2.1, ar (ad 13) cA 20 u.2.2.2.2.2.2.2.2.1, ar (ad 14) cA 20 u.2.2.2.2.2.2.2.2.2.1, oDia ad qe2 u.2.2.2.2.2.2.2.2.2.2.1, ar qe2 cA u.2.2.2.2.2.2.2.2.2.2.2.1 u.2.2.2.2.2.2.2.2.2.2.2.2] t.heap ∧ va_K (dC, dI) vwCl [(cA, .int)] t ∧ va_D (va_A [oHC ad xHC_first xHC_second xHC_when xHC_ran, oRow ad xRow_depth xRow_length xRow_people xRow_scarves xRow_main xRow_faultPlace, ar (ad 3) cA 20 gRkinds, ar (ad 4) cA 20 gRlates, ar (ad 5) cA 20 gRhands, ar (ad 6) cA 20 gRslow, oST ad xST_sleeper xST_lastDue xST_unreached, ar (ad 10) cA 640 gSTdue, ar (ad 11) cA 20 gSTbusy, ar (ad 12) cA 20 gSTfelt, ar (ad 13) cA 20 gSTlost, ar (ad 14) cA 20 gSTfirst, oDia ad qe xDia_size, ar qe cA ne gDent] sz) [oHC ad xHC_first xHC_second xHC_when u.2.1, oRow ad xRow_depth xRow_length xRow_people xRow_scarves xRow_main xRow_faultPlace, ar (ad 3) cA 20 gRkinds, ar (ad 4) cA 20 gRlates, ar (ad 5) cA 20 gRhands, ar (ad 6) cA 20 gRslow, oST ad u.2.2.1 u.2.2.2.1 u.2.2.2.2.1, ar (ad 10) cA 640 u.2.2.2.2.2.1, ar (ad 11) cA 20 u.2.2.2.2.2.2.1, ar (ad 12) cA 20 u.2.2.2.2.2.2.2.1, ar (ad 13) cA 20 u.2.2.2.2.2.2.2.2.1, ar (ad 14) cA 20 u.2.2.2.2.2.2.2.2.2.1, oDia ad qe2 u.2.2.2.2.2.2.2.2.2.2.1, ar qe2 cA u.2.2.2.2.2.2.2.2.2.2.2.1 u.2.2.2.2.2.2.2.2.2.2.2.2]) (va_A [oHC ad xHC_first xHC_second xHC_when xHC_ran, oRow ad xRow_depth xRow_length xRow_people xRow_scarves xRow_main xRow_faultPlace, ar (ad 3) cA 20 gRkinds, ar (ad 4) cA 20 gRlates, ar (ad 5) cA 20 gRhands, ar (ad 6) cA 20 gRslow, oST ad xST_sleeper xST_lastDue xST_unreached, ar (ad 10) cA 640 gSTdue, ar (ad 11) cA 20 gSTbusy, ar (ad 12) cA 20 gSTfelt, ar (ad 13) cA 20 gSTlost, ar (ad 14) cA 20 gSTfirst, oDia ad qe xDia_size, ar qe cA ne gDent] sz)) (u.2.2.2.2.2.2.2.2.2.2.2.1 - ne) (2 * (u.2.2.2.2.2.2.2.2.2.2.2.1 - ne)) (va_A [oHC ad xHC_first xHC_second xHC_when xHC_ran, oRow ad xRow_depth xRow_length xRow_people xRow_scarves xRow_main xRow_faultPlace, ar (ad 3) cA 20 gRkinds, ar (ad 4) cA 20 gRlates, ar (ad 5) cA 20 gRhands, ar (ad 6) cA 20 gRslow, oST ad xST_sleeper xST_lastDue xST_unreached, ar (ad 10) cA 640 gSTdue, ar (ad 11) cA 20 gSTbusy, ar (ad 12) cA 20 gSTfelt, ar (ad 13) cA 20 gSTlost, ar (ad 14) cA 20 gSTfirst, oDia ad qe xDia_size, ar qe cA ne gDent] sz) := by
  refine Met.ofW (cc := cX9_last) (maxL := 1) (ret := (some .int)) (by decide) rfl ?_
  intro p e s m args below meth c s₁ B hml hv
  obtain ⟨rfl, hsz, hP, hK, hD0⟩ := hv
  have hx := B.exec
  have hb := B.bytes
  have hr := B.returns
  have hts := atoms_spec (ws := wsX9_last) B.pre
  have hown : s.vm.findClass RX9 = some m.cls := findClass_of_methodNamed B.named
  have hlocks := B.notSynchronized
  subst hsz
  have hD := hD0.self (sz := s.heap.size)
  generalize hAe : va_A [oHC ad xHC_first xHC_second xHC_when xHC_ran, oRow ad xRow_depth xRow_length xRow_people xRow_scarves xRow_main xRow_faultPlace, ar (ad 3) cA 20 gRkinds, ar (ad 4) cA 20 gRlates, ar (ad 5) cA 20 gRhands, ar (ad 6) cA 20 gRslow, oST ad xST_sleeper xST_lastDue xST_unreached, ar (ad 10) cA 640 gSTdue, ar (ad 11) cA 20 gSTbusy, ar (ad 12) cA 20 gSTfelt, ar (ad 13) cA 20 gSTlost, ar (ad 14) cA 20 gSTfirst, oDia ad qe xDia_size, ar qe cA ne gDent] s.heap.size = A at hD ⊢
  have hA : ∀ q : Nat, s.heap.size ≤ q → A q := fun q h => by rw [← hAe]; exact Or.inr h
  have hS : va_S A s.heap s.heap [] := va_S.rf
  have hl := lv_entry ([.ref (ad 0)]) (n := 1) (Nat.le_of_ble_eq_true rfl)
  rw [lg_entry_eq]
  generalize (lg_sl ([.ref (ad 0)]) ++ List.replicate (1 - (lg_sl ([.ref (ad 0)])).length) Slot.unset).toArray = ls at hl ⊢
  have hl : lv_has ls 1 [(0, .ref (ad 0))] := hl
  refine wk_Q (fun QQ hQ => ?_)
  unfold fC_last at hm
  obtain ⟨hz0, hm⟩ := mz_ok hm
  have hz0 : ne ≤ u.2.2.2.2.2.2.2.2.2.2.2.1 := hz0
  refine lv_aload_n hx hb dX9_last_0 rfl (lv_at hl 0 rfl) ?_
  have hPc := hP.sub (ws' := [oHC ad xHC_first xHC_second xHC_when xHC_ran, oRow ad xRow_depth xRow_length xRow_people xRow_scarves xRow_main xRow_faultPlace, ar (ad 3) cA 20 gRkinds, ar (ad 4) cA 20 gRlates, ar (ad 5) cA 20 gRhands, ar (ad 6) cA 20 gRslow, oST ad xST_sleeper xST_lastDue xST_unreached, ar (ad 10) cA 640 gSTdue, ar (ad 11) cA 20 gSTbusy, ar (ad 12) cA 20 gSTfelt, ar (ad 13) cA 20 gSTlost, ar (ad 14) cA 20 gSTfirst, oDia ad qe xDia_size, ar qe cA ne gDent]) [0, 1, 2, 3, 4, 5, 6, 7, 8, 9, 10, 11, 12, 13] rfl
  have hDc := hD.sub (ws' := [oHC ad xHC_first xHC_second xHC_when xHC_ran, oRow ad xRow_depth xRow_length xRow_people xRow_scarves xRow_main xRow_faultPlace, ar (ad 3) cA 20 gRkinds, ar (ad 4) cA 20 gRlates, ar (ad 5) cA 20 gRhands, ar (ad 6) cA 20 gRslow, oST ad xST_sleeper xST_lastDue xST_unreached, ar (ad 10) cA 640 gSTdue, ar (ad 11) cA 20 gSTbusy, ar (ad 12) cA 20 gSTfelt, ar (ad 13) cA 20 gSTlost, ar (ad 14) cA 20 gSTfirst, oDia ad qe xDia_size, ar qe cA ne gDent]) [0, 1, 2, 3, 4, 5, 6, 7, 8, 9, 10, 11, 12, 13] (by decide) rfl
  have hFc := va_free (wc := [oHC ad xHC_first xHC_second xHC_when xHC_ran, oRow ad xRow_depth xRow_length xRow_people xRow_scarves xRow_main xRow_faultPlace, ar (ad 3) cA 20 gRkinds, ar (ad 4) cA 20 gRlates, ar (ad 5) cA 20 gRhands, ar (ad 6) cA 20 gRslow, oST ad xST_sleeper xST_lastDue xST_unreached, ar (ad 10) cA 640 gSTdue, ar (ad 11) cA 20 gSTbusy, ar (ad 12) cA 20 gSTfelt, ar (ad 13) cA 20 gSTlost, ar (ad 14) cA 20 gSTfirst, oDia ad qe xDia_size, ar qe cA ne gDent]) hD hS hA [0, 1, 2, 3, 4, 5, 6, 7, 8, 9, 10, 11, 12, 13] rfl
  obtain ⟨u_1, hc_1, hn1_1, hn2_1, hm⟩ := bm_ok hm
  have hn1_1 : ne ≤ u_1.2.2.2.2.2.2.2.2.2.2.1 := hn1_1
  have hn2_1 : u_1.2.2.2.2.2.2.2.2.2.2.1 ≤ u.2.2.2.2.2.2.2.2.2.2.2.1 := hn2_1
  refine va_callr (va_runV (As := []) (rest := []) ⟨hx, hb, hml, hown, hts⟩ (kC_asTold l dC dI cA ad qe s.heap.size xHC_first xHC_second xHC_when xHC_ran xRow_depth xRow_length xRow_people xRow_scarves xRow_main xRow_faultPlace gRkinds gRlates gRhands gRslow xST_sleeper xST_lastDue xST_unreached gSTdue gSTbusy gSTfelt gSTlost gSTfirst xDia_size ne gDent u_1 hc_1) (cwV 0 hts gX9_last_X9_asTold rfl rfl rfl (by decide +kernel) ⟨Nat.le_of_ble_eq_true rfl, Nat.le_of_ble_eq_true rfl⟩) ⟨fun a U g mk q => by obtain ⟨q0, q1, qP, qK, qD⟩ := q; exact ⟨q0, q1, qP, va_K.moved (u := U) (U := U.calling g mk a) (Vm.Alike.refl U.vm) qK, qD⟩, va_recv hK hPc (ci := 9) (q0 := 0) rfl rfl, fun U hU hW => ⟨rfl, by rw [hU], by rw [hU]; exact hPc, va_K.moved hW.alike hK, hDc.weaken (fun _ _ _ _ => trivial)⟩⟩ rfl rfl hl.1 rfl (lv_room (Nat.le_of_ble_eq_true rfl)) dX9_last_1 ⟨by (show _ ≤ _ - _); omega, by (show _ ≤ 2 * (_ - _)); omega⟩) hS (fun q _ h => hFc q h) hFc (fun qe_1001 ra_1 t H1 locs ht hvm hw hB hz1 hk1 hS => ?_)
  obtain ⟨hra_1, hP1, hK1, hD1⟩ := hB
  subst hra_1
  rw [ht] at hP1
  obtain ⟨hP, hD⟩ := va_join (wr := []) (w1 := [oHC ad xHC_first xHC_second xHC_when u_1.1, oRow ad xRow_depth xRow_length xRow_people xRow_scarves xRow_main xRow_faultPlace, ar (ad 3) cA 20 gRkinds, ar (ad 4) cA 20 gRlates, ar (ad 5) cA 20 gRhands, ar (ad 6) cA 20 gRslow, oST ad u_1.2.1 u_1.2.2.1 u_1.2.2.2.1, ar (ad 10) cA 640 u_1.2.2.2.2.1, ar (ad 11) cA 20 u_1.2.2.2.2.2.1, ar (ad 12) cA 20 u_1.2.2.2.2.2.2.1, ar (ad 13) cA 20 u_1.2.2.2.2.2.2.2.1, ar (ad 14) cA 20 u_1.2.2.2.2.2.2.2.2.1, oDia ad qe_1001 u_1.2.2.2.2.2.2.2.2.2.1, ar qe_1001 cA u_1.2.2.2.2.2.2.2.2.2.2.1 u_1.2.2.2.2.2.2.2.2.2.2.2]) hP hD [0, 1, 2, 3, 4, 5, 6, 7, 8, 9, 10, 11, 12, 13] [] rfl rfl (by decide) (by decide) hk1 hFc hP1 hD1
  clear hPc hDc hFc hP1 hK1 hD1 hk1 hz1 hvm ht
  generalize H1 = H at hP hS ⊢
  have hP : va_P (dC, dI) vwCl [oHC ad xHC_first xHC_second xHC_when u_1.1, oRow ad xRow_depth xRow_length xRow_people xRow_scarves xRow_main xRow_faultPlace, ar (ad 3) cA 20 gRkinds, ar (ad 4) cA 20 gRlates, ar (ad 5) cA 20 gRhands, ar (ad 6) cA 20 gRslow, oST ad u_1.2.1 u_1.2.2.1 u_1.2.2.2.1, ar (ad 10) cA 640 u_1.2.2.2.2.1, ar (ad 11) cA 20 u_1.2.2.2.2.2.1, ar (ad 12) cA 20 u_1.2.2.2.2.2.2.1, ar (ad 13) cA 20 u_1.2.2.2.2.2.2.2.1, ar (ad 14) cA 20 u_1.2.2.2.2.2.2.2.2.1, oDia ad qe_1001 u_1.2.2.2.2.2.2.2.2.2.1, ar qe_1001 cA u_1.2.2.2.2.2.2.2.2.2.2.1 u_1.2.2.2.2.2.2.2.2.2.2.2] H := hP
  have hD : va_D A [oHC ad xHC_first xHC_second xHC_when u_1.1, oRow ad xRow_depth xRow_length xRow_people xRow_scarves xRow_main xRow_faultPlace, ar (ad 3) cA 20 gRkinds, ar (ad 4) cA 20 gRlates, ar (ad 5) cA 20 gRhands, ar (ad 6) cA 20 gRslow, oST ad u_1.2.1 u_1.2.2.1 u_1.2.2.2.1, ar (ad 10) cA 640 u_1.2.2.2.2.1, ar (ad 11) cA 20 u_1.2.2.2.2.2.1, ar (ad 12) cA 20 u_1.2.2.2.2.2.2.1, ar (ad 13) cA 20 u_1.2.2.2.2.2.2.2.1, ar (ad 14) cA 20 u_1.2.2.2.2.2.2.2.2.1, oDia ad qe_1001 u_1.2.2.2.2.2.2.2.2.2.1, ar qe_1001 cA u_1.2.2.2.2.2.2.2.2.2.2.1 u_1.2.2.2.2.2.2.2.2.2.2.2] := hD
  refine W.widen (k := u_1.2.2.2.2.2.2.2.2.2.2.1 - ne) (n := 2 * (u_1.2.2.2.2.2.2.2.2.2.2.1 - ne)) (by omega) (by omega) ?_
  have hPc := hP.sub (ws' := [oRow ad xRow_depth xRow_length xRow_people xRow_scarves xRow_main xRow_faultPlace, oST ad u_1.2.1 u_1.2.2.1 u_1.2.2.2.1, ar (ad 14) cA 20 u_1.2.2.2.2.2.2.2.2.1]) [1, 6, 11] rfl
  have hDc := hD.sub (ws' := [oRow ad xRow_depth xRow_length xRow_people xRow_scarves xRow_main xRow_faultPlace, oST ad u_1.2.1 u_1.2.2.1 u_1.2.2.2.1, ar (ad 14) cA 20 u_1.2.2.2.2.2.2.2.2.1]) [1, 6, 11] (by decide) rfl
  have hFc := va_free (wc := [oRow ad xRow_depth xRow_length xRow_people xRow_scarves xRow_main xRow_faultPlace, oST ad u_1.2.1 u_1.2.2.1 u_1.2.2.2.1, ar (ad 14) cA 20 u_1.2.2.2.2.2.2.2.2.1]) hD hS hA [1, 6, 11] rfl
  obtain ⟨u_2, hc_2, hm⟩ := bd_ok hm
  refine va_calli (va_runV (As := []) (rest := []) ⟨hx, hb, hml, hown, hts⟩ (kS_lastTime_T l dC dI cA ad H.size xRow_depth xRow_length xRow_people xRow_scarves xRow_main xRow_faultPlace u_1.2.1 u_1.2.2.1 u_1.2.2.2.1 u_1.2.2.2.2.2.2.2.2.1 u_2 hc_2) (cwV 0 hts gX9_last_X8_lastTime rfl rfl rfl (by decide +kernel) ⟨Nat.le_of_ble_eq_true rfl, Nat.le_of_ble_eq_true rfl⟩) ⟨fun a U g mk q => by obtain ⟨q0, q1, qP, qK, qD⟩ := q; exact ⟨q0, q1, qP, va_K.moved (u := U) (U := U.calling g mk a) (Vm.Alike.refl U.vm) qK, qD⟩, va_recv hK hPc (ci := 8) (q0 := 1) rfl rfl, fun U hU hW => ⟨rfl, by rw [hU], by rw [hU]; exact hPc, va_K.moved hW.alike hK, hDc.weaken (fun _ _ _ _ => trivial)⟩⟩ rfl rfl hl.1 rfl (lv_room (Nat.le_of_ble_eq_true rfl)) dX9_last_4 ⟨by (show _ ≤ _ - _); omega, by (show _ ≤ 2 * (_ - _)); omega⟩) hS (fun q _ h => hFc q h) hFc (fun r_2 _ t H1 locs ht hvm hw hB hz1 hk1 hS => ?_)
  obtain ⟨hP1, hK1, hD1⟩ := hB
  rw [ht] at hP1
  obtain ⟨hP, hD⟩ := va_join (wr := [oHC ad xHC_first xHC_second xHC_when u_1.1, ar (ad 3) cA 20 gRkinds, ar (ad 4) cA 20 gRlates, ar (ad 5) cA 20 gRhands, ar (ad 6) cA 20 gRslow, ar (ad 10) cA 640 u_1.2.2.2.2.1, ar (ad 11) cA 20 u_1.2.2.2.2.2.1, ar (ad 12) cA 20 u_1.2.2.2.2.2.2.1, ar (ad 13) cA 20 u_1.2.2.2.2.2.2.2.1, oDia ad qe_1001 u_1.2.2.2.2.2.2.2.2.2.1, ar qe_1001 cA u_1.2.2.2.2.2.2.2.2.2.2.1 u_1.2.2.2.2.2.2.2.2.2.2.2]) (w1 := [oRow ad xRow_depth xRow_length xRow_people xRow_scarves xRow_main xRow_faultPlace, oST ad u_1.2.1 u_1.2.2.1 u_1.2.2.2.1, ar (ad 14) cA 20 u_1.2.2.2.2.2.2.2.2.1]) hP hD [1, 6, 11] [0, 2, 3, 4, 5, 7, 8, 9, 10, 12, 13] rfl rfl (by decide) (by decide) hk1 hFc hP1 hD1
  clear hPc hDc hFc hP1 hK1 hD1 hk1 hz1 hvm ht
  generalize H1 = H at hP hS ⊢
  have hP : va_P (dC, dI) vwCl [oHC ad xHC_first xHC_second xHC_when u_1.1, oRow ad xRow_depth xRow_length xRow_people xRow_scarves xRow_main xRow_faultPlace, ar (ad 3) cA 20 gRkinds, ar (ad 4) cA 20 gRlates, ar (ad 5) cA 20 gRhands, ar (ad 6) cA 20 gRslow, oST ad u_1.2.1 u_1.2.2.1 u_1.2.2.2.1, ar (ad 10) cA 640 u_1.2.2.2.2.1, ar (ad 11) cA 20 u_1.2.2.2.2.2.1, ar (ad 12) cA 20 u_1.2.2.2.2.2.2.1, ar (ad 13) cA 20 u_1.2.2.2.2.2.2.2.1, ar (ad 14) cA 20 u_1.2.2.2.2.2.2.2.2.1, oDia ad qe_1001 u_1.2.2.2.2.2.2.2.2.2.1, ar qe_1001 cA u_1.2.2.2.2.2.2.2.2.2.2.1 u_1.2.2.2.2.2.2.2.2.2.2.2] H := hP.sub [0, 11, 1, 2, 3, 4, 12, 5, 6, 7, 8, 13, 9, 10] rfl
  have hD : va_D A [oHC ad xHC_first xHC_second xHC_when u_1.1, oRow ad xRow_depth xRow_length xRow_people xRow_scarves xRow_main xRow_faultPlace, ar (ad 3) cA 20 gRkinds, ar (ad 4) cA 20 gRlates, ar (ad 5) cA 20 gRhands, ar (ad 6) cA 20 gRslow, oST ad u_1.2.1 u_1.2.2.1 u_1.2.2.2.1, ar (ad 10) cA 640 u_1.2.2.2.2.1, ar (ad 11) cA 20 u_1.2.2.2.2.2.1, ar (ad 12) cA 20 u_1.2.2.2.2.2.2.1, ar (ad 13) cA 20 u_1.2.2.2.2.2.2.2.1, ar (ad 14) cA 20 u_1.2.2.2.2.2.2.2.2.1, oDia ad qe_1001 u_1.2.2.2.2.2.2.2.2.2.1, ar qe_1001 cA u_1.2.2.2.2.2.2.2.2.2.2.1 u_1.2.2.2.2.2.2.2.2.2.2.2] := hD.sub [0, 11, 1, 2, 3, 4, 12, 5, 6, 7, 8, 13, 9, 10] (by decide) rfl
  have hw := hw.symm
  subst hw
  obtain rfl := Option.some.inj hm
  subst hQ
  refine W.widen (k := u_1.2.2.2.2.2.2.2.2.2.2.1 - ne) (n := 2 * (u_1.2.2.2.2.2.2.2.2.2.2.1 - ne)) (by first | exact Nat.le_refl _ | omega) (by first | exact Nat.le_refl _ | omega) ?_
  exact W.iret (v := u_2) hx hb hr (fun t ht hW => ⟨⟨_, qe_1001, rfl, rfl, by rw [ht]; exact hP, va_K.moved hW.alike hK, hAe ▸ hD⟩, hS.F ht⟩) hS.2.2 dX9_last_7

set_option maxHeartbeats 4000000 in
set_option maxRecDepth 100000 in
theorem kS_twiceBits_T (l : Launch) (dC : Nat → ClassId) (dI : Nat → Nat → Nat) (cA : ClassId) (ad : Nat → Nat) (sz : Nat) (xRow_depth : Int32) (xRow_length : Int32) (xRow_people : Int32) (xRow_scarves : Int32) (xRow_main : Int32) (xRow_faultPlace : Int32) (xST_sleeper : Int32) (xST_lastDue : Int32) (xST_unreached : Int32) (gSTfelt : Nat → Int32) (u : Int32) (hm : fS_twiceBits_T xRow_people gSTfelt = some u) : Met l yX8_twiceBits wsX8_twiceBits ({ frames := 1, cells := 0, slots := 0, locals := 23 }) (va_Pc [.ref (ad 9)] (fun U => U.heap.size = sz ∧ va_P (dC, dI) vwCl [oRow ad xRow_depth xRow_length xRow_people xRow_scarves xRow_main xRow_faultPlace, oST ad xST_sleeper xST_lastDue xST_unreached, ar (ad 12) cA 20 gSTfelt] U.heap ∧ va_K (dC, dI) vwCl [(cA, .int)] U ∧ va_D (fun _ => True) [oRow ad xRow_depth xRow_length xRow_people xRow_scarves xRow_main xRow_faultPlace, oST ad xST_sleeper xST_lastDue xST_unreached, ar (ad 12) cA 20 gSTfelt])) (va_Qi (fun (r : Int32) (_ : Unit) => r = u) (fun (_ : Unit) t => va_P (dC, dI) vwCl [oRow ad xRow_depth xRow_length xRow_people xRow_scarves xRow_main xRow_faultPlace, oST ad xST_sleeper xST_lastDue xST_unreached, ar (ad 12) cA 20 gSTfelt] t.heap ∧ va_K (dC, dI) vwCl [(cA, .int)] t ∧ va_D (va_A [oRow ad xRow_depth xRow_length xRow_people xRow_scarves xRow_main xRow_faultPlace, oST ad xST_sleeper xST_lastDue xST_unreached, ar (ad 12) cA 20 gSTfelt] sz) [oRow ad xRow_depth xRow_length xRow_people xRow_scarves xRow_main xRow_faultPlace, oST ad xST_sleeper xST_lastDue xST_unreached, ar (ad 12) cA 20 gSTfelt]) (va_A [oRow ad xRow_depth xRow_length xRow_people xRow_scarves xRow_main xRow_faultPlace, oST ad xST_sleeper xST_lastDue xST_unreached, ar (ad 12) cA 20 gSTfelt] sz)) 0 0 (va_A [oRow ad xRow_depth xRow_length xRow_people xRow_scarves xRow_main xRow_faultPlace, oST ad xST_sleeper xST_lastDue xST_unreached, ar (ad 12) cA 20 gSTfelt] sz) := by
  refine Met.ofW (cc := cX8_twiceBits) (maxL := 1) (ret := (some .int)) (by decide) rfl ?_
  intro p e s m args below meth c s₁ B hml hv
  obtain ⟨rfl, hsz, hP, hK, hD0⟩ := hv
  have hx := B.exec
  have hb := B.bytes
  have hr := B.returns
  have hts := atoms_spec (ws := wsX8_twiceBits) B.pre
  have hown : s.vm.findClass RX8 = some m.cls := findClass_of_methodNamed B.named
  have hlocks := B.notSynchronized
  subst hsz
  have hD := hD0.self (sz := s.heap.size)
  generalize hAe : va_A [oRow ad xRow_depth xRow_length xRow_people xRow_scarves xRow_main xRow_faultPlace, oST ad xST_sleeper xST_lastDue xST_unreached, ar (ad 12) cA 20 gSTfelt] s.heap.size = A at hD ⊢
  have hA : ∀ q : Nat, s.heap.size ≤ q → A q := fun q h => by rw [← hAe]; exact Or.inr h
  have hS : va_S A s.heap s.heap [] := va_S.rf
  have hl := lv_entry ([.ref (ad 9)]) (n := 1) (Nat.le_of_ble_eq_true rfl)
  rw [lg_entry_eq]
  generalize (lg_sl ([.ref (ad 9)]) ++ List.replicate (1 - (lg_sl ([.ref (ad 9)])).length) Slot.unset).toArray = ls at hl ⊢
  have hl : lv_has ls 1 [(0, .ref (ad 9))] := hl
  refine wk_Q (fun QQ hQ => ?_)
  unfold fS_twiceBits_T at hm
  refine lv_aload_n hx hb dX8_twiceBits_0 rfl (lv_at hl 0 rfl) ?_
  refine lv_iconst (v := 2) hx hb dX8_twiceBits_1 (by decide) ?_
  have hPc := hP.sub (ws' := [oRow ad xRow_depth xRow_length xRow_people xRow_scarves xRow_main xRow_faultPlace, oST ad xST_sleeper xST_lastDue xST_unreached, ar (ad 12) cA 20 gSTfelt]) [0, 1, 2] rfl
  have hDc := hD.sub (ws' := [oRow ad xRow_depth xRow_length xRow_people xRow_scarves xRow_main xRow_faultPlace, oST ad xST_sleeper xST_lastDue xST_unreached, ar (ad 12) cA 20 gSTfelt]) [0, 1, 2] (by decide) rfl
  have hFc := va_free (wc := [oRow ad xRow_depth xRow_length xRow_people xRow_scarves xRow_main xRow_faultPlace, oST ad xST_sleeper xST_lastDue xST_unreached, ar (ad 12) cA 20 gSTfelt]) hD hS hA [0, 1, 2] rfl
  obtain ⟨u_1, hc_1, hm⟩ := bd_ok hm
  refine va_calli (va_runV (As := [.int 2]) (rest := []) ⟨hx, hb, hml, hown, hts⟩ (kS_feltAtLeast_T l dC dI cA ad s.heap.size 2 xRow_depth xRow_length xRow_people xRow_scarves xRow_main xRow_faultPlace xST_sleeper xST_lastDue xST_unreached gSTfelt u_1 hc_1) (cwV 1 hts gX8_twiceBits_X8_feltAtLeast rfl rfl rfl (by decide +kernel) ⟨Nat.le_of_ble_eq_true rfl, Nat.le_of_ble_eq_true rfl⟩) ⟨fun a U g mk q => by obtain ⟨q0, q1, qP, qK, qD⟩ := q; exact ⟨q0, q1, qP, va_K.moved (u := U) (U := U.calling g mk a) (Vm.Alike.refl U.vm) qK, qD⟩, va_recv hK hPc (ci := 8) (q0 := 1) rfl rfl, fun U hU hW => ⟨rfl, by rw [hU], by rw [hU]; exact hPc, va_K.moved hW.alike hK, hDc.weaken (fun _ _ _ _ => trivial)⟩⟩ rfl rfl hl.1 rfl (lv_room (Nat.le_of_ble_eq_true rfl)) dX8_twiceBits_2 ⟨Nat.le_of_ble_eq_true rfl, Nat.le_of_ble_eq_true rfl⟩) hS (fun q _ h => hFc q h) hFc (fun r_1 _ t H1 locs ht hvm hw hB hz1 hk1 hS => ?_)
  obtain ⟨hP1, hK1, hD1⟩ := hB
  rw [ht] at hP1
  obtain ⟨hP, hD⟩ := va_join (wr := []) (w1 := [oRow ad xRow_depth xRow_length xRow_people xRow_scarves xRow_main xRow_faultPlace, oST ad xST_sleeper xST_lastDue xST_unreached, ar (ad 12) cA 20 gSTfelt]) hP hD [0, 1, 2] [] rfl rfl (by decide) (by decide) hk1 hFc hP1 hD1
  clear hPc hDc hFc hP1 hK1 hD1 hk1 hz1 hvm ht
  generalize H1 = H at hP hS ⊢
  have hP : va_P (dC, dI) vwCl [oRow ad xRow_depth xRow_length xRow_people xRow_scarves xRow_main xRow_faultPlace, oST ad xST_sleeper xST_lastDue xST_unreached, ar (ad 12) cA 20 gSTfelt] H := hP
  have hD : va_D A [oRow ad xRow_depth xRow_length xRow_people xRow_scarves xRow_main xRow_faultPlace, oST ad xST_sleeper xST_lastDue xST_unreached, ar (ad 12) cA 20 gSTfelt] := hD
  have hw := hw.symm
  subst hw
  obtain rfl := Option.some.inj hm
  subst hQ
  exact W.iret (v := u_1) hx hb hr (fun t ht hW => ⟨⟨_, (), rfl, rfl, by rw [ht]; exact hP, va_K.moved hW.alike hK, hAe ▸ hD⟩, hS.F ht⟩) hS.2.2 dX8_twiceBits_5

set_option maxHeartbeats 4000000 in
set_option maxRecDepth 100000 in
theorem kC_twice (l : Launch) (dC : Nat → ClassId) (dI : Nat → Nat → Nat) (cA : ClassId) (ad : Nat → Nat) (qe : Nat) (sz : Nat) (xHC_first : Int32) (xHC_second : Int32) (xHC_when : Int32) (xHC_ran : Int32) (xRow_depth : Int32) (xRow_length : Int32) (xRow_people : Int32) (xRow_scarves : Int32) (xRow_main : Int32) (xRow_faultPlace : Int32) (gRkinds : Nat → Int32) (gRlates : Nat → Int32) (gRhands : Nat → Int32) (gRslow : Nat → Int32) (xST_sleeper : Int32) (xST_lastDue : Int32) (xST_unreached : Int32) (gSTdue : Nat → Int32) (gSTbusy : Nat → Int32) (gSTfelt : Nat → Int32) (gSTlost : Nat → Int32) (gSTfirst : Nat → Int32) (xDia_size : Int32) (ne : Nat) (gDent : Nat → Int32) (u : Int32 × Int32 × Int32 × Int32 × Int32 × (Nat → Int32) × (Nat → Int32) × (Nat → Int32) × (Nat → Int32) × (Nat → Int32) × Int32 × Nat × (Nat → Int32)) (hm : fC_twice xHC_first xHC_second xHC_when xHC_ran xRow_people gRkinds gRlates gRhands gRslow xST_sleeper xST_lastDue xST_unreached gSTdue gSTbusy gSTfelt gSTlost gSTfirst xDia_size ne gDent = some u) : Met l yX9_twice wsX9_twice ({ frames := 5, cells := (u.2.2.2.2.2.2.2.2.2.2.2.1 - ne), slots := (2 * (u.2.2.2.2.2.2.2.2.2.2.2.1 - ne)), locals := 123 }) (va_Pc [.ref (ad 0)] (fun U => U.heap.size = sz ∧ va_P (dC, dI) vwCl [oHC ad xHC_first xHC_second xHC_when xHC_ran, oRow ad xRow_depth xRow_length xRow_people xRow_scarves xRow_main xRow_faultPlace, ar (ad 3) cA 20 gRkinds, ar (ad 4) cA 20 gRlates, ar (ad 5) cA 20 gRhands, ar (ad 6) cA 20 gRslow, oST ad xST_sleeper xST_lastDue xST_unreached, ar (ad 10) cA 640 gSTdue, ar (ad 11) cA 20 gSTbusy, ar (ad 12) cA 20 gSTfelt, ar (ad 13) cA 20 gSTlost, ar (ad 14) cA 20 gSTfirst, oDia ad qe xDia_size, ar qe cA ne gDent] U.heap ∧ va_K (dC, dI) vwCl [(cA, .int)] U ∧ va_D (fun _ => True) [oHC ad xHC_first xHC_second xHC_when xHC_ran, oRow ad xRow_depth xRow_length xRow_people xRow_scarves xRow_main xRow_faultPlace, ar (ad 3) cA 20 gRkinds, ar (ad 4) cA 20 gRlates, ar (ad 5) cA 20 gRhands, ar (ad 6) cA 20 gRslow, oST ad xST_sleeper xST_lastDue xST_unreached, ar (ad 10) cA 640 gSTdue, ar (ad 11) cA 20 gSTbusy, ar (ad 12) cA 20 gSTfelt, ar (ad 13) cA 20 gSTlost, ar (ad 14) cA 20 gSTfirst, oDia ad qe xDia_size, ar qe cA ne gDent])) (va_Qi (fun (r : Int32) (_ : Nat) => r = u.1) (fun (qe2 : Nat) t => va_P (dC, dI) vwCl [oHC ad xHC_first xHC_second xHC_when u.2.1, oRow ad xRow_depth xRow_length xRow_people xRow_scarves xRow_main xRow_faultPlace, ar (ad 3) cA 20 gRkinds, ar (ad 4) cA 20 gRlates, ar (ad 5) cA 20 gRhands, ar (ad 6) cA 20 gRslow, oST ad u.2.2.1 u.2.2.2.1 u.2.2.2.2.1, ar (ad 10) cA 640 u.2.2.2.2.2.1, ar (ad 11) cA 20 u.2.2.2.2.2.2.1, ar (ad 12) cA 20 u.2.2.2.2.2.2.2.1, ar (ad 13) cA 20 u.2.2.2.2.2.2.2.2.1, ar (ad 14) cA 20 u.2.2.2.2.2.2.2.2.2.1, oDia ad qe2 u.2.2.2.2.2.2.2.2.2.2.1, ar qe2 cA u.2.2.2.2.2.2.2.2.2.2.2.1 u.2.2.2.2.2.2.2.2.2.2.2.2] t.heap ∧ va_K (dC, dI) vwCl [(cA, .int)] t ∧ va_D (va_A [oHC ad xHC_first xHC_second xHC_when xHC_ran, oRow ad xRow_depth xRow_length xRow_people xRow_scarves xRow_main xRow_faultPlace, ar (ad 3) cA 20 gRkinds, ar (ad 4) cA 20 gRlates, ar (ad 5) cA 20 gRhands, ar (ad 6) cA 20 gRslow, oST ad xST_sleeper xST_lastDue xST_unreached, ar (ad 10) cA 640 gSTdue, ar (ad 11) cA 20 gSTbusy, ar (ad 12) cA 20 gSTfelt, ar (ad 13) cA 20 gSTlost, ar (ad 14) cA 20 gSTfirst, oDia ad qe xDia_size, ar qe cA ne gDent] sz) [oHC ad xHC_first xHC_second xHC_when u.2.1, oRow ad xRow_depth xRow_length xRow_people xRow_scarves xRow_main xRow_faultPlace, ar (ad 3) cA 20 gRkinds, ar (ad 4) cA 20 gRlates, ar (ad 5) cA 20 gRhands, ar (ad 6) cA 20 gRslow, oST ad u.2.2.1 u.2.2.2.1 u.2.2.2.2.1, ar (ad 10) cA 640 u.2.2.2.2.2.1, ar (ad 11) cA 20 u.2.2.2.2.2.2.1, ar (ad 12) cA 20 u.2.2.2.2.2.2.2.1, ar (ad 13) cA 20 u.2.2.2.2.2.2.2.2.1, ar (ad 14) cA 20 u.2.2.2.2.2.2.2.2.2.1, oDia ad qe2 u.2.2.2.2.2.2.2.2.2.2.1, ar qe2 cA u.2.2.2.2.2.2.2.2.2.2.2.1 u.2.2.2.2.2.2.2.2.2.2.2.2]) (va_A [oHC ad xHC_first xHC_second xHC_when xHC_ran, oRow ad xRow_depth xRow_length xRow_people xRow_scarves xRow_main xRow_faultPlace, ar (ad 3) cA 20 gRkinds, ar (ad 4) cA 20 gRlates, ar (ad 5) cA 20 gRhands, ar (ad 6) cA 20 gRslow, oST ad xST_sleeper xST_lastDue xST_unreached, ar (ad 10) cA 640 gSTdue, ar (ad 11) cA 20 gSTbusy, ar (ad 12) cA 20 gSTfelt, ar (ad 13) cA 20 gSTlost, ar (ad 14) cA 20 gSTfirst, oDia ad qe xDia_size, ar qe cA ne gDent] sz)) (u.2.2.2.2.2.2.2.2.2.2.2.1 - ne) (2 * (u.2.2.2.2.2.2.2.2.2.2.2.1 - ne)) (va_A [oHC ad xHC_first xHC_second xHC_when xHC_ran, oRow ad xRow_depth xRow_length xRow_people xRow_scarves xRow_main xRow_faultPlace, ar (ad 3) cA 20 gRkinds, ar (ad 4) cA 20 gRlates, ar (ad 5) cA 20 gRhands, ar (ad 6) cA 20 gRslow, oST ad xST_sleeper xST_lastDue xST_unreached, ar (ad 10) cA 640 gSTdue, ar (ad 11) cA 20 gSTbusy, ar (ad 12) cA 20 gSTfelt, ar (ad 13) cA 20 gSTlost, ar (ad 14) cA 20 gSTfirst, oDia ad qe xDia_size, ar qe cA ne gDent] sz) := by
  refine Met.ofW (cc := cX9_twice) (maxL := 1) (ret := (some .int)) (by decide) rfl ?_
  intro p e s m args below meth c s₁ B hml hv
  obtain ⟨rfl, hsz, hP, hK, hD0⟩ := hv
  have hx := B.exec
  have hb := B.bytes
  have hr := B.returns
  have hts := atoms_spec (ws := wsX9_twice) B.pre
  have hown : s.vm.findClass RX9 = some m.cls := findClass_of_methodNamed B.named
  have hlocks := B.notSynchronized
  subst hsz
  have hD := hD0.self (sz := s.heap.size)
  generalize hAe : va_A [oHC ad xHC_first xHC_second xHC_when xHC_ran, oRow ad xRow_depth xRow_length xRow_people xRow_scarves xRow_main xRow_faultPlace, ar (ad 3) cA 20 gRkinds, ar (ad 4) cA 20 gRlates, ar (ad 5) cA 20 gRhands, ar (ad 6) cA 20 gRslow, oST ad xST_sleeper xST_lastDue xST_unreached, ar (ad 10) cA 640 gSTdue, ar (ad 11) cA 20 gSTbusy, ar (ad 12) cA 20 gSTfelt, ar (ad 13) cA 20 gSTlost, ar (ad 14) cA 20 gSTfirst, oDia ad qe xDia_size, ar qe cA ne gDent] s.heap.size = A at hD ⊢
  have hA : ∀ q : Nat, s.heap.size ≤ q → A q := fun q h => by rw [← hAe]; exact Or.inr h
  have hS : va_S A s.heap s.heap [] := va_S.rf
  have hl := lv_entry ([.ref (ad 0)]) (n := 1) (Nat.le_of_ble_eq_true rfl)
  rw [lg_entry_eq]
  generalize (lg_sl ([.ref (ad 0)]) ++ List.replicate (1 - (lg_sl ([.ref (ad 0)])).length) Slot.unset).toArray = ls at hl ⊢
  have hl : lv_has ls 1 [(0, .ref (ad 0))] := hl
  refine wk_Q (fun QQ hQ => ?_)
  unfold fC_twice at hm
  obtain ⟨hz0, hm⟩ := mz_ok hm
  have hz0 : ne ≤ u.2.2.2.2.2.2.2.2.2.2.2.1 := hz0
  refine lv_aload_n hx hb dX9_twice_0 rfl (lv_at hl 0 rfl) ?_
  have hPc := hP.sub (ws' := [oHC ad xHC_first xHC_second xHC_when xHC_ran, oRow ad xRow_depth xRow_length xRow_people xRow_scarves xRow_main xRow_faultPlace, ar (ad 3) cA 20 gRkinds, ar (ad 4) cA 20 gRlates, ar (ad 5) cA 20 gRhands, ar (ad 6) cA 20 gRslow, oST ad xST_sleeper xST_lastDue xST_unreached, ar (ad 10) cA 640 gSTdue, ar (ad 11) cA 20 gSTbusy, ar (ad 12) cA 20 gSTfelt, ar (ad 13) cA 20 gSTlost, ar (ad 14) cA 20 gSTfirst, oDia ad qe xDia_size, ar qe cA ne gDent]) [0, 1, 2, 3, 4, 5, 6, 7, 8, 9, 10, 11, 12, 13] rfl
  have hDc := hD.sub (ws' := [oHC ad xHC_first xHC_second xHC_when xHC_ran, oRow ad xRow_depth xRow_length xRow_people xRow_scarves xRow_main xRow_faultPlace, ar (ad 3) cA 20 gRkinds, ar (ad 4) cA 20 gRlates, ar (ad 5) cA 20 gRhands, ar (ad 6) cA 20 gRslow, oST ad xST_sleeper xST_lastDue xST_unreached, ar (ad 10) cA 640 gSTdue, ar (ad 11) cA 20 gSTbusy, ar (ad 12) cA 20 gSTfelt, ar (ad 13) cA 20 gSTlost, ar (ad 14) cA 20 gSTfirst, oDia ad qe xDia_size, ar qe cA ne gDent]) [0, 1, 2, 3, 4, 5, 6, 7, 8, 9, 10, 11, 12, 13] (by decide) rfl
  have hFc := va_free (wc := [oHC ad xHC_first xHC_second xHC_when xHC_ran, oRow ad xRow_depth xRow_length xRow_people xRow_scarves xRow_main xRow_faultPlace, ar (ad 3) cA 20 gRkinds, ar (ad 4) cA 20 gRlates, ar (ad 5) cA 20 gRhands, ar (ad 6) cA 20 gRslow, oST ad xST_sleeper xST_lastDue xST_unreached, ar (ad 10) cA 640 gSTdue, ar (ad 11) cA 20 gSTbusy, ar (ad 12) cA 20 gSTfelt, ar (ad 13) cA 20 gSTlost, ar (ad 14) cA 20 gSTfirst, oDia ad qe xDia_size, ar qe cA ne gDent]) hD hS hA [0, 1, 2, 3, 4, 5, 6, 7, 8, 9, 10, 11, 12, 13] rfl
  obtain ⟨u_1, hc_1, hn1_1, hn2_1, hm⟩ := bm_ok hm
  have hn1_1 : ne ≤ u_1.2.2.2.2.2.2.2.2.2.2.1 := hn1_1
  have hn2_1 : u_1.2.2.2.2.2.2.2.2.2.2.1 ≤ u.2.2.2.2.2.2.2.2.2.2.2.1 := hn2_1
  refine va_callr (va_runV (As := []) (rest := []) ⟨hx, hb, hml, hown, hts⟩ (kC_asTold l dC dI cA ad qe s.heap.size xHC_first xHC_second xHC_when xHC_ran xRow_depth xRow_length xRow_people xRow_scarves xRow_main xRow_faultPlace gRkinds gRlates gRhands gRslow xST_sleeper xST_lastDue xST_unreached gSTdue gSTbusy gSTfelt gSTlost gSTfirst xDia_size ne gDent u_1 hc_1) (cwV 0 hts gX9_twice_X9_asTold rfl rfl rfl (by decide +kernel) ⟨Nat.le_of_ble_eq_true rfl, Nat.le_of_ble_eq_true rfl⟩) ⟨fun a U g mk q => by obtain ⟨q0, q1, qP, qK, qD⟩ := q; exact ⟨q0, q1, qP, va_K.moved (u := U) (U := U.calling g mk a) (Vm.Alike.refl U.vm) qK, qD⟩, va_recv hK hPc (ci := 9) (q0 := 0) rfl rfl, fun U hU hW => ⟨rfl, by rw [hU], by rw [hU]; exact hPc, va_K.moved hW.alike hK, hDc.weaken (fun _ _ _ _ => trivial)⟩⟩ rfl rfl hl.1 rfl (lv_room (Nat.le_of_ble_eq_true rfl)) dX9_twice_1 ⟨by (show _ ≤ _ - _); omega, by (show _ ≤ 2 * (_ - _)); omega⟩) hS (fun q _ h => hFc q h) hFc (fun qe_1001 ra_1 t H1 locs ht hvm hw hB hz1 hk1 hS => ?_)
  obtain ⟨hra_1, hP1, hK1, hD1⟩ := hB
  subst hra_1
  rw [ht] at hP1
  obtain ⟨hP, hD⟩ := va_join (wr := []) (w1 := [oHC ad xHC_first xHC_second xHC_when u_1.1, oRow ad xRow_depth xRow_length xRow_people xRow_scarves xRow_main xRow_faultPlace, ar (ad 3) cA 20 gRkinds, ar (ad 4) cA 20 gRlates, ar (ad 5) cA 20 gRhands, ar (ad 6) cA 20 gRslow, oST ad u_1.2.1 u_1.2.2.1 u_1.2.2.2.1, ar (ad 10) cA 640 u_1.2.2.2.2.1, ar (ad 11) cA 20 u_1.2.2.2.2.2.1, ar (ad 12) cA 20 u_1.2.2.2.2.2.2.1, ar (ad 13) cA 20 u_1.2.2.2.2.2.2.2.1, ar (ad 14) cA 20 u_1.2.2.2.2.2.2.2.2.1, oDia ad qe_1001 u_1.2.2.2.2.2.2.2.2.2.1, ar qe_1001 cA u_1.2.2.2.2.2.2.2.2.2.2.1 u_1.2.2.2.2.2.2.2.2.2.2.2]) hP hD [0, 1, 2, 3, 4, 5, 6, 7, 8, 9, 10, 11, 12, 13] [] rfl rfl (by decide) (by decide) hk1 hFc hP1 hD1
  clear hPc hDc hFc hP1 hK1 hD1 hk1 hz1 hvm ht
  generalize H1 = H at hP hS ⊢
  have hP : va_P (dC, dI) vwCl [oHC ad xHC_first xHC_second xHC_when u_1.1, oRow ad xRow_depth xRow_length xRow_people xRow_scarves xRow_main xRow_faultPlace, ar (ad 3) cA 20 gRkinds, ar (ad 4) cA 20 gRlates, ar (ad 5) cA 20 gRhands, ar (ad 6) cA 20 gRslow, oST ad u_1.2.1 u_1.2.2.1 u_1.2.2.2.1, ar (ad 10) cA 640 u_1.2.2.2.2.1, ar (ad 11) cA 20 u_1.2.2.2.2.2.1, ar (ad 12) cA 20 u_1.2.2.2.2.2.2.1, ar (ad 13) cA 20 u_1.2.2.2.2.2.2.2.1, ar (ad 14) cA 20 u_1.2.2.2.2.2.2.2.2.1, oDia ad qe_1001 u_1.2.2.2.2.2.2.2.2.2.1, ar qe_1001 cA u_1.2.2.2.2.2.2.2.2.2.2.1 u_1.2.2.2.2.2.2.2.2.2.2.2] H := hP
  have hD : va_D A [oHC ad xHC_first xHC_second xHC_when u_1.1, oRow ad xRow_depth xRow_length xRow_people xRow_scarves xRow_main xRow_faultPlace, ar (ad 3) cA 20 gRkinds, ar (ad 4) cA 20 gRlates, ar (ad 5) cA 20 gRhands, ar (ad 6) cA 20 gRslow, oST ad u_1.2.1 u_1.2.2.1 u_1.2.2.2.1, ar (ad 10) cA 640 u_1.2.2.2.2.1, ar (ad 11) cA 20 u_1.2.2.2.2.2.1, ar (ad 12) cA 20 u_1.2.2.2.2.2.2.1, ar (ad 13) cA 20 u_1.2.2.2.2.2.2.2.1, ar (ad 14) cA 20 u_1.2.2.2.2.2.2.2.2.1, oDia ad qe_1001 u_1.2.2.2.2.2.2.2.2.2.1, ar qe_1001 cA u_1.2.2.2.2.2.2.2.2.2.2.1 u_1.2.2.2.2.2.2.2.2.2.2.2] := hD
  refine W.widen (k := u_1.2.2.2.2.2.2.2.2.2.2.1 - ne) (n := 2 * (u_1.2.2.2.2.2.2.2.2.2.2.1 - ne)) (by omega) (by omega) ?_
  have hPc := hP.sub (ws' := [oRow ad xRow_depth xRow_length xRow_people xRow_scarves xRow_main xRow_faultPlace, oST ad u_1.2.1 u_1.2.2.1 u_1.2.2.2.1, ar (ad 12) cA 20 u_1.2.2.2.2.2.2.1]) [1, 6, 9] rfl
  have hDc := hD.sub (ws' := [oRow ad xRow_depth xRow_length xRow_people xRow_scarves xRow_main xRow_faultPlace, oST ad u_1.2.1 u_1.2.2.1 u_1.2.2.2.1, ar (ad 12) cA 20 u_1.2.2.2.2.2.2.1]) [1, 6, 9] (by decide) rfl
  have hFc := va_free (wc := [oRow ad xRow_depth xRow_length xRow_people xRow_scarves xRow_main xRow_faultPlace, oST ad u_1.2.1 u_1.2.2.1 u_1.2.2.2.1, ar (ad 12) cA 20 u_1.2.2.2.2.2.2.1]) hD hS hA [1, 6, 9] rfl
  obtain ⟨u_2, hc_2, hm⟩ := bd_ok hm
  refine va_calli (va_runV (As := []) (rest := []) ⟨hx, hb, hml, hown, hts⟩ (kS_twiceBits_T l dC dI cA ad H.size xRow_depth xRow_length xRow_people xRow_scarves xRow_main xRow_faultPlace u_1.2.1 u_1.2.2.1 u_1.2.2.2.1 u_1.2.2.2.2.2.2.1 u_2 hc_2) (cwV 0 hts gX9_twice_X8_twiceBits rfl rfl rfl (by decide +kernel) ⟨Nat.le_of_ble_eq_true rfl, Nat.le_of_ble_eq_true rfl⟩) ⟨fun a U g mk q => by obtain ⟨q0, q1, qP, qK, qD⟩ := q; exact ⟨q0, q1, qP, va_K.moved (u := U) (U := U.calling g mk a) (Vm.Alike.refl U.vm) qK, qD⟩, va_recv hK hPc (ci := 8) (q0 := 1) rfl rfl, fun U hU hW => ⟨rfl, by rw [hU], by rw [hU]; exact hPc, va_K.moved hW.alike hK, hDc.weaken (fun _ _ _ _ => trivial)⟩⟩ rfl rfl hl.1 rfl (lv_room (Nat.le_of_ble_eq_true rfl)) dX9_twice_4 ⟨by (show _ ≤ _ - _); omega, by (show _ ≤ 2 * (_ - _)); omega⟩) hS (fun q _ h => hFc q h) hFc (fun r_2 _ t H1 locs ht hvm hw hB hz1 hk1 hS => ?_)
  obtain ⟨hP1, hK1, hD1⟩ := hB
  rw [ht] at hP1
  obtain ⟨hP, hD⟩ := va_join (wr := [oHC ad xHC_first xHC_second xHC_when u_1.1, ar (ad 3) cA 20 gRkinds, ar (ad 4) cA 20 gRlates, ar (ad 5) cA 20 gRhands, ar (ad 6) cA 20 gRslow, ar (ad 10) cA 640 u_1.2.2.2.2.1, ar (ad 11) cA 20 u_1.2.2.2.2.2.1, ar (ad 13) cA 20 u_1.2.2.2.2.2.2.2.1, ar (ad 14) cA 20 u_1.2.2.2.2.2.2.2.2.1, oDia ad qe_1001 u_1.2.2.2.2.2.2.2.2.2.1, ar qe_1001 cA u_1.2.2.2.2.2.2.2.2.2.2.1 u_1.2.2.2.2.2.2.2.2.2.2.2]) (w1 := [oRow ad xRow_depth xRow_length xRow_people xRow_scarves xRow_main xRow_faultPlace, oST ad u_1.2.1 u_1.2.2.1 u_1.2.2.2.1, ar (ad 12) cA 20 u_1.2.2.2.2.2.2.1]) hP hD [1, 6, 9] [0, 2, 3, 4, 5, 7, 8, 10, 11, 12, 13] rfl rfl (by decide) (by decide) hk1 hFc hP1 hD1
  clear hPc hDc hFc hP1 hK1 hD1 hk1 hz1 hvm ht
  generalize H1 = H at hP hS ⊢
  have hP : va_P (dC, dI) vwCl [oHC ad xHC_first xHC_second xHC_when u_1.1, oRow ad xRow_depth xRow_length xRow_people xRow_scarves xRow_main xRow_faultPlace, ar (ad 3) cA 20 gRkinds, ar (ad 4) cA 20 gRlates, ar (ad 5) cA 20 gRhands, ar (ad 6) cA 20 gRslow, oST ad u_1.2.1 u_1.2.2.1 u_1.2.2.2.1, ar (ad 10) cA 640 u_1.2.2.2.2.1, ar (ad 11) cA 20 u_1.2.2.2.2.2.1, ar (ad 12) cA 20 u_1.2.2.2.2.2.2.1, ar (ad 13) cA 20 u_1.2.2.2.2.2.2.2.1, ar (ad 14) cA 20 u_1.2.2.2.2.2.2.2.2.1, oDia ad qe_1001 u_1.2.2.2.2.2.2.2.2.2.1, ar qe_1001 cA u_1.2.2.2.2.2.2.2.2.2.2.1 u_1.2.2.2.2.2.2.2.2.2.2.2] H := hP.sub [0, 11, 1, 2, 3, 4, 12, 5, 6, 13, 7, 8, 9, 10] rfl
  have hD : va_D A [oHC ad xHC_first xHC_second xHC_when u_1.1, oRow ad xRow_depth xRow_length xRow_people xRow_scarves xRow_main xRow_faultPlace, ar (ad 3) cA 20 gRkinds, ar (ad 4) cA 20 gRlates, ar (ad 5) cA 20 gRhands, ar (ad 6) cA 20 gRslow, oST ad u_1.2.1 u_1.2.2.1 u_1.2.2.2.1, ar (ad 10) cA 640 u_1.2.2.2.2.1, ar (ad 11) cA 20 u_1.2.2.2.2.2.1, ar (ad 12) cA 20 u_1.2.2.2.2.2.2.1, ar (ad 13) cA 20 u_1.2.2.2.2.2.2.2.1, ar (ad 14) cA 20 u_1.2.2.2.2.2.2.2.2.1, oDia ad qe_1001 u_1.2.2.2.2.2.2.2.2.2.1, ar qe_1001 cA u_1.2.2.2.2.2.2.2.2.2.2.1 u_1.2.2.2.2.2.2.2.2.2.2.2] := hD.sub [0, 11, 1, 2, 3, 4, 12, 5, 6, 13, 7, 8, 9, 10] (by decide) rfl
  have hw := hw.symm
  subst hw
  obtain rfl := Option.some.inj hm
  subst hQ
  refine W.widen (k := u_1.2.2.2.2.2.2.2.2.2.2.1 - ne) (n := 2 * (u_1.2.2.2.2.2.2.2.2.2.2.1 - ne)) (by first | exact Nat.le_refl _ | omega) (by first | exact Nat.le_refl _ | omega) ?_
  exact W.iret (v := u_2) hx hb hr (fun t ht hW => ⟨⟨_, qe_1001, rfl, rfl, by rw [ht]; exact hP, va_K.moved hW.alike hK, hAe ▸ hD⟩, hS.F ht⟩) hS.2.2 dX9_twice_7

set_option maxHeartbeats 4000000 in
set_option maxRecDepth 100000 in
theorem kC_round (l : Launch) (dC : Nat → ClassId) (dI : Nat → Nat → Nat) (cA : ClassId) (ad : Nat → Nat) (qe : Nat) (sz : Nat) (a1 : Int32) (xHC_first : Int32) (xHC_second : Int32) (xHC_when : Int32) (xHC_ran : Int32) (xRow_depth : Int32) (xRow_length : Int32) (xRow_people : Int32) (xRow_scarves : Int32) (xRow_main : Int32) (xRow_faultPlace : Int32) (gRkinds : Nat → Int32) (gRlates : Nat → Int32) (gRhands : Nat → Int32) (gRslow : Nat → Int32) (xST_sleeper : Int32) (xST_lastDue : Int32) (xST_unreached : Int32) (gSTdue : Nat → Int32) (gSTbusy : Nat → Int32) (gSTfelt : Nat → Int32) (gSTlost : Nat → Int32) (gSTfirst : Nat → Int32) (xDia_size : Int32) (ne : Nat) (gDent : Nat → Int32) (u : Int32 × Int32 × Int32 × Int32 × Int32 × (Nat → Int32) × (Nat → Int32) × (Nat → Int32) × (Nat → Int32) × (Nat → Int32) × Int32 × Nat × (Nat → Int32)) (hm : fC_round a1 xHC_first xHC_second xHC_when xHC_ran xRow_people gRkinds gRlates gRhands gRslow xST_sleeper xST_lastDue xST_unreached gSTdue gSTbusy gSTfelt gSTlost gSTfirst xDia_size ne gDent = some u) : Met l yX9_round wsX9_round ({ frames := 5, cells := (u.2.2.2.2.2.2.2.2.2.2.2.1 - ne), slots := (2 * (u.2.2.2.2.2.2.2.2.2.2.2.1 - ne)), locals := 123 }) (va_Pc [.ref (ad 0), .int a1] (fun U => U.heap.size = sz ∧ va_P (dC, dI) vwCl [oHC ad xHC_first xHC_second xHC_when xHC_ran, oRow ad xRow_depth xRow_length xRow_people xRow_scarves xRow_main xRow_faultPlace, ar (ad 3) cA 20 gRkinds, ar (ad 4) cA 20 gRlates, ar (ad 5) cA 20 gRhands, ar (ad 6) cA 20 gRslow, oST ad xST_sleeper xST_lastDue xST_unreached, ar (ad 10) cA 640 gSTdue, ar (ad 11) cA 20 gSTbusy, ar (ad 12) cA 20 gSTfelt, ar (ad 13) cA 20 gSTlost, ar (ad 14) cA 20 gSTfirst, oDia ad qe xDia_size, ar qe cA ne gDent] U.heap ∧ va_K (dC, dI) vwCl [(cA, .int)] U ∧ va_D (fun _ => True) [oHC ad xHC_first xHC_second xHC_when xHC_ran, oRow ad xRow_depth xRow_length xRow_people xRow_scarves xRow_main xRow_faultPlace, ar (ad 3) cA 20 gRkinds, ar (ad 4) cA 20 gRlates, ar (ad 5) cA 20 gRhands, ar (ad 6) cA 20 gRslow, oST ad xST_sleeper xST_lastDue xST_unreached, ar (ad 10) cA 640 gSTdue, ar (ad 11) cA 20 gSTbusy, ar (ad 12) cA 20 gSTfelt, ar (ad 13) cA 20 gSTlost, ar (ad 14) cA 20 gSTfirst, oDia ad qe xDia_size, ar qe cA ne gDent])) (va_Qi (fun (r : Int32) (_ : Nat) => r = u.1) (fun (qe2 : Nat) t => va_P (dC, dI) vwCl [oHC ad xHC_first xHC_second xHC_when u.2.1, oRow ad xRow_depth xRow_length xRow_people xRow_scarves xRow_main xRow_faultPlace, ar (ad 3) cA 20 gRkinds, ar (ad 4) cA 20 gRlates, ar (ad 5) cA 20 gRhands, ar (ad 6) cA 20 gRslow, oST ad u.2.2.1 u.2.2.2.1 u.2.2.2.2.1, ar (ad 10) cA 640 u.2.2.2.2.2.1, ar (ad 11) cA 20 u.2.2.2.2.2.2.1, ar (ad 12) cA 20 u.2.2.2.2.2.2.2.1, ar (ad 13) cA 20 u.2.2.2.2.2.2.2.2.1, ar (ad 14) cA 20 u.2.2.2.2.2.2.2.2.2.1, oDia ad qe2 u.2.2.2.2.2.2.2.2.2.2.1, ar qe2 cA u.2.2.2.2.2.2.2.2.2.2.2.1 u.2.2.2.2.2.2.2.2.2.2.2.2] t.heap ∧ va_K (dC, dI) vwCl [(cA, .int)] t ∧ va_D (va_A [oHC ad xHC_first xHC_second xHC_when xHC_ran, oRow ad xRow_depth xRow_length xRow_people xRow_scarves xRow_main xRow_faultPlace, ar (ad 3) cA 20 gRkinds, ar (ad 4) cA 20 gRlates, ar (ad 5) cA 20 gRhands, ar (ad 6) cA 20 gRslow, oST ad xST_sleeper xST_lastDue xST_unreached, ar (ad 10) cA 640 gSTdue, ar (ad 11) cA 20 gSTbusy, ar (ad 12) cA 20 gSTfelt, ar (ad 13) cA 20 gSTlost, ar (ad 14) cA 20 gSTfirst, oDia ad qe xDia_size, ar qe cA ne gDent] sz) [oHC ad xHC_first xHC_second xHC_when u.2.1, oRow ad xRow_depth xRow_length xRow_people xRow_scarves xRow_main xRow_faultPlace, ar (ad 3) cA 20 gRkinds, ar (ad 4) cA 20 gRlates, ar (ad 5) cA 20 gRhands, ar (ad 6) cA 20 gRslow, oST ad u.2.2.1 u.2.2.2.1 u.2.2.2.2.1, ar (ad 10) cA 640 u.2.2.2.2.2.1, ar (ad 11) cA 20 u.2.2.2.2.2.2.1, ar (ad 12) cA 20 u.2.2.2.2.2.2.2.1, ar (ad 13) cA 20 u.2.2.2.2.2.2.2.2.1, ar (ad 14) cA 20 u.2.2.2.2.2.2.2.2.2.1, oDia ad qe2 u.2.2.2.2.2.2.2.2.2.2.1, ar qe2 cA u.2.2.2.2.2.2.2.2.2.2.2.1 u.2.2.2.2.2.2.2.2.2.2.2.2]) (va_A [oHC ad xHC_first xHC_second xHC_when xHC_ran, oRow ad xRow_depth xRow_length xRow_people xRow_scarves xRow_main xRow_faultPlace, ar (ad 3) cA 20 gRkinds, ar (ad 4) cA 20 gRlates, ar (ad 5) cA 20 gRhands, ar (ad 6) cA 20 gRslow, oST ad xST_sleeper xST_lastDue xST_unreached, ar (ad 10) cA 640 gSTdue, ar (ad 11) cA 20 gSTbusy, ar (ad 12) cA 20 gSTfelt, ar (ad 13) cA 20 gSTlost, ar (ad 14) cA 20 gSTfirst, oDia ad qe xDia_size, ar qe cA ne gDent] sz)) (u.2.2.2.2.2.2.2.2.2.2.2.1 - ne) (2 * (u.2.2.2.2.2.2.2.2.2.2.2.1 - ne)) (va_A [oHC ad xHC_first xHC_second xHC_when xHC_ran, oRow ad xRow_depth xRow_length xRow_people xRow_scarves xRow_main xRow_faultPlace, ar (ad 3) cA 20 gRkinds, ar (ad 4) cA 20 gRlates, ar (ad 5) cA 20 gRhands, ar (ad 6) cA 20 gRslow, oST ad xST_sleeper xST_lastDue xST_unreached, ar (ad 10) cA 640 gSTdue, ar (ad 11) cA 20 gSTbusy, ar (ad 12) cA 20 gSTfelt, ar (ad 13) cA 20 gSTlost, ar (ad 14) cA 20 gSTfirst, oDia ad qe xDia_size, ar qe cA ne gDent] sz) := by
  refine Met.ofW (cc := cX9_round) (maxL := 3) (ret := (some .int)) (by decide) rfl ?_
  intro p e s m args below meth c s₁ B hml hv
  obtain ⟨rfl, hsz, hP, hK, hD0⟩ := hv
  have hx := B.exec
  have hb := B.bytes
  have hr := B.returns
  have hts := atoms_spec (ws := wsX9_round) B.pre
  have hown : s.vm.findClass RX9 = some m.cls := findClass_of_methodNamed B.named
  have hlocks := B.notSynchronized
  subst hsz
  have hD := hD0.self (sz := s.heap.size)
  generalize hAe : va_A [oHC ad xHC_first xHC_second xHC_when xHC_ran, oRow ad xRow_depth xRow_length xRow_people xRow_scarves xRow_main xRow_faultPlace, ar (ad 3) cA 20 gRkinds, ar (ad 4) cA 20 gRlates, ar (ad 5) cA 20 gRhands, ar (ad 6) cA 20 gRslow, oST ad xST_sleeper xST_lastDue xST_unreached, ar (ad 10) cA 640 gSTdue, ar (ad 11) cA 20 gSTbusy, ar (ad 12) cA 20 gSTfelt, ar (ad 13) cA 20 gSTlost, ar (ad 14) cA 20 gSTfirst, oDia ad qe xDia_size, ar qe cA ne gDent] s.heap.size = A at hD ⊢
  have hA : ∀ q : Nat, s.heap.size ≤ q → A q := fun q h => by rw [← hAe]; exact Or.inr h
  have hS : va_S A s.heap s.heap [] := va_S.rf
  have hl := lv_entry ([.ref (ad 0), .int a1]) (n := 3) (Nat.le_of_ble_eq_true rfl)
  rw [lg_entry_eq]
  generalize (lg_sl ([.ref (ad 0), .int a1]) ++ List.replicate (3 - (lg_sl ([.ref (ad 0), .int a1])).length) Slot.unset).toArray = ls at hl ⊢
  have hl : lv_has ls 3 [(0, .ref (ad 0)), (1, .int a1)] := hl
  refine wk_Q (fun QQ hQ => ?_)
  have hinX9 : ∀ w ∈ wsX90, w ∈ wsX9_round := fun w h => List.mem_cons_of_mem _ (inlX9 w h)
  have hl_24 := hts (.fieldLink RX9 24 "HandCensus" "told" "LHandCensus$Squeeze;") (List.mem_cons_of_mem _ (in_r1 _ (List.mem_of_getElem? (i := 22) rfl)))
  have hinX8 : ∀ w ∈ wsX80, w ∈ wsX9_round := fun w h => List.mem_cons_of_mem _ (inlX8 w h)
  have hl_154 := hts (.fieldLink RX9 154 "HandCensus$Squeeze" "firstAt" "[I") (List.mem_cons_of_mem _ (in_r24 _ (List.mem_of_getElem? (i := 11) rfl)))
  unfold fC_round at hm
  obtain ⟨hz0, hm⟩ := mz_ok hm
  have hz0 : ne ≤ u.2.2.2.2.2.2.2.2.2.2.2.1 := hz0
  refine lv_aload_n hx hb dX9_round_0 rfl (lv_at hl 0 rfl) ?_
  refine lv_iload_n hx hb dX9_round_1 rfl (lv_at hl 1 rfl) ?_
  have hPc := hP.sub (ws' := [oHC ad xHC_first xHC_second xHC_when xHC_ran, oRow ad xRow_depth xRow_length xRow_people xRow_scarves xRow_main xRow_faultPlace]) [0, 1] rfl
  have hDc := hD.sub (ws' := [oHC ad xHC_first xHC_second xHC_when xHC_ran, oRow ad xRow_depth xRow_length xRow_people xRow_scarves xRow_main xRow_faultPlace]) [0, 1] (by decide) rfl
  have hFc := va_free (wc := [oHC ad xHC_first xHC_second xHC_when xHC_ran, oRow ad xRow_depth xRow_length xRow_people xRow_scarves xRow_main xRow_faultPlace]) hD hS hA [0, 1] rfl
  obtain ⟨u_1, hc_1, hm⟩ := bd_ok hm
  refine va_calli (va_runV (As := [.int a1]) (rest := []) ⟨hx, hb, hml, hown, hts⟩ (kC_isPerson l dC dI cA ad s.heap.size a1 xHC_first xHC_second xHC_when xHC_ran xRow_depth xRow_length xRow_people xRow_scarves xRow_main xRow_faultPlace u_1 hc_1) (cwV 1 hts gX9_round_X9_isPerson rfl rfl rfl (by decide +kernel) ⟨Nat.le_of_ble_eq_true rfl, Nat.le_of_ble_eq_true rfl⟩) ⟨fun a U g mk q => by obtain ⟨q0, q1, qP, qK, qD⟩ := q; exact ⟨q0, q1, qP, va_K.moved (u := U) (U := U.calling g mk a) (Vm.Alike.refl U.vm) qK, qD⟩, va_recv hK hPc (ci := 9) (q0 := 0) rfl rfl, fun U hU hW => ⟨rfl, by rw [hU], by rw [hU]; exact hPc, va_K.moved hW.alike hK, hDc.weaken (fun _ _ _ _ => trivial)⟩⟩ rfl rfl hl.1 rfl (lv_room (Nat.le_of_ble_eq_true rfl)) dX9_round_2 ⟨by (show _ ≤ _ - _); omega, by (show _ ≤ 2 * (_ - _)); omega⟩) hS (fun q _ h => hFc q h) hFc (fun r_1 _ t H1 locs ht hvm hw hB hz1 hk1 hS => ?_)
  obtain ⟨hP1, hK1, hD1⟩ := hB
  rw [ht] at hP1
  obtain ⟨hP, hD⟩ := va_join (wr := [ar (ad 3) cA 20 gRkinds, ar (ad 4) cA 20 gRlates, ar (ad 5) cA 20 gRhands, ar (ad 6) cA 20 gRslow, oST ad xST_sleeper xST_lastDue xST_unreached, ar (ad 10) cA 640 gSTdue, ar (ad 11) cA 20 gSTbusy, ar (ad 12) cA 20 gSTfelt, ar (ad 13) cA 20 gSTlost, ar (ad 14) cA 20 gSTfirst, oDia ad qe xDia_size, ar qe cA ne gDent]) (w1 := [oHC ad xHC_first xHC_second xHC_when xHC_ran, oRow ad xRow_depth xRow_length xRow_people xRow_scarves xRow_main xRow_faultPlace]) hP hD [0, 1] [2, 3, 4, 5, 6, 7, 8, 9, 10, 11, 12, 13] rfl rfl (by decide) (by decide) hk1 hFc hP1 hD1
  clear hPc hDc hFc hP1 hK1 hD1 hk1 hz1 hvm ht
  generalize H1 = H at hP hS ⊢
  have hP : va_P (dC, dI) vwCl [oHC ad xHC_first xHC_second xHC_when xHC_ran, oRow ad xRow_depth xRow_length xRow_people xRow_scarves xRow_main xRow_faultPlace, ar (ad 3) cA 20 gRkinds, ar (ad 4) cA 20 gRlates, ar (ad 5) cA 20 gRhands, ar (ad 6) cA 20 gRslow, oST ad xST_sleeper xST_lastDue xST_unreached, ar (ad 10) cA 640 gSTdue, ar (ad 11) cA 20 gSTbusy, ar (ad 12) cA 20 gSTfelt, ar (ad 13) cA 20 gSTlost, ar (ad 14) cA 20 gSTfirst, oDia ad qe xDia_size, ar qe cA ne gDent] H := hP.sub [12, 13, 0, 1, 2, 3, 4, 5, 6, 7, 8, 9, 10, 11] rfl
  have hD : va_D A [oHC ad xHC_first xHC_second xHC_when xHC_ran, oRow ad xRow_depth xRow_length xRow_people xRow_scarves xRow_main xRow_faultPlace, ar (ad 3) cA 20 gRkinds, ar (ad 4) cA 20 gRlates, ar (ad 5) cA 20 gRhands, ar (ad 6) cA 20 gRslow, oST ad xST_sleeper xST_lastDue xST_unreached, ar (ad 10) cA 640 gSTdue, ar (ad 11) cA 20 gSTbusy, ar (ad 12) cA 20 gSTfelt, ar (ad 13) cA 20 gSTlost, ar (ad 14) cA 20 gSTfirst, oDia ad qe xDia_size, ar qe cA ne gDent] := hD.sub [12, 13, 0, 1, 2, 3, 4, 5, 6, 7, 8, 9, 10, 11] (by decide) rfl
  have hw := hw.symm
  subst hw
  refine lv_if_ne (tgt := 11) hx hb dX9_round_5 (by decide) (fun c_2 => ?_) (fun c_2 => ?_)
  · have hm := it_neg c_2 hm
    refine lv_aload_n hx hb dX9_round_11 rfl (lv_at hl 0 rfl) ?_
    have hPc := hP.sub (ws' := [oHC ad xHC_first xHC_second xHC_when xHC_ran, oRow ad xRow_depth xRow_length xRow_people xRow_scarves xRow_main xRow_faultPlace, ar (ad 3) cA 20 gRkinds, ar (ad 4) cA 20 gRlates, ar (ad 5) cA 20 gRhands, ar (ad 6) cA 20 gRslow, oST ad xST_sleeper xST_lastDue xST_unreached, ar (ad 10) cA 640 gSTdue, ar (ad 11) cA 20 gSTbusy, ar (ad 12) cA 20 gSTfelt, ar (ad 13) cA 20 gSTlost, ar (ad 14) cA 20 gSTfirst, oDia ad qe xDia_size, ar qe cA ne gDent]) [0, 1, 2, 3, 4, 5, 6, 7, 8, 9, 10, 11, 12, 13] rfl
    have hDc := hD.sub (ws' := [oHC ad xHC_first xHC_second xHC_when xHC_ran, oRow ad xRow_depth xRow_length xRow_people xRow_scarves xRow_main xRow_faultPlace, ar (ad 3) cA 20 gRkinds, ar (ad 4) cA 20 gRlates, ar (ad 5) cA 20 gRhands, ar (ad 6) cA 20 gRslow, oST ad xST_sleeper xST_lastDue xST_unreached, ar (ad 10) cA 640 gSTdue, ar (ad 11) cA 20 gSTbusy, ar (ad 12) cA 20 gSTfelt, ar (ad 13) cA 20 gSTlost, ar (ad 14) cA 20 gSTfirst, oDia ad qe xDia_size, ar qe cA ne gDent]) [0, 1, 2, 3, 4, 5, 6, 7, 8, 9, 10, 11, 12, 13] (by decide) rfl
    have hFc := va_free (wc := [oHC ad xHC_first xHC_second xHC_when xHC_ran, oRow ad xRow_depth xRow_length xRow_people xRow_scarves xRow_main xRow_faultPlace, ar (ad 3) cA 20 gRkinds, ar (ad 4) cA 20 gRlates, ar (ad 5) cA 20 gRhands, ar (ad 6) cA 20 gRslow, oST ad xST_sleeper xST_lastDue xST_unreached, ar (ad 10) cA 640 gSTdue, ar (ad 11) cA 20 gSTbusy, ar (ad 12) cA 20 gSTfelt, ar (ad 13) cA 20 gSTlost, ar (ad 14) cA 20 gSTfirst, oDia ad qe xDia_size, ar qe cA ne gDent]) hD hS hA [0, 1, 2, 3, 4, 5, 6, 7, 8, 9, 10, 11, 12, 13] rfl
    obtain ⟨u_3, hc_3, hn1_3, hn2_3, hm⟩ := bm_ok hm
    have hn1_3 : ne ≤ u_3.2.2.2.2.2.2.2.2.2.2.1 := hn1_3
    have hn2_3 : u_3.2.2.2.2.2.2.2.2.2.2.1 ≤ u.2.2.2.2.2.2.2.2.2.2.2.1 := hn2_3
    refine va_callr (va_runV (As := []) (rest := []) ⟨hx, hb, hml, hown, hts⟩ (kC_asTold l dC dI cA ad qe H.size xHC_first xHC_second xHC_when xHC_ran xRow_depth xRow_length xRow_people xRow_scarves xRow_main xRow_faultPlace gRkinds gRlates gRhands gRslow xST_sleeper xST_lastDue xST_unreached gSTdue gSTbusy gSTfelt gSTlost gSTfirst xDia_size ne gDent u_3 hc_3) (cwV 0 hts gX9_round_X9_asTold rfl rfl rfl (by decide +kernel) ⟨Nat.le_of_ble_eq_true rfl, Nat.le_of_ble_eq_true rfl⟩) ⟨fun a U g mk q => by obtain ⟨q0, q1, qP, qK, qD⟩ := q; exact ⟨q0, q1, qP, va_K.moved (u := U) (U := U.calling g mk a) (Vm.Alike.refl U.vm) qK, qD⟩, va_recv hK hPc (ci := 9) (q0 := 0) rfl rfl, fun U hU hW => ⟨rfl, by rw [hU], by rw [hU]; exact hPc, va_K.moved hW.alike hK, hDc.weaken (fun _ _ _ _ => trivial)⟩⟩ rfl rfl hl.1 rfl (lv_room (Nat.le_of_ble_eq_true rfl)) dX9_round_12 ⟨by (show _ ≤ _ - _); omega, by (show _ ≤ 2 * (_ - _)); omega⟩) hS (fun q _ h => hFc q h) hFc (fun qe_1003 ra_3 t H1 locs ht hvm hw hB hz1 hk1 hS => ?_)
    obtain ⟨hra_3, hP1, hK1, hD1⟩ := hB
    subst hra_3
    rw [ht] at hP1
    obtain ⟨hP, hD⟩ := va_join (wr := []) (w1 := [oHC ad xHC_first xHC_second xHC_when u_3.1, oRow ad xRow_depth xRow_length xRow_people xRow_scarves xRow_main xRow_faultPlace, ar (ad 3) cA 20 gRkinds, ar (ad 4) cA 20 gRlates, ar (ad 5) cA 20 gRhands, ar (ad 6) cA 20 gRslow, oST ad u_3.2.1 u_3.2.2.1 u_3.2.2.2.1, ar (ad 10) cA 640 u_3.2.2.2.2.1, ar (ad 11) cA 20 u_3.2.2.2.2.2.1, ar (ad 12) cA 20 u_3.2.2.2.2.2.2.1, ar (ad 13) cA 20 u_3.2.2.2.2.2.2.2.1, ar (ad 14) cA 20 u_3.2.2.2.2.2.2.2.2.1, oDia ad qe_1003 u_3.2.2.2.2.2.2.2.2.2.1, ar qe_1003 cA u_3.2.2.2.2.2.2.2.2.2.2.1 u_3.2.2.2.2.2.2.2.2.2.2.2]) hP hD [0, 1, 2, 3, 4, 5, 6, 7, 8, 9, 10, 11, 12, 13] [] rfl rfl (by decide) (by decide) hk1 hFc hP1 hD1
    clear hPc hDc hFc hP1 hK1 hD1 hk1 hz1 hvm ht
    generalize H1 = H at hP hS ⊢
    have hP : va_P (dC, dI) vwCl [oHC ad xHC_first xHC_second xHC_when u_3.1, oRow ad xRow_depth xRow_length xRow_people xRow_scarves xRow_main xRow_faultPlace, ar (ad 3) cA 20 gRkinds, ar (ad 4) cA 20 gRlates, ar (ad 5) cA 20 gRhands, ar (ad 6) cA 20 gRslow, oST ad u_3.2.1 u_3.2.2.1 u_3.2.2.2.1, ar (ad 10) cA 640 u_3.2.2.2.2.1, ar (ad 11) cA 20 u_3.2.2.2.2.2.1, ar (ad 12) cA 20 u_3.2.2.2.2.2.2.1, ar (ad 13) cA 20 u_3.2.2.2.2.2.2.2.1, ar (ad 14) cA 20 u_3.2.2.2.2.2.2.2.2.1, oDia ad qe_1003 u_3.2.2.2.2.2.2.2.2.2.1, ar qe_1003 cA u_3.2.2.2.2.2.2.2.2.2.2.1 u_3.2.2.2.2.2.2.2.2.2.2.2] H := hP
    have hD : va_D A [oHC ad xHC_first xHC_second xHC_when u_3.1, oRow ad xRow_depth xRow_length xRow_people xRow_scarves xRow_main xRow_faultPlace, ar (ad 3) cA 20 gRkinds, ar (ad 4) cA 20 gRlates, ar (ad 5) cA 20 gRhands, ar (ad 6) cA 20 gRslow, oST ad u_3.2.1 u_3.2.2.1 u_3.2.2.2.1, ar (ad 10) cA 640 u_3.2.2.2.2.1, ar (ad 11) cA 20 u_3.2.2.2.2.2.1, ar (ad 12) cA 20 u_3.2.2.2.2.2.2.1, ar (ad 13) cA 20 u_3.2.2.2.2.2.2.2.1, ar (ad 14) cA 20 u_3.2.2.2.2.2.2.2.2.1, oDia ad qe_1003 u_3.2.2.2.2.2.2.2.2.2.1, ar qe_1003 cA u_3.2.2.2.2.2.2.2.2.2.2.1 u_3.2.2.2.2.2.2.2.2.2.2.2] := hD
    refine W.widen (k := u_3.2.2.2.2.2.2.2.2.2.2.1 - ne) (n := 2 * (u_3.2.2.2.2.2.2.2.2.2.2.1 - ne)) (by omega) (by omega) ?_
    refine lv_iload_n hx hb dX9_round_15 rfl (lv_at hl 1 rfl) ?_
    refine lv_iconst (v := 1) hx hb dX9_round_16 (by decide) ?_
    have hPc := hP.sub (ws' := [oST ad u_3.2.1 u_3.2.2.1 u_3.2.2.2.1, oDia ad qe_1003 u_3.2.2.2.2.2.2.2.2.2.1, ar qe_1003 cA u_3.2.2.2.2.2.2.2.2.2.2.1 u_3.2.2.2.2.2.2.2.2.2.2.2]) [6, 12, 13] rfl
    have hDc := hD.sub (ws' := [oST ad u_3.2.1 u_3.2.2.1 u_3.2.2.2.1, oDia ad qe_1003 u_3.2.2.2.2.2.2.2.2.2.1, ar qe_1003 cA u_3.2.2.2.2.2.2.2.2.2.2.1 u_3.2.2.2.2.2.2.2.2.2.2.2]) [6, 12, 13] (by decide) rfl
    have hFc := va_free (wc := [oST ad u_3.2.1 u_3.2.2.1 u_3.2.2.2.1, oDia ad qe_1003 u_3.2.2.2.2.2.2.2.2.2.1, ar qe_1003 cA u_3.2.2.2.2.2.2.2.2.2.2.1 u_3.2.2.2.2.2.2.2.2.2.2.2]) hD hS hA [6, 12, 13] rfl
    obtain ⟨u_4, hc_4, hm⟩ := bd_ok hm
    refine va_calli (va_runV (As := [.int a1, .int 1]) (rest := []) ⟨hx, hb, hml, hown, hts⟩ (kS_timeOfFelt_T l dC dI cA ad qe_1003 H.size a1 1 u_3.2.1 u_3.2.2.1 u_3.2.2.2.1 u_3.2.2.2.2.2.2.2.2.2.1 u_3.2.2.2.2.2.2.2.2.2.2.1 u_3.2.2.2.2.2.2.2.2.2.2.2 u_4 hc_4) (cwV 2 hts gX9_round_X8_timeOfFelt rfl rfl rfl (by decide +kernel) ⟨Nat.le_of_ble_eq_true rfl, Nat.le_of_ble_eq_true rfl⟩) ⟨fun a U g mk q => by obtain ⟨q0, q1, qP, qK, qD⟩ := q; exact ⟨q0, q1, qP, va_K.moved (u := U) (U := U.calling g mk a) (Vm.Alike.refl U.vm) qK, qD⟩, va_recv hK hPc (ci := 8) (q0 := 0) rfl rfl, fun U hU hW => ⟨rfl, by rw [hU], by rw [hU]; exact hPc, va_K.moved hW.alike hK, hDc.weaken (fun _ _ _ _ => trivial)⟩⟩ rfl rfl hl.1 rfl (lv_room (Nat.le_of_ble_eq_true rfl)) dX9_round_17 ⟨by (show _ ≤ _ - _); omega, by (show _ ≤ 2 * (_ - _)); omega⟩) hS (fun q _ h => hFc q h) hFc (fun r_4 _ t H1 locs ht hvm hw hB hz1 hk1 hS => ?_)
    obtain ⟨hP1, hK1, hD1⟩ := hB
    rw [ht] at hP1
    obtain ⟨hP, hD⟩ := va_join (wr := [oHC ad xHC_first xHC_second xHC_when u_3.1, oRow ad xRow_depth xRow_length xRow_people xRow_scarves xRow_main xRow_faultPlace, ar (ad 3) cA 20 gRkinds, ar (ad 4) cA 20 gRlates, ar (ad 5) cA 20 gRhands, ar (ad 6) cA 20 gRslow, ar (ad 10) cA 640 u_3.2.2.2.2.1, ar (ad 11) cA 20 u_3.2.2.2.2.2.1, ar (ad 12) cA 20 u_3.2.2.2.2.2.2.1, ar (ad 13) cA 20 u_3.2.2.2.2.2.2.2.1, ar (ad 14) cA 20 u_3.2.2.2.2.2.2.2.2.1]) (w1 := [oST ad u_3.2.1 u_3.2.2.1 u_3.2.2.2.1, oDia ad qe_1003 u_3.2.2.2.2.2.2.2.2.2.1, ar qe_1003 cA u_3.2.2.2.2.2.2.2.2.2.2.1 u_3.2.2.2.2.2.2.2.2.2.2.2]) hP hD [6, 12, 13] [0, 1, 2, 3, 4, 5, 7, 8, 9, 10, 11] rfl rfl (by decide) (by decide) hk1 hFc hP1 hD1
    clear hPc hDc hFc hP1 hK1 hD1 hk1 hz1 hvm ht
    generalize H1 = H at hP hS ⊢
    have hP : va_P (dC, dI) vwCl [oHC ad xHC_first xHC_second xHC_when u_3.1, oRow ad xRow_depth xRow_length xRow_people xRow_scarves xRow_main xRow_faultPlace, ar (ad 3) cA 20 gRkinds, ar (ad 4) cA 20 gRlates, ar (ad 5) cA 20 gRhands, ar (ad 6) cA 20 gRslow, oST ad u_3.2.1 u_3.2.2.1 u_3.2.2.2.1, ar (ad 10) cA 640 u_3.2.2.2.2.1, ar (ad 11) cA 20 u_3.2.2.2.2.2.1, ar (ad 12) cA 20 u_3.2.2.2.2.2.2.1, ar (ad 13) cA 20 u_3.2.2.2.2.2.2.2.1, ar (ad 14) cA 20 u_3.2.2.2.2.2.2.2.2.1, oDia ad qe_1003 u_3.2.2.2.2.2.2.2.2.2.1, ar qe_1003 cA u_3.2.2.2.2.2.2.2.2.2.2.1 u_3.2.2.2.2.2.2.2.2.2.2.2] H := hP.sub [0, 1, 2, 3, 4, 5, 11, 6, 7, 8, 9, 10, 12, 13] rfl
    have hD : va_D A [oHC ad xHC_first xHC_second xHC_when u_3.1, oRow ad xRow_depth xRow_length xRow_people xRow_scarves xRow_main xRow_faultPlace, ar (ad 3) cA 20 gRkinds, ar (ad 4) cA 20 gRlates, ar (ad 5) cA 20 gRhands, ar (ad 6) cA 20 gRslow, oST ad u_3.2.1 u_3.2.2.1 u_3.2.2.2.1, ar (ad 10) cA 640 u_3.2.2.2.2.1, ar (ad 11) cA 20 u_3.2.2.2.2.2.1, ar (ad 12) cA 20 u_3.2.2.2.2.2.2.1, ar (ad 13) cA 20 u_3.2.2.2.2.2.2.2.1, ar (ad 14) cA 20 u_3.2.2.2.2.2.2.2.2.1, oDia ad qe_1003 u_3.2.2.2.2.2.2.2.2.2.1, ar qe_1003 cA u_3.2.2.2.2.2.2.2.2.2.2.1 u_3.2.2.2.2.2.2.2.2.2.2.2] := hD.sub [0, 1, 2, 3, 4, 5, 11, 6, 7, 8, 9, 10, 12, 13] (by decide) rfl
    have hw := hw.symm
    subst hw
    refine lv_istore_n (lv' := [(2, .int u_4), (0, .ref (ad 0)), (1, .int a1)]) hx hb dX9_round_20 rfl hl (by decide) rfl (fun ls hl => ?_)
    refine lv_iload_n hx hb dX9_round_21 rfl (lv_at hl 0 rfl) ?_
    refine lv_iconst (v := (-1)) hx hb dX9_round_22 (by decide) ?_
    refine lv_icmp_ne (tgt := 30) hx hb dX9_round_23 (by decide) (fun c_5 => ?_) (fun c_5 => ?_)
    · have hm := it_neg c_5 hm
      refine lv_iload_n hx hb dX9_round_30 rfl (lv_at hl 0 rfl) ?_
      refine lv_aload_n hx hb dX9_round_31 rfl (lv_at hl 1 rfl) ?_
      refine va_get (D := (dC, dI)) (ci := 9) (v := .ref (ad 9)) (C := RX9) (T := TX9) (N := 12) hx hb hts hinX9 hown hK hP 0 rfl rfl 1 (by decide) hl_24 (fun _ h9 => h9) rfl dX9_round_32 ?_
      refine va_get (D := (dC, dI)) (ci := 8) (v := .ref (ad 14)) (C := RX8) (T := TX8) (N := 10) hx hb hts hinX8 hown hK hP 6 rfl rfl 6 (by decide) hl_154 (fun _ h9 => h9) rfl dX9_round_35 ?_
      refine lv_iload_n hx hb dX9_round_38 rfl (lv_at hl 2 rfl) ?_
      obtain ⟨i_6, hm⟩ := ck_ok hm
      refine va_iald hx hb hK hP 11 0 rfl rfl i_6 dX9_round_39 ?_
      refine lv_isub hx hb dX9_round_40 ?_
      obtain rfl := Option.some.inj hm
      subst hQ
      refine W.widen (k := u_3.2.2.2.2.2.2.2.2.2.2.1 - ne) (n := 2 * (u_3.2.2.2.2.2.2.2.2.2.2.1 - ne)) (by first | exact Nat.le_refl _ | omega) (by first | exact Nat.le_refl _ | omega) ?_
      exact W.iret (v := (u_4 - (u_3.2.2.2.2.2.2.2.2.1 a1.toNatClampNeg))) hx hb hr (fun t ht hW => ⟨⟨_, qe_1003, rfl, rfl, by rw [ht]; exact hP, va_K.moved hW.alike hK, hAe ▸ hD⟩, hS.F ht⟩) hS.2.2 dX9_round_41
    · have hm := it_pos c_5 hm
      refine lv_iconst (v := (-1)) hx hb dX9_round_26 (by decide) ?_
      refine lv_goto (tgt := 41) hx hb dX9_round_27 (by decide) ?_
      obtain rfl := Option.some.inj hm
      subst hQ
      refine W.widen (k := u_3.2.2.2.2.2.2.2.2.2.2.1 - ne) (n := 2 * (u_3.2.2.2.2.2.2.2.2.2.2.1 - ne)) (by first | exact Nat.le_refl _ | omega) (by first | exact Nat.le_refl _ | omega) ?_
      exact W.iret (v := (-1)) hx hb hr (fun t ht hW => ⟨⟨_, qe_1003, rfl, rfl, by rw [ht]; exact hP, va_K.moved hW.alike hK, hAe ▸ hD⟩, hS.F ht⟩) hS.2.2 dX9_round_41
  · have hm := it_pos c_2 hm
    refine lv_bipush (v := (-2)) hx hb dX9_round_8 (by decide) ?_
    obtain rfl := Option.some.inj hm
    subst hQ
    refine W.widen (k := ne - ne) (n := 2 * (ne - ne)) (by first | exact Nat.le_refl _ | omega) (by first | exact Nat.le_refl _ | omega) ?_
    exact W.iret (v := (-2)) hx hb hr (fun t ht hW => ⟨⟨_, qe, rfl, rfl, by rw [ht]; exact hP, va_K.moved hW.alike hK, hAe ▸ hD⟩, hS.F ht⟩) hS.2.2 dX9_round_10

set_option maxHeartbeats 4000000 in
set_option maxRecDepth 100000 in
theorem kS_clear_U (l : Launch) (dC : Nat → ClassId) (dI : Nat → Nat → Nat) (cA : ClassId) (ad : Nat → Nat) (sz : Nat) (xRow_depth : Int32) (xRow_length : Int32) (xRow_people : Int32) (xRow_scarves : Int32) (xRow_main : Int32) (xRow_faultPlace : Int32) (xSU_sleeper : Int32) (xSU_lastDue : Int32) (xSU_unreached : Int32) (gSUdue : Nat → Int32) (gSUbusy : Nat → Int32) (gSUfelt : Nat → Int32) (gSUlost : Nat → Int32) (gSUfirst : Nat → Int32) (u : Int32 × Int32 × (Nat → Int32) × (Nat → Int32) × (Nat → Int32) × (Nat → Int32) × (Nat → Int32)) (hm : fS_clear_U xRow_people xSU_lastDue xSU_unreached gSUdue gSUbusy gSUfelt gSUlost gSUfirst = some u) : Met l yX8_clear wsX8_clear ({ frames := 1, cells := 0, slots := 0, locals := 23 }) (va_Pc [.ref (ad 17)] (fun U => U.heap.size = sz ∧ va_P (dC, dI) vwCl [oRow ad xRow_depth xRow_length xRow_people xRow_scarves xRow_main xRow_faultPlace, oSU ad xSU_sleeper xSU_lastDue xSU_unreached, ar (ad 18) cA 640 gSUdue, ar (ad 19) cA 20 gSUbusy, ar (ad 20) cA 20 gSUfelt, ar (ad 21) cA 20 gSUlost, ar (ad 22) cA 20 gSUfirst] U.heap ∧ va_K (dC, dI) vwCl [(cA, .int)] U ∧ va_D (fun _ => True) [oRow ad xRow_depth xRow_length xRow_people xRow_scarves xRow_main xRow_faultPlace, oSU ad xSU_sleeper xSU_lastDue xSU_unreached, ar (ad 18) cA 640 gSUdue, ar (ad 19) cA 20 gSUbusy, ar (ad 20) cA 20 gSUfelt, ar (ad 21) cA 20 gSUlost, ar (ad 22) cA 20 gSUfirst])) (va_Qv (fun (_ : Unit) => True) (fun (_ : Unit) t => va_P (dC, dI) vwCl [oRow ad xRow_depth xRow_length xRow_people xRow_scarves xRow_main xRow_faultPlace, oSU ad xSU_sleeper u.1 u.2.1, ar (ad 18) cA 640 u.2.2.1, ar (ad 19) cA 20 u.2.2.2.1, ar (ad 20) cA 20 u.2.2.2.2.1, ar (ad 21) cA 20 u.2.2.2.2.2.1, ar (ad 22) cA 20 u.2.2.2.2.2.2] t.heap ∧ va_K (dC, dI) vwCl [(cA, .int)] t ∧ va_D (va_A [oRow ad xRow_depth xRow_length xRow_people xRow_scarves xRow_main xRow_faultPlace, oSU ad xSU_sleeper xSU_lastDue xSU_unreached, ar (ad 18) cA 640 gSUdue, ar (ad 19) cA 20 gSUbusy, ar (ad 20) cA 20 gSUfelt, ar (ad 21) cA 20 gSUlost, ar (ad 22) cA 20 gSUfirst] sz) [oRow ad xRow_depth xRow_length xRow_people xRow_scarves xRow_main xRow_faultPlace, oSU ad xSU_sleeper u.1 u.2.1, ar (ad 18) cA 640 u.2.2.1, ar (ad 19) cA 20 u.2.2.2.1, ar (ad 20) cA 20 u.2.2.2.2.1, ar (ad 21) cA 20 u.2.2.2.2.2.1, ar (ad 22) cA 20 u.2.2.2.2.2.2]) (va_A [oRow ad xRow_depth xRow_length xRow_people xRow_scarves xRow_main xRow_faultPlace, oSU ad xSU_sleeper xSU_lastDue xSU_unreached, ar (ad 18) cA 640 gSUdue, ar (ad 19) cA 20 gSUbusy, ar (ad 20) cA 20 gSUfelt, ar (ad 21) cA 20 gSUlost, ar (ad 22) cA 20 gSUfirst] sz)) 0 0 (va_A [oRow ad xRow_depth xRow_length xRow_people xRow_scarves xRow_main xRow_faultPlace, oSU ad xSU_sleeper xSU_lastDue xSU_unreached, ar (ad 18) cA 640 gSUdue, ar (ad 19) cA 20 gSUbusy, ar (ad 20) cA 20 gSUfelt, ar (ad 21) cA 20 gSUlost, ar (ad 22) cA 20 gSUfirst] sz) := by
  refine Met.ofW (cc := cX8_clear) (maxL := 1) (ret := none) (by decide) rfl ?_
  intro p e s m args below meth c s₁ B hml hv
  obtain ⟨rfl, hsz, hP, hK, hD0⟩ := hv
  have hx := B.exec
  have hb := B.bytes
  have hr := B.returns
  have hts := atoms_spec (ws := wsX8_clear) B.pre
  have hown : s.vm.findClass RX8 = some m.cls := findClass_of_methodNamed B.named
  have hlocks := B.notSynchronized
  subst hsz
  have hD := hD0.self (sz := s.heap.size)
  generalize hAe : va_A [oRow ad xRow_depth xRow_length xRow_people xRow_scarves xRow_main xRow_faultPlace, oSU ad xSU_sleeper xSU_lastDue xSU_unreached, ar (ad 18) cA 640 gSUdue, ar (ad 19) cA 20 gSUbusy, ar (ad 20) cA 20 gSUfelt, ar (ad 21) cA 20 gSUlost, ar (ad 22) cA 20 gSUfirst] s.heap.size = A at hD ⊢
  have hA : ∀ q : Nat, s.heap.size ≤ q → A q := fun q h => by rw [← hAe]; exact Or.inr h
  have hS : va_S A s.heap s.heap [] := va_S.rf
  have hl := lv_entry ([.ref (ad 17)]) (n := 1) (Nat.le_of_ble_eq_true rfl)
  rw [lg_entry_eq]
  generalize (lg_sl ([.ref (ad 17)]) ++ List.replicate (1 - (lg_sl ([.ref (ad 17)])).length) Slot.unset).toArray = ls at hl ⊢
  have hl : lv_has ls 1 [(0, .ref (ad 17))] := hl
  refine wk_Q (fun QQ hQ => ?_)
  have hinX8 : ∀ w ∈ wsX80, w ∈ wsX8_clear := fun w h => List.mem_cons_of_mem _ (inlX8 w h)
  have hl_19 := hts (.fieldLink RX8 19 "HandCensus$Squeeze" "due" "[I") (List.mem_cons_of_mem _ (in_r4 _ (List.mem_of_getElem? (i := 4) rfl)))
  have hl_23 := hts (.fieldLink RX8 23 "HandCensus$Squeeze" "busyUpTo" "[I") (List.mem_cons_of_mem _ (in_r4 _ (List.mem_of_getElem? (i := 5) rfl)))
  have hl_26 := hts (.fieldLink RX8 26 "HandCensus$Squeeze" "feltMany" "[I") (List.mem_cons_of_mem _ (in_r4 _ (List.mem_of_getElem? (i := 6) rfl)))
  have hl_29 := hts (.fieldLink RX8 29 "HandCensus$Squeeze" "lostMany" "[I") (List.mem_cons_of_mem _ (in_r4 _ (List.mem_of_getElem? (i := 7) rfl)))
  have hl_32 := hts (.fieldLink RX8 32 "HandCensus$Squeeze" "firstAt" "[I") (List.mem_cons_of_mem _ (in_r4 _ (List.mem_of_getElem? (i := 8) rfl)))
  have hl_47 := hts (.fieldLink RX8 47 "HandCensus$Squeeze" "lastDue" "I") (List.mem_cons_of_mem _ (in_r14 _ (List.mem_of_getElem? (i := 20) rfl)))
  have hl_9 := hts (.fieldLink RX8 9 "HandCensus$Squeeze" "row" "LHandCensus$Row;") (List.mem_cons_of_mem _ (in_r4 _ (List.mem_of_getElem? (i := 2) rfl)))
  have hinX5 : ∀ w ∈ wsX50, w ∈ wsX8_clear := fun w h => List.mem_cons_of_mem _ (inlX5 w h)
  have hl_42 := hts (.fieldLink RX8 42 "HandCensus$Row" "people" "I") (List.mem_cons_of_mem _ (in_r14 _ (List.mem_of_getElem? (i := 19) rfl)))
  have hl_50 := hts (.fieldLink RX8 50 "HandCensus$Squeeze" "unreached" "I") (List.mem_cons_of_mem _ (in_r14 _ (List.mem_of_getElem? (i := 21) rfl)))
  have hl_15 := hts (.fieldLink RX8 15 "HandCensus$Squeeze" "diary" "LHandCensus$Diary;") (List.mem_cons_of_mem _ (in_r4 _ (List.mem_of_getElem? (i := 3) rfl)))
  unfold fS_clear_U at hm
  refine lv_aload_n hx hb dX8_clear_0 rfl (lv_at hl 0 rfl) ?_
  refine va_get (D := (dC, dI)) (ci := 8) (v := .ref (ad 18)) (C := RX8) (T := TX8) (N := 10) hx hb hts hinX8 hown hK hP 1 rfl rfl 2 (by decide) hl_19 (fun _ h9 => h9) rfl dX8_clear_1 ?_
  refine lv_iconst (v := 0) hx hb dX8_clear_4 (by decide) ?_
  have hPc := hP.sub (ws' := [ar (ad 18) cA 640 gSUdue]) [2] rfl
  have hDc := hD.sub (ws' := [ar (ad 18) cA 640 gSUdue]) [2] (by decide) rfl
  have hFc := va_free (wc := [ar (ad 18) cA 640 gSUdue]) hD hS hA [2] rfl
  obtain ⟨u_1, hc_1, hm⟩ := bd_ok hm
  refine va_callv (va_runS (As := [.ref (ad 18), .int 0]) (rest := []) ⟨hx, hb, hml, hown, hts⟩ (kJ_fill l dC dI cA (ad 18) s.heap.size 0 640 gSUdue u_1 hc_1) (va_cwS 2 hts gX8_clear_J7_fill_53178 rfl rfl rfl (by decide +kernel) ⟨Nat.le_of_ble_eq_true rfl, Nat.le_of_ble_eq_true rfl⟩) ⟨fun a U g mk q => by obtain ⟨q0, q1, qP, qK, qD⟩ := q; exact ⟨q0, q1, qP, va_K.moved (u := U) (U := U.calling g mk a) (Vm.Alike.refl U.vm) qK, qD⟩, fun U hU hW => ⟨rfl, by rw [hU], by rw [hU]; exact hPc, va_K.moved hW.alike hK, hDc.weaken (fun _ _ _ _ => trivial)⟩⟩ rfl rfl hl.1 rfl (lv_room (Nat.le_of_ble_eq_true rfl)) dX8_clear_5 ⟨Nat.le_of_ble_eq_true rfl, Nat.le_of_ble_eq_true rfl⟩) hS (fun q _ h => hFc q h) hFc (fun _ t H1 locs ht hvm hw hB hz1 hk1 hS => ?_)
  obtain ⟨hP1, hK1, hD1⟩ := hB
  rw [ht] at hP1
  obtain ⟨hP, hD⟩ := va_join (wr := [oRow ad xRow_depth xRow_length xRow_people xRow_scarves xRow_main xRow_faultPlace, oSU ad xSU_sleeper xSU_lastDue xSU_unreached, ar (ad 19) cA 20 gSUbusy, ar (ad 20) cA 20 gSUfelt, ar (ad 21) cA 20 gSUlost, ar (ad 22) cA 20 gSUfirst]) (w1 := [ar (ad 18) cA 640 u_1]) hP hD [2] [0, 1, 3, 4, 5, 6] rfl rfl (by decide) (by decide) hk1 hFc hP1 hD1
  clear hPc hDc hFc hP1 hK1 hD1 hk1 hz1 hvm ht
  generalize H1 = H at hP hS ⊢
  have hP : va_P (dC, dI) vwCl [oRow ad xRow_depth xRow_length xRow_people xRow_scarves xRow_main xRow_faultPlace, oSU ad xSU_sleeper xSU_lastDue xSU_unreached, ar (ad 18) cA 640 u_1, ar (ad 19) cA 20 gSUbusy, ar (ad 20) cA 20 gSUfelt, ar (ad 21) cA 20 gSUlost, ar (ad 22) cA 20 gSUfirst] H := hP.sub [0, 1, 6, 2, 3, 4, 5] rfl
  have hD : va_D A [oRow ad xRow_depth xRow_length xRow_people xRow_scarves xRow_main xRow_faultPlace, oSU ad xSU_sleeper xSU_lastDue xSU_unreached, ar (ad 18) cA 640 u_1, ar (ad 19) cA 20 gSUbusy, ar (ad 20) cA 20 gSUfelt, ar (ad 21) cA 20 gSUlost, ar (ad 22) cA 20 gSUfirst] := hD.sub [0, 1, 6, 2, 3, 4, 5] (by decide) rfl
  refine lv_aload_n hx hb dX8_clear_8 rfl (lv_at hl 0 rfl) ?_
  refine va_get (D := (dC, dI)) (ci := 8) (v := .ref (ad 19)) (C := RX8) (T := TX8) (N := 10) hx hb hts hinX8 hown hK hP 1 rfl rfl 3 (by decide) hl_23 (fun _ h9 => h9) rfl dX8_clear_9 ?_
  refine lv_iconst (v := 0) hx hb dX8_clear_12 (by decide) ?_
  have hPc := hP.sub (ws' := [ar (ad 19) cA 20 gSUbusy]) [3] rfl
  have hDc := hD.sub (ws' := [ar (ad 19) cA 20 gSUbusy]) [3] (by decide) rfl
  have hFc := va_free (wc := [ar (ad 19) cA 20 gSUbusy]) hD hS hA [3] rfl
  obtain ⟨u_2, hc_2, hm⟩ := bd_ok hm
  refine va_callv (va_runS (As := [.ref (ad 19), .int 0]) (rest := []) ⟨hx, hb, hml, hown, hts⟩ (kJ_fill l dC dI cA (ad 19) H.size 0 20 gSUbusy u_2 hc_2) (va_cwS 2 hts gX8_clear_J7_fill_53178 rfl rfl rfl (by decide +kernel) ⟨Nat.le_of_ble_eq_true rfl, Nat.le_of_ble_eq_true rfl⟩) ⟨fun a U g mk q => by obtain ⟨q0, q1, qP, qK, qD⟩ := q; exact ⟨q0, q1, qP, va_K.moved (u := U) (U := U.calling g mk a) (Vm.Alike.refl U.vm) qK, qD⟩, fun U hU hW => ⟨rfl, by rw [hU], by rw [hU]; exact hPc, va_K.moved hW.alike hK, hDc.weaken (fun _ _ _ _ => trivial)⟩⟩ rfl rfl hl.1 rfl (lv_room (Nat.le_of_ble_eq_true rfl)) dX8_clear_13 ⟨Nat.le_of_ble_eq_true rfl, Nat.le_of_ble_eq_true rfl⟩) hS (fun q _ h => hFc q h) hFc (fun _ t H1 locs ht hvm hw hB hz1 hk1 hS => ?_)
  obtain ⟨hP1, hK1, hD1⟩ := hB
  rw [ht] at hP1
  obtain ⟨hP, hD⟩ := va_join (wr := [oRow ad xRow_depth xRow_length xRow_people xRow_scarves xRow_main xRow_faultPlace, oSU ad xSU_sleeper xSU_lastDue xSU_unreached, ar (ad 18) cA 640 u_1, ar (ad 20) cA 20 gSUfelt, ar (ad 21) cA 20 gSUlost, ar (ad 22) cA 20 gSUfirst]) (w1 := [ar (ad 19) cA 20 u_2]) hP hD [3] [0, 1, 2, 4, 5, 6] rfl rfl (by decide) (by decide) hk1 hFc hP1 hD1
  clear hPc hDc hFc hP1 hK1 hD1 hk1 hz1 hvm ht
  generalize H1 = H at hP hS ⊢
  have hP : va_P (dC, dI) vwCl [oRow ad xRow_depth xRow_length xRow_people xRow_scarves xRow_main xRow_faultPlace, oSU ad xSU_sleeper xSU_lastDue xSU_unreached, ar (ad 18) cA 640 u_1, ar (ad 19) cA 20 u_2, ar (ad 20) cA 20 gSUfelt, ar (ad 21) cA 20 gSUlost, ar (ad 22) cA 20 gSUfirst] H := hP.sub [0, 1, 2, 6, 3, 4, 5] rfl
  have hD : va_D A [oRow ad xRow_depth xRow_length xRow_people xRow_scarves xRow_main xRow_faultPlace, oSU ad xSU_sleeper xSU_lastDue xSU_unreached, ar (ad 18) cA 640 u_1, ar (ad 19) cA 20 u_2, ar (ad 20) cA 20 gSUfelt, ar (ad 21) cA 20 gSUlost, ar (ad 22) cA 20 gSUfirst] := hD.sub [0, 1, 2, 6, 3, 4, 5] (by decide) rfl
  refine lv_aload_n hx hb dX8_clear_16 rfl (lv_at hl 0 rfl) ?_
  refine va_get (D := (dC, dI)) (ci := 8) (v := .ref (ad 20)) (C := RX8) (T := TX8) (N := 10) hx hb hts hinX8 hown hK hP 1 rfl rfl 4 (by decide) hl_26 (fun _ h9 => h9) rfl dX8_clear_17 ?_
  refine lv_iconst (v := 0) hx hb dX8_clear_20 (by decide) ?_
  have hPc := hP.sub (ws' := [ar (ad 20) cA 20 gSUfelt]) [4] rfl
  have hDc := hD.sub (ws' := [ar (ad 20) cA 20 gSUfelt]) [4] (by decide) rfl
  have hFc := va_free (wc := [ar (ad 20) cA 20 gSUfelt]) hD hS hA [4] rfl
  obtain ⟨u_3, hc_3, hm⟩ := bd_ok hm
  refine va_callv (va_runS (As := [.ref (ad 20), .int 0]) (rest := []) ⟨hx, hb, hml, hown, hts⟩ (kJ_fill l dC dI cA (ad 20) H.size 0 20 gSUfelt u_3 hc_3) (va_cwS 2 hts gX8_clear_J7_fill_53178 rfl rfl rfl (by decide +kernel) ⟨Nat.le_of_ble_eq_true rfl, Nat.le_of_ble_eq_true rfl⟩) ⟨fun a U g mk q => by obtain ⟨q0, q1, qP, qK, qD⟩ := q; exact ⟨q0, q1, qP, va_K.moved (u := U) (U := U.calling g mk a) (Vm.Alike.refl U.vm) qK, qD⟩, fun U hU hW => ⟨rfl, by rw [hU], by rw [hU]; exact hPc, va_K.moved hW.alike hK, hDc.weaken (fun _ _ _ _ => trivial)⟩⟩ rfl rfl hl.1 rfl (lv_room (Nat.le_of_ble_eq_true rfl)) dX8_clear_21 ⟨Nat.le_of_ble_eq_true rfl, Nat.le_of_ble_eq_true rfl⟩) hS (fun q _ h => hFc q h) hFc (fun _ t H1 locs ht hvm hw hB hz1 hk1 hS => ?_)
  obtain ⟨hP1, hK1, hD1⟩ := hB
  rw [ht] at hP1
  obtain ⟨hP, hD⟩ := va_join (wr := [oRow ad xRow_depth xRow_length xRow_people xRow_scarves xRow_main xRow_faultPlace, oSU ad xSU_sleeper xSU_lastDue xSU_unreached, ar (ad 18) cA 640 u_1, ar (ad 19) cA 20 u_2, ar (ad 21) cA 20 gSUlost, ar (ad 22) cA 20 gSUfirst]) (w1 := [ar (ad 20) cA 20 u_3]) hP hD [4] [0, 1, 2, 3, 5, 6] rfl rfl (by decide) (by decide) hk1 hFc hP1 hD1
  clear hPc hDc hFc hP1 hK1 hD1 hk1 hz1 hvm ht
  generalize H1 = H at hP hS ⊢
  have hP : va_P (dC, dI) vwCl [oRow ad xRow_depth xRow_length xRow_people xRow_scarves xRow_main xRow_faultPlace, oSU ad xSU_sleeper xSU_lastDue xSU_unreached, ar (ad 18) cA 640 u_1, ar (ad 19) cA 20 u_2, ar (ad 20) cA 20 u_3, ar (ad 21) cA 20 gSUlost, ar (ad 22) cA 20 gSUfirst] H := hP.sub [0, 1, 2, 3, 6, 4, 5] rfl
  have hD : va_D A [oRow ad xRow_depth xRow_length xRow_people xRow_scarves xRow_main xRow_faultPlace, oSU ad xSU_sleeper xSU_lastDue xSU_unreached, ar (ad 18) cA 640 u_1, ar (ad 19) cA 20 u_2, ar (ad 20) cA 20 u_3, ar (ad 21) cA 20 gSUlost, ar (ad 22) cA 20 gSUfirst] := hD.sub [0, 1, 2, 3, 6, 4, 5] (by decide) rfl
  refine lv_aload_n hx hb dX8_clear_24 rfl (lv_at hl 0 rfl) ?_
  refine va_get (D := (dC, dI)) (ci := 8) (v := .ref (ad 21)) (C := RX8) (T := TX8) (N := 10) hx hb hts hinX8 hown hK hP 1 rfl rfl 5 (by decide) hl_29 (fun _ h9 => h9) rfl dX8_clear_25 ?_
  refine lv_iconst (v := 0) hx hb dX8_clear_28 (by decide) ?_
  have hPc := hP.sub (ws' := [ar (ad 21) cA 20 gSUlost]) [5] rfl
  have hDc := hD.sub (ws' := [ar (ad 21) cA 20 gSUlost]) [5] (by decide) rfl
  have hFc := va_free (wc := [ar (ad 21) cA 20 gSUlost]) hD hS hA [5] rfl
  obtain ⟨u_4, hc_4, hm⟩ := bd_ok hm
  refine va_callv (va_runS (As := [.ref (ad 21), .int 0]) (rest := []) ⟨hx, hb, hml, hown, hts⟩ (kJ_fill l dC dI cA (ad 21) H.size 0 20 gSUlost u_4 hc_4) (va_cwS 2 hts gX8_clear_J7_fill_53178 rfl rfl rfl (by decide +kernel) ⟨Nat.le_of_ble_eq_true rfl, Nat.le_of_ble_eq_true rfl⟩) ⟨fun a U g mk q => by obtain ⟨q0, q1, qP, qK, qD⟩ := q; exact ⟨q0, q1, qP, va_K.moved (u := U) (U := U.calling g mk a) (Vm.Alike.refl U.vm) qK, qD⟩, fun U hU hW => ⟨rfl, by rw [hU], by rw [hU]; exact hPc, va_K.moved hW.alike hK, hDc.weaken (fun _ _ _ _ => trivial)⟩⟩ rfl rfl hl.1 rfl (lv_room (Nat.le_of_ble_eq_true rfl)) dX8_clear_29 ⟨Nat.le_of_ble_eq_true rfl, Nat.le_of_ble_eq_true rfl⟩) hS (fun q _ h => hFc q h) hFc (fun _ t H1 locs ht hvm hw hB hz1 hk1 hS => ?_)
  obtain ⟨hP1, hK1, hD1⟩ := hB
  rw [ht] at hP1
  obtain ⟨hP, hD⟩ := va_join (wr := [oRow ad xRow_depth xRow_length xRow_people xRow_scarves xRow_main xRow_faultPlace, oSU ad xSU_sleeper xSU_lastDue xSU_unreached, ar (ad 18) cA 640 u_1, ar (ad 19) cA 20 u_2, ar (ad 20) cA 20 u_3, ar (ad 22) cA 20 gSUfirst]) (w1 := [ar (ad 21) cA 20 u_4]) hP hD [5] [0, 1, 2, 3, 4, 6] rfl rfl (by decide) (by decide) hk1 hFc hP1 hD1
  clear hPc hDc hFc hP1 hK1 hD1 hk1 hz1 hvm ht
  generalize H1 = H at hP hS ⊢
  have hP : va_P (dC, dI) vwCl [oRow ad xRow_depth xRow_length xRow_people xRow_scarves xRow_main xRow_faultPlace, oSU ad xSU_sleeper xSU_lastDue xSU_unreached, ar (ad 18) cA 640 u_1, ar (ad 19) cA 20 u_2, ar (ad 20) cA 20 u_3, ar (ad 21) cA 20 u_4, ar (ad 22) cA 20 gSUfirst] H := hP.sub [0, 1, 2, 3, 4, 6, 5] rfl
  have hD : va_D A [oRow ad xRow_depth xRow_length xRow_people xRow_scarves xRow_main xRow_faultPlace, oSU ad xSU_sleeper xSU_lastDue xSU_unreached, ar (ad 18) cA 640 u_1, ar (ad 19) cA 20 u_2, ar (ad 20) cA 20 u_3, ar (ad 21) cA 20 u_4, ar (ad 22) cA 20 gSUfirst] := hD.sub [0, 1, 2, 3, 4, 6, 5] (by decide) rfl
  refine lv_aload_n hx hb dX8_clear_32 rfl (lv_at hl 0 rfl) ?_
  refine va_get (D := (dC, dI)) (ci := 8) (v := .ref (ad 22)) (C := RX8) (T := TX8) (N := 10) hx hb hts hinX8 hown hK hP 1 rfl rfl 6 (by decide) hl_32 (fun _ h9 => h9) rfl dX8_clear_33 ?_
  refine lv_iconst (v := (-1)) hx hb dX8_clear_36 (by decide) ?_
  have hPc := hP.sub (ws' := [ar (ad 22) cA 20 gSUfirst]) [6] rfl
  have hDc := hD.sub (ws' := [ar (ad 22) cA 20 gSUfirst]) [6] (by decide) rfl
  have hFc := va_free (wc := [ar (ad 22) cA 20 gSUfirst]) hD hS hA [6] rfl
  obtain ⟨u_5, hc_5, hm⟩ := bd_ok hm
  refine va_callv (va_runS (As := [.ref (ad 22), .int (-1)]) (rest := []) ⟨hx, hb, hml, hown, hts⟩ (kJ_fill l dC dI cA (ad 22) H.size (-1) 20 gSUfirst u_5 hc_5) (va_cwS 2 hts gX8_clear_J7_fill_53178 rfl rfl rfl (by decide +kernel) ⟨Nat.le_of_ble_eq_true rfl, Nat.le_of_ble_eq_true rfl⟩) ⟨fun a U g mk q => by obtain ⟨q0, q1, qP, qK, qD⟩ := q; exact ⟨q0, q1, qP, va_K.moved (u := U) (U := U.calling g mk a) (Vm.Alike.refl U.vm) qK, qD⟩, fun U hU hW => ⟨rfl, by rw [hU], by rw [hU]; exact hPc, va_K.moved hW.alike hK, hDc.weaken (fun _ _ _ _ => trivial)⟩⟩ rfl rfl hl.1 rfl (lv_room (Nat.le_of_ble_eq_true rfl)) dX8_clear_37 ⟨Nat.le_of_ble_eq_true rfl, Nat.le_of_ble_eq_true rfl⟩) hS (fun q _ h => hFc q h) hFc (fun _ t H1 locs ht hvm hw hB hz1 hk1 hS => ?_)
  obtain ⟨hP1, hK1, hD1⟩ := hB
  rw [ht] at hP1
  obtain ⟨hP, hD⟩ := va_join (wr := [oRow ad xRow_depth xRow_length xRow_people xRow_scarves xRow_main xRow_faultPlace, oSU ad xSU_sleeper xSU_lastDue xSU_unreached, ar (ad 18) cA 640 u_1, ar (ad 19) cA 20 u_2, ar (ad 20) cA 20 u_3, ar (ad 21) cA 20 u_4]) (w1 := [ar (ad 22) cA 20 u_5]) hP hD [6] [0, 1, 2, 3, 4, 5] rfl rfl (by decide) (by decide) hk1 hFc hP1 hD1
  clear hPc hDc hFc hP1 hK1 hD1 hk1 hz1 hvm ht
  generalize H1 = H at hP hS ⊢
  have hP : va_P (dC, dI) vwCl [oRow ad xRow_depth xRow_length xRow_people xRow_scarves xRow_main xRow_faultPlace, oSU ad xSU_sleeper xSU_lastDue xSU_unreached, ar (ad 18) cA 640 u_1, ar (ad 19) cA 20 u_2, ar (ad 20) cA 20 u_3, ar (ad 21) cA 20 u_4, ar (ad 22) cA 20 u_5] H := hP
  have hD : va_D A [oRow ad xRow_depth xRow_length xRow_people xRow_scarves xRow_main xRow_faultPlace, oSU ad xSU_sleeper xSU_lastDue xSU_unreached, ar (ad 18) cA 640 u_1, ar (ad 19) cA 20 u_2, ar (ad 20) cA 20 u_3, ar (ad 21) cA 20 u_4, ar (ad 22) cA 20 u_5] := hD
  refine lv_aload_n hx hb dX8_clear_40 rfl (lv_at hl 0 rfl) ?_
  refine lv_iconst (v := (-1)) hx hb dX8_clear_41 (by decide) ?_
  refine va_put (D := (dC, dI)) (ci := 8) (v := .int (-1)) (ty := .int) (C := RX8) (T := TX8) (N := 10) hx hb hts hinX8 tyX8 tyX8_ok nmX8 hown hK hP hD hS 1 rfl rfl 8 (by decide) hl_47 (fun _ h9 => h9) rfl (by decide +kernel) rfl rfl (Nat.le_of_ble_eq_true rfl) dX8_clear_42 (fun H locs hP hD hS => ?_)
  have hP : va_P (dC, dI) vwCl [oRow ad xRow_depth xRow_length xRow_people xRow_scarves xRow_main xRow_faultPlace, oSU ad xSU_sleeper (-1) xSU_unreached, ar (ad 18) cA 640 u_1, ar (ad 19) cA 20 u_2, ar (ad 20) cA 20 u_3, ar (ad 21) cA 20 u_4, ar (ad 22) cA 20 u_5] H := hP
  have hD : va_D A [oRow ad xRow_depth xRow_length xRow_people xRow_scarves xRow_main xRow_faultPlace, oSU ad xSU_sleeper (-1) xSU_unreached, ar (ad 18) cA 640 u_1, ar (ad 19) cA 20 u_2, ar (ad 20) cA 20 u_3, ar (ad 21) cA 20 u_4, ar (ad 22) cA 20 u_5] := hD
  refine lv_aload_n hx hb dX8_clear_45 rfl (lv_at hl 0 rfl) ?_
  refine lv_aload_n hx hb dX8_clear_46 rfl (lv_at hl 0 rfl) ?_
  refine va_get (D := (dC, dI)) (ci := 8) (v := .ref (ad 1)) (C := RX8) (T := TX8) (N := 10) hx hb hts hinX8 hown hK hP 1 rfl rfl 0 (by decide) hl_9 (fun _ h9 => h9) rfl dX8_clear_47 ?_
  refine va_get (D := (dC, dI)) (ci := 5) (v := .int xRow_people) (C := RX5) (T := TX5) (N := 13) hx hb hts hinX5 hown hK hP 0 rfl rfl 9 (by decide) hl_42 (fun _ h9 => h9) rfl dX8_clear_50 ?_
  refine va_put (D := (dC, dI)) (ci := 8) (v := .int xRow_people) (ty := .int) (C := RX8) (T := TX8) (N := 10) hx hb hts hinX8 tyX8 tyX8_ok nmX8 hown hK hP hD hS 1 rfl rfl 9 (by decide) hl_50 (fun _ h9 => h9) rfl (by decide +kernel) rfl rfl (Nat.le_of_ble_eq_true rfl) dX8_clear_53 (fun H locs hP hD hS => ?_)
  have hP : va_P (dC, dI) vwCl [oRow ad xRow_depth xRow_length xRow_people xRow_scarves xRow_main xRow_faultPlace, oSU ad xSU_sleeper (-1) xRow_people, ar (ad 18) cA 640 u_1, ar (ad 19) cA 20 u_2, ar (ad 20) cA 20 u_3, ar (ad 21) cA 20 u_4, ar (ad 22) cA 20 u_5] H := hP
  have hD : va_D A [oRow ad xRow_depth xRow_length xRow_people xRow_scarves xRow_main xRow_faultPlace, oSU ad xSU_sleeper (-1) xRow_people, ar (ad 18) cA 640 u_1, ar (ad 19) cA 20 u_2, ar (ad 20) cA 20 u_3, ar (ad 21) cA 20 u_4, ar (ad 22) cA 20 u_5] := hD
  refine lv_aload_n hx hb dX8_clear_56 rfl (lv_at hl 0 rfl) ?_
  refine va_get (D := (dC, dI)) (ci := 8) (v := .null) (C := RX8) (T := TX8) (N := 10) hx hb hts hinX8 hown hK hP 1 rfl rfl 1 (by decide) hl_15 (fun _ h9 => h9) rfl dX8_clear_57 ?_
  refine lv_ifnullN (tgt := 71) hx hb dX8_clear_60 (by decide) ?_
  obtain rfl := Option.some.inj hm
  subst hQ
  exact W.vret hx hb hr (fun t ht hW => ⟨⟨(), rfl, trivial, by rw [ht]; exact hP, va_K.moved hW.alike hK, hAe ▸ hD⟩, hS.F ht⟩) hS.2.2 dX8_clear_71

set_option maxHeartbeats 4000000 in
set_option maxRecDepth 100000 in
theorem kS_passOn_U (l : Launch) (dC : Nat → ClassId) (dI : Nat → Nat → Nat) (cA : ClassId) (ad : Nat → Nat) (sz : Nat) (a1 : Int32) (a2 : Int32) (a3 : Int32) (xRow_depth : Int32) (xRow_length : Int32) (xRow_people : Int32) (xRow_scarves : Int32) (xRow_main : Int32) (xRow_faultPlace : Int32) (gRhands : Nat → Int32) (gRslow : Nat → Int32) (xSU_sleeper : Int32) (xSU_lastDue : Int32) (xSU_unreached : Int32) (gSUdue : Nat → Int32) (u : Int32 × (Nat → Int32)) (hm : fS_passOn_U a1 a2 a3 xRow_people gRhands gRslow xSU_lastDue gSUdue = some u) : Met l yX8_passOn wsX8_passOn ({ frames := 0, cells := 0, slots := 0, locals := 0 }) (va_Pc [.ref (ad 17), .int a1, .int a2, .int a3] (fun U => U.heap.size = sz ∧ va_P (dC, dI) vwCl [oRow ad xRow_depth xRow_length xRow_people xRow_scarves xRow_main xRow_faultPlace, ar (ad 5) cA 20 gRhands, ar (ad 6) cA 20 gRslow, oSU ad xSU_sleeper xSU_lastDue xSU_unreached, ar (ad 18) cA 640 gSUdue] U.heap ∧ va_K (dC, dI) vwCl [(cA, .int)] U ∧ va_D (fun _ => True) [oRow ad xRow_depth xRow_length xRow_people xRow_scarves xRow_main xRow_faultPlace, ar (ad 5) cA 20 gRhands, ar (ad 6) cA 20 gRslow, oSU ad xSU_sleeper xSU_lastDue xSU_unreached, ar (ad 18) cA 640 gSUdue])) (va_Qv (fun (_ : Unit) => True) (fun (_ : Unit) t => va_P (dC, dI) vwCl [oRow ad xRow_depth xRow_length xRow_people xRow_scarves xRow_main xRow_faultPlace, ar (ad 5) cA 20 gRhands, ar (ad 6) cA 20 gRslow, oSU ad xSU_sleeper u.1 xSU_unreached, ar (ad 18) cA 640 u.2] t.heap ∧ va_K (dC, dI) vwCl [(cA, .int)] t ∧ va_D (va_A [oRow ad xRow_depth xRow_length xRow_people xRow_scarves xRow_main xRow_faultPlace, ar (ad 5) cA 20 gRhands, ar (ad 6) cA 20 gRslow, oSU ad xSU_sleeper xSU_lastDue xSU_unreached, ar (ad 18) cA 640 gSUdue] sz) [oRow ad xRow_depth xRow_length xRow_people xRow_scarves xRow_main xRow_faultPlace, ar (ad 5) cA 20 gRhands, ar (ad 6) cA 20 gRslow, oSU ad xSU_sleeper u.1 xSU_unreached, ar (ad 18) cA 640 u.2]) (va_A [oRow ad xRow_depth xRow_length xRow_people xRow_scarves xRow_main xRow_faultPlace, ar (ad 5) cA 20 gRhands, ar (ad 6) cA 20 gRslow, oSU ad xSU_sleeper xSU_lastDue xSU_unreached, ar (ad 18) cA 640 gSUdue] sz)) 0 0 (va_A [oRow ad xRow_depth xRow_length xRow_people xRow_scarves xRow_main xRow_faultPlace, ar (ad 5) cA 20 gRhands, ar (ad 6) cA 20 gRslow, oSU ad xSU_sleeper xSU_lastDue xSU_unreached, ar (ad 18) cA 640 gSUdue] sz) := by
  refine Met.ofW (cc := cX8_passOn) (maxL := 6) (ret := none) (by decide) rfl ?_
  intro p e s m args below meth c s₁ B hml hv
  obtain ⟨rfl, hsz, hP, hK, hD0⟩ := hv
  have hx := B.exec
  have hb := B.bytes
  have hr := B.returns
  have hts := atoms_spec (ws := wsX8_passOn) B.pre
  have hown : s.vm.findClass RX8 = some m.cls := findClass_of_methodNamed B.named
  have hlocks := B.notSynchronized
  subst hsz
  have hD := hD0.self (sz := s.heap.size)
  generalize hAe : va_A [oRow ad xRow_depth xRow_length xRow_people xRow_scarves xRow_main xRow_faultPlace, ar (ad 5) cA 20 gRhands, ar (ad 6) cA 20 gRslow, oSU ad xSU_sleeper xSU_lastDue xSU_unreached, ar (ad 18) cA 640 gSUdue] s.heap.size = A at hD ⊢
  have hA : ∀ q : Nat, s.heap.size ≤ q → A q := fun q h => by rw [← hAe]; exact Or.inr h
  have hS : va_S A s.heap s.heap [] := va_S.rf
  have hl := lv_entry ([.ref (ad 17), .int a1, .int a2, .int a3]) (n := 6) (Nat.le_of_ble_eq_true rfl)
  rw [lg_entry_eq]
  generalize (lg_sl ([.ref (ad 17), .int a1, .int a2, .int a3]) ++ List.replicate (6 - (lg_sl ([.ref (ad 17), .int a1, .int a2, .int a3])).length) Slot.unset).toArray = ls at hl ⊢
  have hl : lv_has ls 6 [(0, .ref (ad 17)), (1, .int a1), (2, .int a2), (3, .int a3)] := hl
  refine wk_Q (fun QQ hQ => ?_)
  have hinX8 : ∀ w ∈ wsX80, w ∈ wsX8_passOn := fun w h => List.mem_cons_of_mem _ (inlX8 w h)
  have hl_47 := hts (.fieldLink RX8 47 "HandCensus$Squeeze" "lastDue" "I") (List.mem_cons_of_mem _ (in_r14 _ (List.mem_of_getElem? (i := 20) rfl)))
  have hl_19 := hts (.fieldLink RX8 19 "HandCensus$Squeeze" "due" "[I") (List.mem_cons_of_mem _ (in_r4 _ (List.mem_of_getElem? (i := 4) rfl)))
  have hl_9 := hts (.fieldLink RX8 9 "HandCensus$Squeeze" "row" "LHandCensus$Row;") (List.mem_cons_of_mem _ (in_r4 _ (List.mem_of_getElem? (i := 2) rfl)))
  have hinX5 : ∀ w ∈ wsX50, w ∈ wsX8_passOn := fun w h => List.mem_cons_of_mem _ (inlX5 w h)
  have hl_42 := hts (.fieldLink RX8 42 "HandCensus$Row" "people" "I") (List.mem_cons_of_mem _ (in_r14 _ (List.mem_of_getElem? (i := 19) rfl)))
  have hl_89 := hts (.fieldLink RX8 89 "HandCensus$Row" "hands" "[I") (List.mem_cons_of_mem _ (in_r17 _ (List.mem_of_getElem? (i := 0) rfl)))
  have hl_92 := hts (.fieldLink RX8 92 "HandCensus$Row" "slow" "[I") (List.mem_cons_of_mem _ (in_r17 _ (List.mem_of_getElem? (i := 1) rfl)))
  have h_3 : ∀ (v1_3 : Int32) (v2_3 : Int32) (v3_3 : Int32), ∀ (n_3 : Nat), ∀ (v4_3 : Int32) (xSU_lastDue_3 : Int32) (gSUdue_3 : Nat → Int32), fS_passOn_U_3 v1_3 v2_3 v3_3 xRow_people gRhands gRslow n_3 v4_3 xSU_lastDue_3 gSUdue_3 = some u → ∀ (H : Heap) (locs : List Loc), va_P (dC, dI) vwCl [oRow ad xRow_depth xRow_length xRow_people xRow_scarves xRow_main xRow_faultPlace, ar (ad 5) cA 20 gRhands, ar (ad 6) cA 20 gRslow, oSU ad xSU_sleeper xSU_lastDue_3 xSU_unreached, ar (ad 18) cA 640 gSUdue_3] H → va_D A [oRow ad xRow_depth xRow_length xRow_people xRow_scarves xRow_main xRow_faultPlace, ar (ad 5) cA 20 gRhands, ar (ad 6) cA 20 gRslow, oSU ad xSU_sleeper xSU_lastDue_3 xSU_unreached, ar (ad 18) cA 640 gSUdue_3] → va_S A s.heap H locs → ∀ ls : Array Slot, lv_has ls 6 [(0, .ref (ad 17)), (1, .int v1_3), (2, .int v2_3), (3, .int v3_3), (4, .int v4_3)] → W p l e (headSpec wsX8_passOn ({ frames := 0, cells := 0, slots := 0, locals := 0 })).room s m ([.ref (ad 17), .int a1, .int a2, .int a3] : List Value).toArray below meth c H locs 0 0 QQ (F0 m 3 ls []) := by
    intro v1_3 v2_3 v3_3
    intro n_3
    induction n_3 with
    | zero => intro v4_3 xSU_lastDue_3 gSUdue_3 hm; have hm : (none : Option (Int32 × (Nat → Int32))) = some u := hm; cases hm
    | succ n_3 ih_3 =>
      have b_121 : ∀ (v4_121 : Int32) (xSU_lastDue_121 : Int32) (gSUdue_121 : Nat → Int32), fS_passOn_U_121 (fS_passOn_U_3  v1_3 v2_3 v3_3 xRow_people gRhands gRslow n_3) v1_3 v2_3 v3_3 v4_121 xRow_people gRhands gRslow xSU_lastDue_121 gSUdue_121 = some u → ∀ (H : Heap) (locs : List Loc), va_P (dC, dI) vwCl [oRow ad xRow_depth xRow_length xRow_people xRow_scarves xRow_main xRow_faultPlace, ar (ad 5) cA 20 gRhands, ar (ad 6) cA 20 gRslow, oSU ad xSU_sleeper xSU_lastDue_121 xSU_unreached, ar (ad 18) cA 640 gSUdue_121] H → va_D A [oRow ad xRow_depth xRow_length xRow_people xRow_scarves xRow_main xRow_faultPlace, ar (ad 5) cA 20 gRhands, ar (ad 6) cA 20 gRslow, oSU ad xSU_sleeper xSU_lastDue_121 xSU_unreached, ar (ad 18) cA 640 gSUdue_121] → va_S A s.heap H locs → ∀ ls : Array Slot, lv_has ls 6 [(0, .ref (ad 17)), (1, .int v1_3), (2, .int v2_3), (3, .int v3_3), (4, .int v4_121)] → W p l e (headSpec wsX8_passOn ({ frames := 0, cells := 0, slots := 0, locals := 0 })).room s m ([.ref (ad 17), .int a1, .int a2, .int a3] : List Value).toArray below meth c H locs 0 0 QQ (F0 m 121 ls []) := by
        intro v4_121 xSU_lastDue_121 gSUdue_121 hm H locs hP hD hS ls hl
        unfold fS_passOn_U_121 at hm
        refine lv_iinc (v := (v4_121 + 1)) (lv' := [(4, .int (v4_121 + 1)), (0, .ref (ad 17)), (1, .int v1_3), (2, .int v2_3), (3, .int v3_3)]) hx hb dX8_passOn_121 hl (k := 4) rfl rfl (by decide) rfl (fun ls hl => ?_)
        refine lv_goto (tgt := 3) hx hb dX8_passOn_124 (by decide) ?_
        exact ih_3 _ _ _ hm _ _ hP hD hS _ (lv_sub hl [1, 2, 3, 4, 0] rfl)
      have b_118 : ∀ (v4_118 : Int32) (s1_118 : Int32) (xSU_lastDue_118 : Int32) (gSUdue_118 : Nat → Int32), fS_passOn_U_118 (fS_passOn_U_3  v1_3 v2_3 v3_3 xRow_people gRhands gRslow n_3) v1_3 v2_3 v3_3 v4_118 s1_118 xRow_people gRhands gRslow xSU_lastDue_118 gSUdue_118 = some u → ∀ (H : Heap) (locs : List Loc), va_P (dC, dI) vwCl [oRow ad xRow_depth xRow_length xRow_people xRow_scarves xRow_main xRow_faultPlace, ar (ad 5) cA 20 gRhands, ar (ad 6) cA 20 gRslow, oSU ad xSU_sleeper xSU_lastDue_118 xSU_unreached, ar (ad 18) cA 640 gSUdue_118] H → va_D A [oRow ad xRow_depth xRow_length xRow_people xRow_scarves xRow_main xRow_faultPlace, ar (ad 5) cA 20 gRhands, ar (ad 6) cA 20 gRslow, oSU ad xSU_sleeper xSU_lastDue_118 xSU_unreached, ar (ad 18) cA 640 gSUdue_118] → va_S A s.heap H locs → ∀ ls : Array Slot, lv_has ls 6 [(0, .ref (ad 17)), (1, .int v1_3), (2, .int v2_3), (3, .int v3_3), (4, .int v4_118)] → W p l e (headSpec wsX8_passOn ({ frames := 0, cells := 0, slots := 0, locals := 0 })).room s m ([.ref (ad 17), .int a1, .int a2, .int a3] : List Value).toArray below meth c H locs 0 0 QQ (F0 m 118 ls [.int s1_118, .ref (ad 17)]) := by
        intro v4_118 s1_118 xSU_lastDue_118 gSUdue_118 hm H locs hP hD hS ls hl
        unfold fS_passOn_U_118 at hm
        refine va_put (D := (dC, dI)) (ci := 8) (v := .int s1_118) (ty := .int) (C := RX8) (T := TX8) (N := 10) hx hb hts hinX8 tyX8 tyX8_ok nmX8 hown hK hP hD hS 3 rfl rfl 8 (by decide) hl_47 (fun _ h9 => h9) rfl (by decide +kernel) rfl rfl (Nat.le_of_ble_eq_true rfl) dX8_passOn_118 (fun H locs hP hD hS => ?_)
        have hP : va_P (dC, dI) vwCl [oRow ad xRow_depth xRow_length xRow_people xRow_scarves xRow_main xRow_faultPlace, ar (ad 5) cA 20 gRhands, ar (ad 6) cA 20 gRslow, oSU ad xSU_sleeper s1_118 xSU_unreached, ar (ad 18) cA 640 gSUdue_118] H := hP
        have hD : va_D A [oRow ad xRow_depth xRow_length xRow_people xRow_scarves xRow_main xRow_faultPlace, ar (ad 5) cA 20 gRhands, ar (ad 6) cA 20 gRslow, oSU ad xSU_sleeper s1_118 xSU_unreached, ar (ad 18) cA 640 gSUdue_118] := hD
        exact b_121 _ _ _ hm _ _ hP hD hS _ (lv_sub hl [0, 1, 2, 3, 4] rfl)
      have b_65 : ∀ (v4_65 : Int32) (s0_65 : Int32) (xSU_lastDue_65 : Int32) (gSUdue_65 : Nat → Int32), fS_passOn_U_65 (fS_passOn_U_3  v1_3 v2_3 v3_3 xRow_people gRhands gRslow n_3) v1_3 v2_3 v3_3 v4_65 s0_65 xRow_people gRhands gRslow xSU_lastDue_65 gSUdue_65 = some u → ∀ (H : Heap) (locs : List Loc), va_P (dC, dI) vwCl [oRow ad xRow_depth xRow_length xRow_people xRow_scarves xRow_main xRow_faultPlace, ar (ad 5) cA 20 gRhands, ar (ad 6) cA 20 gRslow, oSU ad xSU_sleeper xSU_lastDue_65 xSU_unreached, ar (ad 18) cA 640 gSUdue_65] H → va_D A [oRow ad xRow_depth xRow_length xRow_people xRow_scarves xRow_main xRow_faultPlace, ar (ad 5) cA 20 gRhands, ar (ad 6) cA 20 gRslow, oSU ad xSU_sleeper xSU_lastDue_65 xSU_unreached, ar (ad 18) cA 640 gSUdue_65] → va_S A s.heap H locs → ∀ ls : Array Slot, lv_has ls 6 [(0, .ref (ad 17)), (1, .int v1_3), (2, .int v2_3), (3, .int v3_3), (4, .int v4_65)] → W p l e (headSpec wsX8_passOn ({ frames := 0, cells := 0, slots := 0, locals := 0 })).room s m ([.ref (ad 17), .int a1, .int a2, .int a3] : List Value).toArray below meth c H locs 0 0 QQ (F0 m 65 ls [.int s0_65]) := by
        intro v4_65 s0_65 xSU_lastDue_65 gSUdue_65 hm H locs hP hD hS ls hl
        unfold fS_passOn_U_65 at hm
        refine lv_istore (lv' := [(5, .int s0_65), (0, .ref (ad 17)), (1, .int v1_3), (2, .int v2_3), (3, .int v3_3), (4, .int v4_65)]) hx hb dX8_passOn_65 hl (by decide) rfl (fun ls hl => ?_)
        refine lv_iload hx hb dX8_passOn_67 (lv_at hl 0 rfl) ?_
        refine lv_sipush (v := 400) hx hb dX8_passOn_69 (by decide) ?_
        refine lv_icmp_gt (tgt := 121) hx hb dX8_passOn_72 (by decide) (fun c_1 => ?_) (fun c_1 => ?_)
        · have hm := it_pos c_1 hm
          exact b_121 _ _ _ hm _ _ hP hD hS _ (lv_sub hl [1, 2, 3, 4, 5] rfl)
        · have hm := it_neg c_1 hm
          refine lv_aload_n hx hb dX8_passOn_75 rfl (lv_at hl 1 rfl) ?_
          refine va_get (D := (dC, dI)) (ci := 8) (v := .ref (ad 18)) (C := RX8) (T := TX8) (N := 10) hx hb hts hinX8 hown hK hP 3 rfl rfl 2 (by decide) hl_19 (fun _ h9 => h9) rfl dX8_passOn_76 ?_
          refine lv_iload hx hb dX8_passOn_79 (lv_at hl 0 rfl) ?_
          refine lv_bipush (v := 32) hx hb dX8_passOn_81 (by decide) ?_
          refine lv_irem hx hb dX8_passOn_83 (by decide) ?_
          refine lv_bipush (v := 20) hx hb dX8_passOn_84 (by decide) ?_
          refine lv_imul hx hb dX8_passOn_86 ?_
          refine lv_iload hx hb dX8_passOn_87 (lv_at hl 5 rfl) ?_
          refine lv_iadd hx hb dX8_passOn_89 ?_
          refine lv_dup2_11 hx hb dX8_passOn_90 rfl rfl ?_
          obtain ⟨i_3, hm⟩ := ck_ok hm
          refine va_iald hx hb hK hP 4 0 rfl rfl i_3 dX8_passOn_91 ?_
          refine lv_iconst (v := 1) hx hb dX8_passOn_92 (by decide) ?_
          refine lv_iload_n hx hb dX8_passOn_93 rfl (lv_at hl 2 rfl) ?_
          refine lv_iconst (v := 2) hx hb dX8_passOn_94 (by decide) ?_
          refine lv_iadd hx hb dX8_passOn_95 ?_
          refine lv_ishl hx hb dX8_passOn_96 ?_
          refine lv_ior hx hb dX8_passOn_97 ?_
          obtain ⟨i_4, hm⟩ := ck_ok hm
          refine va_iast hx hb hK hP hD hS 4 0 rfl rfl i_4 dX8_passOn_98 (fun H locs hP hD hS => ?_)
          have hP : va_P (dC, dI) vwCl [oRow ad xRow_depth xRow_length xRow_people xRow_scarves xRow_main xRow_faultPlace, ar (ad 5) cA 20 gRhands, ar (ad 6) cA 20 gRslow, oSU ad xSU_sleeper xSU_lastDue_65 xSU_unreached, ar (ad 18) cA 640 (upd gSUdue_65 (((s0_65 - s0_65 / 32 * 32) * 20) + v4_65).toNatClampNeg ((gSUdue_65 (((s0_65 - s0_65 / 32 * 32) * 20) + v4_65).toNatClampNeg) ||| (1 <<< ((v1_3 + 2) &&& 31))))] H := hP
          have hD : va_D A [oRow ad xRow_depth xRow_length xRow_people xRow_scarves xRow_main xRow_faultPlace, ar (ad 5) cA 20 gRhands, ar (ad 6) cA 20 gRslow, oSU ad xSU_sleeper xSU_lastDue_65 xSU_unreached, ar (ad 18) cA 640 (upd gSUdue_65 (((s0_65 - s0_65 / 32 * 32) * 20) + v4_65).toNatClampNeg ((gSUdue_65 (((s0_65 - s0_65 / 32 * 32) * 20) + v4_65).toNatClampNeg) ||| (1 <<< ((v1_3 + 2) &&& 31))))] := hD
          refine lv_aload_n hx hb dX8_passOn_99 rfl (lv_at hl 1 rfl) ?_
          refine lv_iload hx hb dX8_passOn_100 (lv_at hl 0 rfl) ?_
          refine lv_aload_n hx hb dX8_passOn_102 rfl (lv_at hl 1 rfl) ?_
          refine va_get (D := (dC, dI)) (ci := 8) (v := .int xSU_lastDue_65) (C := RX8) (T := TX8) (N := 10) hx hb hts hinX8 hown hK hP 3 rfl rfl 8 (by decide) hl_47 (fun _ h9 => h9) rfl dX8_passOn_103 ?_
          refine lv_icmp_le (tgt := 114) hx hb dX8_passOn_106 (by decide) (fun c_5 => ?_) (fun c_5 => ?_)
          · have hm := it_pos c_5 hm
            refine lv_aload_n hx hb dX8_passOn_114 rfl (lv_at hl 1 rfl) ?_
            refine va_get (D := (dC, dI)) (ci := 8) (v := .int xSU_lastDue_65) (C := RX8) (T := TX8) (N := 10) hx hb hts hinX8 hown hK hP 3 rfl rfl 8 (by decide) hl_47 (fun _ h9 => h9) rfl dX8_passOn_115 ?_
            exact b_118 _ _ _ _ hm _ _ hP hD hS _ (lv_sub hl [1, 2, 3, 4, 5] rfl)
          · have hm := it_neg c_5 hm
            refine lv_iload hx hb dX8_passOn_109 (lv_at hl 0 rfl) ?_
            refine lv_goto (tgt := 118) hx hb dX8_passOn_111 (by decide) ?_
            exact b_118 _ _ _ _ hm _ _ hP hD hS _ (lv_sub hl [1, 2, 3, 4, 5] rfl)
      intro v4_3 xSU_lastDue_3 gSUdue_3 hm H locs hP hD hS ls hl
      have hm : fS_passOn_U_3_b  (fS_passOn_U_3  v1_3 v2_3 v3_3 xRow_people gRhands gRslow n_3) v1_3 v2_3 v3_3 xRow_people gRhands gRslow v4_3 xSU_lastDue_3 gSUdue_3 = some u := hm
      unfold fS_passOn_U_3_b at hm
      refine lv_iload hx hb dX8_passOn_3 (lv_at hl 4 rfl) ?_
      refine lv_aload_n hx hb dX8_passOn_5 rfl (lv_at hl 0 rfl) ?_
      refine va_get (D := (dC, dI)) (ci := 8) (v := .ref (ad 1)) (C := RX8) (T := TX8) (N := 10) hx hb hts hinX8 hown hK hP 3 rfl rfl 0 (by decide) hl_9 (fun _ h9 => h9) rfl dX8_passOn_6 ?_
      refine va_get (D := (dC, dI)) (ci := 5) (v := .int xRow_people) (C := RX5) (T := TX5) (N := 13) hx hb hts hinX5 hown hK hP 0 rfl rfl 9 (by decide) hl_42 (fun _ h9 => h9) rfl dX8_passOn_9 ?_
      refine lv_icmp_ge (tgt := 127) hx hb dX8_passOn_12 (by decide) (fun c_6 => ?_) (fun c_6 => ?_)
      · have hm := it_pos c_6 hm
        obtain rfl := Option.some.inj hm
        subst hQ
        exact W.vret hx hb hr (fun t ht hW => ⟨⟨(), rfl, trivial, by rw [ht]; exact hP, va_K.moved hW.alike hK, hAe ▸ hD⟩, hS.F ht⟩) hS.2.2 dX8_passOn_127
      · have hm := it_neg c_6 hm
        refine lv_iload hx hb dX8_passOn_15 (lv_at hl 4 rfl) ?_
        refine lv_iload_n hx hb dX8_passOn_17 rfl (lv_at hl 3 rfl) ?_
        refine lv_icmp_eq (tgt := 121) hx hb dX8_passOn_18 (by decide) (fun c_7 => ?_) (fun c_7 => ?_)
        · have hm := it_pos c_7 hm
          exact b_121 _ _ _ hm _ _ hP hD hS _ (lv_sub hl [0, 1, 2, 3, 4] rfl)
        · have hm := it_neg c_7 hm
          refine lv_aload_n hx hb dX8_passOn_21 rfl (lv_at hl 0 rfl) ?_
          refine va_get (D := (dC, dI)) (ci := 8) (v := .ref (ad 1)) (C := RX8) (T := TX8) (N := 10) hx hb hts hinX8 hown hK hP 3 rfl rfl 0 (by decide) hl_9 (fun _ h9 => h9) rfl dX8_passOn_22 ?_
          refine va_get (D := (dC, dI)) (ci := 5) (v := .ref (ad 5)) (C := RX5) (T := TX5) (N := 13) hx hb hts hinX5 hown hK hP 0 rfl rfl 3 (by decide) hl_89 (fun _ h9 => h9) rfl dX8_passOn_25 ?_
          refine lv_iload_n hx hb dX8_passOn_28 rfl (lv_at hl 1 rfl) ?_
          obtain ⟨i_8, hm⟩ := ck_ok hm
          refine va_iald hx hb hK hP 1 0 rfl rfl i_8 dX8_passOn_29 ?_
          refine lv_iload hx hb dX8_passOn_30 (lv_at hl 4 rfl) ?_
          refine lv_ishr hx hb dX8_passOn_32 ?_
          refine lv_iconst (v := 1) hx hb dX8_passOn_33 (by decide) ?_
          refine lv_iand hx hb dX8_passOn_34 ?_
          refine lv_if_ne (tgt := 41) hx hb dX8_passOn_35 (by decide) (fun c_9 => ?_) (fun c_9 => ?_)
          · have hm := it_neg c_9 hm
            refine lv_aload_n hx hb dX8_passOn_41 rfl (lv_at hl 0 rfl) ?_
            refine va_get (D := (dC, dI)) (ci := 8) (v := .ref (ad 1)) (C := RX8) (T := TX8) (N := 10) hx hb hts hinX8 hown hK hP 3 rfl rfl 0 (by decide) hl_9 (fun _ h9 => h9) rfl dX8_passOn_42 ?_
            refine va_get (D := (dC, dI)) (ci := 5) (v := .ref (ad 6)) (C := RX5) (T := TX5) (N := 13) hx hb hts hinX5 hown hK hP 0 rfl rfl 4 (by decide) hl_92 (fun _ h9 => h9) rfl dX8_passOn_45 ?_
            refine lv_iload_n hx hb dX8_passOn_48 rfl (lv_at hl 1 rfl) ?_
            obtain ⟨i_10, hm⟩ := ck_ok hm
            refine va_iald hx hb hK hP 2 0 rfl rfl i_10 dX8_passOn_49 ?_
            refine lv_iload hx hb dX8_passOn_50 (lv_at hl 4 rfl) ?_
            refine lv_ishr hx hb dX8_passOn_52 ?_
            refine lv_iconst (v := 1) hx hb dX8_passOn_53 (by decide) ?_
            refine lv_iand hx hb dX8_passOn_54 ?_
            refine lv_if_ne (tgt := 62) hx hb dX8_passOn_55 (by decide) (fun c_11 => ?_) (fun c_11 => ?_)
            · have hm := it_neg c_11 hm
              refine lv_iload_n hx hb dX8_passOn_62 rfl (lv_at hl 2 rfl) ?_
              refine lv_iconst (v := 3) hx hb dX8_passOn_63 (by decide) ?_
              refine lv_iadd hx hb dX8_passOn_64 ?_
              exact b_65 _ _ _ _ hm _ _ hP hD hS _ (lv_sub hl [0, 1, 2, 3, 4] rfl)
            · have hm := it_pos c_11 hm
              refine lv_iload_n hx hb dX8_passOn_58 rfl (lv_at hl 2 rfl) ?_
              refine lv_goto (tgt := 65) hx hb dX8_passOn_59 (by decide) ?_
              exact b_65 _ _ _ _ hm _ _ hP hD hS _ (lv_sub hl [0, 1, 2, 3, 4] rfl)
          · have hm := it_pos c_9 hm
            refine lv_goto (tgt := 121) hx hb dX8_passOn_38 (by decide) ?_
            exact b_121 _ _ _ hm _ _ hP hD hS _ (lv_sub hl [0, 1, 2, 3, 4] rfl)
  unfold fS_passOn_U at hm
  refine lv_iconst (v := 0) hx hb dX8_passOn_0 (by decide) ?_
  refine lv_istore (lv' := [(4, .int 0), (0, .ref (ad 17)), (1, .int a1), (2, .int a2), (3, .int a3)]) hx hb dX8_passOn_1 hl (by decide) rfl (fun ls hl => ?_)
  exact h_3 _ _ _ _ _ _ _ hm _ _ hP hD hS _ (lv_sub hl [1, 2, 3, 4, 0] rfl)
