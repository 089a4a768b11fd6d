set_option maxHeartbeats 4000000 in
set_option maxRecDepth 100000 in
theorem kM_leaveOf (l : Launch) (dC : Nat → ClassId) (dI : Nat → Nat → Nat) (cA : ClassId) (cB : ClassId) (ad : Nat → Nat) (sz : Nat) (a1 : Int32) (xM_typed : Int32) (xM_people : Int32) (xM_posted : Int32) (xM_hears : Int32) (xM_censuses : Int32) (xM_finding : Int32) (gMcensusYear : Nat → Int32) (gMcensusMany : Nat → Int32) (gMborn : Nat → Int32) (u : Int32) (hm : fM_leaveOf a1 xM_censuses gMcensusYear gMcensusMany gMborn = some u) : Met l yX10_leaveOf wsX10_leaveOf ({ frames := 2, cells := 0, slots := 0, locals := 50 }) (va_Pc [.ref (ad 0), .int a1] (fun U => U.heap.size = sz ∧ va_P (dC, dI) vwCl [oM ad xM_typed xM_people xM_posted xM_hears xM_censuses xM_finding, ar (ad 24) cA 8 gMcensusYear, ar (ad 25) cA 8 gMcensusMany, ar (ad 26) cA 100 gMborn] U.heap ∧ va_K (dC, dI) vwCl [(cA, .int), (cB, .boolean)] U ∧ va_D (fun _ => True) [oM ad xM_typed xM_people xM_posted xM_hears xM_censuses xM_finding, ar (ad 24) cA 8 gMcensusYear, ar (ad 25) cA 8 gMcensusMany, ar (ad 26) cA 100 gMborn])) (va_Qi (fun (r : Int32) (_ : Unit) => r = u) (fun (_ : Unit) t => va_P (dC, dI) vwCl [oM ad xM_typed xM_people xM_posted xM_hears xM_censuses xM_finding, ar (ad 24) cA 8 gMcensusYear, ar (ad 25) cA 8 gMcensusMany, ar (ad 26) cA 100 gMborn] t.heap ∧ va_K (dC, dI) vwCl [(cA, .int), (cB, .boolean)] t ∧ va_D (va_A [oM ad xM_typed xM_people xM_posted xM_hears xM_censuses xM_finding, ar (ad 24) cA 8 gMcensusYear, ar (ad 25) cA 8 gMcensusMany, ar (ad 26) cA 100 gMborn] sz) [oM ad xM_typed xM_people xM_posted xM_hears xM_censuses xM_finding, ar (ad 24) cA 8 gMcensusYear, ar (ad 25) cA 8 gMcensusMany, ar (ad 26) cA 100 gMborn]) (va_A [oM ad xM_typed xM_people xM_posted xM_hears xM_censuses xM_finding, ar (ad 24) cA 8 gMcensusYear, ar (ad 25) cA 8 gMcensusMany, ar (ad 26) cA 100 gMborn] sz)) 0 0 (va_A [oM ad xM_typed xM_people xM_posted xM_hears xM_censuses xM_finding, ar (ad 24) cA 8 gMcensusYear, ar (ad 25) cA 8 gMcensusMany, ar (ad 26) cA 100 gMborn] sz) := by
  refine Met.ofW (cc := cX10_leaveOf) (maxL := 5) (ret := (some .int)) (by decide) rfl ?_
  intro p e s m args below meth c s₁ B hml hv
  obtain ⟨rfl, hsz, hP, hK, hD0⟩ := hv
  have hx := B.exec
  have hb := B.bytes
  have hr := B.returns
  have hts := atoms_spec (ws := wsX10_leaveOf) B.pre
  have hown : s.vm.findClass RX10 = some m.cls := findClass_of_methodNamed B.named
  have hlocks := B.notSynchronized
  subst hsz
  have hD := hD0.self (sz := s.heap.size)
  generalize hAe : va_A [oM ad xM_typed xM_people xM_posted xM_hears xM_censuses xM_finding, ar (ad 24) cA 8 gMcensusYear, ar (ad 25) cA 8 gMcensusMany, ar (ad 26) cA 100 gMborn] s.heap.size = A at hD ⊢
  have hA : ∀ q : Nat, s.heap.size ≤ q → A q := fun q h => by rw [← hAe]; exact Or.inr h
  have hS : va_S A s.heap s.heap [] := va_S.rf
  have hl := lv_entry ([.ref (ad 0), .int a1]) (n := 5) (Nat.le_of_ble_eq_true rfl)
  rw [lg_entry_eq]
  generalize (lg_sl ([.ref (ad 0), .int a1]) ++ List.replicate (5 - (lg_sl ([.ref (ad 0), .int a1])).length) Slot.unset).toArray = ls at hl ⊢
  have hl : lv_has ls 5 [(0, .ref (ad 0)), (1, .int a1)] := hl
  refine wk_Q (fun QQ hQ => ?_)
  have hinX10 : ∀ w ∈ wsX100, w ∈ wsX10_leaveOf := fun w h => List.mem_cons_of_mem _ (inlX10 w h)
  have hl_252 := hts (.fieldLink RX10 252 "HandCensusModel" "censuses" "I") (List.mem_cons_of_mem _ (in_r36 _ (List.mem_of_getElem? (i := 22) rfl)))
  have h_14 : ∀ (v1_14 : Int32), ∀ (n_14 : Nat), ∀ (v2_14 : Int32) (v3_14 : Int32), fM_leaveOf_14 v1_14 xM_censuses gMcensusYear gMcensusMany gMborn n_14 v2_14 v3_14 = some u → ∀ (H : Heap) (locs : List Loc), va_P (dC, dI) vwCl [oM ad xM_typed xM_people xM_posted xM_hears xM_censuses xM_finding, ar (ad 24) cA 8 gMcensusYear, ar (ad 25) cA 8 gMcensusMany, ar (ad 26) cA 100 gMborn] H → va_D A [oM ad xM_typed xM_people xM_posted xM_hears xM_censuses xM_finding, ar (ad 24) cA 8 gMcensusYear, ar (ad 25) cA 8 gMcensusMany, ar (ad 26) cA 100 gMborn] → va_S A s.heap H locs → ∀ ls : Array Slot, lv_has ls 5 [(0, .ref (ad 0)), (1, .int v1_14), (2, .int v2_14), (3, .int v3_14)] → W p l e (headSpec wsX10_leaveOf ({ frames := 2, cells := 0, slots := 0, locals := 50 })).room s m ([.ref (ad 0), .int a1] : List Value).toArray below meth c H locs 0 0 QQ (F0 m 14 ls []) := by
    intro v1_14
    intro n_14
    induction n_14 with
    | zero => intro v2_14 v3_14 hm; have hm : (none : Option (Int32)) = some u := hm; cases hm
    | succ n_14 ih_14 =>
      have b_65 : ∀ (v3_65 : Int32) (s0_65 : Int32), fM_leaveOf_65 (fM_leaveOf_14  v1_14 xM_censuses gMcensusYear gMcensusMany gMborn n_14) v1_14 v3_65 s0_65 xM_censuses gMcensusYear gMcensusMany gMborn = some u → ∀ (H : Heap) (locs : List Loc), va_P (dC, dI) vwCl [oM ad xM_typed xM_people xM_posted xM_hears xM_censuses xM_finding, ar (ad 24) cA 8 gMcensusYear, ar (ad 25) cA 8 gMcensusMany, ar (ad 26) cA 100 gMborn] H → va_D A [oM ad xM_typed xM_people xM_posted xM_hears xM_censuses xM_finding, ar (ad 24) cA 8 gMcensusYear, ar (ad 25) cA 8 gMcensusMany, ar (ad 26) cA 100 gMborn] → va_S A s.heap H locs → ∀ ls : Array Slot, lv_has ls 5 [(0, .ref (ad 0)), (1, .int v1_14), (3, .int v3_65)] → W p l e (headSpec wsX10_leaveOf ({ frames := 2, cells := 0, slots := 0, locals := 50 })).room s m ([.ref (ad 0), .int a1] : List Value).toArray below meth c H locs 0 0 QQ (F0 m 65 ls [.int s0_65]) := by
        intro v3_65 s0_65 hm H locs hP hD hS ls hl
        unfold fM_leaveOf_65 at hm
        refine lv_istore_n (lv' := [(2, .int s0_65), (0, .ref (ad 0)), (1, .int v1_14), (3, .int v3_65)]) hx hb dX10_leaveOf_65 rfl hl (by decide) rfl (fun ls hl => ?_)
        refine lv_iinc (v := (v3_65 + 1)) (lv' := [(3, .int (v3_65 + 1)), (2, .int s0_65), (0, .ref (ad 0)), (1, .int v1_14)]) hx hb dX10_leaveOf_66 hl (k := 3) rfl rfl (by decide) rfl (fun ls hl => ?_)
        refine lv_goto (tgt := 14) hx hb dX10_leaveOf_69 (by decide) ?_
        exact ih_14 _ _ hm _ _ hP hD hS _ (lv_sub hl [2, 3, 1, 0] rfl)
      have b_64 : ∀ (v2_64 : Int32) (v3_64 : Int32), fM_leaveOf_64 (fM_leaveOf_14  v1_14 xM_censuses gMcensusYear gMcensusMany gMborn n_14) v1_14 v2_64 v3_64 xM_censuses gMcensusYear gMcensusMany gMborn = some u → ∀ (H : Heap) (locs : List Loc), va_P (dC, dI) vwCl [oM ad xM_typed xM_people xM_posted xM_hears xM_censuses xM_finding, ar (ad 24) cA 8 gMcensusYear, ar (ad 25) cA 8 gMcensusMany, ar (ad 26) cA 100 gMborn] H → va_D A [oM ad xM_typed xM_people xM_posted xM_hears xM_censuses xM_finding, ar (ad 24) cA 8 gMcensusYear, ar (ad 25) cA 8 gMcensusMany, ar (ad 26) cA 100 gMborn] → va_S A s.heap H locs → ∀ ls : Array Slot, lv_has ls 5 [(0, .ref (ad 0)), (1, .int v1_14), (2, .int v2_64), (3, .int v3_64)] → W p l e (headSpec wsX10_leaveOf ({ frames := 2, cells := 0, slots := 0, locals := 50 })).room s m ([.ref (ad 0), .int a1] : List Value).toArray below meth c H locs 0 0 QQ (F0 m 64 ls []) := by
        intro v2_64 v3_64 hm H locs hP hD hS ls hl
        unfold fM_leaveOf_64 at hm
        refine lv_iload_n hx hb dX10_leaveOf_64 rfl (lv_at hl 2 rfl) ?_
        exact b_65 _ _ hm _ _ hP hD hS _ (lv_sub hl [0, 1, 3] rfl)
      have b_45 : ∀ (v2_45 : Int32) (v3_45 : Int32) (s0_45 : Int32), fM_leaveOf_45 (fM_leaveOf_14  v1_14 xM_censuses gMcensusYear gMcensusMany gMborn n_14) v1_14 v2_45 v3_45 s0_45 xM_censuses gMcensusYear gMcensusMany gMborn = some u → ∀ (H : Heap) (locs : List Loc), va_P (dC, dI) vwCl [oM ad xM_typed xM_people xM_posted xM_hears xM_censuses xM_finding, ar (ad 24) cA 8 gMcensusYear, ar (ad 25) cA 8 gMcensusMany, ar (ad 26) cA 100 gMborn] H → va_D A [oM ad xM_typed xM_people xM_posted xM_hears xM_censuses xM_finding, ar (ad 24) cA 8 gMcensusYear, ar (ad 25) cA 8 gMcensusMany, ar (ad 26) cA 100 gMborn] → va_S A s.heap H locs → ∀ ls : Array Slot, lv_has ls 5 [(0, .ref (ad 0)), (1, .int v1_14), (2, .int v2_45), (3, .int v3_45)] → W p l e (headSpec wsX10_leaveOf ({ frames := 2, cells := 0, slots := 0, locals := 50 })).room s m ([.ref (ad 0), .int a1] : List Value).toArray below meth c H locs 0 0 QQ (F0 m 45 ls [.int s0_45]) := by
        intro v2_45 v3_45 s0_45 hm H locs hP hD hS ls hl
        unfold fM_leaveOf_45 at hm
        refine lv_istore (lv' := [(4, .int s0_45), (0, .ref (ad 0)), (1, .int v1_14), (2, .int v2_45), (3, .int v3_45)]) hx hb dX10_leaveOf_45 hl (by decide) rfl (fun ls hl => ?_)
        refine lv_iload hx hb dX10_leaveOf_47 (lv_at hl 0 rfl) ?_
        refine lv_if_eq (tgt := 64) hx hb dX10_leaveOf_49 (by decide) (fun c_1 => ?_) (fun c_1 => ?_)
        · have hm := it_pos c_1 hm
          exact b_64 _ _ hm _ _ hP hD hS _ (lv_sub hl [1, 2, 3, 4] rfl)
        · have hm := it_neg c_1 hm
          refine lv_aload_n hx hb dX10_leaveOf_52 rfl (lv_at hl 1 rfl) ?_
          refine lv_iload_n hx hb dX10_leaveOf_53 rfl (lv_at hl 4 rfl) ?_
          have hPc := hP.sub (ws' := [oM ad xM_typed xM_people xM_posted xM_hears xM_censuses xM_finding, ar (ad 24) cA 8 gMcensusYear, ar (ad 25) cA 8 gMcensusMany, ar (ad 26) cA 100 gMborn]) [0, 1, 2, 3] rfl
          have hDc := hD.sub (ws' := [oM ad xM_typed xM_people xM_posted xM_hears xM_censuses xM_finding, ar (ad 24) cA 8 gMcensusYear, ar (ad 25) cA 8 gMcensusMany, ar (ad 26) cA 100 gMborn]) [0, 1, 2, 3] (by decide) rfl
          have hFc := va_free (wc := [oM ad xM_typed xM_people xM_posted xM_hears xM_censuses xM_finding, ar (ad 24) cA 8 gMcensusYear, ar (ad 25) cA 8 gMcensusMany, ar (ad 26) cA 100 gMborn]) hD hS hA [0, 1, 2, 3] rfl
          obtain ⟨u_2, hc_2, hm⟩ := bd_ok hm
          refine va_calli (va_runV (As := [.int v3_45]) (rest := []) ⟨hx, hb, hml, hown, hts⟩ (kM_pairsBy l dC dI cA cB ad H.size v3_45 xM_typed xM_people xM_posted xM_hears xM_censuses xM_finding gMcensusYear gMcensusMany gMborn u_2 hc_2) (cwV 1 hts gX10_leaveOf_X10_pairsBy rfl rfl rfl (by decide +kernel) ⟨Nat.le_of_ble_eq_true rfl, Nat.le_of_ble_eq_true rfl⟩) ⟨fun a U g mk q => by obtain ⟨q0, q1, qP, qK, qD⟩ := q; exact ⟨q0, q1, qP, va_K.moved (u := U) (U := U.calling g mk a) (Vm.Alike.refl U.vm) qK, qD⟩, va_recv hK hPc (ci := 10) (q0 := 0) rfl rfl, fun U hU hW => ⟨rfl, by rw [hU], by rw [hU]; exact hPc, va_K.moved hW.alike hK, hDc.weaken (fun _ _ _ _ => trivial)⟩⟩ rfl rfl hl.1 rfl (lv_room (Nat.le_of_ble_eq_true rfl)) dX10_leaveOf_54 ⟨Nat.le_of_ble_eq_true rfl, Nat.le_of_ble_eq_true rfl⟩) hS (fun q _ h => hFc q h) hFc (fun r_2 _ t H1 locs ht hvm hw hB hz1 hk1 hS => ?_)
          obtain ⟨hP1, hK1, hD1⟩ := hB
          rw [ht] at hP1
          obtain ⟨hP, hD⟩ := va_join (wr := []) (w1 := [oM ad xM_typed xM_people xM_posted xM_hears xM_censuses xM_finding, ar (ad 24) cA 8 gMcensusYear, ar (ad 25) cA 8 gMcensusMany, ar (ad 26) cA 100 gMborn]) hP hD [0, 1, 2, 3] [] rfl rfl (by decide) (by decide) hk1 hFc hP1 hD1
          clear hPc hDc hFc hP1 hK1 hD1 hk1 hz1 hvm ht
          generalize H1 = H at hP hS ⊢
          have hP : va_P (dC, dI) vwCl [oM ad xM_typed xM_people xM_posted xM_hears xM_censuses xM_finding, ar (ad 24) cA 8 gMcensusYear, ar (ad 25) cA 8 gMcensusMany, ar (ad 26) cA 100 gMborn] H := hP
          have hD : va_D A [oM ad xM_typed xM_people xM_posted xM_hears xM_censuses xM_finding, ar (ad 24) cA 8 gMcensusYear, ar (ad 25) cA 8 gMcensusMany, ar (ad 26) cA 100 gMborn] := hD
          have hw := hw.symm
          subst hw
          refine lv_if_ne (tgt := 64) hx hb dX10_leaveOf_57 (by decide) (fun c_3 => ?_) (fun c_3 => ?_)
          · have hm := it_neg c_3 hm
            exact b_64 _ _ hm _ _ hP hD hS _ (lv_sub hl [1, 2, 3, 4] rfl)
          · have hm := it_pos c_3 hm
            refine lv_iload_n hx hb dX10_leaveOf_60 rfl (lv_at hl 4 rfl) ?_
            refine lv_goto (tgt := 65) hx hb dX10_leaveOf_61 (by decide) ?_
            exact b_65 _ _ hm _ _ hP hD hS _ (lv_sub hl [1, 2, 4] rfl)
      have b_40 : ∀ (v2_40 : Int32) (v3_40 : Int32), fM_leaveOf_40 (fM_leaveOf_14  v1_14 xM_censuses gMcensusYear gMcensusMany gMborn n_14) v1_14 v2_40 v3_40 xM_censuses gMcensusYear gMcensusMany gMborn = some u → ∀ (H : Heap) (locs : List Loc), va_P (dC, dI) vwCl [oM ad xM_typed xM_people xM_posted xM_hears xM_censuses xM_finding, ar (ad 24) cA 8 gMcensusYear, ar (ad 25) cA 8 gMcensusMany, ar (ad 26) cA 100 gMborn] H → va_D A [oM ad xM_typed xM_people xM_posted xM_hears xM_censuses xM_finding, ar (ad 24) cA 8 gMcensusYear, ar (ad 25) cA 8 gMcensusMany, ar (ad 26) cA 100 gMborn] → va_S A s.heap H locs → ∀ ls : Array Slot, lv_has ls 5 [(0, .ref (ad 0)), (1, .int v1_14), (2, .int v2_40), (3, .int v3_40)] → W p l e (headSpec wsX10_leaveOf ({ frames := 2, cells := 0, slots := 0, locals := 50 })).room s m ([.ref (ad 0), .int a1] : List Value).toArray below meth c H locs 0 0 QQ (F0 m 40 ls []) := by
        intro v2_40 v3_40 hm H locs hP hD hS ls hl
        unfold fM_leaveOf_40 at hm
        refine lv_iconst (v := 1) hx hb dX10_leaveOf_40 (by decide) ?_
        refine lv_goto (tgt := 45) hx hb dX10_leaveOf_41 (by decide) ?_
        exact b_45 _ _ _ hm _ _ hP hD hS _ (lv_sub hl [0, 1, 2, 3] rfl)
      intro v2_14 v3_14 hm H locs hP hD hS ls hl
      have hm : fM_leaveOf_14_b  (fM_leaveOf_14  v1_14 xM_censuses gMcensusYear gMcensusMany gMborn n_14) v1_14 xM_censuses gMcensusYear gMcensusMany gMborn v2_14 v3_14 = some u := hm
      unfold fM_leaveOf_14_b at hm
      refine lv_iload_n hx hb dX10_leaveOf_14 rfl (lv_at hl 3 rfl) ?_
      refine lv_iconst (v := 1) hx hb dX10_leaveOf_15 (by decide) ?_
      refine lv_aload_n hx hb dX10_leaveOf_16 rfl (lv_at hl 0 rfl) ?_
      refine va_get (D := (dC, dI)) (ci := 10) (v := .int xM_censuses) (C := RX10) (T := TX10) (N := 37) hx hb hts hinX10 hown hK hP 0 rfl rfl 27 (by decide) hl_252 (fun _ h9 => h9) rfl dX10_leaveOf_17 ?_
      refine lv_ishl hx hb dX10_leaveOf_20 ?_
      refine lv_icmp_ge (tgt := 72) hx hb dX10_leaveOf_21 (by decide) (fun c_4 => ?_) (fun c_4 => ?_)
      · have hm := it_pos c_4 hm
        refine lv_iload_n hx hb dX10_leaveOf_72 rfl (lv_at hl 1 rfl) ?_
        refine lv_iconst (v := 1) hx hb dX10_leaveOf_73 (by decide) ?_
        refine lv_icmp_ne (tgt := 84) hx hb dX10_leaveOf_74 (by decide) (fun c_5 => ?_) (fun c_5 => ?_)
        · have hm := it_neg c_5 hm
          refine lv_iload_n hx hb dX10_leaveOf_84 rfl (lv_at hl 2 rfl) ?_
          obtain rfl := Option.some.inj hm
          subst hQ
          exact W.iret (v := v2_14) hx hb hr (fun t ht hW => ⟨⟨_, (), rfl, rfl, by rw [ht]; exact hP, va_K.moved hW.alike hK, hAe ▸ hD⟩, hS.F ht⟩) hS.2.2 dX10_leaveOf_85
        · have hm := it_pos c_5 hm
          refine lv_iload_n hx hb dX10_leaveOf_77 rfl (lv_at hl 2 rfl) ?_
          have hPc := hP.sub (ws' := []) [] rfl
          have hDc := hD.sub (ws' := []) [] (by decide) rfl
          have hFc := va_free (wc := []) hD hS hA [] rfl
          obtain ⟨u_6, hc_6, hm⟩ := bd_ok hm
          refine va_calli (va_runS (As := [.int v2_14]) (rest := []) ⟨hx, hb, hml, hown, hts⟩ (kM_ones l dC dI cA cB ad H.size v2_14 u_6 hc_6) (va_cwS 1 hts gX10_leaveOf_X10_ones rfl rfl rfl (by decide +kernel) ⟨Nat.le_of_ble_eq_true rfl, Nat.le_of_ble_eq_true rfl⟩) ⟨fun a U g mk q => by obtain ⟨q0, q1, qP, qK, qD⟩ := q; exact ⟨q0, q1, qP, va_K.moved (u := U) (U := U.calling g mk a) (Vm.Alike.refl U.vm) qK, qD⟩, fun U hU hW => ⟨rfl, by rw [hU], by rw [hU]; exact hPc, va_K.moved hW.alike hK, hDc.weaken (fun _ _ _ _ => trivial)⟩⟩ rfl rfl hl.1 rfl (lv_room (Nat.le_of_ble_eq_true rfl)) dX10_leaveOf_78 ⟨Nat.le_of_ble_eq_true rfl, Nat.le_of_ble_eq_true rfl⟩) hS (fun q _ h => hFc q h) hFc (fun r_6 _ t H1 locs ht hvm hw hB hz1 hk1 hS => ?_)
          obtain ⟨hP1, hK1, hD1⟩ := hB
          rw [ht] at hP1
          obtain ⟨hP, hD⟩ := va_join (wr := [oM ad xM_typed xM_people xM_posted xM_hears xM_censuses xM_finding, ar (ad 24) cA 8 gMcensusYear, ar (ad 25) cA 8 gMcensusMany, ar (ad 26) cA 100 gMborn]) (w1 := []) hP hD [] [0, 1, 2, 3] rfl rfl (by decide) (by decide) hk1 hFc hP1 hD1
          clear hPc hDc hFc hP1 hK1 hD1 hk1 hz1 hvm ht
          generalize H1 = H at hP hS ⊢
          have hP : va_P (dC, dI) vwCl [oM ad xM_typed xM_people xM_posted xM_hears xM_censuses xM_finding, ar (ad 24) cA 8 gMcensusYear, ar (ad 25) cA 8 gMcensusMany, ar (ad 26) cA 100 gMborn] H := hP
          have hD : va_D A [oM ad xM_typed xM_people xM_posted xM_hears xM_censuses xM_finding, ar (ad 24) cA 8 gMcensusYear, ar (ad 25) cA 8 gMcensusMany, ar (ad 26) cA 100 gMborn] := hD
          have hw := hw.symm
          subst hw
          refine lv_goto (tgt := 85) hx hb dX10_leaveOf_81 (by decide) ?_
          obtain rfl := Option.some.inj hm
          subst hQ
          exact W.iret (v := u_6) hx hb hr (fun t ht hW => ⟨⟨_, (), rfl, rfl, by rw [ht]; exact hP, va_K.moved hW.alike hK, hAe ▸ hD⟩, hS.F ht⟩) hS.2.2 dX10_leaveOf_85
      · have hm := it_neg c_4 hm
        refine lv_iload_n hx hb dX10_leaveOf_24 rfl (lv_at hl 2 rfl) ?_
        refine lv_iconst (v := (-1)) hx hb dX10_leaveOf_25 (by decide) ?_
        refine lv_icmp_eq (tgt := 40) hx hb dX10_leaveOf_26 (by decide) (fun c_7 => ?_) (fun c_7 => ?_)
        · have hm := it_pos c_7 hm
          exact b_40 _ _ hm _ _ hP hD hS _ (lv_sub hl [0, 1, 2, 3] rfl)
        · have hm := it_neg c_7 hm
          refine lv_iload_n hx hb dX10_leaveOf_29 rfl (lv_at hl 3 rfl) ?_
          have hPc := hP.sub (ws' := []) [] rfl
          have hDc := hD.sub (ws' := []) [] (by decide) rfl
          have hFc := va_free (wc := []) hD hS hA [] rfl
          obtain ⟨u_8, hc_8, hm⟩ := bd_ok hm
          refine va_calli (va_runS (As := [.int v3_14]) (rest := []) ⟨hx, hb, hml, hown, hts⟩ (kM_ones l dC dI cA cB ad H.size v3_14 u_8 hc_8) (va_cwS 1 hts gX10_leaveOf_X10_ones rfl rfl rfl (by decide +kernel) ⟨Nat.le_of_ble_eq_true rfl, Nat.le_of_ble_eq_true rfl⟩) ⟨fun a U g mk q => by obtain ⟨q0, q1, qP, qK, qD⟩ := q; exact ⟨q0, q1, qP, va_K.moved (u := U) (U := U.calling g mk a) (Vm.Alike.refl U.vm) qK, qD⟩, fun U hU hW => ⟨rfl, by rw [hU], by rw [hU]; exact hPc, va_K.moved hW.alike hK, hDc.weaken (fun _ _ _ _ => trivial)⟩⟩ rfl rfl hl.1 rfl (lv_room (Nat.le_of_ble_eq_true rfl)) dX10_leaveOf_30 ⟨Nat.le_of_ble_eq_true rfl, Nat.le_of_ble_eq_true rfl⟩) hS (fun q _ h => hFc q h) hFc (fun r_8 _ t H1 locs ht hvm hw hB hz1 hk1 hS => ?_)
          obtain ⟨hP1, hK1, hD1⟩ := hB
          rw [ht] at hP1
          obtain ⟨hP, hD⟩ := va_join (wr := [oM ad xM_typed xM_people xM_posted xM_hears xM_censuses xM_finding, ar (ad 24) cA 8 gMcensusYear, ar (ad 25) cA 8 gMcensusMany, ar (ad 26) cA 100 gMborn]) (w1 := []) hP hD [] [0, 1, 2, 3] rfl rfl (by decide) (by decide) hk1 hFc hP1 hD1
          clear hPc hDc hFc hP1 hK1 hD1 hk1 hz1 hvm ht
          generalize H1 = H at hP hS ⊢
          have hP : va_P (dC, dI) vwCl [oM ad xM_typed xM_people xM_posted xM_hears xM_censuses xM_finding, ar (ad 24) cA 8 gMcensusYear, ar (ad 25) cA 8 gMcensusMany, ar (ad 26) cA 100 gMborn] H := hP
          have hD : va_D A [oM ad xM_typed xM_people xM_posted xM_hears xM_censuses xM_finding, ar (ad 24) cA 8 gMcensusYear, ar (ad 25) cA 8 gMcensusMany, ar (ad 26) cA 100 gMborn] := hD
          have hw := hw.symm
          subst hw
          refine lv_iload_n hx hb dX10_leaveOf_33 rfl (lv_at hl 2 rfl) ?_
          have hPc := hP.sub (ws' := []) [] rfl
          have hDc := hD.sub (ws' := []) [] (by decide) rfl
          have hFc := va_free (wc := []) hD hS hA [] rfl
          obtain ⟨u_9, hc_9, hm⟩ := bd_ok hm
          refine va_calli (va_runS (As := [.int v2_14]) (rest := [.int u_8]) ⟨hx, hb, hml, hown, hts⟩ (kM_ones l dC dI cA cB ad H.size v2_14 u_9 hc_9) (va_cwS 1 hts gX10_leaveOf_X10_ones rfl rfl rfl (by decide +kernel) ⟨Nat.le_of_ble_eq_true rfl, Nat.le_of_ble_eq_true rfl⟩) ⟨fun a U g mk q => by obtain ⟨q0, q1, qP, qK, qD⟩ := q; exact ⟨q0, q1, qP, va_K.moved (u := U) (U := U.calling g mk a) (Vm.Alike.refl U.vm) qK, qD⟩, fun U hU hW => ⟨rfl, by rw [hU], by rw [hU]; exact hPc, va_K.moved hW.alike hK, hDc.weaken (fun _ _ _ _ => trivial)⟩⟩ rfl rfl hl.1 rfl (lv_room (Nat.le_of_ble_eq_true rfl)) dX10_leaveOf_34 ⟨Nat.le_of_ble_eq_true rfl, Nat.le_of_ble_eq_true rfl⟩) hS (fun q _ h => hFc q h) hFc (fun r_9 _ t H1 locs ht hvm hw hB hz1 hk1 hS => ?_)
          obtain ⟨hP1, hK1, hD1⟩ := hB
          rw [ht] at hP1
          obtain ⟨hP, hD⟩ := va_join (wr := [oM ad xM_typed xM_people xM_posted xM_hears xM_censuses xM_finding, ar (ad 24) cA 8 gMcensusYear, ar (ad 25) cA 8 gMcensusMany, ar (ad 26) cA 100 gMborn]) (w1 := []) hP hD [] [0, 1, 2, 3] rfl rfl (by decide) (by decide) hk1 hFc hP1 hD1
          clear hPc hDc hFc hP1 hK1 hD1 hk1 hz1 hvm ht
          generalize H1 = H at hP hS ⊢
          have hP : va_P (dC, dI) vwCl [oM ad xM_typed xM_people xM_posted xM_hears xM_censuses xM_finding, ar (ad 24) cA 8 gMcensusYear, ar (ad 25) cA 8 gMcensusMany, ar (ad 26) cA 100 gMborn] H := hP
          have hD : va_D A [oM ad xM_typed xM_people xM_posted xM_hears xM_censuses xM_finding, ar (ad 24) cA 8 gMcensusYear, ar (ad 25) cA 8 gMcensusMany, ar (ad 26) cA 100 gMborn] := hD
          have hw := hw.symm
          subst hw
          refine lv_icmp_ge (tgt := 44) hx hb dX10_leaveOf_37 (by decide) (fun c_10 => ?_) (fun c_10 => ?_)
          · have hm := it_pos c_10 hm
            refine lv_iconst (v := 0) hx hb dX10_leaveOf_44 (by decide) ?_
            exact b_45 _ _ _ hm _ _ hP hD hS _ (lv_sub hl [0, 1, 2, 3] rfl)
          · have hm := it_neg c_10 hm
            exact b_40 _ _ hm _ _ hP hD hS _ (lv_sub hl [0, 1, 2, 3] rfl)
  unfold fM_leaveOf at hm
  refine lv_iload_n hx hb dX10_leaveOf_0 rfl (lv_at hl 1 rfl) ?_
  refine lv_if_ne (tgt := 10) hx hb dX10_leaveOf_1 (by decide) (fun c_11 => ?_) (fun c_11 => ?_)
  · have hm := it_neg c_11 hm
    refine lv_iconst (v := (-1)) hx hb dX10_leaveOf_10 (by decide) ?_
    refine lv_istore_n (lv' := [(2, .int (-1)), (0, .ref (ad 0)), (1, .int a1)]) hx hb dX10_leaveOf_11 rfl hl (by decide) rfl (fun ls hl => ?_)
    refine lv_iconst (v := 0) hx hb dX10_leaveOf_12 (by decide) ?_
    refine lv_istore_n (lv' := [(3, .int 0), (2, .int (-1)), (0, .ref (ad 0)), (1, .int a1)]) hx hb dX10_leaveOf_13 rfl hl (by decide) rfl (fun ls hl => ?_)
    exact h_14 _ _ _ _ hm _ _ hP hD hS _ (lv_sub hl [2, 3, 1, 0] rfl)
  · have hm := it_pos c_11 hm
    refine lv_aload_n hx hb dX10_leaveOf_4 rfl (lv_at hl 0 rfl) ?_
    refine lv_iconst (v := 0) hx hb dX10_leaveOf_5 (by decide) ?_
    have hPc := hP.sub (ws' := [oM ad xM_typed xM_people xM_posted xM_hears xM_censuses xM_finding, ar (ad 24) cA 8 gMcensusYear, ar (ad 25) cA 8 gMcensusMany, ar (ad 26) cA 100 gMborn]) [0, 1, 2, 3] rfl
    have hDc := hD.sub (ws' := [oM ad xM_typed xM_people xM_posted xM_hears xM_censuses xM_finding, ar (ad 24) cA 8 gMcensusYear, ar (ad 25) cA 8 gMcensusMany, ar (ad 26) cA 100 gMborn]) [0, 1, 2, 3] (by decide) rfl
    have hFc := va_free (wc := [oM ad xM_typed xM_people xM_posted xM_hears xM_censuses xM_finding, ar (ad 24) cA 8 gMcensusYear, ar (ad 25) cA 8 gMcensusMany, ar (ad 26) cA 100 gMborn]) hD hS hA [0, 1, 2, 3] rfl
    obtain ⟨u_12, hc_12, hm⟩ := bd_ok hm
    refine va_calli (va_runV (As := [.int 0]) (rest := []) ⟨hx, hb, hml, hown, hts⟩ (kM_pairsBy l dC dI cA cB ad s.heap.size 0 xM_typed xM_people xM_posted xM_hears xM_censuses xM_finding gMcensusYear gMcensusMany gMborn u_12 hc_12) (cwV 1 hts gX10_leaveOf_X10_pairsBy rfl rfl rfl (by decide +kernel) ⟨Nat.le_of_ble_eq_true rfl, Nat.le_of_ble_eq_true rfl⟩) ⟨fun a U g mk q => by obtain ⟨q0, q1, qP, qK, qD⟩ := q; exact ⟨q0, q1, qP, va_K.moved (u := U) (U := U.calling g mk a) (Vm.Alike.refl U.vm) qK, qD⟩, va_recv hK hPc (ci := 10) (q0 := 0) rfl rfl, fun U hU hW => ⟨rfl, by rw [hU], by rw [hU]; exact hPc, va_K.moved hW.alike hK, hDc.weaken (fun _ _ _ _ => trivial)⟩⟩ rfl rfl hl.1 rfl (lv_room (Nat.le_of_ble_eq_true rfl)) dX10_leaveOf_6 ⟨Nat.le_of_ble_eq_true rfl, Nat.le_of_ble_eq_true rfl⟩) hS (fun q _ h => hFc q h) hFc (fun r_12 _ t H1 locs ht hvm hw hB hz1 hk1 hS => ?_)
    obtain ⟨hP1, hK1, hD1⟩ := hB
    rw [ht] at hP1
    obtain ⟨hP, hD⟩ := va_join (wr := []) (w1 := [oM ad xM_typed xM_people xM_posted xM_hears xM_censuses xM_finding, ar (ad 24) cA 8 gMcensusYear, ar (ad 25) cA 8 gMcensusMany, ar (ad 26) cA 100 gMborn]) hP hD [0, 1, 2, 3] [] rfl rfl (by decide) (by decide) hk1 hFc hP1 hD1
    clear hPc hDc hFc hP1 hK1 hD1 hk1 hz1 hvm ht
    generalize H1 = H at hP hS ⊢
    have hP : va_P (dC, dI) vwCl [oM ad xM_typed xM_people xM_posted xM_hears xM_censuses xM_finding, ar (ad 24) cA 8 gMcensusYear, ar (ad 25) cA 8 gMcensusMany, ar (ad 26) cA 100 gMborn] H := hP
    have hD : va_D A [oM ad xM_typed xM_people xM_posted xM_hears xM_censuses xM_finding, ar (ad 24) cA 8 gMcensusYear, ar (ad 25) cA 8 gMcensusMany, ar (ad 26) cA 100 gMborn] := hD
    have hw := hw.symm
    subst hw
    obtain rfl := Option.some.inj hm
    subst hQ
    exact W.iret (v := u_12) hx hb hr (fun t ht hW => ⟨⟨_, (), rfl, rfl, by rw [ht]; exact hP, va_K.moved hW.alike hK, hAe ▸ hD⟩, hS.F ht⟩) hS.2.2 dX10_leaveOf_9

set_option maxHeartbeats 4000000 in
set_option maxRecDepth 100000 in
theorem kM_leave (l : Launch) (dC : Nat → ClassId) (dI : Nat → Nat → Nat) (cA : ClassId) (cB : ClassId) (ad : Nat → Nat) (sz : Nat) (a1 : Int32) (xM_typed : Int32) (xM_people : Int32) (xM_posted : Int32) (xM_hears : Int32) (xM_censuses : Int32) (xM_finding : Int32) (gMcensusYear : Nat → Int32) (gMcensusMany : Nat → Int32) (gMborn : Nat → Int32) (u : Int32) (hm : fM_leave a1 xM_censuses gMcensusYear gMcensusMany gMborn = some u) : Met l yX10_leave wsX10_leave ({ frames := 3, cells := 0, slots := 0, locals := 74 }) (va_Pc [.ref (ad 0), .int a1] (fun U => U.heap.size = sz ∧ va_P (dC, dI) vwCl [oM ad xM_typed xM_people xM_posted xM_hears xM_censuses xM_finding, ar (ad 24) cA 8 gMcensusYear, ar (ad 25) cA 8 gMcensusMany, ar (ad 26) cA 100 gMborn] U.heap ∧ va_K (dC, dI) vwCl [(cA, .int), (cB, .boolean)] U ∧ va_D (fun _ => True) [oM ad xM_typed xM_people xM_posted xM_hears xM_censuses xM_finding, ar (ad 24) cA 8 gMcensusYear, ar (ad 25) cA 8 gMcensusMany, ar (ad 26) cA 100 gMborn])) (va_Qi (fun (r : Int32) (_ : Unit) => r = u) (fun (_ : Unit) t => va_P (dC, dI) vwCl [oM ad xM_typed xM_people xM_posted xM_hears xM_censuses xM_finding, ar (ad 24) cA 8 gMcensusYear, ar (ad 25) cA 8 gMcensusMany, ar (ad 26) cA 100 gMborn] t.heap ∧ va_K (dC, dI) vwCl [(cA, .int), (cB, .boolean)] t ∧ va_D (va_A [oM ad xM_typed xM_people xM_posted xM_hears xM_censuses xM_finding, ar (ad 24) cA 8 gMcensusYear, ar (ad 25) cA 8 gMcensusMany, ar (ad 26) cA 100 gMborn] sz) [oM ad xM_typed xM_people xM_posted xM_hears xM_censuses xM_finding, ar (ad 24) cA 8 gMcensusYear, ar (ad 25) cA 8 gMcensusMany, ar (ad 26) cA 100 gMborn]) (va_A [oM ad xM_typed xM_people xM_posted xM_hears xM_censuses xM_finding, ar (ad 24) cA 8 gMcensusYear, ar (ad 25) cA 8 gMcensusMany, ar (ad 26) cA 100 gMborn] sz)) 0 0 (va_A [oM ad xM_typed xM_people xM_posted xM_hears xM_censuses xM_finding, ar (ad 24) cA 8 gMcensusYear, ar (ad 25) cA 8 gMcensusMany, ar (ad 26) cA 100 gMborn] sz) := by
  refine Met.ofW (cc := cX10_leave) (maxL := 2) (ret := (some .int)) (by decide) rfl ?_
  intro p e s m args below meth c s₁ B hml hv
  obtain ⟨rfl, hsz, hP, hK, hD0⟩ := hv
  have hx := B.exec
  have hb := B.bytes
  have hr := B.returns
  have hts := atoms_spec (ws := wsX10_leave) B.pre
  have hown : s.vm.findClass RX10 = some m.cls := findClass_of_methodNamed B.named
  have hlocks := B.notSynchronized
  subst hsz
  have hD := hD0.self (sz := s.heap.size)
  generalize hAe : va_A [oM ad xM_typed xM_people xM_posted xM_hears xM_censuses xM_finding, ar (ad 24) cA 8 gMcensusYear, ar (ad 25) cA 8 gMcensusMany, ar (ad 26) cA 100 gMborn] s.heap.size = A at hD ⊢
  have hA : ∀ q : Nat, s.heap.size ≤ q → A q := fun q h => by rw [← hAe]; exact Or.inr h
  have hS : va_S A s.heap s.heap [] := va_S.rf
  have hl := lv_entry ([.ref (ad 0), .int a1]) (n := 2) (Nat.le_of_ble_eq_true rfl)
  rw [lg_entry_eq]
  generalize (lg_sl ([.ref (ad 0), .int a1]) ++ List.replicate (2 - (lg_sl ([.ref (ad 0), .int a1])).length) Slot.unset).toArray = ls at hl ⊢
  have hl : lv_has ls 2 [(0, .ref (ad 0)), (1, .int a1)] := hl
  refine wk_Q (fun QQ hQ => ?_)
  unfold fM_leave at hm
  refine lv_iload_n hx hb dX10_leave_0 rfl (lv_at hl 1 rfl) ?_
  refine lv_iconst (v := 0) hx hb dX10_leave_1 (by decide) ?_
  refine lv_iconst (v := 2) hx hb dX10_leave_2 (by decide) ?_
  have hPc := hP.sub (ws' := []) [] rfl
  have hDc := hD.sub (ws' := []) [] (by decide) rfl
  have hFc := va_free (wc := []) hD hS hA [] rfl
  obtain ⟨u_1, hc_1, hm⟩ := bd_ok hm
  refine va_calli (va_runS (As := [.int a1, .int 0, .int 2]) (rest := []) ⟨hx, hb, hml, hown, hts⟩ (kM_in l dC dI cA cB ad s.heap.size a1 0 2 u_1 hc_1) (va_cwS 3 hts gX10_leave_X10_in rfl rfl rfl (by decide +kernel) ⟨Nat.le_of_ble_eq_true rfl, Nat.le_of_ble_eq_true rfl⟩) ⟨fun a U g mk q => by obtain ⟨q0, q1, qP, qK, qD⟩ := q; exact ⟨q0, q1, qP, va_K.moved (u := U) (U := U.calling g mk a) (Vm.Alike.refl U.vm) qK, qD⟩, fun U hU hW => ⟨rfl, by rw [hU], by rw [hU]; exact hPc, va_K.moved hW.alike hK, hDc.weaken (fun _ _ _ _ => trivial)⟩⟩ rfl rfl hl.1 rfl (lv_room (Nat.le_of_ble_eq_true rfl)) dX10_leave_3 ⟨Nat.le_of_ble_eq_true rfl, Nat.le_of_ble_eq_true rfl⟩) hS (fun q _ h => hFc q h) hFc (fun r_1 _ t H1 locs ht hvm hw hB hz1 hk1 hS => ?_)
  obtain ⟨hP1, hK1, hD1⟩ := hB
  rw [ht] at hP1
  obtain ⟨hP, hD⟩ := va_join (wr := [oM ad xM_typed xM_people xM_posted xM_hears xM_censuses xM_finding, ar (ad 24) cA 8 gMcensusYear, ar (ad 25) cA 8 gMcensusMany, ar (ad 26) cA 100 gMborn]) (w1 := []) hP hD [] [0, 1, 2, 3] rfl rfl (by decide) (by decide) hk1 hFc hP1 hD1
  clear hPc hDc hFc hP1 hK1 hD1 hk1 hz1 hvm ht
  generalize H1 = H at hP hS ⊢
  have hP : va_P (dC, dI) vwCl [oM ad xM_typed xM_people xM_posted xM_hears xM_censuses xM_finding, ar (ad 24) cA 8 gMcensusYear, ar (ad 25) cA 8 gMcensusMany, ar (ad 26) cA 100 gMborn] H := hP
  have hD : va_D A [oM ad xM_typed xM_people xM_posted xM_hears xM_censuses xM_finding, ar (ad 24) cA 8 gMcensusYear, ar (ad 25) cA 8 gMcensusMany, ar (ad 26) cA 100 gMborn] := hD
  have hw := hw.symm
  subst hw
  refine lv_if_eq (tgt := 17) hx hb dX10_leave_6 (by decide) (fun c_2 => ?_) (fun c_2 => ?_)
  · have hm := it_pos c_2 hm
    refine lv_bipush (v := (-2)) hx hb dX10_leave_17 (by decide) ?_
    obtain rfl := Option.some.inj hm
    subst hQ
    exact W.iret (v := (-2)) hx hb hr (fun t ht hW => ⟨⟨_, (), rfl, rfl, by rw [ht]; exact hP, va_K.moved hW.alike hK, hAe ▸ hD⟩, hS.F ht⟩) hS.2.2 dX10_leave_19
  · have hm := it_neg c_2 hm
    refine lv_aload_n hx hb dX10_leave_9 rfl (lv_at hl 0 rfl) ?_
    refine lv_iload_n hx hb dX10_leave_10 rfl (lv_at hl 1 rfl) ?_
    have hPc := hP.sub (ws' := [oM ad xM_typed xM_people xM_posted xM_hears xM_censuses xM_finding, ar (ad 24) cA 8 gMcensusYear, ar (ad 25) cA 8 gMcensusMany, ar (ad 26) cA 100 gMborn]) [0, 1, 2, 3] rfl
    have hDc := hD.sub (ws' := [oM ad xM_typed xM_people xM_posted xM_hears xM_censuses xM_finding, ar (ad 24) cA 8 gMcensusYear, ar (ad 25) cA 8 gMcensusMany, ar (ad 26) cA 100 gMborn]) [0, 1, 2, 3] (by decide) rfl
    have hFc := va_free (wc := [oM ad xM_typed xM_people xM_posted xM_hears xM_censuses xM_finding, ar (ad 24) cA 8 gMcensusYear, ar (ad 25) cA 8 gMcensusMany, ar (ad 26) cA 100 gMborn]) hD hS hA [0, 1, 2, 3] rfl
    obtain ⟨u_3, hc_3, hm⟩ := bd_ok hm
    refine va_calli (va_runV (As := [.int a1]) (rest := []) ⟨hx, hb, hml, hown, hts⟩ (kM_leaveOf l dC dI cA cB ad H.size a1 xM_typed xM_people xM_posted xM_hears xM_censuses xM_finding gMcensusYear gMcensusMany gMborn u_3 hc_3) (cwV 1 hts gX10_leave_X10_leaveOf rfl rfl rfl (by decide +kernel) ⟨Nat.le_of_ble_eq_true rfl, Nat.le_of_ble_eq_true rfl⟩) ⟨fun a U g mk q => by obtain ⟨q0, q1, qP, qK, qD⟩ := q; exact ⟨q0, q1, qP, va_K.moved (u := U) (U := U.calling g mk a) (Vm.Alike.refl U.vm) qK, qD⟩, va_recv hK hPc (ci := 10) (q0 := 0) rfl rfl, fun U hU hW => ⟨rfl, by rw [hU], by rw [hU]; exact hPc, va_K.moved hW.alike hK, hDc.weaken (fun _ _ _ _ => trivial)⟩⟩ rfl rfl hl.1 rfl (lv_room (Nat.le_of_ble_eq_true rfl)) dX10_leave_11 ⟨Nat.le_of_ble_eq_true rfl, Nat.le_of_ble_eq_true rfl⟩) hS (fun q _ h => hFc q h) hFc (fun r_3 _ t H1 locs ht hvm hw hB hz1 hk1 hS => ?_)
    obtain ⟨hP1, hK1, hD1⟩ := hB
    rw [ht] at hP1
    obtain ⟨hP, hD⟩ := va_join (wr := []) (w1 := [oM ad xM_typed xM_people xM_posted xM_hears xM_censuses xM_finding, ar (ad 24) cA 8 gMcensusYear, ar (ad 25) cA 8 gMcensusMany, ar (ad 26) cA 100 gMborn]) hP hD [0, 1, 2, 3] [] rfl rfl (by decide) (by decide) hk1 hFc hP1 hD1
    clear hPc hDc hFc hP1 hK1 hD1 hk1 hz1 hvm ht
    generalize H1 = H at hP hS ⊢
    have hP : va_P (dC, dI) vwCl [oM ad xM_typed xM_people xM_posted xM_hears xM_censuses xM_finding, ar (ad 24) cA 8 gMcensusYear, ar (ad 25) cA 8 gMcensusMany, ar (ad 26) cA 100 gMborn] H := hP
    have hD : va_D A [oM ad xM_typed xM_people xM_posted xM_hears xM_censuses xM_finding, ar (ad 24) cA 8 gMcensusYear, ar (ad 25) cA 8 gMcensusMany, ar (ad 26) cA 100 gMborn] := hD
    have hw := hw.symm
    subst hw
    refine lv_goto (tgt := 19) hx hb dX10_leave_14 (by decide) ?_
    obtain rfl := Option.some.inj hm
    subst hQ
    exact W.iret (v := u_3) hx hb hr (fun t ht hW => ⟨⟨_, (), rfl, rfl, by rw [ht]; exact hP, va_K.moved hW.alike hK, hAe ▸ hD⟩, hS.F ht⟩) hS.2.2 dX10_leave_19

set_option maxHeartbeats 4000000 in
set_option maxRecDepth 100000 in
theorem kM_sheet (l : Launch) (dC : Nat → ClassId) (dI : Nat → Nat → Nat) (cA : ClassId) (cB : ClassId) (ad : Nat → Nat) (sz : Nat) (a1 : Int32) (a2 : Int32) (a3 : Int32) (xM_typed : Int32) (xM_people : Int32) (xM_posted : Int32) (xM_hears : Int32) (xM_censuses : Int32) (xM_finding : Int32) (gMisThere : Nat → Int32) (gMforms : Nat → Int32) (gMsizes : Nat → Int32) (gMitems : Nat → Int32) (u : Int32 × Int32 × (Nat → Int32) × (Nat → Int32) × (Nat → Int32) × (Nat → Int32)) (hm : fM_sheet a1 a2 a3 xM_finding gMisThere gMforms gMsizes gMitems = some u) : Met l yX10_sheet wsX10_sheet ({ frames := 2, cells := 0, slots := 0, locals := 42 }) (va_Pc [.ref (ad 0), .int a1, .int a2, .int a3] (fun U => U.heap.size = sz ∧ va_P (dC, dI) vwCl [oM ad xM_typed xM_people xM_posted xM_hears xM_censuses xM_finding, ar (ad 27) cB 4 gMisThere, ar (ad 28) cA 4 gMforms, ar (ad 29) cA 4 gMsizes, ar (ad 30) cA 240 gMitems] U.heap ∧ va_K (dC, dI) vwCl [(cA, .int), (cB, .boolean)] U ∧ va_D (fun _ => True) [oM ad xM_typed xM_people xM_posted xM_hears xM_censuses xM_finding, ar (ad 27) cB 4 gMisThere, ar (ad 28) cA 4 gMforms, ar (ad 29) cA 4 gMsizes, ar (ad 30) cA 240 gMitems])) (va_Qi (fun (r : Int32) (_ : Unit) => r = u.1) (fun (_ : Unit) t => va_P (dC, dI) vwCl [oM ad xM_typed xM_people xM_posted xM_hears xM_censuses u.2.1, ar (ad 27) cB 4 u.2.2.1, ar (ad 28) cA 4 u.2.2.2.1, ar (ad 29) cA 4 u.2.2.2.2.1, ar (ad 30) cA 240 u.2.2.2.2.2] t.heap ∧ va_K (dC, dI) vwCl [(cA, .int), (cB, .boolean)] t ∧ va_D (va_A [oM ad xM_typed xM_people xM_posted xM_hears xM_censuses xM_finding, ar (ad 27) cB 4 gMisThere, ar (ad 28) cA 4 gMforms, ar (ad 29) cA 4 gMsizes, ar (ad 30) cA 240 gMitems] sz) [oM ad xM_typed xM_people xM_posted xM_hears xM_censuses u.2.1, ar (ad 27) cB 4 u.2.2.1, ar (ad 28) cA 4 u.2.2.2.1, ar (ad 29) cA 4 u.2.2.2.2.1, ar (ad 30) cA 240 u.2.2.2.2.2]) (va_A [oM ad xM_typed xM_people xM_posted xM_hears xM_censuses xM_finding, ar (ad 27) cB 4 gMisThere, ar (ad 28) cA 4 gMforms, ar (ad 29) cA 4 gMsizes, ar (ad 30) cA 240 gMitems] sz)) 0 0 (va_A [oM ad xM_typed xM_people xM_posted xM_hears xM_censuses xM_finding, ar (ad 27) cB 4 gMisThere, ar (ad 28) cA 4 gMforms, ar (ad 29) cA 4 gMsizes, ar (ad 30) cA 240 gMitems] sz) := by
  refine Met.ofW (cc := cX10_sheet) (maxL := 5) (ret := (some .int)) (by decide) rfl ?_
  intro p e s m args below meth c s₁ B hml hv
  obtain ⟨rfl, hsz, hP, hK, hD0⟩ := hv
  have hx := B.exec
  have hb := B.bytes
  have hr := B.returns
  have hts := atoms_spec (ws := wsX10_sheet) B.pre
  have hown : s.vm.findClass RX10 = some m.cls := findClass_of_methodNamed B.named
  have hlocks := B.notSynchronized
  subst hsz
  have hD := hD0.self (sz := s.heap.size)
  generalize hAe : va_A [oM ad xM_typed xM_people xM_posted xM_hears xM_censuses xM_finding, ar (ad 27) cB 4 gMisThere, ar (ad 28) cA 4 gMforms, ar (ad 29) cA 4 gMsizes, ar (ad 30) cA 240 gMitems] s.heap.size = A at hD ⊢
  have hA : ∀ q : Nat, s.heap.size ≤ q → A q := fun q h => by rw [← hAe]; exact Or.inr h
  have hS : va_S A s.heap s.heap [] := va_S.rf
  have hl := lv_entry ([.ref (ad 0), .int a1, .int a2, .int a3]) (n := 5) (Nat.le_of_ble_eq_true rfl)
  rw [lg_entry_eq]
  generalize (lg_sl ([.ref (ad 0), .int a1, .int a2, .int a3]) ++ List.replicate (5 - (lg_sl ([.ref (ad 0), .int a1, .int a2, .int a3])).length) Slot.unset).toArray = ls at hl ⊢
  have hl : lv_has ls 5 [(0, .ref (ad 0)), (1, .int a1), (2, .int a2), (3, .int a3)] := hl
  refine wk_Q (fun QQ hQ => ?_)
  have hinX10 : ∀ w ∈ wsX100, w ∈ wsX10_sheet := fun w h => List.mem_cons_of_mem _ (inlX10 w h)
  have hl_98 := hts (.fieldLink RX10 98 "HandCensusModel" "items" "[I") (List.mem_cons_of_mem _ (in_r8 _ (List.mem_of_getElem? (i := 1) rfl)))
  have hl_88 := hts (.fieldLink RX10 88 "HandCensusModel" "isThere" "[Z") (List.mem_cons_of_mem _ (in_r7 _ (List.mem_of_getElem? (i := 22) rfl)))
  have hl_92 := hts (.fieldLink RX10 92 "HandCensusModel" "forms" "[I") (List.mem_cons_of_mem _ (in_r7 _ (List.mem_of_getElem? (i := 23) rfl)))
  have hl_95 := hts (.fieldLink RX10 95 "HandCensusModel" "sizes" "[I") (List.mem_cons_of_mem _ (in_r8 _ (List.mem_of_getElem? (i := 0) rfl)))
  have h_59 : ∀ (v1_59 : Int32) (v3_59 : Int32) (xM_finding_59 : Int32) (gMisThere_59 : Nat → Int32) (gMforms_59 : Nat → Int32) (gMsizes_59 : Nat → Int32), ∀ (n_59 : Nat), ∀ (v4_59 : Int32) (gMitems_59 : Nat → Int32), fM_sheet_59 v1_59 v3_59 xM_finding_59 gMisThere_59 gMforms_59 gMsizes_59 n_59 v4_59 gMitems_59 = some u → ∀ (H : Heap) (locs : List Loc), va_P (dC, dI) vwCl [oM ad xM_typed xM_people xM_posted xM_hears xM_censuses xM_finding_59, ar (ad 27) cB 4 gMisThere_59, ar (ad 28) cA 4 gMforms_59, ar (ad 29) cA 4 gMsizes_59, ar (ad 30) cA 240 gMitems_59] H → va_D A [oM ad xM_typed xM_people xM_posted xM_hears xM_censuses xM_finding_59, ar (ad 27) cB 4 gMisThere_59, ar (ad 28) cA 4 gMforms_59, ar (ad 29) cA 4 gMsizes_59, ar (ad 30) cA 240 gMitems_59] → va_S A s.heap H locs → ∀ ls : Array Slot, lv_has ls 5 [(0, .ref (ad 0)), (1, .int v1_59), (3, .int v3_59), (4, .int v4_59)] → W p l e (headSpec wsX10_sheet ({ frames := 2, cells := 0, slots := 0, locals := 42 })).room s m ([.ref (ad 0), .int a1, .int a2, .int a3] : List Value).toArray below meth c H locs 0 0 QQ (F0 m 59 ls []) := by
    intro v1_59 v3_59 xM_finding_59 gMisThere_59 gMforms_59 gMsizes_59
    intro n_59
    induction n_59 with
    | zero => intro v4_59 gMitems_59 hm; have hm : (none : Option (Int32 × Int32 × (Nat → Int32) × (Nat → Int32) × (Nat → Int32) × (Nat → Int32))) = some u := hm; cases hm
    | succ n_59 ih_59 =>
      intro v4_59 gMitems_59 hm H locs hP hD hS ls hl
      have hm : fM_sheet_59_b  (fM_sheet_59  v1_59 v3_59 xM_finding_59 gMisThere_59 gMforms_59 gMsizes_59 n_59) v1_59 v3_59 xM_finding_59 gMisThere_59 gMforms_59 gMsizes_59 v4_59 gMitems_59 = some u := hm
      unfold fM_sheet_59_b at hm
      refine lv_iload hx hb dX10_sheet_59 (lv_at hl 3 rfl) ?_
      refine lv_bipush (v := 60) hx hb dX10_sheet_61 (by decide) ?_
      refine lv_icmp_ge (tgt := 85) hx hb dX10_sheet_63 (by decide) (fun c_1 => ?_) (fun c_1 => ?_)
      · have hm := it_pos c_1 hm
        refine lv_iload_n hx hb dX10_sheet_85 rfl (lv_at hl 2 rfl) ?_
        obtain rfl := Option.some.inj hm
        subst hQ
        exact W.iret (v := v3_59) hx hb hr (fun t ht hW => ⟨⟨_, (), rfl, rfl, by rw [ht]; exact hP, va_K.moved hW.alike hK, hAe ▸ hD⟩, hS.F ht⟩) hS.2.2 dX10_sheet_86
      · have hm := it_neg c_1 hm
        refine lv_aload_n hx hb dX10_sheet_66 rfl (lv_at hl 0 rfl) ?_
        refine va_get (D := (dC, dI)) (ci := 10) (v := .ref (ad 30)) (C := RX10) (T := TX10) (N := 37) hx hb hts hinX10 hown hK hP 0 rfl rfl 34 (by decide) hl_98 (fun _ h9 => h9) rfl dX10_sheet_67 ?_
        refine lv_bipush (v := 60) hx hb dX10_sheet_70 (by decide) ?_
        refine lv_iload_n hx hb dX10_sheet_72 rfl (lv_at hl 1 rfl) ?_
        refine lv_imul hx hb dX10_sheet_73 ?_
        refine lv_iload hx hb dX10_sheet_74 (lv_at hl 3 rfl) ?_
        refine lv_iadd hx hb dX10_sheet_76 ?_
        refine lv_iconst (v := 0) hx hb dX10_sheet_77 (by decide) ?_
        obtain ⟨i_2, hm⟩ := ck_ok hm
        refine va_iast hx hb hK hP hD hS 4 0 rfl rfl i_2 dX10_sheet_78 (fun H locs hP hD hS => ?_)
        have hP : va_P (dC, dI) vwCl [oM ad xM_typed xM_people xM_posted xM_hears xM_censuses xM_finding_59, ar (ad 27) cB 4 gMisThere_59, ar (ad 28) cA 4 gMforms_59, ar (ad 29) cA 4 gMsizes_59, ar (ad 30) cA 240 (upd gMitems_59 ((60 * v1_59) + v4_59).toNatClampNeg 0)] H := hP
        have hD : va_D A [oM ad xM_typed xM_people xM_posted xM_hears xM_censuses xM_finding_59, ar (ad 27) cB 4 gMisThere_59, ar (ad 28) cA 4 gMforms_59, ar (ad 29) cA 4 gMsizes_59, ar (ad 30) cA 240 (upd gMitems_59 ((60 * v1_59) + v4_59).toNatClampNeg 0)] := hD
        refine lv_iinc (v := (v4_59 + 1)) (lv' := [(4, .int (v4_59 + 1)), (0, .ref (ad 0)), (1, .int v1_59), (3, .int v3_59)]) hx hb dX10_sheet_79 hl (k := 3) rfl rfl (by decide) rfl (fun ls hl => ?_)
        refine lv_goto (tgt := 59) hx hb dX10_sheet_82 (by decide) ?_
        exact ih_59 _ _ hm _ _ hP hD hS _ (lv_sub hl [1, 2, 3, 0] rfl)
  unfold fM_sheet at hm
  refine lv_iload_n hx hb dX10_sheet_0 rfl (lv_at hl 1 rfl) ?_
  have hPc := hP.sub (ws' := []) [] rfl
  have hDc := hD.sub (ws' := []) [] (by decide) rfl
  have hFc := va_free (wc := []) hD hS hA [] rfl
  obtain ⟨u_3, hc_3, hm⟩ := bd_ok hm
  refine va_calli (va_runS (As := [.int a1]) (rest := []) ⟨hx, hb, hml, hown, hts⟩ (kM_isSheet l dC dI cA cB ad s.heap.size a1 u_3 hc_3) (va_cwS 1 hts gX10_sheet_X10_isSheet rfl rfl rfl (by decide +kernel) ⟨Nat.le_of_ble_eq_true rfl, Nat.le_of_ble_eq_true rfl⟩) ⟨fun a U g mk q => by obtain ⟨q0, q1, qP, qK, qD⟩ := q; exact ⟨q0, q1, qP, va_K.moved (u := U) (U := U.calling g mk a) (Vm.Alike.refl U.vm) qK, qD⟩, fun U hU hW => ⟨rfl, by rw [hU], by rw [hU]; exact hPc, va_K.moved hW.alike hK, hDc.weaken (fun _ _ _ _ => trivial)⟩⟩ rfl rfl hl.1 rfl (lv_room (Nat.le_of_ble_eq_true rfl)) dX10_sheet_1 ⟨Nat.le_of_ble_eq_true rfl, Nat.le_of_ble_eq_true rfl⟩) hS (fun q _ h => hFc q h) hFc (fun r_3 _ t H1 locs ht hvm hw hB hz1 hk1 hS => ?_)
  obtain ⟨hP1, hK1, hD1⟩ := hB
  rw [ht] at hP1
  obtain ⟨hP, hD⟩ := va_join (wr := [oM ad xM_typed xM_people xM_posted xM_hears xM_censuses xM_finding, ar (ad 27) cB 4 gMisThere, ar (ad 28) cA 4 gMforms, ar (ad 29) cA 4 gMsizes, ar (ad 30) cA 240 gMitems]) (w1 := []) hP hD [] [0, 1, 2, 3, 4] rfl rfl (by decide) (by decide) hk1 hFc hP1 hD1
  clear hPc hDc hFc hP1 hK1 hD1 hk1 hz1 hvm ht
  generalize H1 = H at hP hS ⊢
  have hP : va_P (dC, dI) vwCl [oM ad xM_typed xM_people xM_posted xM_hears xM_censuses xM_finding, ar (ad 27) cB 4 gMisThere, ar (ad 28) cA 4 gMforms, ar (ad 29) cA 4 gMsizes, ar (ad 30) cA 240 gMitems] H := hP
  have hD : va_D A [oM ad xM_typed xM_people xM_posted xM_hears xM_censuses xM_finding, ar (ad 27) cB 4 gMisThere, ar (ad 28) cA 4 gMforms, ar (ad 29) cA 4 gMsizes, ar (ad 30) cA 240 gMitems] := hD
  have hw := hw.symm
  subst hw
  refine lv_if_eq (tgt := 22) hx hb dX10_sheet_4 (by decide) (fun c_4 => ?_) (fun c_4 => ?_)
  · have hm := it_pos c_4 hm
    refine lv_bipush (v := (-2)) hx hb dX10_sheet_22 (by decide) ?_
    obtain rfl := Option.some.inj hm
    subst hQ
    exact W.iret (v := (-2)) hx hb hr (fun t ht hW => ⟨⟨_, (), rfl, rfl, by rw [ht]; exact hP, va_K.moved hW.alike hK, hAe ▸ hD⟩, hS.F ht⟩) hS.2.2 dX10_sheet_24
  · have hm := it_neg c_4 hm
    refine lv_iload_n hx hb dX10_sheet_7 rfl (lv_at hl 2 rfl) ?_
    refine lv_iconst (v := 0) hx hb dX10_sheet_8 (by decide) ?_
    refine lv_iconst (v := 2) hx hb dX10_sheet_9 (by decide) ?_
    have hPc := hP.sub (ws' := []) [] rfl
    have hDc := hD.sub (ws' := []) [] (by decide) rfl
    have hFc := va_free (wc := []) hD hS hA [] rfl
    obtain ⟨u_5, hc_5, hm⟩ := bd_ok hm
    refine va_calli (va_runS (As := [.int a2, .int 0, .int 2]) (rest := []) ⟨hx, hb, hml, hown, hts⟩ (kM_in l dC dI cA cB ad H.size a2 0 2 u_5 hc_5) (va_cwS 3 hts gX10_sheet_X10_in rfl rfl rfl (by decide +kernel) ⟨Nat.le_of_ble_eq_true rfl, Nat.le_of_ble_eq_true rfl⟩) ⟨fun a U g mk q => by obtain ⟨q0, q1, qP, qK, qD⟩ := q; exact ⟨q0, q1, qP, va_K.moved (u := U) (U := U.calling g mk a) (Vm.Alike.refl U.vm) qK, qD⟩, fun U hU hW => ⟨rfl, by rw [hU], by rw [hU]; exact hPc, va_K.moved hW.alike hK, hDc.weaken (fun _ _ _ _ => trivial)⟩⟩ rfl rfl hl.1 rfl (lv_room (Nat.le_of_ble_eq_true rfl)) dX10_sheet_10 ⟨Nat.le_of_ble_eq_true rfl, Nat.le_of_ble_eq_true rfl⟩) hS (fun q _ h => hFc q h) hFc (fun r_5 _ t H1 locs ht hvm hw hB hz1 hk1 hS => ?_)
    obtain ⟨hP1, hK1, hD1⟩ := hB
    rw [ht] at hP1
    obtain ⟨hP, hD⟩ := va_join (wr := [oM ad xM_typed xM_people xM_posted xM_hears xM_censuses xM_finding, ar (ad 27) cB 4 gMisThere, ar (ad 28) cA 4 gMforms, ar (ad 29) cA 4 gMsizes, ar (ad 30) cA 240 gMitems]) (w1 := []) hP hD [] [0, 1, 2, 3, 4] rfl rfl (by decide) (by decide) hk1 hFc hP1 hD1
    clear hPc hDc hFc hP1 hK1 hD1 hk1 hz1 hvm ht
    generalize H1 = H at hP hS ⊢
    have hP : va_P (dC, dI) vwCl [oM ad xM_typed xM_people xM_posted xM_hears xM_censuses xM_finding, ar (ad 27) cB 4 gMisThere, ar (ad 28) cA 4 gMforms, ar (ad 29) cA 4 gMsizes, ar (ad 30) cA 240 gMitems] H := hP
    have hD : va_D A [oM ad xM_typed xM_people xM_posted xM_hears xM_censuses xM_finding, ar (ad 27) cB 4 gMisThere, ar (ad 28) cA 4 gMforms, ar (ad 29) cA 4 gMsizes, ar (ad 30) cA 240 gMitems] := hD
    have hw := hw.symm
    subst hw
    refine lv_if_eq (tgt := 22) hx hb dX10_sheet_13 (by decide) (fun c_6 => ?_) (fun c_6 => ?_)
    · have hm := it_pos c_6 hm
      refine lv_bipush (v := (-2)) hx hb dX10_sheet_22 (by decide) ?_
      obtain rfl := Option.some.inj hm
      subst hQ
      exact W.iret (v := (-2)) hx hb hr (fun t ht hW => ⟨⟨_, (), rfl, rfl, by rw [ht]; exact hP, va_K.moved hW.alike hK, hAe ▸ hD⟩, hS.F ht⟩) hS.2.2 dX10_sheet_24
    · have hm := it_neg c_6 hm
      refine lv_iload_n hx hb dX10_sheet_16 rfl (lv_at hl 3 rfl) ?_
      refine lv_bipush (v := 60) hx hb dX10_sheet_17 (by decide) ?_
      refine lv_icmp_le (tgt := 25) hx hb dX10_sheet_19 (by decide) (fun c_7 => ?_) (fun c_7 => ?_)
      · have hm := it_pos c_7 hm
        refine lv_iload_n hx hb dX10_sheet_25 rfl (lv_at hl 3 rfl) ?_
        refine lv_if_ge (tgt := 35) hx hb dX10_sheet_26 (by decide) (fun c_8 => ?_) (fun c_8 => ?_)
        · have hm := it_pos c_8 hm
          refine lv_aload_n hx hb dX10_sheet_35 rfl (lv_at hl 0 rfl) ?_
          refine va_get (D := (dC, dI)) (ci := 10) (v := .ref (ad 27)) (C := RX10) (T := TX10) (N := 37) hx hb hts hinX10 hown hK hP 0 rfl rfl 31 (by decide) hl_88 (fun _ h9 => h9) rfl dX10_sheet_36 ?_
          refine lv_iload_n hx hb dX10_sheet_39 rfl (lv_at hl 1 rfl) ?_
          refine lv_iconst (v := 1) hx hb dX10_sheet_40 (by decide) ?_
          obtain ⟨i_9, hm⟩ := ck_ok hm
          refine va_zast hx hb hK hP hD hS 1 1 rfl rfl i_9 dX10_sheet_41 (fun H locs hP hD hS => ?_)
          have hP : va_P (dC, dI) vwCl [oM ad xM_typed xM_people xM_posted xM_hears xM_censuses xM_finding, ar (ad 27) cB 4 (upd gMisThere a1.toNatClampNeg (vp_nar .boolean 1)), ar (ad 28) cA 4 gMforms, ar (ad 29) cA 4 gMsizes, ar (ad 30) cA 240 gMitems] H := hP
          have hD : va_D A [oM ad xM_typed xM_people xM_posted xM_hears xM_censuses xM_finding, ar (ad 27) cB 4 (upd gMisThere a1.toNatClampNeg (vp_nar .boolean 1)), ar (ad 28) cA 4 gMforms, ar (ad 29) cA 4 gMsizes, ar (ad 30) cA 240 gMitems] := hD
          refine lv_aload_n hx hb dX10_sheet_42 rfl (lv_at hl 0 rfl) ?_
          refine va_get (D := (dC, dI)) (ci := 10) (v := .ref (ad 28)) (C := RX10) (T := TX10) (N := 37) hx hb hts hinX10 hown hK hP 0 rfl rfl 32 (by decide) hl_92 (fun _ h9 => h9) rfl dX10_sheet_43 ?_
          refine lv_iload_n hx hb dX10_sheet_46 rfl (lv_at hl 1 rfl) ?_
          refine lv_iload_n hx hb dX10_sheet_47 rfl (lv_at hl 2 rfl) ?_
          obtain ⟨i_10, hm⟩ := ck_ok hm
          refine va_iast hx hb hK hP hD hS 2 0 rfl rfl i_10 dX10_sheet_48 (fun H locs hP hD hS => ?_)
          have hP : va_P (dC, dI) vwCl [oM ad xM_typed xM_people xM_posted xM_hears xM_censuses xM_finding, ar (ad 27) cB 4 (upd gMisThere a1.toNatClampNeg (vp_nar .boolean 1)), ar (ad 28) cA 4 (upd gMforms a1.toNatClampNeg a2), ar (ad 29) cA 4 gMsizes, ar (ad 30) cA 240 gMitems] H := hP
          have hD : va_D A [oM ad xM_typed xM_people xM_posted xM_hears xM_censuses xM_finding, ar (ad 27) cB 4 (upd gMisThere a1.toNatClampNeg (vp_nar .boolean 1)), ar (ad 28) cA 4 (upd gMforms a1.toNatClampNeg a2), ar (ad 29) cA 4 gMsizes, ar (ad 30) cA 240 gMitems] := hD
          refine lv_aload_n hx hb dX10_sheet_49 rfl (lv_at hl 0 rfl) ?_
          refine va_get (D := (dC, dI)) (ci := 10) (v := .ref (ad 29)) (C := RX10) (T := TX10) (N := 37) hx hb hts hinX10 hown hK hP 0 rfl rfl 33 (by decide) hl_95 (fun _ h9 => h9) rfl dX10_sheet_50 ?_
          refine lv_iload_n hx hb dX10_sheet_53 rfl (lv_at hl 1 rfl) ?_
          refine lv_iload_n hx hb dX10_sheet_54 rfl (lv_at hl 3 rfl) ?_
          obtain ⟨i_11, hm⟩ := ck_ok hm
          refine va_iast hx hb hK hP hD hS 3 0 rfl rfl i_11 dX10_sheet_55 (fun H locs hP hD hS => ?_)
          have hP : va_P (dC, dI) vwCl [oM ad xM_typed xM_people xM_posted xM_hears xM_censuses xM_finding, ar (ad 27) cB 4 (upd gMisThere a1.toNatClampNeg (vp_nar .boolean 1)), ar (ad 28) cA 4 (upd gMforms a1.toNatClampNeg a2), ar (ad 29) cA 4 (upd gMsizes a1.toNatClampNeg a3), ar (ad 30) cA 240 gMitems] H := hP
          have hD : va_D A [oM ad xM_typed xM_people xM_posted xM_hears xM_censuses xM_finding, ar (ad 27) cB 4 (upd gMisThere a1.toNatClampNeg (vp_nar .boolean 1)), ar (ad 28) cA 4 (upd gMforms a1.toNatClampNeg a2), ar (ad 29) cA 4 (upd gMsizes a1.toNatClampNeg a3), ar (ad 30) cA 240 gMitems] := hD
          refine lv_iconst (v := 0) hx hb dX10_sheet_56 (by decide) ?_
          refine lv_istore (lv' := [(4, .int 0), (0, .ref (ad 0)), (1, .int a1), (2, .int a2), (3, .int a3)]) hx hb dX10_sheet_57 hl (by decide) rfl (fun ls hl => ?_)
          exact h_59 _ _ _ _ _ _ _ _ _ hm _ _ hP hD hS _ (lv_sub hl [1, 2, 4, 0] rfl)
        · have hm := it_neg c_8 hm
          refine lv_aload_n hx hb dX10_sheet_29 rfl (lv_at hl 0 rfl) ?_
          refine lv_iconst (v := 5) hx hb dX10_sheet_30 (by decide) ?_
          have hPc := hP.sub (ws' := [oM ad xM_typed xM_people xM_posted xM_hears xM_censuses xM_finding]) [0] rfl
          have hDc := hD.sub (ws' := [oM ad xM_typed xM_people xM_posted xM_hears xM_censuses xM_finding]) [0] (by decide) rfl
          have hFc := va_free (wc := [oM ad xM_typed xM_people xM_posted xM_hears xM_censuses xM_finding]) hD hS hA [0] rfl
          obtain ⟨u_12, hc_12, hm⟩ := bd_ok hm
          refine va_calli (va_runV (As := [.int 5]) (rest := []) ⟨hx, hb, hml, hown, hts⟩ (kM_meets l dC dI cA cB ad H.size 5 xM_typed xM_people xM_posted xM_hears xM_censuses xM_finding u_12 hc_12) (cwV 1 hts gX10_sheet_X10_meets rfl rfl rfl (by decide +kernel) ⟨Nat.le_of_ble_eq_true rfl, Nat.le_of_ble_eq_true rfl⟩) ⟨fun a U g mk q => by obtain ⟨q0, q1, qP, qK, qD⟩ := q; exact ⟨q0, q1, qP, va_K.moved (u := U) (U := U.calling g mk a) (Vm.Alike.refl U.vm) qK, qD⟩, va_recv hK hPc (ci := 10) (q0 := 0) rfl rfl, fun U hU hW => ⟨rfl, by rw [hU], by rw [hU]; exact hPc, va_K.moved hW.alike hK, hDc.weaken (fun _ _ _ _ => trivial)⟩⟩ rfl rfl hl.1 rfl (lv_room (Nat.le_of_ble_eq_true rfl)) dX10_sheet_31 ⟨Nat.le_of_ble_eq_true rfl, Nat.le_of_ble_eq_true rfl⟩) hS (fun q _ h => hFc q h) hFc (fun r_12 _ t H1 locs ht hvm hw hB hz1 hk1 hS => ?_)
          obtain ⟨hP1, hK1, hD1⟩ := hB
          rw [ht] at hP1
          obtain ⟨hP, hD⟩ := va_join (wr := [ar (ad 27) cB 4 gMisThere, ar (ad 28) cA 4 gMforms, ar (ad 29) cA 4 gMsizes, ar (ad 30) cA 240 gMitems]) (w1 := [oM ad xM_typed xM_people xM_posted xM_hears xM_censuses u_12.2]) hP hD [0] [1, 2, 3, 4] rfl rfl (by decide) (by decide) hk1 hFc hP1 hD1
          clear hPc hDc hFc hP1 hK1 hD1 hk1 hz1 hvm ht
          generalize H1 = H at hP hS ⊢
          have hP : va_P (dC, dI) vwCl [oM ad xM_typed xM_people xM_posted xM_hears xM_censuses u_12.2, ar (ad 27) cB 4 gMisThere, ar (ad 28) cA 4 gMforms, ar (ad 29) cA 4 gMsizes, ar (ad 30) cA 240 gMitems] H := hP.sub [4, 0, 1, 2, 3] rfl
          have hD : va_D A [oM ad xM_typed xM_people xM_posted xM_hears xM_censuses u_12.2, ar (ad 27) cB 4 gMisThere, ar (ad 28) cA 4 gMforms, ar (ad 29) cA 4 gMsizes, ar (ad 30) cA 240 gMitems] := hD.sub [4, 0, 1, 2, 3] (by decide) rfl
          have hw := hw.symm
          subst hw
          obtain rfl := Option.some.inj hm
          subst hQ
          exact W.iret (v := u_12.1) hx hb hr (fun t ht hW => ⟨⟨_, (), rfl, rfl, by rw [ht]; exact hP, va_K.moved hW.alike hK, hAe ▸ hD⟩, hS.F ht⟩) hS.2.2 dX10_sheet_34
      · have hm := it_neg c_7 hm
        refine lv_bipush (v := (-2)) hx hb dX10_sheet_22 (by decide) ?_
        obtain rfl := Option.some.inj hm
        subst hQ
        exact W.iret (v := (-2)) hx hb hr (fun t ht hW => ⟨⟨_, (), rfl, rfl, by rw [ht]; exact hP, va_K.moved hW.alike hK, hAe ▸ hD⟩, hS.F ht⟩) hS.2.2 dX10_sheet_24

set_option maxHeartbeats 4000000 in
set_option maxRecDepth 100000 in
theorem kM_lose (l : Launch) (dC : Nat → ClassId) (dI : Nat → Nat → Nat) (cA : ClassId) (cB : ClassId) (ad : Nat → Nat) (sz : Nat) (a1 : Int32) (xM_typed : Int32) (xM_people : Int32) (xM_posted : Int32) (xM_hears : Int32) (xM_censuses : Int32) (xM_finding : Int32) (gMisThere : Nat → Int32) (gMsizes : Nat → Int32) (u : Int32 × Int32 × (Nat → Int32)) (hm : fM_lose a1 xM_finding gMisThere gMsizes = some u) : Met l yX10_lose wsX10_lose ({ frames := 2, cells := 0, slots := 0, locals := 42 }) (va_Pc [.ref (ad 0), .int a1] (fun U => U.heap.size = sz ∧ va_P (dC, dI) vwCl [oM ad xM_typed xM_people xM_posted xM_hears xM_censuses xM_finding, ar (ad 27) cB 4 gMisThere, ar (ad 29) cA 4 gMsizes] U.heap ∧ va_K (dC, dI) vwCl [(cA, .int), (cB, .boolean)] U ∧ va_D (fun _ => True) [oM ad xM_typed xM_people xM_posted xM_hears xM_censuses xM_finding, ar (ad 27) cB 4 gMisThere, ar (ad 29) cA 4 gMsizes])) (va_Qi (fun (r : Int32) (_ : Unit) => r = u.1) (fun (_ : Unit) t => va_P (dC, dI) vwCl [oM ad xM_typed xM_people xM_posted xM_hears xM_censuses u.2.1, ar (ad 27) cB 4 u.2.2, ar (ad 29) cA 4 gMsizes] t.heap ∧ va_K (dC, dI) vwCl [(cA, .int), (cB, .boolean)] t ∧ va_D (va_A [oM ad xM_typed xM_people xM_posted xM_hears xM_censuses xM_finding, ar (ad 27) cB 4 gMisThere, ar (ad 29) cA 4 gMsizes] sz) [oM ad xM_typed xM_people xM_posted xM_hears xM_censuses u.2.1, ar (ad 27) cB 4 u.2.2, ar (ad 29) cA 4 gMsizes]) (va_A [oM ad xM_typed xM_people xM_posted xM_hears xM_censuses xM_finding, ar (ad 27) cB 4 gMisThere, ar (ad 29) cA 4 gMsizes] sz)) 0 0 (va_A [oM ad xM_typed xM_people xM_posted xM_hears xM_censuses xM_finding, ar (ad 27) cB 4 gMisThere, ar (ad 29) cA 4 gMsizes] sz) := by
  refine Met.ofW (cc := cX10_lose) (maxL := 2) (ret := (some .int)) (by decide) rfl ?_
  intro p e s m args below meth c s₁ B hml hv
  obtain ⟨rfl, hsz, hP, hK, hD0⟩ := hv
  have hx := B.exec
  have hb := B.bytes
  have hr := B.returns
  have hts := atoms_spec (ws := wsX10_lose) B.pre
  have hown : s.vm.findClass RX10 = some m.cls := findClass_of_methodNamed B.named
  have hlocks := B.notSynchronized
  subst hsz
  have hD := hD0.self (sz := s.heap.size)
  generalize hAe : va_A [oM ad xM_typed xM_people xM_posted xM_hears xM_censuses xM_finding, ar (ad 27) cB 4 gMisThere, ar (ad 29) cA 4 gMsizes] s.heap.size = A at hD ⊢
  have hA : ∀ q : Nat, s.heap.size ≤ q → A q := fun q h => by rw [← hAe]; exact Or.inr h
  have hS : va_S A s.heap s.heap [] := va_S.rf
  have hl := lv_entry ([.ref (ad 0), .int a1]) (n := 2) (Nat.le_of_ble_eq_true rfl)
  rw [lg_entry_eq]
  generalize (lg_sl ([.ref (ad 0), .int a1]) ++ List.replicate (2 - (lg_sl ([.ref (ad 0), .int a1])).length) Slot.unset).toArray = ls at hl ⊢
  have hl : lv_has ls 2 [(0, .ref (ad 0)), (1, .int a1)] := hl
  refine wk_Q (fun QQ hQ => ?_)
  have hinX10 : ∀ w ∈ wsX100, w ∈ wsX10_lose := fun w h => List.mem_cons_of_mem _ (inlX10 w h)
  have hl_88 := hts (.fieldLink RX10 88 "HandCensusModel" "isThere" "[Z") (List.mem_cons_of_mem _ (in_r7 _ (List.mem_of_getElem? (i := 22) rfl)))
  have hl_95 := hts (.fieldLink RX10 95 "HandCensusModel" "sizes" "[I") (List.mem_cons_of_mem _ (in_r8 _ (List.mem_of_getElem? (i := 0) rfl)))
  unfold fM_lose at hm
  refine lv_iload_n hx hb dX10_lose_0 rfl (lv_at hl 1 rfl) ?_
  have hPc := hP.sub (ws' := []) [] rfl
  have hDc := hD.sub (ws' := []) [] (by decide) rfl
  have hFc := va_free (wc := []) hD hS hA [] rfl
  obtain ⟨u_1, hc_1, hm⟩ := bd_ok hm
  refine va_calli (va_runS (As := [.int a1]) (rest := []) ⟨hx, hb, hml, hown, hts⟩ (kM_isSheet l dC dI cA cB ad s.heap.size a1 u_1 hc_1) (va_cwS 1 hts gX10_lose_X10_isSheet rfl rfl rfl (by decide +kernel) ⟨Nat.le_of_ble_eq_true rfl, Nat.le_of_ble_eq_true rfl⟩) ⟨fun a U g mk q => by obtain ⟨q0, q1, qP, qK, qD⟩ := q; exact ⟨q0, q1, qP, va_K.moved (u := U) (U := U.calling g mk a) (Vm.Alike.refl U.vm) qK, qD⟩, fun U hU hW => ⟨rfl, by rw [hU], by rw [hU]; exact hPc, va_K.moved hW.alike hK, hDc.weaken (fun _ _ _ _ => trivial)⟩⟩ rfl rfl hl.1 rfl (lv_room (Nat.le_of_ble_eq_true rfl)) dX10_lose_1 ⟨Nat.le_of_ble_eq_true rfl, Nat.le_of_ble_eq_true rfl⟩) hS (fun q _ h => hFc q h) hFc (fun r_1 _ t H1 locs ht hvm hw hB hz1 hk1 hS => ?_)
  obtain ⟨hP1, hK1, hD1⟩ := hB
  rw [ht] at hP1
  obtain ⟨hP, hD⟩ := va_join (wr := [oM ad xM_typed xM_people xM_posted xM_hears xM_censuses xM_finding, ar (ad 27) cB 4 gMisThere, ar (ad 29) cA 4 gMsizes]) (w1 := []) hP hD [] [0, 1, 2] rfl rfl (by decide) (by decide) hk1 hFc hP1 hD1
  clear hPc hDc hFc hP1 hK1 hD1 hk1 hz1 hvm ht
  generalize H1 = H at hP hS ⊢
  have hP : va_P (dC, dI) vwCl [oM ad xM_typed xM_people xM_posted xM_hears xM_censuses xM_finding, ar (ad 27) cB 4 gMisThere, ar (ad 29) cA 4 gMsizes] H := hP
  have hD : va_D A [oM ad xM_typed xM_people xM_posted xM_hears xM_censuses xM_finding, ar (ad 27) cB 4 gMisThere, ar (ad 29) cA 4 gMsizes] := hD
  have hw := hw.symm
  subst hw
  refine lv_if_ne (tgt := 10) hx hb dX10_lose_4 (by decide) (fun c_2 => ?_) (fun c_2 => ?_)
  · have hm := it_neg c_2 hm
    refine lv_aload_n hx hb dX10_lose_10 rfl (lv_at hl 0 rfl) ?_
    refine va_get (D := (dC, dI)) (ci := 10) (v := .ref (ad 27)) (C := RX10) (T := TX10) (N := 37) hx hb hts hinX10 hown hK hP 0 rfl rfl 31 (by decide) hl_88 (fun _ h9 => h9) rfl dX10_lose_11 ?_
    refine lv_iload_n hx hb dX10_lose_14 rfl (lv_at hl 1 rfl) ?_
    obtain ⟨i_3, hm⟩ := ck_ok hm
    refine va_zald hx hb hK hP 1 1 rfl rfl i_3 dX10_lose_15 ?_
    refine lv_if_ne (tgt := 25) hx hb dX10_lose_16 (by decide) (fun c_4 => ?_) (fun c_4 => ?_)
    · have hm := it_neg c_4 hm
      refine lv_aload_n hx hb dX10_lose_25 rfl (lv_at hl 0 rfl) ?_
      refine va_get (D := (dC, dI)) (ci := 10) (v := .ref (ad 27)) (C := RX10) (T := TX10) (N := 37) hx hb hts hinX10 hown hK hP 0 rfl rfl 31 (by decide) hl_88 (fun _ h9 => h9) rfl dX10_lose_26 ?_
      refine lv_iload_n hx hb dX10_lose_29 rfl (lv_at hl 1 rfl) ?_
      refine lv_iconst (v := 0) hx hb dX10_lose_30 (by decide) ?_
      obtain ⟨i_5, hm⟩ := ck_ok hm
      refine va_zast hx hb hK hP hD hS 1 1 rfl rfl i_5 dX10_lose_31 (fun H locs hP hD hS => ?_)
      have hP : va_P (dC, dI) vwCl [oM ad xM_typed xM_people xM_posted xM_hears xM_censuses xM_finding, ar (ad 27) cB 4 (upd gMisThere a1.toNatClampNeg (vp_nar .boolean 0)), ar (ad 29) cA 4 gMsizes] H := hP
      have hD : va_D A [oM ad xM_typed xM_people xM_posted xM_hears xM_censuses xM_finding, ar (ad 27) cB 4 (upd gMisThere a1.toNatClampNeg (vp_nar .boolean 0)), ar (ad 29) cA 4 gMsizes] := hD
      refine lv_aload_n hx hb dX10_lose_32 rfl (lv_at hl 0 rfl) ?_
      refine va_get (D := (dC, dI)) (ci := 10) (v := .ref (ad 29)) (C := RX10) (T := TX10) (N := 37) hx hb hts hinX10 hown hK hP 0 rfl rfl 33 (by decide) hl_95 (fun _ h9 => h9) rfl dX10_lose_33 ?_
      refine lv_iload_n hx hb dX10_lose_36 rfl (lv_at hl 1 rfl) ?_
      obtain ⟨i_6, hm⟩ := ck_ok hm
      refine va_iald hx hb hK hP 2 0 rfl rfl i_6 dX10_lose_37 ?_
      obtain rfl := Option.some.inj hm
      subst hQ
      exact W.iret (v := (gMsizes a1.toNatClampNeg)) hx hb hr (fun t ht hW => ⟨⟨_, (), rfl, rfl, by rw [ht]; exact hP, va_K.moved hW.alike hK, hAe ▸ hD⟩, hS.F ht⟩) hS.2.2 dX10_lose_38
    · have hm := it_pos c_4 hm
      refine lv_aload_n hx hb dX10_lose_19 rfl (lv_at hl 0 rfl) ?_
      refine lv_iconst (v := 1) hx hb dX10_lose_20 (by decide) ?_
      have hPc := hP.sub (ws' := [oM ad xM_typed xM_people xM_posted xM_hears xM_censuses xM_finding]) [0] rfl
      have hDc := hD.sub (ws' := [oM ad xM_typed xM_people xM_posted xM_hears xM_censuses xM_finding]) [0] (by decide) rfl
      have hFc := va_free (wc := [oM ad xM_typed xM_people xM_posted xM_hears xM_censuses xM_finding]) hD hS hA [0] rfl
      obtain ⟨u_7, hc_7, hm⟩ := bd_ok hm
      refine va_calli (va_runV (As := [.int 1]) (rest := []) ⟨hx, hb, hml, hown, hts⟩ (kM_meets l dC dI cA cB ad H.size 1 xM_typed xM_people xM_posted xM_hears xM_censuses xM_finding u_7 hc_7) (cwV 1 hts gX10_lose_X10_meets rfl rfl rfl (by decide +kernel) ⟨Nat.le_of_ble_eq_true rfl, Nat.le_of_ble_eq_true rfl⟩) ⟨fun a U g mk q => by obtain ⟨q0, q1, qP, qK, qD⟩ := q; exact ⟨q0, q1, qP, va_K.moved (u := U) (U := U.calling g mk a) (Vm.Alike.refl U.vm) qK, qD⟩, va_recv hK hPc (ci := 10) (q0 := 0) rfl rfl, fun U hU hW => ⟨rfl, by rw [hU], by rw [hU]; exact hPc, va_K.moved hW.alike hK, hDc.weaken (fun _ _ _ _ => trivial)⟩⟩ rfl rfl hl.1 rfl (lv_room (Nat.le_of_ble_eq_true rfl)) dX10_lose_21 ⟨Nat.le_of_ble_eq_true rfl, Nat.le_of_ble_eq_true rfl⟩) hS (fun q _ h => hFc q h) hFc (fun r_7 _ t H1 locs ht hvm hw hB hz1 hk1 hS => ?_)
      obtain ⟨hP1, hK1, hD1⟩ := hB
      rw [ht] at hP1
      obtain ⟨hP, hD⟩ := va_join (wr := [ar (ad 27) cB 4 gMisThere, ar (ad 29) cA 4 gMsizes]) (w1 := [oM ad xM_typed xM_people xM_posted xM_hears xM_censuses u_7.2]) hP hD [0] [1, 2] rfl rfl (by decide) (by decide) hk1 hFc hP1 hD1
      clear hPc hDc hFc hP1 hK1 hD1 hk1 hz1 hvm ht
      generalize H1 = H at hP hS ⊢
      have hP : va_P (dC, dI) vwCl [oM ad xM_typed xM_people xM_posted xM_hears xM_censuses u_7.2, ar (ad 27) cB 4 gMisThere, ar (ad 29) cA 4 gMsizes] H := hP.sub [2, 0, 1] rfl
      have hD : va_D A [oM ad xM_typed xM_people xM_posted xM_hears xM_censuses u_7.2, ar (ad 27) cB 4 gMisThere, ar (ad 29) cA 4 gMsizes] := hD.sub [2, 0, 1] (by decide) rfl
      have hw := hw.symm
      subst hw
      obtain rfl := Option.some.inj hm
      subst hQ
      exact W.iret (v := u_7.1) hx hb hr (fun t ht hW => ⟨⟨_, (), rfl, rfl, by rw [ht]; exact hP, va_K.moved hW.alike hK, hAe ▸ hD⟩, hS.F ht⟩) hS.2.2 dX10_lose_24
  · have hm := it_pos c_2 hm
    refine lv_bipush (v := (-2)) hx hb dX10_lose_7 (by decide) ?_
    obtain rfl := Option.some.inj hm
    subst hQ
    exact W.iret (v := (-2)) hx hb hr (fun t ht hW => ⟨⟨_, (), rfl, rfl, by rw [ht]; exact hP, va_K.moved hW.alike hK, hAe ▸ hD⟩, hS.F ht⟩) hS.2.2 dX10_lose_9

set_option maxHeartbeats 4000000 in
set_option maxRecDepth 100000 in
theorem kM_lacks (l : Launch) (dC : Nat → ClassId) (dI : Nat → Nat → Nat) (cA : ClassId) (cB : ClassId) (ad : Nat → Nat) (sz : Nat) (a1 : Int32) (a2 : Int32) (a3 : Int32) (xM_typed : Int32) (xM_people : Int32) (xM_posted : Int32) (xM_hears : Int32) (xM_censuses : Int32) (xM_finding : Int32) (gMisThere : Nat → Int32) (gMforms : Nat → Int32) (gMsizes : Nat → Int32) (u : Int32) (hm : fM_lacks a1 a2 a3 gMisThere gMforms gMsizes = some u) : Met l yX10_lacks wsX10_lacks ({ frames := 1, cells := 0, slots := 0, locals := 22 }) (va_Pc [.ref (ad 0), .int a1, .int a2, .int a3] (fun U => U.heap.size = sz ∧ va_P (dC, dI) vwCl [oM ad xM_typed xM_people xM_posted xM_hears xM_censuses xM_finding, ar (ad 27) cB 4 gMisThere, ar (ad 28) cA 4 gMforms, ar (ad 29) cA 4 gMsizes] U.heap ∧ va_K (dC, dI) vwCl [(cA, .int), (cB, .boolean)] U ∧ va_D (fun _ => True) [oM ad xM_typed xM_people xM_posted xM_hears xM_censuses xM_finding, ar (ad 27) cB 4 gMisThere, ar (ad 28) cA 4 gMforms, ar (ad 29) cA 4 gMsizes])) (va_Qi (fun (r : Int32) (_ : Unit) => r = u) (fun (_ : Unit) t => va_P (dC, dI) vwCl [oM ad xM_typed xM_people xM_posted xM_hears xM_censuses xM_finding, ar (ad 27) cB 4 gMisThere, ar (ad 28) cA 4 gMforms, ar (ad 29) cA 4 gMsizes] t.heap ∧ va_K (dC, dI) vwCl [(cA, .int), (cB, .boolean)] t ∧ va_D (va_A [oM ad xM_typed xM_people xM_posted xM_hears xM_censuses xM_finding, ar (ad 27) cB 4 gMisThere, ar (ad 28) cA 4 gMforms, ar (ad 29) cA 4 gMsizes] sz) [oM ad xM_typed xM_people xM_posted xM_hears xM_censuses xM_finding, ar (ad 27) cB 4 gMisThere, ar (ad 28) cA 4 gMforms, ar (ad 29) cA 4 gMsizes]) (va_A [oM ad xM_typed xM_people xM_posted xM_hears xM_censuses xM_finding, ar (ad 27) cB 4 gMisThere, ar (ad 28) cA 4 gMforms, ar (ad 29) cA 4 gMsizes] sz)) 0 0 (va_A [oM ad xM_typed xM_people xM_posted xM_hears xM_censuses xM_finding, ar (ad 27) cB 4 gMisThere, ar (ad 28) cA 4 gMforms, ar (ad 29) cA 4 gMsizes] sz) := by
  refine Met.ofW (cc := cX10_lacks) (maxL := 4) (ret := (some .int)) (by decide) rfl ?_
  intro p e s m args below meth c s₁ B hml hv
  obtain ⟨rfl, hsz, hP, hK, hD0⟩ := hv
  have hx := B.exec
  have hb := B.bytes
  have hr := B.returns
  have hts := atoms_spec (ws := wsX10_lacks) B.pre
  have hown : s.vm.findClass RX10 = some m.cls := findClass_of_methodNamed B.named
  have hlocks := B.notSynchronized
  subst hsz
  have hD := hD0.self (sz := s.heap.size)
  generalize hAe : va_A [oM ad xM_typed xM_people xM_posted xM_hears xM_censuses xM_finding, ar (ad 27) cB 4 gMisThere, ar (ad 28) cA 4 gMforms, ar (ad 29) cA 4 gMsizes] s.heap.size = A at hD ⊢
  have hA : ∀ q : Nat, s.heap.size ≤ q → A q := fun q h => by rw [← hAe]; exact Or.inr h
  have hS : va_S A s.heap s.heap [] := va_S.rf
  have hl := lv_entry ([.ref (ad 0), .int a1, .int a2, .int a3]) (n := 4) (Nat.le_of_ble_eq_true rfl)
  rw [lg_entry_eq]
  generalize (lg_sl ([.ref (ad 0), .int a1, .int a2, .int a3]) ++ List.replicate (4 - (lg_sl ([.ref (ad 0), .int a1, .int a2, .int a3])).length) Slot.unset).toArray = ls at hl ⊢
  have hl : lv_has ls 4 [(0, .ref (ad 0)), (1, .int a1), (2, .int a2), (3, .int a3)] := hl
  refine wk_Q (fun QQ hQ => ?_)
  have hinX10 : ∀ w ∈ wsX100, w ∈ wsX10_lacks := fun w h => List.mem_cons_of_mem _ (inlX10 w h)
  have hl_88 := hts (.fieldLink RX10 88 "HandCensusModel" "isThere" "[Z") (List.mem_cons_of_mem _ (in_r7 _ (List.mem_of_getElem? (i := 22) rfl)))
  have hl_92 := hts (.fieldLink RX10 92 "HandCensusModel" "forms" "[I") (List.mem_cons_of_mem _ (in_r7 _ (List.mem_of_getElem? (i := 23) rfl)))
  have hl_95 := hts (.fieldLink RX10 95 "HandCensusModel" "sizes" "[I") (List.mem_cons_of_mem _ (in_r8 _ (List.mem_of_getElem? (i := 0) rfl)))
  unfold fM_lacks at hm
  refine lv_aload_n hx hb dX10_lacks_0 rfl (lv_at hl 0 rfl) ?_
  refine va_get (D := (dC, dI)) (ci := 10) (v := .ref (ad 27)) (C := RX10) (T := TX10) (N := 37) hx hb hts hinX10 hown hK hP 0 rfl rfl 31 (by decide) hl_88 (fun _ h9 => h9) rfl dX10_lacks_1 ?_
  refine lv_iload_n hx hb dX10_lacks_4 rfl (lv_at hl 1 rfl) ?_
  obtain ⟨i_1, hm⟩ := ck_ok hm
  refine va_zald hx hb hK hP 1 1 rfl rfl i_1 dX10_lacks_5 ?_
  refine lv_if_ne (tgt := 13) hx hb dX10_lacks_6 (by decide) (fun c_2 => ?_) (fun c_2 => ?_)
  · have hm := it_neg c_2 hm
    refine lv_aload_n hx hb dX10_lacks_13 rfl (lv_at hl 0 rfl) ?_
    refine va_get (D := (dC, dI)) (ci := 10) (v := .ref (ad 28)) (C := RX10) (T := TX10) (N := 37) hx hb hts hinX10 hown hK hP 0 rfl rfl 32 (by decide) hl_92 (fun _ h9 => h9) rfl dX10_lacks_14 ?_
    refine lv_iload_n hx hb dX10_lacks_17 rfl (lv_at hl 1 rfl) ?_
    obtain ⟨i_3, hm⟩ := ck_ok hm
    refine va_iald hx hb hK hP 2 0 rfl rfl i_3 dX10_lacks_18 ?_
    refine lv_iload_n hx hb dX10_lacks_19 rfl (lv_at hl 2 rfl) ?_
    refine lv_icmp_eq (tgt := 27) hx hb dX10_lacks_20 (by decide) (fun c_4 => ?_) (fun c_4 => ?_)
    · have hm := it_pos c_4 hm
      refine lv_iload_n hx hb dX10_lacks_27 rfl (lv_at hl 3 rfl) ?_
      refine lv_iconst (v := 0) hx hb dX10_lacks_28 (by decide) ?_
      refine lv_aload_n hx hb dX10_lacks_29 rfl (lv_at hl 0 rfl) ?_
      refine va_get (D := (dC, dI)) (ci := 10) (v := .ref (ad 29)) (C := RX10) (T := TX10) (N := 37) hx hb hts hinX10 hown hK hP 0 rfl rfl 33 (by decide) hl_95 (fun _ h9 => h9) rfl dX10_lacks_30 ?_
      refine lv_iload_n hx hb dX10_lacks_33 rfl (lv_at hl 1 rfl) ?_
      obtain ⟨i_5, hm⟩ := ck_ok hm
      refine va_iald hx hb hK hP 3 0 rfl rfl i_5 dX10_lacks_34 ?_
      refine lv_iconst (v := 1) hx hb dX10_lacks_35 (by decide) ?_
      refine lv_isub hx hb dX10_lacks_36 ?_
      have hPc := hP.sub (ws' := []) [] rfl
      have hDc := hD.sub (ws' := []) [] (by decide) rfl
      have hFc := va_free (wc := []) hD hS hA [] rfl
      obtain ⟨u_6, hc_6, hm⟩ := bd_ok hm
      refine va_calli (va_runS (As := [.int a3, .int 0, .int ((gMsizes a1.toNatClampNeg) - 1)]) (rest := []) ⟨hx, hb, hml, hown, hts⟩ (kM_in l dC dI cA cB ad s.heap.size a3 0 ((gMsizes a1.toNatClampNeg) - 1) u_6 hc_6) (va_cwS 3 hts gX10_lacks_X10_in rfl rfl rfl (by decide +kernel) ⟨Nat.le_of_ble_eq_true rfl, Nat.le_of_ble_eq_true rfl⟩) ⟨fun a U g mk q => by obtain ⟨q0, q1, qP, qK, qD⟩ := q; exact ⟨q0, q1, qP, va_K.moved (u := U) (U := U.calling g mk a) (Vm.Alike.refl U.vm) qK, qD⟩, fun U hU hW => ⟨rfl, by rw [hU], by rw [hU]; exact hPc, va_K.moved hW.alike hK, hDc.weaken (fun _ _ _ _ => trivial)⟩⟩ rfl rfl hl.1 rfl (lv_room (Nat.le_of_ble_eq_true rfl)) dX10_lacks_37 ⟨Nat.le_of_ble_eq_true rfl, Nat.le_of_ble_eq_true rfl⟩) hS (fun q _ h => hFc q h) hFc (fun r_6 _ t H1 locs ht hvm hw hB hz1 hk1 hS => ?_)
      obtain ⟨hP1, hK1, hD1⟩ := hB
      rw [ht] at hP1
      obtain ⟨hP, hD⟩ := va_join (wr := [oM ad xM_typed xM_people xM_posted xM_hears xM_censuses xM_finding, ar (ad 27) cB 4 gMisThere, ar (ad 28) cA 4 gMforms, ar (ad 29) cA 4 gMsizes]) (w1 := []) hP hD [] [0, 1, 2, 3] rfl rfl (by decide) (by decide) hk1 hFc hP1 hD1
      clear hPc hDc hFc hP1 hK1 hD1 hk1 hz1 hvm ht
      generalize H1 = H at hP hS ⊢
      have hP : va_P (dC, dI) vwCl [oM ad xM_typed xM_people xM_posted xM_hears xM_censuses xM_finding, ar (ad 27) cB 4 gMisThere, ar (ad 28) cA 4 gMforms, ar (ad 29) cA 4 gMsizes] H := hP
      have hD : va_D A [oM ad xM_typed xM_people xM_posted xM_hears xM_censuses xM_finding, ar (ad 27) cB 4 gMisThere, ar (ad 28) cA 4 gMforms, ar (ad 29) cA 4 gMsizes] := hD
      have hw := hw.symm
      subst hw
      refine lv_if_eq (tgt := 47) hx hb dX10_lacks_40 (by decide) (fun c_7 => ?_) (fun c_7 => ?_)
      · have hm := it_pos c_7 hm
        refine lv_iconst (v := 2) hx hb dX10_lacks_47 (by decide) ?_
        obtain rfl := Option.some.inj hm
        subst hQ
        exact W.iret (v := 2) hx hb hr (fun t ht hW => ⟨⟨_, (), rfl, rfl, by rw [ht]; exact hP, va_K.moved hW.alike hK, hAe ▸ hD⟩, hS.F ht⟩) hS.2.2 dX10_lacks_48
      · have hm := it_neg c_7 hm
        refine lv_iconst (v := 0) hx hb dX10_lacks_43 (by decide) ?_
        refine lv_goto (tgt := 48) hx hb dX10_lacks_44 (by decide) ?_
        obtain rfl := Option.some.inj hm
        subst hQ
        exact W.iret (v := 0) hx hb hr (fun t ht hW => ⟨⟨_, (), rfl, rfl, by rw [ht]; exact hP, va_K.moved hW.alike hK, hAe ▸ hD⟩, hS.F ht⟩) hS.2.2 dX10_lacks_48
    · have hm := it_neg c_4 hm
      refine lv_iconst (v := 3) hx hb dX10_lacks_23 (by decide) ?_
      refine lv_goto (tgt := 48) hx hb dX10_lacks_24 (by decide) ?_
      obtain rfl := Option.some.inj hm
      subst hQ
      exact W.iret (v := 3) hx hb hr (fun t ht hW => ⟨⟨_, (), rfl, rfl, by rw [ht]; exact hP, va_K.moved hW.alike hK, hAe ▸ hD⟩, hS.F ht⟩) hS.2.2 dX10_lacks_48
  · have hm := it_pos c_2 hm
    refine lv_iconst (v := 1) hx hb dX10_lacks_9 (by decide) ?_
    refine lv_goto (tgt := 48) hx hb dX10_lacks_10 (by decide) ?_
    obtain rfl := Option.some.inj hm
    subst hQ
    exact W.iret (v := 1) hx hb hr (fun t ht hW => ⟨⟨_, (), rfl, rfl, by rw [ht]; exact hP, va_K.moved hW.alike hK, hAe ▸ hD⟩, hS.F ht⟩) hS.2.2 dX10_lacks_48

set_option maxHeartbeats 4000000 in
set_option maxRecDepth 100000 in
theorem kM_keep (l : Launch) (dC : Nat → ClassId) (dI : Nat → Nat → Nat) (cA : ClassId) (cB : ClassId) (ad : Nat → Nat) (sz : Nat) (a1 : Int32) (a2 : Int32) (a3 : Int32) (xM_typed : Int32) (xM_people : Int32) (xM_posted : Int32) (xM_hears : Int32) (xM_censuses : Int32) (xM_finding : Int32) (gMforms : Nat → Int32) (gMitems : Nat → Int32) (u : (Nat → Int32)) (hm : fM_keep a1 a2 a3 gMforms gMitems = some u) : Met l yX10_keep wsX10_keep ({ frames := 0, cells := 0, slots := 0, locals := 0 }) (va_Pc [.ref (ad 0), .int a1, .int a2, .int a3] (fun U => U.heap.size = sz ∧ va_P (dC, dI) vwCl [oM ad xM_typed xM_people xM_posted xM_hears xM_censuses xM_finding, ar (ad 28) cA 4 gMforms, ar (ad 30) cA 240 gMitems] U.heap ∧ va_K (dC, dI) vwCl [(cA, .int), (cB, .boolean)] U ∧ va_D (fun _ => True) [oM ad xM_typed xM_people xM_posted xM_hears xM_censuses xM_finding, ar (ad 28) cA 4 gMforms, ar (ad 30) cA 240 gMitems])) (va_Qv (fun (_ : Unit) => True) (fun (_ : Unit) t => va_P (dC, dI) vwCl [oM ad xM_typed xM_people xM_posted xM_hears xM_censuses xM_finding, ar (ad 28) cA 4 gMforms, ar (ad 30) cA 240 u] t.heap ∧ va_K (dC, dI) vwCl [(cA, .int), (cB, .boolean)] t ∧ va_D (va_A [oM ad xM_typed xM_people xM_posted xM_hears xM_censuses xM_finding, ar (ad 28) cA 4 gMforms, ar (ad 30) cA 240 gMitems] sz) [oM ad xM_typed xM_people xM_posted xM_hears xM_censuses xM_finding, ar (ad 28) cA 4 gMforms, ar (ad 30) cA 240 u]) (va_A [oM ad xM_typed xM_people xM_posted xM_hears xM_censuses xM_finding, ar (ad 28) cA 4 gMforms, ar (ad 30) cA 240 gMitems] sz)) 0 0 (va_A [oM ad xM_typed xM_people xM_posted xM_hears xM_censuses xM_finding, ar (ad 28) cA 4 gMforms, ar (ad 30) cA 240 gMitems] sz) := by
  refine Met.ofW (cc := cX10_keep) (maxL := 4) (ret := none) (by decide) rfl ?_
  intro p e s m args below meth c s₁ B hml hv
  obtain ⟨rfl, hsz, hP, hK, hD0⟩ := hv
  have hx := B.exec
  have hb := B.bytes
  have hr := B.returns
  have hts := atoms_spec (ws := wsX10_keep) B.pre
  have hown : s.vm.findClass RX10 = some m.cls := findClass_of_methodNamed B.named
  have hlocks := B.notSynchronized
  subst hsz
  have hD := hD0.self (sz := s.heap.size)
  generalize hAe : va_A [oM ad xM_typed xM_people xM_posted xM_hears xM_censuses xM_finding, ar (ad 28) cA 4 gMforms, ar (ad 30) cA 240 gMitems] s.heap.size = A at hD ⊢
  have hA : ∀ q : Nat, s.heap.size ≤ q → A q := fun q h => by rw [← hAe]; exact Or.inr h
  have hS : va_S A s.heap s.heap [] := va_S.rf
  have hl := lv_entry ([.ref (ad 0), .int a1, .int a2, .int a3]) (n := 4) (Nat.le_of_ble_eq_true rfl)
  rw [lg_entry_eq]
  generalize (lg_sl ([.ref (ad 0), .int a1, .int a2, .int a3]) ++ List.replicate (4 - (lg_sl ([.ref (ad 0), .int a1, .int a2, .int a3])).length) Slot.unset).toArray = ls at hl ⊢
  have hl : lv_has ls 4 [(0, .ref (ad 0)), (1, .int a1), (2, .int a2), (3, .int a3)] := hl
  refine wk_Q (fun QQ hQ => ?_)
  have hinX10 : ∀ w ∈ wsX100, w ∈ wsX10_keep := fun w h => List.mem_cons_of_mem _ (inlX10 w h)
  have hl_98 := hts (.fieldLink RX10 98 "HandCensusModel" "items" "[I") (List.mem_cons_of_mem _ (in_r8 _ (List.mem_of_getElem? (i := 1) rfl)))
  have hl_92 := hts (.fieldLink RX10 92 "HandCensusModel" "forms" "[I") (List.mem_cons_of_mem _ (in_r7 _ (List.mem_of_getElem? (i := 23) rfl)))
  have b_40 : ∀ (s1_40 : Int32) (s2_40 : Int32) (gMitems_40 : Nat → Int32), fM_keep_40 s1_40 s2_40 gMitems_40 = some u → ∀ (H : Heap) (locs : List Loc), va_P (dC, dI) vwCl [oM ad xM_typed xM_people xM_posted xM_hears xM_censuses xM_finding, ar (ad 28) cA 4 gMforms, ar (ad 30) cA 240 gMitems_40] H → va_D A [oM ad xM_typed xM_people xM_posted xM_hears xM_censuses xM_finding, ar (ad 28) cA 4 gMforms, ar (ad 30) cA 240 gMitems_40] → va_S A s.heap H locs → ∀ ls : Array Slot, lv_has ls 4 [] → W p l e (headSpec wsX10_keep ({ frames := 0, cells := 0, slots := 0, locals := 0 })).room s m ([.ref (ad 0), .int a1, .int a2, .int a3] : List Value).toArray below meth c H locs 0 0 QQ (F0 m 40 ls [.int s2_40, .int s1_40, .ref (ad 30)]) := by
    intro s1_40 s2_40 gMitems_40 hm H locs hP hD hS ls hl
    unfold fM_keep_40 at hm
    obtain ⟨i_1, hm⟩ := ck_ok hm
    refine va_iast hx hb hK hP hD hS 2 0 rfl rfl i_1 dX10_keep_40 (fun H locs hP hD hS => ?_)
    have hP : va_P (dC, dI) vwCl [oM ad xM_typed xM_people xM_posted xM_hears xM_censuses xM_finding, ar (ad 28) cA 4 gMforms, ar (ad 30) cA 240 (upd gMitems_40 s1_40.toNatClampNeg s2_40)] H := hP
    have hD : va_D A [oM ad xM_typed xM_people xM_posted xM_hears xM_censuses xM_finding, ar (ad 28) cA 4 gMforms, ar (ad 30) cA 240 (upd gMitems_40 s1_40.toNatClampNeg s2_40)] := hD
    obtain rfl := Option.some.inj hm
    subst hQ
    exact W.vret hx hb hr (fun t ht hW => ⟨⟨(), rfl, trivial, by rw [ht]; exact hP, va_K.moved hW.alike hK, hAe ▸ hD⟩, hS.F ht⟩) hS.2.2 dX10_keep_41
  unfold fM_keep at hm
  refine lv_aload_n hx hb dX10_keep_0 rfl (lv_at hl 0 rfl) ?_
  refine va_get (D := (dC, dI)) (ci := 10) (v := .ref (ad 30)) (C := RX10) (T := TX10) (N := 37) hx hb hts hinX10 hown hK hP 0 rfl rfl 34 (by decide) hl_98 (fun _ h9 => h9) rfl dX10_keep_1 ?_
  refine lv_bipush (v := 60) hx hb dX10_keep_4 (by decide) ?_
  refine lv_iload_n hx hb dX10_keep_6 rfl (lv_at hl 1 rfl) ?_
  refine lv_imul hx hb dX10_keep_7 ?_
  refine lv_iload_n hx hb dX10_keep_8 rfl (lv_at hl 2 rfl) ?_
  refine lv_iadd hx hb dX10_keep_9 ?_
  refine lv_aload_n hx hb dX10_keep_10 rfl (lv_at hl 0 rfl) ?_
  refine va_get (D := (dC, dI)) (ci := 10) (v := .ref (ad 28)) (C := RX10) (T := TX10) (N := 37) hx hb hts hinX10 hown hK hP 0 rfl rfl 32 (by decide) hl_92 (fun _ h9 => h9) rfl dX10_keep_11 ?_
  refine lv_iload_n hx hb dX10_keep_14 rfl (lv_at hl 1 rfl) ?_
  obtain ⟨i_2, hm⟩ := ck_ok hm
  refine va_iald hx hb hK hP 1 0 rfl rfl i_2 dX10_keep_15 ?_
  refine lv_if_ne (tgt := 24) hx hb dX10_keep_16 (by decide) (fun c_3 => ?_) (fun c_3 => ?_)
  · have hm := it_neg c_3 hm
    refine lv_aload_n hx hb dX10_keep_24 rfl (lv_at hl 0 rfl) ?_
    refine va_get (D := (dC, dI)) (ci := 10) (v := .ref (ad 28)) (C := RX10) (T := TX10) (N := 37) hx hb hts hinX10 hown hK hP 0 rfl rfl 32 (by decide) hl_92 (fun _ h9 => h9) rfl dX10_keep_25 ?_
    refine lv_iload_n hx hb dX10_keep_28 rfl (lv_at hl 1 rfl) ?_
    obtain ⟨i_4, hm⟩ := ck_ok hm
    refine va_iald hx hb hK hP 1 0 rfl rfl i_4 dX10_keep_29 ?_
    refine lv_iconst (v := 1) hx hb dX10_keep_30 (by decide) ?_
    refine lv_icmp_ne (tgt := 39) hx hb dX10_keep_31 (by decide) (fun c_5 => ?_) (fun c_5 => ?_)
    · have hm := it_neg c_5 hm
      refine lv_iload_n hx hb dX10_keep_39 rfl (lv_at hl 3 rfl) ?_
      exact b_40 _ _ _ hm _ _ hP hD hS _ (lv_sub hl [] rfl)
    · have hm := it_pos c_5 hm
      refine lv_iload_n hx hb dX10_keep_34 rfl (lv_at hl 3 rfl) ?_
      refine lv_i2s hx hb dX10_keep_35 rfl ?_
      refine lv_goto (tgt := 40) hx hb dX10_keep_36 (by decide) ?_
      exact b_40 _ _ _ hm _ _ hP hD hS _ (lv_sub hl [] rfl)
  · have hm := it_pos c_3 hm
    refine lv_iload_n hx hb dX10_keep_19 rfl (lv_at hl 3 rfl) ?_
    refine lv_i2b hx hb dX10_keep_20 rfl ?_
    refine lv_goto (tgt := 40) hx hb dX10_keep_21 (by decide) ?_
    exact b_40 _ _ _ hm _ _ hP hD hS _ (lv_sub hl [] rfl)

set_option maxHeartbeats 4000000 in
set_option maxRecDepth 100000 in
theorem kM_put (l : Launch) (dC : Nat → ClassId) (dI : Nat → Nat → Nat) (cA : ClassId) (cB : ClassId) (ad : Nat → Nat) (sz : Nat) (a1 : Int32) (a2 : Int32) (a3 : Int32) (a4 : Int32) (xM_typed : Int32) (xM_people : Int32) (xM_posted : Int32) (xM_hears : Int32) (xM_censuses : Int32) (xM_finding : Int32) (gMisThere : Nat → Int32) (gMforms : Nat → Int32) (gMsizes : Nat → Int32) (gMitems : Nat → Int32) (u : Int32 × Int32 × (Nat → Int32)) (hm : fM_put a1 a2 a3 a4 xM_finding gMisThere gMforms gMsizes gMitems = some u) : Met l yX10_put wsX10_put ({ frames := 2, cells := 0, slots := 0, locals := 45 }) (va_Pc [.ref (ad 0), .int a1, .int a2, .int a3, .int a4] (fun U => U.heap.size = sz ∧ va_P (dC, dI) vwCl [oM ad xM_typed xM_people xM_posted xM_hears xM_censuses xM_finding, ar (ad 27) cB 4 gMisThere, ar (ad 28) cA 4 gMforms, ar (ad 29) cA 4 gMsizes, ar (ad 30) cA 240 gMitems] U.heap ∧ va_K (dC, dI) vwCl [(cA, .int), (cB, .boolean)] U ∧ va_D (fun _ => True) [oM ad xM_typed xM_people xM_posted xM_hears xM_censuses xM_finding, ar (ad 27) cB 4 gMisThere, ar (ad 28) cA 4 gMforms, ar (ad 29) cA 4 gMsizes, ar (ad 30) cA 240 gMitems])) (va_Qi (fun (r : Int32) (_ : Unit) => r = u.1) (fun (_ : Unit) t => va_P (dC, dI) vwCl [oM ad xM_typed xM_people xM_posted xM_hears xM_censuses u.2.1, ar (ad 27) cB 4 gMisThere, ar (ad 28) cA 4 gMforms, ar (ad 29) cA 4 gMsizes, ar (ad 30) cA 240 u.2.2] t.heap ∧ va_K (dC, dI) vwCl [(cA, .int), (cB, .boolean)] t ∧ va_D (va_A [oM ad xM_typed xM_people xM_posted xM_hears xM_censuses xM_finding, ar (ad 27) cB 4 gMisThere, ar (ad 28) cA 4 gMforms, ar (ad 29) cA 4 gMsizes, ar (ad 30) cA 240 gMitems] sz) [oM ad xM_typed xM_people xM_posted xM_hears xM_censuses u.2.1, ar (ad 27) cB 4 gMisThere, ar (ad 28) cA 4 gMforms, ar (ad 29) cA 4 gMsizes, ar (ad 30) cA 240 u.2.2]) (va_A [oM ad xM_typed xM_people xM_posted xM_hears xM_censuses xM_finding, ar (ad 27) cB 4 gMisThere, ar (ad 28) cA 4 gMforms, ar (ad 29) cA 4 gMsizes, ar (ad 30) cA 240 gMitems] sz)) 0 0 (va_A [oM ad xM_typed xM_people xM_posted xM_hears xM_censuses xM_finding, ar (ad 27) cB 4 gMisThere, ar (ad 28) cA 4 gMforms, ar (ad 29) cA 4 gMsizes, ar (ad 30) cA 240 gMitems] sz) := by
  refine Met.ofW (cc := cX10_put) (maxL := 6) (ret := (some .int)) (by decide) rfl ?_
  intro p e s m args below meth c s₁ B hml hv
  obtain ⟨rfl, hsz, hP, hK, hD0⟩ := hv
  have hx := B.exec
  have hb := B.bytes
  have hr := B.returns
  have hts := atoms_spec (ws := wsX10_put) B.pre
  have hown : s.vm.findClass RX10 = some m.cls := findClass_of_methodNamed B.named
  have hlocks := B.notSynchronized
  subst hsz
  have hD := hD0.self (sz := s.heap.size)
  generalize hAe : va_A [oM ad xM_typed xM_people xM_posted xM_hears xM_censuses xM_finding, ar (ad 27) cB 4 gMisThere, ar (ad 28) cA 4 gMforms, ar (ad 29) cA 4 gMsizes, ar (ad 30) cA 240 gMitems] s.heap.size = A at hD ⊢
  have hA : ∀ q : Nat, s.heap.size ≤ q → A q := fun q h => by rw [← hAe]; exact Or.inr h
  have hS : va_S A s.heap s.heap [] := va_S.rf
  have hl := lv_entry ([.ref (ad 0), .int a1, .int a2, .int a3, .int a4]) (n := 6) (Nat.le_of_ble_eq_true rfl)
  rw [lg_entry_eq]
  generalize (lg_sl ([.ref (ad 0), .int a1, .int a2, .int a3, .int a4]) ++ List.replicate (6 - (lg_sl ([.ref (ad 0), .int a1, .int a2, .int a3, .int a4])).length) Slot.unset).toArray = ls at hl ⊢
  have hl : lv_has ls 6 [(0, .ref (ad 0)), (1, .int a1), (2, .int a2), (3, .int a3), (4, .int a4)] := hl
  refine wk_Q (fun QQ hQ => ?_)
  unfold fM_put at hm
  refine lv_iload_n hx hb dX10_put_0 rfl (lv_at hl 1 rfl) ?_
  have hPc := hP.sub (ws' := []) [] rfl
  have hDc := hD.sub (ws' := []) [] (by decide) rfl
  have hFc := va_free (wc := []) hD hS hA [] rfl
  obtain ⟨u_1, hc_1, hm⟩ := bd_ok hm
  refine va_calli (va_runS (As := [.int a1]) (rest := []) ⟨hx, hb, hml, hown, hts⟩ (kM_isSheet l dC dI cA cB ad s.heap.size a1 u_1 hc_1) (va_cwS 1 hts gX10_put_X10_isSheet rfl rfl rfl (by decide +kernel) ⟨Nat.le_of_ble_eq_true rfl, Nat.le_of_ble_eq_true rfl⟩) ⟨fun a U g mk q => by obtain ⟨q0, q1, qP, qK, qD⟩ := q; exact ⟨q0, q1, qP, va_K.moved (u := U) (U := U.calling g mk a) (Vm.Alike.refl U.vm) qK, qD⟩, fun U hU hW => ⟨rfl, by rw [hU], by rw [hU]; exact hPc, va_K.moved hW.alike hK, hDc.weaken (fun _ _ _ _ => trivial)⟩⟩ rfl rfl hl.1 rfl (lv_room (Nat.le_of_ble_eq_true rfl)) dX10_put_1 ⟨Nat.le_of_ble_eq_true rfl, Nat.le_of_ble_eq_true rfl⟩) hS (fun q _ h => hFc q h) hFc (fun r_1 _ t H1 locs ht hvm hw hB hz1 hk1 hS => ?_)
  obtain ⟨hP1, hK1, hD1⟩ := hB
  rw [ht] at hP1
  obtain ⟨hP, hD⟩ := va_join (wr := [oM ad xM_typed xM_people xM_posted xM_hears xM_censuses xM_finding, ar (ad 27) cB 4 gMisThere, ar (ad 28) cA 4 gMforms, ar (ad 29) cA 4 gMsizes, ar (ad 30) cA 240 gMitems]) (w1 := []) hP hD [] [0, 1, 2, 3, 4] rfl rfl (by decide) (by decide) hk1 hFc hP1 hD1
  clear hPc hDc hFc hP1 hK1 hD1 hk1 hz1 hvm ht
  generalize H1 = H at hP hS ⊢
  have hP : va_P (dC, dI) vwCl [oM ad xM_typed xM_people xM_posted xM_hears xM_censuses xM_finding, ar (ad 27) cB 4 gMisThere, ar (ad 28) cA 4 gMforms, ar (ad 29) cA 4 gMsizes, ar (ad 30) cA 240 gMitems] H := hP
  have hD : va_D A [oM ad xM_typed xM_people xM_posted xM_hears xM_censuses xM_finding, ar (ad 27) cB 4 gMisThere, ar (ad 28) cA 4 gMforms, ar (ad 29) cA 4 gMsizes, ar (ad 30) cA 240 gMitems] := hD
  have hw := hw.symm
  subst hw
  refine lv_if_eq (tgt := 16) hx hb dX10_put_4 (by decide) (fun c_2 => ?_) (fun c_2 => ?_)
  · have hm := it_pos c_2 hm
    refine lv_bipush (v := (-2)) hx hb dX10_put_16 (by decide) ?_
    obtain rfl := Option.some.inj hm
    subst hQ
    exact W.iret (v := (-2)) hx hb hr (fun t ht hW => ⟨⟨_, (), rfl, rfl, by rw [ht]; exact hP, va_K.moved hW.alike hK, hAe ▸ hD⟩, hS.F ht⟩) hS.2.2 dX10_put_18
  · have hm := it_neg c_2 hm
    refine lv_iload_n hx hb dX10_put_7 rfl (lv_at hl 2 rfl) ?_
    refine lv_iconst (v := 0) hx hb dX10_put_8 (by decide) ?_
    refine lv_iconst (v := 2) hx hb dX10_put_9 (by decide) ?_
    have hPc := hP.sub (ws' := []) [] rfl
    have hDc := hD.sub (ws' := []) [] (by decide) rfl
    have hFc := va_free (wc := []) hD hS hA [] rfl
    obtain ⟨u_3, hc_3, hm⟩ := bd_ok hm
    refine va_calli (va_runS (As := [.int a2, .int 0, .int 2]) (rest := []) ⟨hx, hb, hml, hown, hts⟩ (kM_in l dC dI cA cB ad H.size a2 0 2 u_3 hc_3) (va_cwS 3 hts gX10_put_X10_in rfl rfl rfl (by decide +kernel) ⟨Nat.le_of_ble_eq_true rfl, Nat.le_of_ble_eq_true rfl⟩) ⟨fun a U g mk q => by obtain ⟨q0, q1, qP, qK, qD⟩ := q; exact ⟨q0, q1, qP, va_K.moved (u := U) (U := U.calling g mk a) (Vm.Alike.refl U.vm) qK, qD⟩, fun U hU hW => ⟨rfl, by rw [hU], by rw [hU]; exact hPc, va_K.moved hW.alike hK, hDc.weaken (fun _ _ _ _ => trivial)⟩⟩ rfl rfl hl.1 rfl (lv_room (Nat.le_of_ble_eq_true rfl)) dX10_put_10 ⟨Nat.le_of_ble_eq_true rfl, Nat.le_of_ble_eq_true rfl⟩) hS (fun q _ h => hFc q h) hFc (fun r_3 _ t H1 locs ht hvm hw hB hz1 hk1 hS => ?_)
    obtain ⟨hP1, hK1, hD1⟩ := hB
    rw [ht] at hP1
    obtain ⟨hP, hD⟩ := va_join (wr := [oM ad xM_typed xM_people xM_posted xM_hears xM_censuses xM_finding, ar (ad 27) cB 4 gMisThere, ar (ad 28) cA 4 gMforms, ar (ad 29) cA 4 gMsizes, ar (ad 30) cA 240 gMitems]) (w1 := []) hP hD [] [0, 1, 2, 3, 4] rfl rfl (by decide) (by decide) hk1 hFc hP1 hD1
    clear hPc hDc hFc hP1 hK1 hD1 hk1 hz1 hvm ht
    generalize H1 = H at hP hS ⊢
    have hP : va_P (dC, dI) vwCl [oM ad xM_typed xM_people xM_posted xM_hears xM_censuses xM_finding, ar (ad 27) cB 4 gMisThere, ar (ad 28) cA 4 gMforms, ar (ad 29) cA 4 gMsizes, ar (ad 30) cA 240 gMitems] H := hP
    have hD : va_D A [oM ad xM_typed xM_people xM_posted xM_hears xM_censuses xM_finding, ar (ad 27) cB 4 gMisThere, ar (ad 28) cA 4 gMforms, ar (ad 29) cA 4 gMsizes, ar (ad 30) cA 240 gMitems] := hD
    have hw := hw.symm
    subst hw
    refine lv_if_ne (tgt := 19) hx hb dX10_put_13 (by decide) (fun c_4 => ?_) (fun c_4 => ?_)
    · have hm := it_neg c_4 hm
      refine lv_aload_n hx hb dX10_put_19 rfl (lv_at hl 0 rfl) ?_
      refine lv_iload_n hx hb dX10_put_20 rfl (lv_at hl 1 rfl) ?_
      refine lv_iload_n hx hb dX10_put_21 rfl (lv_at hl 2 rfl) ?_
      refine lv_iload_n hx hb dX10_put_22 rfl (lv_at hl 3 rfl) ?_
      have hPc := hP.sub (ws' := [oM ad xM_typed xM_people xM_posted xM_hears xM_censuses xM_finding, ar (ad 27) cB 4 gMisThere, ar (ad 28) cA 4 gMforms, ar (ad 29) cA 4 gMsizes]) [0, 1, 2, 3] rfl
      have hDc := hD.sub (ws' := [oM ad xM_typed xM_people xM_posted xM_hears xM_censuses xM_finding, ar (ad 27) cB 4 gMisThere, ar (ad 28) cA 4 gMforms, ar (ad 29) cA 4 gMsizes]) [0, 1, 2, 3] (by decide) rfl
      have hFc := va_free (wc := [oM ad xM_typed xM_people xM_posted xM_hears xM_censuses xM_finding, ar (ad 27) cB 4 gMisThere, ar (ad 28) cA 4 gMforms, ar (ad 29) cA 4 gMsizes]) hD hS hA [0, 1, 2, 3] rfl
      obtain ⟨u_5, hc_5, hm⟩ := bd_ok hm
      refine va_calli (va_runV (As := [.int a1, .int a2, .int a3]) (rest := []) ⟨hx, hb, hml, hown, hts⟩ (kM_lacks l dC dI cA cB ad H.size a1 a2 a3 xM_typed xM_people xM_posted xM_hears xM_censuses xM_finding gMisThere gMforms gMsizes u_5 hc_5) (cwV 3 hts gX10_put_X10_lacks rfl rfl rfl (by decide +kernel) ⟨Nat.le_of_ble_eq_true rfl, Nat.le_of_ble_eq_true rfl⟩) ⟨fun a U g mk q => by obtain ⟨q0, q1, qP, qK, qD⟩ := q; exact ⟨q0, q1, qP, va_K.moved (u := U) (U := U.calling g mk a) (Vm.Alike.refl U.vm) qK, qD⟩, va_recv hK hPc (ci := 10) (q0 := 0) rfl rfl, fun U hU hW => ⟨rfl, by rw [hU], by rw [hU]; exact hPc, va_K.moved hW.alike hK, hDc.weaken (fun _ _ _ _ => trivial)⟩⟩ rfl rfl hl.1 rfl (lv_room (Nat.le_of_ble_eq_true rfl)) dX10_put_23 ⟨Nat.le_of_ble_eq_true rfl, Nat.le_of_ble_eq_true rfl⟩) hS (fun q _ h => hFc q h) hFc (fun r_5 _ t H1 locs ht hvm hw hB hz1 hk1 hS => ?_)
      obtain ⟨hP1, hK1, hD1⟩ := hB
      rw [ht] at hP1
      obtain ⟨hP, hD⟩ := va_join (wr := [ar (ad 30) cA 240 gMitems]) (w1 := [oM ad xM_typed xM_people xM_posted xM_hears xM_censuses xM_finding, ar (ad 27) cB 4 gMisThere, ar (ad 28) cA 4 gMforms, ar (ad 29) cA 4 gMsizes]) hP hD [0, 1, 2, 3] [4] rfl rfl (by decide) (by decide) hk1 hFc hP1 hD1
      clear hPc hDc hFc hP1 hK1 hD1 hk1 hz1 hvm ht
      generalize H1 = H at hP hS ⊢
      have hP : va_P (dC, dI) vwCl [oM ad xM_typed xM_people xM_posted xM_hears xM_censuses xM_finding, ar (ad 27) cB 4 gMisThere, ar (ad 28) cA 4 gMforms, ar (ad 29) cA 4 gMsizes, ar (ad 30) cA 240 gMitems] H := hP.sub [1, 2, 3, 4, 0] rfl
      have hD : va_D A [oM ad xM_typed xM_people xM_posted xM_hears xM_censuses xM_finding, ar (ad 27) cB 4 gMisThere, ar (ad 28) cA 4 gMforms, ar (ad 29) cA 4 gMsizes, ar (ad 30) cA 240 gMitems] := hD.sub [1, 2, 3, 4, 0] (by decide) rfl
      have hw := hw.symm
      subst hw
      refine lv_istore (lv' := [(5, .int u_5), (0, .ref (ad 0)), (1, .int a1), (2, .int a2), (3, .int a3), (4, .int a4)]) hx hb dX10_put_26 hl (by decide) rfl (fun ls hl => ?_)
      refine lv_iload hx hb dX10_put_28 (lv_at hl 0 rfl) ?_
      refine lv_if_le (tgt := 40) hx hb dX10_put_30 (by decide) (fun c_6 => ?_) (fun c_6 => ?_)
      · have hm := it_pos c_6 hm
        refine lv_aload_n hx hb dX10_put_40 rfl (lv_at hl 1 rfl) ?_
        refine lv_iload_n hx hb dX10_put_41 rfl (lv_at hl 2 rfl) ?_
        refine lv_iload_n hx hb dX10_put_42 rfl (lv_at hl 4 rfl) ?_
        refine lv_iload hx hb dX10_put_43 (lv_at hl 5 rfl) ?_
        have hPc := hP.sub (ws' := [oM ad xM_typed xM_people xM_posted xM_hears xM_censuses xM_finding, ar (ad 28) cA 4 gMforms, ar (ad 30) cA 240 gMitems]) [0, 2, 4] rfl
        have hDc := hD.sub (ws' := [oM ad xM_typed xM_people xM_posted xM_hears xM_censuses xM_finding, ar (ad 28) cA 4 gMforms, ar (ad 30) cA 240 gMitems]) [0, 2, 4] (by decide) rfl
        have hFc := va_free (wc := [oM ad xM_typed xM_people xM_posted xM_hears xM_censuses xM_finding, ar (ad 28) cA 4 gMforms, ar (ad 30) cA 240 gMitems]) hD hS hA [0, 2, 4] rfl
        obtain ⟨u_7, hc_7, hm⟩ := bd_ok hm
        refine va_callv (va_runV (As := [.int a1, .int a3, .int a4]) (rest := []) ⟨hx, hb, hml, hown, hts⟩ (kM_keep l dC dI cA cB ad H.size a1 a3 a4 xM_typed xM_people xM_posted xM_hears xM_censuses xM_finding gMforms gMitems u_7 hc_7) (cwV 3 hts gX10_put_X10_keep rfl rfl rfl (by decide +kernel) ⟨Nat.le_of_ble_eq_true rfl, Nat.le_of_ble_eq_true rfl⟩) ⟨fun a U g mk q => by obtain ⟨q0, q1, qP, qK, qD⟩ := q; exact ⟨q0, q1, qP, va_K.moved (u := U) (U := U.calling g mk a) (Vm.Alike.refl U.vm) qK, qD⟩, va_recv hK hPc (ci := 10) (q0 := 0) rfl rfl, fun U hU hW => ⟨rfl, by rw [hU], by rw [hU]; exact hPc, va_K.moved hW.alike hK, hDc.weaken (fun _ _ _ _ => trivial)⟩⟩ rfl rfl hl.1 rfl (lv_room (Nat.le_of_ble_eq_true rfl)) dX10_put_45 ⟨Nat.le_of_ble_eq_true rfl, Nat.le_of_ble_eq_true rfl⟩) hS (fun q _ h => hFc q h) hFc (fun _ t H1 locs ht hvm hw hB hz1 hk1 hS => ?_)
        obtain ⟨hP1, hK1, hD1⟩ := hB
        rw [ht] at hP1
        obtain ⟨hP, hD⟩ := va_join (wr := [ar (ad 27) cB 4 gMisThere, ar (ad 29) cA 4 gMsizes]) (w1 := [oM ad xM_typed xM_people xM_posted xM_hears xM_censuses xM_finding, ar (ad 28) cA 4 gMforms, ar (ad 30) cA 240 u_7]) hP hD [0, 2, 4] [1, 3] rfl rfl (by decide) (by decide) hk1 hFc hP1 hD1
        clear hPc hDc hFc hP1 hK1 hD1 hk1 hz1 hvm ht
        generalize H1 = H at hP hS ⊢
        have hP : va_P (dC, dI) vwCl [oM ad xM_typed xM_people xM_posted xM_hears xM_censuses xM_finding, ar (ad 27) cB 4 gMisThere, ar (ad 28) cA 4 gMforms, ar (ad 29) cA 4 gMsizes, ar (ad 30) cA 240 u_7] H := hP.sub [2, 0, 3, 1, 4] rfl
        have hD : va_D A [oM ad xM_typed xM_people xM_posted xM_hears xM_censuses xM_finding, ar (ad 27) cB 4 gMisThere, ar (ad 28) cA 4 gMforms, ar (ad 29) cA 4 gMsizes, ar (ad 30) cA 240 u_7] := hD.sub [2, 0, 3, 1, 4] (by decide) rfl
        refine lv_iconst (v := 1) hx hb dX10_put_48 (by decide) ?_
        obtain rfl := Option.some.inj hm
        subst hQ
        exact W.iret (v := 1) hx hb hr (fun t ht hW => ⟨⟨_, (), rfl, rfl, by rw [ht]; exact hP, va_K.moved hW.alike hK, hAe ▸ hD⟩, hS.F ht⟩) hS.2.2 dX10_put_49
      · have hm := it_neg c_6 hm
        refine lv_aload_n hx hb dX10_put_33 rfl (lv_at hl 1 rfl) ?_
        refine lv_iload hx hb dX10_put_34 (lv_at hl 0 rfl) ?_
        have hPc := hP.sub (ws' := [oM ad xM_typed xM_people xM_posted xM_hears xM_censuses xM_finding]) [0] rfl
        have hDc := hD.sub (ws' := [oM ad xM_typed xM_people xM_posted xM_hears xM_censuses xM_finding]) [0] (by decide) rfl
        have hFc := va_free (wc := [oM ad xM_typed xM_people xM_posted xM_hears xM_censuses xM_finding]) hD hS hA [0] rfl
        obtain ⟨u_8, hc_8, hm⟩ := bd_ok hm
        refine va_calli (va_runV (As := [.int u_5]) (rest := []) ⟨hx, hb, hml, hown, hts⟩ (kM_meets l dC dI cA cB ad H.size u_5 xM_typed xM_people xM_posted xM_hears xM_censuses xM_finding u_8 hc_8) (cwV 1 hts gX10_put_X10_meets rfl rfl rfl (by decide +kernel) ⟨Nat.le_of_ble_eq_true rfl, Nat.le_of_ble_eq_true rfl⟩) ⟨fun a U g mk q => by obtain ⟨q0, q1, qP, qK, qD⟩ := q; exact ⟨q0, q1, qP, va_K.moved (u := U) (U := U.calling g mk a) (Vm.Alike.refl U.vm) qK, qD⟩, va_recv hK hPc (ci := 10) (q0 := 0) rfl rfl, fun U hU hW => ⟨rfl, by rw [hU], by rw [hU]; exact hPc, va_K.moved hW.alike hK, hDc.weaken (fun _ _ _ _ => trivial)⟩⟩ rfl rfl hl.1 rfl (lv_room (Nat.le_of_ble_eq_true rfl)) dX10_put_36 ⟨Nat.le_of_ble_eq_true rfl, Nat.le_of_ble_eq_true rfl⟩) hS (fun q _ h => hFc q h) hFc (fun r_8 _ t H1 locs ht hvm hw hB hz1 hk1 hS => ?_)
        obtain ⟨hP1, hK1, hD1⟩ := hB
        rw [ht] at hP1
        obtain ⟨hP, hD⟩ := va_join (wr := [ar (ad 27) cB 4 gMisThere, ar (ad 28) cA 4 gMforms, ar (ad 29) cA 4 gMsizes, ar (ad 30) cA 240 gMitems]) (w1 := [oM ad xM_typed xM_people xM_posted xM_hears xM_censuses u_8.2]) hP hD [0] [1, 2, 3, 4] rfl rfl (by decide) (by decide) hk1 hFc hP1 hD1
        clear hPc hDc hFc hP1 hK1 hD1 hk1 hz1 hvm ht
        generalize H1 = H at hP hS ⊢
        have hP : va_P (dC, dI) vwCl [oM ad xM_typed xM_people xM_posted xM_hears xM_censuses u_8.2, ar (ad 27) cB 4 gMisThere, ar (ad 28) cA 4 gMforms, ar (ad 29) cA 4 gMsizes, ar (ad 30) cA 240 gMitems] H := hP.sub [4, 0, 1, 2, 3] rfl
        have hD : va_D A [oM ad xM_typed xM_people xM_posted xM_hears xM_censuses u_8.2, ar (ad 27) cB 4 gMisThere, ar (ad 28) cA 4 gMforms, ar (ad 29) cA 4 gMsizes, ar (ad 30) cA 240 gMitems] := hD.sub [4, 0, 1, 2, 3] (by decide) rfl
        have hw := hw.symm
        subst hw
        obtain rfl := Option.some.inj hm
        subst hQ
        exact W.iret (v := u_8.1) hx hb hr (fun t ht hW => ⟨⟨_, (), rfl, rfl, by rw [ht]; exact hP, va_K.moved hW.alike hK, hAe ▸ hD⟩, hS.F ht⟩) hS.2.2 dX10_put_39
    · have hm := it_pos c_4 hm
      refine lv_bipush (v := (-2)) hx hb dX10_put_16 (by decide) ?_
      obtain rfl := Option.some.inj hm
      subst hQ
      exact W.iret (v := (-2)) hx hb hr (fun t ht hW => ⟨⟨_, (), rfl, rfl, by rw [ht]; exact hP, va_K.moved hW.alike hK, hAe ▸ hD⟩, hS.F ht⟩) hS.2.2 dX10_put_18

set_option maxHeartbeats 4000000 in
set_option maxRecDepth 100000 in
theorem kM_get (l : Launch) (dC : Nat → ClassId) (dI : Nat → Nat → Nat) (cA : ClassId) (cB : ClassId) (ad : Nat → Nat) (sz : Nat) (a1 : Int32) (a2 : Int32) (a3 : Int32) (xM_typed : Int32) (xM_people : Int32) (xM_posted : Int32) (xM_hears : Int32) (xM_censuses : Int32) (xM_finding : Int32) (gMisThere : Nat → Int32) (gMforms : Nat → Int32) (gMsizes : Nat → Int32) (gMitems : Nat → Int32) (u : Int32 × Int32) (hm : fM_get a1 a2 a3 xM_finding gMisThere gMforms gMsizes gMitems = some u) : Met l yX10_get wsX10_get ({ frames := 2, cells := 0, slots := 0, locals := 45 }) (va_Pc [.ref (ad 0), .int a1, .int a2, .int a3] (fun U => U.heap.size = sz ∧ va_P (dC, dI) vwCl [oM ad xM_typed xM_people xM_posted xM_hears xM_censuses xM_finding, ar (ad 27) cB 4 gMisThere, ar (ad 28) cA 4 gMforms, ar (ad 29) cA 4 gMsizes, ar (ad 30) cA 240 gMitems] U.heap ∧ va_K (dC, dI) vwCl [(cA, .int), (cB, .boolean)] U ∧ va_D (fun _ => True) [oM ad xM_typed xM_people xM_posted xM_hears xM_censuses xM_finding, ar (ad 27) cB 4 gMisThere, ar (ad 28) cA 4 gMforms, ar (ad 29) cA 4 gMsizes, ar (ad 30) cA 240 gMitems])) (va_Qi (fun (r : Int32) (_ : Unit) => r = u.1) (fun (_ : Unit) t => va_P (dC, dI) vwCl [oM ad xM_typed xM_people xM_posted xM_hears xM_censuses u.2, ar (ad 27) cB 4 gMisThere, ar (ad 28) cA 4 gMforms, ar (ad 29) cA 4 gMsizes, ar (ad 30) cA 240 gMitems] t.heap ∧ va_K (dC, dI) vwCl [(cA, .int), (cB, .boolean)] t ∧ va_D (va_A [oM ad xM_typed xM_people xM_posted xM_hears xM_censuses xM_finding, ar (ad 27) cB 4 gMisThere, ar (ad 28) cA 4 gMforms, ar (ad 29) cA 4 gMsizes, ar (ad 30) cA 240 gMitems] sz) [oM ad xM_typed xM_people xM_posted xM_hears xM_censuses u.2, ar (ad 27) cB 4 gMisThere, ar (ad 28) cA 4 gMforms, ar (ad 29) cA 4 gMsizes, ar (ad 30) cA 240 gMitems]) (va_A [oM ad xM_typed xM_people xM_posted xM_hears xM_censuses xM_finding, ar (ad 27) cB 4 gMisThere, ar (ad 28) cA 4 gMforms, ar (ad 29) cA 4 gMsizes, ar (ad 30) cA 240 gMitems] sz)) 0 0 (va_A [oM ad xM_typed xM_people xM_posted xM_hears xM_censuses xM_finding, ar (ad 27) cB 4 gMisThere, ar (ad 28) cA 4 gMforms, ar (ad 29) cA 4 gMsizes, ar (ad 30) cA 240 gMitems] sz) := by
  refine Met.ofW (cc := cX10_get) (maxL := 5) (ret := (some .int)) (by decide) rfl ?_
  intro p e s m args below meth c s₁ B hml hv
  obtain ⟨rfl, hsz, hP, hK, hD0⟩ := hv
  have hx := B.exec
  have hb := B.bytes
  have hr := B.returns
  have hts := atoms_spec (ws := wsX10_get) B.pre
  have hown : s.vm.findClass RX10 = some m.cls := findClass_of_methodNamed B.named
  have hlocks := B.notSynchronized
  subst hsz
  have hD := hD0.self (sz := s.heap.size)
  generalize hAe : va_A [oM ad xM_typed xM_people xM_posted xM_hears xM_censuses xM_finding, ar (ad 27) cB 4 gMisThere, ar (ad 28) cA 4 gMforms, ar (ad 29) cA 4 gMsizes, ar (ad 30) cA 240 gMitems] s.heap.size = A at hD ⊢
  have hA : ∀ q : Nat, s.heap.size ≤ q → A q := fun q h => by rw [← hAe]; exact Or.inr h
  have hS : va_S A s.heap s.heap [] := va_S.rf
  have hl := lv_entry ([.ref (ad 0), .int a1, .int a2, .int a3]) (n := 5) (Nat.le_of_ble_eq_true rfl)
  rw [lg_entry_eq]
  generalize (lg_sl ([.ref (ad 0), .int a1, .int a2, .int a3]) ++ List.replicate (5 - (lg_sl ([.ref (ad 0), .int a1, .int a2, .int a3])).length) Slot.unset).toArray = ls at hl ⊢
  have hl : lv_has ls 5 [(0, .ref (ad 0)), (1, .int a1), (2, .int a2), (3, .int a3)] := hl
  refine wk_Q (fun QQ hQ => ?_)
  have hw_0 := hts (.constant RX10 276 (-2147483648)) (List.mem_cons_of_mem _ (in_r42 _ (List.mem_of_getElem? (i := 18) rfl)))
  have hinX10 : ∀ w ∈ wsX100, w ∈ wsX10_get := fun w h => List.mem_cons_of_mem _ (inlX10 w h)
  have hl_98 := hts (.fieldLink RX10 98 "HandCensusModel" "items" "[I") (List.mem_cons_of_mem _ (in_r8 _ (List.mem_of_getElem? (i := 1) rfl)))
  have hl_267 := hts (.fieldLink RX10 267 "HandCensusModel" "finding" "I") (List.mem_cons_of_mem _ (in_r34 _ (List.mem_of_getElem? (i := 4) rfl)))
  have b_16 : ∀ (xM_finding_16 : Int32), fM_get_16 xM_finding_16 = some u → ∀ (H : Heap) (locs : List Loc), va_P (dC, dI) vwCl [oM ad xM_typed xM_people xM_posted xM_hears xM_censuses xM_finding_16, ar (ad 27) cB 4 gMisThere, ar (ad 28) cA 4 gMforms, ar (ad 29) cA 4 gMsizes, ar (ad 30) cA 240 gMitems] H → va_D A [oM ad xM_typed xM_people xM_posted xM_hears xM_censuses xM_finding_16, ar (ad 27) cB 4 gMisThere, ar (ad 28) cA 4 gMforms, ar (ad 29) cA 4 gMsizes, ar (ad 30) cA 240 gMitems] → va_S A s.heap H locs → ∀ ls : Array Slot, lv_has ls 5 [] → W p l e (headSpec wsX10_get ({ frames := 2, cells := 0, slots := 0, locals := 45 })).room s m ([.ref (ad 0), .int a1, .int a2, .int a3] : List Value).toArray below meth c H locs 0 0 QQ (F0 m 16 ls []) := by
    intro xM_finding_16 hm H locs hP hD hS ls hl
    unfold fM_get_16 at hm
    refine lv_ldcw hx hb hown hw_0 dX10_get_16 ?_
    obtain rfl := Option.some.inj hm
    subst hQ
    exact W.iret (v := (-2147483648)) hx hb hr (fun t ht hW => ⟨⟨_, (), rfl, rfl, by rw [ht]; exact hP, va_K.moved hW.alike hK, hAe ▸ hD⟩, hS.F ht⟩) hS.2.2 dX10_get_19
  unfold fM_get at hm
  refine lv_iload_n hx hb dX10_get_0 rfl (lv_at hl 1 rfl) ?_
  have hPc := hP.sub (ws' := []) [] rfl
  have hDc := hD.sub (ws' := []) [] (by decide) rfl
  have hFc := va_free (wc := []) hD hS hA [] rfl
  obtain ⟨u_1, hc_1, hm⟩ := bd_ok hm
  refine va_calli (va_runS (As := [.int a1]) (rest := []) ⟨hx, hb, hml, hown, hts⟩ (kM_isSheet l dC dI cA cB ad s.heap.size a1 u_1 hc_1) (va_cwS 1 hts gX10_get_X10_isSheet rfl rfl rfl (by decide +kernel) ⟨Nat.le_of_ble_eq_true rfl, Nat.le_of_ble_eq_true rfl⟩) ⟨fun a U g mk q => by obtain ⟨q0, q1, qP, qK, qD⟩ := q; exact ⟨q0, q1, qP, va_K.moved (u := U) (U := U.calling g mk a) (Vm.Alike.refl U.vm) qK, qD⟩, fun U hU hW => ⟨rfl, by rw [hU], by rw [hU]; exact hPc, va_K.moved hW.alike hK, hDc.weaken (fun _ _ _ _ => trivial)⟩⟩ rfl rfl hl.1 rfl (lv_room (Nat.le_of_ble_eq_true rfl)) dX10_get_1 ⟨Nat.le_of_ble_eq_true rfl, Nat.le_of_ble_eq_true rfl⟩) hS (fun q _ h => hFc q h) hFc (fun r_1 _ t H1 locs ht hvm hw hB hz1 hk1 hS => ?_)
  obtain ⟨hP1, hK1, hD1⟩ := hB
  rw [ht] at hP1
  obtain ⟨hP, hD⟩ := va_join (wr := [oM ad xM_typed xM_people xM_posted xM_hears xM_censuses xM_finding, ar (ad 27) cB 4 gMisThere, ar (ad 28) cA 4 gMforms, ar (ad 29) cA 4 gMsizes, ar (ad 30) cA 240 gMitems]) (w1 := []) hP hD [] [0, 1, 2, 3, 4] rfl rfl (by decide) (by decide) hk1 hFc hP1 hD1
  clear hPc hDc hFc hP1 hK1 hD1 hk1 hz1 hvm ht
  generalize H1 = H at hP hS ⊢
  have hP : va_P (dC, dI) vwCl [oM ad xM_typed xM_people xM_posted xM_hears xM_censuses xM_finding, ar (ad 27) cB 4 gMisThere, ar (ad 28) cA 4 gMforms, ar (ad 29) cA 4 gMsizes, ar (ad 30) cA 240 gMitems] H := hP
  have hD : va_D A [oM ad xM_typed xM_people xM_posted xM_hears xM_censuses xM_finding, ar (ad 27) cB 4 gMisThere, ar (ad 28) cA 4 gMforms, ar (ad 29) cA 4 gMsizes, ar (ad 30) cA 240 gMitems] := hD
  have hw := hw.symm
  subst hw
  refine lv_if_eq (tgt := 16) hx hb dX10_get_4 (by decide) (fun c_2 => ?_) (fun c_2 => ?_)
  · have hm := it_pos c_2 hm
    exact b_16 _ hm _ _ hP hD hS _ (lv_sub hl [] rfl)
  · have hm := it_neg c_2 hm
    refine lv_iload_n hx hb dX10_get_7 rfl (lv_at hl 2 rfl) ?_
    refine lv_iconst (v := 0) hx hb dX10_get_8 (by decide) ?_
    refine lv_iconst (v := 2) hx hb dX10_get_9 (by decide) ?_
    have hPc := hP.sub (ws' := []) [] rfl
    have hDc := hD.sub (ws' := []) [] (by decide) rfl
    have hFc := va_free (wc := []) hD hS hA [] rfl
    obtain ⟨u_3, hc_3, hm⟩ := bd_ok hm
    refine va_calli (va_runS (As := [.int a2, .int 0, .int 2]) (rest := []) ⟨hx, hb, hml, hown, hts⟩ (kM_in l dC dI cA cB ad H.size a2 0 2 u_3 hc_3) (va_cwS 3 hts gX10_get_X10_in rfl rfl rfl (by decide +kernel) ⟨Nat.le_of_ble_eq_true rfl, Nat.le_of_ble_eq_true rfl⟩) ⟨fun a U g mk q => by obtain ⟨q0, q1, qP, qK, qD⟩ := q; exact ⟨q0, q1, qP, va_K.moved (u := U) (U := U.calling g mk a) (Vm.Alike.refl U.vm) qK, qD⟩, fun U hU hW => ⟨rfl, by rw [hU], by rw [hU]; exact hPc, va_K.moved hW.alike hK, hDc.weaken (fun _ _ _ _ => trivial)⟩⟩ rfl rfl hl.1 rfl (lv_room (Nat.le_of_ble_eq_true rfl)) dX10_get_10 ⟨Nat.le_of_ble_eq_true rfl, Nat.le_of_ble_eq_true rfl⟩) hS (fun q _ h => hFc q h) hFc (fun r_3 _ t H1 locs ht hvm hw hB hz1 hk1 hS => ?_)
    obtain ⟨hP1, hK1, hD1⟩ := hB
    rw [ht] at hP1
    obtain ⟨hP, hD⟩ := va_join (wr := [oM ad xM_typed xM_people xM_posted xM_hears xM_censuses xM_finding, ar (ad 27) cB 4 gMisThere, ar (ad 28) cA 4 gMforms, ar (ad 29) cA 4 gMsizes, ar (ad 30) cA 240 gMitems]) (w1 := []) hP hD [] [0, 1, 2, 3, 4] rfl rfl (by decide) (by decide) hk1 hFc hP1 hD1
    clear hPc hDc hFc hP1 hK1 hD1 hk1 hz1 hvm ht
    generalize H1 = H at hP hS ⊢
    have hP : va_P (dC, dI) vwCl [oM ad xM_typed xM_people xM_posted xM_hears xM_censuses xM_finding, ar (ad 27) cB 4 gMisThere, ar (ad 28) cA 4 gMforms, ar (ad 29) cA 4 gMsizes, ar (ad 30) cA 240 gMitems] H := hP
    have hD : va_D A [oM ad xM_typed xM_people xM_posted xM_hears xM_censuses xM_finding, ar (ad 27) cB 4 gMisThere, ar (ad 28) cA 4 gMforms, ar (ad 29) cA 4 gMsizes, ar (ad 30) cA 240 gMitems] := hD
    have hw := hw.symm
    subst hw
    refine lv_if_ne (tgt := 20) hx hb dX10_get_13 (by decide) (fun c_4 => ?_) (fun c_4 => ?_)
    · have hm := it_neg c_4 hm
      refine lv_aload_n hx hb dX10_get_20 rfl (lv_at hl 0 rfl) ?_
      refine lv_iload_n hx hb dX10_get_21 rfl (lv_at hl 1 rfl) ?_
      refine lv_iload_n hx hb dX10_get_22 rfl (lv_at hl 2 rfl) ?_
      refine lv_iload_n hx hb dX10_get_23 rfl (lv_at hl 3 rfl) ?_
      have hPc := hP.sub (ws' := [oM ad xM_typed xM_people xM_posted xM_hears xM_censuses xM_finding, ar (ad 27) cB 4 gMisThere, ar (ad 28) cA 4 gMforms, ar (ad 29) cA 4 gMsizes]) [0, 1, 2, 3] rfl
      have hDc := hD.sub (ws' := [oM ad xM_typed xM_people xM_posted xM_hears xM_censuses xM_finding, ar (ad 27) cB 4 gMisThere, ar (ad 28) cA 4 gMforms, ar (ad 29) cA 4 gMsizes]) [0, 1, 2, 3] (by decide) rfl
      have hFc := va_free (wc := [oM ad xM_typed xM_people xM_posted xM_hears xM_censuses xM_finding, ar (ad 27) cB 4 gMisThere, ar (ad 28) cA 4 gMforms, ar (ad 29) cA 4 gMsizes]) hD hS hA [0, 1, 2, 3] rfl
      obtain ⟨u_5, hc_5, hm⟩ := bd_ok hm
      refine va_calli (va_runV (As := [.int a1, .int a2, .int a3]) (rest := []) ⟨hx, hb, hml, hown, hts⟩ (kM_lacks l dC dI cA cB ad H.size a1 a2 a3 xM_typed xM_people xM_posted xM_hears xM_censuses xM_finding gMisThere gMforms gMsizes u_5 hc_5) (cwV 3 hts gX10_get_X10_lacks rfl rfl rfl (by decide +kernel) ⟨Nat.le_of_ble_eq_true rfl, Nat.le_of_ble_eq_true rfl⟩) ⟨fun a U g mk q => by obtain ⟨q0, q1, qP, qK, qD⟩ := q; exact ⟨q0, q1, qP, va_K.moved (u := U) (U := U.calling g mk a) (Vm.Alike.refl U.vm) qK, qD⟩, va_recv hK hPc (ci := 10) (q0 := 0) rfl rfl, fun U hU hW => ⟨rfl, by rw [hU], by rw [hU]; exact hPc, va_K.moved hW.alike hK, hDc.weaken (fun _ _ _ _ => trivial)⟩⟩ rfl rfl hl.1 rfl (lv_room (Nat.le_of_ble_eq_true rfl)) dX10_get_24 ⟨Nat.le_of_ble_eq_true rfl, Nat.le_of_ble_eq_true rfl⟩) hS (fun q _ h => hFc q h) hFc (fun r_5 _ t H1 locs ht hvm hw hB hz1 hk1 hS => ?_)
      obtain ⟨hP1, hK1, hD1⟩ := hB
      rw [ht] at hP1
      obtain ⟨hP, hD⟩ := va_join (wr := [ar (ad 30) cA 240 gMitems]) (w1 := [oM ad xM_typed xM_people xM_posted xM_hears xM_censuses xM_finding, ar (ad 27) cB 4 gMisThere, ar (ad 28) cA 4 gMforms, ar (ad 29) cA 4 gMsizes]) hP hD [0, 1, 2, 3] [4] rfl rfl (by decide) (by decide) hk1 hFc hP1 hD1
      clear hPc hDc hFc hP1 hK1 hD1 hk1 hz1 hvm ht
      generalize H1 = H at hP hS ⊢
      have hP : va_P (dC, dI) vwCl [oM ad xM_typed xM_people xM_posted xM_hears xM_censuses xM_finding, ar (ad 27) cB 4 gMisThere, ar (ad 28) cA 4 gMforms, ar (ad 29) cA 4 gMsizes, ar (ad 30) cA 240 gMitems] H := hP.sub [1, 2, 3, 4, 0] rfl
      have hD : va_D A [oM ad xM_typed xM_people xM_posted xM_hears xM_censuses xM_finding, ar (ad 27) cB 4 gMisThere, ar (ad 28) cA 4 gMforms, ar (ad 29) cA 4 gMsizes, ar (ad 30) cA 240 gMitems] := hD.sub [1, 2, 3, 4, 0] (by decide) rfl
      have hw := hw.symm
      subst hw
      refine lv_istore (lv' := [(4, .int u_5), (0, .ref (ad 0)), (1, .int a1), (2, .int a2), (3, .int a3)]) hx hb dX10_get_27 hl (by decide) rfl (fun ls hl => ?_)
      refine lv_iload hx hb dX10_get_29 (lv_at hl 0 rfl) ?_
      refine lv_if_le (tgt := 44) hx hb dX10_get_31 (by decide) (fun c_6 => ?_) (fun c_6 => ?_)
      · have hm := it_pos c_6 hm
        refine lv_aload_n hx hb dX10_get_44 rfl (lv_at hl 1 rfl) ?_
        refine va_get (D := (dC, dI)) (ci := 10) (v := .ref (ad 30)) (C := RX10) (T := TX10) (N := 37) hx hb hts hinX10 hown hK hP 0 rfl rfl 34 (by decide) hl_98 (fun _ h9 => h9) rfl dX10_get_45 ?_
        refine lv_bipush (v := 60) hx hb dX10_get_48 (by decide) ?_
        refine lv_iload_n hx hb dX10_get_50 rfl (lv_at hl 2 rfl) ?_
        refine lv_imul hx hb dX10_get_51 ?_
        refine lv_iload_n hx hb dX10_get_52 rfl (lv_at hl 4 rfl) ?_
        refine lv_iadd hx hb dX10_get_53 ?_
        obtain ⟨i_7, hm⟩ := ck_ok hm
        refine va_iald hx hb hK hP 4 0 rfl rfl i_7 dX10_get_54 ?_
        obtain rfl := Option.some.inj hm
        subst hQ
        exact W.iret (v := (gMitems ((60 * a1) + a3).toNatClampNeg)) hx hb hr (fun t ht hW => ⟨⟨_, (), rfl, rfl, by rw [ht]; exact hP, va_K.moved hW.alike hK, hAe ▸ hD⟩, hS.F ht⟩) hS.2.2 dX10_get_55
      · have hm := it_neg c_6 hm
        refine lv_aload_n hx hb dX10_get_34 rfl (lv_at hl 1 rfl) ?_
        refine lv_iload hx hb dX10_get_35 (lv_at hl 0 rfl) ?_
        refine va_put (D := (dC, dI)) (ci := 10) (v := .int u_5) (ty := .int) (C := RX10) (T := TX10) (N := 37) hx hb hts hinX10 tyX10 tyX10_ok nmX10 hown hK hP hD hS 0 rfl rfl 36 (by decide) hl_267 (fun _ h9 => h9) rfl (by decide +kernel) rfl rfl (Nat.le_of_ble_eq_true rfl) dX10_get_37 (fun H locs hP hD hS => ?_)
        have hP : va_P (dC, dI) vwCl [oM ad xM_typed xM_people xM_posted xM_hears xM_censuses u_5, ar (ad 27) cB 4 gMisThere, ar (ad 28) cA 4 gMforms, ar (ad 29) cA 4 gMsizes, ar (ad 30) cA 240 gMitems] H := hP
        have hD : va_D A [oM ad xM_typed xM_people xM_posted xM_hears xM_censuses u_5, ar (ad 27) cB 4 gMisThere, ar (ad 28) cA 4 gMforms, ar (ad 29) cA 4 gMsizes, ar (ad 30) cA 240 gMitems] := hD
        refine lv_ldcw hx hb hown hw_0 dX10_get_40 ?_
        obtain rfl := Option.some.inj hm
        subst hQ
        exact W.iret (v := (-2147483648)) hx hb hr (fun t ht hW => ⟨⟨_, (), rfl, rfl, by rw [ht]; exact hP, va_K.moved hW.alike hK, hAe ▸ hD⟩, hS.F ht⟩) hS.2.2 dX10_get_43
    · have hm := it_pos c_4 hm
      exact b_16 _ hm _ _ hP hD hS _ (lv_sub hl [] rfl)

set_option maxHeartbeats 4000000 in
set_option maxRecDepth 100000 in
theorem kM_copy (l : Launch) (dC : Nat → ClassId) (dI : Nat → Nat → Nat) (cA : ClassId) (cB : ClassId) (ad : Nat → Nat) (sz : Nat) (a1 : Int32) (a2 : Int32) (a3 : Int32) (a4 : Int32) (a5 : Int32) (xM_typed : Int32) (xM_people : Int32) (xM_posted : Int32) (xM_hears : Int32) (xM_censuses : Int32) (xM_finding : Int32) (gMisThere : Nat → Int32) (gMforms : Nat → Int32) (gMsizes : Nat → Int32) (gMitems : Nat → Int32) (gMmoved : Nat → Int32) (u : Int32 × Int32 × (Nat → Int32) × (Nat → Int32)) (hm : fM_copy a1 a2 a3 a4 a5 xM_finding gMisThere gMforms gMsizes gMitems gMmoved = some u) : Met l yX10_copy wsX10_copy ({ frames := 2, cells := 0, slots := 0, locals := 42 }) (va_Pc [.ref (ad 0), .int a1, .int a2, .int a3, .int a4, .int a5] (fun U => U.heap.size = sz ∧ va_P (dC, dI) vwCl [oM ad xM_typed xM_people xM_posted xM_hears xM_censuses xM_finding, ar (ad 27) cB 4 gMisThere, ar (ad 28) cA 4 gMforms, ar (ad 29) cA 4 gMsizes, ar (ad 30) cA 240 gMitems, ar (ad 31) cA 60 gMmoved] U.heap ∧ va_K (dC, dI) vwCl [(cA, .int), (cB, .boolean)] U ∧ va_D (fun _ => True) [oM ad xM_typed xM_people xM_posted xM_hears xM_censuses xM_finding, ar (ad 27) cB 4 gMisThere, ar (ad 28) cA 4 gMforms, ar (ad 29) cA 4 gMsizes, ar (ad 30) cA 240 gMitems, ar (ad 31) cA 60 gMmoved])) (va_Qi (fun (r : Int32) (_ : Unit) => r = u.1) (fun (_ : Unit) t => va_P (dC, dI) vwCl [oM ad xM_typed xM_people xM_posted xM_hears xM_censuses u.2.1, ar (ad 27) cB 4 gMisThere, ar (ad 28) cA 4 gMforms, ar (ad 29) cA 4 gMsizes, ar (ad 30) cA 240 u.2.2.1, ar (ad 31) cA 60 u.2.2.2] t.heap ∧ va_K (dC, dI) vwCl [(cA, .int), (cB, .boolean)] t ∧ va_D (va_A [oM ad xM_typed xM_people xM_posted xM_hears xM_censuses xM_finding, ar (ad 27) cB 4 gMisThere, ar (ad 28) cA 4 gMforms, ar (ad 29) cA 4 gMsizes, ar (ad 30) cA 240 gMitems, ar (ad 31) cA 60 gMmoved] sz) [oM ad xM_typed xM_people xM_posted xM_hears xM_censuses u.2.1, ar (ad 27) cB 4 gMisThere, ar (ad 28) cA 4 gMforms, ar (ad 29) cA 4 gMsizes, ar (ad 30) cA 240 u.2.2.1, ar (ad 31) cA 60 u.2.2.2]) (va_A [oM ad xM_typed xM_people xM_posted xM_hears xM_censuses xM_finding, ar (ad 27) cB 4 gMisThere, ar (ad 28) cA 4 gMforms, ar (ad 29) cA 4 gMsizes, ar (ad 30) cA 240 gMitems, ar (ad 31) cA 60 gMmoved] sz)) 0 0 (va_A [oM ad xM_typed xM_people xM_posted xM_hears xM_censuses xM_finding, ar (ad 27) cB 4 gMisThere, ar (ad 28) cA 4 gMforms, ar (ad 29) cA 4 gMsizes, ar (ad 30) cA 240 gMitems, ar (ad 31) cA 60 gMmoved] sz) := by
  refine Met.ofW (cc := cX10_copy) (maxL := 7) (ret := (some .int)) (by decide) rfl ?_
  intro p e s m args below meth c s₁ B hml hv
  obtain ⟨rfl, hsz, hP, hK, hD0⟩ := hv
  have hx := B.exec
  have hb := B.bytes
  have hr := B.returns
  have hts := atoms_spec (ws := wsX10_copy) B.pre
  have hown : s.vm.findClass RX10 = some m.cls := findClass_of_methodNamed B.named
  have hlocks := B.notSynchronized
  subst hsz
  have hD := hD0.self (sz := s.heap.size)
  generalize hAe : va_A [oM ad xM_typed xM_people xM_posted xM_hears xM_censuses xM_finding, ar (ad 27) cB 4 gMisThere, ar (ad 28) cA 4 gMforms, ar (ad 29) cA 4 gMsizes, ar (ad 30) cA 240 gMitems, ar (ad 31) cA 60 gMmoved] s.heap.size = A at hD ⊢
  have hA : ∀ q : Nat, s.heap.size ≤ q → A q := fun q h => by rw [← hAe]; exact Or.inr h
  have hS : va_S A s.heap s.heap [] := va_S.rf
  have hl := lv_entry ([.ref (ad 0), .int a1, .int a2, .int a3, .int a4, .int a5]) (n := 7) (Nat.le_of_ble_eq_true rfl)
  rw [lg_entry_eq]
  generalize (lg_sl ([.ref (ad 0), .int a1, .int a2, .int a3, .int a4, .int a5]) ++ List.replicate (7 - (lg_sl ([.ref (ad 0), .int a1, .int a2, .int a3, .int a4, .int a5])).length) Slot.unset).toArray = ls at hl ⊢
  have hl : lv_has ls 7 [(0, .ref (ad 0)), (1, .int a1), (2, .int a2), (3, .int a3), (4, .int a4), (5, .int a5)] := hl
  refine wk_Q (fun QQ hQ => ?_)
  have hinX10 : ∀ w ∈ wsX100, w ∈ wsX10_copy := fun w h => List.mem_cons_of_mem _ (inlX10 w h)
  have hl_98 := hts (.fieldLink RX10 98 "HandCensusModel" "items" "[I") (List.mem_cons_of_mem _ (in_r8 _ (List.mem_of_getElem? (i := 1) rfl)))
  have hl_101 := hts (.fieldLink RX10 101 "HandCensusModel" "moved" "[I") (List.mem_cons_of_mem _ (in_r8 _ (List.mem_of_getElem? (i := 2) rfl)))
  have hl_88 := hts (.fieldLink RX10 88 "HandCensusModel" "isThere" "[Z") (List.mem_cons_of_mem _ (in_r7 _ (List.mem_of_getElem? (i := 22) rfl)))
  have hl_92 := hts (.fieldLink RX10 92 "HandCensusModel" "forms" "[I") (List.mem_cons_of_mem _ (in_r7 _ (List.mem_of_getElem? (i := 23) rfl)))
  have hl_95 := hts (.fieldLink RX10 95 "HandCensusModel" "sizes" "[I") (List.mem_cons_of_mem _ (in_r8 _ (List.mem_of_getElem? (i := 0) rfl)))
  have h_157 : ∀ (v3_157 : Int32) (v4_157 : Int32) (v5_157 : Int32) (xM_finding_157 : Int32) (gMmoved_157 : Nat → Int32), ∀ (n_157 : Nat), ∀ (v6_157 : Int32) (gMitems_157 : Nat → Int32), fM_copy_157 v3_157 v4_157 v5_157 xM_finding_157 gMmoved_157 n_157 v6_157 gMitems_157 = some u → ∀ (H : Heap) (locs : List Loc), va_P (dC, dI) vwCl [oM ad xM_typed xM_people xM_posted xM_hears xM_censuses xM_finding_157, ar (ad 27) cB 4 gMisThere, ar (ad 28) cA 4 gMforms, ar (ad 29) cA 4 gMsizes, ar (ad 30) cA 240 gMitems_157, ar (ad 31) cA 60 gMmoved_157] H → va_D A [oM ad xM_typed xM_people xM_posted xM_hears xM_censuses xM_finding_157, ar (ad 27) cB 4 gMisThere, ar (ad 28) cA 4 gMforms, ar (ad 29) cA 4 gMsizes, ar (ad 30) cA 240 gMitems_157, ar (ad 31) cA 60 gMmoved_157] → va_S A s.heap H locs → ∀ ls : Array Slot, lv_has ls 7 [(0, .ref (ad 0)), (3, .int v3_157), (4, .int v4_157), (5, .int v5_157), (6, .int v6_157)] → W p l e (headSpec wsX10_copy ({ frames := 2, cells := 0, slots := 0, locals := 42 })).room s m ([.ref (ad 0), .int a1, .int a2, .int a3, .int a4, .int a5] : List Value).toArray below meth c H locs 0 0 QQ (F0 m 157 ls []) := by
    intro v3_157 v4_157 v5_157 xM_finding_157 gMmoved_157
    intro n_157
    induction n_157 with
    | zero => intro v6_157 gMitems_157 hm; have hm : (none : Option (Int32 × Int32 × (Nat → Int32) × (Nat → Int32))) = some u := hm; cases hm
    | succ n_157 ih_157 =>
      intro v6_157 gMitems_157 hm H locs hP hD hS ls hl
      have hm : fM_copy_157_b  (fM_copy_157  v3_157 v4_157 v5_157 xM_finding_157 gMmoved_157 n_157) v3_157 v4_157 v5_157 xM_finding_157 gMmoved_157 v6_157 gMitems_157 = some u := hm
      unfold fM_copy_157_b at hm
      refine lv_iload hx hb dX10_copy_157 (lv_at hl 4 rfl) ?_
      refine lv_iload hx hb dX10_copy_159 (lv_at hl 3 rfl) ?_
      refine lv_icmp_ge (tgt := 192) hx hb dX10_copy_161 (by decide) (fun c_1 => ?_) (fun c_1 => ?_)
      · have hm := it_pos c_1 hm
        refine lv_iconst (v := 1) hx hb dX10_copy_192 (by decide) ?_
        obtain rfl := Option.some.inj hm
        subst hQ
        exact W.iret (v := 1) hx hb hr (fun t ht hW => ⟨⟨_, (), rfl, rfl, by rw [ht]; exact hP, va_K.moved hW.alike hK, hAe ▸ hD⟩, hS.F ht⟩) hS.2.2 dX10_copy_193
      · have hm := it_neg c_1 hm
        refine lv_aload_n hx hb dX10_copy_164 rfl (lv_at hl 0 rfl) ?_
        refine va_get (D := (dC, dI)) (ci := 10) (v := .ref (ad 30)) (C := RX10) (T := TX10) (N := 37) hx hb hts hinX10 hown hK hP 0 rfl rfl 34 (by decide) hl_98 (fun _ h9 => h9) rfl dX10_copy_165 ?_
        refine lv_bipush (v := 60) hx hb dX10_copy_168 (by decide) ?_
        refine lv_iload_n hx hb dX10_copy_170 rfl (lv_at hl 1 rfl) ?_
        refine lv_imul hx hb dX10_copy_171 ?_
        refine lv_iload hx hb dX10_copy_172 (lv_at hl 2 rfl) ?_
        refine lv_iadd hx hb dX10_copy_174 ?_
        refine lv_iload hx hb dX10_copy_175 (lv_at hl 4 rfl) ?_
        refine lv_iadd hx hb dX10_copy_177 ?_
        refine lv_aload_n hx hb dX10_copy_178 rfl (lv_at hl 0 rfl) ?_
        refine va_get (D := (dC, dI)) (ci := 10) (v := .ref (ad 31)) (C := RX10) (T := TX10) (N := 37) hx hb hts hinX10 hown hK hP 0 rfl rfl 35 (by decide) hl_101 (fun _ h9 => h9) rfl dX10_copy_179 ?_
        refine lv_iload hx hb dX10_copy_182 (lv_at hl 4 rfl) ?_
        obtain ⟨i_2, hm⟩ := ck_ok hm
        refine va_iald hx hb hK hP 5 0 rfl rfl i_2 dX10_copy_184 ?_
        obtain ⟨i_3, hm⟩ := ck_ok hm
        refine va_iast hx hb hK hP hD hS 4 0 rfl rfl i_3 dX10_copy_185 (fun H locs hP hD hS => ?_)
        have hP : va_P (dC, dI) vwCl [oM ad xM_typed xM_people xM_posted xM_hears xM_censuses xM_finding_157, ar (ad 27) cB 4 gMisThere, ar (ad 28) cA 4 gMforms, ar (ad 29) cA 4 gMsizes, ar (ad 30) cA 240 (upd gMitems_157 (((60 * v3_157) + v4_157) + v6_157).toNatClampNeg (gMmoved_157 v6_157.toNatClampNeg)), ar (ad 31) cA 60 gMmoved_157] H := hP
        have hD : va_D A [oM ad xM_typed xM_people xM_posted xM_hears xM_censuses xM_finding_157, ar (ad 27) cB 4 gMisThere, ar (ad 28) cA 4 gMforms, ar (ad 29) cA 4 gMsizes, ar (ad 30) cA 240 (upd gMitems_157 (((60 * v3_157) + v4_157) + v6_157).toNatClampNeg (gMmoved_157 v6_157.toNatClampNeg)), ar (ad 31) cA 60 gMmoved_157] := hD
        refine lv_iinc (v := (v6_157 + 1)) (lv' := [(6, .int (v6_157 + 1)), (0, .ref (ad 0)), (3, .int v3_157), (4, .int v4_157), (5, .int v5_157)]) hx hb dX10_copy_186 hl (k := 4) rfl rfl (by decide) rfl (fun ls hl => ?_)
        refine lv_goto (tgt := 157) hx hb dX10_copy_189 (by decide) ?_
        exact ih_157 _ _ hm _ _ hP hD hS _ (lv_sub hl [1, 2, 3, 4, 0] rfl)
  have h_120 : ∀ (v1_120 : Int32) (v2_120 : Int32) (v3_120 : Int32) (v4_120 : Int32) (v5_120 : Int32) (xM_finding_120 : Int32) (gMitems_120 : Nat → Int32), ∀ (n_120 : Nat), ∀ (v6_120 : Int32) (gMmoved_120 : Nat → Int32), fM_copy_120 v1_120 v2_120 v3_120 v4_120 v5_120 xM_finding_120 gMitems_120 n_120 v6_120 gMmoved_120 = some u → ∀ (H : Heap) (locs : List Loc), va_P (dC, dI) vwCl [oM ad xM_typed xM_people xM_posted xM_hears xM_censuses xM_finding_120, ar (ad 27) cB 4 gMisThere, ar (ad 28) cA 4 gMforms, ar (ad 29) cA 4 gMsizes, ar (ad 30) cA 240 gMitems_120, ar (ad 31) cA 60 gMmoved_120] H → va_D A [oM ad xM_typed xM_people xM_posted xM_hears xM_censuses xM_finding_120, ar (ad 27) cB 4 gMisThere, ar (ad 28) cA 4 gMforms, ar (ad 29) cA 4 gMsizes, ar (ad 30) cA 240 gMitems_120, ar (ad 31) cA 60 gMmoved_120] → va_S A s.heap H locs → ∀ ls : Array Slot, lv_has ls 7 [(0, .ref (ad 0)), (1, .int v1_120), (2, .int v2_120), (3, .int v3_120), (4, .int v4_120), (5, .int v5_120), (6, .int v6_120)] → W p l e (headSpec wsX10_copy ({ frames := 2, cells := 0, slots := 0, locals := 42 })).room s m ([.ref (ad 0), .int a1, .int a2, .int a3, .int a4, .int a5] : List Value).toArray below meth c H locs 0 0 QQ (F0 m 120 ls []) := by
    intro v1_120 v2_120 v3_120 v4_120 v5_120 xM_finding_120 gMitems_120
    intro n_120
    induction n_120 with
    | zero => intro v6_120 gMmoved_120 hm; have hm : (none : Option (Int32 × Int32 × (Nat → Int32) × (Nat → Int32))) = some u := hm; cases hm
    | succ n_120 ih_120 =>
      intro v6_120 gMmoved_120 hm H locs hP hD hS ls hl
      have hm : fM_copy_120_b  (fM_copy_120  v1_120 v2_120 v3_120 v4_120 v5_120 xM_finding_120 gMitems_120 n_120) v1_120 v2_120 v3_120 v4_120 v5_120 xM_finding_120 gMitems_120 v6_120 gMmoved_120 = some u := hm
      unfold fM_copy_120_b at hm
      refine lv_iload hx hb dX10_copy_120 (lv_at hl 6 rfl) ?_
      refine lv_iload hx hb dX10_copy_122 (lv_at hl 5 rfl) ?_
      refine lv_icmp_ge (tgt := 154) hx hb dX10_copy_124 (by decide) (fun c_4 => ?_) (fun c_4 => ?_)
      · have hm := it_pos c_4 hm
        refine lv_iconst (v := 0) hx hb dX10_copy_154 (by decide) ?_
        refine lv_istore (lv' := [(6, .int 0), (0, .ref (ad 0)), (1, .int v1_120), (2, .int v2_120), (3, .int v3_120), (4, .int v4_120), (5, .int v5_120)]) hx hb dX10_copy_155 hl (by decide) rfl (fun ls hl => ?_)
        exact h_157 _ _ _ _ _ _ _ _ hm _ _ hP hD hS _ (lv_sub hl [1, 4, 5, 6, 0] rfl)
      · have hm := it_neg c_4 hm
        refine lv_aload_n hx hb dX10_copy_127 rfl (lv_at hl 0 rfl) ?_
        refine va_get (D := (dC, dI)) (ci := 10) (v := .ref (ad 31)) (C := RX10) (T := TX10) (N := 37) hx hb hts hinX10 hown hK hP 0 rfl rfl 35 (by decide) hl_101 (fun _ h9 => h9) rfl dX10_copy_128 ?_
        refine lv_iload hx hb dX10_copy_131 (lv_at hl 6 rfl) ?_
        refine lv_aload_n hx hb dX10_copy_133 rfl (lv_at hl 0 rfl) ?_
        refine va_get (D := (dC, dI)) (ci := 10) (v := .ref (ad 30)) (C := RX10) (T := TX10) (N := 37) hx hb hts hinX10 hown hK hP 0 rfl rfl 34 (by decide) hl_98 (fun _ h9 => h9) rfl dX10_copy_134 ?_
        refine lv_bipush (v := 60) hx hb dX10_copy_137 (by decide) ?_
        refine lv_iload_n hx hb dX10_copy_139 rfl (lv_at hl 1 rfl) ?_
        refine lv_imul hx hb dX10_copy_140 ?_
        refine lv_iload_n hx hb dX10_copy_141 rfl (lv_at hl 2 rfl) ?_
        refine lv_iadd hx hb dX10_copy_142 ?_
        refine lv_iload hx hb dX10_copy_143 (lv_at hl 6 rfl) ?_
        refine lv_iadd hx hb dX10_copy_145 ?_
        obtain ⟨i_5, hm⟩ := ck_ok hm
        refine va_iald hx hb hK hP 4 0 rfl rfl i_5 dX10_copy_146 ?_
        obtain ⟨i_6, hm⟩ := ck_ok hm
        refine va_iast hx hb hK hP hD hS 5 0 rfl rfl i_6 dX10_copy_147 (fun H locs hP hD hS => ?_)
        have hP : va_P (dC, dI) vwCl [oM ad xM_typed xM_people xM_posted xM_hears xM_censuses xM_finding_120, ar (ad 27) cB 4 gMisThere, ar (ad 28) cA 4 gMforms, ar (ad 29) cA 4 gMsizes, ar (ad 30) cA 240 gMitems_120, ar (ad 31) cA 60 (upd gMmoved_120 v6_120.toNatClampNeg (gMitems_120 (((60 * v1_120) + v2_120) + v6_120).toNatClampNeg))] H := hP
        have hD : va_D A [oM ad xM_typed xM_people xM_posted xM_hears xM_censuses xM_finding_120, ar (ad 27) cB 4 gMisThere, ar (ad 28) cA 4 gMforms, ar (ad 29) cA 4 gMsizes, ar (ad 30) cA 240 gMitems_120, ar (ad 31) cA 60 (upd gMmoved_120 v6_120.toNatClampNeg (gMitems_120 (((60 * v1_120) + v2_120) + v6_120).toNatClampNeg))] := hD
        refine lv_iinc (v := (v6_120 + 1)) (lv' := [(6, .int (v6_120 + 1)), (0, .ref (ad 0)), (1, .int v1_120), (2, .int v2_120), (3, .int v3_120), (4, .int v4_120), (5, .int v5_120)]) hx hb dX10_copy_148 hl (k := 6) rfl rfl (by decide) rfl (fun ls hl => ?_)
        refine lv_goto (tgt := 120) hx hb dX10_copy_151 (by decide) ?_
        exact ih_120 _ _ hm _ _ hP hD hS _ (lv_sub hl [1, 2, 3, 4, 5, 6, 0] rfl)
  have b_111 : ∀ (xM_finding_111 : Int32) (gMitems_111 : Nat → Int32) (gMmoved_111 : Nat → Int32), fM_copy_111 xM_finding_111 gMitems_111 gMmoved_111 = some u → ∀ (H : Heap) (locs : List Loc), va_P (dC, dI) vwCl [oM ad xM_typed xM_people xM_posted xM_hears xM_censuses xM_finding_111, ar (ad 27) cB 4 gMisThere, ar (ad 28) cA 4 gMforms, ar (ad 29) cA 4 gMsizes, ar (ad 30) cA 240 gMitems_111, ar (ad 31) cA 60 gMmoved_111] H → va_D A [oM ad xM_typed xM_people xM_posted xM_hears xM_censuses xM_finding_111, ar (ad 27) cB 4 gMisThere, ar (ad 28) cA 4 gMforms, ar (ad 29) cA 4 gMsizes, ar (ad 30) cA 240 gMitems_111, ar (ad 31) cA 60 gMmoved_111] → va_S A s.heap H locs → ∀ ls : Array Slot, lv_has ls 7 [(0, .ref (ad 0))] → W p l e (headSpec wsX10_copy ({ frames := 2, cells := 0, slots := 0, locals := 42 })).room s m ([.ref (ad 0), .int a1, .int a2, .int a3, .int a4, .int a5] : List Value).toArray below meth c H locs 0 0 QQ (F0 m 111 ls []) := by
    intro xM_finding_111 gMitems_111 gMmoved_111 hm H locs hP hD hS ls hl
    unfold fM_copy_111 at hm
    refine lv_aload_n hx hb dX10_copy_111 rfl (lv_at hl 0 rfl) ?_
    refine lv_iconst (v := 2) hx hb dX10_copy_112 (by decide) ?_
    have hPc := hP.sub (ws' := [oM ad xM_typed xM_people xM_posted xM_hears xM_censuses xM_finding_111]) [0] rfl
    have hDc := hD.sub (ws' := [oM ad xM_typed xM_people xM_posted xM_hears xM_censuses xM_finding_111]) [0] (by decide) rfl
    have hFc := va_free (wc := [oM ad xM_typed xM_people xM_posted xM_hears xM_censuses xM_finding_111]) hD hS hA [0] rfl
    obtain ⟨u_7, hc_7, hm⟩ := bd_ok hm
    refine va_calli (va_runV (As := [.int 2]) (rest := []) ⟨hx, hb, hml, hown, hts⟩ (kM_meets l dC dI cA cB ad H.size 2 xM_typed xM_people xM_posted xM_hears xM_censuses xM_finding_111 u_7 hc_7) (cwV 1 hts gX10_copy_X10_meets rfl rfl rfl (by decide +kernel) ⟨Nat.le_of_ble_eq_true rfl, Nat.le_of_ble_eq_true rfl⟩) ⟨fun a U g mk q => by obtain ⟨q0, q1, qP, qK, qD⟩ := q; exact ⟨q0, q1, qP, va_K.moved (u := U) (U := U.calling g mk a) (Vm.Alike.refl U.vm) qK, qD⟩, va_recv hK hPc (ci := 10) (q0 := 0) rfl rfl, fun U hU hW => ⟨rfl, by rw [hU], by rw [hU]; exact hPc, va_K.moved hW.alike hK, hDc.weaken (fun _ _ _ _ => trivial)⟩⟩ rfl rfl hl.1 rfl (lv_room (Nat.le_of_ble_eq_true rfl)) dX10_copy_113 ⟨Nat.le_of_ble_eq_true rfl, Nat.le_of_ble_eq_true rfl⟩) hS (fun q _ h => hFc q h) hFc (fun r_7 _ t H1 locs ht hvm hw hB hz1 hk1 hS => ?_)
    obtain ⟨hP1, hK1, hD1⟩ := hB
    rw [ht] at hP1
    obtain ⟨hP, hD⟩ := va_join (wr := [ar (ad 27) cB 4 gMisThere, ar (ad 28) cA 4 gMforms, ar (ad 29) cA 4 gMsizes, ar (ad 30) cA 240 gMitems_111, ar (ad 31) cA 60 gMmoved_111]) (w1 := [oM ad xM_typed xM_people xM_posted xM_hears xM_censuses u_7.2]) hP hD [0] [1, 2, 3, 4, 5] rfl rfl (by decide) (by decide) hk1 hFc hP1 hD1
    clear hPc hDc hFc hP1 hK1 hD1 hk1 hz1 hvm ht
    generalize H1 = H at hP hS ⊢
    have hP : va_P (dC, dI) vwCl [oM ad xM_typed xM_people xM_posted xM_hears xM_censuses u_7.2, ar (ad 27) cB 4 gMisThere, ar (ad 28) cA 4 gMforms, ar (ad 29) cA 4 gMsizes, ar (ad 30) cA 240 gMitems_111, ar (ad 31) cA 60 gMmoved_111] H := hP.sub [5, 0, 1, 2, 3, 4] rfl
    have hD : va_D A [oM ad xM_typed xM_people xM_posted xM_hears xM_censuses u_7.2, ar (ad 27) cB 4 gMisThere, ar (ad 28) cA 4 gMforms, ar (ad 29) cA 4 gMsizes, ar (ad 30) cA 240 gMitems_111, ar (ad 31) cA 60 gMmoved_111] := hD.sub [5, 0, 1, 2, 3, 4] (by decide) rfl
    have hw := hw.symm
    subst hw
    obtain rfl := Option.some.inj hm
    subst hQ
    exact W.iret (v := u_7.1) hx hb hr (fun t ht hW => ⟨⟨_, (), rfl, rfl, by rw [ht]; exact hP, va_K.moved hW.alike hK, hAe ▸ hD⟩, hS.F ht⟩) hS.2.2 dX10_copy_116
  have b_35 : ∀ (xM_finding_35 : Int32) (gMitems_35 : Nat → Int32) (gMmoved_35 : Nat → Int32), fM_copy_35 xM_finding_35 gMitems_35 gMmoved_35 = some u → ∀ (H : Heap) (locs : List Loc), va_P (dC, dI) vwCl [oM ad xM_typed xM_people xM_posted xM_hears xM_censuses xM_finding_35, ar (ad 27) cB 4 gMisThere, ar (ad 28) cA 4 gMforms, ar (ad 29) cA 4 gMsizes, ar (ad 30) cA 240 gMitems_35, ar (ad 31) cA 60 gMmoved_35] H → va_D A [oM ad xM_typed xM_people xM_posted xM_hears xM_censuses xM_finding_35, ar (ad 27) cB 4 gMisThere, ar (ad 28) cA 4 gMforms, ar (ad 29) cA 4 gMsizes, ar (ad 30) cA 240 gMitems_35, ar (ad 31) cA 60 gMmoved_35] → va_S A s.heap H locs → ∀ ls : Array Slot, lv_has ls 7 [(0, .ref (ad 0))] → W p l e (headSpec wsX10_copy ({ frames := 2, cells := 0, slots := 0, locals := 42 })).room s m ([.ref (ad 0), .int a1, .int a2, .int a3, .int a4, .int a5] : List Value).toArray below meth c H locs 0 0 QQ (F0 m 35 ls []) := by
    intro xM_finding_35 gMitems_35 gMmoved_35 hm H locs hP hD hS ls hl
    unfold fM_copy_35 at hm
    refine lv_aload_n hx hb dX10_copy_35 rfl (lv_at hl 0 rfl) ?_
    refine lv_iconst (v := 1) hx hb dX10_copy_36 (by decide) ?_
    have hPc := hP.sub (ws' := [oM ad xM_typed xM_people xM_posted xM_hears xM_censuses xM_finding_35]) [0] rfl
    have hDc := hD.sub (ws' := [oM ad xM_typed xM_people xM_posted xM_hears xM_censuses xM_finding_35]) [0] (by decide) rfl
    have hFc := va_free (wc := [oM ad xM_typed xM_people xM_posted xM_hears xM_censuses xM_finding_35]) hD hS hA [0] rfl
    obtain ⟨u_8, hc_8, hm⟩ := bd_ok hm
    refine va_calli (va_runV (As := [.int 1]) (rest := []) ⟨hx, hb, hml, hown, hts⟩ (kM_meets l dC dI cA cB ad H.size 1 xM_typed xM_people xM_posted xM_hears xM_censuses xM_finding_35 u_8 hc_8) (cwV 1 hts gX10_copy_X10_meets rfl rfl rfl (by decide +kernel) ⟨Nat.le_of_ble_eq_true rfl, Nat.le_of_ble_eq_true rfl⟩) ⟨fun a U g mk q => by obtain ⟨q0, q1, qP, qK, qD⟩ := q; exact ⟨q0, q1, qP, va_K.moved (u := U) (U := U.calling g mk a) (Vm.Alike.refl U.vm) qK, qD⟩, va_recv hK hPc (ci := 10) (q0 := 0) rfl rfl, fun U hU hW => ⟨rfl, by rw [hU], by rw [hU]; exact hPc, va_K.moved hW.alike hK, hDc.weaken (fun _ _ _ _ => trivial)⟩⟩ rfl rfl hl.1 rfl (lv_room (Nat.le_of_ble_eq_true rfl)) dX10_copy_37 ⟨Nat.le_of_ble_eq_true rfl, Nat.le_of_ble_eq_true rfl⟩) hS (fun q _ h => hFc q h) hFc (fun r_8 _ t H1 locs ht hvm hw hB hz1 hk1 hS => ?_)
    obtain ⟨hP1, hK1, hD1⟩ := hB
    rw [ht] at hP1
    obtain ⟨hP, hD⟩ := va_join (wr := [ar (ad 27) cB 4 gMisThere, ar (ad 28) cA 4 gMforms, ar (ad 29) cA 4 gMsizes, ar (ad 30) cA 240 gMitems_35, ar (ad 31) cA 60 gMmoved_35]) (w1 := [oM ad xM_typed xM_people xM_posted xM_hears xM_censuses u_8.2]) hP hD [0] [1, 2, 3, 4, 5] rfl rfl (by decide) (by decide) hk1 hFc hP1 hD1
    clear hPc hDc hFc hP1 hK1 hD1 hk1 hz1 hvm ht
    generalize H1 = H at hP hS ⊢
    have hP : va_P (dC, dI) vwCl [oM ad xM_typed xM_people xM_posted xM_hears xM_censuses u_8.2, ar (ad 27) cB 4 gMisThere, ar (ad 28) cA 4 gMforms, ar (ad 29) cA 4 gMsizes, ar (ad 30) cA 240 gMitems_35, ar (ad 31) cA 60 gMmoved_35] H := hP.sub [5, 0, 1, 2, 3, 4] rfl
    have hD : va_D A [oM ad xM_typed xM_people xM_posted xM_hears xM_censuses u_8.2, ar (ad 27) cB 4 gMisThere, ar (ad 28) cA 4 gMforms, ar (ad 29) cA 4 gMsizes, ar (ad 30) cA 240 gMitems_35, ar (ad 31) cA 60 gMmoved_35] := hD.sub [5, 0, 1, 2, 3, 4] (by decide) rfl
    have hw := hw.symm
    subst hw
    obtain rfl := Option.some.inj hm
    subst hQ
    exact W.iret (v := u_8.1) hx hb hr (fun t ht hW => ⟨⟨_, (), rfl, rfl, by rw [ht]; exact hP, va_K.moved hW.alike hK, hAe ▸ hD⟩, hS.F ht⟩) hS.2.2 dX10_copy_40
  unfold fM_copy at hm
  refine lv_iload_n hx hb dX10_copy_0 rfl (lv_at hl 1 rfl) ?_
  have hPc := hP.sub (ws' := []) [] rfl
  have hDc := hD.sub (ws' := []) [] (by decide) rfl
  have hFc := va_free (wc := []) hD hS hA [] rfl
  obtain ⟨u_9, hc_9, hm⟩ := bd_ok hm
  refine va_calli (va_runS (As := [.int a1]) (rest := []) ⟨hx, hb, hml, hown, hts⟩ (kM_isSheet l dC dI cA cB ad s.heap.size a1 u_9 hc_9) (va_cwS 1 hts gX10_copy_X10_isSheet rfl rfl rfl (by decide +kernel) ⟨Nat.le_of_ble_eq_true rfl, Nat.le_of_ble_eq_true rfl⟩) ⟨fun a U g mk q => by obtain ⟨q0, q1, qP, qK, qD⟩ := q; exact ⟨q0, q1, qP, va_K.moved (u := U) (U := U.calling g mk a) (Vm.Alike.refl U.vm) qK, qD⟩, fun U hU hW => ⟨rfl, by rw [hU], by rw [hU]; exact hPc, va_K.moved hW.alike hK, hDc.weaken (fun _ _ _ _ => trivial)⟩⟩ rfl rfl hl.1 rfl (lv_room (Nat.le_of_ble_eq_true rfl)) dX10_copy_1 ⟨Nat.le_of_ble_eq_true rfl, Nat.le_of_ble_eq_true rfl⟩) hS (fun q _ h => hFc q h) hFc (fun r_9 _ t H1 locs ht hvm hw hB hz1 hk1 hS => ?_)
  obtain ⟨hP1, hK1, hD1⟩ := hB
  rw [ht] at hP1
  obtain ⟨hP, hD⟩ := va_join (wr := [oM ad xM_typed xM_people xM_posted xM_hears xM_censuses xM_finding, ar (ad 27) cB 4 gMisThere, ar (ad 28) cA 4 gMforms, ar (ad 29) cA 4 gMsizes, ar (ad 30) cA 240 gMitems, ar (ad 31) cA 60 gMmoved]) (w1 := []) hP hD [] [0, 1, 2, 3, 4, 5] rfl rfl (by decide) (by decide) hk1 hFc hP1 hD1
  clear hPc hDc hFc hP1 hK1 hD1 hk1 hz1 hvm ht
  generalize H1 = H at hP hS ⊢
  have hP : va_P (dC, dI) vwCl [oM ad xM_typed xM_people xM_posted xM_hears xM_censuses xM_finding, ar (ad 27) cB 4 gMisThere, ar (ad 28) cA 4 gMforms, ar (ad 29) cA 4 gMsizes, ar (ad 30) cA 240 gMitems, ar (ad 31) cA 60 gMmoved] H := hP
  have hD : va_D A [oM ad xM_typed xM_people xM_posted xM_hears xM_censuses xM_finding, ar (ad 27) cB 4 gMisThere, ar (ad 28) cA 4 gMforms, ar (ad 29) cA 4 gMsizes, ar (ad 30) cA 240 gMitems, ar (ad 31) cA 60 gMmoved] := hD
  have hw := hw.symm
  subst hw
  refine lv_if_eq (tgt := 14) hx hb dX10_copy_4 (by decide) (fun c_10 => ?_) (fun c_10 => ?_)
  · have hm := it_pos c_10 hm
    refine lv_bipush (v := (-2)) hx hb dX10_copy_14 (by decide) ?_
    obtain rfl := Option.some.inj hm
    subst hQ
    exact W.iret (v := (-2)) hx hb hr (fun t ht hW => ⟨⟨_, (), rfl, rfl, by rw [ht]; exact hP, va_K.moved hW.alike hK, hAe ▸ hD⟩, hS.F ht⟩) hS.2.2 dX10_copy_16
  · have hm := it_neg c_10 hm
    refine lv_iload_n hx hb dX10_copy_7 rfl (lv_at hl 3 rfl) ?_
    have hPc := hP.sub (ws' := []) [] rfl
    have hDc := hD.sub (ws' := []) [] (by decide) rfl
    have hFc := va_free (wc := []) hD hS hA [] rfl
    obtain ⟨u_11, hc_11, hm⟩ := bd_ok hm
    refine va_calli (va_runS (As := [.int a3]) (rest := []) ⟨hx, hb, hml, hown, hts⟩ (kM_isSheet l dC dI cA cB ad H.size a3 u_11 hc_11) (va_cwS 1 hts gX10_copy_X10_isSheet rfl rfl rfl (by decide +kernel) ⟨Nat.le_of_ble_eq_true rfl, Nat.le_of_ble_eq_true rfl⟩) ⟨fun a U g mk q => by obtain ⟨q0, q1, qP, qK, qD⟩ := q; exact ⟨q0, q1, qP, va_K.moved (u := U) (U := U.calling g mk a) (Vm.Alike.refl U.vm) qK, qD⟩, fun U hU hW => ⟨rfl, by rw [hU], by rw [hU]; exact hPc, va_K.moved hW.alike hK, hDc.weaken (fun _ _ _ _ => trivial)⟩⟩ rfl rfl hl.1 rfl (lv_room (Nat.le_of_ble_eq_true rfl)) dX10_copy_8 ⟨Nat.le_of_ble_eq_true rfl, Nat.le_of_ble_eq_true rfl⟩) hS (fun q _ h => hFc q h) hFc (fun r_11 _ t H1 locs ht hvm hw hB hz1 hk1 hS => ?_)
    obtain ⟨hP1, hK1, hD1⟩ := hB
    rw [ht] at hP1
    obtain ⟨hP, hD⟩ := va_join (wr := [oM ad xM_typed xM_people xM_posted xM_hears xM_censuses xM_finding, ar (ad 27) cB 4 gMisThere, ar (ad 28) cA 4 gMforms, ar (ad 29) cA 4 gMsizes, ar (ad 30) cA 240 gMitems, ar (ad 31) cA 60 gMmoved]) (w1 := []) hP hD [] [0, 1, 2, 3, 4, 5] rfl rfl (by decide) (by decide) hk1 hFc hP1 hD1
    clear hPc hDc hFc hP1 hK1 hD1 hk1 hz1 hvm ht
    generalize H1 = H at hP hS ⊢
    have hP : va_P (dC, dI) vwCl [oM ad xM_typed xM_people xM_posted xM_hears xM_censuses xM_finding, ar (ad 27) cB 4 gMisThere, ar (ad 28) cA 4 gMforms, ar (ad 29) cA 4 gMsizes, ar (ad 30) cA 240 gMitems, ar (ad 31) cA 60 gMmoved] H := hP
    have hD : va_D A [oM ad xM_typed xM_people xM_posted xM_hears xM_censuses xM_finding, ar (ad 27) cB 4 gMisThere, ar (ad 28) cA 4 gMforms, ar (ad 29) cA 4 gMsizes, ar (ad 30) cA 240 gMitems, ar (ad 31) cA 60 gMmoved] := hD
    have hw := hw.symm
    subst hw
    refine lv_if_ne (tgt := 17) hx hb dX10_copy_11 (by decide) (fun c_12 => ?_) (fun c_12 => ?_)
    · have hm := it_neg c_12 hm
      refine lv_aload_n hx hb dX10_copy_17 rfl (lv_at hl 0 rfl) ?_
      refine va_get (D := (dC, dI)) (ci := 10) (v := .ref (ad 27)) (C := RX10) (T := TX10) (N := 37) hx hb hts hinX10 hown hK hP 0 rfl rfl 31 (by decide) hl_88 (fun _ h9 => h9) rfl dX10_copy_18 ?_
      refine lv_iload_n hx hb dX10_copy_21 rfl (lv_at hl 1 rfl) ?_
      obtain ⟨i_13, hm⟩ := ck_ok hm
      refine va_zald hx hb hK hP 1 1 rfl rfl i_13 dX10_copy_22 ?_
      refine lv_if_eq (tgt := 35) hx hb dX10_copy_23 (by decide) (fun c_14 => ?_) (fun c_14 => ?_)
      · have hm := it_pos c_14 hm
        exact b_35 _ _ _ hm _ _ hP hD hS _ (lv_sub hl [0] rfl)
      · have hm := it_neg c_14 hm
        refine lv_aload_n hx hb dX10_copy_26 rfl (lv_at hl 0 rfl) ?_
        refine va_get (D := (dC, dI)) (ci := 10) (v := .ref (ad 27)) (C := RX10) (T := TX10) (N := 37) hx hb hts hinX10 hown hK hP 0 rfl rfl 31 (by decide) hl_88 (fun _ h9 => h9) rfl dX10_copy_27 ?_
        refine lv_iload_n hx hb dX10_copy_30 rfl (lv_at hl 3 rfl) ?_
        obtain ⟨i_15, hm⟩ := ck_ok hm
        refine va_zald hx hb hK hP 1 1 rfl rfl i_15 dX10_copy_31 ?_
        refine lv_if_ne (tgt := 41) hx hb dX10_copy_32 (by decide) (fun c_16 => ?_) (fun c_16 => ?_)
        · have hm := it_neg c_16 hm
          refine lv_aload_n hx hb dX10_copy_41 rfl (lv_at hl 0 rfl) ?_
          refine va_get (D := (dC, dI)) (ci := 10) (v := .ref (ad 28)) (C := RX10) (T := TX10) (N := 37) hx hb hts hinX10 hown hK hP 0 rfl rfl 32 (by decide) hl_92 (fun _ h9 => h9) rfl dX10_copy_42 ?_
          refine lv_iload_n hx hb dX10_copy_45 rfl (lv_at hl 1 rfl) ?_
          obtain ⟨i_17, hm⟩ := ck_ok hm
          refine va_iald hx hb hK hP 2 0 rfl rfl i_17 dX10_copy_46 ?_
          refine lv_aload_n hx hb dX10_copy_47 rfl (lv_at hl 0 rfl) ?_
          refine va_get (D := (dC, dI)) (ci := 10) (v := .ref (ad 28)) (C := RX10) (T := TX10) (N := 37) hx hb hts hinX10 hown hK hP 0 rfl rfl 32 (by decide) hl_92 (fun _ h9 => h9) rfl dX10_copy_48 ?_
          refine lv_iload_n hx hb dX10_copy_51 rfl (lv_at hl 3 rfl) ?_
          obtain ⟨i_18, hm⟩ := ck_ok hm
          refine va_iald hx hb hK hP 2 0 rfl rfl i_18 dX10_copy_52 ?_
          refine lv_icmp_eq (tgt := 62) hx hb dX10_copy_53 (by decide) (fun c_19 => ?_) (fun c_19 => ?_)
          · have hm := it_pos c_19 hm
            refine lv_iload_n hx hb dX10_copy_62 rfl (lv_at hl 2 rfl) ?_
            refine lv_if_lt (tgt := 111) hx hb dX10_copy_63 (by decide) (fun c_20 => ?_) (fun c_20 => ?_)
            · have hm := it_pos c_20 hm
              exact b_111 _ _ _ hm _ _ hP hD hS _ (lv_sub hl [0] rfl)
            · have hm := it_neg c_20 hm
              refine lv_iload hx hb dX10_copy_66 (lv_at hl 4 rfl) ?_
              refine lv_if_lt (tgt := 111) hx hb dX10_copy_68 (by decide) (fun c_21 => ?_) (fun c_21 => ?_)
              · have hm := it_pos c_21 hm
                exact b_111 _ _ _ hm _ _ hP hD hS _ (lv_sub hl [0] rfl)
              · have hm := it_neg c_21 hm
                refine lv_iload hx hb dX10_copy_71 (lv_at hl 5 rfl) ?_
                refine lv_if_lt (tgt := 111) hx hb dX10_copy_73 (by decide) (fun c_22 => ?_) (fun c_22 => ?_)
                · have hm := it_pos c_22 hm
                  exact b_111 _ _ _ hm _ _ hP hD hS _ (lv_sub hl [0] rfl)
                · have hm := it_neg c_22 hm
                  refine lv_iload_n hx hb dX10_copy_76 rfl (lv_at hl 2 rfl) ?_
                  refine lv_i2l hx hb dX10_copy_77 rfl ?_
                  refine lv_iload hx hb dX10_copy_78 (lv_at hl 5 rfl) ?_
                  refine lv_i2l hx hb dX10_copy_80 rfl ?_
                  refine lv_ladd hx hb dX10_copy_81 ?_
                  refine lv_aload_n hx hb dX10_copy_82 rfl (lv_at hl 0 rfl) ?_
                  refine va_get (D := (dC, dI)) (ci := 10) (v := .ref (ad 29)) (C := RX10) (T := TX10) (N := 37) hx hb hts hinX10 hown hK hP 0 rfl rfl 33 (by decide) hl_95 (fun _ h9 => h9) rfl dX10_copy_83 ?_
                  refine lv_iload_n hx hb dX10_copy_86 rfl (lv_at hl 1 rfl) ?_
                  obtain ⟨i_23, hm⟩ := ck_ok hm
                  refine va_iald hx hb hK hP 3 0 rfl rfl i_23 dX10_copy_87 ?_
                  refine lv_i2l hx hb dX10_copy_88 rfl ?_
                  refine W.lcmp hx hb dX10_copy_89 ?_
                  refine lv_if_gt (tgt := 111) hx hb dX10_copy_90 (by decide) (fun c_24 => ?_) (fun c_24 => ?_)
                  · have hm := it_pos c_24 hm
                    exact b_111 _ _ _ hm _ _ hP hD hS _ (lv_sub hl [0] rfl)
                  · have hm := it_neg c_24 hm
                    refine lv_iload hx hb dX10_copy_93 (lv_at hl 4 rfl) ?_
                    refine lv_i2l hx hb dX10_copy_95 rfl ?_
                    refine lv_iload hx hb dX10_copy_96 (lv_at hl 5 rfl) ?_
                    refine lv_i2l hx hb dX10_copy_98 rfl ?_
                    refine lv_ladd hx hb dX10_copy_99 ?_
                    refine lv_aload_n hx hb dX10_copy_100 rfl (lv_at hl 0 rfl) ?_
                    refine va_get (D := (dC, dI)) (ci := 10) (v := .ref (ad 29)) (C := RX10) (T := TX10) (N := 37) hx hb hts hinX10 hown hK hP 0 rfl rfl 33 (by decide) hl_95 (fun _ h9 => h9) rfl dX10_copy_101 ?_
                    refine lv_iload_n hx hb dX10_copy_104 rfl (lv_at hl 3 rfl) ?_
                    obtain ⟨i_25, hm⟩ := ck_ok hm
                    refine va_iald hx hb hK hP 3 0 rfl rfl i_25 dX10_copy_105 ?_
                    refine lv_i2l hx hb dX10_copy_106 rfl ?_
                    refine W.lcmp hx hb dX10_copy_107 ?_
                    refine lv_if_le (tgt := 117) hx hb dX10_copy_108 (by decide) (fun c_26 => ?_) (fun c_26 => ?_)
                    · have hm := it_pos c_26 hm
                      refine lv_iconst (v := 0) hx hb dX10_copy_117 (by decide) ?_
                      refine lv_istore (lv' := [(6, .int 0), (0, .ref (ad 0)), (1, .int a1), (2, .int a2), (3, .int a3), (4, .int a4), (5, .int a5)]) hx hb dX10_copy_118 hl (by decide) rfl (fun ls hl => ?_)
                      exact h_120 _ _ _ _ _ _ _ _ _ _ hm _ _ hP hD hS _ (lv_sub hl [1, 2, 3, 4, 5, 6, 0] rfl)
                    · have hm := it_neg c_26 hm
                      exact b_111 _ _ _ hm _ _ hP hD hS _ (lv_sub hl [0] rfl)
          · have hm := it_neg c_19 hm
            refine lv_aload_n hx hb dX10_copy_56 rfl (lv_at hl 0 rfl) ?_
            refine lv_iconst (v := 4) hx hb dX10_copy_57 (by decide) ?_
            have hPc := hP.sub (ws' := [oM ad xM_typed xM_people xM_posted xM_hears xM_censuses xM_finding]) [0] rfl
            have hDc := hD.sub (ws' := [oM ad xM_typed xM_people xM_posted xM_hears xM_censuses xM_finding]) [0] (by decide) rfl
            have hFc := va_free (wc := [oM ad xM_typed xM_people xM_posted xM_hears xM_censuses xM_finding]) hD hS hA [0] rfl
            obtain ⟨u_27, hc_27, hm⟩ := bd_ok hm
            refine va_calli (va_runV (As := [.int 4]) (rest := []) ⟨hx, hb, hml, hown, hts⟩ (kM_meets l dC dI cA cB ad H.size 4 xM_typed xM_people xM_posted xM_hears xM_censuses xM_finding u_27 hc_27) (cwV 1 hts gX10_copy_X10_meets rfl rfl rfl (by decide +kernel) ⟨Nat.le_of_ble_eq_true rfl, Nat.le_of_ble_eq_true rfl⟩) ⟨fun a U g mk q => by obtain ⟨q0, q1, qP, qK, qD⟩ := q; exact ⟨q0, q1, qP, va_K.moved (u := U) (U := U.calling g mk a) (Vm.Alike.refl U.vm) qK, qD⟩, va_recv hK hPc (ci := 10) (q0 := 0) rfl rfl, fun U hU hW => ⟨rfl, by rw [hU], by rw [hU]; exact hPc, va_K.moved hW.alike hK, hDc.weaken (fun _ _ _ _ => trivial)⟩⟩ rfl rfl hl.1 rfl (lv_room (Nat.le_of_ble_eq_true rfl)) dX10_copy_58 ⟨Nat.le_of_ble_eq_true rfl, Nat.le_of_ble_eq_true rfl⟩) hS (fun q _ h => hFc q h) hFc (fun r_27 _ t H1 locs ht hvm hw hB hz1 hk1 hS => ?_)
            obtain ⟨hP1, hK1, hD1⟩ := hB
            rw [ht] at hP1
            obtain ⟨hP, hD⟩ := va_join (wr := [ar (ad 27) cB 4 gMisThere, ar (ad 28) cA 4 gMforms, ar (ad 29) cA 4 gMsizes, ar (ad 30) cA 240 gMitems, ar (ad 31) cA 60 gMmoved]) (w1 := [oM ad xM_typed xM_people xM_posted xM_hears xM_censuses u_27.2]) hP hD [0] [1, 2, 3, 4, 5] rfl rfl (by decide) (by decide) hk1 hFc hP1 hD1
            clear hPc hDc hFc hP1 hK1 hD1 hk1 hz1 hvm ht
            generalize H1 = H at hP hS ⊢
            have hP : va_P (dC, dI) vwCl [oM ad xM_typed xM_people xM_posted xM_hears xM_censuses u_27.2, ar (ad 27) cB 4 gMisThere, ar (ad 28) cA 4 gMforms, ar (ad 29) cA 4 gMsizes, ar (ad 30) cA 240 gMitems, ar (ad 31) cA 60 gMmoved] H := hP.sub [5, 0, 1, 2, 3, 4] rfl
            have hD : va_D A [oM ad xM_typed xM_people xM_posted xM_hears xM_censuses u_27.2, ar (ad 27) cB 4 gMisThere, ar (ad 28) cA 4 gMforms, ar (ad 29) cA 4 gMsizes, ar (ad 30) cA 240 gMitems, ar (ad 31) cA 60 gMmoved] := hD.sub [5, 0, 1, 2, 3, 4] (by decide) rfl
            have hw := hw.symm
            subst hw
            obtain rfl := Option.some.inj hm
            subst hQ
            exact W.iret (v := u_27.1) hx hb hr (fun t ht hW => ⟨⟨_, (), rfl, rfl, by rw [ht]; exact hP, va_K.moved hW.alike hK, hAe ▸ hD⟩, hS.F ht⟩) hS.2.2 dX10_copy_61
        · have hm := it_pos c_16 hm
          exact b_35 _ _ _ hm _ _ hP hD hS _ (lv_sub hl [0] rfl)
    · have hm := it_pos c_12 hm
      refine lv_bipush (v := (-2)) hx hb dX10_copy_14 (by decide) ?_
      obtain rfl := Option.some.inj hm
      subst hQ
      exact W.iret (v := (-2)) hx hb hr (fun t ht hW => ⟨⟨_, (), rfl, rfl, by rw [ht]; exact hP, va_K.moved hW.alike hK, hAe ▸ hD⟩, hS.F ht⟩) hS.2.2 dX10_copy_16

set_option maxHeartbeats 4000000 in
set_option maxRecDepth 100000 in
theorem kM_write (l : Launch) (dC : Nat → ClassId) (dI : Nat → Nat → Nat) (cA : ClassId) (cB : ClassId) (ad : Nat → Nat) (sz : Nat) (a1 : Int32) (xM_typed : Int32) (xM_people : Int32) (xM_posted : Int32) (xM_hears : Int32) (xM_censuses : Int32) (xM_finding : Int32) (gMtext : Nat → Int32) (gMkinds : Nat → Int32) (gMlates : Nat → Int32) (gMscarfs : Nat → Int32) (gMhands : Nat → Int32) (gMrings : Nat → Int32) (gMmains : Nat → Int32) (gMaheadOf : Nat → Int32) (gMlastIn : Nat → Int32) (gMmanyIn : Nat → Int32) (gMsetting : Nat → Int32) (gMcomes : Nat → Int32) (gMbusyTo : Nat → Int32) (gMfeltMany : Nat → Int32) (gMfeltBits : Nat → Int32) (gMlostBits : Nat → Int32) (gMisThere : Nat → Int32) (gMforms : Nat → Int32) (gMsizes : Nat → Int32) (gMitems : Nat → Int32) (u : Int32 × Int32 × Int32 × (Nat → Int32) × (Nat → Int32) × (Nat → Int32) × (Nat → Int32) × (Nat → Int32) × (Nat → Int32) × (Nat → Int32) × (Nat → Int32) × (Nat → Int32) × (Nat → Int32) × (Nat → Int32) × (Nat → Int32) × (Nat → Int32) × (Nat → Int32) × (Nat → Int32)) (hm : fM_write a1 xM_typed xM_people xM_finding gMtext gMkinds gMlates gMscarfs gMhands gMrings gMmains gMaheadOf gMlastIn gMmanyIn gMsetting gMcomes gMbusyTo gMfeltMany gMfeltBits gMlostBits gMisThere gMforms gMsizes gMitems = some u) : Met l yX10_write wsX10_write ({ frames := 5, cells := 0, slots := 0, locals := 124 }) (va_Pc [.ref (ad 0), .int a1] (fun U => U.heap.size = sz ∧ va_P (dC, dI) vwCl [oM ad xM_typed xM_people xM_posted xM_hears xM_censuses xM_finding, ar (ad 1) cA 60 gMtext, ar (ad 2) cA 20 gMkinds, ar (ad 3) cA 20 gMlates, ar (ad 4) cA 20 gMscarfs, ar (ad 5) cA 20 gMhands, ar (ad 6) cA 20 gMrings, ar (ad 7) cA 20 gMmains, ar (ad 8) cA 4 gMaheadOf, ar (ad 9) cA 4 gMlastIn, ar (ad 10) cA 4 gMmanyIn, ar (ad 11) cA 3 gMsetting, ar (ad 13) cA 8020 gMcomes, ar (ad 14) cA 20 gMbusyTo, ar (ad 15) cA 20 gMfeltMany, ar (ad 16) cA 8020 gMfeltBits, ar (ad 17) cA 8020 gMlostBits, ar (ad 27) cB 4 gMisThere, ar (ad 28) cA 4 gMforms, ar (ad 29) cA 4 gMsizes, ar (ad 30) cA 240 gMitems] U.heap ∧ va_K (dC, dI) vwCl [(cA, .int), (cB, .boolean)] U ∧ va_D (fun _ => True) [oM ad xM_typed xM_people xM_posted xM_hears xM_censuses xM_finding, ar (ad 1) cA 60 gMtext, ar (ad 2) cA 20 gMkinds, ar (ad 3) cA 20 gMlates, ar (ad 4) cA 20 gMscarfs, ar (ad 5) cA 20 gMhands, ar (ad 6) cA 20 gMrings, ar (ad 7) cA 20 gMmains, ar (ad 8) cA 4 gMaheadOf, ar (ad 9) cA 4 gMlastIn, ar (ad 10) cA 4 gMmanyIn, ar (ad 11) cA 3 gMsetting, ar (ad 13) cA 8020 gMcomes, ar (ad 14) cA 20 gMbusyTo, ar (ad 15) cA 20 gMfeltMany, ar (ad 16) cA 8020 gMfeltBits, ar (ad 17) cA 8020 gMlostBits, ar (ad 27) cB 4 gMisThere, ar (ad 28) cA 4 gMforms, ar (ad 29) cA 4 gMsizes, ar (ad 30) cA 240 gMitems])) (va_Qi (fun (r : Int32) (_ : Unit) => r = u.1) (fun (_ : Unit) t => va_P (dC, dI) vwCl [oM ad xM_typed u.2.1 xM_posted xM_hears xM_censuses u.2.2.1, ar (ad 1) cA 60 gMtext, ar (ad 2) cA 20 u.2.2.2.1, ar (ad 3) cA 20 u.2.2.2.2.1, ar (ad 4) cA 20 u.2.2.2.2.2.1, ar (ad 5) cA 20 u.2.2.2.2.2.2.1, ar (ad 6) cA 20 u.2.2.2.2.2.2.2.1, ar (ad 7) cA 20 u.2.2.2.2.2.2.2.2.1, ar (ad 8) cA 4 u.2.2.2.2.2.2.2.2.2.1, ar (ad 9) cA 4 u.2.2.2.2.2.2.2.2.2.2.1, ar (ad 10) cA 4 u.2.2.2.2.2.2.2.2.2.2.2.1, ar (ad 11) cA 3 gMsetting, ar (ad 13) cA 8020 u.2.2.2.2.2.2.2.2.2.2.2.2.1, ar (ad 14) cA 20 u.2.2.2.2.2.2.2.2.2.2.2.2.2.1, ar (ad 15) cA 20 u.2.2.2.2.2.2.2.2.2.2.2.2.2.2.1, ar (ad 16) cA 8020 u.2.2.2.2.2.2.2.2.2.2.2.2.2.2.2.1, ar (ad 17) cA 8020 u.2.2.2.2.2.2.2.2.2.2.2.2.2.2.2.2.1, ar (ad 27) cB 4 gMisThere, ar (ad 28) cA 4 gMforms, ar (ad 29) cA 4 gMsizes, ar (ad 30) cA 240 u.2.2.2.2.2.2.2.2.2.2.2.2.2.2.2.2.2] t.heap ∧ va_K (dC, dI) vwCl [(cA, .int), (cB, .boolean)] t ∧ va_D (va_A [oM ad xM_typed xM_people xM_posted xM_hears xM_censuses xM_finding, ar (ad 1) cA 60 gMtext, ar (ad 2) cA 20 gMkinds, ar (ad 3) cA 20 gMlates, ar (ad 4) cA 20 gMscarfs, ar (ad 5) cA 20 gMhands, ar (ad 6) cA 20 gMrings, ar (ad 7) cA 20 gMmains, ar (ad 8) cA 4 gMaheadOf, ar (ad 9) cA 4 gMlastIn, ar (ad 10) cA 4 gMmanyIn, ar (ad 11) cA 3 gMsetting, ar (ad 13) cA 8020 gMcomes, ar (ad 14) cA 20 gMbusyTo, ar (ad 15) cA 20 gMfeltMany, ar (ad 16) cA 8020 gMfeltBits, ar (ad 17) cA 8020 gMlostBits, ar (ad 27) cB 4 gMisThere, ar (ad 28) cA 4 gMforms, ar (ad 29) cA 4 gMsizes, ar (ad 30) cA 240 gMitems] sz) [oM ad xM_typed u.2.1 xM_posted xM_hears xM_censuses u.2.2.1, ar (ad 1) cA 60 gMtext, ar (ad 2) cA 20 u.2.2.2.1, ar (ad 3) cA 20 u.2.2.2.2.1, ar (ad 4) cA 20 u.2.2.2.2.2.1, ar (ad 5) cA 20 u.2.2.2.2.2.2.1, ar (ad 6) cA 20 u.2.2.2.2.2.2.2.1, ar (ad 7) cA 20 u.2.2.2.2.2.2.2.2.1, ar (ad 8) cA 4 u.2.2.2.2.2.2.2.2.2.1, ar (ad 9) cA 4 u.2.2.2.2.2.2.2.2.2.2.1, ar (ad 10) cA 4 u.2.2.2.2.2.2.2.2.2.2.2.1, ar (ad 11) cA 3 gMsetting, ar (ad 13) cA 8020 u.2.2.2.2.2.2.2.2.2.2.2.2.1, ar (ad 14) cA 20 u.2.2.2.2.2.2.2.2.2.2.2.2.2.1, ar (ad 15) cA 20 u.2.2.2.2.2.2.2.2.2.2.2.2.2.2.1, ar (ad 16) cA 8020 u.2.2.2.2.2.2.2.2.2.2.2.2.2.2.2.1, ar (ad 17) cA 8020 u.2.2.2.2.2.2.2.2.2.2.2.2.2.2.2.2.1, ar (ad 27) cB 4 gMisThere, ar (ad 28) cA 4 gMforms, ar (ad 29) cA 4 gMsizes, ar (ad 30) cA 240 u.2.2.2.2.2.2.2.2.2.2.2.2.2.2.2.2.2]) (va_A [oM ad xM_typed xM_people xM_posted xM_hears xM_censuses xM_finding, ar (ad 1) cA 60 gMtext, ar (ad 2) cA 20 gMkinds, ar (ad 3) cA 20 gMlates, ar (ad 4) cA 20 gMscarfs, ar (ad 5) cA 20 gMhands, ar (ad 6) cA 20 gMrings, ar (ad 7) cA 20 gMmains, ar (ad 8) cA 4 gMaheadOf, ar (ad 9) cA 4 gMlastIn, ar (ad 10) cA 4 gMmanyIn, ar (ad 11) cA 3 gMsetting, ar (ad 13) cA 8020 gMcomes, ar (ad 14) cA 20 gMbusyTo, ar (ad 15) cA 20 gMfeltMany, ar (ad 16) cA 8020 gMfeltBits, ar (ad 17) cA 8020 gMlostBits, ar (ad 27) cB 4 gMisThere, ar (ad 28) cA 4 gMforms, ar (ad 29) cA 4 gMsizes, ar (ad 30) cA 240 gMitems] sz)) 0 0 (va_A [oM ad xM_typed xM_people xM_posted xM_hears xM_censuses xM_finding, ar (ad 1) cA 60 gMtext, ar (ad 2) cA 20 gMkinds, ar (ad 3) cA 20 gMlates, ar (ad 4) cA 20 gMscarfs, ar (ad 5) cA 20 gMhands, ar (ad 6) cA 20 gMrings, ar (ad 7) cA 20 gMmains, ar (ad 8) cA 4 gMaheadOf, ar (ad 9) cA 4 gMlastIn, ar (ad 10) cA 4 gMmanyIn, ar (ad 11) cA 3 gMsetting, ar (ad 13) cA 8020 gMcomes, ar (ad 14) cA 20 gMbusyTo, ar (ad 15) cA 20 gMfeltMany, ar (ad 16) cA 8020 gMfeltBits, ar (ad 17) cA 8020 gMlostBits, ar (ad 27) cB 4 gMisThere, ar (ad 28) cA 4 gMforms, ar (ad 29) cA 4 gMsizes, ar (ad 30) cA 240 gMitems] sz) := by
  refine Met.ofW (cc := cX10_write) (maxL := 3) (ret := (some .int)) (by decide) rfl ?_
  intro p e s m args below meth c s₁ B hml hv
  obtain ⟨rfl, hsz, hP, hK, hD0⟩ := hv
  have hx := B.exec
  have hb := B.bytes
  have hr := B.returns
  have hts := atoms_spec (ws := wsX10_write) B.pre
  have hown : s.vm.findClass RX10 = some m.cls := findClass_of_methodNamed B.named
  have hlocks := B.notSynchronized
  subst hsz
  have hD := hD0.self (sz := s.heap.size)
  generalize hAe : va_A [oM ad xM_typed xM_people xM_posted xM_hears xM_censuses xM_finding, ar (ad 1) cA 60 gMtext, ar (ad 2) cA 20 gMkinds, ar (ad 3) cA 20 gMlates, ar (ad 4) cA 20 gMscarfs, ar (ad 5) cA 20 gMhands, ar (ad 6) cA 20 gMrings, ar (ad 7) cA 20 gMmains, ar (ad 8) cA 4 gMaheadOf, ar (ad 9) cA 4 gMlastIn, ar (ad 10) cA 4 gMmanyIn, ar (ad 11) cA 3 gMsetting, ar (ad 13) cA 8020 gMcomes, ar (ad 14) cA 20 gMbusyTo, ar (ad 15) cA 20 gMfeltMany, ar (ad 16) cA 8020 gMfeltBits, ar (ad 17) cA 8020 gMlostBits, ar (ad 27) cB 4 gMisThere, ar (ad 28) cA 4 gMforms, ar (ad 29) cA 4 gMsizes, ar (ad 30) cA 240 gMitems] s.heap.size = A at hD ⊢
  have hA : ∀ q : Nat, s.heap.size ≤ q → A q := fun q h => by rw [← hAe]; exact Or.inr h
  have hS : va_S A s.heap s.heap [] := va_S.rf
  have hl := lv_entry ([.ref (ad 0), .int a1]) (n := 3) (Nat.le_of_ble_eq_true rfl)
  rw [lg_entry_eq]
  generalize (lg_sl ([.ref (ad 0), .int a1]) ++ List.replicate (3 - (lg_sl ([.ref (ad 0), .int a1])).length) Slot.unset).toArray = ls at hl ⊢
  have hl : lv_has ls 3 [(0, .ref (ad 0)), (1, .int a1)] := hl
  refine wk_Q (fun QQ hQ => ?_)
  have hinX10 : ∀ w ∈ wsX100, w ∈ wsX10_write := fun w h => List.mem_cons_of_mem _ (inlX10 w h)
  have hl_95 := hts (.fieldLink RX10 95 "HandCensusModel" "sizes" "[I") (List.mem_cons_of_mem _ (in_r8 _ (List.mem_of_getElem? (i := 0) rfl)))
  have hl_112 := hts (.fieldLink RX10 112 "HandCensusModel" "people" "I") (List.mem_cons_of_mem _ (in_r12 _ (List.mem_of_getElem? (i := 4) rfl)))
  have hl_88 := hts (.fieldLink RX10 88 "HandCensusModel" "isThere" "[Z") (List.mem_cons_of_mem _ (in_r7 _ (List.mem_of_getElem? (i := 22) rfl)))
  have h_31 : ∀ (v1_31 : Int32) (xM_people_31 : Int32) (xM_finding_31 : Int32) (gMkinds_31 : Nat → Int32) (gMlates_31 : Nat → Int32) (gMscarfs_31 : Nat → Int32) (gMhands_31 : Nat → Int32) (gMrings_31 : Nat → Int32) (gMmains_31 : Nat → Int32) (gMaheadOf_31 : Nat → Int32) (gMlastIn_31 : Nat → Int32) (gMmanyIn_31 : Nat → Int32) (gMcomes_31 : Nat → Int32) (gMbusyTo_31 : Nat → Int32) (gMfeltMany_31 : Nat → Int32) (gMfeltBits_31 : Nat → Int32) (gMlostBits_31 : Nat → Int32), ∀ (n_31 : Nat), ∀ (v2_31 : Int32) (gMitems_31 : Nat → Int32), fM_write_31 v1_31 xM_people_31 xM_finding_31 gMkinds_31 gMlates_31 gMscarfs_31 gMhands_31 gMrings_31 gMmains_31 gMaheadOf_31 gMlastIn_31 gMmanyIn_31 gMcomes_31 gMbusyTo_31 gMfeltMany_31 gMfeltBits_31 gMlostBits_31 gMforms gMsizes n_31 v2_31 gMitems_31 = some u → ∀ (H : Heap) (locs : List Loc), va_P (dC, dI) vwCl [oM ad xM_typed xM_people_31 xM_posted xM_hears xM_censuses xM_finding_31, ar (ad 1) cA 60 gMtext, ar (ad 2) cA 20 gMkinds_31, ar (ad 3) cA 20 gMlates_31, ar (ad 4) cA 20 gMscarfs_31, ar (ad 5) cA 20 gMhands_31, ar (ad 6) cA 20 gMrings_31, ar (ad 7) cA 20 gMmains_31, ar (ad 8) cA 4 gMaheadOf_31, ar (ad 9) cA 4 gMlastIn_31, ar (ad 10) cA 4 gMmanyIn_31, ar (ad 11) cA 3 gMsetting, ar (ad 13) cA 8020 gMcomes_31, ar (ad 14) cA 20 gMbusyTo_31, ar (ad 15) cA 20 gMfeltMany_31, ar (ad 16) cA 8020 gMfeltBits_31, ar (ad 17) cA 8020 gMlostBits_31, ar (ad 27) cB 4 gMisThere, ar (ad 28) cA 4 gMforms, ar (ad 29) cA 4 gMsizes, ar (ad 30) cA 240 gMitems_31] H → va_D A [oM ad xM_typed xM_people_31 xM_posted xM_hears xM_censuses xM_finding_31, ar (ad 1) cA 60 gMtext, ar (ad 2) cA 20 gMkinds_31, ar (ad 3) cA 20 gMlates_31, ar (ad 4) cA 20 gMscarfs_31, ar (ad 5) cA 20 gMhands_31, ar (ad 6) cA 20 gMrings_31, ar (ad 7) cA 20 gMmains_31, ar (ad 8) cA 4 gMaheadOf_31, ar (ad 9) cA 4 gMlastIn_31, ar (ad 10) cA 4 gMmanyIn_31, ar (ad 11) cA 3 gMsetting, ar (ad 13) cA 8020 gMcomes_31, ar (ad 14) cA 20 gMbusyTo_31, ar (ad 15) cA 20 gMfeltMany_31, ar (ad 16) cA 8020 gMfeltBits_31, ar (ad 17) cA 8020 gMlostBits_31, ar (ad 27) cB 4 gMisThere, ar (ad 28) cA 4 gMforms, ar (ad 29) cA 4 gMsizes, ar (ad 30) cA 240 gMitems_31] → va_S A s.heap H locs → ∀ ls : Array Slot, lv_has ls 3 [(0, .ref (ad 0)), (1, .int v1_31), (2, .int v2_31)] → W p l e (headSpec wsX10_write ({ frames := 5, cells := 0, slots := 0, locals := 124 })).room s m ([.ref (ad 0), .int a1] : List Value).toArray below meth c H locs 0 0 QQ (F0 m 31 ls []) := by
    intro v1_31 xM_people_31 xM_finding_31 gMkinds_31 gMlates_31 gMscarfs_31 gMhands_31 gMrings_31 gMmains_31 gMaheadOf_31 gMlastIn_31 gMmanyIn_31 gMcomes_31 gMbusyTo_31 gMfeltMany_31 gMfeltBits_31 gMlostBits_31
    intro n_31
    induction n_31 with
    | zero => intro v2_31 gMitems_31 hm; have hm : (none : Option (Int32 × Int32 × Int32 × (Nat → Int32) × (Nat → Int32) × (Nat → Int32) × (Nat → Int32) × (Nat → Int32) × (Nat → Int32) × (Nat → Int32) × (Nat → Int32) × (Nat → Int32) × (Nat → Int32) × (Nat → Int32) × (Nat → Int32) × (Nat → Int32) × (Nat → Int32) × (Nat → Int32))) = some u := hm; cases hm
    | succ n_31 ih_31 =>
      intro v2_31 gMitems_31 hm H locs hP hD hS ls hl
      have hm : fM_write_31_b  (fM_write_31  v1_31 xM_people_31 xM_finding_31 gMkinds_31 gMlates_31 gMscarfs_31 gMhands_31 gMrings_31 gMmains_31 gMaheadOf_31 gMlastIn_31 gMmanyIn_31 gMcomes_31 gMbusyTo_31 gMfeltMany_31 gMfeltBits_31 gMlostBits_31 gMforms gMsizes n_31) v1_31 xM_people_31 xM_finding_31 gMkinds_31 gMlates_31 gMscarfs_31 gMhands_31 gMrings_31 gMmains_31 gMaheadOf_31 gMlastIn_31 gMmanyIn_31 gMcomes_31 gMbusyTo_31 gMfeltMany_31 gMfeltBits_31 gMlostBits_31 gMforms gMsizes v2_31 gMitems_31 = some u := hm
      unfold fM_write_31_b at hm
      refine lv_iload_n hx hb dX10_write_31 rfl (lv_at hl 2 rfl) ?_
      refine lv_aload_n hx hb dX10_write_32 rfl (lv_at hl 0 rfl) ?_
      refine va_get (D := (dC, dI)) (ci := 10) (v := .ref (ad 29)) (C := RX10) (T := TX10) (N := 37) hx hb hts hinX10 hown hK hP 0 rfl rfl 33 (by decide) hl_95 (fun _ h9 => h9) rfl dX10_write_33 ?_
      refine lv_iload_n hx hb dX10_write_36 rfl (lv_at hl 1 rfl) ?_
      obtain ⟨i_1, hm⟩ := ck_ok hm
      refine va_iald hx hb hK hP 19 0 rfl rfl i_1 dX10_write_37 ?_
      refine lv_icmp_ge (tgt := 67) hx hb dX10_write_38 (by decide) (fun c_2 => ?_) (fun c_2 => ?_)
      · have hm := it_pos c_2 hm
        refine lv_iload_n hx hb dX10_write_67 rfl (lv_at hl 2 rfl) ?_
        obtain rfl := Option.some.inj hm
        subst hQ
        exact W.iret (v := v2_31) hx hb hr (fun t ht hW => ⟨⟨_, (), rfl, rfl, by rw [ht]; exact hP, va_K.moved hW.alike hK, hAe ▸ hD⟩, hS.F ht⟩) hS.2.2 dX10_write_68
      · have hm := it_neg c_2 hm
        refine lv_iload_n hx hb dX10_write_41 rfl (lv_at hl 2 rfl) ?_
        refine lv_aload_n hx hb dX10_write_42 rfl (lv_at hl 0 rfl) ?_
        refine va_get (D := (dC, dI)) (ci := 10) (v := .int xM_people_31) (C := RX10) (T := TX10) (N := 37) hx hb hts hinX10 hown hK hP 0 rfl rfl 2 (by decide) hl_112 (fun _ h9 => h9) rfl dX10_write_43 ?_
        refine lv_icmp_ge (tgt := 67) hx hb dX10_write_46 (by decide) (fun c_3 => ?_) (fun c_3 => ?_)
        · have hm := it_pos c_3 hm
          refine lv_iload_n hx hb dX10_write_67 rfl (lv_at hl 2 rfl) ?_
          obtain rfl := Option.some.inj hm
          subst hQ
          exact W.iret (v := v2_31) hx hb hr (fun t ht hW => ⟨⟨_, (), rfl, rfl, by rw [ht]; exact hP, va_K.moved hW.alike hK, hAe ▸ hD⟩, hS.F ht⟩) hS.2.2 dX10_write_68
        · have hm := it_neg c_3 hm
          refine lv_aload_n hx hb dX10_write_49 rfl (lv_at hl 0 rfl) ?_
          refine lv_iload_n hx hb dX10_write_50 rfl (lv_at hl 1 rfl) ?_
          refine lv_iload_n hx hb dX10_write_51 rfl (lv_at hl 2 rfl) ?_
          refine lv_aload_n hx hb dX10_write_52 rfl (lv_at hl 0 rfl) ?_
          refine lv_iload_n hx hb dX10_write_53 rfl (lv_at hl 2 rfl) ?_
          refine lv_iconst (v := 0) hx hb dX10_write_54 (by decide) ?_
          have hPc := hP.sub (ws' := [oM ad xM_typed xM_people_31 xM_posted xM_hears xM_censuses xM_finding_31, ar (ad 15) cA 20 gMfeltMany_31, ar (ad 16) cA 8020 gMfeltBits_31]) [0, 14, 15] rfl
          have hDc := hD.sub (ws' := [oM ad xM_typed xM_people_31 xM_posted xM_hears xM_censuses xM_finding_31, ar (ad 15) cA 20 gMfeltMany_31, ar (ad 16) cA 8020 gMfeltBits_31]) [0, 14, 15] (by decide) rfl
          have hFc := va_free (wc := [oM ad xM_typed xM_people_31 xM_posted xM_hears xM_censuses xM_finding_31, ar (ad 15) cA 20 gMfeltMany_31, ar (ad 16) cA 8020 gMfeltBits_31]) hD hS hA [0, 14, 15] rfl
          obtain ⟨u_4, hc_4, hm⟩ := bd_ok hm
          refine va_calli (va_runV (As := [.int v2_31, .int 0]) (rest := [.int v2_31, .int v1_31, .ref (ad 0)]) ⟨hx, hb, hml, hown, hts⟩ (kM_feltBy l dC dI cA cB ad H.size v2_31 0 xM_typed xM_people_31 xM_posted xM_hears xM_censuses xM_finding_31 gMfeltMany_31 gMfeltBits_31 u_4 hc_4) (cwV 2 hts gX10_write_X10_feltBy rfl rfl rfl (by decide +kernel) ⟨Nat.le_of_ble_eq_true rfl, Nat.le_of_ble_eq_true rfl⟩) ⟨fun a U g mk q => by obtain ⟨q0, q1, qP, qK, qD⟩ := q; exact ⟨q0, q1, qP, va_K.moved (u := U) (U := U.calling g mk a) (Vm.Alike.refl U.vm) qK, qD⟩, va_recv hK hPc (ci := 10) (q0 := 0) rfl rfl, fun U hU hW => ⟨rfl, by rw [hU], by rw [hU]; exact hPc, va_K.moved hW.alike hK, hDc.weaken (fun _ _ _ _ => trivial)⟩⟩ rfl rfl hl.1 rfl (lv_room (Nat.le_of_ble_eq_true rfl)) dX10_write_55 ⟨Nat.le_of_ble_eq_true rfl, Nat.le_of_ble_eq_true rfl⟩) hS (fun q _ h => hFc q h) hFc (fun r_4 _ t H1 locs ht hvm hw hB hz1 hk1 hS => ?_)
          obtain ⟨hP1, hK1, hD1⟩ := hB
          rw [ht] at hP1
          obtain ⟨hP, hD⟩ := va_join (wr := [ar (ad 1) cA 60 gMtext, ar (ad 2) cA 20 gMkinds_31, ar (ad 3) cA 20 gMlates_31, ar (ad 4) cA 20 gMscarfs_31, ar (ad 5) cA 20 gMhands_31, ar (ad 6) cA 20 gMrings_31, ar (ad 7) cA 20 gMmains_31, ar (ad 8) cA 4 gMaheadOf_31, ar (ad 9) cA 4 gMlastIn_31, ar (ad 10) cA 4 gMmanyIn_31, ar (ad 11) cA 3 gMsetting, ar (ad 13) cA 8020 gMcomes_31, ar (ad 14) cA 20 gMbusyTo_31, ar (ad 17) cA 8020 gMlostBits_31, ar (ad 27) cB 4 gMisThere, ar (ad 28) cA 4 gMforms, ar (ad 29) cA 4 gMsizes, ar (ad 30) cA 240 gMitems_31]) (w1 := [oM ad xM_typed xM_people_31 xM_posted xM_hears xM_censuses xM_finding_31, ar (ad 15) cA 20 gMfeltMany_31, ar (ad 16) cA 8020 gMfeltBits_31]) hP hD [0, 14, 15] [1, 2, 3, 4, 5, 6, 7, 8, 9, 10, 11, 12, 13, 16, 17, 18, 19, 20] rfl rfl (by decide) (by decide) hk1 hFc hP1 hD1
          clear hPc hDc hFc hP1 hK1 hD1 hk1 hz1 hvm ht
          generalize H1 = H at hP hS ⊢
          have hP : va_P (dC, dI) vwCl [oM ad xM_typed xM_people_31 xM_posted xM_hears xM_censuses xM_finding_31, ar (ad 1) cA 60 gMtext, ar (ad 2) cA 20 gMkinds_31, ar (ad 3) cA 20 gMlates_31, ar (ad 4) cA 20 gMscarfs_31, ar (ad 5) cA 20 gMhands_31, ar (ad 6) cA 20 gMrings_31, ar (ad 7) cA 20 gMmains_31, ar (ad 8) cA 4 gMaheadOf_31, ar (ad 9) cA 4 gMlastIn_31, ar (ad 10) cA 4 gMmanyIn_31, ar (ad 11) cA 3 gMsetting, ar (ad 13) cA 8020 gMcomes_31, ar (ad 14) cA 20 gMbusyTo_31, ar (ad 15) cA 20 gMfeltMany_31, ar (ad 16) cA 8020 gMfeltBits_31, ar (ad 17) cA 8020 gMlostBits_31, ar (ad 27) cB 4 gMisThere, ar (ad 28) cA 4 gMforms, ar (ad 29) cA 4 gMsizes, ar (ad 30) cA 240 gMitems_31] H := hP.sub [18, 0, 1, 2, 3, 4, 5, 6, 7, 8, 9, 10, 11, 12, 19, 20, 13, 14, 15, 16, 17] rfl
          have hD : va_D A [oM ad xM_typed xM_people_31 xM_posted xM_hears xM_censuses xM_finding_31, ar (ad 1) cA 60 gMtext, ar (ad 2) cA 20 gMkinds_31, ar (ad 3) cA 20 gMlates_31, ar (ad 4) cA 20 gMscarfs_31, ar (ad 5) cA 20 gMhands_31, ar (ad 6) cA 20 gMrings_31, ar (ad 7) cA 20 gMmains_31, ar (ad 8) cA 4 gMaheadOf_31, ar (ad 9) cA 4 gMlastIn_31, ar (ad 10) cA 4 gMmanyIn_31, ar (ad 11) cA 3 gMsetting, ar (ad 13) cA 8020 gMcomes_31, ar (ad 14) cA 20 gMbusyTo_31, ar (ad 15) cA 20 gMfeltMany_31, ar (ad 16) cA 8020 gMfeltBits_31, ar (ad 17) cA 8020 gMlostBits_31, ar (ad 27) cB 4 gMisThere, ar (ad 28) cA 4 gMforms, ar (ad 29) cA 4 gMsizes, ar (ad 30) cA 240 gMitems_31] := hD.sub [18, 0, 1, 2, 3, 4, 5, 6, 7, 8, 9, 10, 11, 12, 19, 20, 13, 14, 15, 16, 17] (by decide) rfl
          have hw := hw.symm
          subst hw
          have hPc := hP.sub (ws' := [oM ad xM_typed xM_people_31 xM_posted xM_hears xM_censuses xM_finding_31, ar (ad 28) cA 4 gMforms, ar (ad 30) cA 240 gMitems_31]) [0, 18, 20] rfl
          have hDc := hD.sub (ws' := [oM ad xM_typed xM_people_31 xM_posted xM_hears xM_censuses xM_finding_31, ar (ad 28) cA 4 gMforms, ar (ad 30) cA 240 gMitems_31]) [0, 18, 20] (by decide) rfl
          have hFc := va_free (wc := [oM ad xM_typed xM_people_31 xM_posted xM_hears xM_censuses xM_finding_31, ar (ad 28) cA 4 gMforms, ar (ad 30) cA 240 gMitems_31]) hD hS hA [0, 18, 20] rfl
          obtain ⟨u_5, hc_5, hm⟩ := bd_ok hm
          refine va_callv (va_runV (As := [.int v1_31, .int v2_31, .int u_4]) (rest := []) ⟨hx, hb, hml, hown, hts⟩ (kM_keep l dC dI cA cB ad H.size v1_31 v2_31 u_4 xM_typed xM_people_31 xM_posted xM_hears xM_censuses xM_finding_31 gMforms gMitems_31 u_5 hc_5) (cwV 3 hts gX10_write_X10_keep rfl rfl rfl (by decide +kernel) ⟨Nat.le_of_ble_eq_true rfl, Nat.le_of_ble_eq_true rfl⟩) ⟨fun a U g mk q => by obtain ⟨q0, q1, qP, qK, qD⟩ := q; exact ⟨q0, q1, qP, va_K.moved (u := U) (U := U.calling g mk a) (Vm.Alike.refl U.vm) qK, qD⟩, va_recv hK hPc (ci := 10) (q0 := 0) rfl rfl, fun U hU hW => ⟨rfl, by rw [hU], by rw [hU]; exact hPc, va_K.moved hW.alike hK, hDc.weaken (fun _ _ _ _ => trivial)⟩⟩ rfl rfl hl.1 rfl (lv_room (Nat.le_of_ble_eq_true rfl)) dX10_write_58 ⟨Nat.le_of_ble_eq_true rfl, Nat.le_of_ble_eq_true rfl⟩) hS (fun q _ h => hFc q h) hFc (fun _ t H1 locs ht hvm hw hB hz1 hk1 hS => ?_)
          obtain ⟨hP1, hK1, hD1⟩ := hB
          rw [ht] at hP1
          obtain ⟨hP, hD⟩ := va_join (wr := [ar (ad 1) cA 60 gMtext, ar (ad 2) cA 20 gMkinds_31, ar (ad 3) cA 20 gMlates_31, ar (ad 4) cA 20 gMscarfs_31, ar (ad 5) cA 20 gMhands_31, ar (ad 6) cA 20 gMrings_31, ar (ad 7) cA 20 gMmains_31, ar (ad 8) cA 4 gMaheadOf_31, ar (ad 9) cA 4 gMlastIn_31, ar (ad 10) cA 4 gMmanyIn_31, ar (ad 11) cA 3 gMsetting, ar (ad 13) cA 8020 gMcomes_31, ar (ad 14) cA 20 gMbusyTo_31, ar (ad 15) cA 20 gMfeltMany_31, ar (ad 16) cA 8020 gMfeltBits_31, ar (ad 17) cA 8020 gMlostBits_31, ar (ad 27) cB 4 gMisThere, ar (ad 29) cA 4 gMsizes]) (w1 := [oM ad xM_typed xM_people_31 xM_posted xM_hears xM_censuses xM_finding_31, ar (ad 28) cA 4 gMforms, ar (ad 30) cA 240 u_5]) hP hD [0, 18, 20] [1, 2, 3, 4, 5, 6, 7, 8, 9, 10, 11, 12, 13, 14, 15, 16, 17, 19] rfl rfl (by decide) (by decide) hk1 hFc hP1 hD1
          clear hPc hDc hFc hP1 hK1 hD1 hk1 hz1 hvm ht
          generalize H1 = H at hP hS ⊢
          have hP : va_P (dC, dI) vwCl [oM ad xM_typed xM_people_31 xM_posted xM_hears xM_censuses xM_finding_31, ar (ad 1) cA 60 gMtext, ar (ad 2) cA 20 gMkinds_31, ar (ad 3) cA 20 gMlates_31, ar (ad 4) cA 20 gMscarfs_31, ar (ad 5) cA 20 gMhands_31, ar (ad 6) cA 20 gMrings_31, ar (ad 7) cA 20 gMmains_31, ar (ad 8) cA 4 gMaheadOf_31, ar (ad 9) cA 4 gMlastIn_31, ar (ad 10) cA 4 gMmanyIn_31, ar (ad 11) cA 3 gMsetting, ar (ad 13) cA 8020 gMcomes_31, ar (ad 14) cA 20 gMbusyTo_31, ar (ad 15) cA 20 gMfeltMany_31, ar (ad 16) cA 8020 gMfeltBits_31, ar (ad 17) cA 8020 gMlostBits_31, ar (ad 27) cB 4 gMisThere, ar (ad 28) cA 4 gMforms, ar (ad 29) cA 4 gMsizes, ar (ad 30) cA 240 u_5] H := hP.sub [18, 0, 1, 2, 3, 4, 5, 6, 7, 8, 9, 10, 11, 12, 13, 14, 15, 16, 19, 17, 20] rfl
          have hD : va_D A [oM ad xM_typed xM_people_31 xM_posted xM_hears xM_censuses xM_finding_31, ar (ad 1) cA 60 gMtext, ar (ad 2) cA 20 gMkinds_31, ar (ad 3) cA 20 gMlates_31, ar (ad 4) cA 20 gMscarfs_31, ar (ad 5) cA 20 gMhands_31, ar (ad 6) cA 20 gMrings_31, ar (ad 7) cA 20 gMmains_31, ar (ad 8) cA 4 gMaheadOf_31, ar (ad 9) cA 4 gMlastIn_31, ar (ad 10) cA 4 gMmanyIn_31, ar (ad 11) cA 3 gMsetting, ar (ad 13) cA 8020 gMcomes_31, ar (ad 14) cA 20 gMbusyTo_31, ar (ad 15) cA 20 gMfeltMany_31, ar (ad 16) cA 8020 gMfeltBits_31, ar (ad 17) cA 8020 gMlostBits_31, ar (ad 27) cB 4 gMisThere, ar (ad 28) cA 4 gMforms, ar (ad 29) cA 4 gMsizes, ar (ad 30) cA 240 u_5] := hD.sub [18, 0, 1, 2, 3, 4, 5, 6, 7, 8, 9, 10, 11, 12, 13, 14, 15, 16, 19, 17, 20] (by decide) rfl
          refine lv_iinc (v := (v2_31 + 1)) (lv' := [(2, .int (v2_31 + 1)), (0, .ref (ad 0)), (1, .int v1_31)]) hx hb dX10_write_61 hl (k := 2) rfl rfl (by decide) rfl (fun ls hl => ?_)
          refine lv_goto (tgt := 31) hx hb dX10_write_64 (by decide) ?_
          exact ih_31 _ _ hm _ _ hP hD hS _ (lv_sub hl [1, 2, 0] rfl)
  unfold fM_write at hm
  refine lv_iload_n hx hb dX10_write_0 rfl (lv_at hl 1 rfl) ?_
  have hPc := hP.sub (ws' := []) [] rfl
  have hDc := hD.sub (ws' := []) [] (by decide) rfl
  have hFc := va_free (wc := []) hD hS hA [] rfl
  obtain ⟨u_6, hc_6, hm⟩ := bd_ok hm
  refine va_calli (va_runS (As := [.int a1]) (rest := []) ⟨hx, hb, hml, hown, hts⟩ (kM_isSheet l dC dI cA cB ad s.heap.size a1 u_6 hc_6) (va_cwS 1 hts gX10_write_X10_isSheet rfl rfl rfl (by decide +kernel) ⟨Nat.le_of_ble_eq_true rfl, Nat.le_of_ble_eq_true rfl⟩) ⟨fun a U g mk q => by obtain ⟨q0, q1, qP, qK, qD⟩ := q; exact ⟨q0, q1, qP, va_K.moved (u := U) (U := U.calling g mk a) (Vm.Alike.refl U.vm) qK, qD⟩, fun U hU hW => ⟨rfl, by rw [hU], by rw [hU]; exact hPc, va_K.moved hW.alike hK, hDc.weaken (fun _ _ _ _ => trivial)⟩⟩ rfl rfl hl.1 rfl (lv_room (Nat.le_of_ble_eq_true rfl)) dX10_write_1 ⟨Nat.le_of_ble_eq_true rfl, Nat.le_of_ble_eq_true rfl⟩) hS (fun q _ h => hFc q h) hFc (fun r_6 _ t H1 locs ht hvm hw hB hz1 hk1 hS => ?_)
  obtain ⟨hP1, hK1, hD1⟩ := hB
  rw [ht] at hP1
  obtain ⟨hP, hD⟩ := va_join (wr := [oM ad xM_typed xM_people xM_posted xM_hears xM_censuses xM_finding, ar (ad 1) cA 60 gMtext, ar (ad 2) cA 20 gMkinds, ar (ad 3) cA 20 gMlates, ar (ad 4) cA 20 gMscarfs, ar (ad 5) cA 20 gMhands, ar (ad 6) cA 20 gMrings, ar (ad 7) cA 20 gMmains, ar (ad 8) cA 4 gMaheadOf, ar (ad 9) cA 4 gMlastIn, ar (ad 10) cA 4 gMmanyIn, ar (ad 11) cA 3 gMsetting, ar (ad 13) cA 8020 gMcomes, ar (ad 14) cA 20 gMbusyTo, ar (ad 15) cA 20 gMfeltMany, ar (ad 16) cA 8020 gMfeltBits, ar (ad 17) cA 8020 gMlostBits, ar (ad 27) cB 4 gMisThere, ar (ad 28) cA 4 gMforms, ar (ad 29) cA 4 gMsizes, ar (ad 30) cA 240 gMitems]) (w1 := []) hP hD [] [0, 1, 2, 3, 4, 5, 6, 7, 8, 9, 10, 11, 12, 13, 14, 15, 16, 17, 18, 19, 20] rfl rfl (by decide) (by decide) hk1 hFc hP1 hD1
  clear hPc hDc hFc hP1 hK1 hD1 hk1 hz1 hvm ht
  generalize H1 = H at hP hS ⊢
  have hP : va_P (dC, dI) vwCl [oM ad xM_typed xM_people xM_posted xM_hears xM_censuses xM_finding, ar (ad 1) cA 60 gMtext, ar (ad 2) cA 20 gMkinds, ar (ad 3) cA 20 gMlates, ar (ad 4) cA 20 gMscarfs, ar (ad 5) cA 20 gMhands, ar (ad 6) cA 20 gMrings, ar (ad 7) cA 20 gMmains, ar (ad 8) cA 4 gMaheadOf, ar (ad 9) cA 4 gMlastIn, ar (ad 10) cA 4 gMmanyIn, ar (ad 11) cA 3 gMsetting, ar (ad 13) cA 8020 gMcomes, ar (ad 14) cA 20 gMbusyTo, ar (ad 15) cA 20 gMfeltMany, ar (ad 16) cA 8020 gMfeltBits, ar (ad 17) cA 8020 gMlostBits, ar (ad 27) cB 4 gMisThere, ar (ad 28) cA 4 gMforms, ar (ad 29) cA 4 gMsizes, ar (ad 30) cA 240 gMitems] H := hP
  have hD : va_D A [oM ad xM_typed xM_people xM_posted xM_hears xM_censuses xM_finding, ar (ad 1) cA 60 gMtext, ar (ad 2) cA 20 gMkinds, ar (ad 3) cA 20 gMlates, ar (ad 4) cA 20 gMscarfs, ar (ad 5) cA 20 gMhands, ar (ad 6) cA 20 gMrings, ar (ad 7) cA 20 gMmains, ar (ad 8) cA 4 gMaheadOf, ar (ad 9) cA 4 gMlastIn, ar (ad 10) cA 4 gMmanyIn, ar (ad 11) cA 3 gMsetting, ar (ad 13) cA 8020 gMcomes, ar (ad 14) cA 20 gMbusyTo, ar (ad 15) cA 20 gMfeltMany, ar (ad 16) cA 8020 gMfeltBits, ar (ad 17) cA 8020 gMlostBits, ar (ad 27) cB 4 gMisThere, ar (ad 28) cA 4 gMforms, ar (ad 29) cA 4 gMsizes, ar (ad 30) cA 240 gMitems] := hD
  have hw := hw.symm
  subst hw
  refine lv_if_ne (tgt := 10) hx hb dX10_write_4 (by decide) (fun c_7 => ?_) (fun c_7 => ?_)
  · have hm := it_neg c_7 hm
    refine lv_aload_n hx hb dX10_write_10 rfl (lv_at hl 0 rfl) ?_
    refine va_get (D := (dC, dI)) (ci := 10) (v := .ref (ad 27)) (C := RX10) (T := TX10) (N := 37) hx hb hts hinX10 hown hK hP 0 rfl rfl 31 (by decide) hl_88 (fun _ h9 => h9) rfl dX10_write_11 ?_
    refine lv_iload_n hx hb dX10_write_14 rfl (lv_at hl 1 rfl) ?_
    obtain ⟨i_8, hm⟩ := ck_ok hm
    refine va_zald hx hb hK hP 17 1 rfl rfl i_8 dX10_write_15 ?_
    refine lv_if_ne (tgt := 25) hx hb dX10_write_16 (by decide) (fun c_9 => ?_) (fun c_9 => ?_)
    · have hm := it_neg c_9 hm
      refine lv_aload_n hx hb dX10_write_25 rfl (lv_at hl 0 rfl) ?_
      have hPc := hP.sub (ws' := [oM ad xM_typed xM_people xM_posted xM_hears xM_censuses xM_finding, ar (ad 1) cA 60 gMtext, ar (ad 2) cA 20 gMkinds, ar (ad 3) cA 20 gMlates, ar (ad 4) cA 20 gMscarfs, ar (ad 5) cA 20 gMhands, ar (ad 6) cA 20 gMrings, ar (ad 7) cA 20 gMmains, ar (ad 8) cA 4 gMaheadOf, ar (ad 9) cA 4 gMlastIn, ar (ad 10) cA 4 gMmanyIn, ar (ad 11) cA 3 gMsetting, ar (ad 13) cA 8020 gMcomes, ar (ad 14) cA 20 gMbusyTo, ar (ad 15) cA 20 gMfeltMany, ar (ad 16) cA 8020 gMfeltBits, ar (ad 17) cA 8020 gMlostBits]) [0, 1, 2, 3, 4, 5, 6, 7, 8, 9, 10, 11, 12, 13, 14, 15, 16] rfl
      have hDc := hD.sub (ws' := [oM ad xM_typed xM_people xM_posted xM_hears xM_censuses xM_finding, ar (ad 1) cA 60 gMtext, ar (ad 2) cA 20 gMkinds, ar (ad 3) cA 20 gMlates, ar (ad 4) cA 20 gMscarfs, ar (ad 5) cA 20 gMhands, ar (ad 6) cA 20 gMrings, ar (ad 7) cA 20 gMmains, ar (ad 8) cA 4 gMaheadOf, ar (ad 9) cA 4 gMlastIn, ar (ad 10) cA 4 gMmanyIn, ar (ad 11) cA 3 gMsetting, ar (ad 13) cA 8020 gMcomes, ar (ad 14) cA 20 gMbusyTo, ar (ad 15) cA 20 gMfeltMany, ar (ad 16) cA 8020 gMfeltBits, ar (ad 17) cA 8020 gMlostBits]) [0, 1, 2, 3, 4, 5, 6, 7, 8, 9, 10, 11, 12, 13, 14, 15, 16] (by decide) rfl
      have hFc := va_free (wc := [oM ad xM_typed xM_people xM_posted xM_hears xM_censuses xM_finding, ar (ad 1) cA 60 gMtext, ar (ad 2) cA 20 gMkinds, ar (ad 3) cA 20 gMlates, ar (ad 4) cA 20 gMscarfs, ar (ad 5) cA 20 gMhands, ar (ad 6) cA 20 gMrings, ar (ad 7) cA 20 gMmains, ar (ad 8) cA 4 gMaheadOf, ar (ad 9) cA 4 gMlastIn, ar (ad 10) cA 4 gMmanyIn, ar (ad 11) cA 3 gMsetting, ar (ad 13) cA 8020 gMcomes, ar (ad 14) cA 20 gMbusyTo, ar (ad 15) cA 20 gMfeltMany, ar (ad 16) cA 8020 gMfeltBits, ar (ad 17) cA 8020 gMlostBits]) hD hS hA [0, 1, 2, 3, 4, 5, 6, 7, 8, 9, 10, 11, 12, 13, 14, 15, 16] rfl
      obtain ⟨u_10, hc_10, hm⟩ := bd_ok hm
      refine va_callv (va_runV (As := []) (rest := []) ⟨hx, hb, hml, hown, hts⟩ (kM_lays l dC dI cA cB ad H.size xM_typed xM_people xM_posted xM_hears xM_censuses xM_finding gMtext gMkinds gMlates gMscarfs gMhands gMrings gMmains gMaheadOf gMlastIn gMmanyIn gMsetting gMcomes gMbusyTo gMfeltMany gMfeltBits gMlostBits u_10 hc_10) (cwV 0 hts gX10_write_X10_lays rfl rfl rfl (by decide +kernel) ⟨Nat.le_of_ble_eq_true rfl, Nat.le_of_ble_eq_true rfl⟩) ⟨fun a U g mk q => by obtain ⟨q0, q1, qP, qK, qD⟩ := q; exact ⟨q0, q1, qP, va_K.moved (u := U) (U := U.calling g mk a) (Vm.Alike.refl U.vm) qK, qD⟩, va_recv hK hPc (ci := 10) (q0 := 0) rfl rfl, fun U hU hW => ⟨rfl, by rw [hU], by rw [hU]; exact hPc, va_K.moved hW.alike hK, hDc.weaken (fun _ _ _ _ => trivial)⟩⟩ rfl rfl hl.1 rfl (lv_room (Nat.le_of_ble_eq_true rfl)) dX10_write_26 ⟨Nat.le_of_ble_eq_true rfl, Nat.le_of_ble_eq_true rfl⟩) hS (fun q _ h => hFc q h) hFc (fun _ t H1 locs ht hvm hw hB hz1 hk1 hS => ?_)
      obtain ⟨hP1, hK1, hD1⟩ := hB
      rw [ht] at hP1
      obtain ⟨hP, hD⟩ := va_join (wr := [ar (ad 27) cB 4 gMisThere, ar (ad 28) cA 4 gMforms, ar (ad 29) cA 4 gMsizes, ar (ad 30) cA 240 gMitems]) (w1 := [oM ad xM_typed u_10.1 xM_posted xM_hears xM_censuses xM_finding, ar (ad 1) cA 60 gMtext, ar (ad 2) cA 20 u_10.2.1, ar (ad 3) cA 20 u_10.2.2.1, ar (ad 4) cA 20 u_10.2.2.2.1, ar (ad 5) cA 20 u_10.2.2.2.2.1, ar (ad 6) cA 20 u_10.2.2.2.2.2.1, ar (ad 7) cA 20 u_10.2.2.2.2.2.2.1, ar (ad 8) cA 4 u_10.2.2.2.2.2.2.2.1, ar (ad 9) cA 4 u_10.2.2.2.2.2.2.2.2.1, ar (ad 10) cA 4 u_10.2.2.2.2.2.2.2.2.2.1, ar (ad 11) cA 3 gMsetting, ar (ad 13) cA 8020 u_10.2.2.2.2.2.2.2.2.2.2.1, ar (ad 14) cA 20 u_10.2.2.2.2.2.2.2.2.2.2.2.1, ar (ad 15) cA 20 u_10.2.2.2.2.2.2.2.2.2.2.2.2.1, ar (ad 16) cA 8020 u_10.2.2.2.2.2.2.2.2.2.2.2.2.2.1, ar (ad 17) cA 8020 u_10.2.2.2.2.2.2.2.2.2.2.2.2.2.2]) hP hD [0, 1, 2, 3, 4, 5, 6, 7, 8, 9, 10, 11, 12, 13, 14, 15, 16] [17, 18, 19, 20] rfl rfl (by decide) (by decide) hk1 hFc hP1 hD1
      clear hPc hDc hFc hP1 hK1 hD1 hk1 hz1 hvm ht
      generalize H1 = H at hP hS ⊢
      have hP : va_P (dC, dI) vwCl [oM ad xM_typed u_10.1 xM_posted xM_hears xM_censuses xM_finding, ar (ad 1) cA 60 gMtext, ar (ad 2) cA 20 u_10.2.1, ar (ad 3) cA 20 u_10.2.2.1, ar (ad 4) cA 20 u_10.2.2.2.1, ar (ad 5) cA 20 u_10.2.2.2.2.1, ar (ad 6) cA 20 u_10.2.2.2.2.2.1, ar (ad 7) cA 20 u_10.2.2.2.2.2.2.1, ar (ad 8) cA 4 u_10.2.2.2.2.2.2.2.1, ar (ad 9) cA 4 u_10.2.2.2.2.2.2.2.2.1, ar (ad 10) cA 4 u_10.2.2.2.2.2.2.2.2.2.1, ar (ad 11) cA 3 gMsetting, ar (ad 13) cA 8020 u_10.2.2.2.2.2.2.2.2.2.2.1, ar (ad 14) cA 20 u_10.2.2.2.2.2.2.2.2.2.2.2.1, ar (ad 15) cA 20 u_10.2.2.2.2.2.2.2.2.2.2.2.2.1, ar (ad 16) cA 8020 u_10.2.2.2.2.2.2.2.2.2.2.2.2.2.1, ar (ad 17) cA 8020 u_10.2.2.2.2.2.2.2.2.2.2.2.2.2.2, ar (ad 27) cB 4 gMisThere, ar (ad 28) cA 4 gMforms, ar (ad 29) cA 4 gMsizes, ar (ad 30) cA 240 gMitems] H := hP.sub [4, 5, 6, 7, 8, 9, 10, 11, 12, 13, 14, 15, 16, 17, 18, 19, 20, 0, 1, 2, 3] rfl
      have hD : va_D A [oM ad xM_typed u_10.1 xM_posted xM_hears xM_censuses xM_finding, ar (ad 1) cA 60 gMtext, ar (ad 2) cA 20 u_10.2.1, ar (ad 3) cA 20 u_10.2.2.1, ar (ad 4) cA 20 u_10.2.2.2.1, ar (ad 5) cA 20 u_10.2.2.2.2.1, ar (ad 6) cA 20 u_10.2.2.2.2.2.1, ar (ad 7) cA 20 u_10.2.2.2.2.2.2.1, ar (ad 8) cA 4 u_10.2.2.2.2.2.2.2.1, ar (ad 9) cA 4 u_10.2.2.2.2.2.2.2.2.1, ar (ad 10) cA 4 u_10.2.2.2.2.2.2.2.2.2.1, ar (ad 11) cA 3 gMsetting, ar (ad 13) cA 8020 u_10.2.2.2.2.2.2.2.2.2.2.1, ar (ad 14) cA 20 u_10.2.2.2.2.2.2.2.2.2.2.2.1, ar (ad 15) cA 20 u_10.2.2.2.2.2.2.2.2.2.2.2.2.1, ar (ad 16) cA 8020 u_10.2.2.2.2.2.2.2.2.2.2.2.2.2.1, ar (ad 17) cA 8020 u_10.2.2.2.2.2.2.2.2.2.2.2.2.2.2, ar (ad 27) cB 4 gMisThere, ar (ad 28) cA 4 gMforms, ar (ad 29) cA 4 gMsizes, ar (ad 30) cA 240 gMitems] := hD.sub [4, 5, 6, 7, 8, 9, 10, 11, 12, 13, 14, 15, 16, 17, 18, 19, 20, 0, 1, 2, 3] (by decide) rfl
      refine lv_iconst (v := 0) hx hb dX10_write_29 (by decide) ?_
      refine lv_istore_n (lv' := [(2, .int 0), (0, .ref (ad 0)), (1, .int a1)]) hx hb dX10_write_30 rfl hl (by decide) rfl (fun ls hl => ?_)
      exact h_31 _ _ _ _ _ _ _ _ _ _ _ _ _ _ _ _ _ _ _ _ hm _ _ hP hD hS _ (lv_sub hl [1, 2, 0] rfl)
    · have hm := it_pos c_9 hm
      refine lv_aload_n hx hb dX10_write_19 rfl (lv_at hl 0 rfl) ?_
      refine lv_iconst (v := 1) hx hb dX10_write_20 (by decide) ?_
      have hPc := hP.sub (ws' := [oM ad xM_typed xM_people xM_posted xM_hears xM_censuses xM_finding]) [0] rfl
      have hDc := hD.sub (ws' := [oM ad xM_typed xM_people xM_posted xM_hears xM_censuses xM_finding]) [0] (by decide) rfl
      have hFc := va_free (wc := [oM ad xM_typed xM_people xM_posted xM_hears xM_censuses xM_finding]) hD hS hA [0] rfl
      obtain ⟨u_11, hc_11, hm⟩ := bd_ok hm
      refine va_calli (va_runV (As := [.int 1]) (rest := []) ⟨hx, hb, hml, hown, hts⟩ (kM_meets l dC dI cA cB ad H.size 1 xM_typed xM_people xM_posted xM_hears xM_censuses xM_finding u_11 hc_11) (cwV 1 hts gX10_write_X10_meets rfl rfl rfl (by decide +kernel) ⟨Nat.le_of_ble_eq_true rfl, Nat.le_of_ble_eq_true rfl⟩) ⟨fun a U g mk q => by obtain ⟨q0, q1, qP, qK, qD⟩ := q; exact ⟨q0, q1, qP, va_K.moved (u := U) (U := U.calling g mk a) (Vm.Alike.refl U.vm) qK, qD⟩, va_recv hK hPc (ci := 10) (q0 := 0) rfl rfl, fun U hU hW => ⟨rfl, by rw [hU], by rw [hU]; exact hPc, va_K.moved hW.alike hK, hDc.weaken (fun _ _ _ _ => trivial)⟩⟩ rfl rfl hl.1 rfl (lv_room (Nat.le_of_ble_eq_true rfl)) dX10_write_21 ⟨Nat.le_of_ble_eq_true rfl, Nat.le_of_ble_eq_true rfl⟩) hS (fun q _ h => hFc q h) hFc (fun r_11 _ t H1 locs ht hvm hw hB hz1 hk1 hS => ?_)
      obtain ⟨hP1, hK1, hD1⟩ := hB
      rw [ht] at hP1
      obtain ⟨hP, hD⟩ := va_join (wr := [ar (ad 1) cA 60 gMtext, ar (ad 2) cA 20 gMkinds, ar (ad 3) cA 20 gMlates, ar (ad 4) cA 20 gMscarfs, ar (ad 5) cA 20 gMhands, ar (ad 6) cA 20 gMrings, ar (ad 7) cA 20 gMmains, ar (ad 8) cA 4 gMaheadOf, ar (ad 9) cA 4 gMlastIn, ar (ad 10) cA 4 gMmanyIn, ar (ad 11) cA 3 gMsetting, ar (ad 13) cA 8020 gMcomes, ar (ad 14) cA 20 gMbusyTo, ar (ad 15) cA 20 gMfeltMany, ar (ad 16) cA 8020 gMfeltBits, ar (ad 17) cA 8020 gMlostBits, ar (ad 27) cB 4 gMisThere, ar (ad 28) cA 4 gMforms, ar (ad 29) cA 4 gMsizes, ar (ad 30) cA 240 gMitems]) (w1 := [oM ad xM_typed xM_people xM_posted xM_hears xM_censuses u_11.2]) hP hD [0] [1, 2, 3, 4, 5, 6, 7, 8, 9, 10, 11, 12, 13, 14, 15, 16, 17, 18, 19, 20] rfl rfl (by decide) (by decide) hk1 hFc hP1 hD1
      clear hPc hDc hFc hP1 hK1 hD1 hk1 hz1 hvm ht
      generalize H1 = H at hP hS ⊢
      have hP : va_P (dC, dI) vwCl [oM ad xM_typed xM_people xM_posted xM_hears xM_censuses u_11.2, ar (ad 1) cA 60 gMtext, ar (ad 2) cA 20 gMkinds, ar (ad 3) cA 20 gMlates, ar (ad 4) cA 20 gMscarfs, ar (ad 5) cA 20 gMhands, ar (ad 6) cA 20 gMrings, ar (ad 7) cA 20 gMmains, ar (ad 8) cA 4 gMaheadOf, ar (ad 9) cA 4 gMlastIn, ar (ad 10) cA 4 gMmanyIn, ar (ad 11) cA 3 gMsetting, ar (ad 13) cA 8020 gMcomes, ar (ad 14) cA 20 gMbusyTo, ar (ad 15) cA 20 gMfeltMany, ar (ad 16) cA 8020 gMfeltBits, ar (ad 17) cA 8020 gMlostBits, ar (ad 27) cB 4 gMisThere, ar (ad 28) cA 4 gMforms, ar (ad 29) cA 4 gMsizes, ar (ad 30) cA 240 gMitems] H := hP.sub [20, 0, 1, 2, 3, 4, 5, 6, 7, 8, 9, 10, 11, 12, 13, 14, 15, 16, 17, 18, 19] rfl
      have hD : va_D A [oM ad xM_typed xM_people xM_posted xM_hears xM_censuses u_11.2, ar (ad 1) cA 60 gMtext, ar (ad 2) cA 20 gMkinds, ar (ad 3) cA 20 gMlates, ar (ad 4) cA 20 gMscarfs, ar (ad 5) cA 20 gMhands, ar (ad 6) cA 20 gMrings, ar (ad 7) cA 20 gMmains, ar (ad 8) cA 4 gMaheadOf, ar (ad 9) cA 4 gMlastIn, ar (ad 10) cA 4 gMmanyIn, ar (ad 11) cA 3 gMsetting, ar (ad 13) cA 8020 gMcomes, ar (ad 14) cA 20 gMbusyTo, ar (ad 15) cA 20 gMfeltMany, ar (ad 16) cA 8020 gMfeltBits, ar (ad 17) cA 8020 gMlostBits, ar (ad 27) cB 4 gMisThere, ar (ad 28) cA 4 gMforms, ar (ad 29) cA 4 gMsizes, ar (ad 30) cA 240 gMitems] := hD.sub [20, 0, 1, 2, 3, 4, 5, 6, 7, 8, 9, 10, 11, 12, 13, 14, 15, 16, 17, 18, 19] (by decide) rfl
      have hw := hw.symm
      subst hw
      obtain rfl := Option.some.inj hm
      subst hQ
      exact W.iret (v := u_11.1) hx hb hr (fun t ht hW => ⟨⟨_, (), rfl, rfl, by rw [ht]; exact hP, va_K.moved hW.alike hK, hAe ▸ hD⟩, hS.F ht⟩) hS.2.2 dX10_write_24
  · have hm := it_pos c_7 hm
    refine lv_bipush (v := (-2)) hx hb dX10_write_7 (by decide) ?_
    obtain rfl := Option.some.inj hm
    subst hQ
    exact W.iret (v := (-2)) hx hb hr (fun t ht hW => ⟨⟨_, (), rfl, rfl, by rw [ht]; exact hP, va_K.moved hW.alike hK, hAe ▸ hD⟩, hS.F ht⟩) hS.2.2 dX10_write_9

set_option maxHeartbeats 4000000 in
set_option maxRecDepth 100000 in
theorem kM_sumOf (l : Launch) (dC : Nat → ClassId) (dI : Nat → Nat → Nat) (cA : ClassId) (cB : ClassId) (ad : Nat → Nat) (sz : Nat) (a1 : Int32) (xM_typed : Int32) (xM_people : Int32) (xM_posted : Int32) (xM_hears : Int32) (xM_censuses : Int32) (xM_finding : Int32) (gMtext : Nat → Int32) (gMkinds : Nat → Int32) (gMlates : Nat → Int32) (gMscarfs : Nat → Int32) (gMhands : Nat → Int32) (gMrings : Nat → Int32) (gMmains : Nat → Int32) (gMaheadOf : Nat → Int32) (gMlastIn : Nat → Int32) (gMmanyIn : Nat → Int32) (gMsetting : Nat → Int32) (gMcomes : Nat → Int32) (gMbusyTo : Nat → Int32) (gMfeltMany : Nat → Int32) (gMfeltBits : Nat → Int32) (gMlostBits : Nat → Int32) (gMborn : Nat → Int32) (u : Int32 × Int32 × (Nat → Int32) × (Nat → Int32) × (Nat → Int32) × (Nat → Int32) × (Nat → Int32) × (Nat → Int32) × (Nat → Int32) × (Nat → Int32) × (Nat → Int32) × (Nat → Int32) × (Nat → Int32) × (Nat → Int32) × (Nat → Int32) × (Nat → Int32)) (hm : fM_sumOf a1 xM_typed xM_people gMtext gMkinds gMlates gMscarfs gMhands gMrings gMmains gMaheadOf gMlastIn gMmanyIn gMsetting gMcomes gMbusyTo gMfeltMany gMfeltBits gMlostBits gMborn = some u) : Met l yX10_sumOf wsX10_sumOf ({ frames := 5, cells := 0, slots := 0, locals := 124 }) (va_Pc [.ref (ad 0), .int a1] (fun U => U.heap.size = sz ∧ va_P (dC, dI) vwCl [oM ad xM_typed xM_people xM_posted xM_hears xM_censuses xM_finding, ar (ad 1) cA 60 gMtext, ar (ad 2) cA 20 gMkinds, ar (ad 3) cA 20 gMlates, ar (ad 4) cA 20 gMscarfs, ar (ad 5) cA 20 gMhands, ar (ad 6) cA 20 gMrings, ar (ad 7) cA 20 gMmains, ar (ad 8) cA 4 gMaheadOf, ar (ad 9) cA 4 gMlastIn, ar (ad 10) cA 4 gMmanyIn, ar (ad 11) cA 3 gMsetting, ar (ad 13) cA 8020 gMcomes, ar (ad 14) cA 20 gMbusyTo, ar (ad 15) cA 20 gMfeltMany, ar (ad 16) cA 8020 gMfeltBits, ar (ad 17) cA 8020 gMlostBits, ar (ad 26) cA 100 gMborn] U.heap ∧ va_K (dC, dI) vwCl [(cA, .int), (cB, .boolean)] U ∧ va_D (fun _ => True) [oM ad xM_typed xM_people xM_posted xM_hears xM_censuses xM_finding, ar (ad 1) cA 60 gMtext, ar (ad 2) cA 20 gMkinds, ar (ad 3) cA 20 gMlates, ar (ad 4) cA 20 gMscarfs, ar (ad 5) cA 20 gMhands, ar (ad 6) cA 20 gMrings, ar (ad 7) cA 20 gMmains, ar (ad 8) cA 4 gMaheadOf, ar (ad 9) cA 4 gMlastIn, ar (ad 10) cA 4 gMmanyIn, ar (ad 11) cA 3 gMsetting, ar (ad 13) cA 8020 gMcomes, ar (ad 14) cA 20 gMbusyTo, ar (ad 15) cA 20 gMfeltMany, ar (ad 16) cA 8020 gMfeltBits, ar (ad 17) cA 8020 gMlostBits, ar (ad 26) cA 100 gMborn])) (va_Qi (fun (r : Int32) (_ : Unit) => r = u.1) (fun (_ : Unit) t => va_P (dC, dI) vwCl [oM ad xM_typed u.2.1 xM_posted xM_hears xM_censuses xM_finding, ar (ad 1) cA 60 gMtext, ar (ad 2) cA 20 u.2.2.1, ar (ad 3) cA 20 u.2.2.2.1, ar (ad 4) cA 20 u.2.2.2.2.1, ar (ad 5) cA 20 u.2.2.2.2.2.1, ar (ad 6) cA 20 u.2.2.2.2.2.2.1, ar (ad 7) cA 20 u.2.2.2.2.2.2.2.1, ar (ad 8) cA 4 u.2.2.2.2.2.2.2.2.1, ar (ad 9) cA 4 u.2.2.2.2.2.2.2.2.2.1, ar (ad 10) cA 4 u.2.2.2.2.2.2.2.2.2.2.1, ar (ad 11) cA 3 gMsetting, ar (ad 13) cA 8020 u.2.2.2.2.2.2.2.2.2.2.2.1, ar (ad 14) cA 20 u.2.2.2.2.2.2.2.2.2.2.2.2.1, ar (ad 15) cA 20 u.2.2.2.2.2.2.2.2.2.2.2.2.2.1, ar (ad 16) cA 8020 u.2.2.2.2.2.2.2.2.2.2.2.2.2.2.1, ar (ad 17) cA 8020 u.2.2.2.2.2.2.2.2.2.2.2.2.2.2.2, ar (ad 26) cA 100 gMborn] t.heap ∧ va_K (dC, dI) vwCl [(cA, .int), (cB, .boolean)] t ∧ va_D (va_A [oM ad xM_typed xM_people xM_posted xM_hears xM_censuses xM_finding, ar (ad 1) cA 60 gMtext, ar (ad 2) cA 20 gMkinds, ar (ad 3) cA 20 gMlates, ar (ad 4) cA 20 gMscarfs, ar (ad 5) cA 20 gMhands, ar (ad 6) cA 20 gMrings, ar (ad 7) cA 20 gMmains, ar (ad 8) cA 4 gMaheadOf, ar (ad 9) cA 4 gMlastIn, ar (ad 10) cA 4 gMmanyIn, ar (ad 11) cA 3 gMsetting, ar (ad 13) cA 8020 gMcomes, ar (ad 14) cA 20 gMbusyTo, ar (ad 15) cA 20 gMfeltMany, ar (ad 16) cA 8020 gMfeltBits, ar (ad 17) cA 8020 gMlostBits, ar (ad 26) cA 100 gMborn] sz) [oM ad xM_typed u.2.1 xM_posted xM_hears xM_censuses xM_finding, ar (ad 1) cA 60 gMtext, ar (ad 2) cA 20 u.2.2.1, ar (ad 3) cA 20 u.2.2.2.1, ar (ad 4) cA 20 u.2.2.2.2.1, ar (ad 5) cA 20 u.2.2.2.2.2.1, ar (ad 6) cA 20 u.2.2.2.2.2.2.1, ar (ad 7) cA 20 u.2.2.2.2.2.2.2.1, ar (ad 8) cA 4 u.2.2.2.2.2.2.2.2.1, ar (ad 9) cA 4 u.2.2.2.2.2.2.2.2.2.1, ar (ad 10) cA 4 u.2.2.2.2.2.2.2.2.2.2.1, ar (ad 11) cA 3 gMsetting, ar (ad 13) cA 8020 u.2.2.2.2.2.2.2.2.2.2.2.1, ar (ad 14) cA 20 u.2.2.2.2.2.2.2.2.2.2.2.2.1, ar (ad 15) cA 20 u.2.2.2.2.2.2.2.2.2.2.2.2.2.1, ar (ad 16) cA 8020 u.2.2.2.2.2.2.2.2.2.2.2.2.2.2.1, ar (ad 17) cA 8020 u.2.2.2.2.2.2.2.2.2.2.2.2.2.2.2, ar (ad 26) cA 100 gMborn]) (va_A [oM ad xM_typed xM_people xM_posted xM_hears xM_censuses xM_finding, ar (ad 1) cA 60 gMtext, ar (ad 2) cA 20 gMkinds, ar (ad 3) cA 20 gMlates, ar (ad 4) cA 20 gMscarfs, ar (ad 5) cA 20 gMhands, ar (ad 6) cA 20 gMrings, ar (ad 7) cA 20 gMmains, ar (ad 8) cA 4 gMaheadOf, ar (ad 9) cA 4 gMlastIn, ar (ad 10) cA 4 gMmanyIn, ar (ad 11) cA 3 gMsetting, ar (ad 13) cA 8020 gMcomes, ar (ad 14) cA 20 gMbusyTo, ar (ad 15) cA 20 gMfeltMany, ar (ad 16) cA 8020 gMfeltBits, ar (ad 17) cA 8020 gMlostBits, ar (ad 26) cA 100 gMborn] sz)) 0 0 (va_A [oM ad xM_typed xM_people xM_posted xM_hears xM_censuses xM_finding, ar (ad 1) cA 60 gMtext, ar (ad 2) cA 20 gMkinds, ar (ad 3) cA 20 gMlates, ar (ad 4) cA 20 gMscarfs, ar (ad 5) cA 20 gMhands, ar (ad 6) cA 20 gMrings, ar (ad 7) cA 20 gMmains, ar (ad 8) cA 4 gMaheadOf, ar (ad 9) cA 4 gMlastIn, ar (ad 10) cA 4 gMmanyIn, ar (ad 11) cA 3 gMsetting, ar (ad 13) cA 8020 gMcomes, ar (ad 14) cA 20 gMbusyTo, ar (ad 15) cA 20 gMfeltMany, ar (ad 16) cA 8020 gMfeltBits, ar (ad 17) cA 8020 gMlostBits, ar (ad 26) cA 100 gMborn] sz) := by
  refine Met.ofW (cc := cX10_sumOf) (maxL := 4) (ret := (some .int)) (by decide) rfl ?_
  intro p e s m args below meth c s₁ B hml hv
  obtain ⟨rfl, hsz, hP, hK, hD0⟩ := hv
  have hx := B.exec
  have hb := B.bytes
  have hr := B.returns
  have hts := atoms_spec (ws := wsX10_sumOf) B.pre
  have hown : s.vm.findClass RX10 = some m.cls := findClass_of_methodNamed B.named
  have hlocks := B.notSynchronized
  subst hsz
  have hD := hD0.self (sz := s.heap.size)
  generalize hAe : va_A [oM ad xM_typed xM_people xM_posted xM_hears xM_censuses xM_finding, ar (ad 1) cA 60 gMtext, ar (ad 2) cA 20 gMkinds, ar (ad 3) cA 20 gMlates, ar (ad 4) cA 20 gMscarfs, ar (ad 5) cA 20 gMhands, ar (ad 6) cA 20 gMrings, ar (ad 7) cA 20 gMmains, ar (ad 8) cA 4 gMaheadOf, ar (ad 9) cA 4 gMlastIn, ar (ad 10) cA 4 gMmanyIn, ar (ad 11) cA 3 gMsetting, ar (ad 13) cA 8020 gMcomes, ar (ad 14) cA 20 gMbusyTo, ar (ad 15) cA 20 gMfeltMany, ar (ad 16) cA 8020 gMfeltBits, ar (ad 17) cA 8020 gMlostBits, ar (ad 26) cA 100 gMborn] s.heap.size = A at hD ⊢
  have hA : ∀ q : Nat, s.heap.size ≤ q → A q := fun q h => by rw [← hAe]; exact Or.inr h
  have hS : va_S A s.heap s.heap [] := va_S.rf
  have hl := lv_entry ([.ref (ad 0), .int a1]) (n := 4) (Nat.le_of_ble_eq_true rfl)
  rw [lg_entry_eq]
  generalize (lg_sl ([.ref (ad 0), .int a1]) ++ List.replicate (4 - (lg_sl ([.ref (ad 0), .int a1])).length) Slot.unset).toArray = ls at hl ⊢
  have hl : lv_has ls 4 [(0, .ref (ad 0)), (1, .int a1)] := hl
  refine wk_Q (fun QQ hQ => ?_)
  have hinX10 : ∀ w ∈ wsX100, w ∈ wsX10_sumOf := fun w h => List.mem_cons_of_mem _ (inlX10 w h)
  have hl_112 := hts (.fieldLink RX10 112 "HandCensusModel" "people" "I") (List.mem_cons_of_mem _ (in_r12 _ (List.mem_of_getElem? (i := 4) rfl)))
  have hl_85 := hts (.fieldLink RX10 85 "HandCensusModel" "born" "[I") (List.mem_cons_of_mem _ (in_r7 _ (List.mem_of_getElem? (i := 20) rfl)))
  have hl_22 := hts (.fieldLink RX10 22 "HandCensusModel" "hands" "[I") (List.mem_cons_of_mem _ (in_r6 _ (List.mem_of_getElem? (i := 23) rfl)))
  have hl_28 := hts (.fieldLink RX10 28 "HandCensusModel" "mains" "[I") (List.mem_cons_of_mem _ (in_r7 _ (List.mem_of_getElem? (i := 1) rfl)))
  have b_103 : ∀ (v1_103 : Int32) (v2_103 : Int32) (xM_people_103 : Int32) (gMkinds_103 : Nat → Int32) (gMlates_103 : Nat → Int32) (gMscarfs_103 : Nat → Int32) (gMhands_103 : Nat → Int32) (gMrings_103 : Nat → Int32) (gMmains_103 : Nat → Int32) (gMaheadOf_103 : Nat → Int32) (gMlastIn_103 : Nat → Int32) (gMmanyIn_103 : Nat → Int32) (gMcomes_103 : Nat → Int32) (gMbusyTo_103 : Nat → Int32) (gMfeltMany_103 : Nat → Int32) (gMfeltBits_103 : Nat → Int32) (gMlostBits_103 : Nat → Int32), fM_sumOf_103 v1_103 v2_103 xM_people_103 gMkinds_103 gMlates_103 gMscarfs_103 gMhands_103 gMrings_103 gMmains_103 gMaheadOf_103 gMlastIn_103 gMmanyIn_103 gMcomes_103 gMbusyTo_103 gMfeltMany_103 gMfeltBits_103 gMlostBits_103 = some u → ∀ (H : Heap) (locs : List Loc), va_P (dC, dI) vwCl [oM ad xM_typed xM_people_103 xM_posted xM_hears xM_censuses xM_finding, ar (ad 1) cA 60 gMtext, ar (ad 2) cA 20 gMkinds_103, ar (ad 3) cA 20 gMlates_103, ar (ad 4) cA 20 gMscarfs_103, ar (ad 5) cA 20 gMhands_103, ar (ad 6) cA 20 gMrings_103, ar (ad 7) cA 20 gMmains_103, ar (ad 8) cA 4 gMaheadOf_103, ar (ad 9) cA 4 gMlastIn_103, ar (ad 10) cA 4 gMmanyIn_103, ar (ad 11) cA 3 gMsetting, ar (ad 13) cA 8020 gMcomes_103, ar (ad 14) cA 20 gMbusyTo_103, ar (ad 15) cA 20 gMfeltMany_103, ar (ad 16) cA 8020 gMfeltBits_103, ar (ad 17) cA 8020 gMlostBits_103, ar (ad 26) cA 100 gMborn] H → va_D A [oM ad xM_typed xM_people_103 xM_posted xM_hears xM_censuses xM_finding, ar (ad 1) cA 60 gMtext, ar (ad 2) cA 20 gMkinds_103, ar (ad 3) cA 20 gMlates_103, ar (ad 4) cA 20 gMscarfs_103, ar (ad 5) cA 20 gMhands_103, ar (ad 6) cA 20 gMrings_103, ar (ad 7) cA 20 gMmains_103, ar (ad 8) cA 4 gMaheadOf_103, ar (ad 9) cA 4 gMlastIn_103, ar (ad 10) cA 4 gMmanyIn_103, ar (ad 11) cA 3 gMsetting, ar (ad 13) cA 8020 gMcomes_103, ar (ad 14) cA 20 gMbusyTo_103, ar (ad 15) cA 20 gMfeltMany_103, ar (ad 16) cA 8020 gMfeltBits_103, ar (ad 17) cA 8020 gMlostBits_103, ar (ad 26) cA 100 gMborn] → va_S A s.heap H locs → ∀ ls : Array Slot, lv_has ls 4 [(0, .ref (ad 0)), (1, .int v1_103), (2, .int v2_103)] → W p l e (headSpec wsX10_sumOf ({ frames := 5, cells := 0, slots := 0, locals := 124 })).room s m ([.ref (ad 0), .int a1] : List Value).toArray below meth c H locs 0 0 QQ (F0 m 103 ls []) := by
    intro v1_103 v2_103 xM_people_103 gMkinds_103 gMlates_103 gMscarfs_103 gMhands_103 gMrings_103 gMmains_103 gMaheadOf_103 gMlastIn_103 gMmanyIn_103 gMcomes_103 gMbusyTo_103 gMfeltMany_103 gMfeltBits_103 gMlostBits_103 hm H locs hP hD hS ls hl
    unfold fM_sumOf_103 at hm
    refine lv_iload_n hx hb dX10_sumOf_103 rfl (lv_at hl 1 rfl) ?_
    refine lv_if_ne (tgt := 114) hx hb dX10_sumOf_104 (by decide) (fun c_1 => ?_) (fun c_1 => ?_)
    · have hm := it_neg c_1 hm
      refine lv_iload_n hx hb dX10_sumOf_114 rfl (lv_at hl 1 rfl) ?_
      refine lv_iconst (v := 3) hx hb dX10_sumOf_115 (by decide) ?_
      refine lv_icmp_ne (tgt := 125) hx hb dX10_sumOf_116 (by decide) (fun c_2 => ?_) (fun c_2 => ?_)
      · have hm := it_neg c_2 hm
        refine lv_iload_n hx hb dX10_sumOf_125 rfl (lv_at hl 2 rfl) ?_
        obtain rfl := Option.some.inj hm
        subst hQ
        exact W.iret (v := v2_103) hx hb hr (fun t ht hW => ⟨⟨_, (), rfl, rfl, by rw [ht]; exact hP, va_K.moved hW.alike hK, hAe ▸ hD⟩, hS.F ht⟩) hS.2.2 dX10_sumOf_126
      · have hm := it_pos c_2 hm
        refine lv_iload_n hx hb dX10_sumOf_119 rfl (lv_at hl 2 rfl) ?_
        refine lv_iconst (v := 2) hx hb dX10_sumOf_120 (by decide) ?_
        refine lv_idiv hx hb dX10_sumOf_121 (by decide) ?_
        refine lv_goto (tgt := 126) hx hb dX10_sumOf_122 (by decide) ?_
        obtain rfl := Option.some.inj hm
        subst hQ
        exact W.iret (v := (v2_103 / 2)) hx hb hr (fun t ht hW => ⟨⟨_, (), rfl, rfl, by rw [ht]; exact hP, va_K.moved hW.alike hK, hAe ▸ hD⟩, hS.F ht⟩) hS.2.2 dX10_sumOf_126
    · have hm := it_pos c_1 hm
      refine lv_aload_n hx hb dX10_sumOf_107 rfl (lv_at hl 0 rfl) ?_
      refine va_get (D := (dC, dI)) (ci := 10) (v := .int xM_people_103) (C := RX10) (T := TX10) (N := 37) hx hb hts hinX10 hown hK hP 0 rfl rfl 2 (by decide) hl_112 (fun _ h9 => h9) rfl dX10_sumOf_108 ?_
      refine lv_goto (tgt := 126) hx hb dX10_sumOf_111 (by decide) ?_
      obtain rfl := Option.some.inj hm
      subst hQ
      exact W.iret (v := xM_people_103) hx hb hr (fun t ht hW => ⟨⟨_, (), rfl, rfl, by rw [ht]; exact hP, va_K.moved hW.alike hK, hAe ▸ hD⟩, hS.F ht⟩) hS.2.2 dX10_sumOf_126
  have h_76 : ∀ (v1_76 : Int32) (xM_people_76 : Int32) (gMkinds_76 : Nat → Int32) (gMlates_76 : Nat → Int32) (gMscarfs_76 : Nat → Int32) (gMhands_76 : Nat → Int32) (gMrings_76 : Nat → Int32) (gMmains_76 : Nat → Int32) (gMaheadOf_76 : Nat → Int32) (gMlastIn_76 : Nat → Int32) (gMmanyIn_76 : Nat → Int32) (gMcomes_76 : Nat → Int32) (gMbusyTo_76 : Nat → Int32) (gMfeltMany_76 : Nat → Int32) (gMfeltBits_76 : Nat → Int32) (gMlostBits_76 : Nat → Int32), ∀ (n_76 : Nat), ∀ (v2_76 : Int32) (v3_76 : Int32), fM_sumOf_76 v1_76 xM_people_76 gMkinds_76 gMlates_76 gMscarfs_76 gMhands_76 gMrings_76 gMmains_76 gMaheadOf_76 gMlastIn_76 gMmanyIn_76 gMcomes_76 gMbusyTo_76 gMfeltMany_76 gMfeltBits_76 gMlostBits_76 gMborn n_76 v2_76 v3_76 = some u → ∀ (H : Heap) (locs : List Loc), va_P (dC, dI) vwCl [oM ad xM_typed xM_people_76 xM_posted xM_hears xM_censuses xM_finding, ar (ad 1) cA 60 gMtext, ar (ad 2) cA 20 gMkinds_76, ar (ad 3) cA 20 gMlates_76, ar (ad 4) cA 20 gMscarfs_76, ar (ad 5) cA 20 gMhands_76, ar (ad 6) cA 20 gMrings_76, ar (ad 7) cA 20 gMmains_76, ar (ad 8) cA 4 gMaheadOf_76, ar (ad 9) cA 4 gMlastIn_76, ar (ad 10) cA 4 gMmanyIn_76, ar (ad 11) cA 3 gMsetting, ar (ad 13) cA 8020 gMcomes_76, ar (ad 14) cA 20 gMbusyTo_76, ar (ad 15) cA 20 gMfeltMany_76, ar (ad 16) cA 8020 gMfeltBits_76, ar (ad 17) cA 8020 gMlostBits_76, ar (ad 26) cA 100 gMborn] H → va_D A [oM ad xM_typed xM_people_76 xM_posted xM_hears xM_censuses xM_finding, ar (ad 1) cA 60 gMtext, ar (ad 2) cA 20 gMkinds_76, ar (ad 3) cA 20 gMlates_76, ar (ad 4) cA 20 gMscarfs_76, ar (ad 5) cA 20 gMhands_76, ar (ad 6) cA 20 gMrings_76, ar (ad 7) cA 20 gMmains_76, ar (ad 8) cA 4 gMaheadOf_76, ar (ad 9) cA 4 gMlastIn_76, ar (ad 10) cA 4 gMmanyIn_76, ar (ad 11) cA 3 gMsetting, ar (ad 13) cA 8020 gMcomes_76, ar (ad 14) cA 20 gMbusyTo_76, ar (ad 15) cA 20 gMfeltMany_76, ar (ad 16) cA 8020 gMfeltBits_76, ar (ad 17) cA 8020 gMlostBits_76, ar (ad 26) cA 100 gMborn] → va_S A s.heap H locs → ∀ ls : Array Slot, lv_has ls 4 [(0, .ref (ad 0)), (1, .int v1_76), (2, .int v2_76), (3, .int v3_76)] → W p l e (headSpec wsX10_sumOf ({ frames := 5, cells := 0, slots := 0, locals := 124 })).room s m ([.ref (ad 0), .int a1] : List Value).toArray below meth c H locs 0 0 QQ (F0 m 76 ls []) := by
    intro v1_76 xM_people_76 gMkinds_76 gMlates_76 gMscarfs_76 gMhands_76 gMrings_76 gMmains_76 gMaheadOf_76 gMlastIn_76 gMmanyIn_76 gMcomes_76 gMbusyTo_76 gMfeltMany_76 gMfeltBits_76 gMlostBits_76
    intro n_76
    induction n_76 with
    | zero => intro v2_76 v3_76 hm; have hm : (none : Option (Int32 × Int32 × (Nat → Int32) × (Nat → Int32) × (Nat → Int32) × (Nat → Int32) × (Nat → Int32) × (Nat → Int32) × (Nat → Int32) × (Nat → Int32) × (Nat → Int32) × (Nat → Int32) × (Nat → Int32) × (Nat → Int32) × (Nat → Int32) × (Nat → Int32))) = some u := hm; cases hm
    | succ n_76 ih_76 =>
      intro v2_76 v3_76 hm H locs hP hD hS ls hl
      have hm : fM_sumOf_76_b  (fM_sumOf_76  v1_76 xM_people_76 gMkinds_76 gMlates_76 gMscarfs_76 gMhands_76 gMrings_76 gMmains_76 gMaheadOf_76 gMlastIn_76 gMmanyIn_76 gMcomes_76 gMbusyTo_76 gMfeltMany_76 gMfeltBits_76 gMlostBits_76 gMborn n_76) v1_76 xM_people_76 gMkinds_76 gMlates_76 gMscarfs_76 gMhands_76 gMrings_76 gMmains_76 gMaheadOf_76 gMlastIn_76 gMmanyIn_76 gMcomes_76 gMbusyTo_76 gMfeltMany_76 gMfeltBits_76 gMlostBits_76 gMborn v2_76 v3_76 = some u := hm
      unfold fM_sumOf_76_b at hm
      refine lv_iload_n hx hb dX10_sumOf_76 rfl (lv_at hl 3 rfl) ?_
      refine lv_bipush (v := 100) hx hb dX10_sumOf_77 (by decide) ?_
      refine lv_icmp_ge (tgt := 103) hx hb dX10_sumOf_79 (by decide) (fun c_4 => ?_) (fun c_4 => ?_)
      · have hm := it_pos c_4 hm
        exact b_103 _ _ _ _ _ _ _ _ _ _ _ _ _ _ _ _ _ hm _ _ hP hD hS _ (lv_sub hl [0, 1, 2] rfl)
      · have hm := it_neg c_4 hm
        refine lv_iload_n hx hb dX10_sumOf_82 rfl (lv_at hl 1 rfl) ?_
        refine lv_bipush (v := 6) hx hb dX10_sumOf_83 (by decide) ?_
        refine lv_icmp_ne (tgt := 103) hx hb dX10_sumOf_85 (by decide) (fun c_5 => ?_) (fun c_5 => ?_)
        · have hm := it_neg c_5 hm
          exact b_103 _ _ _ _ _ _ _ _ _ _ _ _ _ _ _ _ _ hm _ _ hP hD hS _ (lv_sub hl [0, 1, 2] rfl)
        · have hm := it_pos c_5 hm
          refine lv_iload_n hx hb dX10_sumOf_88 rfl (lv_at hl 2 rfl) ?_
          refine lv_aload_n hx hb dX10_sumOf_89 rfl (lv_at hl 0 rfl) ?_
          refine va_get (D := (dC, dI)) (ci := 10) (v := .ref (ad 26)) (C := RX10) (T := TX10) (N := 37) hx hb hts hinX10 hown hK hP 0 rfl rfl 30 (by decide) hl_85 (fun _ h9 => h9) rfl dX10_sumOf_90 ?_
          refine lv_iload_n hx hb dX10_sumOf_93 rfl (lv_at hl 3 rfl) ?_
          obtain ⟨i_6, hm⟩ := ck_ok hm
          refine va_iald hx hb hK hP 17 0 rfl rfl i_6 dX10_sumOf_94 ?_
          refine lv_iadd hx hb dX10_sumOf_95 ?_
          refine lv_istore_n (lv' := [(2, .int (v2_76 + (gMborn v3_76.toNatClampNeg))), (0, .ref (ad 0)), (1, .int v1_76), (3, .int v3_76)]) hx hb dX10_sumOf_96 rfl hl (by decide) rfl (fun ls hl => ?_)
          refine lv_iinc (v := (v3_76 + 1)) (lv' := [(3, .int (v3_76 + 1)), (2, .int (v2_76 + (gMborn v3_76.toNatClampNeg))), (0, .ref (ad 0)), (1, .int v1_76)]) hx hb dX10_sumOf_97 hl (k := 3) rfl rfl (by decide) rfl (fun ls hl => ?_)
          refine lv_goto (tgt := 76) hx hb dX10_sumOf_100 (by decide) ?_
          exact ih_76 _ _ hm _ _ hP hD hS _ (lv_sub hl [2, 3, 1, 0] rfl)
  have h_8 : ∀ (v1_8 : Int32) (xM_people_8 : Int32) (gMkinds_8 : Nat → Int32) (gMlates_8 : Nat → Int32) (gMscarfs_8 : Nat → Int32) (gMhands_8 : Nat → Int32) (gMrings_8 : Nat → Int32) (gMmains_8 : Nat → Int32) (gMaheadOf_8 : Nat → Int32) (gMlastIn_8 : Nat → Int32) (gMmanyIn_8 : Nat → Int32) (gMcomes_8 : Nat → Int32) (gMbusyTo_8 : Nat → Int32) (gMfeltMany_8 : Nat → Int32) (gMfeltBits_8 : Nat → Int32) (gMlostBits_8 : Nat → Int32), ∀ (n_8 : Nat), ∀ (v2_8 : Int32) (v3_8 : Int32), fM_sumOf_8 v1_8 xM_people_8 gMkinds_8 gMlates_8 gMscarfs_8 gMhands_8 gMrings_8 gMmains_8 gMaheadOf_8 gMlastIn_8 gMmanyIn_8 gMcomes_8 gMbusyTo_8 gMfeltMany_8 gMfeltBits_8 gMlostBits_8 gMborn n_8 v2_8 v3_8 = some u → ∀ (H : Heap) (locs : List Loc), va_P (dC, dI) vwCl [oM ad xM_typed xM_people_8 xM_posted xM_hears xM_censuses xM_finding, ar (ad 1) cA 60 gMtext, ar (ad 2) cA 20 gMkinds_8, ar (ad 3) cA 20 gMlates_8, ar (ad 4) cA 20 gMscarfs_8, ar (ad 5) cA 20 gMhands_8, ar (ad 6) cA 20 gMrings_8, ar (ad 7) cA 20 gMmains_8, ar (ad 8) cA 4 gMaheadOf_8, ar (ad 9) cA 4 gMlastIn_8, ar (ad 10) cA 4 gMmanyIn_8, ar (ad 11) cA 3 gMsetting, ar (ad 13) cA 8020 gMcomes_8, ar (ad 14) cA 20 gMbusyTo_8, ar (ad 15) cA 20 gMfeltMany_8, ar (ad 16) cA 8020 gMfeltBits_8, ar (ad 17) cA 8020 gMlostBits_8, ar (ad 26) cA 100 gMborn] H → va_D A [oM ad xM_typed xM_people_8 xM_posted xM_hears xM_censuses xM_finding, ar (ad 1) cA 60 gMtext, ar (ad 2) cA 20 gMkinds_8, ar (ad 3) cA 20 gMlates_8, ar (ad 4) cA 20 gMscarfs_8, ar (ad 5) cA 20 gMhands_8, ar (ad 6) cA 20 gMrings_8, ar (ad 7) cA 20 gMmains_8, ar (ad 8) cA 4 gMaheadOf_8, ar (ad 9) cA 4 gMlastIn_8, ar (ad 10) cA 4 gMmanyIn_8, ar (ad 11) cA 3 gMsetting, ar (ad 13) cA 8020 gMcomes_8, ar (ad 14) cA 20 gMbusyTo_8, ar (ad 15) cA 20 gMfeltMany_8, ar (ad 16) cA 8020 gMfeltBits_8, ar (ad 17) cA 8020 gMlostBits_8, ar (ad 26) cA 100 gMborn] → va_S A s.heap H locs → ∀ ls : Array Slot, lv_has ls 4 [(0, .ref (ad 0)), (1, .int v1_8), (2, .int v2_8), (3, .int v3_8)] → W p l e (headSpec wsX10_sumOf ({ frames := 5, cells := 0, slots := 0, locals := 124 })).room s m ([.ref (ad 0), .int a1] : List Value).toArray below meth c H locs 0 0 QQ (F0 m 8 ls []) := by
    intro v1_8 xM_people_8 gMkinds_8 gMlates_8 gMscarfs_8 gMhands_8 gMrings_8 gMmains_8 gMaheadOf_8 gMlastIn_8 gMmanyIn_8 gMcomes_8 gMbusyTo_8 gMfeltMany_8 gMfeltBits_8 gMlostBits_8
    intro n_8
    induction n_8 with
    | zero => intro v2_8 v3_8 hm; have hm : (none : Option (Int32 × Int32 × (Nat → Int32) × (Nat → Int32) × (Nat → Int32) × (Nat → Int32) × (Nat → Int32) × (Nat → Int32) × (Nat → Int32) × (Nat → Int32) × (Nat → Int32) × (Nat → Int32) × (Nat → Int32) × (Nat → Int32) × (Nat → Int32) × (Nat → Int32))) = some u := hm; cases hm
    | succ n_8 ih_8 =>
      have b_66 : ∀ (v3_66 : Int32) (s0_66 : Int32) (s1_66 : Int32), fM_sumOf_66 (fM_sumOf_8  v1_8 xM_people_8 gMkinds_8 gMlates_8 gMscarfs_8 gMhands_8 gMrings_8 gMmains_8 gMaheadOf_8 gMlastIn_8 gMmanyIn_8 gMcomes_8 gMbusyTo_8 gMfeltMany_8 gMfeltBits_8 gMlostBits_8 gMborn n_8) v1_8 v3_66 s0_66 s1_66 xM_people_8 gMkinds_8 gMlates_8 gMscarfs_8 gMhands_8 gMrings_8 gMmains_8 gMaheadOf_8 gMlastIn_8 gMmanyIn_8 gMcomes_8 gMbusyTo_8 gMfeltMany_8 gMfeltBits_8 gMlostBits_8 gMborn = some u → ∀ (H : Heap) (locs : List Loc), va_P (dC, dI) vwCl [oM ad xM_typed xM_people_8 xM_posted xM_hears xM_censuses xM_finding, ar (ad 1) cA 60 gMtext, ar (ad 2) cA 20 gMkinds_8, ar (ad 3) cA 20 gMlates_8, ar (ad 4) cA 20 gMscarfs_8, ar (ad 5) cA 20 gMhands_8, ar (ad 6) cA 20 gMrings_8, ar (ad 7) cA 20 gMmains_8, ar (ad 8) cA 4 gMaheadOf_8, ar (ad 9) cA 4 gMlastIn_8, ar (ad 10) cA 4 gMmanyIn_8, ar (ad 11) cA 3 gMsetting, ar (ad 13) cA 8020 gMcomes_8, ar (ad 14) cA 20 gMbusyTo_8, ar (ad 15) cA 20 gMfeltMany_8, ar (ad 16) cA 8020 gMfeltBits_8, ar (ad 17) cA 8020 gMlostBits_8, ar (ad 26) cA 100 gMborn] H → va_D A [oM ad xM_typed xM_people_8 xM_posted xM_hears xM_censuses xM_finding, ar (ad 1) cA 60 gMtext, ar (ad 2) cA 20 gMkinds_8, ar (ad 3) cA 20 gMlates_8, ar (ad 4) cA 20 gMscarfs_8, ar (ad 5) cA 20 gMhands_8, ar (ad 6) cA 20 gMrings_8, ar (ad 7) cA 20 gMmains_8, ar (ad 8) cA 4 gMaheadOf_8, ar (ad 9) cA 4 gMlastIn_8, ar (ad 10) cA 4 gMmanyIn_8, ar (ad 11) cA 3 gMsetting, ar (ad 13) cA 8020 gMcomes_8, ar (ad 14) cA 20 gMbusyTo_8, ar (ad 15) cA 20 gMfeltMany_8, ar (ad 16) cA 8020 gMfeltBits_8, ar (ad 17) cA 8020 gMlostBits_8, ar (ad 26) cA 100 gMborn] → va_S A s.heap H locs → ∀ ls : Array Slot, lv_has ls 4 [(0, .ref (ad 0)), (1, .int v1_8), (3, .int v3_66)] → W p l e (headSpec wsX10_sumOf ({ frames := 5, cells := 0, slots := 0, locals := 124 })).room s m ([.ref (ad 0), .int a1] : List Value).toArray below meth c H locs 0 0 QQ (F0 m 66 ls [.int s1_66, .int s0_66]) := by
        intro v3_66 s0_66 s1_66 hm H locs hP hD hS ls hl
        unfold fM_sumOf_66 at hm
        refine lv_iadd hx hb dX10_sumOf_66 ?_
        refine lv_istore_n (lv' := [(2, .int (s0_66 + s1_66)), (0, .ref (ad 0)), (1, .int v1_8), (3, .int v3_66)]) hx hb dX10_sumOf_67 rfl hl (by decide) rfl (fun ls hl => ?_)
        refine lv_iinc (v := (v3_66 + 1)) (lv' := [(3, .int (v3_66 + 1)), (2, .int (s0_66 + s1_66)), (0, .ref (ad 0)), (1, .int v1_8)]) hx hb dX10_sumOf_68 hl (k := 3) rfl rfl (by decide) rfl (fun ls hl => ?_)
        refine lv_goto (tgt := 8) hx hb dX10_sumOf_71 (by decide) ?_
        exact ih_8 _ _ hm _ _ hP hD hS _ (lv_sub hl [2, 3, 1, 0] rfl)
      intro v2_8 v3_8 hm H locs hP hD hS ls hl
      have hm : fM_sumOf_8_b  (fM_sumOf_8  v1_8 xM_people_8 gMkinds_8 gMlates_8 gMscarfs_8 gMhands_8 gMrings_8 gMmains_8 gMaheadOf_8 gMlastIn_8 gMmanyIn_8 gMcomes_8 gMbusyTo_8 gMfeltMany_8 gMfeltBits_8 gMlostBits_8 gMborn n_8) v1_8 xM_people_8 gMkinds_8 gMlates_8 gMscarfs_8 gMhands_8 gMrings_8 gMmains_8 gMaheadOf_8 gMlastIn_8 gMmanyIn_8 gMcomes_8 gMbusyTo_8 gMfeltMany_8 gMfeltBits_8 gMlostBits_8 gMborn v2_8 v3_8 = some u := hm
      unfold fM_sumOf_8_b at hm
      refine lv_iload_n hx hb dX10_sumOf_8 rfl (lv_at hl 3 rfl) ?_
      refine lv_aload_n hx hb dX10_sumOf_9 rfl (lv_at hl 0 rfl) ?_
      refine va_get (D := (dC, dI)) (ci := 10) (v := .int xM_people_8) (C := RX10) (T := TX10) (N := 37) hx hb hts hinX10 hown hK hP 0 rfl rfl 2 (by decide) hl_112 (fun _ h9 => h9) rfl dX10_sumOf_10 ?_
      refine lv_icmp_ge (tgt := 74) hx hb dX10_sumOf_13 (by decide) (fun c_7 => ?_) (fun c_7 => ?_)
      · have hm := it_pos c_7 hm
        refine lv_iconst (v := 0) hx hb dX10_sumOf_74 (by decide) ?_
        refine lv_istore_n (lv' := [(3, .int 0), (0, .ref (ad 0)), (1, .int v1_8), (2, .int v2_8)]) hx hb dX10_sumOf_75 rfl hl (by decide) rfl (fun ls hl => ?_)
        exact h_76 _ _ _ _ _ _ _ _ _ _ _ _ _ _ _ _ _ _ _ hm _ _ hP hD hS _ (lv_sub hl [1, 2, 3, 0] rfl)
      · have hm := it_neg c_7 hm
        refine lv_iload_n hx hb dX10_sumOf_16 rfl (lv_at hl 2 rfl) ?_
        refine lv_iload_n hx hb dX10_sumOf_17 rfl (lv_at hl 1 rfl) ?_
        refine lv_iconst (v := 2) hx hb dX10_sumOf_18 (by decide) ?_
        refine lv_icmp_ne (tgt := 31) hx hb dX10_sumOf_19 (by decide) (fun c_8 => ?_) (fun c_8 => ?_)
        · have hm := it_neg c_8 hm
          refine lv_iload_n hx hb dX10_sumOf_31 rfl (lv_at hl 1 rfl) ?_
          refine lv_iconst (v := 3) hx hb dX10_sumOf_32 (by decide) ?_
          refine lv_icmp_ne (tgt := 48) hx hb dX10_sumOf_33 (by decide) (fun c_9 => ?_) (fun c_9 => ?_)
          · have hm := it_neg c_9 hm
            refine lv_iload_n hx hb dX10_sumOf_48 rfl (lv_at hl 1 rfl) ?_
            refine lv_bipush (v := 7) hx hb dX10_sumOf_49 (by decide) ?_
            refine lv_icmp_ne (tgt := 65) hx hb dX10_sumOf_51 (by decide) (fun c_10 => ?_) (fun c_10 => ?_)
            · have hm := it_neg c_10 hm
              refine lv_iconst (v := 0) hx hb dX10_sumOf_65 (by decide) ?_
              exact b_66 _ _ _ hm _ _ hP hD hS _ (lv_sub hl [0, 1, 3] rfl)
            · have hm := it_pos c_10 hm
              refine lv_aload_n hx hb dX10_sumOf_54 rfl (lv_at hl 0 rfl) ?_
              refine lv_iload_n hx hb dX10_sumOf_55 rfl (lv_at hl 3 rfl) ?_
              refine lv_sipush (v := 400) hx hb dX10_sumOf_56 (by decide) ?_
              have hPc := hP.sub (ws' := [oM ad xM_typed xM_people_8 xM_posted xM_hears xM_censuses xM_finding, ar (ad 17) cA 8020 gMlostBits_8]) [0, 16] rfl
              have hDc := hD.sub (ws' := [oM ad xM_typed xM_people_8 xM_posted xM_hears xM_censuses xM_finding, ar (ad 17) cA 8020 gMlostBits_8]) [0, 16] (by decide) rfl
              have hFc := va_free (wc := [oM ad xM_typed xM_people_8 xM_posted xM_hears xM_censuses xM_finding, ar (ad 17) cA 8020 gMlostBits_8]) hD hS hA [0, 16] rfl
              obtain ⟨u_11, hc_11, hm⟩ := bd_ok hm
              refine va_calli (va_runV (As := [.int v3_8, .int 400]) (rest := [.int v2_8]) ⟨hx, hb, hml, hown, hts⟩ (kM_lostBy l dC dI cA cB ad H.size v3_8 400 xM_typed xM_people_8 xM_posted xM_hears xM_censuses xM_finding gMlostBits_8 u_11 hc_11) (cwV 2 hts gX10_sumOf_X10_lostBy rfl rfl rfl (by decide +kernel) ⟨Nat.le_of_ble_eq_true rfl, Nat.le_of_ble_eq_true rfl⟩) ⟨fun a U g mk q => by obtain ⟨q0, q1, qP, qK, qD⟩ := q; exact ⟨q0, q1, qP, va_K.moved (u := U) (U := U.calling g mk a) (Vm.Alike.refl U.vm) qK, qD⟩, va_recv hK hPc (ci := 10) (q0 := 0) rfl rfl, fun U hU hW => ⟨rfl, by rw [hU], by rw [hU]; exact hPc, va_K.moved hW.alike hK, hDc.weaken (fun _ _ _ _ => trivial)⟩⟩ rfl rfl hl.1 rfl (lv_room (Nat.le_of_ble_eq_true rfl)) dX10_sumOf_59 ⟨Nat.le_of_ble_eq_true rfl, Nat.le_of_ble_eq_true rfl⟩) hS (fun q _ h => hFc q h) hFc (fun r_11 _ t H1 locs ht hvm hw hB hz1 hk1 hS => ?_)
              obtain ⟨hP1, hK1, hD1⟩ := hB
              rw [ht] at hP1
              obtain ⟨hP, hD⟩ := va_join (wr := [ar (ad 1) cA 60 gMtext, ar (ad 2) cA 20 gMkinds_8, ar (ad 3) cA 20 gMlates_8, ar (ad 4) cA 20 gMscarfs_8, ar (ad 5) cA 20 gMhands_8, ar (ad 6) cA 20 gMrings_8, ar (ad 7) cA 20 gMmains_8, ar (ad 8) cA 4 gMaheadOf_8, ar (ad 9) cA 4 gMlastIn_8, ar (ad 10) cA 4 gMmanyIn_8, ar (ad 11) cA 3 gMsetting, ar (ad 13) cA 8020 gMcomes_8, ar (ad 14) cA 20 gMbusyTo_8, ar (ad 15) cA 20 gMfeltMany_8, ar (ad 16) cA 8020 gMfeltBits_8, ar (ad 26) cA 100 gMborn]) (w1 := [oM ad xM_typed xM_people_8 xM_posted xM_hears xM_censuses xM_finding, ar (ad 17) cA 8020 gMlostBits_8]) hP hD [0, 16] [1, 2, 3, 4, 5, 6, 7, 8, 9, 10, 11, 12, 13, 14, 15, 17] rfl rfl (by decide) (by decide) hk1 hFc hP1 hD1
              clear hPc hDc hFc hP1 hK1 hD1 hk1 hz1 hvm ht
              generalize H1 = H at hP hS ⊢
              have hP : va_P (dC, dI) vwCl [oM ad xM_typed xM_people_8 xM_posted xM_hears xM_censuses xM_finding, ar (ad 1) cA 60 gMtext, ar (ad 2) cA 20 gMkinds_8, ar (ad 3) cA 20 gMlates_8, ar (ad 4) cA 20 gMscarfs_8, ar (ad 5) cA 20 gMhands_8, ar (ad 6) cA 20 gMrings_8, ar (ad 7) cA 20 gMmains_8, ar (ad 8) cA 4 gMaheadOf_8, ar (ad 9) cA 4 gMlastIn_8, ar (ad 10) cA 4 gMmanyIn_8, ar (ad 11) cA 3 gMsetting, ar (ad 13) cA 8020 gMcomes_8, ar (ad 14) cA 20 gMbusyTo_8, ar (ad 15) cA 20 gMfeltMany_8, ar (ad 16) cA 8020 gMfeltBits_8, ar (ad 17) cA 8020 gMlostBits_8, ar (ad 26) cA 100 gMborn] H := hP.sub [16, 0, 1, 2, 3, 4, 5, 6, 7, 8, 9, 10, 11, 12, 13, 14, 17, 15] rfl
              have hD : va_D A [oM ad xM_typed xM_people_8 xM_posted xM_hears xM_censuses xM_finding, ar (ad 1) cA 60 gMtext, ar (ad 2) cA 20 gMkinds_8, ar (ad 3) cA 20 gMlates_8, ar (ad 4) cA 20 gMscarfs_8, ar (ad 5) cA 20 gMhands_8, ar (ad 6) cA 20 gMrings_8, ar (ad 7) cA 20 gMmains_8, ar (ad 8) cA 4 gMaheadOf_8, ar (ad 9) cA 4 gMlastIn_8, ar (ad 10) cA 4 gMmanyIn_8, ar (ad 11) cA 3 gMsetting, ar (ad 13) cA 8020 gMcomes_8, ar (ad 14) cA 20 gMbusyTo_8, ar (ad 15) cA 20 gMfeltMany_8, ar (ad 16) cA 8020 gMfeltBits_8, ar (ad 17) cA 8020 gMlostBits_8, ar (ad 26) cA 100 gMborn] := hD.sub [16, 0, 1, 2, 3, 4, 5, 6, 7, 8, 9, 10, 11, 12, 13, 14, 17, 15] (by decide) rfl
              have hw := hw.symm
              subst hw
              refine lv_goto (tgt := 66) hx hb dX10_sumOf_62 (by decide) ?_
              exact b_66 _ _ _ hm _ _ hP hD hS _ (lv_sub hl [0, 1, 3] rfl)
          · have hm := it_pos c_9 hm
            refine lv_aload_n hx hb dX10_sumOf_36 rfl (lv_at hl 0 rfl) ?_
            refine va_get (D := (dC, dI)) (ci := 10) (v := .ref (ad 5)) (C := RX10) (T := TX10) (N := 37) hx hb hts hinX10 hown hK hP 0 rfl rfl 6 (by decide) hl_22 (fun _ h9 => h9) rfl dX10_sumOf_37 ?_
            refine lv_iload_n hx hb dX10_sumOf_40 rfl (lv_at hl 3 rfl) ?_
            obtain ⟨i_12, hm⟩ := ck_ok hm
            refine va_iald hx hb hK hP 5 0 rfl rfl i_12 dX10_sumOf_41 ?_
            have hPc := hP.sub (ws' := []) [] rfl
            have hDc := hD.sub (ws' := []) [] (by decide) rfl
            have hFc := va_free (wc := []) hD hS hA [] rfl
            obtain ⟨u_13, hc_13, hm⟩ := bd_ok hm
            refine va_calli (va_runS (As := [.int (gMhands_8 v3_8.toNatClampNeg)]) (rest := [.int v2_8]) ⟨hx, hb, hml, hown, hts⟩ (kM_ones l dC dI cA cB ad H.size (gMhands_8 v3_8.toNatClampNeg) u_13 hc_13) (va_cwS 1 hts gX10_sumOf_X10_ones rfl rfl rfl (by decide +kernel) ⟨Nat.le_of_ble_eq_true rfl, Nat.le_of_ble_eq_true rfl⟩) ⟨fun a U g mk q => by obtain ⟨q0, q1, qP, qK, qD⟩ := q; exact ⟨q0, q1, qP, va_K.moved (u := U) (U := U.calling g mk a) (Vm.Alike.refl U.vm) qK, qD⟩, fun U hU hW => ⟨rfl, by rw [hU], by rw [hU]; exact hPc, va_K.moved hW.alike hK, hDc.weaken (fun _ _ _ _ => trivial)⟩⟩ rfl rfl hl.1 rfl (lv_room (Nat.le_of_ble_eq_true rfl)) dX10_sumOf_42 ⟨Nat.le_of_ble_eq_true rfl, Nat.le_of_ble_eq_true rfl⟩) hS (fun q _ h => hFc q h) hFc (fun r_13 _ t H1 locs ht hvm hw hB hz1 hk1 hS => ?_)
            obtain ⟨hP1, hK1, hD1⟩ := hB
            rw [ht] at hP1
            obtain ⟨hP, hD⟩ := va_join (wr := [oM ad xM_typed xM_people_8 xM_posted xM_hears xM_censuses xM_finding, ar (ad 1) cA 60 gMtext, ar (ad 2) cA 20 gMkinds_8, ar (ad 3) cA 20 gMlates_8, ar (ad 4) cA 20 gMscarfs_8, ar (ad 5) cA 20 gMhands_8, ar (ad 6) cA 20 gMrings_8, ar (ad 7) cA 20 gMmains_8, ar (ad 8) cA 4 gMaheadOf_8, ar (ad 9) cA 4 gMlastIn_8, ar (ad 10) cA 4 gMmanyIn_8, ar (ad 11) cA 3 gMsetting, ar (ad 13) cA 8020 gMcomes_8, ar (ad 14) cA 20 gMbusyTo_8, ar (ad 15) cA 20 gMfeltMany_8, ar (ad 16) cA 8020 gMfeltBits_8, ar (ad 17) cA 8020 gMlostBits_8, ar (ad 26) cA 100 gMborn]) (w1 := []) hP hD [] [0, 1, 2, 3, 4, 5, 6, 7, 8, 9, 10, 11, 12, 13, 14, 15, 16, 17] rfl rfl (by decide) (by decide) hk1 hFc hP1 hD1
            clear hPc hDc hFc hP1 hK1 hD1 hk1 hz1 hvm ht
            generalize H1 = H at hP hS ⊢
            have hP : va_P (dC, dI) vwCl [oM ad xM_typed xM_people_8 xM_posted xM_hears xM_censuses xM_finding, ar (ad 1) cA 60 gMtext, ar (ad 2) cA 20 gMkinds_8, ar (ad 3) cA 20 gMlates_8, ar (ad 4) cA 20 gMscarfs_8, ar (ad 5) cA 20 gMhands_8, ar (ad 6) cA 20 gMrings_8, ar (ad 7) cA 20 gMmains_8, ar (ad 8) cA 4 gMaheadOf_8, ar (ad 9) cA 4 gMlastIn_8, ar (ad 10) cA 4 gMmanyIn_8, ar (ad 11) cA 3 gMsetting, ar (ad 13) cA 8020 gMcomes_8, ar (ad 14) cA 20 gMbusyTo_8, ar (ad 15) cA 20 gMfeltMany_8, ar (ad 16) cA 8020 gMfeltBits_8, ar (ad 17) cA 8020 gMlostBits_8, ar (ad 26) cA 100 gMborn] H := hP
            have hD : va_D A [oM ad xM_typed xM_people_8 xM_posted xM_hears xM_censuses xM_finding, ar (ad 1) cA 60 gMtext, ar (ad 2) cA 20 gMkinds_8, ar (ad 3) cA 20 gMlates_8, ar (ad 4) cA 20 gMscarfs_8, ar (ad 5) cA 20 gMhands_8, ar (ad 6) cA 20 gMrings_8, ar (ad 7) cA 20 gMmains_8, ar (ad 8) cA 4 gMaheadOf_8, ar (ad 9) cA 4 gMlastIn_8, ar (ad 10) cA 4 gMmanyIn_8, ar (ad 11) cA 3 gMsetting, ar (ad 13) cA 8020 gMcomes_8, ar (ad 14) cA 20 gMbusyTo_8, ar (ad 15) cA 20 gMfeltMany_8, ar (ad 16) cA 8020 gMfeltBits_8, ar (ad 17) cA 8020 gMlostBits_8, ar (ad 26) cA 100 gMborn] := hD
            have hw := hw.symm
            subst hw
            refine lv_goto (tgt := 66) hx hb dX10_sumOf_45 (by decide) ?_
            exact b_66 _ _ _ hm _ _ hP hD hS _ (lv_sub hl [0, 1, 3] rfl)
        · have hm := it_pos c_8 hm
          refine lv_aload_n hx hb dX10_sumOf_22 rfl (lv_at hl 0 rfl) ?_
          refine va_get (D := (dC, dI)) (ci := 10) (v := .ref (ad 7)) (C := RX10) (T := TX10) (N := 37) hx hb hts hinX10 hown hK hP 0 rfl rfl 8 (by decide) hl_28 (fun _ h9 => h9) rfl dX10_sumOf_23 ?_
          refine lv_iload_n hx hb dX10_sumOf_26 rfl (lv_at hl 3 rfl) ?_
          obtain ⟨i_14, hm⟩ := ck_ok hm
          refine va_iald hx hb hK hP 7 0 rfl rfl i_14 dX10_sumOf_27 ?_
          refine lv_goto (tgt := 66) hx hb dX10_sumOf_28 (by decide) ?_
          exact b_66 _ _ _ hm _ _ hP hD hS _ (lv_sub hl [0, 1, 3] rfl)
  unfold fM_sumOf at hm
  refine lv_aload_n hx hb dX10_sumOf_0 rfl (lv_at hl 0 rfl) ?_
  have hPc := hP.sub (ws' := [oM ad xM_typed xM_people xM_posted xM_hears xM_censuses xM_finding, ar (ad 1) cA 60 gMtext, ar (ad 2) cA 20 gMkinds, ar (ad 3) cA 20 gMlates, ar (ad 4) cA 20 gMscarfs, ar (ad 5) cA 20 gMhands, ar (ad 6) cA 20 gMrings, ar (ad 7) cA 20 gMmains, ar (ad 8) cA 4 gMaheadOf, ar (ad 9) cA 4 gMlastIn, ar (ad 10) cA 4 gMmanyIn, ar (ad 11) cA 3 gMsetting, ar (ad 13) cA 8020 gMcomes, ar (ad 14) cA 20 gMbusyTo, ar (ad 15) cA 20 gMfeltMany, ar (ad 16) cA 8020 gMfeltBits, ar (ad 17) cA 8020 gMlostBits]) [0, 1, 2, 3, 4, 5, 6, 7, 8, 9, 10, 11, 12, 13, 14, 15, 16] rfl
  have hDc := hD.sub (ws' := [oM ad xM_typed xM_people xM_posted xM_hears xM_censuses xM_finding, ar (ad 1) cA 60 gMtext, ar (ad 2) cA 20 gMkinds, ar (ad 3) cA 20 gMlates, ar (ad 4) cA 20 gMscarfs, ar (ad 5) cA 20 gMhands, ar (ad 6) cA 20 gMrings, ar (ad 7) cA 20 gMmains, ar (ad 8) cA 4 gMaheadOf, ar (ad 9) cA 4 gMlastIn, ar (ad 10) cA 4 gMmanyIn, ar (ad 11) cA 3 gMsetting, ar (ad 13) cA 8020 gMcomes, ar (ad 14) cA 20 gMbusyTo, ar (ad 15) cA 20 gMfeltMany, ar (ad 16) cA 8020 gMfeltBits, ar (ad 17) cA 8020 gMlostBits]) [0, 1, 2, 3, 4, 5, 6, 7, 8, 9, 10, 11, 12, 13, 14, 15, 16] (by decide) rfl
  have hFc := va_free (wc := [oM ad xM_typed xM_people xM_posted xM_hears xM_censuses xM_finding, ar (ad 1) cA 60 gMtext, ar (ad 2) cA 20 gMkinds, ar (ad 3) cA 20 gMlates, ar (ad 4) cA 20 gMscarfs, ar (ad 5) cA 20 gMhands, ar (ad 6) cA 20 gMrings, ar (ad 7) cA 20 gMmains, ar (ad 8) cA 4 gMaheadOf, ar (ad 9) cA 4 gMlastIn, ar (ad 10) cA 4 gMmanyIn, ar (ad 11) cA 3 gMsetting, ar (ad 13) cA 8020 gMcomes, ar (ad 14) cA 20 gMbusyTo, ar (ad 15) cA 20 gMfeltMany, ar (ad 16) cA 8020 gMfeltBits, ar (ad 17) cA 8020 gMlostBits]) hD hS hA [0, 1, 2, 3, 4, 5, 6, 7, 8, 9, 10, 11, 12, 13, 14, 15, 16] rfl
  obtain ⟨u_15, hc_15, hm⟩ := bd_ok hm
  refine va_callv (va_runV (As := []) (rest := []) ⟨hx, hb, hml, hown, hts⟩ (kM_lays l dC dI cA cB ad s.heap.size xM_typed xM_people xM_posted xM_hears xM_censuses xM_finding gMtext gMkinds gMlates gMscarfs gMhands gMrings gMmains gMaheadOf gMlastIn gMmanyIn gMsetting gMcomes gMbusyTo gMfeltMany gMfeltBits gMlostBits u_15 hc_15) (cwV 0 hts gX10_sumOf_X10_lays rfl rfl rfl (by decide +kernel) ⟨Nat.le_of_ble_eq_true rfl, Nat.le_of_ble_eq_true rfl⟩) ⟨fun a U g mk q => by obtain ⟨q0, q1, qP, qK, qD⟩ := q; exact ⟨q0, q1, qP, va_K.moved (u := U) (U := U.calling g mk a) (Vm.Alike.refl U.vm) qK, qD⟩, va_recv hK hPc (ci := 10) (q0 := 0) rfl rfl, fun U hU hW => ⟨rfl, by rw [hU], by rw [hU]; exact hPc, va_K.moved hW.alike hK, hDc.weaken (fun _ _ _ _ => trivial)⟩⟩ rfl rfl hl.1 rfl (lv_room (Nat.le_of_ble_eq_true rfl)) dX10_sumOf_1 ⟨Nat.le_of_ble_eq_true rfl, Nat.le_of_ble_eq_true rfl⟩) hS (fun q _ h => hFc q h) hFc (fun _ t H1 locs ht hvm hw hB hz1 hk1 hS => ?_)
  obtain ⟨hP1, hK1, hD1⟩ := hB
  rw [ht] at hP1
  obtain ⟨hP, hD⟩ := va_join (wr := [ar (ad 26) cA 100 gMborn]) (w1 := [oM ad xM_typed u_15.1 xM_posted xM_hears xM_censuses xM_finding, ar (ad 1) cA 60 gMtext, ar (ad 2) cA 20 u_15.2.1, ar (ad 3) cA 20 u_15.2.2.1, ar (ad 4) cA 20 u_15.2.2.2.1, ar (ad 5) cA 20 u_15.2.2.2.2.1, ar (ad 6) cA 20 u_15.2.2.2.2.2.1, ar (ad 7) cA 20 u_15.2.2.2.2.2.2.1, ar (ad 8) cA 4 u_15.2.2.2.2.2.2.2.1, ar (ad 9) cA 4 u_15.2.2.2.2.2.2.2.2.1, ar (ad 10) cA 4 u_15.2.2.2.2.2.2.2.2.2.1, ar (ad 11) cA 3 gMsetting, ar (ad 13) cA 8020 u_15.2.2.2.2.2.2.2.2.2.2.1, ar (ad 14) cA 20 u_15.2.2.2.2.2.2.2.2.2.2.2.1, ar (ad 15) cA 20 u_15.2.2.2.2.2.2.2.2.2.2.2.2.1, ar (ad 16) cA 8020 u_15.2.2.2.2.2.2.2.2.2.2.2.2.2.1, ar (ad 17) cA 8020 u_15.2.2.2.2.2.2.2.2.2.2.2.2.2.2]) hP hD [0, 1, 2, 3, 4, 5, 6, 7, 8, 9, 10, 11, 12, 13, 14, 15, 16] [17] rfl rfl (by decide) (by decide) hk1 hFc hP1 hD1
  clear hPc hDc hFc hP1 hK1 hD1 hk1 hz1 hvm ht
  generalize H1 = H at hP hS ⊢
  have hP : va_P (dC, dI) vwCl [oM ad xM_typed u_15.1 xM_posted xM_hears xM_censuses xM_finding, ar (ad 1) cA 60 gMtext, ar (ad 2) cA 20 u_15.2.1, ar (ad 3) cA 20 u_15.2.2.1, ar (ad 4) cA 20 u_15.2.2.2.1, ar (ad 5) cA 20 u_15.2.2.2.2.1, ar (ad 6) cA 20 u_15.2.2.2.2.2.1, ar (ad 7) cA 20 u_15.2.2.2.2.2.2.1, ar (ad 8) cA 4 u_15.2.2.2.2.2.2.2.1, ar (ad 9) cA 4 u_15.2.2.2.2.2.2.2.2.1, ar (ad 10) cA 4 u_15.2.2.2.2.2.2.2.2.2.1, ar (ad 11) cA 3 gMsetting, ar (ad 13) cA 8020 u_15.2.2.2.2.2.2.2.2.2.2.1, ar (ad 14) cA 20 u_15.2.2.2.2.2.2.2.2.2.2.2.1, ar (ad 15) cA 20 u_15.2.2.2.2.2.2.2.2.2.2.2.2.1, ar (ad 16) cA 8020 u_15.2.2.2.2.2.2.2.2.2.2.2.2.2.1, ar (ad 17) cA 8020 u_15.2.2.2.2.2.2.2.2.2.2.2.2.2.2, ar (ad 26) cA 100 gMborn] H := hP.sub [1, 2, 3, 4, 5, 6, 7, 8, 9, 10, 11, 12, 13, 14, 15, 16, 17, 0] rfl
  have hD : va_D A [oM ad xM_typed u_15.1 xM_posted xM_hears xM_censuses xM_finding, ar (ad 1) cA 60 gMtext, ar (ad 2) cA 20 u_15.2.1, ar (ad 3) cA 20 u_15.2.2.1, ar (ad 4) cA 20 u_15.2.2.2.1, ar (ad 5) cA 20 u_15.2.2.2.2.1, ar (ad 6) cA 20 u_15.2.2.2.2.2.1, ar (ad 7) cA 20 u_15.2.2.2.2.2.2.1, ar (ad 8) cA 4 u_15.2.2.2.2.2.2.2.1, ar (ad 9) cA 4 u_15.2.2.2.2.2.2.2.2.1, ar (ad 10) cA 4 u_15.2.2.2.2.2.2.2.2.2.1, ar (ad 11) cA 3 gMsetting, ar (ad 13) cA 8020 u_15.2.2.2.2.2.2.2.2.2.2.1, ar (ad 14) cA 20 u_15.2.2.2.2.2.2.2.2.2.2.2.1, ar (ad 15) cA 20 u_15.2.2.2.2.2.2.2.2.2.2.2.2.1, ar (ad 16) cA 8020 u_15.2.2.2.2.2.2.2.2.2.2.2.2.2.1, ar (ad 17) cA 8020 u_15.2.2.2.2.2.2.2.2.2.2.2.2.2.2, ar (ad 26) cA 100 gMborn] := hD.sub [1, 2, 3, 4, 5, 6, 7, 8, 9, 10, 11, 12, 13, 14, 15, 16, 17, 0] (by decide) rfl
  refine lv_iconst (v := 0) hx hb dX10_sumOf_4 (by decide) ?_
  refine lv_istore_n (lv' := [(2, .int 0), (0, .ref (ad 0)), (1, .int a1)]) hx hb dX10_sumOf_5 rfl hl (by decide) rfl (fun ls hl => ?_)
  refine lv_iconst (v := 0) hx hb dX10_sumOf_6 (by decide) ?_
  refine lv_istore_n (lv' := [(3, .int 0), (2, .int 0), (0, .ref (ad 0)), (1, .int a1)]) hx hb dX10_sumOf_7 rfl hl (by decide) rfl (fun ls hl => ?_)
  exact h_8 _ _ _ _ _ _ _ _ _ _ _ _ _ _ _ _ _ _ _ hm _ _ hP hD hS _ (lv_sub hl [2, 3, 1, 0] rfl)
