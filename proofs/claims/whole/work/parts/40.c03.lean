set_option maxHeartbeats 4000000 in
set_option maxRecDepth 100000 in
theorem kM_passedOf (l : Launch) (dC : Nat → ClassId) (dI : Nat → Nat → Nat) (cA : ClassId) (cB : ClassId) (ad : Nat → Nat) (sz : Nat) (a1 : Int32) (xM_typed : Int32) (xM_people : Int32) (xM_posted : Int32) (xM_hears : Int32) (xM_censuses : Int32) (xM_finding : Int32) (gMtext : Nat → Int32) (gMkinds : Nat → Int32) (gMlates : Nat → Int32) (gMscarfs : Nat → Int32) (gMhands : Nat → Int32) (gMrings : Nat → Int32) (gMmains : Nat → Int32) (gMaheadOf : Nat → Int32) (gMlastIn : Nat → Int32) (gMmanyIn : Nat → Int32) (gMsetting : Nat → Int32) (gMcomes : Nat → Int32) (gMbusyTo : Nat → Int32) (gMfeltMany : Nat → Int32) (gMfeltBits : Nat → Int32) (gMlostBits : Nat → Int32) (u : Int32 × Int32 × (Nat → Int32) × (Nat → Int32) × (Nat → Int32) × (Nat → Int32) × (Nat → Int32) × (Nat → Int32) × (Nat → Int32) × (Nat → Int32) × (Nat → Int32) × (Nat → Int32) × (Nat → Int32) × (Nat → Int32) × (Nat → Int32) × (Nat → Int32)) (hm : fM_passedOf a1 xM_typed xM_people gMtext gMkinds gMlates gMscarfs gMhands gMrings gMmains gMaheadOf gMlastIn gMmanyIn gMsetting gMcomes gMbusyTo gMfeltMany gMfeltBits gMlostBits = some u) : Met l yX10_passedOf wsX10_passedOf ({ frames := 5, cells := 0, slots := 0, locals := 124 }) (va_Pc [.ref (ad 0), .int a1] (fun U => U.heap.size = sz ∧ va_P (dC, dI) vwCl [oM ad xM_typed xM_people xM_posted xM_hears xM_censuses xM_finding, ar (ad 1) cA 60 gMtext, ar (ad 2) cA 20 gMkinds, ar (ad 3) cA 20 gMlates, ar (ad 4) cA 20 gMscarfs, ar (ad 5) cA 20 gMhands, ar (ad 6) cA 20 gMrings, ar (ad 7) cA 20 gMmains, ar (ad 8) cA 4 gMaheadOf, ar (ad 9) cA 4 gMlastIn, ar (ad 10) cA 4 gMmanyIn, ar (ad 11) cA 3 gMsetting, ar (ad 13) cA 8020 gMcomes, ar (ad 14) cA 20 gMbusyTo, ar (ad 15) cA 20 gMfeltMany, ar (ad 16) cA 8020 gMfeltBits, ar (ad 17) cA 8020 gMlostBits] U.heap ∧ va_K (dC, dI) vwCl [(cA, .int), (cB, .boolean)] U ∧ va_D (fun _ => True) [oM ad xM_typed xM_people xM_posted xM_hears xM_censuses xM_finding, ar (ad 1) cA 60 gMtext, ar (ad 2) cA 20 gMkinds, ar (ad 3) cA 20 gMlates, ar (ad 4) cA 20 gMscarfs, ar (ad 5) cA 20 gMhands, ar (ad 6) cA 20 gMrings, ar (ad 7) cA 20 gMmains, ar (ad 8) cA 4 gMaheadOf, ar (ad 9) cA 4 gMlastIn, ar (ad 10) cA 4 gMmanyIn, ar (ad 11) cA 3 gMsetting, ar (ad 13) cA 8020 gMcomes, ar (ad 14) cA 20 gMbusyTo, ar (ad 15) cA 20 gMfeltMany, ar (ad 16) cA 8020 gMfeltBits, ar (ad 17) cA 8020 gMlostBits])) (va_Qi (fun (r : Int32) (_ : Unit) => r = u.1) (fun (_ : Unit) t => va_P (dC, dI) vwCl [oM ad xM_typed u.2.1 xM_posted xM_hears xM_censuses xM_finding, ar (ad 1) cA 60 gMtext, ar (ad 2) cA 20 u.2.2.1, ar (ad 3) cA 20 u.2.2.2.1, ar (ad 4) cA 20 u.2.2.2.2.1, ar (ad 5) cA 20 u.2.2.2.2.2.1, ar (ad 6) cA 20 u.2.2.2.2.2.2.1, ar (ad 7) cA 20 u.2.2.2.2.2.2.2.1, ar (ad 8) cA 4 u.2.2.2.2.2.2.2.2.1, ar (ad 9) cA 4 u.2.2.2.2.2.2.2.2.2.1, ar (ad 10) cA 4 u.2.2.2.2.2.2.2.2.2.2.1, ar (ad 11) cA 3 gMsetting, ar (ad 13) cA 8020 u.2.2.2.2.2.2.2.2.2.2.2.1, ar (ad 14) cA 20 u.2.2.2.2.2.2.2.2.2.2.2.2.1, ar (ad 15) cA 20 u.2.2.2.2.2.2.2.2.2.2.2.2.2.1, ar (ad 16) cA 8020 u.2.2.2.2.2.2.2.2.2.2.2.2.2.2.1, ar (ad 17) cA 8020 u.2.2.2.2.2.2.2.2.2.2.2.2.2.2.2] t.heap ∧ va_K (dC, dI) vwCl [(cA, .int), (cB, .boolean)] t ∧ va_D (va_A [oM ad xM_typed xM_people xM_posted xM_hears xM_censuses xM_finding, ar (ad 1) cA 60 gMtext, ar (ad 2) cA 20 gMkinds, ar (ad 3) cA 20 gMlates, ar (ad 4) cA 20 gMscarfs, ar (ad 5) cA 20 gMhands, ar (ad 6) cA 20 gMrings, ar (ad 7) cA 20 gMmains, ar (ad 8) cA 4 gMaheadOf, ar (ad 9) cA 4 gMlastIn, ar (ad 10) cA 4 gMmanyIn, ar (ad 11) cA 3 gMsetting, ar (ad 13) cA 8020 gMcomes, ar (ad 14) cA 20 gMbusyTo, ar (ad 15) cA 20 gMfeltMany, ar (ad 16) cA 8020 gMfeltBits, ar (ad 17) cA 8020 gMlostBits] sz) [oM ad xM_typed u.2.1 xM_posted xM_hears xM_censuses xM_finding, ar (ad 1) cA 60 gMtext, ar (ad 2) cA 20 u.2.2.1, ar (ad 3) cA 20 u.2.2.2.1, ar (ad 4) cA 20 u.2.2.2.2.1, ar (ad 5) cA 20 u.2.2.2.2.2.1, ar (ad 6) cA 20 u.2.2.2.2.2.2.1, ar (ad 7) cA 20 u.2.2.2.2.2.2.2.1, ar (ad 8) cA 4 u.2.2.2.2.2.2.2.2.1, ar (ad 9) cA 4 u.2.2.2.2.2.2.2.2.2.1, ar (ad 10) cA 4 u.2.2.2.2.2.2.2.2.2.2.1, ar (ad 11) cA 3 gMsetting, ar (ad 13) cA 8020 u.2.2.2.2.2.2.2.2.2.2.2.1, ar (ad 14) cA 20 u.2.2.2.2.2.2.2.2.2.2.2.2.1, ar (ad 15) cA 20 u.2.2.2.2.2.2.2.2.2.2.2.2.2.1, ar (ad 16) cA 8020 u.2.2.2.2.2.2.2.2.2.2.2.2.2.2.1, ar (ad 17) cA 8020 u.2.2.2.2.2.2.2.2.2.2.2.2.2.2.2]) (va_A [oM ad xM_typed xM_people xM_posted xM_hears xM_censuses xM_finding, ar (ad 1) cA 60 gMtext, ar (ad 2) cA 20 gMkinds, ar (ad 3) cA 20 gMlates, ar (ad 4) cA 20 gMscarfs, ar (ad 5) cA 20 gMhands, ar (ad 6) cA 20 gMrings, ar (ad 7) cA 20 gMmains, ar (ad 8) cA 4 gMaheadOf, ar (ad 9) cA 4 gMlastIn, ar (ad 10) cA 4 gMmanyIn, ar (ad 11) cA 3 gMsetting, ar (ad 13) cA 8020 gMcomes, ar (ad 14) cA 20 gMbusyTo, ar (ad 15) cA 20 gMfeltMany, ar (ad 16) cA 8020 gMfeltBits, ar (ad 17) cA 8020 gMlostBits] sz)) 0 0 (va_A [oM ad xM_typed xM_people xM_posted xM_hears xM_censuses xM_finding, ar (ad 1) cA 60 gMtext, ar (ad 2) cA 20 gMkinds, ar (ad 3) cA 20 gMlates, ar (ad 4) cA 20 gMscarfs, ar (ad 5) cA 20 gMhands, ar (ad 6) cA 20 gMrings, ar (ad 7) cA 20 gMmains, ar (ad 8) cA 4 gMaheadOf, ar (ad 9) cA 4 gMlastIn, ar (ad 10) cA 4 gMmanyIn, ar (ad 11) cA 3 gMsetting, ar (ad 13) cA 8020 gMcomes, ar (ad 14) cA 20 gMbusyTo, ar (ad 15) cA 20 gMfeltMany, ar (ad 16) cA 8020 gMfeltBits, ar (ad 17) cA 8020 gMlostBits] sz) := by
  refine Met.ofW (cc := cX10_passedOf) (maxL := 4) (ret := (some .int)) (by decide) rfl ?_
  intro p e s m args below meth c s₁ B hml hv
  obtain ⟨rfl, hsz, hP, hK, hD0⟩ := hv
  have hx := B.exec
  have hb := B.bytes
  have hr := B.returns
  have hts := atoms_spec (ws := wsX10_passedOf) B.pre
  have hown : s.vm.findClass RX10 = some m.cls := findClass_of_methodNamed B.named
  have hlocks := B.notSynchronized
  subst hsz
  have hD := hD0.self (sz := s.heap.size)
  generalize hAe : va_A [oM ad xM_typed xM_people xM_posted xM_hears xM_censuses xM_finding, ar (ad 1) cA 60 gMtext, ar (ad 2) cA 20 gMkinds, ar (ad 3) cA 20 gMlates, ar (ad 4) cA 20 gMscarfs, ar (ad 5) cA 20 gMhands, ar (ad 6) cA 20 gMrings, ar (ad 7) cA 20 gMmains, ar (ad 8) cA 4 gMaheadOf, ar (ad 9) cA 4 gMlastIn, ar (ad 10) cA 4 gMmanyIn, ar (ad 11) cA 3 gMsetting, ar (ad 13) cA 8020 gMcomes, ar (ad 14) cA 20 gMbusyTo, ar (ad 15) cA 20 gMfeltMany, ar (ad 16) cA 8020 gMfeltBits, ar (ad 17) cA 8020 gMlostBits] s.heap.size = A at hD ⊢
  have hA : ∀ q : Nat, s.heap.size ≤ q → A q := fun q h => by rw [← hAe]; exact Or.inr h
  have hS : va_S A s.heap s.heap [] := va_S.rf
  have hl := lv_entry ([.ref (ad 0), .int a1]) (n := 4) (Nat.le_of_ble_eq_true rfl)
  rw [lg_entry_eq]
  generalize (lg_sl ([.ref (ad 0), .int a1]) ++ List.replicate (4 - (lg_sl ([.ref (ad 0), .int a1])).length) Slot.unset).toArray = ls at hl ⊢
  have hl : lv_has ls 4 [(0, .ref (ad 0)), (1, .int a1)] := hl
  refine wk_Q (fun QQ hQ => ?_)
  have hinX10 : ∀ w ∈ wsX100, w ∈ wsX10_passedOf := fun w h => List.mem_cons_of_mem _ (inlX10 w h)
  have hl_112 := hts (.fieldLink RX10 112 "HandCensusModel" "people" "I") (List.mem_cons_of_mem _ (in_r12 _ (List.mem_of_getElem? (i := 4) rfl)))
  have h_8 : ∀ (v1_8 : Int32) (xM_people_8 : Int32) (gMkinds_8 : Nat → Int32) (gMlates_8 : Nat → Int32) (gMscarfs_8 : Nat → Int32) (gMhands_8 : Nat → Int32) (gMrings_8 : Nat → Int32) (gMmains_8 : Nat → Int32) (gMaheadOf_8 : Nat → Int32) (gMlastIn_8 : Nat → Int32) (gMmanyIn_8 : Nat → Int32) (gMcomes_8 : Nat → Int32) (gMbusyTo_8 : Nat → Int32) (gMfeltMany_8 : Nat → Int32) (gMfeltBits_8 : Nat → Int32) (gMlostBits_8 : Nat → Int32), ∀ (n_8 : Nat), ∀ (v2_8 : Int32) (v3_8 : Int32), fM_passedOf_8 v1_8 xM_people_8 gMkinds_8 gMlates_8 gMscarfs_8 gMhands_8 gMrings_8 gMmains_8 gMaheadOf_8 gMlastIn_8 gMmanyIn_8 gMcomes_8 gMbusyTo_8 gMfeltMany_8 gMfeltBits_8 gMlostBits_8 n_8 v2_8 v3_8 = some u → ∀ (H : Heap) (locs : List Loc), va_P (dC, dI) vwCl [oM ad xM_typed xM_people_8 xM_posted xM_hears xM_censuses xM_finding, ar (ad 1) cA 60 gMtext, ar (ad 2) cA 20 gMkinds_8, ar (ad 3) cA 20 gMlates_8, ar (ad 4) cA 20 gMscarfs_8, ar (ad 5) cA 20 gMhands_8, ar (ad 6) cA 20 gMrings_8, ar (ad 7) cA 20 gMmains_8, ar (ad 8) cA 4 gMaheadOf_8, ar (ad 9) cA 4 gMlastIn_8, ar (ad 10) cA 4 gMmanyIn_8, ar (ad 11) cA 3 gMsetting, ar (ad 13) cA 8020 gMcomes_8, ar (ad 14) cA 20 gMbusyTo_8, ar (ad 15) cA 20 gMfeltMany_8, ar (ad 16) cA 8020 gMfeltBits_8, ar (ad 17) cA 8020 gMlostBits_8] H → va_D A [oM ad xM_typed xM_people_8 xM_posted xM_hears xM_censuses xM_finding, ar (ad 1) cA 60 gMtext, ar (ad 2) cA 20 gMkinds_8, ar (ad 3) cA 20 gMlates_8, ar (ad 4) cA 20 gMscarfs_8, ar (ad 5) cA 20 gMhands_8, ar (ad 6) cA 20 gMrings_8, ar (ad 7) cA 20 gMmains_8, ar (ad 8) cA 4 gMaheadOf_8, ar (ad 9) cA 4 gMlastIn_8, ar (ad 10) cA 4 gMmanyIn_8, ar (ad 11) cA 3 gMsetting, ar (ad 13) cA 8020 gMcomes_8, ar (ad 14) cA 20 gMbusyTo_8, ar (ad 15) cA 20 gMfeltMany_8, ar (ad 16) cA 8020 gMfeltBits_8, ar (ad 17) cA 8020 gMlostBits_8] → va_S A s.heap H locs → ∀ ls : Array Slot, lv_has ls 4 [(0, .ref (ad 0)), (1, .int v1_8), (2, .int v2_8), (3, .int v3_8)] → W p l e (headSpec wsX10_passedOf ({ frames := 5, cells := 0, slots := 0, locals := 124 })).room s m ([.ref (ad 0), .int a1] : List Value).toArray below meth c H locs 0 0 QQ (F0 m 8 ls []) := by
    intro v1_8 xM_people_8 gMkinds_8 gMlates_8 gMscarfs_8 gMhands_8 gMrings_8 gMmains_8 gMaheadOf_8 gMlastIn_8 gMmanyIn_8 gMcomes_8 gMbusyTo_8 gMfeltMany_8 gMfeltBits_8 gMlostBits_8
    intro n_8
    induction n_8 with
    | zero => intro v2_8 v3_8 hm; have hm : (none : Option (Int32 × Int32 × (Nat → Int32) × (Nat → Int32) × (Nat → Int32) × (Nat → Int32) × (Nat → Int32) × (Nat → Int32) × (Nat → Int32) × (Nat → Int32) × (Nat → Int32) × (Nat → Int32) × (Nat → Int32) × (Nat → Int32) × (Nat → Int32) × (Nat → Int32))) = some u := hm; cases hm
    | succ n_8 ih_8 =>
      intro v2_8 v3_8 hm H locs hP hD hS ls hl
      have hm : fM_passedOf_8_b  (fM_passedOf_8  v1_8 xM_people_8 gMkinds_8 gMlates_8 gMscarfs_8 gMhands_8 gMrings_8 gMmains_8 gMaheadOf_8 gMlastIn_8 gMmanyIn_8 gMcomes_8 gMbusyTo_8 gMfeltMany_8 gMfeltBits_8 gMlostBits_8 n_8) v1_8 xM_people_8 gMkinds_8 gMlates_8 gMscarfs_8 gMhands_8 gMrings_8 gMmains_8 gMaheadOf_8 gMlastIn_8 gMmanyIn_8 gMcomes_8 gMbusyTo_8 gMfeltMany_8 gMfeltBits_8 gMlostBits_8 v2_8 v3_8 = some u := hm
      unfold fM_passedOf_8_b at hm
      refine lv_iload_n hx hb dX10_passedOf_8 rfl (lv_at hl 3 rfl) ?_
      refine lv_aload_n hx hb dX10_passedOf_9 rfl (lv_at hl 0 rfl) ?_
      refine va_get (D := (dC, dI)) (ci := 10) (v := .int xM_people_8) (C := RX10) (T := TX10) (N := 37) hx hb hts hinX10 hown hK hP 0 rfl rfl 2 (by decide) hl_112 (fun _ h9 => h9) rfl dX10_passedOf_10 ?_
      refine lv_icmp_ge (tgt := 31) hx hb dX10_passedOf_13 (by decide) (fun c_1 => ?_) (fun c_1 => ?_)
      · have hm := it_pos c_1 hm
        refine lv_iload_n hx hb dX10_passedOf_31 rfl (lv_at hl 2 rfl) ?_
        obtain rfl := Option.some.inj hm
        subst hQ
        exact W.iret (v := v2_8) hx hb hr (fun t ht hW => ⟨⟨_, (), rfl, rfl, by rw [ht]; exact hP, va_K.moved hW.alike hK, hAe ▸ hD⟩, hS.F ht⟩) hS.2.2 dX10_passedOf_32
      · have hm := it_neg c_1 hm
        refine lv_iload_n hx hb dX10_passedOf_16 rfl (lv_at hl 2 rfl) ?_
        refine lv_aload_n hx hb dX10_passedOf_17 rfl (lv_at hl 0 rfl) ?_
        refine lv_iload_n hx hb dX10_passedOf_18 rfl (lv_at hl 3 rfl) ?_
        refine lv_iload_n hx hb dX10_passedOf_19 rfl (lv_at hl 1 rfl) ?_
        have hPc := hP.sub (ws' := [oM ad xM_typed xM_people_8 xM_posted xM_hears xM_censuses xM_finding, ar (ad 16) cA 8020 gMfeltBits_8]) [0, 15] rfl
        have hDc := hD.sub (ws' := [oM ad xM_typed xM_people_8 xM_posted xM_hears xM_censuses xM_finding, ar (ad 16) cA 8020 gMfeltBits_8]) [0, 15] (by decide) rfl
        have hFc := va_free (wc := [oM ad xM_typed xM_people_8 xM_posted xM_hears xM_censuses xM_finding, ar (ad 16) cA 8020 gMfeltBits_8]) hD hS hA [0, 15] rfl
        obtain ⟨u_2, hc_2, hm⟩ := bd_ok hm
        refine va_calli (va_runV (As := [.int v3_8, .int v1_8]) (rest := [.int v2_8]) ⟨hx, hb, hml, hown, hts⟩ (kM_manyBy l dC dI cA cB ad H.size v3_8 v1_8 xM_typed xM_people_8 xM_posted xM_hears xM_censuses xM_finding gMfeltBits_8 u_2 hc_2) (cwV 2 hts gX10_passedOf_X10_manyBy rfl rfl rfl (by decide +kernel) ⟨Nat.le_of_ble_eq_true rfl, Nat.le_of_ble_eq_true rfl⟩) ⟨fun a U g mk q => by obtain ⟨q0, q1, qP, qK, qD⟩ := q; exact ⟨q0, q1, qP, va_K.moved (u := U) (U := U.calling g mk a) (Vm.Alike.refl U.vm) qK, qD⟩, va_recv hK hPc (ci := 10) (q0 := 0) rfl rfl, fun U hU hW => ⟨rfl, by rw [hU], by rw [hU]; exact hPc, va_K.moved hW.alike hK, hDc.weaken (fun _ _ _ _ => trivial)⟩⟩ rfl rfl hl.1 rfl (lv_room (Nat.le_of_ble_eq_true rfl)) dX10_passedOf_20 ⟨Nat.le_of_ble_eq_true rfl, Nat.le_of_ble_eq_true rfl⟩) hS (fun q _ h => hFc q h) hFc (fun r_2 _ t H1 locs ht hvm hw hB hz1 hk1 hS => ?_)
        obtain ⟨hP1, hK1, hD1⟩ := hB
        rw [ht] at hP1
        obtain ⟨hP, hD⟩ := va_join (wr := [ar (ad 1) cA 60 gMtext, ar (ad 2) cA 20 gMkinds_8, ar (ad 3) cA 20 gMlates_8, ar (ad 4) cA 20 gMscarfs_8, ar (ad 5) cA 20 gMhands_8, ar (ad 6) cA 20 gMrings_8, ar (ad 7) cA 20 gMmains_8, ar (ad 8) cA 4 gMaheadOf_8, ar (ad 9) cA 4 gMlastIn_8, ar (ad 10) cA 4 gMmanyIn_8, ar (ad 11) cA 3 gMsetting, ar (ad 13) cA 8020 gMcomes_8, ar (ad 14) cA 20 gMbusyTo_8, ar (ad 15) cA 20 gMfeltMany_8, ar (ad 17) cA 8020 gMlostBits_8]) (w1 := [oM ad xM_typed xM_people_8 xM_posted xM_hears xM_censuses xM_finding, ar (ad 16) cA 8020 gMfeltBits_8]) hP hD [0, 15] [1, 2, 3, 4, 5, 6, 7, 8, 9, 10, 11, 12, 13, 14, 16] rfl rfl (by decide) (by decide) hk1 hFc hP1 hD1
        clear hPc hDc hFc hP1 hK1 hD1 hk1 hz1 hvm ht
        generalize H1 = H at hP hS ⊢
        have hP : va_P (dC, dI) vwCl [oM ad xM_typed xM_people_8 xM_posted xM_hears xM_censuses xM_finding, ar (ad 1) cA 60 gMtext, ar (ad 2) cA 20 gMkinds_8, ar (ad 3) cA 20 gMlates_8, ar (ad 4) cA 20 gMscarfs_8, ar (ad 5) cA 20 gMhands_8, ar (ad 6) cA 20 gMrings_8, ar (ad 7) cA 20 gMmains_8, ar (ad 8) cA 4 gMaheadOf_8, ar (ad 9) cA 4 gMlastIn_8, ar (ad 10) cA 4 gMmanyIn_8, ar (ad 11) cA 3 gMsetting, ar (ad 13) cA 8020 gMcomes_8, ar (ad 14) cA 20 gMbusyTo_8, ar (ad 15) cA 20 gMfeltMany_8, ar (ad 16) cA 8020 gMfeltBits_8, ar (ad 17) cA 8020 gMlostBits_8] H := hP.sub [15, 0, 1, 2, 3, 4, 5, 6, 7, 8, 9, 10, 11, 12, 13, 16, 14] rfl
        have hD : va_D A [oM ad xM_typed xM_people_8 xM_posted xM_hears xM_censuses xM_finding, ar (ad 1) cA 60 gMtext, ar (ad 2) cA 20 gMkinds_8, ar (ad 3) cA 20 gMlates_8, ar (ad 4) cA 20 gMscarfs_8, ar (ad 5) cA 20 gMhands_8, ar (ad 6) cA 20 gMrings_8, ar (ad 7) cA 20 gMmains_8, ar (ad 8) cA 4 gMaheadOf_8, ar (ad 9) cA 4 gMlastIn_8, ar (ad 10) cA 4 gMmanyIn_8, ar (ad 11) cA 3 gMsetting, ar (ad 13) cA 8020 gMcomes_8, ar (ad 14) cA 20 gMbusyTo_8, ar (ad 15) cA 20 gMfeltMany_8, ar (ad 16) cA 8020 gMfeltBits_8, ar (ad 17) cA 8020 gMlostBits_8] := hD.sub [15, 0, 1, 2, 3, 4, 5, 6, 7, 8, 9, 10, 11, 12, 13, 16, 14] (by decide) rfl
        have hw := hw.symm
        subst hw
        refine lv_iadd hx hb dX10_passedOf_23 ?_
        refine lv_istore_n (lv' := [(2, .int (v2_8 + u_2)), (0, .ref (ad 0)), (1, .int v1_8), (3, .int v3_8)]) hx hb dX10_passedOf_24 rfl hl (by decide) rfl (fun ls hl => ?_)
        refine lv_iinc (v := (v3_8 + 1)) (lv' := [(3, .int (v3_8 + 1)), (2, .int (v2_8 + u_2)), (0, .ref (ad 0)), (1, .int v1_8)]) hx hb dX10_passedOf_25 hl (k := 3) rfl rfl (by decide) rfl (fun ls hl => ?_)
        refine lv_goto (tgt := 8) hx hb dX10_passedOf_28 (by decide) ?_
        exact ih_8 _ _ hm _ _ hP hD hS _ (lv_sub hl [2, 3, 1, 0] rfl)
  unfold fM_passedOf at hm
  refine lv_aload_n hx hb dX10_passedOf_0 rfl (lv_at hl 0 rfl) ?_
  have hPc := hP.sub (ws' := [oM ad xM_typed xM_people xM_posted xM_hears xM_censuses xM_finding, ar (ad 1) cA 60 gMtext, ar (ad 2) cA 20 gMkinds, ar (ad 3) cA 20 gMlates, ar (ad 4) cA 20 gMscarfs, ar (ad 5) cA 20 gMhands, ar (ad 6) cA 20 gMrings, ar (ad 7) cA 20 gMmains, ar (ad 8) cA 4 gMaheadOf, ar (ad 9) cA 4 gMlastIn, ar (ad 10) cA 4 gMmanyIn, ar (ad 11) cA 3 gMsetting, ar (ad 13) cA 8020 gMcomes, ar (ad 14) cA 20 gMbusyTo, ar (ad 15) cA 20 gMfeltMany, ar (ad 16) cA 8020 gMfeltBits, ar (ad 17) cA 8020 gMlostBits]) [0, 1, 2, 3, 4, 5, 6, 7, 8, 9, 10, 11, 12, 13, 14, 15, 16] rfl
  have hDc := hD.sub (ws' := [oM ad xM_typed xM_people xM_posted xM_hears xM_censuses xM_finding, ar (ad 1) cA 60 gMtext, ar (ad 2) cA 20 gMkinds, ar (ad 3) cA 20 gMlates, ar (ad 4) cA 20 gMscarfs, ar (ad 5) cA 20 gMhands, ar (ad 6) cA 20 gMrings, ar (ad 7) cA 20 gMmains, ar (ad 8) cA 4 gMaheadOf, ar (ad 9) cA 4 gMlastIn, ar (ad 10) cA 4 gMmanyIn, ar (ad 11) cA 3 gMsetting, ar (ad 13) cA 8020 gMcomes, ar (ad 14) cA 20 gMbusyTo, ar (ad 15) cA 20 gMfeltMany, ar (ad 16) cA 8020 gMfeltBits, ar (ad 17) cA 8020 gMlostBits]) [0, 1, 2, 3, 4, 5, 6, 7, 8, 9, 10, 11, 12, 13, 14, 15, 16] (by decide) rfl
  have hFc := va_free (wc := [oM ad xM_typed xM_people xM_posted xM_hears xM_censuses xM_finding, ar (ad 1) cA 60 gMtext, ar (ad 2) cA 20 gMkinds, ar (ad 3) cA 20 gMlates, ar (ad 4) cA 20 gMscarfs, ar (ad 5) cA 20 gMhands, ar (ad 6) cA 20 gMrings, ar (ad 7) cA 20 gMmains, ar (ad 8) cA 4 gMaheadOf, ar (ad 9) cA 4 gMlastIn, ar (ad 10) cA 4 gMmanyIn, ar (ad 11) cA 3 gMsetting, ar (ad 13) cA 8020 gMcomes, ar (ad 14) cA 20 gMbusyTo, ar (ad 15) cA 20 gMfeltMany, ar (ad 16) cA 8020 gMfeltBits, ar (ad 17) cA 8020 gMlostBits]) hD hS hA [0, 1, 2, 3, 4, 5, 6, 7, 8, 9, 10, 11, 12, 13, 14, 15, 16] rfl
  obtain ⟨u_3, hc_3, hm⟩ := bd_ok hm
  refine va_callv (va_runV (As := []) (rest := []) ⟨hx, hb, hml, hown, hts⟩ (kM_lays l dC dI cA cB ad s.heap.size xM_typed xM_people xM_posted xM_hears xM_censuses xM_finding gMtext gMkinds gMlates gMscarfs gMhands gMrings gMmains gMaheadOf gMlastIn gMmanyIn gMsetting gMcomes gMbusyTo gMfeltMany gMfeltBits gMlostBits u_3 hc_3) (cwV 0 hts gX10_passedOf_X10_lays rfl rfl rfl (by decide +kernel) ⟨Nat.le_of_ble_eq_true rfl, Nat.le_of_ble_eq_true rfl⟩) ⟨fun a U g mk q => by obtain ⟨q0, q1, qP, qK, qD⟩ := q; exact ⟨q0, q1, qP, va_K.moved (u := U) (U := U.calling g mk a) (Vm.Alike.refl U.vm) qK, qD⟩, va_recv hK hPc (ci := 10) (q0 := 0) rfl rfl, fun U hU hW => ⟨rfl, by rw [hU], by rw [hU]; exact hPc, va_K.moved hW.alike hK, hDc.weaken (fun _ _ _ _ => trivial)⟩⟩ rfl rfl hl.1 rfl (lv_room (Nat.le_of_ble_eq_true rfl)) dX10_passedOf_1 ⟨Nat.le_of_ble_eq_true rfl, Nat.le_of_ble_eq_true rfl⟩) hS (fun q _ h => hFc q h) hFc (fun _ t H1 locs ht hvm hw hB hz1 hk1 hS => ?_)
  obtain ⟨hP1, hK1, hD1⟩ := hB
  rw [ht] at hP1
  obtain ⟨hP, hD⟩ := va_join (wr := []) (w1 := [oM ad xM_typed u_3.1 xM_posted xM_hears xM_censuses xM_finding, ar (ad 1) cA 60 gMtext, ar (ad 2) cA 20 u_3.2.1, ar (ad 3) cA 20 u_3.2.2.1, ar (ad 4) cA 20 u_3.2.2.2.1, ar (ad 5) cA 20 u_3.2.2.2.2.1, ar (ad 6) cA 20 u_3.2.2.2.2.2.1, ar (ad 7) cA 20 u_3.2.2.2.2.2.2.1, ar (ad 8) cA 4 u_3.2.2.2.2.2.2.2.1, ar (ad 9) cA 4 u_3.2.2.2.2.2.2.2.2.1, ar (ad 10) cA 4 u_3.2.2.2.2.2.2.2.2.2.1, ar (ad 11) cA 3 gMsetting, ar (ad 13) cA 8020 u_3.2.2.2.2.2.2.2.2.2.2.1, ar (ad 14) cA 20 u_3.2.2.2.2.2.2.2.2.2.2.2.1, ar (ad 15) cA 20 u_3.2.2.2.2.2.2.2.2.2.2.2.2.1, ar (ad 16) cA 8020 u_3.2.2.2.2.2.2.2.2.2.2.2.2.2.1, ar (ad 17) cA 8020 u_3.2.2.2.2.2.2.2.2.2.2.2.2.2.2]) hP hD [0, 1, 2, 3, 4, 5, 6, 7, 8, 9, 10, 11, 12, 13, 14, 15, 16] [] rfl rfl (by decide) (by decide) hk1 hFc hP1 hD1
  clear hPc hDc hFc hP1 hK1 hD1 hk1 hz1 hvm ht
  generalize H1 = H at hP hS ⊢
  have hP : va_P (dC, dI) vwCl [oM ad xM_typed u_3.1 xM_posted xM_hears xM_censuses xM_finding, ar (ad 1) cA 60 gMtext, ar (ad 2) cA 20 u_3.2.1, ar (ad 3) cA 20 u_3.2.2.1, ar (ad 4) cA 20 u_3.2.2.2.1, ar (ad 5) cA 20 u_3.2.2.2.2.1, ar (ad 6) cA 20 u_3.2.2.2.2.2.1, ar (ad 7) cA 20 u_3.2.2.2.2.2.2.1, ar (ad 8) cA 4 u_3.2.2.2.2.2.2.2.1, ar (ad 9) cA 4 u_3.2.2.2.2.2.2.2.2.1, ar (ad 10) cA 4 u_3.2.2.2.2.2.2.2.2.2.1, ar (ad 11) cA 3 gMsetting, ar (ad 13) cA 8020 u_3.2.2.2.2.2.2.2.2.2.2.1, ar (ad 14) cA 20 u_3.2.2.2.2.2.2.2.2.2.2.2.1, ar (ad 15) cA 20 u_3.2.2.2.2.2.2.2.2.2.2.2.2.1, ar (ad 16) cA 8020 u_3.2.2.2.2.2.2.2.2.2.2.2.2.2.1, ar (ad 17) cA 8020 u_3.2.2.2.2.2.2.2.2.2.2.2.2.2.2] H := hP
  have hD : va_D A [oM ad xM_typed u_3.1 xM_posted xM_hears xM_censuses xM_finding, ar (ad 1) cA 60 gMtext, ar (ad 2) cA 20 u_3.2.1, ar (ad 3) cA 20 u_3.2.2.1, ar (ad 4) cA 20 u_3.2.2.2.1, ar (ad 5) cA 20 u_3.2.2.2.2.1, ar (ad 6) cA 20 u_3.2.2.2.2.2.1, ar (ad 7) cA 20 u_3.2.2.2.2.2.2.1, ar (ad 8) cA 4 u_3.2.2.2.2.2.2.2.1, ar (ad 9) cA 4 u_3.2.2.2.2.2.2.2.2.1, ar (ad 10) cA 4 u_3.2.2.2.2.2.2.2.2.2.1, ar (ad 11) cA 3 gMsetting, ar (ad 13) cA 8020 u_3.2.2.2.2.2.2.2.2.2.2.1, ar (ad 14) cA 20 u_3.2.2.2.2.2.2.2.2.2.2.2.1, ar (ad 15) cA 20 u_3.2.2.2.2.2.2.2.2.2.2.2.2.1, ar (ad 16) cA 8020 u_3.2.2.2.2.2.2.2.2.2.2.2.2.2.1, ar (ad 17) cA 8020 u_3.2.2.2.2.2.2.2.2.2.2.2.2.2.2] := hD
  refine lv_iconst (v := 0) hx hb dX10_passedOf_4 (by decide) ?_
  refine lv_istore_n (lv' := [(2, .int 0), (0, .ref (ad 0)), (1, .int a1)]) hx hb dX10_passedOf_5 rfl hl (by decide) rfl (fun ls hl => ?_)
  refine lv_iconst (v := 0) hx hb dX10_passedOf_6 (by decide) ?_
  refine lv_istore_n (lv' := [(3, .int 0), (2, .int 0), (0, .ref (ad 0)), (1, .int a1)]) hx hb dX10_passedOf_7 rfl hl (by decide) rfl (fun ls hl => ?_)
  exact h_8 _ _ _ _ _ _ _ _ _ _ _ _ _ _ _ _ _ _ _ hm _ _ hP hD hS _ (lv_sub hl [2, 3, 1, 0] rfl)

set_option maxHeartbeats 4000000 in
set_option maxRecDepth 100000 in
theorem kM_passed (l : Launch) (dC : Nat → ClassId) (dI : Nat → Nat → Nat) (cA : ClassId) (cB : ClassId) (ad : Nat → Nat) (sz : Nat) (a1 : Int32) (xM_typed : Int32) (xM_people : Int32) (xM_posted : Int32) (xM_hears : Int32) (xM_censuses : Int32) (xM_finding : Int32) (gMtext : Nat → Int32) (gMkinds : Nat → Int32) (gMlates : Nat → Int32) (gMscarfs : Nat → Int32) (gMhands : Nat → Int32) (gMrings : Nat → Int32) (gMmains : Nat → Int32) (gMaheadOf : Nat → Int32) (gMlastIn : Nat → Int32) (gMmanyIn : Nat → Int32) (gMsetting : Nat → Int32) (gMcomes : Nat → Int32) (gMbusyTo : Nat → Int32) (gMfeltMany : Nat → Int32) (gMfeltBits : Nat → Int32) (gMlostBits : Nat → Int32) (u : Int32 × Int32 × (Nat → Int32) × (Nat → Int32) × (Nat → Int32) × (Nat → Int32) × (Nat → Int32) × (Nat → Int32) × (Nat → Int32) × (Nat → Int32) × (Nat → Int32) × (Nat → Int32) × (Nat → Int32) × (Nat → Int32) × (Nat → Int32) × (Nat → Int32)) (hm : fM_passed a1 xM_typed xM_people gMtext gMkinds gMlates gMscarfs gMhands gMrings gMmains gMaheadOf gMlastIn gMmanyIn gMsetting gMcomes gMbusyTo gMfeltMany gMfeltBits gMlostBits = some u) : Met l yX10_passed wsX10_passed ({ frames := 6, cells := 0, slots := 0, locals := 147 }) (va_Pc [.ref (ad 0), .int a1] (fun U => U.heap.size = sz ∧ va_P (dC, dI) vwCl [oM ad xM_typed xM_people xM_posted xM_hears xM_censuses xM_finding, ar (ad 1) cA 60 gMtext, ar (ad 2) cA 20 gMkinds, ar (ad 3) cA 20 gMlates, ar (ad 4) cA 20 gMscarfs, ar (ad 5) cA 20 gMhands, ar (ad 6) cA 20 gMrings, ar (ad 7) cA 20 gMmains, ar (ad 8) cA 4 gMaheadOf, ar (ad 9) cA 4 gMlastIn, ar (ad 10) cA 4 gMmanyIn, ar (ad 11) cA 3 gMsetting, ar (ad 13) cA 8020 gMcomes, ar (ad 14) cA 20 gMbusyTo, ar (ad 15) cA 20 gMfeltMany, ar (ad 16) cA 8020 gMfeltBits, ar (ad 17) cA 8020 gMlostBits] U.heap ∧ va_K (dC, dI) vwCl [(cA, .int), (cB, .boolean)] U ∧ va_D (fun _ => True) [oM ad xM_typed xM_people xM_posted xM_hears xM_censuses xM_finding, ar (ad 1) cA 60 gMtext, ar (ad 2) cA 20 gMkinds, ar (ad 3) cA 20 gMlates, ar (ad 4) cA 20 gMscarfs, ar (ad 5) cA 20 gMhands, ar (ad 6) cA 20 gMrings, ar (ad 7) cA 20 gMmains, ar (ad 8) cA 4 gMaheadOf, ar (ad 9) cA 4 gMlastIn, ar (ad 10) cA 4 gMmanyIn, ar (ad 11) cA 3 gMsetting, ar (ad 13) cA 8020 gMcomes, ar (ad 14) cA 20 gMbusyTo, ar (ad 15) cA 20 gMfeltMany, ar (ad 16) cA 8020 gMfeltBits, ar (ad 17) cA 8020 gMlostBits])) (va_Qi (fun (r : Int32) (_ : Unit) => r = u.1) (fun (_ : Unit) t => va_P (dC, dI) vwCl [oM ad xM_typed u.2.1 xM_posted xM_hears xM_censuses xM_finding, ar (ad 1) cA 60 gMtext, ar (ad 2) cA 20 u.2.2.1, ar (ad 3) cA 20 u.2.2.2.1, ar (ad 4) cA 20 u.2.2.2.2.1, ar (ad 5) cA 20 u.2.2.2.2.2.1, ar (ad 6) cA 20 u.2.2.2.2.2.2.1, ar (ad 7) cA 20 u.2.2.2.2.2.2.2.1, ar (ad 8) cA 4 u.2.2.2.2.2.2.2.2.1, ar (ad 9) cA 4 u.2.2.2.2.2.2.2.2.2.1, ar (ad 10) cA 4 u.2.2.2.2.2.2.2.2.2.2.1, ar (ad 11) cA 3 gMsetting, ar (ad 13) cA 8020 u.2.2.2.2.2.2.2.2.2.2.2.1, ar (ad 14) cA 20 u.2.2.2.2.2.2.2.2.2.2.2.2.1, ar (ad 15) cA 20 u.2.2.2.2.2.2.2.2.2.2.2.2.2.1, ar (ad 16) cA 8020 u.2.2.2.2.2.2.2.2.2.2.2.2.2.2.1, ar (ad 17) cA 8020 u.2.2.2.2.2.2.2.2.2.2.2.2.2.2.2] t.heap ∧ va_K (dC, dI) vwCl [(cA, .int), (cB, .boolean)] t ∧ va_D (va_A [oM ad xM_typed xM_people xM_posted xM_hears xM_censuses xM_finding, ar (ad 1) cA 60 gMtext, ar (ad 2) cA 20 gMkinds, ar (ad 3) cA 20 gMlates, ar (ad 4) cA 20 gMscarfs, ar (ad 5) cA 20 gMhands, ar (ad 6) cA 20 gMrings, ar (ad 7) cA 20 gMmains, ar (ad 8) cA 4 gMaheadOf, ar (ad 9) cA 4 gMlastIn, ar (ad 10) cA 4 gMmanyIn, ar (ad 11) cA 3 gMsetting, ar (ad 13) cA 8020 gMcomes, ar (ad 14) cA 20 gMbusyTo, ar (ad 15) cA 20 gMfeltMany, ar (ad 16) cA 8020 gMfeltBits, ar (ad 17) cA 8020 gMlostBits] sz) [oM ad xM_typed u.2.1 xM_posted xM_hears xM_censuses xM_finding, ar (ad 1) cA 60 gMtext, ar (ad 2) cA 20 u.2.2.1, ar (ad 3) cA 20 u.2.2.2.1, ar (ad 4) cA 20 u.2.2.2.2.1, ar (ad 5) cA 20 u.2.2.2.2.2.1, ar (ad 6) cA 20 u.2.2.2.2.2.2.1, ar (ad 7) cA 20 u.2.2.2.2.2.2.2.1, ar (ad 8) cA 4 u.2.2.2.2.2.2.2.2.1, ar (ad 9) cA 4 u.2.2.2.2.2.2.2.2.2.1, ar (ad 10) cA 4 u.2.2.2.2.2.2.2.2.2.2.1, ar (ad 11) cA 3 gMsetting, ar (ad 13) cA 8020 u.2.2.2.2.2.2.2.2.2.2.2.1, ar (ad 14) cA 20 u.2.2.2.2.2.2.2.2.2.2.2.2.1, ar (ad 15) cA 20 u.2.2.2.2.2.2.2.2.2.2.2.2.2.1, ar (ad 16) cA 8020 u.2.2.2.2.2.2.2.2.2.2.2.2.2.2.1, ar (ad 17) cA 8020 u.2.2.2.2.2.2.2.2.2.2.2.2.2.2.2]) (va_A [oM ad xM_typed xM_people xM_posted xM_hears xM_censuses xM_finding, ar (ad 1) cA 60 gMtext, ar (ad 2) cA 20 gMkinds, ar (ad 3) cA 20 gMlates, ar (ad 4) cA 20 gMscarfs, ar (ad 5) cA 20 gMhands, ar (ad 6) cA 20 gMrings, ar (ad 7) cA 20 gMmains, ar (ad 8) cA 4 gMaheadOf, ar (ad 9) cA 4 gMlastIn, ar (ad 10) cA 4 gMmanyIn, ar (ad 11) cA 3 gMsetting, ar (ad 13) cA 8020 gMcomes, ar (ad 14) cA 20 gMbusyTo, ar (ad 15) cA 20 gMfeltMany, ar (ad 16) cA 8020 gMfeltBits, ar (ad 17) cA 8020 gMlostBits] sz)) 0 0 (va_A [oM ad xM_typed xM_people xM_posted xM_hears xM_censuses xM_finding, ar (ad 1) cA 60 gMtext, ar (ad 2) cA 20 gMkinds, ar (ad 3) cA 20 gMlates, ar (ad 4) cA 20 gMscarfs, ar (ad 5) cA 20 gMhands, ar (ad 6) cA 20 gMrings, ar (ad 7) cA 20 gMmains, ar (ad 8) cA 4 gMaheadOf, ar (ad 9) cA 4 gMlastIn, ar (ad 10) cA 4 gMmanyIn, ar (ad 11) cA 3 gMsetting, ar (ad 13) cA 8020 gMcomes, ar (ad 14) cA 20 gMbusyTo, ar (ad 15) cA 20 gMfeltMany, ar (ad 16) cA 8020 gMfeltBits, ar (ad 17) cA 8020 gMlostBits] sz) := by
  refine Met.ofW (cc := cX10_passed) (maxL := 2) (ret := (some .int)) (by decide) rfl ?_
  intro p e s m args below meth c s₁ B hml hv
  obtain ⟨rfl, hsz, hP, hK, hD0⟩ := hv
  have hx := B.exec
  have hb := B.bytes
  have hr := B.returns
  have hts := atoms_spec (ws := wsX10_passed) B.pre
  have hown : s.vm.findClass RX10 = some m.cls := findClass_of_methodNamed B.named
  have hlocks := B.notSynchronized
  subst hsz
  have hD := hD0.self (sz := s.heap.size)
  generalize hAe : va_A [oM ad xM_typed xM_people xM_posted xM_hears xM_censuses xM_finding, ar (ad 1) cA 60 gMtext, ar (ad 2) cA 20 gMkinds, ar (ad 3) cA 20 gMlates, ar (ad 4) cA 20 gMscarfs, ar (ad 5) cA 20 gMhands, ar (ad 6) cA 20 gMrings, ar (ad 7) cA 20 gMmains, ar (ad 8) cA 4 gMaheadOf, ar (ad 9) cA 4 gMlastIn, ar (ad 10) cA 4 gMmanyIn, ar (ad 11) cA 3 gMsetting, ar (ad 13) cA 8020 gMcomes, ar (ad 14) cA 20 gMbusyTo, ar (ad 15) cA 20 gMfeltMany, ar (ad 16) cA 8020 gMfeltBits, ar (ad 17) cA 8020 gMlostBits] s.heap.size = A at hD ⊢
  have hA : ∀ q : Nat, s.heap.size ≤ q → A q := fun q h => by rw [← hAe]; exact Or.inr h
  have hS : va_S A s.heap s.heap [] := va_S.rf
  have hl := lv_entry ([.ref (ad 0), .int a1]) (n := 2) (Nat.le_of_ble_eq_true rfl)
  rw [lg_entry_eq]
  generalize (lg_sl ([.ref (ad 0), .int a1]) ++ List.replicate (2 - (lg_sl ([.ref (ad 0), .int a1])).length) Slot.unset).toArray = ls at hl ⊢
  have hl : lv_has ls 2 [(0, .ref (ad 0)), (1, .int a1)] := hl
  refine wk_Q (fun QQ hQ => ?_)
  unfold fM_passed at hm
  refine lv_iload_n hx hb dX10_passed_0 rfl (lv_at hl 1 rfl) ?_
  have hPc := hP.sub (ws' := []) [] rfl
  have hDc := hD.sub (ws' := []) [] (by decide) rfl
  have hFc := va_free (wc := []) hD hS hA [] rfl
  obtain ⟨u_1, hc_1, hm⟩ := bd_ok hm
  refine va_calli (va_runS (As := [.int a1]) (rest := []) ⟨hx, hb, hml, hown, hts⟩ (kM_isTime l dC dI cA cB ad s.heap.size a1 u_1 hc_1) (va_cwS 1 hts gX10_passed_X10_isTime rfl rfl rfl (by decide +kernel) ⟨Nat.le_of_ble_eq_true rfl, Nat.le_of_ble_eq_true rfl⟩) ⟨fun a U g mk q => by obtain ⟨q0, q1, qP, qK, qD⟩ := q; exact ⟨q0, q1, qP, va_K.moved (u := U) (U := U.calling g mk a) (Vm.Alike.refl U.vm) qK, qD⟩, fun U hU hW => ⟨rfl, by rw [hU], by rw [hU]; exact hPc, va_K.moved hW.alike hK, hDc.weaken (fun _ _ _ _ => trivial)⟩⟩ rfl rfl hl.1 rfl (lv_room (Nat.le_of_ble_eq_true rfl)) dX10_passed_1 ⟨Nat.le_of_ble_eq_true rfl, Nat.le_of_ble_eq_true rfl⟩) hS (fun q _ h => hFc q h) hFc (fun r_1 _ t H1 locs ht hvm hw hB hz1 hk1 hS => ?_)
  obtain ⟨hP1, hK1, hD1⟩ := hB
  rw [ht] at hP1
  obtain ⟨hP, hD⟩ := va_join (wr := [oM ad xM_typed xM_people xM_posted xM_hears xM_censuses xM_finding, ar (ad 1) cA 60 gMtext, ar (ad 2) cA 20 gMkinds, ar (ad 3) cA 20 gMlates, ar (ad 4) cA 20 gMscarfs, ar (ad 5) cA 20 gMhands, ar (ad 6) cA 20 gMrings, ar (ad 7) cA 20 gMmains, ar (ad 8) cA 4 gMaheadOf, ar (ad 9) cA 4 gMlastIn, ar (ad 10) cA 4 gMmanyIn, ar (ad 11) cA 3 gMsetting, ar (ad 13) cA 8020 gMcomes, ar (ad 14) cA 20 gMbusyTo, ar (ad 15) cA 20 gMfeltMany, ar (ad 16) cA 8020 gMfeltBits, ar (ad 17) cA 8020 gMlostBits]) (w1 := []) hP hD [] [0, 1, 2, 3, 4, 5, 6, 7, 8, 9, 10, 11, 12, 13, 14, 15, 16] rfl rfl (by decide) (by decide) hk1 hFc hP1 hD1
  clear hPc hDc hFc hP1 hK1 hD1 hk1 hz1 hvm ht
  generalize H1 = H at hP hS ⊢
  have hP : va_P (dC, dI) vwCl [oM ad xM_typed xM_people xM_posted xM_hears xM_censuses xM_finding, ar (ad 1) cA 60 gMtext, ar (ad 2) cA 20 gMkinds, ar (ad 3) cA 20 gMlates, ar (ad 4) cA 20 gMscarfs, ar (ad 5) cA 20 gMhands, ar (ad 6) cA 20 gMrings, ar (ad 7) cA 20 gMmains, ar (ad 8) cA 4 gMaheadOf, ar (ad 9) cA 4 gMlastIn, ar (ad 10) cA 4 gMmanyIn, ar (ad 11) cA 3 gMsetting, ar (ad 13) cA 8020 gMcomes, ar (ad 14) cA 20 gMbusyTo, ar (ad 15) cA 20 gMfeltMany, ar (ad 16) cA 8020 gMfeltBits, ar (ad 17) cA 8020 gMlostBits] H := hP
  have hD : va_D A [oM ad xM_typed xM_people xM_posted xM_hears xM_censuses xM_finding, ar (ad 1) cA 60 gMtext, ar (ad 2) cA 20 gMkinds, ar (ad 3) cA 20 gMlates, ar (ad 4) cA 20 gMscarfs, ar (ad 5) cA 20 gMhands, ar (ad 6) cA 20 gMrings, ar (ad 7) cA 20 gMmains, ar (ad 8) cA 4 gMaheadOf, ar (ad 9) cA 4 gMlastIn, ar (ad 10) cA 4 gMmanyIn, ar (ad 11) cA 3 gMsetting, ar (ad 13) cA 8020 gMcomes, ar (ad 14) cA 20 gMbusyTo, ar (ad 15) cA 20 gMfeltMany, ar (ad 16) cA 8020 gMfeltBits, ar (ad 17) cA 8020 gMlostBits] := hD
  have hw := hw.symm
  subst hw
  refine lv_if_eq (tgt := 15) hx hb dX10_passed_4 (by decide) (fun c_2 => ?_) (fun c_2 => ?_)
  · have hm := it_pos c_2 hm
    refine lv_bipush (v := (-2)) hx hb dX10_passed_15 (by decide) ?_
    obtain rfl := Option.some.inj hm
    subst hQ
    exact W.iret (v := (-2)) hx hb hr (fun t ht hW => ⟨⟨_, (), rfl, rfl, by rw [ht]; exact hP, va_K.moved hW.alike hK, hAe ▸ hD⟩, hS.F ht⟩) hS.2.2 dX10_passed_17
  · have hm := it_neg c_2 hm
    refine lv_aload_n hx hb dX10_passed_7 rfl (lv_at hl 0 rfl) ?_
    refine lv_iload_n hx hb dX10_passed_8 rfl (lv_at hl 1 rfl) ?_
    have hPc := hP.sub (ws' := [oM ad xM_typed xM_people xM_posted xM_hears xM_censuses xM_finding, ar (ad 1) cA 60 gMtext, ar (ad 2) cA 20 gMkinds, ar (ad 3) cA 20 gMlates, ar (ad 4) cA 20 gMscarfs, ar (ad 5) cA 20 gMhands, ar (ad 6) cA 20 gMrings, ar (ad 7) cA 20 gMmains, ar (ad 8) cA 4 gMaheadOf, ar (ad 9) cA 4 gMlastIn, ar (ad 10) cA 4 gMmanyIn, ar (ad 11) cA 3 gMsetting, ar (ad 13) cA 8020 gMcomes, ar (ad 14) cA 20 gMbusyTo, ar (ad 15) cA 20 gMfeltMany, ar (ad 16) cA 8020 gMfeltBits, ar (ad 17) cA 8020 gMlostBits]) [0, 1, 2, 3, 4, 5, 6, 7, 8, 9, 10, 11, 12, 13, 14, 15, 16] rfl
    have hDc := hD.sub (ws' := [oM ad xM_typed xM_people xM_posted xM_hears xM_censuses xM_finding, ar (ad 1) cA 60 gMtext, ar (ad 2) cA 20 gMkinds, ar (ad 3) cA 20 gMlates, ar (ad 4) cA 20 gMscarfs, ar (ad 5) cA 20 gMhands, ar (ad 6) cA 20 gMrings, ar (ad 7) cA 20 gMmains, ar (ad 8) cA 4 gMaheadOf, ar (ad 9) cA 4 gMlastIn, ar (ad 10) cA 4 gMmanyIn, ar (ad 11) cA 3 gMsetting, ar (ad 13) cA 8020 gMcomes, ar (ad 14) cA 20 gMbusyTo, ar (ad 15) cA 20 gMfeltMany, ar (ad 16) cA 8020 gMfeltBits, ar (ad 17) cA 8020 gMlostBits]) [0, 1, 2, 3, 4, 5, 6, 7, 8, 9, 10, 11, 12, 13, 14, 15, 16] (by decide) rfl
    have hFc := va_free (wc := [oM ad xM_typed xM_people xM_posted xM_hears xM_censuses xM_finding, ar (ad 1) cA 60 gMtext, ar (ad 2) cA 20 gMkinds, ar (ad 3) cA 20 gMlates, ar (ad 4) cA 20 gMscarfs, ar (ad 5) cA 20 gMhands, ar (ad 6) cA 20 gMrings, ar (ad 7) cA 20 gMmains, ar (ad 8) cA 4 gMaheadOf, ar (ad 9) cA 4 gMlastIn, ar (ad 10) cA 4 gMmanyIn, ar (ad 11) cA 3 gMsetting, ar (ad 13) cA 8020 gMcomes, ar (ad 14) cA 20 gMbusyTo, ar (ad 15) cA 20 gMfeltMany, ar (ad 16) cA 8020 gMfeltBits, ar (ad 17) cA 8020 gMlostBits]) hD hS hA [0, 1, 2, 3, 4, 5, 6, 7, 8, 9, 10, 11, 12, 13, 14, 15, 16] rfl
    obtain ⟨u_3, hc_3, hm⟩ := bd_ok hm
    refine va_calli (va_runV (As := [.int a1]) (rest := []) ⟨hx, hb, hml, hown, hts⟩ (kM_passedOf l dC dI cA cB ad H.size a1 xM_typed xM_people xM_posted xM_hears xM_censuses xM_finding gMtext gMkinds gMlates gMscarfs gMhands gMrings gMmains gMaheadOf gMlastIn gMmanyIn gMsetting gMcomes gMbusyTo gMfeltMany gMfeltBits gMlostBits u_3 hc_3) (cwV 1 hts gX10_passed_X10_passedOf rfl rfl rfl (by decide +kernel) ⟨Nat.le_of_ble_eq_true rfl, Nat.le_of_ble_eq_true rfl⟩) ⟨fun a U g mk q => by obtain ⟨q0, q1, qP, qK, qD⟩ := q; exact ⟨q0, q1, qP, va_K.moved (u := U) (U := U.calling g mk a) (Vm.Alike.refl U.vm) qK, qD⟩, va_recv hK hPc (ci := 10) (q0 := 0) rfl rfl, fun U hU hW => ⟨rfl, by rw [hU], by rw [hU]; exact hPc, va_K.moved hW.alike hK, hDc.weaken (fun _ _ _ _ => trivial)⟩⟩ rfl rfl hl.1 rfl (lv_room (Nat.le_of_ble_eq_true rfl)) dX10_passed_9 ⟨Nat.le_of_ble_eq_true rfl, Nat.le_of_ble_eq_true rfl⟩) hS (fun q _ h => hFc q h) hFc (fun r_3 _ t H1 locs ht hvm hw hB hz1 hk1 hS => ?_)
    obtain ⟨hP1, hK1, hD1⟩ := hB
    rw [ht] at hP1
    obtain ⟨hP, hD⟩ := va_join (wr := []) (w1 := [oM ad xM_typed u_3.2.1 xM_posted xM_hears xM_censuses xM_finding, ar (ad 1) cA 60 gMtext, ar (ad 2) cA 20 u_3.2.2.1, ar (ad 3) cA 20 u_3.2.2.2.1, ar (ad 4) cA 20 u_3.2.2.2.2.1, ar (ad 5) cA 20 u_3.2.2.2.2.2.1, ar (ad 6) cA 20 u_3.2.2.2.2.2.2.1, ar (ad 7) cA 20 u_3.2.2.2.2.2.2.2.1, ar (ad 8) cA 4 u_3.2.2.2.2.2.2.2.2.1, ar (ad 9) cA 4 u_3.2.2.2.2.2.2.2.2.2.1, ar (ad 10) cA 4 u_3.2.2.2.2.2.2.2.2.2.2.1, ar (ad 11) cA 3 gMsetting, ar (ad 13) cA 8020 u_3.2.2.2.2.2.2.2.2.2.2.2.1, ar (ad 14) cA 20 u_3.2.2.2.2.2.2.2.2.2.2.2.2.1, ar (ad 15) cA 20 u_3.2.2.2.2.2.2.2.2.2.2.2.2.2.1, ar (ad 16) cA 8020 u_3.2.2.2.2.2.2.2.2.2.2.2.2.2.2.1, ar (ad 17) cA 8020 u_3.2.2.2.2.2.2.2.2.2.2.2.2.2.2.2]) hP hD [0, 1, 2, 3, 4, 5, 6, 7, 8, 9, 10, 11, 12, 13, 14, 15, 16] [] rfl rfl (by decide) (by decide) hk1 hFc hP1 hD1
    clear hPc hDc hFc hP1 hK1 hD1 hk1 hz1 hvm ht
    generalize H1 = H at hP hS ⊢
    have hP : va_P (dC, dI) vwCl [oM ad xM_typed u_3.2.1 xM_posted xM_hears xM_censuses xM_finding, ar (ad 1) cA 60 gMtext, ar (ad 2) cA 20 u_3.2.2.1, ar (ad 3) cA 20 u_3.2.2.2.1, ar (ad 4) cA 20 u_3.2.2.2.2.1, ar (ad 5) cA 20 u_3.2.2.2.2.2.1, ar (ad 6) cA 20 u_3.2.2.2.2.2.2.1, ar (ad 7) cA 20 u_3.2.2.2.2.2.2.2.1, ar (ad 8) cA 4 u_3.2.2.2.2.2.2.2.2.1, ar (ad 9) cA 4 u_3.2.2.2.2.2.2.2.2.2.1, ar (ad 10) cA 4 u_3.2.2.2.2.2.2.2.2.2.2.1, ar (ad 11) cA 3 gMsetting, ar (ad 13) cA 8020 u_3.2.2.2.2.2.2.2.2.2.2.2.1, ar (ad 14) cA 20 u_3.2.2.2.2.2.2.2.2.2.2.2.2.1, ar (ad 15) cA 20 u_3.2.2.2.2.2.2.2.2.2.2.2.2.2.1, ar (ad 16) cA 8020 u_3.2.2.2.2.2.2.2.2.2.2.2.2.2.2.1, ar (ad 17) cA 8020 u_3.2.2.2.2.2.2.2.2.2.2.2.2.2.2.2] H := hP
    have hD : va_D A [oM ad xM_typed u_3.2.1 xM_posted xM_hears xM_censuses xM_finding, ar (ad 1) cA 60 gMtext, ar (ad 2) cA 20 u_3.2.2.1, ar (ad 3) cA 20 u_3.2.2.2.1, ar (ad 4) cA 20 u_3.2.2.2.2.1, ar (ad 5) cA 20 u_3.2.2.2.2.2.1, ar (ad 6) cA 20 u_3.2.2.2.2.2.2.1, ar (ad 7) cA 20 u_3.2.2.2.2.2.2.2.1, ar (ad 8) cA 4 u_3.2.2.2.2.2.2.2.2.1, ar (ad 9) cA 4 u_3.2.2.2.2.2.2.2.2.2.1, ar (ad 10) cA 4 u_3.2.2.2.2.2.2.2.2.2.2.1, ar (ad 11) cA 3 gMsetting, ar (ad 13) cA 8020 u_3.2.2.2.2.2.2.2.2.2.2.2.1, ar (ad 14) cA 20 u_3.2.2.2.2.2.2.2.2.2.2.2.2.1, ar (ad 15) cA 20 u_3.2.2.2.2.2.2.2.2.2.2.2.2.2.1, ar (ad 16) cA 8020 u_3.2.2.2.2.2.2.2.2.2.2.2.2.2.2.1, ar (ad 17) cA 8020 u_3.2.2.2.2.2.2.2.2.2.2.2.2.2.2.2] := hD
    have hw := hw.symm
    subst hw
    refine lv_goto (tgt := 17) hx hb dX10_passed_12 (by decide) ?_
    obtain rfl := Option.some.inj hm
    subst hQ
    exact W.iret (v := u_3.1) hx hb hr (fun t ht hW => ⟨⟨_, (), rfl, rfl, by rw [ht]; exact hP, va_K.moved hW.alike hK, hAe ▸ hD⟩, hS.F ht⟩) hS.2.2 dX10_passed_17

set_option maxHeartbeats 4000000 in
set_option maxRecDepth 100000 in
theorem kM_fewestBy (l : Launch) (dC : Nat → ClassId) (dI : Nat → Nat → Nat) (cA : ClassId) (cB : ClassId) (ad : Nat → Nat) (sz : Nat) (a0 : Int32) (a1 : Int32) (a2 : Int32) (u : Int32) (hm : fM_fewestBy a0 a1 a2 = some u) : Met l yX10_fewestBy wsX10_fewestBy ({ frames := 0, cells := 0, slots := 0, locals := 0 }) (va_Pc [.int a0, .int a1, .int a2] (fun U => U.heap.size = sz ∧ va_P (dC, dI) vwCl [] U.heap ∧ va_K (dC, dI) vwCl [(cA, .int), (cB, .boolean)] U ∧ va_D (fun _ => True) [])) (va_Qi (fun (r : Int32) (_ : Unit) => r = u) (fun (_ : Unit) t => va_P (dC, dI) vwCl [] t.heap ∧ va_K (dC, dI) vwCl [(cA, .int), (cB, .boolean)] t ∧ va_D (va_A [] sz) []) (va_A [] sz)) 0 0 (va_A [] sz) := by
  refine Met.ofW (cc := cX10_fewestBy) (maxL := 3) (ret := (some .int)) (by decide) rfl ?_
  intro p e s m args below meth c s₁ B hml hv
  obtain ⟨rfl, hsz, hP, hK, hD0⟩ := hv
  have hx := B.exec
  have hb := B.bytes
  have hr := B.returns
  have hts := atoms_spec (ws := wsX10_fewestBy) B.pre
  have hown : s.vm.findClass RX10 = some m.cls := findClass_of_methodNamed B.named
  have hlocks := B.notSynchronized
  subst hsz
  have hD := hD0.self (sz := s.heap.size)
  generalize hAe : va_A [] s.heap.size = A at hD ⊢
  have hA : ∀ q : Nat, s.heap.size ≤ q → A q := fun q h => by rw [← hAe]; exact Or.inr h
  have hS : va_S A s.heap s.heap [] := va_S.rf
  have hl := lv_entry ([.int a0, .int a1, .int a2]) (n := 3) (Nat.le_of_ble_eq_true rfl)
  rw [lg_entry_eq]
  generalize (lg_sl ([.int a0, .int a1, .int a2]) ++ List.replicate (3 - (lg_sl ([.int a0, .int a1, .int a2])).length) Slot.unset).toArray = ls at hl ⊢
  have hl : lv_has ls 3 [(0, .int a0), (1, .int a1), (2, .int a2)] := hl
  refine wk_Q (fun QQ hQ => ?_)
  unfold fM_fewestBy at hm
  refine lv_iload_n hx hb dX10_fewestBy_0 rfl (lv_at hl 0 rfl) ?_
  refine lv_iload_n hx hb dX10_fewestBy_1 rfl (lv_at hl 2 rfl) ?_
  refine lv_icmp_gt (tgt := 9) hx hb dX10_fewestBy_2 (by decide) (fun c_1 => ?_) (fun c_1 => ?_)
  · have hm := it_pos c_1 hm
    refine lv_iload_n hx hb dX10_fewestBy_9 rfl (lv_at hl 0 rfl) ?_
    refine lv_iload_n hx hb dX10_fewestBy_10 rfl (lv_at hl 2 rfl) ?_
    refine lv_isub hx hb dX10_fewestBy_11 ?_
    refine lv_iload_n hx hb dX10_fewestBy_12 rfl (lv_at hl 1 rfl) ?_
    refine lv_iadd hx hb dX10_fewestBy_13 ?_
    refine lv_iconst (v := 1) hx hb dX10_fewestBy_14 (by decide) ?_
    refine lv_isub hx hb dX10_fewestBy_15 ?_
    refine lv_iload_n hx hb dX10_fewestBy_16 rfl (lv_at hl 1 rfl) ?_
    obtain ⟨z_2, hm⟩ := dz_ok hm
    refine lv_idiv hx hb dX10_fewestBy_17 z_2 ?_
    obtain rfl := Option.some.inj hm
    subst hQ
    exact W.iret (v := ((((a0 - a2) + a1) - 1) / a1)) hx hb hr (fun t ht hW => ⟨⟨_, (), rfl, rfl, by rw [ht]; exact hP, va_K.moved hW.alike hK, hAe ▸ hD⟩, hS.F ht⟩) hS.2.2 dX10_fewestBy_18
  · have hm := it_neg c_1 hm
    refine lv_iconst (v := 0) hx hb dX10_fewestBy_5 (by decide) ?_
    refine lv_goto (tgt := 18) hx hb dX10_fewestBy_6 (by decide) ?_
    obtain rfl := Option.some.inj hm
    subst hQ
    exact W.iret (v := 0) hx hb hr (fun t ht hW => ⟨⟨_, (), rfl, rfl, by rw [ht]; exact hP, va_K.moved hW.alike hK, hAe ▸ hD⟩, hS.F ht⟩) hS.2.2 dX10_fewestBy_18

set_option maxHeartbeats 4000000 in
set_option maxRecDepth 100000 in
theorem kM_areLimits (l : Launch) (dC : Nat → ClassId) (dI : Nat → Nat → Nat) (cA : ClassId) (cB : ClassId) (ad : Nat → Nat) (sz : Nat) (a0 : Int32) (a1 : Int32) (a2 : Int32) (u : Int32) (hm : fM_areLimits a0 a1 a2 = some u) : Met l yX10_areLimits wsX10_areLimits ({ frames := 1, cells := 0, slots := 0, locals := 22 }) (va_Pc [.int a0, .int a1, .int a2] (fun U => U.heap.size = sz ∧ va_P (dC, dI) vwCl [] U.heap ∧ va_K (dC, dI) vwCl [(cA, .int), (cB, .boolean)] U ∧ va_D (fun _ => True) [])) (va_Qi (fun (r : Int32) (_ : Unit) => r = u) (fun (_ : Unit) t => va_P (dC, dI) vwCl [] t.heap ∧ va_K (dC, dI) vwCl [(cA, .int), (cB, .boolean)] t ∧ va_D (va_A [] sz) []) (va_A [] sz)) 0 0 (va_A [] sz) := by
  refine Met.ofW (cc := cX10_areLimits) (maxL := 3) (ret := (some .boolean)) (by decide) rfl ?_
  intro p e s m args below meth c s₁ B hml hv
  obtain ⟨rfl, hsz, hP, hK, hD0⟩ := hv
  have hx := B.exec
  have hb := B.bytes
  have hr := B.returns
  have hts := atoms_spec (ws := wsX10_areLimits) B.pre
  have hown : s.vm.findClass RX10 = some m.cls := findClass_of_methodNamed B.named
  have hlocks := B.notSynchronized
  subst hsz
  have hD := hD0.self (sz := s.heap.size)
  generalize hAe : va_A [] s.heap.size = A at hD ⊢
  have hA : ∀ q : Nat, s.heap.size ≤ q → A q := fun q h => by rw [← hAe]; exact Or.inr h
  have hS : va_S A s.heap s.heap [] := va_S.rf
  have hl := lv_entry ([.int a0, .int a1, .int a2]) (n := 3) (Nat.le_of_ble_eq_true rfl)
  rw [lg_entry_eq]
  generalize (lg_sl ([.int a0, .int a1, .int a2]) ++ List.replicate (3 - (lg_sl ([.int a0, .int a1, .int a2])).length) Slot.unset).toArray = ls at hl ⊢
  have hl : lv_has ls 3 [(0, .int a0), (1, .int a1), (2, .int a2)] := hl
  refine wk_Q (fun QQ hQ => ?_)
  unfold fM_areLimits at hm
  refine lv_iload_n hx hb dX10_areLimits_0 rfl (lv_at hl 0 rfl) ?_
  refine lv_iconst (v := 1) hx hb dX10_areLimits_1 (by decide) ?_
  refine lv_bipush (v := 9) hx hb dX10_areLimits_2 (by decide) ?_
  have hPc := hP.sub (ws' := []) [] rfl
  have hDc := hD.sub (ws' := []) [] (by decide) rfl
  have hFc := va_free (wc := []) hD hS hA [] rfl
  obtain ⟨u_1, hc_1, hm⟩ := bd_ok hm
  refine va_calli (va_runS (As := [.int a0, .int 1, .int 9]) (rest := []) ⟨hx, hb, hml, hown, hts⟩ (kM_in l dC dI cA cB ad s.heap.size a0 1 9 u_1 hc_1) (va_cwS 3 hts gX10_areLimits_X10_in rfl rfl rfl (by decide +kernel) ⟨Nat.le_of_ble_eq_true rfl, Nat.le_of_ble_eq_true rfl⟩) ⟨fun a U g mk q => by obtain ⟨q0, q1, qP, qK, qD⟩ := q; exact ⟨q0, q1, qP, va_K.moved (u := U) (U := U.calling g mk a) (Vm.Alike.refl U.vm) qK, qD⟩, fun U hU hW => ⟨rfl, by rw [hU], by rw [hU]; exact hPc, va_K.moved hW.alike hK, hDc.weaken (fun _ _ _ _ => trivial)⟩⟩ rfl rfl hl.1 rfl (lv_room (Nat.le_of_ble_eq_true rfl)) dX10_areLimits_4 ⟨Nat.le_of_ble_eq_true rfl, Nat.le_of_ble_eq_true rfl⟩) hS (fun q _ h => hFc q h) hFc (fun r_1 _ t H1 locs ht hvm hw hB hz1 hk1 hS => ?_)
  obtain ⟨hP1, hK1, hD1⟩ := hB
  rw [ht] at hP1
  obtain ⟨hP, hD⟩ := va_join (wr := []) (w1 := []) hP hD [] [] rfl rfl (by decide) (by decide) hk1 hFc hP1 hD1
  clear hPc hDc hFc hP1 hK1 hD1 hk1 hz1 hvm ht
  generalize H1 = H at hP hS ⊢
  have hP : va_P (dC, dI) vwCl [] H := hP
  have hD : va_D A [] := hD
  have hw := hw.symm
  subst hw
  refine lv_if_eq (tgt := 34) hx hb dX10_areLimits_7 (by decide) (fun c_2 => ?_) (fun c_2 => ?_)
  · have hm := it_pos c_2 hm
    refine lv_iconst (v := 0) hx hb dX10_areLimits_34 (by decide) ?_
    obtain rfl := Option.some.inj hm
    subst hQ
    exact W.zret (v := 0) hx hb hr rfl (fun t ht hW => ⟨⟨_, (), rfl, rfl, by rw [ht]; exact hP, va_K.moved hW.alike hK, hAe ▸ hD⟩, hS.F ht⟩) hS.2.2 dX10_areLimits_35
  · have hm := it_neg c_2 hm
    refine lv_iload_n hx hb dX10_areLimits_10 rfl (lv_at hl 1 rfl) ?_
    refine lv_iload_n hx hb dX10_areLimits_11 rfl (lv_at hl 0 rfl) ?_
    refine lv_bipush (v := 9) hx hb dX10_areLimits_12 (by decide) ?_
    have hPc := hP.sub (ws' := []) [] rfl
    have hDc := hD.sub (ws' := []) [] (by decide) rfl
    have hFc := va_free (wc := []) hD hS hA [] rfl
    obtain ⟨u_3, hc_3, hm⟩ := bd_ok hm
    refine va_calli (va_runS (As := [.int a1, .int a0, .int 9]) (rest := []) ⟨hx, hb, hml, hown, hts⟩ (kM_in l dC dI cA cB ad H.size a1 a0 9 u_3 hc_3) (va_cwS 3 hts gX10_areLimits_X10_in rfl rfl rfl (by decide +kernel) ⟨Nat.le_of_ble_eq_true rfl, Nat.le_of_ble_eq_true rfl⟩) ⟨fun a U g mk q => by obtain ⟨q0, q1, qP, qK, qD⟩ := q; exact ⟨q0, q1, qP, va_K.moved (u := U) (U := U.calling g mk a) (Vm.Alike.refl U.vm) qK, qD⟩, fun U hU hW => ⟨rfl, by rw [hU], by rw [hU]; exact hPc, va_K.moved hW.alike hK, hDc.weaken (fun _ _ _ _ => trivial)⟩⟩ rfl rfl hl.1 rfl (lv_room (Nat.le_of_ble_eq_true rfl)) dX10_areLimits_14 ⟨Nat.le_of_ble_eq_true rfl, Nat.le_of_ble_eq_true rfl⟩) hS (fun q _ h => hFc q h) hFc (fun r_3 _ t H1 locs ht hvm hw hB hz1 hk1 hS => ?_)
    obtain ⟨hP1, hK1, hD1⟩ := hB
    rw [ht] at hP1
    obtain ⟨hP, hD⟩ := va_join (wr := []) (w1 := []) hP hD [] [] rfl rfl (by decide) (by decide) hk1 hFc hP1 hD1
    clear hPc hDc hFc hP1 hK1 hD1 hk1 hz1 hvm ht
    generalize H1 = H at hP hS ⊢
    have hP : va_P (dC, dI) vwCl [] H := hP
    have hD : va_D A [] := hD
    have hw := hw.symm
    subst hw
    refine lv_if_eq (tgt := 34) hx hb dX10_areLimits_17 (by decide) (fun c_4 => ?_) (fun c_4 => ?_)
    · have hm := it_pos c_4 hm
      refine lv_iconst (v := 0) hx hb dX10_areLimits_34 (by decide) ?_
      obtain rfl := Option.some.inj hm
      subst hQ
      exact W.zret (v := 0) hx hb hr rfl (fun t ht hW => ⟨⟨_, (), rfl, rfl, by rw [ht]; exact hP, va_K.moved hW.alike hK, hAe ▸ hD⟩, hS.F ht⟩) hS.2.2 dX10_areLimits_35
    · have hm := it_neg c_4 hm
      refine lv_iload_n hx hb dX10_areLimits_20 rfl (lv_at hl 2 rfl) ?_
      refine lv_iconst (v := 0) hx hb dX10_areLimits_21 (by decide) ?_
      refine lv_bipush (v := 20) hx hb dX10_areLimits_22 (by decide) ?_
      have hPc := hP.sub (ws' := []) [] rfl
      have hDc := hD.sub (ws' := []) [] (by decide) rfl
      have hFc := va_free (wc := []) hD hS hA [] rfl
      obtain ⟨u_5, hc_5, hm⟩ := bd_ok hm
      refine va_calli (va_runS (As := [.int a2, .int 0, .int 20]) (rest := []) ⟨hx, hb, hml, hown, hts⟩ (kM_in l dC dI cA cB ad H.size a2 0 20 u_5 hc_5) (va_cwS 3 hts gX10_areLimits_X10_in rfl rfl rfl (by decide +kernel) ⟨Nat.le_of_ble_eq_true rfl, Nat.le_of_ble_eq_true rfl⟩) ⟨fun a U g mk q => by obtain ⟨q0, q1, qP, qK, qD⟩ := q; exact ⟨q0, q1, qP, va_K.moved (u := U) (U := U.calling g mk a) (Vm.Alike.refl U.vm) qK, qD⟩, fun U hU hW => ⟨rfl, by rw [hU], by rw [hU]; exact hPc, va_K.moved hW.alike hK, hDc.weaken (fun _ _ _ _ => trivial)⟩⟩ rfl rfl hl.1 rfl (lv_room (Nat.le_of_ble_eq_true rfl)) dX10_areLimits_24 ⟨Nat.le_of_ble_eq_true rfl, Nat.le_of_ble_eq_true rfl⟩) hS (fun q _ h => hFc q h) hFc (fun r_5 _ t H1 locs ht hvm hw hB hz1 hk1 hS => ?_)
      obtain ⟨hP1, hK1, hD1⟩ := hB
      rw [ht] at hP1
      obtain ⟨hP, hD⟩ := va_join (wr := []) (w1 := []) hP hD [] [] rfl rfl (by decide) (by decide) hk1 hFc hP1 hD1
      clear hPc hDc hFc hP1 hK1 hD1 hk1 hz1 hvm ht
      generalize H1 = H at hP hS ⊢
      have hP : va_P (dC, dI) vwCl [] H := hP
      have hD : va_D A [] := hD
      have hw := hw.symm
      subst hw
      refine lv_if_eq (tgt := 34) hx hb dX10_areLimits_27 (by decide) (fun c_6 => ?_) (fun c_6 => ?_)
      · have hm := it_pos c_6 hm
        refine lv_iconst (v := 0) hx hb dX10_areLimits_34 (by decide) ?_
        obtain rfl := Option.some.inj hm
        subst hQ
        exact W.zret (v := 0) hx hb hr rfl (fun t ht hW => ⟨⟨_, (), rfl, rfl, by rw [ht]; exact hP, va_K.moved hW.alike hK, hAe ▸ hD⟩, hS.F ht⟩) hS.2.2 dX10_areLimits_35
      · have hm := it_neg c_6 hm
        refine lv_iconst (v := 1) hx hb dX10_areLimits_30 (by decide) ?_
        refine lv_goto (tgt := 35) hx hb dX10_areLimits_31 (by decide) ?_
        obtain rfl := Option.some.inj hm
        subst hQ
        exact W.zret (v := 1) hx hb hr rfl (fun t ht hW => ⟨⟨_, (), rfl, rfl, by rw [ht]; exact hP, va_K.moved hW.alike hK, hAe ▸ hD⟩, hS.F ht⟩) hS.2.2 dX10_areLimits_35

set_option maxHeartbeats 4000000 in
set_option maxRecDepth 100000 in
theorem kM_spans (l : Launch) (dC : Nat → ClassId) (dI : Nat → Nat → Nat) (cA : ClassId) (cB : ClassId) (ad : Nat → Nat) (sz : Nat) (a1 : Int32) (a2 : Int32) (a3 : Int32) (a4 : Int32) (a5 : Int32) (u : Int32) (hm : fM_spans a1 a2 a3 a4 a5 = some u) : Met l yX10_spans wsX10_spans ({ frames := 2, cells := 0, slots := 0, locals := 44 }) (va_Pc [.ref (ad 0), .int a1, .int a2, .int a3, .int a4, .int a5] (fun U => U.heap.size = sz ∧ va_P (dC, dI) vwCl [] U.heap ∧ va_K (dC, dI) vwCl [(cA, .int), (cB, .boolean)] U ∧ va_D (fun _ => True) [])) (va_Qi (fun (r : Int32) (_ : Unit) => r = u) (fun (_ : Unit) t => va_P (dC, dI) vwCl [] t.heap ∧ va_K (dC, dI) vwCl [(cA, .int), (cB, .boolean)] t ∧ va_D (va_A [] sz) []) (va_A [] sz)) 0 0 (va_A [] sz) := by
  refine Met.ofW (cc := cX10_spans) (maxL := 8) (ret := (some .int)) (by decide) rfl ?_
  intro p e s m args below meth c s₁ B hml hv
  obtain ⟨rfl, hsz, hP, hK, hD0⟩ := hv
  have hx := B.exec
  have hb := B.bytes
  have hr := B.returns
  have hts := atoms_spec (ws := wsX10_spans) B.pre
  have hown : s.vm.findClass RX10 = some m.cls := findClass_of_methodNamed B.named
  have hlocks := B.notSynchronized
  subst hsz
  have hD := hD0.self (sz := s.heap.size)
  generalize hAe : va_A [] s.heap.size = A at hD ⊢
  have hA : ∀ q : Nat, s.heap.size ≤ q → A q := fun q h => by rw [← hAe]; exact Or.inr h
  have hS : va_S A s.heap s.heap [] := va_S.rf
  have hl := lv_entry ([.ref (ad 0), .int a1, .int a2, .int a3, .int a4, .int a5]) (n := 8) (Nat.le_of_ble_eq_true rfl)
  rw [lg_entry_eq]
  generalize (lg_sl ([.ref (ad 0), .int a1, .int a2, .int a3, .int a4, .int a5]) ++ List.replicate (8 - (lg_sl ([.ref (ad 0), .int a1, .int a2, .int a3, .int a4, .int a5])).length) Slot.unset).toArray = ls at hl ⊢
  have hl : lv_has ls 8 [(0, .ref (ad 0)), (1, .int a1), (2, .int a2), (3, .int a3), (4, .int a4), (5, .int a5)] := hl
  refine wk_Q (fun QQ hQ => ?_)
  unfold fM_spans at hm
  refine lv_iload_n hx hb dX10_spans_0 rfl (lv_at hl 1 rfl) ?_
  have hPc := hP.sub (ws' := []) [] rfl
  have hDc := hD.sub (ws' := []) [] (by decide) rfl
  have hFc := va_free (wc := []) hD hS hA [] rfl
  obtain ⟨u_1, hc_1, hm⟩ := bd_ok hm
  refine va_calli (va_runS (As := [.int a1]) (rest := []) ⟨hx, hb, hml, hown, hts⟩ (kM_isTime l dC dI cA cB ad s.heap.size a1 u_1 hc_1) (va_cwS 1 hts gX10_spans_X10_isTime rfl rfl rfl (by decide +kernel) ⟨Nat.le_of_ble_eq_true rfl, Nat.le_of_ble_eq_true rfl⟩) ⟨fun a U g mk q => by obtain ⟨q0, q1, qP, qK, qD⟩ := q; exact ⟨q0, q1, qP, va_K.moved (u := U) (U := U.calling g mk a) (Vm.Alike.refl U.vm) qK, qD⟩, fun U hU hW => ⟨rfl, by rw [hU], by rw [hU]; exact hPc, va_K.moved hW.alike hK, hDc.weaken (fun _ _ _ _ => trivial)⟩⟩ rfl rfl hl.1 rfl (lv_room (Nat.le_of_ble_eq_true rfl)) dX10_spans_1 ⟨Nat.le_of_ble_eq_true rfl, Nat.le_of_ble_eq_true rfl⟩) hS (fun q _ h => hFc q h) hFc (fun r_1 _ t H1 locs ht hvm hw hB hz1 hk1 hS => ?_)
  obtain ⟨hP1, hK1, hD1⟩ := hB
  rw [ht] at hP1
  obtain ⟨hP, hD⟩ := va_join (wr := []) (w1 := []) hP hD [] [] rfl rfl (by decide) (by decide) hk1 hFc hP1 hD1
  clear hPc hDc hFc hP1 hK1 hD1 hk1 hz1 hvm ht
  generalize H1 = H at hP hS ⊢
  have hP : va_P (dC, dI) vwCl [] H := hP
  have hD : va_D A [] := hD
  have hw := hw.symm
  subst hw
  refine lv_if_eq (tgt := 27) hx hb dX10_spans_4 (by decide) (fun c_2 => ?_) (fun c_2 => ?_)
  · have hm := it_pos c_2 hm
    refine lv_bipush (v := (-2)) hx hb dX10_spans_27 (by decide) ?_
    obtain rfl := Option.some.inj hm
    subst hQ
    exact W.iret (v := (-2)) hx hb hr (fun t ht hW => ⟨⟨_, (), rfl, rfl, by rw [ht]; exact hP, va_K.moved hW.alike hK, hAe ▸ hD⟩, hS.F ht⟩) hS.2.2 dX10_spans_29
  · have hm := it_neg c_2 hm
    refine lv_iload_n hx hb dX10_spans_7 rfl (lv_at hl 2 rfl) ?_
    refine lv_iload_n hx hb dX10_spans_8 rfl (lv_at hl 3 rfl) ?_
    refine lv_iload hx hb dX10_spans_9 (lv_at hl 4 rfl) ?_
    have hPc := hP.sub (ws' := []) [] rfl
    have hDc := hD.sub (ws' := []) [] (by decide) rfl
    have hFc := va_free (wc := []) hD hS hA [] rfl
    obtain ⟨u_3, hc_3, hm⟩ := bd_ok hm
    refine va_calli (va_runS (As := [.int a2, .int a3, .int a4]) (rest := []) ⟨hx, hb, hml, hown, hts⟩ (kM_areLimits l dC dI cA cB ad H.size a2 a3 a4 u_3 hc_3) (va_cwS 3 hts gX10_spans_X10_areLimits rfl rfl rfl (by decide +kernel) ⟨Nat.le_of_ble_eq_true rfl, Nat.le_of_ble_eq_true rfl⟩) ⟨fun a U g mk q => by obtain ⟨q0, q1, qP, qK, qD⟩ := q; exact ⟨q0, q1, qP, va_K.moved (u := U) (U := U.calling g mk a) (Vm.Alike.refl U.vm) qK, qD⟩, fun U hU hW => ⟨rfl, by rw [hU], by rw [hU]; exact hPc, va_K.moved hW.alike hK, hDc.weaken (fun _ _ _ _ => trivial)⟩⟩ rfl rfl hl.1 rfl (lv_room (Nat.le_of_ble_eq_true rfl)) dX10_spans_11 ⟨Nat.le_of_ble_eq_true rfl, Nat.le_of_ble_eq_true rfl⟩) hS (fun q _ h => hFc q h) hFc (fun r_3 _ t H1 locs ht hvm hw hB hz1 hk1 hS => ?_)
    obtain ⟨hP1, hK1, hD1⟩ := hB
    rw [ht] at hP1
    obtain ⟨hP, hD⟩ := va_join (wr := []) (w1 := []) hP hD [] [] rfl rfl (by decide) (by decide) hk1 hFc hP1 hD1
    clear hPc hDc hFc hP1 hK1 hD1 hk1 hz1 hvm ht
    generalize H1 = H at hP hS ⊢
    have hP : va_P (dC, dI) vwCl [] H := hP
    have hD : va_D A [] := hD
    have hw := hw.symm
    subst hw
    refine lv_if_eq (tgt := 27) hx hb dX10_spans_14 (by decide) (fun c_4 => ?_) (fun c_4 => ?_)
    · have hm := it_pos c_4 hm
      refine lv_bipush (v := (-2)) hx hb dX10_spans_27 (by decide) ?_
      obtain rfl := Option.some.inj hm
      subst hQ
      exact W.iret (v := (-2)) hx hb hr (fun t ht hW => ⟨⟨_, (), rfl, rfl, by rw [ht]; exact hP, va_K.moved hW.alike hK, hAe ▸ hD⟩, hS.F ht⟩) hS.2.2 dX10_spans_29
    · have hm := it_neg c_4 hm
      refine lv_iload hx hb dX10_spans_17 (lv_at hl 5 rfl) ?_
      refine lv_iconst (v := 0) hx hb dX10_spans_19 (by decide) ?_
      refine lv_iconst (v := 1) hx hb dX10_spans_20 (by decide) ?_
      have hPc := hP.sub (ws' := []) [] rfl
      have hDc := hD.sub (ws' := []) [] (by decide) rfl
      have hFc := va_free (wc := []) hD hS hA [] rfl
      obtain ⟨u_5, hc_5, hm⟩ := bd_ok hm
      refine va_calli (va_runS (As := [.int a5, .int 0, .int 1]) (rest := []) ⟨hx, hb, hml, hown, hts⟩ (kM_in l dC dI cA cB ad H.size a5 0 1 u_5 hc_5) (va_cwS 3 hts gX10_spans_X10_in rfl rfl rfl (by decide +kernel) ⟨Nat.le_of_ble_eq_true rfl, Nat.le_of_ble_eq_true rfl⟩) ⟨fun a U g mk q => by obtain ⟨q0, q1, qP, qK, qD⟩ := q; exact ⟨q0, q1, qP, va_K.moved (u := U) (U := U.calling g mk a) (Vm.Alike.refl U.vm) qK, qD⟩, fun U hU hW => ⟨rfl, by rw [hU], by rw [hU]; exact hPc, va_K.moved hW.alike hK, hDc.weaken (fun _ _ _ _ => trivial)⟩⟩ rfl rfl hl.1 rfl (lv_room (Nat.le_of_ble_eq_true rfl)) dX10_spans_21 ⟨Nat.le_of_ble_eq_true rfl, Nat.le_of_ble_eq_true rfl⟩) hS (fun q _ h => hFc q h) hFc (fun r_5 _ t H1 locs ht hvm hw hB hz1 hk1 hS => ?_)
      obtain ⟨hP1, hK1, hD1⟩ := hB
      rw [ht] at hP1
      obtain ⟨hP, hD⟩ := va_join (wr := []) (w1 := []) hP hD [] [] rfl rfl (by decide) (by decide) hk1 hFc hP1 hD1
      clear hPc hDc hFc hP1 hK1 hD1 hk1 hz1 hvm ht
      generalize H1 = H at hP hS ⊢
      have hP : va_P (dC, dI) vwCl [] H := hP
      have hD : va_D A [] := hD
      have hw := hw.symm
      subst hw
      refine lv_if_ne (tgt := 30) hx hb dX10_spans_24 (by decide) (fun c_6 => ?_) (fun c_6 => ?_)
      · have hm := it_neg c_6 hm
        refine lv_iload_n hx hb dX10_spans_30 rfl (lv_at hl 1 rfl) ?_
        refine lv_iload_n hx hb dX10_spans_31 rfl (lv_at hl 3 rfl) ?_
        refine lv_iload hx hb dX10_spans_32 (lv_at hl 4 rfl) ?_
        have hPc := hP.sub (ws' := []) [] rfl
        have hDc := hD.sub (ws' := []) [] (by decide) rfl
        have hFc := va_free (wc := []) hD hS hA [] rfl
        obtain ⟨u_7, hc_7, hm⟩ := bd_ok hm
        refine va_calli (va_runS (As := [.int a1, .int a3, .int a4]) (rest := []) ⟨hx, hb, hml, hown, hts⟩ (kM_fewestBy l dC dI cA cB ad H.size a1 a3 a4 u_7 hc_7) (va_cwS 3 hts gX10_spans_X10_fewestBy rfl rfl rfl (by decide +kernel) ⟨Nat.le_of_ble_eq_true rfl, Nat.le_of_ble_eq_true rfl⟩) ⟨fun a U g mk q => by obtain ⟨q0, q1, qP, qK, qD⟩ := q; exact ⟨q0, q1, qP, va_K.moved (u := U) (U := U.calling g mk a) (Vm.Alike.refl U.vm) qK, qD⟩, fun U hU hW => ⟨rfl, by rw [hU], by rw [hU]; exact hPc, va_K.moved hW.alike hK, hDc.weaken (fun _ _ _ _ => trivial)⟩⟩ rfl rfl hl.1 rfl (lv_room (Nat.le_of_ble_eq_true rfl)) dX10_spans_34 ⟨Nat.le_of_ble_eq_true rfl, Nat.le_of_ble_eq_true rfl⟩) hS (fun q _ h => hFc q h) hFc (fun r_7 _ t H1 locs ht hvm hw hB hz1 hk1 hS => ?_)
        obtain ⟨hP1, hK1, hD1⟩ := hB
        rw [ht] at hP1
        obtain ⟨hP, hD⟩ := va_join (wr := []) (w1 := []) hP hD [] [] rfl rfl (by decide) (by decide) hk1 hFc hP1 hD1
        clear hPc hDc hFc hP1 hK1 hD1 hk1 hz1 hvm ht
        generalize H1 = H at hP hS ⊢
        have hP : va_P (dC, dI) vwCl [] H := hP
        have hD : va_D A [] := hD
        have hw := hw.symm
        subst hw
        refine lv_istore (lv' := [(6, .int u_7), (0, .ref (ad 0)), (1, .int a1), (2, .int a2), (3, .int a3), (4, .int a4), (5, .int a5)]) hx hb dX10_spans_37 hl (by decide) rfl (fun ls hl => ?_)
        refine lv_iload_n hx hb dX10_spans_39 rfl (lv_at hl 2 rfl) ?_
        refine lv_iload hx hb dX10_spans_40 (lv_at hl 5 rfl) ?_
        refine lv_iadd hx hb dX10_spans_42 ?_
        refine lv_iload_n hx hb dX10_spans_43 rfl (lv_at hl 3 rfl) ?_
        obtain ⟨z_8, hm⟩ := dz_ok hm
        refine lv_idiv hx hb dX10_spans_44 z_8 ?_
        refine lv_istore (lv' := [(7, .int ((a1 + a4) / a2)), (6, .int u_7), (0, .ref (ad 0)), (1, .int a1), (2, .int a2), (3, .int a3), (4, .int a4), (5, .int a5)]) hx hb dX10_spans_45 hl (by decide) rfl (fun ls hl => ?_)
        refine lv_iload hx hb dX10_spans_47 (lv_at hl 0 rfl) ?_
        refine lv_iload hx hb dX10_spans_49 (lv_at hl 1 rfl) ?_
        refine lv_icmp_ge (tgt := 58) hx hb dX10_spans_51 (by decide) (fun c_9 => ?_) (fun c_9 => ?_)
        · have hm := it_pos c_9 hm
          refine lv_iload hx hb dX10_spans_58 (lv_at hl 7 rfl) ?_
          refine lv_if_ne (tgt := 68) hx hb dX10_spans_60 (by decide) (fun c_10 => ?_) (fun c_10 => ?_)
          · have hm := it_neg c_10 hm
            refine lv_iload hx hb dX10_spans_68 (lv_at hl 0 rfl) ?_
            obtain rfl := Option.some.inj hm
            subst hQ
            exact W.iret (v := ((a1 + a4) / a2)) hx hb hr (fun t ht hW => ⟨⟨_, (), rfl, rfl, by rw [ht]; exact hP, va_K.moved hW.alike hK, hAe ▸ hD⟩, hS.F ht⟩) hS.2.2 dX10_spans_70
          · have hm := it_pos c_10 hm
            refine lv_iload hx hb dX10_spans_63 (lv_at hl 1 rfl) ?_
            refine lv_goto (tgt := 70) hx hb dX10_spans_65 (by decide) ?_
            obtain rfl := Option.some.inj hm
            subst hQ
            exact W.iret (v := u_7) hx hb hr (fun t ht hW => ⟨⟨_, (), rfl, rfl, by rw [ht]; exact hP, va_K.moved hW.alike hK, hAe ▸ hD⟩, hS.F ht⟩) hS.2.2 dX10_spans_70
        · have hm := it_neg c_9 hm
          refine lv_iconst (v := (-1)) hx hb dX10_spans_54 (by decide) ?_
          refine lv_goto (tgt := 70) hx hb dX10_spans_55 (by decide) ?_
          obtain rfl := Option.some.inj hm
          subst hQ
          exact W.iret (v := (-1)) hx hb hr (fun t ht hW => ⟨⟨_, (), rfl, rfl, by rw [ht]; exact hP, va_K.moved hW.alike hK, hAe ▸ hD⟩, hS.F ht⟩) hS.2.2 dX10_spans_70
      · have hm := it_pos c_6 hm
        refine lv_bipush (v := (-2)) hx hb dX10_spans_27 (by decide) ?_
        obtain rfl := Option.some.inj hm
        subst hQ
        exact W.iret (v := (-2)) hx hb hr (fun t ht hW => ⟨⟨_, (), rfl, rfl, by rw [ht]; exact hP, va_K.moved hW.alike hK, hAe ▸ hD⟩, hS.F ht⟩) hS.2.2 dX10_spans_29

set_option maxHeartbeats 4000000 in
set_option maxRecDepth 100000 in
theorem kM_limits (l : Launch) (dC : Nat → ClassId) (dI : Nat → Nat → Nat) (cA : ClassId) (cB : ClassId) (ad : Nat → Nat) (sz : Nat) (a1 : Int32) (a2 : Int32) (a3 : Int32) (xM_typed : Int32) (xM_people : Int32) (xM_posted : Int32) (xM_hears : Int32) (xM_censuses : Int32) (xM_finding : Int32) (gMlimit : Nat → Int32) (u : Int32 × (Nat → Int32)) (hm : fM_limits a1 a2 a3 gMlimit = some u) : Met l yX10_limits wsX10_limits ({ frames := 2, cells := 0, slots := 0, locals := 44 }) (va_Pc [.ref (ad 0), .int a1, .int a2, .int a3] (fun U => U.heap.size = sz ∧ va_P (dC, dI) vwCl [oM ad xM_typed xM_people xM_posted xM_hears xM_censuses xM_finding, ar (ad 12) cA 3 gMlimit] U.heap ∧ va_K (dC, dI) vwCl [(cA, .int), (cB, .boolean)] U ∧ va_D (fun _ => True) [oM ad xM_typed xM_people xM_posted xM_hears xM_censuses xM_finding, ar (ad 12) cA 3 gMlimit])) (va_Qi (fun (r : Int32) (_ : Unit) => r = u.1) (fun (_ : Unit) t => va_P (dC, dI) vwCl [oM ad xM_typed xM_people xM_posted xM_hears xM_censuses xM_finding, ar (ad 12) cA 3 u.2] t.heap ∧ va_K (dC, dI) vwCl [(cA, .int), (cB, .boolean)] t ∧ va_D (va_A [oM ad xM_typed xM_people xM_posted xM_hears xM_censuses xM_finding, ar (ad 12) cA 3 gMlimit] sz) [oM ad xM_typed xM_people xM_posted xM_hears xM_censuses xM_finding, ar (ad 12) cA 3 u.2]) (va_A [oM ad xM_typed xM_people xM_posted xM_hears xM_censuses xM_finding, ar (ad 12) cA 3 gMlimit] sz)) 0 0 (va_A [oM ad xM_typed xM_people xM_posted xM_hears xM_censuses xM_finding, ar (ad 12) cA 3 gMlimit] sz) := by
  refine Met.ofW (cc := cX10_limits) (maxL := 5) (ret := (some .int)) (by decide) rfl ?_
  intro p e s m args below meth c s₁ B hml hv
  obtain ⟨rfl, hsz, hP, hK, hD0⟩ := hv
  have hx := B.exec
  have hb := B.bytes
  have hr := B.returns
  have hts := atoms_spec (ws := wsX10_limits) B.pre
  have hown : s.vm.findClass RX10 = some m.cls := findClass_of_methodNamed B.named
  have hlocks := B.notSynchronized
  subst hsz
  have hD := hD0.self (sz := s.heap.size)
  generalize hAe : va_A [oM ad xM_typed xM_people xM_posted xM_hears xM_censuses xM_finding, ar (ad 12) cA 3 gMlimit] s.heap.size = A at hD ⊢
  have hA : ∀ q : Nat, s.heap.size ≤ q → A q := fun q h => by rw [← hAe]; exact Or.inr h
  have hS : va_S A s.heap s.heap [] := va_S.rf
  have hl := lv_entry ([.ref (ad 0), .int a1, .int a2, .int a3]) (n := 5) (Nat.le_of_ble_eq_true rfl)
  rw [lg_entry_eq]
  generalize (lg_sl ([.ref (ad 0), .int a1, .int a2, .int a3]) ++ List.replicate (5 - (lg_sl ([.ref (ad 0), .int a1, .int a2, .int a3])).length) Slot.unset).toArray = ls at hl ⊢
  have hl : lv_has ls 5 [(0, .ref (ad 0)), (1, .int a1), (2, .int a2), (3, .int a3)] := hl
  refine wk_Q (fun QQ hQ => ?_)
  have hinX10 : ∀ w ∈ wsX100, w ∈ wsX10_limits := fun w h => List.mem_cons_of_mem _ (inlX10 w h)
  have hl_43 := hts (.fieldLink RX10 43 "HandCensusModel" "limit" "[I") (List.mem_cons_of_mem _ (in_r7 _ (List.mem_of_getElem? (i := 6) rfl)))
  have b_53 : ∀ (v1_53 : Int32) (v2_53 : Int32) (v3_53 : Int32) (s0_53 : Int32) (s1_53 : Int32) (gMlimit_53 : Nat → Int32), fM_limits_53 v1_53 v2_53 v3_53 s0_53 s1_53 gMlimit_53 = some u → ∀ (H : Heap) (locs : List Loc), va_P (dC, dI) vwCl [oM ad xM_typed xM_people xM_posted xM_hears xM_censuses xM_finding, ar (ad 12) cA 3 gMlimit_53] H → va_D A [oM ad xM_typed xM_people xM_posted xM_hears xM_censuses xM_finding, ar (ad 12) cA 3 gMlimit_53] → va_S A s.heap H locs → ∀ ls : Array Slot, lv_has ls 5 [(0, .ref (ad 0)), (1, .int v1_53), (2, .int v2_53), (3, .int v3_53)] → W p l e (headSpec wsX10_limits ({ frames := 2, cells := 0, slots := 0, locals := 44 })).room s m ([.ref (ad 0), .int a1, .int a2, .int a3] : List Value).toArray below meth c H locs 0 0 QQ (F0 m 53 ls [.int s1_53, .int s0_53]) := by
    intro v1_53 v2_53 v3_53 s0_53 s1_53 gMlimit_53 hm H locs hP hD hS ls hl
    unfold fM_limits_53 at hm
    refine lv_iadd hx hb dX10_limits_53 ?_
    refine lv_istore (lv' := [(4, .int (s0_53 + s1_53)), (0, .ref (ad 0)), (1, .int v1_53), (2, .int v2_53), (3, .int v3_53)]) hx hb dX10_limits_54 hl (by decide) rfl (fun ls hl => ?_)
    refine lv_aload_n hx hb dX10_limits_56 rfl (lv_at hl 1 rfl) ?_
    refine va_get (D := (dC, dI)) (ci := 10) (v := .ref (ad 12)) (C := RX10) (T := TX10) (N := 37) hx hb hts hinX10 hown hK hP 0 rfl rfl 13 (by decide) hl_43 (fun _ h9 => h9) rfl dX10_limits_57 ?_
    refine lv_iconst (v := 0) hx hb dX10_limits_60 (by decide) ?_
    refine lv_iload_n hx hb dX10_limits_61 rfl (lv_at hl 2 rfl) ?_
    obtain ⟨i_1, hm⟩ := ck_ok hm
    refine va_iast hx hb hK hP hD hS 1 0 rfl rfl i_1 dX10_limits_62 (fun H locs hP hD hS => ?_)
    have hP : va_P (dC, dI) vwCl [oM ad xM_typed xM_people xM_posted xM_hears xM_censuses xM_finding, ar (ad 12) cA 3 (upd gMlimit_53 (0 : Int32).toNatClampNeg v1_53)] H := hP
    have hD : va_D A [oM ad xM_typed xM_people xM_posted xM_hears xM_censuses xM_finding, ar (ad 12) cA 3 (upd gMlimit_53 (0 : Int32).toNatClampNeg v1_53)] := hD
    refine lv_aload_n hx hb dX10_limits_63 rfl (lv_at hl 1 rfl) ?_
    refine va_get (D := (dC, dI)) (ci := 10) (v := .ref (ad 12)) (C := RX10) (T := TX10) (N := 37) hx hb hts hinX10 hown hK hP 0 rfl rfl 13 (by decide) hl_43 (fun _ h9 => h9) rfl dX10_limits_64 ?_
    refine lv_iconst (v := 1) hx hb dX10_limits_67 (by decide) ?_
    refine lv_iload_n hx hb dX10_limits_68 rfl (lv_at hl 3 rfl) ?_
    obtain ⟨i_2, hm⟩ := ck_ok hm
    refine va_iast hx hb hK hP hD hS 1 0 rfl rfl i_2 dX10_limits_69 (fun H locs hP hD hS => ?_)
    have hP : va_P (dC, dI) vwCl [oM ad xM_typed xM_people xM_posted xM_hears xM_censuses xM_finding, ar (ad 12) cA 3 (upd (upd gMlimit_53 (0 : Int32).toNatClampNeg v1_53) (1 : Int32).toNatClampNeg v2_53)] H := hP
    have hD : va_D A [oM ad xM_typed xM_people xM_posted xM_hears xM_censuses xM_finding, ar (ad 12) cA 3 (upd (upd gMlimit_53 (0 : Int32).toNatClampNeg v1_53) (1 : Int32).toNatClampNeg v2_53)] := hD
    refine lv_aload_n hx hb dX10_limits_70 rfl (lv_at hl 1 rfl) ?_
    refine va_get (D := (dC, dI)) (ci := 10) (v := .ref (ad 12)) (C := RX10) (T := TX10) (N := 37) hx hb hts hinX10 hown hK hP 0 rfl rfl 13 (by decide) hl_43 (fun _ h9 => h9) rfl dX10_limits_71 ?_
    refine lv_iconst (v := 2) hx hb dX10_limits_74 (by decide) ?_
    refine lv_iload_n hx hb dX10_limits_75 rfl (lv_at hl 4 rfl) ?_
    obtain ⟨i_3, hm⟩ := ck_ok hm
    refine va_iast hx hb hK hP hD hS 1 0 rfl rfl i_3 dX10_limits_76 (fun H locs hP hD hS => ?_)
    have hP : va_P (dC, dI) vwCl [oM ad xM_typed xM_people xM_posted xM_hears xM_censuses xM_finding, ar (ad 12) cA 3 (upd (upd (upd gMlimit_53 (0 : Int32).toNatClampNeg v1_53) (1 : Int32).toNatClampNeg v2_53) (2 : Int32).toNatClampNeg v3_53)] H := hP
    have hD : va_D A [oM ad xM_typed xM_people xM_posted xM_hears xM_censuses xM_finding, ar (ad 12) cA 3 (upd (upd (upd gMlimit_53 (0 : Int32).toNatClampNeg v1_53) (1 : Int32).toNatClampNeg v2_53) (2 : Int32).toNatClampNeg v3_53)] := hD
    refine lv_iload hx hb dX10_limits_77 (lv_at hl 0 rfl) ?_
    obtain rfl := Option.some.inj hm
    subst hQ
    exact W.iret (v := (s0_53 + s1_53)) hx hb hr (fun t ht hW => ⟨⟨_, (), rfl, rfl, by rw [ht]; exact hP, va_K.moved hW.alike hK, hAe ▸ hD⟩, hS.F ht⟩) hS.2.2 dX10_limits_79
  unfold fM_limits at hm
  refine lv_iload_n hx hb dX10_limits_0 rfl (lv_at hl 1 rfl) ?_
  refine lv_iload_n hx hb dX10_limits_1 rfl (lv_at hl 2 rfl) ?_
  refine lv_iload_n hx hb dX10_limits_2 rfl (lv_at hl 3 rfl) ?_
  have hPc := hP.sub (ws' := []) [] rfl
  have hDc := hD.sub (ws' := []) [] (by decide) rfl
  have hFc := va_free (wc := []) hD hS hA [] rfl
  obtain ⟨u_4, hc_4, hm⟩ := bd_ok hm
  refine va_calli (va_runS (As := [.int a1, .int a2, .int a3]) (rest := []) ⟨hx, hb, hml, hown, hts⟩ (kM_areLimits l dC dI cA cB ad s.heap.size a1 a2 a3 u_4 hc_4) (va_cwS 3 hts gX10_limits_X10_areLimits rfl rfl rfl (by decide +kernel) ⟨Nat.le_of_ble_eq_true rfl, Nat.le_of_ble_eq_true rfl⟩) ⟨fun a U g mk q => by obtain ⟨q0, q1, qP, qK, qD⟩ := q; exact ⟨q0, q1, qP, va_K.moved (u := U) (U := U.calling g mk a) (Vm.Alike.refl U.vm) qK, qD⟩, fun U hU hW => ⟨rfl, by rw [hU], by rw [hU]; exact hPc, va_K.moved hW.alike hK, hDc.weaken (fun _ _ _ _ => trivial)⟩⟩ rfl rfl hl.1 rfl (lv_room (Nat.le_of_ble_eq_true rfl)) dX10_limits_3 ⟨Nat.le_of_ble_eq_true rfl, Nat.le_of_ble_eq_true rfl⟩) hS (fun q _ h => hFc q h) hFc (fun r_4 _ t H1 locs ht hvm hw hB hz1 hk1 hS => ?_)
  obtain ⟨hP1, hK1, hD1⟩ := hB
  rw [ht] at hP1
  obtain ⟨hP, hD⟩ := va_join (wr := [oM ad xM_typed xM_people xM_posted xM_hears xM_censuses xM_finding, ar (ad 12) cA 3 gMlimit]) (w1 := []) hP hD [] [0, 1] rfl rfl (by decide) (by decide) hk1 hFc hP1 hD1
  clear hPc hDc hFc hP1 hK1 hD1 hk1 hz1 hvm ht
  generalize H1 = H at hP hS ⊢
  have hP : va_P (dC, dI) vwCl [oM ad xM_typed xM_people xM_posted xM_hears xM_censuses xM_finding, ar (ad 12) cA 3 gMlimit] H := hP
  have hD : va_D A [oM ad xM_typed xM_people xM_posted xM_hears xM_censuses xM_finding, ar (ad 12) cA 3 gMlimit] := hD
  have hw := hw.symm
  subst hw
  refine lv_if_ne (tgt := 12) hx hb dX10_limits_6 (by decide) (fun c_5 => ?_) (fun c_5 => ?_)
  · have hm := it_neg c_5 hm
    refine lv_bipush (v := 100) hx hb dX10_limits_12 (by decide) ?_
    refine lv_aload_n hx hb dX10_limits_14 rfl (lv_at hl 0 rfl) ?_
    refine va_get (D := (dC, dI)) (ci := 10) (v := .ref (ad 12)) (C := RX10) (T := TX10) (N := 37) hx hb hts hinX10 hown hK hP 0 rfl rfl 13 (by decide) hl_43 (fun _ h9 => h9) rfl dX10_limits_15 ?_
    refine lv_iconst (v := 0) hx hb dX10_limits_18 (by decide) ?_
    obtain ⟨i_6, hm⟩ := ck_ok hm
    refine va_iald hx hb hK hP 1 0 rfl rfl i_6 dX10_limits_19 ?_
    refine lv_imul hx hb dX10_limits_20 ?_
    refine lv_bipush (v := 10) hx hb dX10_limits_21 (by decide) ?_
    refine lv_aload_n hx hb dX10_limits_23 rfl (lv_at hl 0 rfl) ?_
    refine va_get (D := (dC, dI)) (ci := 10) (v := .ref (ad 12)) (C := RX10) (T := TX10) (N := 37) hx hb hts hinX10 hown hK hP 0 rfl rfl 13 (by decide) hl_43 (fun _ h9 => h9) rfl dX10_limits_24 ?_
    refine lv_iconst (v := 1) hx hb dX10_limits_27 (by decide) ?_
    obtain ⟨i_7, hm⟩ := ck_ok hm
    refine va_iald hx hb hK hP 1 0 rfl rfl i_7 dX10_limits_28 ?_
    refine lv_imul hx hb dX10_limits_29 ?_
    refine lv_iadd hx hb dX10_limits_30 ?_
    refine lv_aload_n hx hb dX10_limits_31 rfl (lv_at hl 0 rfl) ?_
    refine va_get (D := (dC, dI)) (ci := 10) (v := .ref (ad 12)) (C := RX10) (T := TX10) (N := 37) hx hb hts hinX10 hown hK hP 0 rfl rfl 13 (by decide) hl_43 (fun _ h9 => h9) rfl dX10_limits_32 ?_
    refine lv_iconst (v := 2) hx hb dX10_limits_35 (by decide) ?_
    obtain ⟨i_8, hm⟩ := ck_ok hm
    refine va_iald hx hb hK hP 1 0 rfl rfl i_8 dX10_limits_36 ?_
    refine lv_bipush (v := 9) hx hb dX10_limits_37 (by decide) ?_
    refine lv_icmp_ge (tgt := 51) hx hb dX10_limits_39 (by decide) (fun c_9 => ?_) (fun c_9 => ?_)
    · have hm := it_pos c_9 hm
      refine lv_bipush (v := 9) hx hb dX10_limits_51 (by decide) ?_
      exact b_53 _ _ _ _ _ _ hm _ _ hP hD hS _ (lv_sub hl [0, 1, 2, 3] rfl)
    · have hm := it_neg c_9 hm
      refine lv_aload_n hx hb dX10_limits_42 rfl (lv_at hl 0 rfl) ?_
      refine va_get (D := (dC, dI)) (ci := 10) (v := .ref (ad 12)) (C := RX10) (T := TX10) (N := 37) hx hb hts hinX10 hown hK hP 0 rfl rfl 13 (by decide) hl_43 (fun _ h9 => h9) rfl dX10_limits_43 ?_
      refine lv_iconst (v := 2) hx hb dX10_limits_46 (by decide) ?_
      obtain ⟨i_10, hm⟩ := ck_ok hm
      refine va_iald hx hb hK hP 1 0 rfl rfl i_10 dX10_limits_47 ?_
      refine lv_goto (tgt := 53) hx hb dX10_limits_48 (by decide) ?_
      exact b_53 _ _ _ _ _ _ hm _ _ hP hD hS _ (lv_sub hl [0, 1, 2, 3] rfl)
  · have hm := it_pos c_5 hm
    refine lv_bipush (v := (-2)) hx hb dX10_limits_9 (by decide) ?_
    obtain rfl := Option.some.inj hm
    subst hQ
    exact W.iret (v := (-2)) hx hb hr (fun t ht hW => ⟨⟨_, (), rfl, rfl, by rw [ht]; exact hP, va_K.moved hW.alike hK, hAe ▸ hD⟩, hS.F ht⟩) hS.2.2 dX10_limits_11

set_option maxHeartbeats 4000000 in
set_option maxRecDepth 100000 in
theorem kM_laysPosts (l : Launch) (dC : Nat → ClassId) (dI : Nat → Nat → Nat) (cA : ClassId) (cB : ClassId) (ad : Nat → Nat) (sz : Nat) (xM_typed : Int32) (xM_people : Int32) (xM_posted : Int32) (xM_hears : Int32) (xM_censuses : Int32) (xM_finding : Int32) (gMtext : Nat → Int32) (gMkinds : Nat → Int32) (gMlates : Nat → Int32) (gMscarfs : Nat → Int32) (gMhands : Nat → Int32) (gMrings : Nat → Int32) (gMmains : Nat → Int32) (gMaheadOf : Nat → Int32) (gMlastIn : Nat → Int32) (gMmanyIn : Nat → Int32) (gMsetting : Nat → Int32) (gMcomes : Nat → Int32) (gMbusyTo : Nat → Int32) (gMfeltMany : Nat → Int32) (gMfeltBits : Nat → Int32) (gMlostBits : Nat → Int32) (gMpostWho : Nat → Int32) (gMpostTime : Nat → Int32) (u : Int32 × Int32 × (Nat → Int32) × (Nat → Int32) × (Nat → Int32) × (Nat → Int32) × (Nat → Int32) × (Nat → Int32) × (Nat → Int32) × (Nat → Int32) × (Nat → Int32) × (Nat → Int32) × (Nat → Int32) × (Nat → Int32) × (Nat → Int32) × (Nat → Int32) × (Nat → Int32) × (Nat → Int32)) (hm : fM_laysPosts xM_typed xM_people xM_posted gMtext gMkinds gMlates gMscarfs gMhands gMrings gMmains gMaheadOf gMlastIn gMmanyIn gMsetting gMcomes gMbusyTo gMfeltMany gMfeltBits gMlostBits gMpostWho gMpostTime = some u) : Met l yX10_laysPosts wsX10_laysPosts ({ frames := 5, cells := 0, slots := 0, locals := 124 }) (va_Pc [.ref (ad 0)] (fun U => U.heap.size = sz ∧ va_P (dC, dI) vwCl [oM ad xM_typed xM_people xM_posted xM_hears xM_censuses xM_finding, ar (ad 1) cA 60 gMtext, ar (ad 2) cA 20 gMkinds, ar (ad 3) cA 20 gMlates, ar (ad 4) cA 20 gMscarfs, ar (ad 5) cA 20 gMhands, ar (ad 6) cA 20 gMrings, ar (ad 7) cA 20 gMmains, ar (ad 8) cA 4 gMaheadOf, ar (ad 9) cA 4 gMlastIn, ar (ad 10) cA 4 gMmanyIn, ar (ad 11) cA 3 gMsetting, ar (ad 13) cA 8020 gMcomes, ar (ad 14) cA 20 gMbusyTo, ar (ad 15) cA 20 gMfeltMany, ar (ad 16) cA 8020 gMfeltBits, ar (ad 17) cA 8020 gMlostBits, ar (ad 18) cA 20 gMpostWho, ar (ad 19) cA 20 gMpostTime] U.heap ∧ va_K (dC, dI) vwCl [(cA, .int), (cB, .boolean)] U ∧ va_D (fun _ => True) [oM ad xM_typed xM_people xM_posted xM_hears xM_censuses xM_finding, ar (ad 1) cA 60 gMtext, ar (ad 2) cA 20 gMkinds, ar (ad 3) cA 20 gMlates, ar (ad 4) cA 20 gMscarfs, ar (ad 5) cA 20 gMhands, ar (ad 6) cA 20 gMrings, ar (ad 7) cA 20 gMmains, ar (ad 8) cA 4 gMaheadOf, ar (ad 9) cA 4 gMlastIn, ar (ad 10) cA 4 gMmanyIn, ar (ad 11) cA 3 gMsetting, ar (ad 13) cA 8020 gMcomes, ar (ad 14) cA 20 gMbusyTo, ar (ad 15) cA 20 gMfeltMany, ar (ad 16) cA 8020 gMfeltBits, ar (ad 17) cA 8020 gMlostBits, ar (ad 18) cA 20 gMpostWho, ar (ad 19) cA 20 gMpostTime])) (va_Qv (fun (_ : Unit) => True) (fun (_ : Unit) t => va_P (dC, dI) vwCl [oM ad xM_typed u.1 u.2.1 xM_hears xM_censuses xM_finding, ar (ad 1) cA 60 gMtext, ar (ad 2) cA 20 u.2.2.1, ar (ad 3) cA 20 u.2.2.2.1, ar (ad 4) cA 20 u.2.2.2.2.1, ar (ad 5) cA 20 u.2.2.2.2.2.1, ar (ad 6) cA 20 u.2.2.2.2.2.2.1, ar (ad 7) cA 20 u.2.2.2.2.2.2.2.1, ar (ad 8) cA 4 u.2.2.2.2.2.2.2.2.1, ar (ad 9) cA 4 u.2.2.2.2.2.2.2.2.2.1, ar (ad 10) cA 4 u.2.2.2.2.2.2.2.2.2.2.1, ar (ad 11) cA 3 gMsetting, ar (ad 13) cA 8020 u.2.2.2.2.2.2.2.2.2.2.2.1, ar (ad 14) cA 20 u.2.2.2.2.2.2.2.2.2.2.2.2.1, ar (ad 15) cA 20 u.2.2.2.2.2.2.2.2.2.2.2.2.2.1, ar (ad 16) cA 8020 u.2.2.2.2.2.2.2.2.2.2.2.2.2.2.1, ar (ad 17) cA 8020 u.2.2.2.2.2.2.2.2.2.2.2.2.2.2.2.1, ar (ad 18) cA 20 u.2.2.2.2.2.2.2.2.2.2.2.2.2.2.2.2.1, ar (ad 19) cA 20 u.2.2.2.2.2.2.2.2.2.2.2.2.2.2.2.2.2] t.heap ∧ va_K (dC, dI) vwCl [(cA, .int), (cB, .boolean)] t ∧ va_D (va_A [oM ad xM_typed xM_people xM_posted xM_hears xM_censuses xM_finding, ar (ad 1) cA 60 gMtext, ar (ad 2) cA 20 gMkinds, ar (ad 3) cA 20 gMlates, ar (ad 4) cA 20 gMscarfs, ar (ad 5) cA 20 gMhands, ar (ad 6) cA 20 gMrings, ar (ad 7) cA 20 gMmains, ar (ad 8) cA 4 gMaheadOf, ar (ad 9) cA 4 gMlastIn, ar (ad 10) cA 4 gMmanyIn, ar (ad 11) cA 3 gMsetting, ar (ad 13) cA 8020 gMcomes, ar (ad 14) cA 20 gMbusyTo, ar (ad 15) cA 20 gMfeltMany, ar (ad 16) cA 8020 gMfeltBits, ar (ad 17) cA 8020 gMlostBits, ar (ad 18) cA 20 gMpostWho, ar (ad 19) cA 20 gMpostTime] sz) [oM ad xM_typed u.1 u.2.1 xM_hears xM_censuses xM_finding, ar (ad 1) cA 60 gMtext, ar (ad 2) cA 20 u.2.2.1, ar (ad 3) cA 20 u.2.2.2.1, ar (ad 4) cA 20 u.2.2.2.2.1, ar (ad 5) cA 20 u.2.2.2.2.2.1, ar (ad 6) cA 20 u.2.2.2.2.2.2.1, ar (ad 7) cA 20 u.2.2.2.2.2.2.2.1, ar (ad 8) cA 4 u.2.2.2.2.2.2.2.2.1, ar (ad 9) cA 4 u.2.2.2.2.2.2.2.2.2.1, ar (ad 10) cA 4 u.2.2.2.2.2.2.2.2.2.2.1, ar (ad 11) cA 3 gMsetting, ar (ad 13) cA 8020 u.2.2.2.2.2.2.2.2.2.2.2.1, ar (ad 14) cA 20 u.2.2.2.2.2.2.2.2.2.2.2.2.1, ar (ad 15) cA 20 u.2.2.2.2.2.2.2.2.2.2.2.2.2.1, ar (ad 16) cA 8020 u.2.2.2.2.2.2.2.2.2.2.2.2.2.2.1, ar (ad 17) cA 8020 u.2.2.2.2.2.2.2.2.2.2.2.2.2.2.2.1, ar (ad 18) cA 20 u.2.2.2.2.2.2.2.2.2.2.2.2.2.2.2.2.1, ar (ad 19) cA 20 u.2.2.2.2.2.2.2.2.2.2.2.2.2.2.2.2.2]) (va_A [oM ad xM_typed xM_people xM_posted xM_hears xM_censuses xM_finding, ar (ad 1) cA 60 gMtext, ar (ad 2) cA 20 gMkinds, ar (ad 3) cA 20 gMlates, ar (ad 4) cA 20 gMscarfs, ar (ad 5) cA 20 gMhands, ar (ad 6) cA 20 gMrings, ar (ad 7) cA 20 gMmains, ar (ad 8) cA 4 gMaheadOf, ar (ad 9) cA 4 gMlastIn, ar (ad 10) cA 4 gMmanyIn, ar (ad 11) cA 3 gMsetting, ar (ad 13) cA 8020 gMcomes, ar (ad 14) cA 20 gMbusyTo, ar (ad 15) cA 20 gMfeltMany, ar (ad 16) cA 8020 gMfeltBits, ar (ad 17) cA 8020 gMlostBits, ar (ad 18) cA 20 gMpostWho, ar (ad 19) cA 20 gMpostTime] sz)) 0 0 (va_A [oM ad xM_typed xM_people xM_posted xM_hears xM_censuses xM_finding, ar (ad 1) cA 60 gMtext, ar (ad 2) cA 20 gMkinds, ar (ad 3) cA 20 gMlates, ar (ad 4) cA 20 gMscarfs, ar (ad 5) cA 20 gMhands, ar (ad 6) cA 20 gMrings, ar (ad 7) cA 20 gMmains, ar (ad 8) cA 4 gMaheadOf, ar (ad 9) cA 4 gMlastIn, ar (ad 10) cA 4 gMmanyIn, ar (ad 11) cA 3 gMsetting, ar (ad 13) cA 8020 gMcomes, ar (ad 14) cA 20 gMbusyTo, ar (ad 15) cA 20 gMfeltMany, ar (ad 16) cA 8020 gMfeltBits, ar (ad 17) cA 8020 gMlostBits, ar (ad 18) cA 20 gMpostWho, ar (ad 19) cA 20 gMpostTime] sz) := by
  refine Met.ofW (cc := cX10_laysPosts) (maxL := 2) (ret := none) (by decide) rfl ?_
  intro p e s m args below meth c s₁ B hml hv
  obtain ⟨rfl, hsz, hP, hK, hD0⟩ := hv
  have hx := B.exec
  have hb := B.bytes
  have hr := B.returns
  have hts := atoms_spec (ws := wsX10_laysPosts) B.pre
  have hown : s.vm.findClass RX10 = some m.cls := findClass_of_methodNamed B.named
  have hlocks := B.notSynchronized
  subst hsz
  have hD := hD0.self (sz := s.heap.size)
  generalize hAe : va_A [oM ad xM_typed xM_people xM_posted xM_hears xM_censuses xM_finding, ar (ad 1) cA 60 gMtext, ar (ad 2) cA 20 gMkinds, ar (ad 3) cA 20 gMlates, ar (ad 4) cA 20 gMscarfs, ar (ad 5) cA 20 gMhands, ar (ad 6) cA 20 gMrings, ar (ad 7) cA 20 gMmains, ar (ad 8) cA 4 gMaheadOf, ar (ad 9) cA 4 gMlastIn, ar (ad 10) cA 4 gMmanyIn, ar (ad 11) cA 3 gMsetting, ar (ad 13) cA 8020 gMcomes, ar (ad 14) cA 20 gMbusyTo, ar (ad 15) cA 20 gMfeltMany, ar (ad 16) cA 8020 gMfeltBits, ar (ad 17) cA 8020 gMlostBits, ar (ad 18) cA 20 gMpostWho, ar (ad 19) cA 20 gMpostTime] s.heap.size = A at hD ⊢
  have hA : ∀ q : Nat, s.heap.size ≤ q → A q := fun q h => by rw [← hAe]; exact Or.inr h
  have hS : va_S A s.heap s.heap [] := va_S.rf
  have hl := lv_entry ([.ref (ad 0)]) (n := 2) (Nat.le_of_ble_eq_true rfl)
  rw [lg_entry_eq]
  generalize (lg_sl ([.ref (ad 0)]) ++ List.replicate (2 - (lg_sl ([.ref (ad 0)])).length) Slot.unset).toArray = ls at hl ⊢
  have hl : lv_has ls 2 [(0, .ref (ad 0))] := hl
  refine wk_Q (fun QQ hQ => ?_)
  have hinX10 : ∀ w ∈ wsX100, w ∈ wsX10_laysPosts := fun w h => List.mem_cons_of_mem _ (inlX10 w h)
  have hl_112 := hts (.fieldLink RX10 112 "HandCensusModel" "people" "I") (List.mem_cons_of_mem _ (in_r12 _ (List.mem_of_getElem? (i := 4) rfl)))
  have hl_28 := hts (.fieldLink RX10 28 "HandCensusModel" "mains" "[I") (List.mem_cons_of_mem _ (in_r7 _ (List.mem_of_getElem? (i := 1) rfl)))
  have hl_52 := hts (.fieldLink RX10 52 "HandCensusModel" "feltMany" "[I") (List.mem_cons_of_mem _ (in_r7 _ (List.mem_of_getElem? (i := 9) rfl)))
  have hl_61 := hts (.fieldLink RX10 61 "HandCensusModel" "postWho" "[I") (List.mem_cons_of_mem _ (in_r7 _ (List.mem_of_getElem? (i := 12) rfl)))
  have hl_213 := hts (.fieldLink RX10 213 "HandCensusModel" "posted" "I") (List.mem_cons_of_mem _ (in_r31 _ (List.mem_of_getElem? (i := 7) rfl)))
  have hl_64 := hts (.fieldLink RX10 64 "HandCensusModel" "postTime" "[I") (List.mem_cons_of_mem _ (in_r7 _ (List.mem_of_getElem? (i := 13) rfl)))
  have h_11 : ∀ (xM_people_11 : Int32) (gMkinds_11 : Nat → Int32) (gMlates_11 : Nat → Int32) (gMscarfs_11 : Nat → Int32) (gMhands_11 : Nat → Int32) (gMrings_11 : Nat → Int32) (gMmains_11 : Nat → Int32) (gMaheadOf_11 : Nat → Int32) (gMlastIn_11 : Nat → Int32) (gMmanyIn_11 : Nat → Int32) (gMcomes_11 : Nat → Int32) (gMbusyTo_11 : Nat → Int32) (gMfeltMany_11 : Nat → Int32) (gMfeltBits_11 : Nat → Int32) (gMlostBits_11 : Nat → Int32), ∀ (n_11 : Nat), ∀ (v1_11 : Int32) (xM_posted_11 : Int32) (gMpostWho_11 : Nat → Int32) (gMpostTime_11 : Nat → Int32), fM_laysPosts_11 xM_people_11 gMkinds_11 gMlates_11 gMscarfs_11 gMhands_11 gMrings_11 gMmains_11 gMaheadOf_11 gMlastIn_11 gMmanyIn_11 gMcomes_11 gMbusyTo_11 gMfeltMany_11 gMfeltBits_11 gMlostBits_11 n_11 v1_11 xM_posted_11 gMpostWho_11 gMpostTime_11 = some u → ∀ (H : Heap) (locs : List Loc), va_P (dC, dI) vwCl [oM ad xM_typed xM_people_11 xM_posted_11 xM_hears xM_censuses xM_finding, ar (ad 1) cA 60 gMtext, ar (ad 2) cA 20 gMkinds_11, ar (ad 3) cA 20 gMlates_11, ar (ad 4) cA 20 gMscarfs_11, ar (ad 5) cA 20 gMhands_11, ar (ad 6) cA 20 gMrings_11, ar (ad 7) cA 20 gMmains_11, ar (ad 8) cA 4 gMaheadOf_11, ar (ad 9) cA 4 gMlastIn_11, ar (ad 10) cA 4 gMmanyIn_11, ar (ad 11) cA 3 gMsetting, ar (ad 13) cA 8020 gMcomes_11, ar (ad 14) cA 20 gMbusyTo_11, ar (ad 15) cA 20 gMfeltMany_11, ar (ad 16) cA 8020 gMfeltBits_11, ar (ad 17) cA 8020 gMlostBits_11, ar (ad 18) cA 20 gMpostWho_11, ar (ad 19) cA 20 gMpostTime_11] H → va_D A [oM ad xM_typed xM_people_11 xM_posted_11 xM_hears xM_censuses xM_finding, ar (ad 1) cA 60 gMtext, ar (ad 2) cA 20 gMkinds_11, ar (ad 3) cA 20 gMlates_11, ar (ad 4) cA 20 gMscarfs_11, ar (ad 5) cA 20 gMhands_11, ar (ad 6) cA 20 gMrings_11, ar (ad 7) cA 20 gMmains_11, ar (ad 8) cA 4 gMaheadOf_11, ar (ad 9) cA 4 gMlastIn_11, ar (ad 10) cA 4 gMmanyIn_11, ar (ad 11) cA 3 gMsetting, ar (ad 13) cA 8020 gMcomes_11, ar (ad 14) cA 20 gMbusyTo_11, ar (ad 15) cA 20 gMfeltMany_11, ar (ad 16) cA 8020 gMfeltBits_11, ar (ad 17) cA 8020 gMlostBits_11, ar (ad 18) cA 20 gMpostWho_11, ar (ad 19) cA 20 gMpostTime_11] → va_S A s.heap H locs → ∀ ls : Array Slot, lv_has ls 2 [(0, .ref (ad 0)), (1, .int v1_11)] → W p l e (headSpec wsX10_laysPosts ({ frames := 5, cells := 0, slots := 0, locals := 124 })).room s m ([.ref (ad 0)] : List Value).toArray below meth c H locs 0 0 QQ (F0 m 11 ls []) := by
    intro xM_people_11 gMkinds_11 gMlates_11 gMscarfs_11 gMhands_11 gMrings_11 gMmains_11 gMaheadOf_11 gMlastIn_11 gMmanyIn_11 gMcomes_11 gMbusyTo_11 gMfeltMany_11 gMfeltBits_11 gMlostBits_11
    intro n_11
    induction n_11 with
    | zero => intro v1_11 xM_posted_11 gMpostWho_11 gMpostTime_11 hm; have hm : (none : Option (Int32 × Int32 × (Nat → Int32) × (Nat → Int32) × (Nat → Int32) × (Nat → Int32) × (Nat → Int32) × (Nat → Int32) × (Nat → Int32) × (Nat → Int32) × (Nat → Int32) × (Nat → Int32) × (Nat → Int32) × (Nat → Int32) × (Nat → Int32) × (Nat → Int32) × (Nat → Int32) × (Nat → Int32))) = some u := hm; cases hm
    | succ n_11 ih_11 =>
      have b_73 : ∀ (v1_73 : Int32) (xM_posted_73 : Int32) (gMpostWho_73 : Nat → Int32) (gMpostTime_73 : Nat → Int32), fM_laysPosts_73 (fM_laysPosts_11  xM_people_11 gMkinds_11 gMlates_11 gMscarfs_11 gMhands_11 gMrings_11 gMmains_11 gMaheadOf_11 gMlastIn_11 gMmanyIn_11 gMcomes_11 gMbusyTo_11 gMfeltMany_11 gMfeltBits_11 gMlostBits_11 n_11) v1_73 xM_people_11 xM_posted_73 gMkinds_11 gMlates_11 gMscarfs_11 gMhands_11 gMrings_11 gMmains_11 gMaheadOf_11 gMlastIn_11 gMmanyIn_11 gMcomes_11 gMbusyTo_11 gMfeltMany_11 gMfeltBits_11 gMlostBits_11 gMpostWho_73 gMpostTime_73 = some u → ∀ (H : Heap) (locs : List Loc), va_P (dC, dI) vwCl [oM ad xM_typed xM_people_11 xM_posted_73 xM_hears xM_censuses xM_finding, ar (ad 1) cA 60 gMtext, ar (ad 2) cA 20 gMkinds_11, ar (ad 3) cA 20 gMlates_11, ar (ad 4) cA 20 gMscarfs_11, ar (ad 5) cA 20 gMhands_11, ar (ad 6) cA 20 gMrings_11, ar (ad 7) cA 20 gMmains_11, ar (ad 8) cA 4 gMaheadOf_11, ar (ad 9) cA 4 gMlastIn_11, ar (ad 10) cA 4 gMmanyIn_11, ar (ad 11) cA 3 gMsetting, ar (ad 13) cA 8020 gMcomes_11, ar (ad 14) cA 20 gMbusyTo_11, ar (ad 15) cA 20 gMfeltMany_11, ar (ad 16) cA 8020 gMfeltBits_11, ar (ad 17) cA 8020 gMlostBits_11, ar (ad 18) cA 20 gMpostWho_73, ar (ad 19) cA 20 gMpostTime_73] H → va_D A [oM ad xM_typed xM_people_11 xM_posted_73 xM_hears xM_censuses xM_finding, ar (ad 1) cA 60 gMtext, ar (ad 2) cA 20 gMkinds_11, ar (ad 3) cA 20 gMlates_11, ar (ad 4) cA 20 gMscarfs_11, ar (ad 5) cA 20 gMhands_11, ar (ad 6) cA 20 gMrings_11, ar (ad 7) cA 20 gMmains_11, ar (ad 8) cA 4 gMaheadOf_11, ar (ad 9) cA 4 gMlastIn_11, ar (ad 10) cA 4 gMmanyIn_11, ar (ad 11) cA 3 gMsetting, ar (ad 13) cA 8020 gMcomes_11, ar (ad 14) cA 20 gMbusyTo_11, ar (ad 15) cA 20 gMfeltMany_11, ar (ad 16) cA 8020 gMfeltBits_11, ar (ad 17) cA 8020 gMlostBits_11, ar (ad 18) cA 20 gMpostWho_73, ar (ad 19) cA 20 gMpostTime_73] → va_S A s.heap H locs → ∀ ls : Array Slot, lv_has ls 2 [(0, .ref (ad 0)), (1, .int v1_73)] → W p l e (headSpec wsX10_laysPosts ({ frames := 5, cells := 0, slots := 0, locals := 124 })).room s m ([.ref (ad 0)] : List Value).toArray below meth c H locs 0 0 QQ (F0 m 73 ls []) := by
        intro v1_73 xM_posted_73 gMpostWho_73 gMpostTime_73 hm H locs hP hD hS ls hl
        unfold fM_laysPosts_73 at hm
        refine lv_iinc (v := (v1_73 + 1)) (lv' := [(1, .int (v1_73 + 1)), (0, .ref (ad 0))]) hx hb dX10_laysPosts_73 hl (k := 1) rfl rfl (by decide) rfl (fun ls hl => ?_)
        refine lv_goto (tgt := 11) hx hb dX10_laysPosts_76 (by decide) ?_
        exact ih_11 _ _ _ _ hm _ _ hP hD hS _ (lv_sub hl [1, 0] rfl)
      intro v1_11 xM_posted_11 gMpostWho_11 gMpostTime_11 hm H locs hP hD hS ls hl
      have hm : fM_laysPosts_11_b  (fM_laysPosts_11  xM_people_11 gMkinds_11 gMlates_11 gMscarfs_11 gMhands_11 gMrings_11 gMmains_11 gMaheadOf_11 gMlastIn_11 gMmanyIn_11 gMcomes_11 gMbusyTo_11 gMfeltMany_11 gMfeltBits_11 gMlostBits_11 n_11) xM_people_11 gMkinds_11 gMlates_11 gMscarfs_11 gMhands_11 gMrings_11 gMmains_11 gMaheadOf_11 gMlastIn_11 gMmanyIn_11 gMcomes_11 gMbusyTo_11 gMfeltMany_11 gMfeltBits_11 gMlostBits_11 v1_11 xM_posted_11 gMpostWho_11 gMpostTime_11 = some u := hm
      unfold fM_laysPosts_11_b at hm
      refine lv_iload_n hx hb dX10_laysPosts_11 rfl (lv_at hl 1 rfl) ?_
      refine lv_aload_n hx hb dX10_laysPosts_12 rfl (lv_at hl 0 rfl) ?_
      refine va_get (D := (dC, dI)) (ci := 10) (v := .int xM_people_11) (C := RX10) (T := TX10) (N := 37) hx hb hts hinX10 hown hK hP 0 rfl rfl 2 (by decide) hl_112 (fun _ h9 => h9) rfl dX10_laysPosts_13 ?_
      refine lv_icmp_ge (tgt := 79) hx hb dX10_laysPosts_16 (by decide) (fun c_1 => ?_) (fun c_1 => ?_)
      · have hm := it_pos c_1 hm
        obtain rfl := Option.some.inj hm
        subst hQ
        exact W.vret hx hb hr (fun t ht hW => ⟨⟨(), rfl, trivial, by rw [ht]; exact hP, va_K.moved hW.alike hK, hAe ▸ hD⟩, hS.F ht⟩) hS.2.2 dX10_laysPosts_79
      · have hm := it_neg c_1 hm
        refine lv_aload_n hx hb dX10_laysPosts_19 rfl (lv_at hl 0 rfl) ?_
        refine va_get (D := (dC, dI)) (ci := 10) (v := .ref (ad 7)) (C := RX10) (T := TX10) (N := 37) hx hb hts hinX10 hown hK hP 0 rfl rfl 8 (by decide) hl_28 (fun _ h9 => h9) rfl dX10_laysPosts_20 ?_
        refine lv_iload_n hx hb dX10_laysPosts_23 rfl (lv_at hl 1 rfl) ?_
        obtain ⟨i_2, hm⟩ := ck_ok hm
        refine va_iald hx hb hK hP 7 0 rfl rfl i_2 dX10_laysPosts_24 ?_
        refine lv_iconst (v := 1) hx hb dX10_laysPosts_25 (by decide) ?_
        refine lv_icmp_ne (tgt := 73) hx hb dX10_laysPosts_26 (by decide) (fun c_3 => ?_) (fun c_3 => ?_)
        · have hm := it_neg c_3 hm
          exact b_73 _ _ _ _ hm _ _ hP hD hS _ (lv_sub hl [0, 1] rfl)
        · have hm := it_pos c_3 hm
          refine lv_aload_n hx hb dX10_laysPosts_29 rfl (lv_at hl 0 rfl) ?_
          refine va_get (D := (dC, dI)) (ci := 10) (v := .ref (ad 15)) (C := RX10) (T := TX10) (N := 37) hx hb hts hinX10 hown hK hP 0 rfl rfl 16 (by decide) hl_52 (fun _ h9 => h9) rfl dX10_laysPosts_30 ?_
          refine lv_iload_n hx hb dX10_laysPosts_33 rfl (lv_at hl 1 rfl) ?_
          obtain ⟨i_4, hm⟩ := ck_ok hm
          refine va_iald hx hb hK hP 14 0 rfl rfl i_4 dX10_laysPosts_34 ?_
          refine lv_if_le (tgt := 73) hx hb dX10_laysPosts_35 (by decide) (fun c_5 => ?_) (fun c_5 => ?_)
          · have hm := it_pos c_5 hm
            exact b_73 _ _ _ _ hm _ _ hP hD hS _ (lv_sub hl [0, 1] rfl)
          · have hm := it_neg c_5 hm
            refine lv_aload_n hx hb dX10_laysPosts_38 rfl (lv_at hl 0 rfl) ?_
            refine va_get (D := (dC, dI)) (ci := 10) (v := .ref (ad 18)) (C := RX10) (T := TX10) (N := 37) hx hb hts hinX10 hown hK hP 0 rfl rfl 20 (by decide) hl_61 (fun _ h9 => h9) rfl dX10_laysPosts_39 ?_
            refine lv_aload_n hx hb dX10_laysPosts_42 rfl (lv_at hl 0 rfl) ?_
            refine va_get (D := (dC, dI)) (ci := 10) (v := .int xM_posted_11) (C := RX10) (T := TX10) (N := 37) hx hb hts hinX10 hown hK hP 0 rfl rfl 19 (by decide) hl_213 (fun _ h9 => h9) rfl dX10_laysPosts_43 ?_
            refine lv_iload_n hx hb dX10_laysPosts_46 rfl (lv_at hl 1 rfl) ?_
            obtain ⟨i_6, hm⟩ := ck_ok hm
            refine va_iast hx hb hK hP hD hS 17 0 rfl rfl i_6 dX10_laysPosts_47 (fun H locs hP hD hS => ?_)
            have hP : va_P (dC, dI) vwCl [oM ad xM_typed xM_people_11 xM_posted_11 xM_hears xM_censuses xM_finding, ar (ad 1) cA 60 gMtext, ar (ad 2) cA 20 gMkinds_11, ar (ad 3) cA 20 gMlates_11, ar (ad 4) cA 20 gMscarfs_11, ar (ad 5) cA 20 gMhands_11, ar (ad 6) cA 20 gMrings_11, ar (ad 7) cA 20 gMmains_11, ar (ad 8) cA 4 gMaheadOf_11, ar (ad 9) cA 4 gMlastIn_11, ar (ad 10) cA 4 gMmanyIn_11, ar (ad 11) cA 3 gMsetting, ar (ad 13) cA 8020 gMcomes_11, ar (ad 14) cA 20 gMbusyTo_11, ar (ad 15) cA 20 gMfeltMany_11, ar (ad 16) cA 8020 gMfeltBits_11, ar (ad 17) cA 8020 gMlostBits_11, ar (ad 18) cA 20 (upd gMpostWho_11 xM_posted_11.toNatClampNeg v1_11), ar (ad 19) cA 20 gMpostTime_11] H := hP
            have hD : va_D A [oM ad xM_typed xM_people_11 xM_posted_11 xM_hears xM_censuses xM_finding, ar (ad 1) cA 60 gMtext, ar (ad 2) cA 20 gMkinds_11, ar (ad 3) cA 20 gMlates_11, ar (ad 4) cA 20 gMscarfs_11, ar (ad 5) cA 20 gMhands_11, ar (ad 6) cA 20 gMrings_11, ar (ad 7) cA 20 gMmains_11, ar (ad 8) cA 4 gMaheadOf_11, ar (ad 9) cA 4 gMlastIn_11, ar (ad 10) cA 4 gMmanyIn_11, ar (ad 11) cA 3 gMsetting, ar (ad 13) cA 8020 gMcomes_11, ar (ad 14) cA 20 gMbusyTo_11, ar (ad 15) cA 20 gMfeltMany_11, ar (ad 16) cA 8020 gMfeltBits_11, ar (ad 17) cA 8020 gMlostBits_11, ar (ad 18) cA 20 (upd gMpostWho_11 xM_posted_11.toNatClampNeg v1_11), ar (ad 19) cA 20 gMpostTime_11] := hD
            refine lv_aload_n hx hb dX10_laysPosts_48 rfl (lv_at hl 0 rfl) ?_
            refine va_get (D := (dC, dI)) (ci := 10) (v := .ref (ad 19)) (C := RX10) (T := TX10) (N := 37) hx hb hts hinX10 hown hK hP 0 rfl rfl 21 (by decide) hl_64 (fun _ h9 => h9) rfl dX10_laysPosts_49 ?_
            refine lv_aload_n hx hb dX10_laysPosts_52 rfl (lv_at hl 0 rfl) ?_
            refine va_get (D := (dC, dI)) (ci := 10) (v := .int xM_posted_11) (C := RX10) (T := TX10) (N := 37) hx hb hts hinX10 hown hK hP 0 rfl rfl 19 (by decide) hl_213 (fun _ h9 => h9) rfl dX10_laysPosts_53 ?_
            refine lv_aload_n hx hb dX10_laysPosts_56 rfl (lv_at hl 0 rfl) ?_
            refine lv_iload_n hx hb dX10_laysPosts_57 rfl (lv_at hl 1 rfl) ?_
            refine lv_iconst (v := 0) hx hb dX10_laysPosts_58 (by decide) ?_
            have hPc := hP.sub (ws' := [oM ad xM_typed xM_people_11 xM_posted_11 xM_hears xM_censuses xM_finding, ar (ad 15) cA 20 gMfeltMany_11, ar (ad 16) cA 8020 gMfeltBits_11]) [0, 14, 15] rfl
            have hDc := hD.sub (ws' := [oM ad xM_typed xM_people_11 xM_posted_11 xM_hears xM_censuses xM_finding, ar (ad 15) cA 20 gMfeltMany_11, ar (ad 16) cA 8020 gMfeltBits_11]) [0, 14, 15] (by decide) rfl
            have hFc := va_free (wc := [oM ad xM_typed xM_people_11 xM_posted_11 xM_hears xM_censuses xM_finding, ar (ad 15) cA 20 gMfeltMany_11, ar (ad 16) cA 8020 gMfeltBits_11]) hD hS hA [0, 14, 15] rfl
            obtain ⟨u_7, hc_7, hm⟩ := bd_ok hm
            refine va_calli (va_runV (As := [.int v1_11, .int 0]) (rest := [.int xM_posted_11, .ref (ad 19)]) ⟨hx, hb, hml, hown, hts⟩ (kM_feltBy l dC dI cA cB ad H.size v1_11 0 xM_typed xM_people_11 xM_posted_11 xM_hears xM_censuses xM_finding gMfeltMany_11 gMfeltBits_11 u_7 hc_7) (cwV 2 hts gX10_laysPosts_X10_feltBy rfl rfl rfl (by decide +kernel) ⟨Nat.le_of_ble_eq_true rfl, Nat.le_of_ble_eq_true rfl⟩) ⟨fun a U g mk q => by obtain ⟨q0, q1, qP, qK, qD⟩ := q; exact ⟨q0, q1, qP, va_K.moved (u := U) (U := U.calling g mk a) (Vm.Alike.refl U.vm) qK, qD⟩, va_recv hK hPc (ci := 10) (q0 := 0) rfl rfl, fun U hU hW => ⟨rfl, by rw [hU], by rw [hU]; exact hPc, va_K.moved hW.alike hK, hDc.weaken (fun _ _ _ _ => trivial)⟩⟩ rfl rfl hl.1 rfl (lv_room (Nat.le_of_ble_eq_true rfl)) dX10_laysPosts_59 ⟨Nat.le_of_ble_eq_true rfl, Nat.le_of_ble_eq_true rfl⟩) hS (fun q _ h => hFc q h) hFc (fun r_7 _ t H1 locs ht hvm hw hB hz1 hk1 hS => ?_)
            obtain ⟨hP1, hK1, hD1⟩ := hB
            rw [ht] at hP1
            obtain ⟨hP, hD⟩ := va_join (wr := [ar (ad 1) cA 60 gMtext, ar (ad 2) cA 20 gMkinds_11, ar (ad 3) cA 20 gMlates_11, ar (ad 4) cA 20 gMscarfs_11, ar (ad 5) cA 20 gMhands_11, ar (ad 6) cA 20 gMrings_11, ar (ad 7) cA 20 gMmains_11, ar (ad 8) cA 4 gMaheadOf_11, ar (ad 9) cA 4 gMlastIn_11, ar (ad 10) cA 4 gMmanyIn_11, ar (ad 11) cA 3 gMsetting, ar (ad 13) cA 8020 gMcomes_11, ar (ad 14) cA 20 gMbusyTo_11, ar (ad 17) cA 8020 gMlostBits_11, ar (ad 18) cA 20 (upd gMpostWho_11 xM_posted_11.toNatClampNeg v1_11), ar (ad 19) cA 20 gMpostTime_11]) (w1 := [oM ad xM_typed xM_people_11 xM_posted_11 xM_hears xM_censuses xM_finding, ar (ad 15) cA 20 gMfeltMany_11, ar (ad 16) cA 8020 gMfeltBits_11]) hP hD [0, 14, 15] [1, 2, 3, 4, 5, 6, 7, 8, 9, 10, 11, 12, 13, 16, 17, 18] rfl rfl (by decide) (by decide) hk1 hFc hP1 hD1
            clear hPc hDc hFc hP1 hK1 hD1 hk1 hz1 hvm ht
            generalize H1 = H at hP hS ⊢
            have hP : va_P (dC, dI) vwCl [oM ad xM_typed xM_people_11 xM_posted_11 xM_hears xM_censuses xM_finding, ar (ad 1) cA 60 gMtext, ar (ad 2) cA 20 gMkinds_11, ar (ad 3) cA 20 gMlates_11, ar (ad 4) cA 20 gMscarfs_11, ar (ad 5) cA 20 gMhands_11, ar (ad 6) cA 20 gMrings_11, ar (ad 7) cA 20 gMmains_11, ar (ad 8) cA 4 gMaheadOf_11, ar (ad 9) cA 4 gMlastIn_11, ar (ad 10) cA 4 gMmanyIn_11, ar (ad 11) cA 3 gMsetting, ar (ad 13) cA 8020 gMcomes_11, ar (ad 14) cA 20 gMbusyTo_11, ar (ad 15) cA 20 gMfeltMany_11, ar (ad 16) cA 8020 gMfeltBits_11, ar (ad 17) cA 8020 gMlostBits_11, ar (ad 18) cA 20 (upd gMpostWho_11 xM_posted_11.toNatClampNeg v1_11), ar (ad 19) cA 20 gMpostTime_11] H := hP.sub [16, 0, 1, 2, 3, 4, 5, 6, 7, 8, 9, 10, 11, 12, 17, 18, 13, 14, 15] rfl
            have hD : va_D A [oM ad xM_typed xM_people_11 xM_posted_11 xM_hears xM_censuses xM_finding, ar (ad 1) cA 60 gMtext, ar (ad 2) cA 20 gMkinds_11, ar (ad 3) cA 20 gMlates_11, ar (ad 4) cA 20 gMscarfs_11, ar (ad 5) cA 20 gMhands_11, ar (ad 6) cA 20 gMrings_11, ar (ad 7) cA 20 gMmains_11, ar (ad 8) cA 4 gMaheadOf_11, ar (ad 9) cA 4 gMlastIn_11, ar (ad 10) cA 4 gMmanyIn_11, ar (ad 11) cA 3 gMsetting, ar (ad 13) cA 8020 gMcomes_11, ar (ad 14) cA 20 gMbusyTo_11, ar (ad 15) cA 20 gMfeltMany_11, ar (ad 16) cA 8020 gMfeltBits_11, ar (ad 17) cA 8020 gMlostBits_11, ar (ad 18) cA 20 (upd gMpostWho_11 xM_posted_11.toNatClampNeg v1_11), ar (ad 19) cA 20 gMpostTime_11] := hD.sub [16, 0, 1, 2, 3, 4, 5, 6, 7, 8, 9, 10, 11, 12, 17, 18, 13, 14, 15] (by decide) rfl
            have hw := hw.symm
            subst hw
            obtain ⟨i_8, hm⟩ := ck_ok hm
            refine va_iast hx hb hK hP hD hS 18 0 rfl rfl i_8 dX10_laysPosts_62 (fun H locs hP hD hS => ?_)
            have hP : va_P (dC, dI) vwCl [oM ad xM_typed xM_people_11 xM_posted_11 xM_hears xM_censuses xM_finding, ar (ad 1) cA 60 gMtext, ar (ad 2) cA 20 gMkinds_11, ar (ad 3) cA 20 gMlates_11, ar (ad 4) cA 20 gMscarfs_11, ar (ad 5) cA 20 gMhands_11, ar (ad 6) cA 20 gMrings_11, ar (ad 7) cA 20 gMmains_11, ar (ad 8) cA 4 gMaheadOf_11, ar (ad 9) cA 4 gMlastIn_11, ar (ad 10) cA 4 gMmanyIn_11, ar (ad 11) cA 3 gMsetting, ar (ad 13) cA 8020 gMcomes_11, ar (ad 14) cA 20 gMbusyTo_11, ar (ad 15) cA 20 gMfeltMany_11, ar (ad 16) cA 8020 gMfeltBits_11, ar (ad 17) cA 8020 gMlostBits_11, ar (ad 18) cA 20 (upd gMpostWho_11 xM_posted_11.toNatClampNeg v1_11), ar (ad 19) cA 20 (upd gMpostTime_11 xM_posted_11.toNatClampNeg u_7)] H := hP
            have hD : va_D A [oM ad xM_typed xM_people_11 xM_posted_11 xM_hears xM_censuses xM_finding, ar (ad 1) cA 60 gMtext, ar (ad 2) cA 20 gMkinds_11, ar (ad 3) cA 20 gMlates_11, ar (ad 4) cA 20 gMscarfs_11, ar (ad 5) cA 20 gMhands_11, ar (ad 6) cA 20 gMrings_11, ar (ad 7) cA 20 gMmains_11, ar (ad 8) cA 4 gMaheadOf_11, ar (ad 9) cA 4 gMlastIn_11, ar (ad 10) cA 4 gMmanyIn_11, ar (ad 11) cA 3 gMsetting, ar (ad 13) cA 8020 gMcomes_11, ar (ad 14) cA 20 gMbusyTo_11, ar (ad 15) cA 20 gMfeltMany_11, ar (ad 16) cA 8020 gMfeltBits_11, ar (ad 17) cA 8020 gMlostBits_11, ar (ad 18) cA 20 (upd gMpostWho_11 xM_posted_11.toNatClampNeg v1_11), ar (ad 19) cA 20 (upd gMpostTime_11 xM_posted_11.toNatClampNeg u_7)] := hD
            refine lv_aload_n hx hb dX10_laysPosts_63 rfl (lv_at hl 0 rfl) ?_
            refine lv_dup hx hb dX10_laysPosts_64 rfl ?_
            refine va_get (D := (dC, dI)) (ci := 10) (v := .int xM_posted_11) (C := RX10) (T := TX10) (N := 37) hx hb hts hinX10 hown hK hP 0 rfl rfl 19 (by decide) hl_213 (fun _ h9 => h9) rfl dX10_laysPosts_65 ?_
            refine lv_iconst (v := 1) hx hb dX10_laysPosts_68 (by decide) ?_
            refine lv_iadd hx hb dX10_laysPosts_69 ?_
            refine va_put (D := (dC, dI)) (ci := 10) (v := .int (xM_posted_11 + 1)) (ty := .int) (C := RX10) (T := TX10) (N := 37) hx hb hts hinX10 tyX10 tyX10_ok nmX10 hown hK hP hD hS 0 rfl rfl 19 (by decide) hl_213 (fun _ h9 => h9) rfl (by decide +kernel) rfl rfl (Nat.le_of_ble_eq_true rfl) dX10_laysPosts_70 (fun H locs hP hD hS => ?_)
            have hP : va_P (dC, dI) vwCl [oM ad xM_typed xM_people_11 (xM_posted_11 + 1) xM_hears xM_censuses xM_finding, ar (ad 1) cA 60 gMtext, ar (ad 2) cA 20 gMkinds_11, ar (ad 3) cA 20 gMlates_11, ar (ad 4) cA 20 gMscarfs_11, ar (ad 5) cA 20 gMhands_11, ar (ad 6) cA 20 gMrings_11, ar (ad 7) cA 20 gMmains_11, ar (ad 8) cA 4 gMaheadOf_11, ar (ad 9) cA 4 gMlastIn_11, ar (ad 10) cA 4 gMmanyIn_11, ar (ad 11) cA 3 gMsetting, ar (ad 13) cA 8020 gMcomes_11, ar (ad 14) cA 20 gMbusyTo_11, ar (ad 15) cA 20 gMfeltMany_11, ar (ad 16) cA 8020 gMfeltBits_11, ar (ad 17) cA 8020 gMlostBits_11, ar (ad 18) cA 20 (upd gMpostWho_11 xM_posted_11.toNatClampNeg v1_11), ar (ad 19) cA 20 (upd gMpostTime_11 xM_posted_11.toNatClampNeg u_7)] H := hP
            have hD : va_D A [oM ad xM_typed xM_people_11 (xM_posted_11 + 1) xM_hears xM_censuses xM_finding, ar (ad 1) cA 60 gMtext, ar (ad 2) cA 20 gMkinds_11, ar (ad 3) cA 20 gMlates_11, ar (ad 4) cA 20 gMscarfs_11, ar (ad 5) cA 20 gMhands_11, ar (ad 6) cA 20 gMrings_11, ar (ad 7) cA 20 gMmains_11, ar (ad 8) cA 4 gMaheadOf_11, ar (ad 9) cA 4 gMlastIn_11, ar (ad 10) cA 4 gMmanyIn_11, ar (ad 11) cA 3 gMsetting, ar (ad 13) cA 8020 gMcomes_11, ar (ad 14) cA 20 gMbusyTo_11, ar (ad 15) cA 20 gMfeltMany_11, ar (ad 16) cA 8020 gMfeltBits_11, ar (ad 17) cA 8020 gMlostBits_11, ar (ad 18) cA 20 (upd gMpostWho_11 xM_posted_11.toNatClampNeg v1_11), ar (ad 19) cA 20 (upd gMpostTime_11 xM_posted_11.toNatClampNeg u_7)] := hD
            exact b_73 _ _ _ _ hm _ _ hP hD hS _ (lv_sub hl [0, 1] rfl)
  unfold fM_laysPosts at hm
  refine lv_aload_n hx hb dX10_laysPosts_0 rfl (lv_at hl 0 rfl) ?_
  have hPc := hP.sub (ws' := [oM ad xM_typed xM_people xM_posted xM_hears xM_censuses xM_finding, ar (ad 1) cA 60 gMtext, ar (ad 2) cA 20 gMkinds, ar (ad 3) cA 20 gMlates, ar (ad 4) cA 20 gMscarfs, ar (ad 5) cA 20 gMhands, ar (ad 6) cA 20 gMrings, ar (ad 7) cA 20 gMmains, ar (ad 8) cA 4 gMaheadOf, ar (ad 9) cA 4 gMlastIn, ar (ad 10) cA 4 gMmanyIn, ar (ad 11) cA 3 gMsetting, ar (ad 13) cA 8020 gMcomes, ar (ad 14) cA 20 gMbusyTo, ar (ad 15) cA 20 gMfeltMany, ar (ad 16) cA 8020 gMfeltBits, ar (ad 17) cA 8020 gMlostBits]) [0, 1, 2, 3, 4, 5, 6, 7, 8, 9, 10, 11, 12, 13, 14, 15, 16] rfl
  have hDc := hD.sub (ws' := [oM ad xM_typed xM_people xM_posted xM_hears xM_censuses xM_finding, ar (ad 1) cA 60 gMtext, ar (ad 2) cA 20 gMkinds, ar (ad 3) cA 20 gMlates, ar (ad 4) cA 20 gMscarfs, ar (ad 5) cA 20 gMhands, ar (ad 6) cA 20 gMrings, ar (ad 7) cA 20 gMmains, ar (ad 8) cA 4 gMaheadOf, ar (ad 9) cA 4 gMlastIn, ar (ad 10) cA 4 gMmanyIn, ar (ad 11) cA 3 gMsetting, ar (ad 13) cA 8020 gMcomes, ar (ad 14) cA 20 gMbusyTo, ar (ad 15) cA 20 gMfeltMany, ar (ad 16) cA 8020 gMfeltBits, ar (ad 17) cA 8020 gMlostBits]) [0, 1, 2, 3, 4, 5, 6, 7, 8, 9, 10, 11, 12, 13, 14, 15, 16] (by decide) rfl
  have hFc := va_free (wc := [oM ad xM_typed xM_people xM_posted xM_hears xM_censuses xM_finding, ar (ad 1) cA 60 gMtext, ar (ad 2) cA 20 gMkinds, ar (ad 3) cA 20 gMlates, ar (ad 4) cA 20 gMscarfs, ar (ad 5) cA 20 gMhands, ar (ad 6) cA 20 gMrings, ar (ad 7) cA 20 gMmains, ar (ad 8) cA 4 gMaheadOf, ar (ad 9) cA 4 gMlastIn, ar (ad 10) cA 4 gMmanyIn, ar (ad 11) cA 3 gMsetting, ar (ad 13) cA 8020 gMcomes, ar (ad 14) cA 20 gMbusyTo, ar (ad 15) cA 20 gMfeltMany, ar (ad 16) cA 8020 gMfeltBits, ar (ad 17) cA 8020 gMlostBits]) hD hS hA [0, 1, 2, 3, 4, 5, 6, 7, 8, 9, 10, 11, 12, 13, 14, 15, 16] rfl
  obtain ⟨u_9, hc_9, hm⟩ := bd_ok hm
  refine va_callv (va_runV (As := []) (rest := []) ⟨hx, hb, hml, hown, hts⟩ (kM_lays l dC dI cA cB ad s.heap.size xM_typed xM_people xM_posted xM_hears xM_censuses xM_finding gMtext gMkinds gMlates gMscarfs gMhands gMrings gMmains gMaheadOf gMlastIn gMmanyIn gMsetting gMcomes gMbusyTo gMfeltMany gMfeltBits gMlostBits u_9 hc_9) (cwV 0 hts gX10_laysPosts_X10_lays rfl rfl rfl (by decide +kernel) ⟨Nat.le_of_ble_eq_true rfl, Nat.le_of_ble_eq_true rfl⟩) ⟨fun a U g mk q => by obtain ⟨q0, q1, qP, qK, qD⟩ := q; exact ⟨q0, q1, qP, va_K.moved (u := U) (U := U.calling g mk a) (Vm.Alike.refl U.vm) qK, qD⟩, va_recv hK hPc (ci := 10) (q0 := 0) rfl rfl, fun U hU hW => ⟨rfl, by rw [hU], by rw [hU]; exact hPc, va_K.moved hW.alike hK, hDc.weaken (fun _ _ _ _ => trivial)⟩⟩ rfl rfl hl.1 rfl (lv_room (Nat.le_of_ble_eq_true rfl)) dX10_laysPosts_1 ⟨Nat.le_of_ble_eq_true rfl, Nat.le_of_ble_eq_true rfl⟩) hS (fun q _ h => hFc q h) hFc (fun _ t H1 locs ht hvm hw hB hz1 hk1 hS => ?_)
  obtain ⟨hP1, hK1, hD1⟩ := hB
  rw [ht] at hP1
  obtain ⟨hP, hD⟩ := va_join (wr := [ar (ad 18) cA 20 gMpostWho, ar (ad 19) cA 20 gMpostTime]) (w1 := [oM ad xM_typed u_9.1 xM_posted xM_hears xM_censuses xM_finding, ar (ad 1) cA 60 gMtext, ar (ad 2) cA 20 u_9.2.1, ar (ad 3) cA 20 u_9.2.2.1, ar (ad 4) cA 20 u_9.2.2.2.1, ar (ad 5) cA 20 u_9.2.2.2.2.1, ar (ad 6) cA 20 u_9.2.2.2.2.2.1, ar (ad 7) cA 20 u_9.2.2.2.2.2.2.1, ar (ad 8) cA 4 u_9.2.2.2.2.2.2.2.1, ar (ad 9) cA 4 u_9.2.2.2.2.2.2.2.2.1, ar (ad 10) cA 4 u_9.2.2.2.2.2.2.2.2.2.1, ar (ad 11) cA 3 gMsetting, ar (ad 13) cA 8020 u_9.2.2.2.2.2.2.2.2.2.2.1, ar (ad 14) cA 20 u_9.2.2.2.2.2.2.2.2.2.2.2.1, ar (ad 15) cA 20 u_9.2.2.2.2.2.2.2.2.2.2.2.2.1, ar (ad 16) cA 8020 u_9.2.2.2.2.2.2.2.2.2.2.2.2.2.1, ar (ad 17) cA 8020 u_9.2.2.2.2.2.2.2.2.2.2.2.2.2.2]) hP hD [0, 1, 2, 3, 4, 5, 6, 7, 8, 9, 10, 11, 12, 13, 14, 15, 16] [17, 18] rfl rfl (by decide) (by decide) hk1 hFc hP1 hD1
  clear hPc hDc hFc hP1 hK1 hD1 hk1 hz1 hvm ht
  generalize H1 = H at hP hS ⊢
  have hP : va_P (dC, dI) vwCl [oM ad xM_typed u_9.1 xM_posted xM_hears xM_censuses xM_finding, ar (ad 1) cA 60 gMtext, ar (ad 2) cA 20 u_9.2.1, ar (ad 3) cA 20 u_9.2.2.1, ar (ad 4) cA 20 u_9.2.2.2.1, ar (ad 5) cA 20 u_9.2.2.2.2.1, ar (ad 6) cA 20 u_9.2.2.2.2.2.1, ar (ad 7) cA 20 u_9.2.2.2.2.2.2.1, ar (ad 8) cA 4 u_9.2.2.2.2.2.2.2.1, ar (ad 9) cA 4 u_9.2.2.2.2.2.2.2.2.1, ar (ad 10) cA 4 u_9.2.2.2.2.2.2.2.2.2.1, ar (ad 11) cA 3 gMsetting, ar (ad 13) cA 8020 u_9.2.2.2.2.2.2.2.2.2.2.1, ar (ad 14) cA 20 u_9.2.2.2.2.2.2.2.2.2.2.2.1, ar (ad 15) cA 20 u_9.2.2.2.2.2.2.2.2.2.2.2.2.1, ar (ad 16) cA 8020 u_9.2.2.2.2.2.2.2.2.2.2.2.2.2.1, ar (ad 17) cA 8020 u_9.2.2.2.2.2.2.2.2.2.2.2.2.2.2, ar (ad 18) cA 20 gMpostWho, ar (ad 19) cA 20 gMpostTime] H := hP.sub [2, 3, 4, 5, 6, 7, 8, 9, 10, 11, 12, 13, 14, 15, 16, 17, 18, 0, 1] rfl
  have hD : va_D A [oM ad xM_typed u_9.1 xM_posted xM_hears xM_censuses xM_finding, ar (ad 1) cA 60 gMtext, ar (ad 2) cA 20 u_9.2.1, ar (ad 3) cA 20 u_9.2.2.1, ar (ad 4) cA 20 u_9.2.2.2.1, ar (ad 5) cA 20 u_9.2.2.2.2.1, ar (ad 6) cA 20 u_9.2.2.2.2.2.1, ar (ad 7) cA 20 u_9.2.2.2.2.2.2.1, ar (ad 8) cA 4 u_9.2.2.2.2.2.2.2.1, ar (ad 9) cA 4 u_9.2.2.2.2.2.2.2.2.1, ar (ad 10) cA 4 u_9.2.2.2.2.2.2.2.2.2.1, ar (ad 11) cA 3 gMsetting, ar (ad 13) cA 8020 u_9.2.2.2.2.2.2.2.2.2.2.1, ar (ad 14) cA 20 u_9.2.2.2.2.2.2.2.2.2.2.2.1, ar (ad 15) cA 20 u_9.2.2.2.2.2.2.2.2.2.2.2.2.1, ar (ad 16) cA 8020 u_9.2.2.2.2.2.2.2.2.2.2.2.2.2.1, ar (ad 17) cA 8020 u_9.2.2.2.2.2.2.2.2.2.2.2.2.2.2, ar (ad 18) cA 20 gMpostWho, ar (ad 19) cA 20 gMpostTime] := hD.sub [2, 3, 4, 5, 6, 7, 8, 9, 10, 11, 12, 13, 14, 15, 16, 17, 18, 0, 1] (by decide) rfl
  refine lv_aload_n hx hb dX10_laysPosts_4 rfl (lv_at hl 0 rfl) ?_
  refine lv_iconst (v := 0) hx hb dX10_laysPosts_5 (by decide) ?_
  refine va_put (D := (dC, dI)) (ci := 10) (v := .int 0) (ty := .int) (C := RX10) (T := TX10) (N := 37) hx hb hts hinX10 tyX10 tyX10_ok nmX10 hown hK hP hD hS 0 rfl rfl 19 (by decide) hl_213 (fun _ h9 => h9) rfl (by decide +kernel) rfl rfl (Nat.le_of_ble_eq_true rfl) dX10_laysPosts_6 (fun H locs hP hD hS => ?_)
  have hP : va_P (dC, dI) vwCl [oM ad xM_typed u_9.1 0 xM_hears xM_censuses xM_finding, ar (ad 1) cA 60 gMtext, ar (ad 2) cA 20 u_9.2.1, ar (ad 3) cA 20 u_9.2.2.1, ar (ad 4) cA 20 u_9.2.2.2.1, ar (ad 5) cA 20 u_9.2.2.2.2.1, ar (ad 6) cA 20 u_9.2.2.2.2.2.1, ar (ad 7) cA 20 u_9.2.2.2.2.2.2.1, ar (ad 8) cA 4 u_9.2.2.2.2.2.2.2.1, ar (ad 9) cA 4 u_9.2.2.2.2.2.2.2.2.1, ar (ad 10) cA 4 u_9.2.2.2.2.2.2.2.2.2.1, ar (ad 11) cA 3 gMsetting, ar (ad 13) cA 8020 u_9.2.2.2.2.2.2.2.2.2.2.1, ar (ad 14) cA 20 u_9.2.2.2.2.2.2.2.2.2.2.2.1, ar (ad 15) cA 20 u_9.2.2.2.2.2.2.2.2.2.2.2.2.1, ar (ad 16) cA 8020 u_9.2.2.2.2.2.2.2.2.2.2.2.2.2.1, ar (ad 17) cA 8020 u_9.2.2.2.2.2.2.2.2.2.2.2.2.2.2, ar (ad 18) cA 20 gMpostWho, ar (ad 19) cA 20 gMpostTime] H := hP
  have hD : va_D A [oM ad xM_typed u_9.1 0 xM_hears xM_censuses xM_finding, ar (ad 1) cA 60 gMtext, ar (ad 2) cA 20 u_9.2.1, ar (ad 3) cA 20 u_9.2.2.1, ar (ad 4) cA 20 u_9.2.2.2.1, ar (ad 5) cA 20 u_9.2.2.2.2.1, ar (ad 6) cA 20 u_9.2.2.2.2.2.1, ar (ad 7) cA 20 u_9.2.2.2.2.2.2.1, ar (ad 8) cA 4 u_9.2.2.2.2.2.2.2.1, ar (ad 9) cA 4 u_9.2.2.2.2.2.2.2.2.1, ar (ad 10) cA 4 u_9.2.2.2.2.2.2.2.2.2.1, ar (ad 11) cA 3 gMsetting, ar (ad 13) cA 8020 u_9.2.2.2.2.2.2.2.2.2.2.1, ar (ad 14) cA 20 u_9.2.2.2.2.2.2.2.2.2.2.2.1, ar (ad 15) cA 20 u_9.2.2.2.2.2.2.2.2.2.2.2.2.1, ar (ad 16) cA 8020 u_9.2.2.2.2.2.2.2.2.2.2.2.2.2.1, ar (ad 17) cA 8020 u_9.2.2.2.2.2.2.2.2.2.2.2.2.2.2, ar (ad 18) cA 20 gMpostWho, ar (ad 19) cA 20 gMpostTime] := hD
  refine lv_iconst (v := 0) hx hb dX10_laysPosts_9 (by decide) ?_
  refine lv_istore_n (lv' := [(1, .int 0), (0, .ref (ad 0))]) hx hb dX10_laysPosts_10 rfl hl (by decide) rfl (fun ls hl => ?_)
  exact h_11 _ _ _ _ _ _ _ _ _ _ _ _ _ _ _ _ _ _ _ _ hm _ _ hP hD hS _ (lv_sub hl [1, 0] rfl)

set_option maxHeartbeats 4000000 in
set_option maxRecDepth 100000 in
theorem kM_doubtBetween (l : Launch) (dC : Nat → ClassId) (dI : Nat → Nat → Nat) (cA : ClassId) (cB : ClassId) (ad : Nat → Nat) (sz : Nat) (a1 : Int32) (a2 : Int32) (xM_typed : Int32) (xM_people : Int32) (xM_posted : Int32) (xM_hears : Int32) (xM_censuses : Int32) (xM_finding : Int32) (gMlimit : Nat → Int32) (gMpostTime : Nat → Int32) (u : Int32) (hm : fM_doubtBetween a1 a2 gMlimit gMpostTime = some u) : Met l yX10_doubtBetween wsX10_doubtBetween ({ frames := 1, cells := 0, slots := 0, locals := 22 }) (va_Pc [.ref (ad 0), .int a1, .int a2] (fun U => U.heap.size = sz ∧ va_P (dC, dI) vwCl [oM ad xM_typed xM_people xM_posted xM_hears xM_censuses xM_finding, ar (ad 12) cA 3 gMlimit, ar (ad 19) cA 20 gMpostTime] U.heap ∧ va_K (dC, dI) vwCl [(cA, .int), (cB, .boolean)] U ∧ va_D (fun _ => True) [oM ad xM_typed xM_people xM_posted xM_hears xM_censuses xM_finding, ar (ad 12) cA 3 gMlimit, ar (ad 19) cA 20 gMpostTime])) (va_Qi (fun (r : Int32) (_ : Unit) => r = u) (fun (_ : Unit) t => va_P (dC, dI) vwCl [oM ad xM_typed xM_people xM_posted xM_hears xM_censuses xM_finding, ar (ad 12) cA 3 gMlimit, ar (ad 19) cA 20 gMpostTime] t.heap ∧ va_K (dC, dI) vwCl [(cA, .int), (cB, .boolean)] t ∧ va_D (va_A [oM ad xM_typed xM_people xM_posted xM_hears xM_censuses xM_finding, ar (ad 12) cA 3 gMlimit, ar (ad 19) cA 20 gMpostTime] sz) [oM ad xM_typed xM_people xM_posted xM_hears xM_censuses xM_finding, ar (ad 12) cA 3 gMlimit, ar (ad 19) cA 20 gMpostTime]) (va_A [oM ad xM_typed xM_people xM_posted xM_hears xM_censuses xM_finding, ar (ad 12) cA 3 gMlimit, ar (ad 19) cA 20 gMpostTime] sz)) 0 0 (va_A [oM ad xM_typed xM_people xM_posted xM_hears xM_censuses xM_finding, ar (ad 12) cA 3 gMlimit, ar (ad 19) cA 20 gMpostTime] sz) := by
  refine Met.ofW (cc := cX10_doubtBetween) (maxL := 5) (ret := (some .int)) (by decide) rfl ?_
  intro p e s m args below meth c s₁ B hml hv
  obtain ⟨rfl, hsz, hP, hK, hD0⟩ := hv
  have hx := B.exec
  have hb := B.bytes
  have hr := B.returns
  have hts := atoms_spec (ws := wsX10_doubtBetween) B.pre
  have hown : s.vm.findClass RX10 = some m.cls := findClass_of_methodNamed B.named
  have hlocks := B.notSynchronized
  subst hsz
  have hD := hD0.self (sz := s.heap.size)
  generalize hAe : va_A [oM ad xM_typed xM_people xM_posted xM_hears xM_censuses xM_finding, ar (ad 12) cA 3 gMlimit, ar (ad 19) cA 20 gMpostTime] s.heap.size = A at hD ⊢
  have hA : ∀ q : Nat, s.heap.size ≤ q → A q := fun q h => by rw [← hAe]; exact Or.inr h
  have hS : va_S A s.heap s.heap [] := va_S.rf
  have hl := lv_entry ([.ref (ad 0), .int a1, .int a2]) (n := 5) (Nat.le_of_ble_eq_true rfl)
  rw [lg_entry_eq]
  generalize (lg_sl ([.ref (ad 0), .int a1, .int a2]) ++ List.replicate (5 - (lg_sl ([.ref (ad 0), .int a1, .int a2])).length) Slot.unset).toArray = ls at hl ⊢
  have hl : lv_has ls 5 [(0, .ref (ad 0)), (1, .int a1), (2, .int a2)] := hl
  refine wk_Q (fun QQ hQ => ?_)
  have hinX10 : ∀ w ∈ wsX100, w ∈ wsX10_doubtBetween := fun w h => List.mem_cons_of_mem _ (inlX10 w h)
  have hl_43 := hts (.fieldLink RX10 43 "HandCensusModel" "limit" "[I") (List.mem_cons_of_mem _ (in_r7 _ (List.mem_of_getElem? (i := 6) rfl)))
  have hl_64 := hts (.fieldLink RX10 64 "HandCensusModel" "postTime" "[I") (List.mem_cons_of_mem _ (in_r7 _ (List.mem_of_getElem? (i := 13) rfl)))
  have b_51 : ∀ (s0_51 : Int32), fM_doubtBetween_51 s0_51 gMlimit = some u → ∀ (H : Heap) (locs : List Loc), va_P (dC, dI) vwCl [oM ad xM_typed xM_people xM_posted xM_hears xM_censuses xM_finding, ar (ad 12) cA 3 gMlimit, ar (ad 19) cA 20 gMpostTime] H → va_D A [oM ad xM_typed xM_people xM_posted xM_hears xM_censuses xM_finding, ar (ad 12) cA 3 gMlimit, ar (ad 19) cA 20 gMpostTime] → va_S A s.heap H locs → ∀ ls : Array Slot, lv_has ls 5 [(0, .ref (ad 0))] → W p l e (headSpec wsX10_doubtBetween ({ frames := 1, cells := 0, slots := 0, locals := 22 })).room s m ([.ref (ad 0), .int a1, .int a2] : List Value).toArray below meth c H locs 0 0 QQ (F0 m 51 ls [.int s0_51]) := by
    intro s0_51 hm H locs hP hD hS ls hl
    unfold fM_doubtBetween_51 at hm
    refine lv_istore_n (lv' := [(3, .int s0_51), (0, .ref (ad 0))]) hx hb dX10_doubtBetween_51 rfl hl (by decide) rfl (fun ls hl => ?_)
    refine lv_iload_n hx hb dX10_doubtBetween_52 rfl (lv_at hl 0 rfl) ?_
    refine lv_aload_n hx hb dX10_doubtBetween_53 rfl (lv_at hl 1 rfl) ?_
    refine va_get (D := (dC, dI)) (ci := 10) (v := .ref (ad 12)) (C := RX10) (T := TX10) (N := 37) hx hb hts hinX10 hown hK hP 0 rfl rfl 13 (by decide) hl_43 (fun _ h9 => h9) rfl dX10_doubtBetween_54 ?_
    refine lv_iconst (v := 2) hx hb dX10_doubtBetween_57 (by decide) ?_
    obtain ⟨i_1, hm⟩ := ck_ok hm
    refine va_iald hx hb hK hP 1 0 rfl rfl i_1 dX10_doubtBetween_58 ?_
    refine lv_iadd hx hb dX10_doubtBetween_59 ?_
    refine lv_aload_n hx hb dX10_doubtBetween_60 rfl (lv_at hl 1 rfl) ?_
    refine va_get (D := (dC, dI)) (ci := 10) (v := .ref (ad 12)) (C := RX10) (T := TX10) (N := 37) hx hb hts hinX10 hown hK hP 0 rfl rfl 13 (by decide) hl_43 (fun _ h9 => h9) rfl dX10_doubtBetween_61 ?_
    refine lv_iconst (v := 0) hx hb dX10_doubtBetween_64 (by decide) ?_
    obtain ⟨i_2, hm⟩ := ck_ok hm
    refine va_iald hx hb hK hP 1 0 rfl rfl i_2 dX10_doubtBetween_65 ?_
    obtain ⟨z_3, hm⟩ := dz_ok hm
    refine lv_idiv hx hb dX10_doubtBetween_66 z_3 ?_
    refine lv_iload_n hx hb dX10_doubtBetween_67 rfl (lv_at hl 0 rfl) ?_
    refine lv_aload_n hx hb dX10_doubtBetween_68 rfl (lv_at hl 1 rfl) ?_
    refine va_get (D := (dC, dI)) (ci := 10) (v := .ref (ad 12)) (C := RX10) (T := TX10) (N := 37) hx hb hts hinX10 hown hK hP 0 rfl rfl 13 (by decide) hl_43 (fun _ h9 => h9) rfl dX10_doubtBetween_69 ?_
    refine lv_iconst (v := 1) hx hb dX10_doubtBetween_72 (by decide) ?_
    obtain ⟨i_4, hm⟩ := ck_ok hm
    refine va_iald hx hb hK hP 1 0 rfl rfl i_4 dX10_doubtBetween_73 ?_
    refine lv_aload_n hx hb dX10_doubtBetween_74 rfl (lv_at hl 1 rfl) ?_
    refine va_get (D := (dC, dI)) (ci := 10) (v := .ref (ad 12)) (C := RX10) (T := TX10) (N := 37) hx hb hts hinX10 hown hK hP 0 rfl rfl 13 (by decide) hl_43 (fun _ h9 => h9) rfl dX10_doubtBetween_75 ?_
    refine lv_iconst (v := 2) hx hb dX10_doubtBetween_78 (by decide) ?_
    obtain ⟨i_5, hm⟩ := ck_ok hm
    refine va_iald hx hb hK hP 1 0 rfl rfl i_5 dX10_doubtBetween_79 ?_
    have hPc := hP.sub (ws' := []) [] rfl
    have hDc := hD.sub (ws' := []) [] (by decide) rfl
    have hFc := va_free (wc := []) hD hS hA [] rfl
    obtain ⟨u_6, hc_6, hm⟩ := bd_ok hm
    refine va_calli (va_runS (As := [.int s0_51, .int (gMlimit (1 : Int32).toNatClampNeg), .int (gMlimit (2 : Int32).toNatClampNeg)]) (rest := [.int ((s0_51 + (gMlimit (2 : Int32).toNatClampNeg)) / (gMlimit (0 : Int32).toNatClampNeg))]) ⟨hx, hb, hml, hown, hts⟩ (kM_fewestBy l dC dI cA cB ad H.size s0_51 (gMlimit (1 : Int32).toNatClampNeg) (gMlimit (2 : Int32).toNatClampNeg) u_6 hc_6) (va_cwS 3 hts gX10_doubtBetween_X10_fewestBy rfl rfl rfl (by decide +kernel) ⟨Nat.le_of_ble_eq_true rfl, Nat.le_of_ble_eq_true rfl⟩) ⟨fun a U g mk q => by obtain ⟨q0, q1, qP, qK, qD⟩ := q; exact ⟨q0, q1, qP, va_K.moved (u := U) (U := U.calling g mk a) (Vm.Alike.refl U.vm) qK, qD⟩, fun U hU hW => ⟨rfl, by rw [hU], by rw [hU]; exact hPc, va_K.moved hW.alike hK, hDc.weaken (fun _ _ _ _ => trivial)⟩⟩ rfl rfl hl.1 rfl (lv_room (Nat.le_of_ble_eq_true rfl)) dX10_doubtBetween_80 ⟨Nat.le_of_ble_eq_true rfl, Nat.le_of_ble_eq_true rfl⟩) hS (fun q _ h => hFc q h) hFc (fun r_6 _ t H1 locs ht hvm hw hB hz1 hk1 hS => ?_)
    obtain ⟨hP1, hK1, hD1⟩ := hB
    rw [ht] at hP1
    obtain ⟨hP, hD⟩ := va_join (wr := [oM ad xM_typed xM_people xM_posted xM_hears xM_censuses xM_finding, ar (ad 12) cA 3 gMlimit, ar (ad 19) cA 20 gMpostTime]) (w1 := []) hP hD [] [0, 1, 2] rfl rfl (by decide) (by decide) hk1 hFc hP1 hD1
    clear hPc hDc hFc hP1 hK1 hD1 hk1 hz1 hvm ht
    generalize H1 = H at hP hS ⊢
    have hP : va_P (dC, dI) vwCl [oM ad xM_typed xM_people xM_posted xM_hears xM_censuses xM_finding, ar (ad 12) cA 3 gMlimit, ar (ad 19) cA 20 gMpostTime] H := hP
    have hD : va_D A [oM ad xM_typed xM_people xM_posted xM_hears xM_censuses xM_finding, ar (ad 12) cA 3 gMlimit, ar (ad 19) cA 20 gMpostTime] := hD
    have hw := hw.symm
    subst hw
    refine lv_isub hx hb dX10_doubtBetween_83 ?_
    refine lv_topi (fun y7 ey7 => ?_)
    have hm := nm_in ey7 hm
    refine lv_istore (lv' := [(4, .int y7), (3, .int s0_51), (0, .ref (ad 0))]) hx hb dX10_doubtBetween_84 hl (by decide) rfl (fun ls hl => ?_)
    refine lv_iload hx hb dX10_doubtBetween_86 (lv_at hl 0 rfl) ?_
    refine lv_if_ge (tgt := 95) hx hb dX10_doubtBetween_88 (by decide) (fun c_8 => ?_) (fun c_8 => ?_)
    · have hm := it_pos c_8 hm
      refine lv_iload hx hb dX10_doubtBetween_95 (lv_at hl 0 rfl) ?_
      obtain rfl := Option.some.inj hm
      subst hQ
      exact W.iret (v := y7) hx hb hr (fun t ht hW => ⟨⟨_, (), rfl, rfl, by rw [ht]; exact hP, va_K.moved hW.alike hK, hAe ▸ hD⟩, hS.F ht⟩) hS.2.2 dX10_doubtBetween_97
    · have hm := it_neg c_8 hm
      refine lv_iconst (v := 0) hx hb dX10_doubtBetween_91 (by decide) ?_
      refine lv_goto (tgt := 97) hx hb dX10_doubtBetween_92 (by decide) ?_
      obtain rfl := Option.some.inj hm
      subst hQ
      exact W.iret (v := 0) hx hb hr (fun t ht hW => ⟨⟨_, (), rfl, rfl, by rw [ht]; exact hP, va_K.moved hW.alike hK, hAe ▸ hD⟩, hS.F ht⟩) hS.2.2 dX10_doubtBetween_97
  unfold fM_doubtBetween at hm
  refine lv_iload_n hx hb dX10_doubtBetween_0 rfl (lv_at hl 1 rfl) ?_
  refine lv_iload_n hx hb dX10_doubtBetween_1 rfl (lv_at hl 2 rfl) ?_
  refine lv_icmp_ne (tgt := 7) hx hb dX10_doubtBetween_2 (by decide) (fun c_9 => ?_) (fun c_9 => ?_)
  · have hm := it_neg c_9 hm
    refine lv_aload_n hx hb dX10_doubtBetween_7 rfl (lv_at hl 0 rfl) ?_
    refine va_get (D := (dC, dI)) (ci := 10) (v := .ref (ad 19)) (C := RX10) (T := TX10) (N := 37) hx hb hts hinX10 hown hK hP 0 rfl rfl 21 (by decide) hl_64 (fun _ h9 => h9) rfl dX10_doubtBetween_8 ?_
    refine lv_iload_n hx hb dX10_doubtBetween_11 rfl (lv_at hl 1 rfl) ?_
    obtain ⟨i_10, hm⟩ := ck_ok hm
    refine va_iald hx hb hK hP 2 0 rfl rfl i_10 dX10_doubtBetween_12 ?_
    refine lv_aload_n hx hb dX10_doubtBetween_13 rfl (lv_at hl 0 rfl) ?_
    refine va_get (D := (dC, dI)) (ci := 10) (v := .ref (ad 19)) (C := RX10) (T := TX10) (N := 37) hx hb hts hinX10 hown hK hP 0 rfl rfl 21 (by decide) hl_64 (fun _ h9 => h9) rfl dX10_doubtBetween_14 ?_
    refine lv_iload_n hx hb dX10_doubtBetween_17 rfl (lv_at hl 2 rfl) ?_
    obtain ⟨i_11, hm⟩ := ck_ok hm
    refine va_iald hx hb hK hP 2 0 rfl rfl i_11 dX10_doubtBetween_18 ?_
    refine lv_icmp_ge (tgt := 38) hx hb dX10_doubtBetween_19 (by decide) (fun c_12 => ?_) (fun c_12 => ?_)
    · have hm := it_pos c_12 hm
      refine lv_aload_n hx hb dX10_doubtBetween_38 rfl (lv_at hl 0 rfl) ?_
      refine va_get (D := (dC, dI)) (ci := 10) (v := .ref (ad 19)) (C := RX10) (T := TX10) (N := 37) hx hb hts hinX10 hown hK hP 0 rfl rfl 21 (by decide) hl_64 (fun _ h9 => h9) rfl dX10_doubtBetween_39 ?_
      refine lv_iload_n hx hb dX10_doubtBetween_42 rfl (lv_at hl 1 rfl) ?_
      obtain ⟨i_13, hm⟩ := ck_ok hm
      refine va_iald hx hb hK hP 2 0 rfl rfl i_13 dX10_doubtBetween_43 ?_
      refine lv_aload_n hx hb dX10_doubtBetween_44 rfl (lv_at hl 0 rfl) ?_
      refine va_get (D := (dC, dI)) (ci := 10) (v := .ref (ad 19)) (C := RX10) (T := TX10) (N := 37) hx hb hts hinX10 hown hK hP 0 rfl rfl 21 (by decide) hl_64 (fun _ h9 => h9) rfl dX10_doubtBetween_45 ?_
      refine lv_iload_n hx hb dX10_doubtBetween_48 rfl (lv_at hl 2 rfl) ?_
      obtain ⟨i_14, hm⟩ := ck_ok hm
      refine va_iald hx hb hK hP 2 0 rfl rfl i_14 dX10_doubtBetween_49 ?_
      refine lv_isub hx hb dX10_doubtBetween_50 ?_
      exact b_51 _ hm _ _ hP hD hS _ (lv_sub hl [0] rfl)
    · have hm := it_neg c_12 hm
      refine lv_aload_n hx hb dX10_doubtBetween_22 rfl (lv_at hl 0 rfl) ?_
      refine va_get (D := (dC, dI)) (ci := 10) (v := .ref (ad 19)) (C := RX10) (T := TX10) (N := 37) hx hb hts hinX10 hown hK hP 0 rfl rfl 21 (by decide) hl_64 (fun _ h9 => h9) rfl dX10_doubtBetween_23 ?_
      refine lv_iload_n hx hb dX10_doubtBetween_26 rfl (lv_at hl 2 rfl) ?_
      obtain ⟨i_15, hm⟩ := ck_ok hm
      refine va_iald hx hb hK hP 2 0 rfl rfl i_15 dX10_doubtBetween_27 ?_
      refine lv_aload_n hx hb dX10_doubtBetween_28 rfl (lv_at hl 0 rfl) ?_
      refine va_get (D := (dC, dI)) (ci := 10) (v := .ref (ad 19)) (C := RX10) (T := TX10) (N := 37) hx hb hts hinX10 hown hK hP 0 rfl rfl 21 (by decide) hl_64 (fun _ h9 => h9) rfl dX10_doubtBetween_29 ?_
      refine lv_iload_n hx hb dX10_doubtBetween_32 rfl (lv_at hl 1 rfl) ?_
      obtain ⟨i_16, hm⟩ := ck_ok hm
      refine va_iald hx hb hK hP 2 0 rfl rfl i_16 dX10_doubtBetween_33 ?_
      refine lv_isub hx hb dX10_doubtBetween_34 ?_
      refine lv_goto (tgt := 51) hx hb dX10_doubtBetween_35 (by decide) ?_
      exact b_51 _ hm _ _ hP hD hS _ (lv_sub hl [0] rfl)
  · have hm := it_pos c_9 hm
    refine lv_iconst (v := 0) hx hb dX10_doubtBetween_5 (by decide) ?_
    obtain rfl := Option.some.inj hm
    subst hQ
    exact W.iret (v := 0) hx hb hr (fun t ht hW => ⟨⟨_, (), rfl, rfl, by rw [ht]; exact hP, va_K.moved hW.alike hK, hAe ▸ hD⟩, hS.F ht⟩) hS.2.2 dX10_doubtBetween_6

set_option maxHeartbeats 4000000 in
set_option maxRecDepth 100000 in
theorem kM_doubtBy (l : Launch) (dC : Nat → ClassId) (dI : Nat → Nat → Nat) (cA : ClassId) (cB : ClassId) (ad : Nat → Nat) (sz : Nat) (a1 : Int32) (xM_typed : Int32) (xM_people : Int32) (xM_posted : Int32) (xM_hears : Int32) (xM_censuses : Int32) (xM_finding : Int32) (gMlimit : Nat → Int32) (gMpostTime : Nat → Int32) (gMpicks : Nat → Int32) (gMbestPicks : Nat → Int32) (u : Int32 × (Nat → Int32) × (Nat → Int32)) (hm : fM_doubtBy a1 xM_posted gMlimit gMpostTime gMpicks gMbestPicks = some u) : Met l yX10_doubtBy wsX10_doubtBy ({ frames := 2, cells := 0, slots := 0, locals := 46 }) (va_Pc [.ref (ad 0), .int a1] (fun U => U.heap.size = sz ∧ va_P (dC, dI) vwCl [oM ad xM_typed xM_people xM_posted xM_hears xM_censuses xM_finding, ar (ad 12) cA 3 gMlimit, ar (ad 19) cA 20 gMpostTime, ar (ad 20) cA 5 gMpicks, ar (ad 21) cA 5 gMbestPicks] U.heap ∧ va_K (dC, dI) vwCl [(cA, .int), (cB, .boolean)] U ∧ va_D (fun _ => True) [oM ad xM_typed xM_people xM_posted xM_hears xM_censuses xM_finding, ar (ad 12) cA 3 gMlimit, ar (ad 19) cA 20 gMpostTime, ar (ad 20) cA 5 gMpicks, ar (ad 21) cA 5 gMbestPicks])) (va_Qi (fun (r : Int32) (_ : Unit) => r = u.1) (fun (_ : Unit) t => va_P (dC, dI) vwCl [oM ad xM_typed xM_people xM_posted xM_hears xM_censuses xM_finding, ar (ad 12) cA 3 gMlimit, ar (ad 19) cA 20 gMpostTime, ar (ad 20) cA 5 u.2.1, ar (ad 21) cA 5 u.2.2] t.heap ∧ va_K (dC, dI) vwCl [(cA, .int), (cB, .boolean)] t ∧ va_D (va_A [oM ad xM_typed xM_people xM_posted xM_hears xM_censuses xM_finding, ar (ad 12) cA 3 gMlimit, ar (ad 19) cA 20 gMpostTime, ar (ad 20) cA 5 gMpicks, ar (ad 21) cA 5 gMbestPicks] sz) [oM ad xM_typed xM_people xM_posted xM_hears xM_censuses xM_finding, ar (ad 12) cA 3 gMlimit, ar (ad 19) cA 20 gMpostTime, ar (ad 20) cA 5 u.2.1, ar (ad 21) cA 5 u.2.2]) (va_A [oM ad xM_typed xM_people xM_posted xM_hears xM_censuses xM_finding, ar (ad 12) cA 3 gMlimit, ar (ad 19) cA 20 gMpostTime, ar (ad 20) cA 5 gMpicks, ar (ad 21) cA 5 gMbestPicks] sz)) 0 0 (va_A [oM ad xM_typed xM_people xM_posted xM_hears xM_censuses xM_finding, ar (ad 12) cA 3 gMlimit, ar (ad 19) cA 20 gMpostTime, ar (ad 20) cA 5 gMpicks, ar (ad 21) cA 5 gMbestPicks] sz) := by
  refine Met.ofW (cc := cX10_doubtBy) (maxL := 8) (ret := (some .int)) (by decide) rfl ?_
  intro p e s m args below meth c s₁ B hml hv
  obtain ⟨rfl, hsz, hP, hK, hD0⟩ := hv
  have hx := B.exec
  have hb := B.bytes
  have hr := B.returns
  have hts := atoms_spec (ws := wsX10_doubtBy) B.pre
  have hown : s.vm.findClass RX10 = some m.cls := findClass_of_methodNamed B.named
  have hlocks := B.notSynchronized
  subst hsz
  have hD := hD0.self (sz := s.heap.size)
  generalize hAe : va_A [oM ad xM_typed xM_people xM_posted xM_hears xM_censuses xM_finding, ar (ad 12) cA 3 gMlimit, ar (ad 19) cA 20 gMpostTime, ar (ad 20) cA 5 gMpicks, ar (ad 21) cA 5 gMbestPicks] s.heap.size = A at hD ⊢
  have hA : ∀ q : Nat, s.heap.size ≤ q → A q := fun q h => by rw [← hAe]; exact Or.inr h
  have hS : va_S A s.heap s.heap [] := va_S.rf
  have hl := lv_entry ([.ref (ad 0), .int a1]) (n := 8) (Nat.le_of_ble_eq_true rfl)
  rw [lg_entry_eq]
  generalize (lg_sl ([.ref (ad 0), .int a1]) ++ List.replicate (8 - (lg_sl ([.ref (ad 0), .int a1])).length) Slot.unset).toArray = ls at hl ⊢
  have hl : lv_has ls 8 [(0, .ref (ad 0)), (1, .int a1)] := hl
  refine wk_Q (fun QQ hQ => ?_)
  have hinX10 : ∀ w ∈ wsX100, w ∈ wsX10_doubtBy := fun w h => List.mem_cons_of_mem _ (inlX10 w h)
  have hl_67 := hts (.fieldLink RX10 67 "HandCensusModel" "picks" "[I") (List.mem_cons_of_mem _ (in_r7 _ (List.mem_of_getElem? (i := 14) rfl)))
  have hl_213 := hts (.fieldLink RX10 213 "HandCensusModel" "posted" "I") (List.mem_cons_of_mem _ (in_r31 _ (List.mem_of_getElem? (i := 7) rfl)))
  have hl_70 := hts (.fieldLink RX10 70 "HandCensusModel" "bestPicks" "[I") (List.mem_cons_of_mem _ (in_r7 _ (List.mem_of_getElem? (i := 15) rfl)))
  have h_50 : ∀ (v1_50 : Int32), ∀ (n_50 : Nat), ∀ (v2_50 : Int32) (v3_50 : Int32) (gMpicks_50 : Nat → Int32) (gMbestPicks_50 : Nat → Int32), fM_doubtBy_50 v1_50 xM_posted gMlimit gMpostTime n_50 v2_50 v3_50 gMpicks_50 gMbestPicks_50 = some u → ∀ (H : Heap) (locs : List Loc), va_P (dC, dI) vwCl [oM ad xM_typed xM_people xM_posted xM_hears xM_censuses xM_finding, ar (ad 12) cA 3 gMlimit, ar (ad 19) cA 20 gMpostTime, ar (ad 20) cA 5 gMpicks_50, ar (ad 21) cA 5 gMbestPicks_50] H → va_D A [oM ad xM_typed xM_people xM_posted xM_hears xM_censuses xM_finding, ar (ad 12) cA 3 gMlimit, ar (ad 19) cA 20 gMpostTime, ar (ad 20) cA 5 gMpicks_50, ar (ad 21) cA 5 gMbestPicks_50] → va_S A s.heap H locs → ∀ ls : Array Slot, lv_has ls 8 [(0, .ref (ad 0)), (1, .int v1_50), (2, .int v2_50), (3, .int v3_50)] → W p l e (headSpec wsX10_doubtBy ({ frames := 2, cells := 0, slots := 0, locals := 46 })).room s m ([.ref (ad 0), .int a1] : List Value).toArray below meth c H locs 0 0 QQ (F0 m 50 ls []) := by
    intro v1_50
    intro n_50
    induction n_50 with
    | zero => intro v2_50 v3_50 gMpicks_50 gMbestPicks_50 hm; have hm : (none : Option (Int32 × (Nat → Int32) × (Nat → Int32))) = some u := hm; cases hm
    | succ n_50 ih_50 =>
      have b_261 : ∀ (v2_261 : Int32) (v3_261 : Int32) (gMpicks_261 : Nat → Int32) (gMbestPicks_261 : Nat → Int32), fM_doubtBy_261 (fM_doubtBy_50  v1_50 xM_posted gMlimit gMpostTime n_50) v1_50 v2_261 v3_261 xM_posted gMlimit gMpostTime gMpicks_261 gMbestPicks_261 = some u → ∀ (H : Heap) (locs : List Loc), va_P (dC, dI) vwCl [oM ad xM_typed xM_people xM_posted xM_hears xM_censuses xM_finding, ar (ad 12) cA 3 gMlimit, ar (ad 19) cA 20 gMpostTime, ar (ad 20) cA 5 gMpicks_261, ar (ad 21) cA 5 gMbestPicks_261] H → va_D A [oM ad xM_typed xM_people xM_posted xM_hears xM_censuses xM_finding, ar (ad 12) cA 3 gMlimit, ar (ad 19) cA 20 gMpostTime, ar (ad 20) cA 5 gMpicks_261, ar (ad 21) cA 5 gMbestPicks_261] → va_S A s.heap H locs → ∀ ls : Array Slot, lv_has ls 8 [(0, .ref (ad 0)), (1, .int v1_50), (2, .int v2_261), (3, .int v3_261)] → W p l e (headSpec wsX10_doubtBy ({ frames := 2, cells := 0, slots := 0, locals := 46 })).room s m ([.ref (ad 0), .int a1] : List Value).toArray below meth c H locs 0 0 QQ (F0 m 261 ls []) := by
        intro v2_261 v3_261 gMpicks_261 gMbestPicks_261 hm H locs hP hD hS ls hl
        unfold fM_doubtBy_261 at hm
        refine lv_goto (tgt := 50) hx hb dX10_doubtBy_261 (by decide) ?_
        exact ih_50 _ _ _ _ hm _ _ hP hD hS _ (lv_sub hl [0, 1, 2, 3] rfl)
      have h_231 : ∀ (v2_231 : Int32) (v3_231 : Int32) (gMbestPicks_231 : Nat → Int32), ∀ (n_231 : Nat), ∀ (v7_231 : Int32) (gMpicks_231 : Nat → Int32), fM_doubtBy_231 (fM_doubtBy_50  v1_50 xM_posted gMlimit gMpostTime n_50) v1_50 v2_231 v3_231 xM_posted gMlimit gMpostTime gMbestPicks_231 n_231 v7_231 gMpicks_231 = some u → ∀ (H : Heap) (locs : List Loc), va_P (dC, dI) vwCl [oM ad xM_typed xM_people xM_posted xM_hears xM_censuses xM_finding, ar (ad 12) cA 3 gMlimit, ar (ad 19) cA 20 gMpostTime, ar (ad 20) cA 5 gMpicks_231, ar (ad 21) cA 5 gMbestPicks_231] H → va_D A [oM ad xM_typed xM_people xM_posted xM_hears xM_censuses xM_finding, ar (ad 12) cA 3 gMlimit, ar (ad 19) cA 20 gMpostTime, ar (ad 20) cA 5 gMpicks_231, ar (ad 21) cA 5 gMbestPicks_231] → va_S A s.heap H locs → ∀ ls : Array Slot, lv_has ls 8 [(0, .ref (ad 0)), (1, .int v1_50), (2, .int v2_231), (3, .int v3_231), (7, .int v7_231)] → W p l e (headSpec wsX10_doubtBy ({ frames := 2, cells := 0, slots := 0, locals := 46 })).room s m ([.ref (ad 0), .int a1] : List Value).toArray below meth c H locs 0 0 QQ (F0 m 231 ls []) := by
        intro v2_231 v3_231 gMbestPicks_231
        intro n_231
        induction n_231 with
        | zero => intro v7_231 gMpicks_231 hm; have hm : (none : Option (Int32 × (Nat → Int32) × (Nat → Int32))) = some u := hm; cases hm
        | succ n_231 ih_231 =>
          intro v7_231 gMpicks_231 hm H locs hP hD hS ls hl
          have hm : fM_doubtBy_231_b (fM_doubtBy_50  v1_50 xM_posted gMlimit gMpostTime n_50) (fM_doubtBy_231 (fM_doubtBy_50  v1_50 xM_posted gMlimit gMpostTime n_50) v1_50 v2_231 v3_231 xM_posted gMlimit gMpostTime gMbestPicks_231 n_231) v1_50 v2_231 v3_231 xM_posted gMlimit gMpostTime gMbestPicks_231 v7_231 gMpicks_231 = some u := hm
          unfold fM_doubtBy_231_b at hm
          refine lv_iload hx hb dX10_doubtBy_231 (lv_at hl 4 rfl) ?_
          refine lv_iload_n hx hb dX10_doubtBy_233 rfl (lv_at hl 1 rfl) ?_
          refine lv_icmp_ge (tgt := 261) hx hb dX10_doubtBy_234 (by decide) (fun c_1 => ?_) (fun c_1 => ?_)
          · have hm := it_pos c_1 hm
            exact b_261 _ _ _ _ hm _ _ hP hD hS _ (lv_sub hl [0, 1, 2, 3] rfl)
          · have hm := it_neg c_1 hm
            refine lv_aload_n hx hb dX10_doubtBy_237 rfl (lv_at hl 0 rfl) ?_
            refine va_get (D := (dC, dI)) (ci := 10) (v := .ref (ad 20)) (C := RX10) (T := TX10) (N := 37) hx hb hts hinX10 hown hK hP 0 rfl rfl 22 (by decide) hl_67 (fun _ h9 => h9) rfl dX10_doubtBy_238 ?_
            refine lv_iload hx hb dX10_doubtBy_241 (lv_at hl 4 rfl) ?_
            refine lv_aload_n hx hb dX10_doubtBy_243 rfl (lv_at hl 0 rfl) ?_
            refine va_get (D := (dC, dI)) (ci := 10) (v := .ref (ad 20)) (C := RX10) (T := TX10) (N := 37) hx hb hts hinX10 hown hK hP 0 rfl rfl 22 (by decide) hl_67 (fun _ h9 => h9) rfl dX10_doubtBy_244 ?_
            refine lv_iload hx hb dX10_doubtBy_247 (lv_at hl 4 rfl) ?_
            refine lv_iconst (v := 1) hx hb dX10_doubtBy_249 (by decide) ?_
            refine lv_isub hx hb dX10_doubtBy_250 ?_
            obtain ⟨i_2, hm⟩ := ck_ok hm
            refine va_iald hx hb hK hP 3 0 rfl rfl i_2 dX10_doubtBy_251 ?_
            refine lv_iconst (v := 1) hx hb dX10_doubtBy_252 (by decide) ?_
            refine lv_iadd hx hb dX10_doubtBy_253 ?_
            obtain ⟨i_3, hm⟩ := ck_ok hm
            refine va_iast hx hb hK hP hD hS 3 0 rfl rfl i_3 dX10_doubtBy_254 (fun H locs hP hD hS => ?_)
            have hP : va_P (dC, dI) vwCl [oM ad xM_typed xM_people xM_posted xM_hears xM_censuses xM_finding, ar (ad 12) cA 3 gMlimit, ar (ad 19) cA 20 gMpostTime, ar (ad 20) cA 5 (upd gMpicks_231 v7_231.toNatClampNeg ((gMpicks_231 (v7_231 - 1).toNatClampNeg) + 1)), ar (ad 21) cA 5 gMbestPicks_231] H := hP
            have hD : va_D A [oM ad xM_typed xM_people xM_posted xM_hears xM_censuses xM_finding, ar (ad 12) cA 3 gMlimit, ar (ad 19) cA 20 gMpostTime, ar (ad 20) cA 5 (upd gMpicks_231 v7_231.toNatClampNeg ((gMpicks_231 (v7_231 - 1).toNatClampNeg) + 1)), ar (ad 21) cA 5 gMbestPicks_231] := hD
            refine lv_iinc (v := (v7_231 + 1)) (lv' := [(7, .int (v7_231 + 1)), (0, .ref (ad 0)), (1, .int v1_50), (2, .int v2_231), (3, .int v3_231)]) hx hb dX10_doubtBy_255 hl (k := 4) rfl rfl (by decide) rfl (fun ls hl => ?_)
            refine lv_goto (tgt := 231) hx hb dX10_doubtBy_258 (by decide) ?_
            exact ih_231 _ _ hm _ _ hP hD hS _ (lv_sub hl [1, 2, 3, 4, 0] rfl)
      have b_209 : ∀ (v2_209 : Int32) (v6_209 : Int32) (s0_209 : Int32) (gMpicks_209 : Nat → Int32) (gMbestPicks_209 : Nat → Int32), fM_doubtBy_209 (fM_doubtBy_50  v1_50 xM_posted gMlimit gMpostTime n_50) v1_50 v2_209 v6_209 s0_209 xM_posted gMlimit gMpostTime gMpicks_209 gMbestPicks_209 = some u → ∀ (H : Heap) (locs : List Loc), va_P (dC, dI) vwCl [oM ad xM_typed xM_people xM_posted xM_hears xM_censuses xM_finding, ar (ad 12) cA 3 gMlimit, ar (ad 19) cA 20 gMpostTime, ar (ad 20) cA 5 gMpicks_209, ar (ad 21) cA 5 gMbestPicks_209] H → va_D A [oM ad xM_typed xM_people xM_posted xM_hears xM_censuses xM_finding, ar (ad 12) cA 3 gMlimit, ar (ad 19) cA 20 gMpostTime, ar (ad 20) cA 5 gMpicks_209, ar (ad 21) cA 5 gMbestPicks_209] → va_S A s.heap H locs → ∀ ls : Array Slot, lv_has ls 8 [(0, .ref (ad 0)), (1, .int v1_50), (2, .int v2_209), (6, .int v6_209)] → W p l e (headSpec wsX10_doubtBy ({ frames := 2, cells := 0, slots := 0, locals := 46 })).room s m ([.ref (ad 0), .int a1] : List Value).toArray below meth c H locs 0 0 QQ (F0 m 209 ls [.int s0_209]) := by
        intro v2_209 v6_209 s0_209 gMpicks_209 gMbestPicks_209 hm H locs hP hD hS ls hl
        unfold fM_doubtBy_209 at hm
        refine lv_istore_n (lv' := [(3, .int s0_209), (0, .ref (ad 0)), (1, .int v1_50), (2, .int v2_209), (6, .int v6_209)]) hx hb dX10_doubtBy_209 rfl hl (by decide) rfl (fun ls hl => ?_)
        refine lv_iload_n hx hb dX10_doubtBy_210 rfl (lv_at hl 0 rfl) ?_
        refine lv_if_eq (tgt := 261) hx hb dX10_doubtBy_211 (by decide) (fun c_4 => ?_) (fun c_4 => ?_)
        · have hm := it_pos c_4 hm
          exact b_261 _ _ _ _ hm _ _ hP hD hS _ (lv_sub hl [1, 2, 3, 0] rfl)
        · have hm := it_neg c_4 hm
          refine lv_aload_n hx hb dX10_doubtBy_214 rfl (lv_at hl 1 rfl) ?_
          refine va_get (D := (dC, dI)) (ci := 10) (v := .ref (ad 20)) (C := RX10) (T := TX10) (N := 37) hx hb hts hinX10 hown hK hP 0 rfl rfl 22 (by decide) hl_67 (fun _ h9 => h9) rfl dX10_doubtBy_215 ?_
          refine lv_iload hx hb dX10_doubtBy_218 (lv_at hl 4 rfl) ?_
          refine lv_dup2_11 hx hb dX10_doubtBy_220 rfl rfl ?_
          obtain ⟨i_5, hm⟩ := ck_ok hm
          refine va_iald hx hb hK hP 3 0 rfl rfl i_5 dX10_doubtBy_221 ?_
          refine lv_iconst (v := 1) hx hb dX10_doubtBy_222 (by decide) ?_
          refine lv_iadd hx hb dX10_doubtBy_223 ?_
          obtain ⟨i_6, hm⟩ := ck_ok hm
          refine va_iast hx hb hK hP hD hS 3 0 rfl rfl i_6 dX10_doubtBy_224 (fun H locs hP hD hS => ?_)
          have hP : va_P (dC, dI) vwCl [oM ad xM_typed xM_people xM_posted xM_hears xM_censuses xM_finding, ar (ad 12) cA 3 gMlimit, ar (ad 19) cA 20 gMpostTime, ar (ad 20) cA 5 (upd gMpicks_209 v6_209.toNatClampNeg ((gMpicks_209 v6_209.toNatClampNeg) + 1)), ar (ad 21) cA 5 gMbestPicks_209] H := hP
          have hD : va_D A [oM ad xM_typed xM_people xM_posted xM_hears xM_censuses xM_finding, ar (ad 12) cA 3 gMlimit, ar (ad 19) cA 20 gMpostTime, ar (ad 20) cA 5 (upd gMpicks_209 v6_209.toNatClampNeg ((gMpicks_209 v6_209.toNatClampNeg) + 1)), ar (ad 21) cA 5 gMbestPicks_209] := hD
          refine lv_iload hx hb dX10_doubtBy_225 (lv_at hl 4 rfl) ?_
          refine lv_iconst (v := 1) hx hb dX10_doubtBy_227 (by decide) ?_
          refine lv_iadd hx hb dX10_doubtBy_228 ?_
          refine lv_istore (lv' := [(7, .int (v6_209 + 1)), (3, .int s0_209), (0, .ref (ad 0)), (1, .int v1_50), (2, .int v2_209), (6, .int v6_209)]) hx hb dX10_doubtBy_229 hl (by decide) rfl (fun ls hl => ?_)
          exact h_231 _ _ _ _ _ _ hm _ _ hP hD hS _ (lv_sub hl [2, 3, 4, 1, 0] rfl)
      have b_199 : ∀ (v2_199 : Int32) (v6_199 : Int32) (gMpicks_199 : Nat → Int32) (gMbestPicks_199 : Nat → Int32), fM_doubtBy_199 (fM_doubtBy_50  v1_50 xM_posted gMlimit gMpostTime n_50) v1_50 v2_199 v6_199 xM_posted gMlimit gMpostTime gMpicks_199 gMbestPicks_199 = some u → ∀ (H : Heap) (locs : List Loc), va_P (dC, dI) vwCl [oM ad xM_typed xM_people xM_posted xM_hears xM_censuses xM_finding, ar (ad 12) cA 3 gMlimit, ar (ad 19) cA 20 gMpostTime, ar (ad 20) cA 5 gMpicks_199, ar (ad 21) cA 5 gMbestPicks_199] H → va_D A [oM ad xM_typed xM_people xM_posted xM_hears xM_censuses xM_finding, ar (ad 12) cA 3 gMlimit, ar (ad 19) cA 20 gMpostTime, ar (ad 20) cA 5 gMpicks_199, ar (ad 21) cA 5 gMbestPicks_199] → va_S A s.heap H locs → ∀ ls : Array Slot, lv_has ls 8 [(0, .ref (ad 0)), (1, .int v1_50), (2, .int v2_199), (6, .int v6_199)] → W p l e (headSpec wsX10_doubtBy ({ frames := 2, cells := 0, slots := 0, locals := 46 })).room s m ([.ref (ad 0), .int a1] : List Value).toArray below meth c H locs 0 0 QQ (F0 m 199 ls []) := by
        intro v2_199 v6_199 gMpicks_199 gMbestPicks_199 hm H locs hP hD hS ls hl
        unfold fM_doubtBy_199 at hm
        refine lv_iload hx hb dX10_doubtBy_199 (lv_at hl 3 rfl) ?_
        refine lv_if_lt (tgt := 208) hx hb dX10_doubtBy_201 (by decide) (fun c_7 => ?_) (fun c_7 => ?_)
        · have hm := it_pos c_7 hm
          refine lv_iconst (v := 0) hx hb dX10_doubtBy_208 (by decide) ?_
          exact b_209 _ _ _ _ _ hm _ _ hP hD hS _ (lv_sub hl [0, 1, 2, 3] rfl)
        · have hm := it_neg c_7 hm
          refine lv_iconst (v := 1) hx hb dX10_doubtBy_204 (by decide) ?_
          refine lv_goto (tgt := 209) hx hb dX10_doubtBy_205 (by decide) ?_
          exact b_209 _ _ _ _ _ hm _ _ hP hD hS _ (lv_sub hl [0, 1, 2, 3] rfl)
      have h_167 : ∀ (v2_167 : Int32) (gMpicks_167 : Nat → Int32) (gMbestPicks_167 : Nat → Int32), ∀ (n_167 : Nat), ∀ (v6_167 : Int32), fM_doubtBy_167 (fM_doubtBy_50  v1_50 xM_posted gMlimit gMpostTime n_50) v1_50 v2_167 xM_posted gMlimit gMpostTime gMpicks_167 gMbestPicks_167 n_167 v6_167 = some u → ∀ (H : Heap) (locs : List Loc), va_P (dC, dI) vwCl [oM ad xM_typed xM_people xM_posted xM_hears xM_censuses xM_finding, ar (ad 12) cA 3 gMlimit, ar (ad 19) cA 20 gMpostTime, ar (ad 20) cA 5 gMpicks_167, ar (ad 21) cA 5 gMbestPicks_167] H → va_D A [oM ad xM_typed xM_people xM_posted xM_hears xM_censuses xM_finding, ar (ad 12) cA 3 gMlimit, ar (ad 19) cA 20 gMpostTime, ar (ad 20) cA 5 gMpicks_167, ar (ad 21) cA 5 gMbestPicks_167] → va_S A s.heap H locs → ∀ ls : Array Slot, lv_has ls 8 [(0, .ref (ad 0)), (1, .int v1_50), (2, .int v2_167), (6, .int v6_167)] → W p l e (headSpec wsX10_doubtBy ({ frames := 2, cells := 0, slots := 0, locals := 46 })).room s m ([.ref (ad 0), .int a1] : List Value).toArray below meth c H locs 0 0 QQ (F0 m 167 ls []) := by
        intro v2_167 gMpicks_167 gMbestPicks_167
        intro n_167
        induction n_167 with
        | zero => intro v6_167 hm; have hm : (none : Option (Int32 × (Nat → Int32) × (Nat → Int32))) = some u := hm; cases hm
        | succ n_167 ih_167 =>
          intro v6_167 hm H locs hP hD hS ls hl
          have hm : fM_doubtBy_167_b (fM_doubtBy_50  v1_50 xM_posted gMlimit gMpostTime n_50) (fM_doubtBy_167 (fM_doubtBy_50  v1_50 xM_posted gMlimit gMpostTime n_50) v1_50 v2_167 xM_posted gMlimit gMpostTime gMpicks_167 gMbestPicks_167 n_167) v1_50 v2_167 xM_posted gMlimit gMpostTime gMpicks_167 gMbestPicks_167 v6_167 = some u := hm
          unfold fM_doubtBy_167_b at hm
          refine lv_iload hx hb dX10_doubtBy_167 (lv_at hl 3 rfl) ?_
          refine lv_if_lt (tgt := 199) hx hb dX10_doubtBy_169 (by decide) (fun c_8 => ?_) (fun c_8 => ?_)
          · have hm := it_pos c_8 hm
            exact b_199 _ _ _ _ hm _ _ hP hD hS _ (lv_sub hl [0, 1, 2, 3] rfl)
          · have hm := it_neg c_8 hm
            refine lv_aload_n hx hb dX10_doubtBy_172 rfl (lv_at hl 0 rfl) ?_
            refine va_get (D := (dC, dI)) (ci := 10) (v := .ref (ad 20)) (C := RX10) (T := TX10) (N := 37) hx hb hts hinX10 hown hK hP 0 rfl rfl 22 (by decide) hl_67 (fun _ h9 => h9) rfl dX10_doubtBy_173 ?_
            refine lv_iload hx hb dX10_doubtBy_176 (lv_at hl 3 rfl) ?_
            obtain ⟨i_9, hm⟩ := ck_ok hm
            refine va_iald hx hb hK hP 3 0 rfl rfl i_9 dX10_doubtBy_178 ?_
            refine lv_aload_n hx hb dX10_doubtBy_179 rfl (lv_at hl 0 rfl) ?_
            refine va_get (D := (dC, dI)) (ci := 10) (v := .int xM_posted) (C := RX10) (T := TX10) (N := 37) hx hb hts hinX10 hown hK hP 0 rfl rfl 19 (by decide) hl_213 (fun _ h9 => h9) rfl dX10_doubtBy_180 ?_
            refine lv_iconst (v := 1) hx hb dX10_doubtBy_183 (by decide) ?_
            refine lv_isub hx hb dX10_doubtBy_184 ?_
            refine lv_iload_n hx hb dX10_doubtBy_185 rfl (lv_at hl 1 rfl) ?_
            refine lv_isub hx hb dX10_doubtBy_186 ?_
            refine lv_iload hx hb dX10_doubtBy_187 (lv_at hl 3 rfl) ?_
            refine lv_iadd hx hb dX10_doubtBy_189 ?_
            refine lv_icmp_ne (tgt := 199) hx hb dX10_doubtBy_190 (by decide) (fun c_10 => ?_) (fun c_10 => ?_)
            · have hm := it_neg c_10 hm
              exact b_199 _ _ _ _ hm _ _ hP hD hS _ (lv_sub hl [0, 1, 2, 3] rfl)
            · have hm := it_pos c_10 hm
              refine lv_iinc (v := (v6_167 + (-1))) (lv' := [(6, .int (v6_167 + (-1))), (0, .ref (ad 0)), (1, .int v1_50), (2, .int v2_167)]) hx hb dX10_doubtBy_193 hl (k := 3) rfl rfl (by decide) rfl (fun ls hl => ?_)
              refine lv_goto (tgt := 167) hx hb dX10_doubtBy_196 (by decide) ?_
              exact ih_167 _ hm _ _ hP hD hS _ (lv_sub hl [1, 2, 3, 0] rfl)
      have b_162 : ∀ (v2_162 : Int32) (gMpicks_162 : Nat → Int32) (gMbestPicks_162 : Nat → Int32), fM_doubtBy_162 (fM_doubtBy_50  v1_50 xM_posted gMlimit gMpostTime n_50) v1_50 v2_162 xM_posted gMlimit gMpostTime gMpicks_162 gMbestPicks_162 = some u → ∀ (H : Heap) (locs : List Loc), va_P (dC, dI) vwCl [oM ad xM_typed xM_people xM_posted xM_hears xM_censuses xM_finding, ar (ad 12) cA 3 gMlimit, ar (ad 19) cA 20 gMpostTime, ar (ad 20) cA 5 gMpicks_162, ar (ad 21) cA 5 gMbestPicks_162] H → va_D A [oM ad xM_typed xM_people xM_posted xM_hears xM_censuses xM_finding, ar (ad 12) cA 3 gMlimit, ar (ad 19) cA 20 gMpostTime, ar (ad 20) cA 5 gMpicks_162, ar (ad 21) cA 5 gMbestPicks_162] → va_S A s.heap H locs → ∀ ls : Array Slot, lv_has ls 8 [(0, .ref (ad 0)), (1, .int v1_50), (2, .int v2_162)] → W p l e (headSpec wsX10_doubtBy ({ frames := 2, cells := 0, slots := 0, locals := 46 })).room s m ([.ref (ad 0), .int a1] : List Value).toArray below meth c H locs 0 0 QQ (F0 m 162 ls []) := by
        intro v2_162 gMpicks_162 gMbestPicks_162 hm H locs hP hD hS ls hl
        unfold fM_doubtBy_162 at hm
        refine lv_iload_n hx hb dX10_doubtBy_162 rfl (lv_at hl 1 rfl) ?_
        refine lv_iconst (v := 1) hx hb dX10_doubtBy_163 (by decide) ?_
        refine lv_isub hx hb dX10_doubtBy_164 ?_
        refine lv_istore (lv' := [(6, .int (v1_50 - 1)), (0, .ref (ad 0)), (1, .int v1_50), (2, .int v2_162)]) hx hb dX10_doubtBy_165 hl (by decide) rfl (fun ls hl => ?_)
        exact h_167 _ _ _ _ _ hm _ _ hP hD hS _ (lv_sub hl [1, 2, 3, 0] rfl)
      have h_136 : ∀ (v2_136 : Int32) (gMpicks_136 : Nat → Int32), ∀ (n_136 : Nat), ∀ (v6_136 : Int32) (gMbestPicks_136 : Nat → Int32), fM_doubtBy_136 (fM_doubtBy_50  v1_50 xM_posted gMlimit gMpostTime n_50) v1_50 v2_136 xM_posted gMlimit gMpostTime gMpicks_136 n_136 v6_136 gMbestPicks_136 = some u → ∀ (H : Heap) (locs : List Loc), va_P (dC, dI) vwCl [oM ad xM_typed xM_people xM_posted xM_hears xM_censuses xM_finding, ar (ad 12) cA 3 gMlimit, ar (ad 19) cA 20 gMpostTime, ar (ad 20) cA 5 gMpicks_136, ar (ad 21) cA 5 gMbestPicks_136] H → va_D A [oM ad xM_typed xM_people xM_posted xM_hears xM_censuses xM_finding, ar (ad 12) cA 3 gMlimit, ar (ad 19) cA 20 gMpostTime, ar (ad 20) cA 5 gMpicks_136, ar (ad 21) cA 5 gMbestPicks_136] → va_S A s.heap H locs → ∀ ls : Array Slot, lv_has ls 8 [(0, .ref (ad 0)), (1, .int v1_50), (2, .int v2_136), (6, .int v6_136)] → W p l e (headSpec wsX10_doubtBy ({ frames := 2, cells := 0, slots := 0, locals := 46 })).room s m ([.ref (ad 0), .int a1] : List Value).toArray below meth c H locs 0 0 QQ (F0 m 136 ls []) := by
        intro v2_136 gMpicks_136
        intro n_136
        induction n_136 with
        | zero => intro v6_136 gMbestPicks_136 hm; have hm : (none : Option (Int32 × (Nat → Int32) × (Nat → Int32))) = some u := hm; cases hm
        | succ n_136 ih_136 =>
          intro v6_136 gMbestPicks_136 hm H locs hP hD hS ls hl
          have hm : fM_doubtBy_136_b (fM_doubtBy_50  v1_50 xM_posted gMlimit gMpostTime n_50) (fM_doubtBy_136 (fM_doubtBy_50  v1_50 xM_posted gMlimit gMpostTime n_50) v1_50 v2_136 xM_posted gMlimit gMpostTime gMpicks_136 n_136) v1_50 v2_136 xM_posted gMlimit gMpostTime gMpicks_136 v6_136 gMbestPicks_136 = some u := hm
          unfold fM_doubtBy_136_b at hm
          refine lv_iload hx hb dX10_doubtBy_136 (lv_at hl 3 rfl) ?_
          refine lv_iload_n hx hb dX10_doubtBy_138 rfl (lv_at hl 1 rfl) ?_
          refine lv_icmp_ge (tgt := 162) hx hb dX10_doubtBy_139 (by decide) (fun c_11 => ?_) (fun c_11 => ?_)
          · have hm := it_pos c_11 hm
            exact b_162 _ _ _ hm _ _ hP hD hS _ (lv_sub hl [0, 1, 2] rfl)
          · have hm := it_neg c_11 hm
            refine lv_aload_n hx hb dX10_doubtBy_142 rfl (lv_at hl 0 rfl) ?_
            refine va_get (D := (dC, dI)) (ci := 10) (v := .ref (ad 21)) (C := RX10) (T := TX10) (N := 37) hx hb hts hinX10 hown hK hP 0 rfl rfl 23 (by decide) hl_70 (fun _ h9 => h9) rfl dX10_doubtBy_143 ?_
            refine lv_iload hx hb dX10_doubtBy_146 (lv_at hl 3 rfl) ?_
            refine lv_aload_n hx hb dX10_doubtBy_148 rfl (lv_at hl 0 rfl) ?_
            refine va_get (D := (dC, dI)) (ci := 10) (v := .ref (ad 20)) (C := RX10) (T := TX10) (N := 37) hx hb hts hinX10 hown hK hP 0 rfl rfl 22 (by decide) hl_67 (fun _ h9 => h9) rfl dX10_doubtBy_149 ?_
            refine lv_iload hx hb dX10_doubtBy_152 (lv_at hl 3 rfl) ?_
            obtain ⟨i_12, hm⟩ := ck_ok hm
            refine va_iald hx hb hK hP 3 0 rfl rfl i_12 dX10_doubtBy_154 ?_
            obtain ⟨i_13, hm⟩ := ck_ok hm
            refine va_iast hx hb hK hP hD hS 4 0 rfl rfl i_13 dX10_doubtBy_155 (fun H locs hP hD hS => ?_)
            have hP : va_P (dC, dI) vwCl [oM ad xM_typed xM_people xM_posted xM_hears xM_censuses xM_finding, ar (ad 12) cA 3 gMlimit, ar (ad 19) cA 20 gMpostTime, ar (ad 20) cA 5 gMpicks_136, ar (ad 21) cA 5 (upd gMbestPicks_136 v6_136.toNatClampNeg (gMpicks_136 v6_136.toNatClampNeg))] H := hP
            have hD : va_D A [oM ad xM_typed xM_people xM_posted xM_hears xM_censuses xM_finding, ar (ad 12) cA 3 gMlimit, ar (ad 19) cA 20 gMpostTime, ar (ad 20) cA 5 gMpicks_136, ar (ad 21) cA 5 (upd gMbestPicks_136 v6_136.toNatClampNeg (gMpicks_136 v6_136.toNatClampNeg))] := hD
            refine lv_iinc (v := (v6_136 + 1)) (lv' := [(6, .int (v6_136 + 1)), (0, .ref (ad 0)), (1, .int v1_50), (2, .int v2_136)]) hx hb dX10_doubtBy_156 hl (k := 3) rfl rfl (by decide) rfl (fun ls hl => ?_)
            refine lv_goto (tgt := 136) hx hb dX10_doubtBy_159 (by decide) ?_
            exact ih_136 _ _ hm _ _ hP hD hS _ (lv_sub hl [1, 2, 3, 0] rfl)
      have b_130 : ∀ (v4_130 : Int32) (gMpicks_130 : Nat → Int32) (gMbestPicks_130 : Nat → Int32), fM_doubtBy_130 (fM_doubtBy_50  v1_50 xM_posted gMlimit gMpostTime n_50) v1_50 v4_130 xM_posted gMlimit gMpostTime gMpicks_130 gMbestPicks_130 = some u → ∀ (H : Heap) (locs : List Loc), va_P (dC, dI) vwCl [oM ad xM_typed xM_people xM_posted xM_hears xM_censuses xM_finding, ar (ad 12) cA 3 gMlimit, ar (ad 19) cA 20 gMpostTime, ar (ad 20) cA 5 gMpicks_130, ar (ad 21) cA 5 gMbestPicks_130] H → va_D A [oM ad xM_typed xM_people xM_posted xM_hears xM_censuses xM_finding, ar (ad 12) cA 3 gMlimit, ar (ad 19) cA 20 gMpostTime, ar (ad 20) cA 5 gMpicks_130, ar (ad 21) cA 5 gMbestPicks_130] → va_S A s.heap H locs → ∀ ls : Array Slot, lv_has ls 8 [(0, .ref (ad 0)), (1, .int v1_50), (4, .int v4_130)] → W p l e (headSpec wsX10_doubtBy ({ frames := 2, cells := 0, slots := 0, locals := 46 })).room s m ([.ref (ad 0), .int a1] : List Value).toArray below meth c H locs 0 0 QQ (F0 m 130 ls []) := by
        intro v4_130 gMpicks_130 gMbestPicks_130 hm H locs hP hD hS ls hl
        unfold fM_doubtBy_130 at hm
        refine lv_iload hx hb dX10_doubtBy_130 (lv_at hl 2 rfl) ?_
        refine lv_istore_n (lv' := [(2, .int v4_130), (0, .ref (ad 0)), (1, .int v1_50), (4, .int v4_130)]) hx hb dX10_doubtBy_132 rfl hl (by decide) rfl (fun ls hl => ?_)
        refine lv_iconst (v := 0) hx hb dX10_doubtBy_133 (by decide) ?_
        refine lv_istore (lv' := [(6, .int 0), (2, .int v4_130), (0, .ref (ad 0)), (1, .int v1_50), (4, .int v4_130)]) hx hb dX10_doubtBy_134 hl (by decide) rfl (fun ls hl => ?_)
        exact h_136 _ _ _ _ _ hm _ _ hP hD hS _ (lv_sub hl [2, 3, 1, 0] rfl)
      have h_63 : ∀ (v2_63 : Int32) (gMpicks_63 : Nat → Int32) (gMbestPicks_63 : Nat → Int32), ∀ (n_63 : Nat), ∀ (v4_63 : Int32) (v5_63 : Int32) (v6_63 : Int32), fM_doubtBy_63 (fM_doubtBy_50  v1_50 xM_posted gMlimit gMpostTime n_50) v1_50 v2_63 xM_posted gMlimit gMpostTime gMpicks_63 gMbestPicks_63 n_63 v4_63 v5_63 v6_63 = some u → ∀ (H : Heap) (locs : List Loc), va_P (dC, dI) vwCl [oM ad xM_typed xM_people xM_posted xM_hears xM_censuses xM_finding, ar (ad 12) cA 3 gMlimit, ar (ad 19) cA 20 gMpostTime, ar (ad 20) cA 5 gMpicks_63, ar (ad 21) cA 5 gMbestPicks_63] H → va_D A [oM ad xM_typed xM_people xM_posted xM_hears xM_censuses xM_finding, ar (ad 12) cA 3 gMlimit, ar (ad 19) cA 20 gMpostTime, ar (ad 20) cA 5 gMpicks_63, ar (ad 21) cA 5 gMbestPicks_63] → va_S A s.heap H locs → ∀ ls : Array Slot, lv_has ls 8 [(0, .ref (ad 0)), (1, .int v1_50), (2, .int v2_63), (4, .int v4_63), (5, .int v5_63), (6, .int v6_63)] → W p l e (headSpec wsX10_doubtBy ({ frames := 2, cells := 0, slots := 0, locals := 46 })).room s m ([.ref (ad 0), .int a1] : List Value).toArray below meth c H locs 0 0 QQ (F0 m 63 ls []) := by
        intro v2_63 gMpicks_63 gMbestPicks_63
        intro n_63
        induction n_63 with
        | zero => intro v4_63 v5_63 v6_63 hm; have hm : (none : Option (Int32 × (Nat → Int32) × (Nat → Int32))) = some u := hm; cases hm
        | succ n_63 ih_63 =>
          intro v4_63 v5_63 v6_63 hm H locs hP hD hS ls hl
          have hm : fM_doubtBy_63_b (fM_doubtBy_50  v1_50 xM_posted gMlimit gMpostTime n_50) (fM_doubtBy_63 (fM_doubtBy_50  v1_50 xM_posted gMlimit gMpostTime n_50) v1_50 v2_63 xM_posted gMlimit gMpostTime gMpicks_63 gMbestPicks_63 n_63) v1_50 v2_63 xM_posted gMlimit gMpostTime gMpicks_63 gMbestPicks_63 v4_63 v5_63 v6_63 = some u := hm
          unfold fM_doubtBy_63_b at hm
          refine lv_iload hx hb dX10_doubtBy_63 (lv_at hl 5 rfl) ?_
          refine lv_iload_n hx hb dX10_doubtBy_65 rfl (lv_at hl 1 rfl) ?_
          refine lv_icmp_ge (tgt := 102) hx hb dX10_doubtBy_66 (by decide) (fun c_14 => ?_) (fun c_14 => ?_)
          · have hm := it_pos c_14 hm
            refine lv_iload hx hb dX10_doubtBy_102 (lv_at hl 3 rfl) ?_
            refine lv_aload_n hx hb dX10_doubtBy_104 rfl (lv_at hl 0 rfl) ?_
            refine lv_iload hx hb dX10_doubtBy_105 (lv_at hl 4 rfl) ?_
            refine lv_aload_n hx hb dX10_doubtBy_107 rfl (lv_at hl 0 rfl) ?_
            refine va_get (D := (dC, dI)) (ci := 10) (v := .int xM_posted) (C := RX10) (T := TX10) (N := 37) hx hb hts hinX10 hown hK hP 0 rfl rfl 19 (by decide) hl_213 (fun _ h9 => h9) rfl dX10_doubtBy_108 ?_
            refine lv_iconst (v := 1) hx hb dX10_doubtBy_111 (by decide) ?_
            refine lv_isub hx hb dX10_doubtBy_112 ?_
            have hPc := hP.sub (ws' := [oM ad xM_typed xM_people xM_posted xM_hears xM_censuses xM_finding, ar (ad 12) cA 3 gMlimit, ar (ad 19) cA 20 gMpostTime]) [0, 1, 2] rfl
            have hDc := hD.sub (ws' := [oM ad xM_typed xM_people xM_posted xM_hears xM_censuses xM_finding, ar (ad 12) cA 3 gMlimit, ar (ad 19) cA 20 gMpostTime]) [0, 1, 2] (by decide) rfl
            have hFc := va_free (wc := [oM ad xM_typed xM_people xM_posted xM_hears xM_censuses xM_finding, ar (ad 12) cA 3 gMlimit, ar (ad 19) cA 20 gMpostTime]) hD hS hA [0, 1, 2] rfl
            obtain ⟨u_15, hc_15, hm⟩ := bd_ok hm
            refine va_calli (va_runV (As := [.int v5_63, .int (xM_posted - 1)]) (rest := [.int v4_63]) ⟨hx, hb, hml, hown, hts⟩ (kM_doubtBetween l dC dI cA cB ad H.size v5_63 (xM_posted - 1) xM_typed xM_people xM_posted xM_hears xM_censuses xM_finding gMlimit gMpostTime u_15 hc_15) (cwV 2 hts gX10_doubtBy_X10_doubtBetween rfl rfl rfl (by decide +kernel) ⟨Nat.le_of_ble_eq_true rfl, Nat.le_of_ble_eq_true rfl⟩) ⟨fun a U g mk q => by obtain ⟨q0, q1, qP, qK, qD⟩ := q; exact ⟨q0, q1, qP, va_K.moved (u := U) (U := U.calling g mk a) (Vm.Alike.refl U.vm) qK, qD⟩, va_recv hK hPc (ci := 10) (q0 := 0) rfl rfl, fun U hU hW => ⟨rfl, by rw [hU], by rw [hU]; exact hPc, va_K.moved hW.alike hK, hDc.weaken (fun _ _ _ _ => trivial)⟩⟩ rfl rfl hl.1 rfl (lv_room (Nat.le_of_ble_eq_true rfl)) dX10_doubtBy_113 ⟨Nat.le_of_ble_eq_true rfl, Nat.le_of_ble_eq_true rfl⟩) hS (fun q _ h => hFc q h) hFc (fun r_15 _ t H1 locs ht hvm hw hB hz1 hk1 hS => ?_)
            obtain ⟨hP1, hK1, hD1⟩ := hB
            rw [ht] at hP1
            obtain ⟨hP, hD⟩ := va_join (wr := [ar (ad 20) cA 5 gMpicks_63, ar (ad 21) cA 5 gMbestPicks_63]) (w1 := [oM ad xM_typed xM_people xM_posted xM_hears xM_censuses xM_finding, ar (ad 12) cA 3 gMlimit, ar (ad 19) cA 20 gMpostTime]) hP hD [0, 1, 2] [3, 4] rfl rfl (by decide) (by decide) hk1 hFc hP1 hD1
            clear hPc hDc hFc hP1 hK1 hD1 hk1 hz1 hvm ht
            generalize H1 = H at hP hS ⊢
            have hP : va_P (dC, dI) vwCl [oM ad xM_typed xM_people xM_posted xM_hears xM_censuses xM_finding, ar (ad 12) cA 3 gMlimit, ar (ad 19) cA 20 gMpostTime, ar (ad 20) cA 5 gMpicks_63, ar (ad 21) cA 5 gMbestPicks_63] H := hP.sub [2, 3, 4, 0, 1] rfl
            have hD : va_D A [oM ad xM_typed xM_people xM_posted xM_hears xM_censuses xM_finding, ar (ad 12) cA 3 gMlimit, ar (ad 19) cA 20 gMpostTime, ar (ad 20) cA 5 gMpicks_63, ar (ad 21) cA 5 gMbestPicks_63] := hD.sub [2, 3, 4, 0, 1] (by decide) rfl
            have hw := hw.symm
            subst hw
            refine lv_iadd hx hb dX10_doubtBy_116 ?_
            refine lv_istore (lv' := [(4, .int (v4_63 + u_15)), (0, .ref (ad 0)), (1, .int v1_50), (2, .int v2_63), (5, .int v5_63), (6, .int v6_63)]) hx hb dX10_doubtBy_117 hl (by decide) rfl (fun ls hl => ?_)
            refine lv_iload_n hx hb dX10_doubtBy_119 rfl (lv_at hl 3 rfl) ?_
            refine lv_iconst (v := (-1)) hx hb dX10_doubtBy_120 (by decide) ?_
            refine lv_icmp_eq (tgt := 130) hx hb dX10_doubtBy_121 (by decide) (fun c_16 => ?_) (fun c_16 => ?_)
            · have hm := it_pos c_16 hm
              exact b_130 _ _ _ hm _ _ hP hD hS _ (lv_sub hl [1, 2, 0] rfl)
            · have hm := it_neg c_16 hm
              refine lv_iload hx hb dX10_doubtBy_124 (lv_at hl 0 rfl) ?_
              refine lv_iload_n hx hb dX10_doubtBy_126 rfl (lv_at hl 3 rfl) ?_
              refine lv_icmp_ge (tgt := 162) hx hb dX10_doubtBy_127 (by decide) (fun c_17 => ?_) (fun c_17 => ?_)
              · have hm := it_pos c_17 hm
                exact b_162 _ _ _ hm _ _ hP hD hS _ (lv_sub hl [1, 2, 3] rfl)
              · have hm := it_neg c_17 hm
                exact b_130 _ _ _ hm _ _ hP hD hS _ (lv_sub hl [1, 2, 0] rfl)
          · have hm := it_neg c_14 hm
            refine lv_iload hx hb dX10_doubtBy_69 (lv_at hl 3 rfl) ?_
            refine lv_aload_n hx hb dX10_doubtBy_71 rfl (lv_at hl 0 rfl) ?_
            refine lv_iload hx hb dX10_doubtBy_72 (lv_at hl 4 rfl) ?_
            refine lv_aload_n hx hb dX10_doubtBy_74 rfl (lv_at hl 0 rfl) ?_
            refine va_get (D := (dC, dI)) (ci := 10) (v := .ref (ad 20)) (C := RX10) (T := TX10) (N := 37) hx hb hts hinX10 hown hK hP 0 rfl rfl 22 (by decide) hl_67 (fun _ h9 => h9) rfl dX10_doubtBy_75 ?_
            refine lv_iload hx hb dX10_doubtBy_78 (lv_at hl 5 rfl) ?_
            obtain ⟨i_18, hm⟩ := ck_ok hm
            refine va_iald hx hb hK hP 3 0 rfl rfl i_18 dX10_doubtBy_80 ?_
            have hPc := hP.sub (ws' := [oM ad xM_typed xM_people xM_posted xM_hears xM_censuses xM_finding, ar (ad 12) cA 3 gMlimit, ar (ad 19) cA 20 gMpostTime]) [0, 1, 2] rfl
            have hDc := hD.sub (ws' := [oM ad xM_typed xM_people xM_posted xM_hears xM_censuses xM_finding, ar (ad 12) cA 3 gMlimit, ar (ad 19) cA 20 gMpostTime]) [0, 1, 2] (by decide) rfl
            have hFc := va_free (wc := [oM ad xM_typed xM_people xM_posted xM_hears xM_censuses xM_finding, ar (ad 12) cA 3 gMlimit, ar (ad 19) cA 20 gMpostTime]) hD hS hA [0, 1, 2] rfl
            obtain ⟨u_19, hc_19, hm⟩ := bd_ok hm
            refine va_calli (va_runV (As := [.int v5_63, .int (gMpicks_63 v6_63.toNatClampNeg)]) (rest := [.int v4_63]) ⟨hx, hb, hml, hown, hts⟩ (kM_doubtBetween l dC dI cA cB ad H.size v5_63 (gMpicks_63 v6_63.toNatClampNeg) xM_typed xM_people xM_posted xM_hears xM_censuses xM_finding gMlimit gMpostTime u_19 hc_19) (cwV 2 hts gX10_doubtBy_X10_doubtBetween rfl rfl rfl (by decide +kernel) ⟨Nat.le_of_ble_eq_true rfl, Nat.le_of_ble_eq_true rfl⟩) ⟨fun a U g mk q => by obtain ⟨q0, q1, qP, qK, qD⟩ := q; exact ⟨q0, q1, qP, va_K.moved (u := U) (U := U.calling g mk a) (Vm.Alike.refl U.vm) qK, qD⟩, va_recv hK hPc (ci := 10) (q0 := 0) rfl rfl, fun U hU hW => ⟨rfl, by rw [hU], by rw [hU]; exact hPc, va_K.moved hW.alike hK, hDc.weaken (fun _ _ _ _ => trivial)⟩⟩ rfl rfl hl.1 rfl (lv_room (Nat.le_of_ble_eq_true rfl)) dX10_doubtBy_81 ⟨Nat.le_of_ble_eq_true rfl, Nat.le_of_ble_eq_true rfl⟩) hS (fun q _ h => hFc q h) hFc (fun r_19 _ t H1 locs ht hvm hw hB hz1 hk1 hS => ?_)
            obtain ⟨hP1, hK1, hD1⟩ := hB
            rw [ht] at hP1
            obtain ⟨hP, hD⟩ := va_join (wr := [ar (ad 20) cA 5 gMpicks_63, ar (ad 21) cA 5 gMbestPicks_63]) (w1 := [oM ad xM_typed xM_people xM_posted xM_hears xM_censuses xM_finding, ar (ad 12) cA 3 gMlimit, ar (ad 19) cA 20 gMpostTime]) hP hD [0, 1, 2] [3, 4] rfl rfl (by decide) (by decide) hk1 hFc hP1 hD1
            clear hPc hDc hFc hP1 hK1 hD1 hk1 hz1 hvm ht
            generalize H1 = H at hP hS ⊢
            have hP : va_P (dC, dI) vwCl [oM ad xM_typed xM_people xM_posted xM_hears xM_censuses xM_finding, ar (ad 12) cA 3 gMlimit, ar (ad 19) cA 20 gMpostTime, ar (ad 20) cA 5 gMpicks_63, ar (ad 21) cA 5 gMbestPicks_63] H := hP.sub [2, 3, 4, 0, 1] rfl
            have hD : va_D A [oM ad xM_typed xM_people xM_posted xM_hears xM_censuses xM_finding, ar (ad 12) cA 3 gMlimit, ar (ad 19) cA 20 gMpostTime, ar (ad 20) cA 5 gMpicks_63, ar (ad 21) cA 5 gMbestPicks_63] := hD.sub [2, 3, 4, 0, 1] (by decide) rfl
            have hw := hw.symm
            subst hw
            refine lv_iadd hx hb dX10_doubtBy_84 ?_
            refine lv_istore (lv' := [(4, .int (v4_63 + u_19)), (0, .ref (ad 0)), (1, .int v1_50), (2, .int v2_63), (5, .int v5_63), (6, .int v6_63)]) hx hb dX10_doubtBy_85 hl (by decide) rfl (fun ls hl => ?_)
            refine lv_aload_n hx hb dX10_doubtBy_87 rfl (lv_at hl 1 rfl) ?_
            refine va_get (D := (dC, dI)) (ci := 10) (v := .ref (ad 20)) (C := RX10) (T := TX10) (N := 37) hx hb hts hinX10 hown hK hP 0 rfl rfl 22 (by decide) hl_67 (fun _ h9 => h9) rfl dX10_doubtBy_88 ?_
            refine lv_iload hx hb dX10_doubtBy_91 (lv_at hl 5 rfl) ?_
            obtain ⟨i_20, hm⟩ := ck_ok hm
            refine va_iald hx hb hK hP 3 0 rfl rfl i_20 dX10_doubtBy_93 ?_
            refine lv_istore (lv' := [(5, .int (gMpicks_63 v6_63.toNatClampNeg)), (4, .int (v4_63 + u_19)), (0, .ref (ad 0)), (1, .int v1_50), (2, .int v2_63), (6, .int v6_63)]) hx hb dX10_doubtBy_94 hl (by decide) rfl (fun ls hl => ?_)
            refine lv_iinc (v := (v6_63 + 1)) (lv' := [(6, .int (v6_63 + 1)), (5, .int (gMpicks_63 v6_63.toNatClampNeg)), (4, .int (v4_63 + u_19)), (0, .ref (ad 0)), (1, .int v1_50), (2, .int v2_63)]) hx hb dX10_doubtBy_96 hl (k := 5) rfl rfl (by decide) rfl (fun ls hl => ?_)
            refine lv_goto (tgt := 63) hx hb dX10_doubtBy_99 (by decide) ?_
            exact ih_63 _ _ _ hm _ _ hP hD hS _ (lv_sub hl [3, 4, 5, 2, 1, 0] rfl)
      intro v2_50 v3_50 gMpicks_50 gMbestPicks_50 hm H locs hP hD hS ls hl
      have hm : fM_doubtBy_50_b  (fM_doubtBy_50  v1_50 xM_posted gMlimit gMpostTime n_50) v1_50 xM_posted gMlimit gMpostTime v2_50 v3_50 gMpicks_50 gMbestPicks_50 = some u := hm
      unfold fM_doubtBy_50_b at hm
      refine lv_iload_n hx hb dX10_doubtBy_50 rfl (lv_at hl 3 rfl) ?_
      refine lv_if_eq (tgt := 264) hx hb dX10_doubtBy_51 (by decide) (fun c_21 => ?_) (fun c_21 => ?_)
      · have hm := it_pos c_21 hm
        refine lv_iload_n hx hb dX10_doubtBy_264 rfl (lv_at hl 2 rfl) ?_
        obtain rfl := Option.some.inj hm
        subst hQ
        exact W.iret (v := v2_50) hx hb hr (fun t ht hW => ⟨⟨_, (), rfl, rfl, by rw [ht]; exact hP, va_K.moved hW.alike hK, hAe ▸ hD⟩, hS.F ht⟩) hS.2.2 dX10_doubtBy_265
      · have hm := it_neg c_21 hm
        refine lv_iconst (v := 0) hx hb dX10_doubtBy_54 (by decide) ?_
        refine lv_istore (lv' := [(4, .int 0), (0, .ref (ad 0)), (1, .int v1_50), (2, .int v2_50), (3, .int v3_50)]) hx hb dX10_doubtBy_55 hl (by decide) rfl (fun ls hl => ?_)
        refine lv_iconst (v := 0) hx hb dX10_doubtBy_57 (by decide) ?_
        refine lv_istore (lv' := [(5, .int 0), (4, .int 0), (0, .ref (ad 0)), (1, .int v1_50), (2, .int v2_50), (3, .int v3_50)]) hx hb dX10_doubtBy_58 hl (by decide) rfl (fun ls hl => ?_)
        refine lv_iconst (v := 0) hx hb dX10_doubtBy_60 (by decide) ?_
        refine lv_istore (lv' := [(6, .int 0), (5, .int 0), (4, .int 0), (0, .ref (ad 0)), (1, .int v1_50), (2, .int v2_50), (3, .int v3_50)]) hx hb dX10_doubtBy_61 hl (by decide) rfl (fun ls hl => ?_)
        exact h_63 _ _ _ _ _ _ _ hm _ _ hP hD hS _ (lv_sub hl [3, 4, 5, 2, 1, 0] rfl)
  have h_26 : ∀ (v1_26 : Int32) (gMbestPicks_26 : Nat → Int32), ∀ (n_26 : Nat), ∀ (v2_26 : Int32) (gMpicks_26 : Nat → Int32), fM_doubtBy_26 v1_26 xM_posted gMlimit gMpostTime gMbestPicks_26 n_26 v2_26 gMpicks_26 = some u → ∀ (H : Heap) (locs : List Loc), va_P (dC, dI) vwCl [oM ad xM_typed xM_people xM_posted xM_hears xM_censuses xM_finding, ar (ad 12) cA 3 gMlimit, ar (ad 19) cA 20 gMpostTime, ar (ad 20) cA 5 gMpicks_26, ar (ad 21) cA 5 gMbestPicks_26] H → va_D A [oM ad xM_typed xM_people xM_posted xM_hears xM_censuses xM_finding, ar (ad 12) cA 3 gMlimit, ar (ad 19) cA 20 gMpostTime, ar (ad 20) cA 5 gMpicks_26, ar (ad 21) cA 5 gMbestPicks_26] → va_S A s.heap H locs → ∀ ls : Array Slot, lv_has ls 8 [(0, .ref (ad 0)), (1, .int v1_26), (2, .int v2_26)] → W p l e (headSpec wsX10_doubtBy ({ frames := 2, cells := 0, slots := 0, locals := 46 })).room s m ([.ref (ad 0), .int a1] : List Value).toArray below meth c H locs 0 0 QQ (F0 m 26 ls []) := by
    intro v1_26 gMbestPicks_26
    intro n_26
    induction n_26 with
    | zero => intro v2_26 gMpicks_26 hm; have hm : (none : Option (Int32 × (Nat → Int32) × (Nat → Int32))) = some u := hm; cases hm
    | succ n_26 ih_26 =>
      intro v2_26 gMpicks_26 hm H locs hP hD hS ls hl
      have hm : fM_doubtBy_26_b  (fM_doubtBy_26  v1_26 xM_posted gMlimit gMpostTime gMbestPicks_26 n_26) v1_26 xM_posted gMlimit gMpostTime gMbestPicks_26 v2_26 gMpicks_26 = some u := hm
      unfold fM_doubtBy_26_b at hm
      refine lv_iload_n hx hb dX10_doubtBy_26 rfl (lv_at hl 2 rfl) ?_
      refine lv_iload_n hx hb dX10_doubtBy_27 rfl (lv_at hl 1 rfl) ?_
      refine lv_icmp_ge (tgt := 46) hx hb dX10_doubtBy_28 (by decide) (fun c_22 => ?_) (fun c_22 => ?_)
      · have hm := it_pos c_22 hm
        refine lv_iconst (v := (-1)) hx hb dX10_doubtBy_46 (by decide) ?_
        refine lv_istore_n (lv' := [(2, .int (-1)), (0, .ref (ad 0)), (1, .int v1_26)]) hx hb dX10_doubtBy_47 rfl hl (by decide) rfl (fun ls hl => ?_)
        refine lv_iconst (v := 1) hx hb dX10_doubtBy_48 (by decide) ?_
        refine lv_istore_n (lv' := [(3, .int 1), (2, .int (-1)), (0, .ref (ad 0)), (1, .int v1_26)]) hx hb dX10_doubtBy_49 rfl hl (by decide) rfl (fun ls hl => ?_)
        exact h_50 _ _ _ _ _ _ hm _ _ hP hD hS _ (lv_sub hl [2, 3, 1, 0] rfl)
      · have hm := it_neg c_22 hm
        refine lv_aload_n hx hb dX10_doubtBy_31 rfl (lv_at hl 0 rfl) ?_
        refine va_get (D := (dC, dI)) (ci := 10) (v := .ref (ad 20)) (C := RX10) (T := TX10) (N := 37) hx hb hts hinX10 hown hK hP 0 rfl rfl 22 (by decide) hl_67 (fun _ h9 => h9) rfl dX10_doubtBy_32 ?_
        refine lv_iload_n hx hb dX10_doubtBy_35 rfl (lv_at hl 2 rfl) ?_
        refine lv_iload_n hx hb dX10_doubtBy_36 rfl (lv_at hl 2 rfl) ?_
        refine lv_iconst (v := 1) hx hb dX10_doubtBy_37 (by decide) ?_
        refine lv_iadd hx hb dX10_doubtBy_38 ?_
        obtain ⟨i_23, hm⟩ := ck_ok hm
        refine va_iast hx hb hK hP hD hS 3 0 rfl rfl i_23 dX10_doubtBy_39 (fun H locs hP hD hS => ?_)
        have hP : va_P (dC, dI) vwCl [oM ad xM_typed xM_people xM_posted xM_hears xM_censuses xM_finding, ar (ad 12) cA 3 gMlimit, ar (ad 19) cA 20 gMpostTime, ar (ad 20) cA 5 (upd gMpicks_26 v2_26.toNatClampNeg (v2_26 + 1)), ar (ad 21) cA 5 gMbestPicks_26] H := hP
        have hD : va_D A [oM ad xM_typed xM_people xM_posted xM_hears xM_censuses xM_finding, ar (ad 12) cA 3 gMlimit, ar (ad 19) cA 20 gMpostTime, ar (ad 20) cA 5 (upd gMpicks_26 v2_26.toNatClampNeg (v2_26 + 1)), ar (ad 21) cA 5 gMbestPicks_26] := hD
        refine lv_iinc (v := (v2_26 + 1)) (lv' := [(2, .int (v2_26 + 1)), (0, .ref (ad 0)), (1, .int v1_26)]) hx hb dX10_doubtBy_40 hl (k := 2) rfl rfl (by decide) rfl (fun ls hl => ?_)
        refine lv_goto (tgt := 26) hx hb dX10_doubtBy_43 (by decide) ?_
        exact ih_26 _ _ hm _ _ hP hD hS _ (lv_sub hl [1, 2, 0] rfl)
  have b_24 : ∀ (v1_24 : Int32) (gMpicks_24 : Nat → Int32) (gMbestPicks_24 : Nat → Int32), fM_doubtBy_24 v1_24 xM_posted gMlimit gMpostTime gMpicks_24 gMbestPicks_24 = some u → ∀ (H : Heap) (locs : List Loc), va_P (dC, dI) vwCl [oM ad xM_typed xM_people xM_posted xM_hears xM_censuses xM_finding, ar (ad 12) cA 3 gMlimit, ar (ad 19) cA 20 gMpostTime, ar (ad 20) cA 5 gMpicks_24, ar (ad 21) cA 5 gMbestPicks_24] H → va_D A [oM ad xM_typed xM_people xM_posted xM_hears xM_censuses xM_finding, ar (ad 12) cA 3 gMlimit, ar (ad 19) cA 20 gMpostTime, ar (ad 20) cA 5 gMpicks_24, ar (ad 21) cA 5 gMbestPicks_24] → va_S A s.heap H locs → ∀ ls : Array Slot, lv_has ls 8 [(0, .ref (ad 0)), (1, .int v1_24)] → W p l e (headSpec wsX10_doubtBy ({ frames := 2, cells := 0, slots := 0, locals := 46 })).room s m ([.ref (ad 0), .int a1] : List Value).toArray below meth c H locs 0 0 QQ (F0 m 24 ls []) := by
    intro v1_24 gMpicks_24 gMbestPicks_24 hm H locs hP hD hS ls hl
    unfold fM_doubtBy_24 at hm
    refine lv_iconst (v := 0) hx hb dX10_doubtBy_24 (by decide) ?_
    refine lv_istore_n (lv' := [(2, .int 0), (0, .ref (ad 0)), (1, .int v1_24)]) hx hb dX10_doubtBy_25 rfl hl (by decide) rfl (fun ls hl => ?_)
    exact h_26 _ _ _ _ _ hm _ _ hP hD hS _ (lv_sub hl [1, 2, 0] rfl)
  unfold fM_doubtBy at hm
  refine lv_aload_n hx hb dX10_doubtBy_0 rfl (lv_at hl 0 rfl) ?_
  refine va_get (D := (dC, dI)) (ci := 10) (v := .int xM_posted) (C := RX10) (T := TX10) (N := 37) hx hb hts hinX10 hown hK hP 0 rfl rfl 19 (by decide) hl_213 (fun _ h9 => h9) rfl dX10_doubtBy_1 ?_
  refine lv_if_eq (tgt := 21) hx hb dX10_doubtBy_4 (by decide) (fun c_24 => ?_) (fun c_24 => ?_)
  · have hm := it_pos c_24 hm
    refine lv_bipush (v := (-3)) hx hb dX10_doubtBy_21 (by decide) ?_
    obtain rfl := Option.some.inj hm
    subst hQ
    exact W.iret (v := (-3)) hx hb hr (fun t ht hW => ⟨⟨_, (), rfl, rfl, by rw [ht]; exact hP, va_K.moved hW.alike hK, hAe ▸ hD⟩, hS.F ht⟩) hS.2.2 dX10_doubtBy_23
  · have hm := it_neg c_24 hm
    refine lv_iload_n hx hb dX10_doubtBy_7 rfl (lv_at hl 1 rfl) ?_
    refine lv_if_le (tgt := 24) hx hb dX10_doubtBy_8 (by decide) (fun c_25 => ?_) (fun c_25 => ?_)
    · have hm := it_pos c_25 hm
      exact b_24 _ _ _ hm _ _ hP hD hS _ (lv_sub hl [0, 1] rfl)
    · have hm := it_neg c_25 hm
      refine lv_aload_n hx hb dX10_doubtBy_11 rfl (lv_at hl 0 rfl) ?_
      refine va_get (D := (dC, dI)) (ci := 10) (v := .int xM_posted) (C := RX10) (T := TX10) (N := 37) hx hb hts hinX10 hown hK hP 0 rfl rfl 19 (by decide) hl_213 (fun _ h9 => h9) rfl dX10_doubtBy_12 ?_
      refine lv_iconst (v := 2) hx hb dX10_doubtBy_15 (by decide) ?_
      refine lv_isub hx hb dX10_doubtBy_16 ?_
      refine lv_iload_n hx hb dX10_doubtBy_17 rfl (lv_at hl 1 rfl) ?_
      refine lv_icmp_ge (tgt := 24) hx hb dX10_doubtBy_18 (by decide) (fun c_26 => ?_) (fun c_26 => ?_)
      · have hm := it_pos c_26 hm
        exact b_24 _ _ _ hm _ _ hP hD hS _ (lv_sub hl [0, 1] rfl)
      · have hm := it_neg c_26 hm
        refine lv_bipush (v := (-3)) hx hb dX10_doubtBy_21 (by decide) ?_
        obtain rfl := Option.some.inj hm
        subst hQ
        exact W.iret (v := (-3)) hx hb hr (fun t ht hW => ⟨⟨_, (), rfl, rfl, by rw [ht]; exact hP, va_K.moved hW.alike hK, hAe ▸ hD⟩, hS.F ht⟩) hS.2.2 dX10_doubtBy_23

set_option maxHeartbeats 4000000 in
set_option maxRecDepth 100000 in
theorem kM_doubtOf (l : Launch) (dC : Nat → ClassId) (dI : Nat → Nat → Nat) (cA : ClassId) (cB : ClassId) (ad : Nat → Nat) (sz : Nat) (a1 : Int32) (a2 : Int32) (xM_typed : Int32) (xM_people : Int32) (xM_posted : Int32) (xM_hears : Int32) (xM_censuses : Int32) (xM_finding : Int32) (gMtext : Nat → Int32) (gMkinds : Nat → Int32) (gMlates : Nat → Int32) (gMscarfs : Nat → Int32) (gMhands : Nat → Int32) (gMrings : Nat → Int32) (gMmains : Nat → Int32) (gMaheadOf : Nat → Int32) (gMlastIn : Nat → Int32) (gMmanyIn : Nat → Int32) (gMsetting : Nat → Int32) (gMlimit : Nat → Int32) (gMcomes : Nat → Int32) (gMbusyTo : Nat → Int32) (gMfeltMany : Nat → Int32) (gMfeltBits : Nat → Int32) (gMlostBits : Nat → Int32) (gMpostWho : Nat → Int32) (gMpostTime : Nat → Int32) (gMpicks : Nat → Int32) (gMbestPicks : Nat → Int32) (u : Int32 × Int32 × Int32 × (Nat → Int32) × (Nat → Int32) × (Nat → Int32) × (Nat → Int32) × (Nat → Int32) × (Nat → Int32) × (Nat → Int32) × (Nat → Int32) × (Nat → Int32) × (Nat → Int32) × (Nat → Int32) × (Nat → Int32) × (Nat → Int32) × (Nat → Int32) × (Nat → Int32) × (Nat → Int32) × (Nat → Int32) × (Nat → Int32)) (hm : fM_doubtOf a1 a2 xM_typed xM_people xM_posted gMtext gMkinds gMlates gMscarfs gMhands gMrings gMmains gMaheadOf gMlastIn gMmanyIn gMsetting gMlimit gMcomes gMbusyTo gMfeltMany gMfeltBits gMlostBits gMpostWho gMpostTime gMpicks gMbestPicks = some u) : Met l yX10_doubtOf wsX10_doubtOf ({ frames := 6, cells := 0, slots := 0, locals := 145 }) (va_Pc [.ref (ad 0), .int a1, .int a2] (fun U => U.heap.size = sz ∧ va_P (dC, dI) vwCl [oM ad xM_typed xM_people xM_posted xM_hears xM_censuses xM_finding, ar (ad 1) cA 60 gMtext, ar (ad 2) cA 20 gMkinds, ar (ad 3) cA 20 gMlates, ar (ad 4) cA 20 gMscarfs, ar (ad 5) cA 20 gMhands, ar (ad 6) cA 20 gMrings, ar (ad 7) cA 20 gMmains, ar (ad 8) cA 4 gMaheadOf, ar (ad 9) cA 4 gMlastIn, ar (ad 10) cA 4 gMmanyIn, ar (ad 11) cA 3 gMsetting, ar (ad 12) cA 3 gMlimit, ar (ad 13) cA 8020 gMcomes, ar (ad 14) cA 20 gMbusyTo, ar (ad 15) cA 20 gMfeltMany, ar (ad 16) cA 8020 gMfeltBits, ar (ad 17) cA 8020 gMlostBits, ar (ad 18) cA 20 gMpostWho, ar (ad 19) cA 20 gMpostTime, ar (ad 20) cA 5 gMpicks, ar (ad 21) cA 5 gMbestPicks] U.heap ∧ va_K (dC, dI) vwCl [(cA, .int), (cB, .boolean)] U ∧ va_D (fun _ => True) [oM ad xM_typed xM_people xM_posted xM_hears xM_censuses xM_finding, ar (ad 1) cA 60 gMtext, ar (ad 2) cA 20 gMkinds, ar (ad 3) cA 20 gMlates, ar (ad 4) cA 20 gMscarfs, ar (ad 5) cA 20 gMhands, ar (ad 6) cA 20 gMrings, ar (ad 7) cA 20 gMmains, ar (ad 8) cA 4 gMaheadOf, ar (ad 9) cA 4 gMlastIn, ar (ad 10) cA 4 gMmanyIn, ar (ad 11) cA 3 gMsetting, ar (ad 12) cA 3 gMlimit, ar (ad 13) cA 8020 gMcomes, ar (ad 14) cA 20 gMbusyTo, ar (ad 15) cA 20 gMfeltMany, ar (ad 16) cA 8020 gMfeltBits, ar (ad 17) cA 8020 gMlostBits, ar (ad 18) cA 20 gMpostWho, ar (ad 19) cA 20 gMpostTime, ar (ad 20) cA 5 gMpicks, ar (ad 21) cA 5 gMbestPicks])) (va_Qi (fun (r : Int32) (_ : Unit) => r = u.1) (fun (_ : Unit) t => va_P (dC, dI) vwCl [oM ad xM_typed u.2.1 u.2.2.1 xM_hears xM_censuses xM_finding, ar (ad 1) cA 60 gMtext, ar (ad 2) cA 20 u.2.2.2.1, ar (ad 3) cA 20 u.2.2.2.2.1, ar (ad 4) cA 20 u.2.2.2.2.2.1, ar (ad 5) cA 20 u.2.2.2.2.2.2.1, ar (ad 6) cA 20 u.2.2.2.2.2.2.2.1, ar (ad 7) cA 20 u.2.2.2.2.2.2.2.2.1, ar (ad 8) cA 4 u.2.2.2.2.2.2.2.2.2.1, ar (ad 9) cA 4 u.2.2.2.2.2.2.2.2.2.2.1, ar (ad 10) cA 4 u.2.2.2.2.2.2.2.2.2.2.2.1, ar (ad 11) cA 3 gMsetting, ar (ad 12) cA 3 gMlimit, ar (ad 13) cA 8020 u.2.2.2.2.2.2.2.2.2.2.2.2.1, ar (ad 14) cA 20 u.2.2.2.2.2.2.2.2.2.2.2.2.2.1, ar (ad 15) cA 20 u.2.2.2.2.2.2.2.2.2.2.2.2.2.2.1, ar (ad 16) cA 8020 u.2.2.2.2.2.2.2.2.2.2.2.2.2.2.2.1, ar (ad 17) cA 8020 u.2.2.2.2.2.2.2.2.2.2.2.2.2.2.2.2.1, ar (ad 18) cA 20 u.2.2.2.2.2.2.2.2.2.2.2.2.2.2.2.2.2.1, ar (ad 19) cA 20 u.2.2.2.2.2.2.2.2.2.2.2.2.2.2.2.2.2.2.1, ar (ad 20) cA 5 u.2.2.2.2.2.2.2.2.2.2.2.2.2.2.2.2.2.2.2.1, ar (ad 21) cA 5 u.2.2.2.2.2.2.2.2.2.2.2.2.2.2.2.2.2.2.2.2] t.heap ∧ va_K (dC, dI) vwCl [(cA, .int), (cB, .boolean)] t ∧ va_D (va_A [oM ad xM_typed xM_people xM_posted xM_hears xM_censuses xM_finding, ar (ad 1) cA 60 gMtext, ar (ad 2) cA 20 gMkinds, ar (ad 3) cA 20 gMlates, ar (ad 4) cA 20 gMscarfs, ar (ad 5) cA 20 gMhands, ar (ad 6) cA 20 gMrings, ar (ad 7) cA 20 gMmains, ar (ad 8) cA 4 gMaheadOf, ar (ad 9) cA 4 gMlastIn, ar (ad 10) cA 4 gMmanyIn, ar (ad 11) cA 3 gMsetting, ar (ad 12) cA 3 gMlimit, ar (ad 13) cA 8020 gMcomes, ar (ad 14) cA 20 gMbusyTo, ar (ad 15) cA 20 gMfeltMany, ar (ad 16) cA 8020 gMfeltBits, ar (ad 17) cA 8020 gMlostBits, ar (ad 18) cA 20 gMpostWho, ar (ad 19) cA 20 gMpostTime, ar (ad 20) cA 5 gMpicks, ar (ad 21) cA 5 gMbestPicks] sz) [oM ad xM_typed u.2.1 u.2.2.1 xM_hears xM_censuses xM_finding, ar (ad 1) cA 60 gMtext, ar (ad 2) cA 20 u.2.2.2.1, ar (ad 3) cA 20 u.2.2.2.2.1, ar (ad 4) cA 20 u.2.2.2.2.2.1, ar (ad 5) cA 20 u.2.2.2.2.2.2.1, ar (ad 6) cA 20 u.2.2.2.2.2.2.2.1, ar (ad 7) cA 20 u.2.2.2.2.2.2.2.2.1, ar (ad 8) cA 4 u.2.2.2.2.2.2.2.2.2.1, ar (ad 9) cA 4 u.2.2.2.2.2.2.2.2.2.2.1, ar (ad 10) cA 4 u.2.2.2.2.2.2.2.2.2.2.2.1, ar (ad 11) cA 3 gMsetting, ar (ad 12) cA 3 gMlimit, ar (ad 13) cA 8020 u.2.2.2.2.2.2.2.2.2.2.2.2.1, ar (ad 14) cA 20 u.2.2.2.2.2.2.2.2.2.2.2.2.2.1, ar (ad 15) cA 20 u.2.2.2.2.2.2.2.2.2.2.2.2.2.2.1, ar (ad 16) cA 8020 u.2.2.2.2.2.2.2.2.2.2.2.2.2.2.2.1, ar (ad 17) cA 8020 u.2.2.2.2.2.2.2.2.2.2.2.2.2.2.2.2.1, ar (ad 18) cA 20 u.2.2.2.2.2.2.2.2.2.2.2.2.2.2.2.2.2.1, ar (ad 19) cA 20 u.2.2.2.2.2.2.2.2.2.2.2.2.2.2.2.2.2.2.1, ar (ad 20) cA 5 u.2.2.2.2.2.2.2.2.2.2.2.2.2.2.2.2.2.2.2.1, ar (ad 21) cA 5 u.2.2.2.2.2.2.2.2.2.2.2.2.2.2.2.2.2.2.2.2]) (va_A [oM ad xM_typed xM_people xM_posted xM_hears xM_censuses xM_finding, ar (ad 1) cA 60 gMtext, ar (ad 2) cA 20 gMkinds, ar (ad 3) cA 20 gMlates, ar (ad 4) cA 20 gMscarfs, ar (ad 5) cA 20 gMhands, ar (ad 6) cA 20 gMrings, ar (ad 7) cA 20 gMmains, ar (ad 8) cA 4 gMaheadOf, ar (ad 9) cA 4 gMlastIn, ar (ad 10) cA 4 gMmanyIn, ar (ad 11) cA 3 gMsetting, ar (ad 12) cA 3 gMlimit, ar (ad 13) cA 8020 gMcomes, ar (ad 14) cA 20 gMbusyTo, ar (ad 15) cA 20 gMfeltMany, ar (ad 16) cA 8020 gMfeltBits, ar (ad 17) cA 8020 gMlostBits, ar (ad 18) cA 20 gMpostWho, ar (ad 19) cA 20 gMpostTime, ar (ad 20) cA 5 gMpicks, ar (ad 21) cA 5 gMbestPicks] sz)) 0 0 (va_A [oM ad xM_typed xM_people xM_posted xM_hears xM_censuses xM_finding, ar (ad 1) cA 60 gMtext, ar (ad 2) cA 20 gMkinds, ar (ad 3) cA 20 gMlates, ar (ad 4) cA 20 gMscarfs, ar (ad 5) cA 20 gMhands, ar (ad 6) cA 20 gMrings, ar (ad 7) cA 20 gMmains, ar (ad 8) cA 4 gMaheadOf, ar (ad 9) cA 4 gMlastIn, ar (ad 10) cA 4 gMmanyIn, ar (ad 11) cA 3 gMsetting, ar (ad 12) cA 3 gMlimit, ar (ad 13) cA 8020 gMcomes, ar (ad 14) cA 20 gMbusyTo, ar (ad 15) cA 20 gMfeltMany, ar (ad 16) cA 8020 gMfeltBits, ar (ad 17) cA 8020 gMlostBits, ar (ad 18) cA 20 gMpostWho, ar (ad 19) cA 20 gMpostTime, ar (ad 20) cA 5 gMpicks, ar (ad 21) cA 5 gMbestPicks] sz) := by
  refine Met.ofW (cc := cX10_doubtOf) (maxL := 4) (ret := (some .int)) (by decide) rfl ?_
  intro p e s m args below meth c s₁ B hml hv
  obtain ⟨rfl, hsz, hP, hK, hD0⟩ := hv
  have hx := B.exec
  have hb := B.bytes
  have hr := B.returns
  have hts := atoms_spec (ws := wsX10_doubtOf) B.pre
  have hown : s.vm.findClass RX10 = some m.cls := findClass_of_methodNamed B.named
  have hlocks := B.notSynchronized
  subst hsz
  have hD := hD0.self (sz := s.heap.size)
  generalize hAe : va_A [oM ad xM_typed xM_people xM_posted xM_hears xM_censuses xM_finding, ar (ad 1) cA 60 gMtext, ar (ad 2) cA 20 gMkinds, ar (ad 3) cA 20 gMlates, ar (ad 4) cA 20 gMscarfs, ar (ad 5) cA 20 gMhands, ar (ad 6) cA 20 gMrings, ar (ad 7) cA 20 gMmains, ar (ad 8) cA 4 gMaheadOf, ar (ad 9) cA 4 gMlastIn, ar (ad 10) cA 4 gMmanyIn, ar (ad 11) cA 3 gMsetting, ar (ad 12) cA 3 gMlimit, ar (ad 13) cA 8020 gMcomes, ar (ad 14) cA 20 gMbusyTo, ar (ad 15) cA 20 gMfeltMany, ar (ad 16) cA 8020 gMfeltBits, ar (ad 17) cA 8020 gMlostBits, ar (ad 18) cA 20 gMpostWho, ar (ad 19) cA 20 gMpostTime, ar (ad 20) cA 5 gMpicks, ar (ad 21) cA 5 gMbestPicks] s.heap.size = A at hD ⊢
  have hA : ∀ q : Nat, s.heap.size ≤ q → A q := fun q h => by rw [← hAe]; exact Or.inr h
  have hS : va_S A s.heap s.heap [] := va_S.rf
  have hl := lv_entry ([.ref (ad 0), .int a1, .int a2]) (n := 4) (Nat.le_of_ble_eq_true rfl)
  rw [lg_entry_eq]
  generalize (lg_sl ([.ref (ad 0), .int a1, .int a2]) ++ List.replicate (4 - (lg_sl ([.ref (ad 0), .int a1, .int a2])).length) Slot.unset).toArray = ls at hl ⊢
  have hl : lv_has ls 4 [(0, .ref (ad 0)), (1, .int a1), (2, .int a2)] := hl
  refine wk_Q (fun QQ hQ => ?_)
  have hinX10 : ∀ w ∈ wsX100, w ∈ wsX10_doubtOf := fun w h => List.mem_cons_of_mem _ (inlX10 w h)
  have hl_61 := hts (.fieldLink RX10 61 "HandCensusModel" "postWho" "[I") (List.mem_cons_of_mem _ (in_r7 _ (List.mem_of_getElem? (i := 12) rfl)))
  have hl_70 := hts (.fieldLink RX10 70 "HandCensusModel" "bestPicks" "[I") (List.mem_cons_of_mem _ (in_r7 _ (List.mem_of_getElem? (i := 15) rfl)))
  have b_21 : ∀ (v3_21 : Int32) (xM_people_21 : Int32) (xM_posted_21 : Int32) (gMkinds_21 : Nat → Int32) (gMlates_21 : Nat → Int32) (gMscarfs_21 : Nat → Int32) (gMhands_21 : Nat → Int32) (gMrings_21 : Nat → Int32) (gMmains_21 : Nat → Int32) (gMaheadOf_21 : Nat → Int32) (gMlastIn_21 : Nat → Int32) (gMmanyIn_21 : Nat → Int32) (gMcomes_21 : Nat → Int32) (gMbusyTo_21 : Nat → Int32) (gMfeltMany_21 : Nat → Int32) (gMfeltBits_21 : Nat → Int32) (gMlostBits_21 : Nat → Int32) (gMpostWho_21 : Nat → Int32) (gMpostTime_21 : Nat → Int32) (gMpicks_21 : Nat → Int32) (gMbestPicks_21 : Nat → Int32), fM_doubtOf_21 v3_21 xM_people_21 xM_posted_21 gMkinds_21 gMlates_21 gMscarfs_21 gMhands_21 gMrings_21 gMmains_21 gMaheadOf_21 gMlastIn_21 gMmanyIn_21 gMcomes_21 gMbusyTo_21 gMfeltMany_21 gMfeltBits_21 gMlostBits_21 gMpostWho_21 gMpostTime_21 gMpicks_21 gMbestPicks_21 = some u → ∀ (H : Heap) (locs : List Loc), va_P (dC, dI) vwCl [oM ad xM_typed xM_people_21 xM_posted_21 xM_hears xM_censuses xM_finding, ar (ad 1) cA 60 gMtext, ar (ad 2) cA 20 gMkinds_21, ar (ad 3) cA 20 gMlates_21, ar (ad 4) cA 20 gMscarfs_21, ar (ad 5) cA 20 gMhands_21, ar (ad 6) cA 20 gMrings_21, ar (ad 7) cA 20 gMmains_21, ar (ad 8) cA 4 gMaheadOf_21, ar (ad 9) cA 4 gMlastIn_21, ar (ad 10) cA 4 gMmanyIn_21, ar (ad 11) cA 3 gMsetting, ar (ad 12) cA 3 gMlimit, ar (ad 13) cA 8020 gMcomes_21, ar (ad 14) cA 20 gMbusyTo_21, ar (ad 15) cA 20 gMfeltMany_21, ar (ad 16) cA 8020 gMfeltBits_21, ar (ad 17) cA 8020 gMlostBits_21, ar (ad 18) cA 20 gMpostWho_21, ar (ad 19) cA 20 gMpostTime_21, ar (ad 20) cA 5 gMpicks_21, ar (ad 21) cA 5 gMbestPicks_21] H → va_D A [oM ad xM_typed xM_people_21 xM_posted_21 xM_hears xM_censuses xM_finding, ar (ad 1) cA 60 gMtext, ar (ad 2) cA 20 gMkinds_21, ar (ad 3) cA 20 gMlates_21, ar (ad 4) cA 20 gMscarfs_21, ar (ad 5) cA 20 gMhands_21, ar (ad 6) cA 20 gMrings_21, ar (ad 7) cA 20 gMmains_21, ar (ad 8) cA 4 gMaheadOf_21, ar (ad 9) cA 4 gMlastIn_21, ar (ad 10) cA 4 gMmanyIn_21, ar (ad 11) cA 3 gMsetting, ar (ad 12) cA 3 gMlimit, ar (ad 13) cA 8020 gMcomes_21, ar (ad 14) cA 20 gMbusyTo_21, ar (ad 15) cA 20 gMfeltMany_21, ar (ad 16) cA 8020 gMfeltBits_21, ar (ad 17) cA 8020 gMlostBits_21, ar (ad 18) cA 20 gMpostWho_21, ar (ad 19) cA 20 gMpostTime_21, ar (ad 20) cA 5 gMpicks_21, ar (ad 21) cA 5 gMbestPicks_21] → va_S A s.heap H locs → ∀ ls : Array Slot, lv_has ls 4 [(3, .int v3_21)] → W p l e (headSpec wsX10_doubtOf ({ frames := 6, cells := 0, slots := 0, locals := 145 })).room s m ([.ref (ad 0), .int a1, .int a2] : List Value).toArray below meth c H locs 0 0 QQ (F0 m 21 ls []) := by
    intro v3_21 xM_people_21 xM_posted_21 gMkinds_21 gMlates_21 gMscarfs_21 gMhands_21 gMrings_21 gMmains_21 gMaheadOf_21 gMlastIn_21 gMmanyIn_21 gMcomes_21 gMbusyTo_21 gMfeltMany_21 gMfeltBits_21 gMlostBits_21 gMpostWho_21 gMpostTime_21 gMpicks_21 gMbestPicks_21 hm H locs hP hD hS ls hl
    unfold fM_doubtOf_21 at hm
    refine lv_iload_n hx hb dX10_doubtOf_21 rfl (lv_at hl 0 rfl) ?_
    refine lv_goto (tgt := 36) hx hb dX10_doubtOf_22 (by decide) ?_
    obtain rfl := Option.some.inj hm
    subst hQ
    exact W.iret (v := v3_21) hx hb hr (fun t ht hW => ⟨⟨_, (), rfl, rfl, by rw [ht]; exact hP, va_K.moved hW.alike hK, hAe ▸ hD⟩, hS.F ht⟩) hS.2.2 dX10_doubtOf_36
  unfold fM_doubtOf at hm
  refine lv_aload_n hx hb dX10_doubtOf_0 rfl (lv_at hl 0 rfl) ?_
  have hPc := hP.sub (ws' := [oM ad xM_typed xM_people xM_posted xM_hears xM_censuses xM_finding, ar (ad 1) cA 60 gMtext, ar (ad 2) cA 20 gMkinds, ar (ad 3) cA 20 gMlates, ar (ad 4) cA 20 gMscarfs, ar (ad 5) cA 20 gMhands, ar (ad 6) cA 20 gMrings, ar (ad 7) cA 20 gMmains, ar (ad 8) cA 4 gMaheadOf, ar (ad 9) cA 4 gMlastIn, ar (ad 10) cA 4 gMmanyIn, ar (ad 11) cA 3 gMsetting, ar (ad 13) cA 8020 gMcomes, ar (ad 14) cA 20 gMbusyTo, ar (ad 15) cA 20 gMfeltMany, ar (ad 16) cA 8020 gMfeltBits, ar (ad 17) cA 8020 gMlostBits, ar (ad 18) cA 20 gMpostWho, ar (ad 19) cA 20 gMpostTime]) [0, 1, 2, 3, 4, 5, 6, 7, 8, 9, 10, 11, 13, 14, 15, 16, 17, 18, 19] rfl
  have hDc := hD.sub (ws' := [oM ad xM_typed xM_people xM_posted xM_hears xM_censuses xM_finding, ar (ad 1) cA 60 gMtext, ar (ad 2) cA 20 gMkinds, ar (ad 3) cA 20 gMlates, ar (ad 4) cA 20 gMscarfs, ar (ad 5) cA 20 gMhands, ar (ad 6) cA 20 gMrings, ar (ad 7) cA 20 gMmains, ar (ad 8) cA 4 gMaheadOf, ar (ad 9) cA 4 gMlastIn, ar (ad 10) cA 4 gMmanyIn, ar (ad 11) cA 3 gMsetting, ar (ad 13) cA 8020 gMcomes, ar (ad 14) cA 20 gMbusyTo, ar (ad 15) cA 20 gMfeltMany, ar (ad 16) cA 8020 gMfeltBits, ar (ad 17) cA 8020 gMlostBits, ar (ad 18) cA 20 gMpostWho, ar (ad 19) cA 20 gMpostTime]) [0, 1, 2, 3, 4, 5, 6, 7, 8, 9, 10, 11, 13, 14, 15, 16, 17, 18, 19] (by decide) rfl
  have hFc := va_free (wc := [oM ad xM_typed xM_people xM_posted xM_hears xM_censuses xM_finding, ar (ad 1) cA 60 gMtext, ar (ad 2) cA 20 gMkinds, ar (ad 3) cA 20 gMlates, ar (ad 4) cA 20 gMscarfs, ar (ad 5) cA 20 gMhands, ar (ad 6) cA 20 gMrings, ar (ad 7) cA 20 gMmains, ar (ad 8) cA 4 gMaheadOf, ar (ad 9) cA 4 gMlastIn, ar (ad 10) cA 4 gMmanyIn, ar (ad 11) cA 3 gMsetting, ar (ad 13) cA 8020 gMcomes, ar (ad 14) cA 20 gMbusyTo, ar (ad 15) cA 20 gMfeltMany, ar (ad 16) cA 8020 gMfeltBits, ar (ad 17) cA 8020 gMlostBits, ar (ad 18) cA 20 gMpostWho, ar (ad 19) cA 20 gMpostTime]) hD hS hA [0, 1, 2, 3, 4, 5, 6, 7, 8, 9, 10, 11, 13, 14, 15, 16, 17, 18, 19] rfl
  obtain ⟨u_1, hc_1, hm⟩ := bd_ok hm
  refine va_callv (va_runV (As := []) (rest := []) ⟨hx, hb, hml, hown, hts⟩ (kM_laysPosts l dC dI cA cB ad s.heap.size xM_typed xM_people xM_posted xM_hears xM_censuses xM_finding gMtext gMkinds gMlates gMscarfs gMhands gMrings gMmains gMaheadOf gMlastIn gMmanyIn gMsetting gMcomes gMbusyTo gMfeltMany gMfeltBits gMlostBits gMpostWho gMpostTime u_1 hc_1) (cwV 0 hts gX10_doubtOf_X10_laysPosts rfl rfl rfl (by decide +kernel) ⟨Nat.le_of_ble_eq_true rfl, Nat.le_of_ble_eq_true rfl⟩) ⟨fun a U g mk q => by obtain ⟨q0, q1, qP, qK, qD⟩ := q; exact ⟨q0, q1, qP, va_K.moved (u := U) (U := U.calling g mk a) (Vm.Alike.refl U.vm) qK, qD⟩, va_recv hK hPc (ci := 10) (q0 := 0) rfl rfl, fun U hU hW => ⟨rfl, by rw [hU], by rw [hU]; exact hPc, va_K.moved hW.alike hK, hDc.weaken (fun _ _ _ _ => trivial)⟩⟩ rfl rfl hl.1 rfl (lv_room (Nat.le_of_ble_eq_true rfl)) dX10_doubtOf_1 ⟨Nat.le_of_ble_eq_true rfl, Nat.le_of_ble_eq_true rfl⟩) hS (fun q _ h => hFc q h) hFc (fun _ t H1 locs ht hvm hw hB hz1 hk1 hS => ?_)
  obtain ⟨hP1, hK1, hD1⟩ := hB
  rw [ht] at hP1
  obtain ⟨hP, hD⟩ := va_join (wr := [ar (ad 12) cA 3 gMlimit, ar (ad 20) cA 5 gMpicks, ar (ad 21) cA 5 gMbestPicks]) (w1 := [oM ad xM_typed u_1.1 u_1.2.1 xM_hears xM_censuses xM_finding, ar (ad 1) cA 60 gMtext, ar (ad 2) cA 20 u_1.2.2.1, ar (ad 3) cA 20 u_1.2.2.2.1, ar (ad 4) cA 20 u_1.2.2.2.2.1, ar (ad 5) cA 20 u_1.2.2.2.2.2.1, ar (ad 6) cA 20 u_1.2.2.2.2.2.2.1, ar (ad 7) cA 20 u_1.2.2.2.2.2.2.2.1, ar (ad 8) cA 4 u_1.2.2.2.2.2.2.2.2.1, ar (ad 9) cA 4 u_1.2.2.2.2.2.2.2.2.2.1, ar (ad 10) cA 4 u_1.2.2.2.2.2.2.2.2.2.2.1, ar (ad 11) cA 3 gMsetting, ar (ad 13) cA 8020 u_1.2.2.2.2.2.2.2.2.2.2.2.1, ar (ad 14) cA 20 u_1.2.2.2.2.2.2.2.2.2.2.2.2.1, ar (ad 15) cA 20 u_1.2.2.2.2.2.2.2.2.2.2.2.2.2.1, ar (ad 16) cA 8020 u_1.2.2.2.2.2.2.2.2.2.2.2.2.2.2.1, ar (ad 17) cA 8020 u_1.2.2.2.2.2.2.2.2.2.2.2.2.2.2.2.1, ar (ad 18) cA 20 u_1.2.2.2.2.2.2.2.2.2.2.2.2.2.2.2.2.1, ar (ad 19) cA 20 u_1.2.2.2.2.2.2.2.2.2.2.2.2.2.2.2.2.2]) hP hD [0, 1, 2, 3, 4, 5, 6, 7, 8, 9, 10, 11, 13, 14, 15, 16, 17, 18, 19] [12, 20, 21] rfl rfl (by decide) (by decide) hk1 hFc hP1 hD1
  clear hPc hDc hFc hP1 hK1 hD1 hk1 hz1 hvm ht
  generalize H1 = H at hP hS ⊢
  have hP : va_P (dC, dI) vwCl [oM ad xM_typed u_1.1 u_1.2.1 xM_hears xM_censuses xM_finding, ar (ad 1) cA 60 gMtext, ar (ad 2) cA 20 u_1.2.2.1, ar (ad 3) cA 20 u_1.2.2.2.1, ar (ad 4) cA 20 u_1.2.2.2.2.1, ar (ad 5) cA 20 u_1.2.2.2.2.2.1, ar (ad 6) cA 20 u_1.2.2.2.2.2.2.1, ar (ad 7) cA 20 u_1.2.2.2.2.2.2.2.1, ar (ad 8) cA 4 u_1.2.2.2.2.2.2.2.2.1, ar (ad 9) cA 4 u_1.2.2.2.2.2.2.2.2.2.1, ar (ad 10) cA 4 u_1.2.2.2.2.2.2.2.2.2.2.1, ar (ad 11) cA 3 gMsetting, ar (ad 12) cA 3 gMlimit, ar (ad 13) cA 8020 u_1.2.2.2.2.2.2.2.2.2.2.2.1, ar (ad 14) cA 20 u_1.2.2.2.2.2.2.2.2.2.2.2.2.1, ar (ad 15) cA 20 u_1.2.2.2.2.2.2.2.2.2.2.2.2.2.1, ar (ad 16) cA 8020 u_1.2.2.2.2.2.2.2.2.2.2.2.2.2.2.1, ar (ad 17) cA 8020 u_1.2.2.2.2.2.2.2.2.2.2.2.2.2.2.2.1, ar (ad 18) cA 20 u_1.2.2.2.2.2.2.2.2.2.2.2.2.2.2.2.2.1, ar (ad 19) cA 20 u_1.2.2.2.2.2.2.2.2.2.2.2.2.2.2.2.2.2, ar (ad 20) cA 5 gMpicks, ar (ad 21) cA 5 gMbestPicks] H := hP.sub [3, 4, 5, 6, 7, 8, 9, 10, 11, 12, 13, 14, 0, 15, 16, 17, 18, 19, 20, 21, 1, 2] rfl
  have hD : va_D A [oM ad xM_typed u_1.1 u_1.2.1 xM_hears xM_censuses xM_finding, ar (ad 1) cA 60 gMtext, ar (ad 2) cA 20 u_1.2.2.1, ar (ad 3) cA 20 u_1.2.2.2.1, ar (ad 4) cA 20 u_1.2.2.2.2.1, ar (ad 5) cA 20 u_1.2.2.2.2.2.1, ar (ad 6) cA 20 u_1.2.2.2.2.2.2.1, ar (ad 7) cA 20 u_1.2.2.2.2.2.2.2.1, ar (ad 8) cA 4 u_1.2.2.2.2.2.2.2.2.1, ar (ad 9) cA 4 u_1.2.2.2.2.2.2.2.2.2.1, ar (ad 10) cA 4 u_1.2.2.2.2.2.2.2.2.2.2.1, ar (ad 11) cA 3 gMsetting, ar (ad 12) cA 3 gMlimit, ar (ad 13) cA 8020 u_1.2.2.2.2.2.2.2.2.2.2.2.1, ar (ad 14) cA 20 u_1.2.2.2.2.2.2.2.2.2.2.2.2.1, ar (ad 15) cA 20 u_1.2.2.2.2.2.2.2.2.2.2.2.2.2.1, ar (ad 16) cA 8020 u_1.2.2.2.2.2.2.2.2.2.2.2.2.2.2.1, ar (ad 17) cA 8020 u_1.2.2.2.2.2.2.2.2.2.2.2.2.2.2.2.1, ar (ad 18) cA 20 u_1.2.2.2.2.2.2.2.2.2.2.2.2.2.2.2.2.1, ar (ad 19) cA 20 u_1.2.2.2.2.2.2.2.2.2.2.2.2.2.2.2.2.2, ar (ad 20) cA 5 gMpicks, ar (ad 21) cA 5 gMbestPicks] := hD.sub [3, 4, 5, 6, 7, 8, 9, 10, 11, 12, 13, 14, 0, 15, 16, 17, 18, 19, 20, 21, 1, 2] (by decide) rfl
  refine lv_aload_n hx hb dX10_doubtOf_4 rfl (lv_at hl 0 rfl) ?_
  refine lv_iload_n hx hb dX10_doubtOf_5 rfl (lv_at hl 1 rfl) ?_
  have hPc := hP.sub (ws' := [oM ad xM_typed u_1.1 u_1.2.1 xM_hears xM_censuses xM_finding, ar (ad 12) cA 3 gMlimit, ar (ad 19) cA 20 u_1.2.2.2.2.2.2.2.2.2.2.2.2.2.2.2.2.2, ar (ad 20) cA 5 gMpicks, ar (ad 21) cA 5 gMbestPicks]) [0, 12, 19, 20, 21] rfl
  have hDc := hD.sub (ws' := [oM ad xM_typed u_1.1 u_1.2.1 xM_hears xM_censuses xM_finding, ar (ad 12) cA 3 gMlimit, ar (ad 19) cA 20 u_1.2.2.2.2.2.2.2.2.2.2.2.2.2.2.2.2.2, ar (ad 20) cA 5 gMpicks, ar (ad 21) cA 5 gMbestPicks]) [0, 12, 19, 20, 21] (by decide) rfl
  have hFc := va_free (wc := [oM ad xM_typed u_1.1 u_1.2.1 xM_hears xM_censuses xM_finding, ar (ad 12) cA 3 gMlimit, ar (ad 19) cA 20 u_1.2.2.2.2.2.2.2.2.2.2.2.2.2.2.2.2.2, ar (ad 20) cA 5 gMpicks, ar (ad 21) cA 5 gMbestPicks]) hD hS hA [0, 12, 19, 20, 21] rfl
  obtain ⟨u_2, hc_2, hm⟩ := bd_ok hm
  refine va_calli (va_runV (As := [.int a1]) (rest := []) ⟨hx, hb, hml, hown, hts⟩ (kM_doubtBy l dC dI cA cB ad H.size a1 xM_typed u_1.1 u_1.2.1 xM_hears xM_censuses xM_finding gMlimit u_1.2.2.2.2.2.2.2.2.2.2.2.2.2.2.2.2.2 gMpicks gMbestPicks u_2 hc_2) (cwV 1 hts gX10_doubtOf_X10_doubtBy rfl rfl rfl (by decide +kernel) ⟨Nat.le_of_ble_eq_true rfl, Nat.le_of_ble_eq_true rfl⟩) ⟨fun a U g mk q => by obtain ⟨q0, q1, qP, qK, qD⟩ := q; exact ⟨q0, q1, qP, va_K.moved (u := U) (U := U.calling g mk a) (Vm.Alike.refl U.vm) qK, qD⟩, va_recv hK hPc (ci := 10) (q0 := 0) rfl rfl, fun U hU hW => ⟨rfl, by rw [hU], by rw [hU]; exact hPc, va_K.moved hW.alike hK, hDc.weaken (fun _ _ _ _ => trivial)⟩⟩ rfl rfl hl.1 rfl (lv_room (Nat.le_of_ble_eq_true rfl)) dX10_doubtOf_6 ⟨Nat.le_of_ble_eq_true rfl, Nat.le_of_ble_eq_true rfl⟩) hS (fun q _ h => hFc q h) hFc (fun r_2 _ t H1 locs ht hvm hw hB hz1 hk1 hS => ?_)
  obtain ⟨hP1, hK1, hD1⟩ := hB
  rw [ht] at hP1
  obtain ⟨hP, hD⟩ := va_join (wr := [ar (ad 1) cA 60 gMtext, ar (ad 2) cA 20 u_1.2.2.1, ar (ad 3) cA 20 u_1.2.2.2.1, ar (ad 4) cA 20 u_1.2.2.2.2.1, ar (ad 5) cA 20 u_1.2.2.2.2.2.1, ar (ad 6) cA 20 u_1.2.2.2.2.2.2.1, ar (ad 7) cA 20 u_1.2.2.2.2.2.2.2.1, ar (ad 8) cA 4 u_1.2.2.2.2.2.2.2.2.1, ar (ad 9) cA 4 u_1.2.2.2.2.2.2.2.2.2.1, ar (ad 10) cA 4 u_1.2.2.2.2.2.2.2.2.2.2.1, ar (ad 11) cA 3 gMsetting, ar (ad 13) cA 8020 u_1.2.2.2.2.2.2.2.2.2.2.2.1, ar (ad 14) cA 20 u_1.2.2.2.2.2.2.2.2.2.2.2.2.1, ar (ad 15) cA 20 u_1.2.2.2.2.2.2.2.2.2.2.2.2.2.1, ar (ad 16) cA 8020 u_1.2.2.2.2.2.2.2.2.2.2.2.2.2.2.1, ar (ad 17) cA 8020 u_1.2.2.2.2.2.2.2.2.2.2.2.2.2.2.2.1, ar (ad 18) cA 20 u_1.2.2.2.2.2.2.2.2.2.2.2.2.2.2.2.2.1]) (w1 := [oM ad xM_typed u_1.1 u_1.2.1 xM_hears xM_censuses xM_finding, ar (ad 12) cA 3 gMlimit, ar (ad 19) cA 20 u_1.2.2.2.2.2.2.2.2.2.2.2.2.2.2.2.2.2, ar (ad 20) cA 5 u_2.2.1, ar (ad 21) cA 5 u_2.2.2]) hP hD [0, 12, 19, 20, 21] [1, 2, 3, 4, 5, 6, 7, 8, 9, 10, 11, 13, 14, 15, 16, 17, 18] rfl rfl (by decide) (by decide) hk1 hFc hP1 hD1
  clear hPc hDc hFc hP1 hK1 hD1 hk1 hz1 hvm ht
  generalize H1 = H at hP hS ⊢
  have hP : va_P (dC, dI) vwCl [oM ad xM_typed u_1.1 u_1.2.1 xM_hears xM_censuses xM_finding, ar (ad 1) cA 60 gMtext, ar (ad 2) cA 20 u_1.2.2.1, ar (ad 3) cA 20 u_1.2.2.2.1, ar (ad 4) cA 20 u_1.2.2.2.2.1, ar (ad 5) cA 20 u_1.2.2.2.2.2.1, ar (ad 6) cA 20 u_1.2.2.2.2.2.2.1, ar (ad 7) cA 20 u_1.2.2.2.2.2.2.2.1, ar (ad 8) cA 4 u_1.2.2.2.2.2.2.2.2.1, ar (ad 9) cA 4 u_1.2.2.2.2.2.2.2.2.2.1, ar (ad 10) cA 4 u_1.2.2.2.2.2.2.2.2.2.2.1, ar (ad 11) cA 3 gMsetting, ar (ad 12) cA 3 gMlimit, ar (ad 13) cA 8020 u_1.2.2.2.2.2.2.2.2.2.2.2.1, ar (ad 14) cA 20 u_1.2.2.2.2.2.2.2.2.2.2.2.2.1, ar (ad 15) cA 20 u_1.2.2.2.2.2.2.2.2.2.2.2.2.2.1, ar (ad 16) cA 8020 u_1.2.2.2.2.2.2.2.2.2.2.2.2.2.2.1, ar (ad 17) cA 8020 u_1.2.2.2.2.2.2.2.2.2.2.2.2.2.2.2.1, ar (ad 18) cA 20 u_1.2.2.2.2.2.2.2.2.2.2.2.2.2.2.2.2.1, ar (ad 19) cA 20 u_1.2.2.2.2.2.2.2.2.2.2.2.2.2.2.2.2.2, ar (ad 20) cA 5 u_2.2.1, ar (ad 21) cA 5 u_2.2.2] H := hP.sub [17, 0, 1, 2, 3, 4, 5, 6, 7, 8, 9, 10, 18, 11, 12, 13, 14, 15, 16, 19, 20, 21] rfl
  have hD : va_D A [oM ad xM_typed u_1.1 u_1.2.1 xM_hears xM_censuses xM_finding, ar (ad 1) cA 60 gMtext, ar (ad 2) cA 20 u_1.2.2.1, ar (ad 3) cA 20 u_1.2.2.2.1, ar (ad 4) cA 20 u_1.2.2.2.2.1, ar (ad 5) cA 20 u_1.2.2.2.2.2.1, ar (ad 6) cA 20 u_1.2.2.2.2.2.2.1, ar (ad 7) cA 20 u_1.2.2.2.2.2.2.2.1, ar (ad 8) cA 4 u_1.2.2.2.2.2.2.2.2.1, ar (ad 9) cA 4 u_1.2.2.2.2.2.2.2.2.2.1, ar (ad 10) cA 4 u_1.2.2.2.2.2.2.2.2.2.2.1, ar (ad 11) cA 3 gMsetting, ar (ad 12) cA 3 gMlimit, ar (ad 13) cA 8020 u_1.2.2.2.2.2.2.2.2.2.2.2.1, ar (ad 14) cA 20 u_1.2.2.2.2.2.2.2.2.2.2.2.2.1, ar (ad 15) cA 20 u_1.2.2.2.2.2.2.2.2.2.2.2.2.2.1, ar (ad 16) cA 8020 u_1.2.2.2.2.2.2.2.2.2.2.2.2.2.2.1, ar (ad 17) cA 8020 u_1.2.2.2.2.2.2.2.2.2.2.2.2.2.2.2.1, ar (ad 18) cA 20 u_1.2.2.2.2.2.2.2.2.2.2.2.2.2.2.2.2.1, ar (ad 19) cA 20 u_1.2.2.2.2.2.2.2.2.2.2.2.2.2.2.2.2.2, ar (ad 20) cA 5 u_2.2.1, ar (ad 21) cA 5 u_2.2.2] := hD.sub [17, 0, 1, 2, 3, 4, 5, 6, 7, 8, 9, 10, 18, 11, 12, 13, 14, 15, 16, 19, 20, 21] (by decide) rfl
  have hw := hw.symm
  subst hw
  refine lv_istore_n (lv' := [(3, .int u_2.1), (0, .ref (ad 0)), (1, .int a1), (2, .int a2)]) hx hb dX10_doubtOf_9 rfl hl (by decide) rfl (fun ls hl => ?_)
  refine lv_iload_n hx hb dX10_doubtOf_10 rfl (lv_at hl 0 rfl) ?_
  refine lv_bipush (v := (-3)) hx hb dX10_doubtOf_11 (by decide) ?_
  refine lv_icmp_eq (tgt := 21) hx hb dX10_doubtOf_13 (by decide) (fun c_3 => ?_) (fun c_3 => ?_)
  · have hm := it_pos c_3 hm
    exact b_21 _ _ _ _ _ _ _ _ _ _ _ _ _ _ _ _ _ _ _ _ _ hm _ _ hP hD hS _ (lv_sub hl [0] rfl)
  · have hm := it_neg c_3 hm
    refine lv_iload_n hx hb dX10_doubtOf_16 rfl (lv_at hl 3 rfl) ?_
    refine lv_iconst (v := (-1)) hx hb dX10_doubtOf_17 (by decide) ?_
    refine lv_icmp_ne (tgt := 25) hx hb dX10_doubtOf_18 (by decide) (fun c_4 => ?_) (fun c_4 => ?_)
    · have hm := it_neg c_4 hm
      refine lv_aload_n hx hb dX10_doubtOf_25 rfl (lv_at hl 1 rfl) ?_
      refine va_get (D := (dC, dI)) (ci := 10) (v := .ref (ad 18)) (C := RX10) (T := TX10) (N := 37) hx hb hts hinX10 hown hK hP 0 rfl rfl 20 (by decide) hl_61 (fun _ h9 => h9) rfl dX10_doubtOf_26 ?_
      refine lv_aload_n hx hb dX10_doubtOf_29 rfl (lv_at hl 1 rfl) ?_
      refine va_get (D := (dC, dI)) (ci := 10) (v := .ref (ad 21)) (C := RX10) (T := TX10) (N := 37) hx hb hts hinX10 hown hK hP 0 rfl rfl 23 (by decide) hl_70 (fun _ h9 => h9) rfl dX10_doubtOf_30 ?_
      refine lv_iload_n hx hb dX10_doubtOf_33 rfl (lv_at hl 3 rfl) ?_
      obtain ⟨i_5, hm⟩ := ck_ok hm
      refine va_iald hx hb hK hP 21 0 rfl rfl i_5 dX10_doubtOf_34 ?_
      obtain ⟨i_6, hm⟩ := ck_ok hm
      refine va_iald hx hb hK hP 18 0 rfl rfl i_6 dX10_doubtOf_35 ?_
      obtain rfl := Option.some.inj hm
      subst hQ
      exact W.iret (v := (u_1.2.2.2.2.2.2.2.2.2.2.2.2.2.2.2.2.1 (u_2.2.2 a2.toNatClampNeg).toNatClampNeg)) hx hb hr (fun t ht hW => ⟨⟨_, (), rfl, rfl, by rw [ht]; exact hP, va_K.moved hW.alike hK, hAe ▸ hD⟩, hS.F ht⟩) hS.2.2 dX10_doubtOf_36
    · have hm := it_pos c_4 hm
      exact b_21 _ _ _ _ _ _ _ _ _ _ _ _ _ _ _ _ _ _ _ _ _ hm _ _ hP hD hS _ (lv_sub hl [0] rfl)

set_option maxHeartbeats 4000000 in
set_option maxRecDepth 100000 in
theorem kM_doubt (l : Launch) (dC : Nat → ClassId) (dI : Nat → Nat → Nat) (cA : ClassId) (cB : ClassId) (ad : Nat → Nat) (sz : Nat) (a1 : Int32) (a2 : Int32) (xM_typed : Int32) (xM_people : Int32) (xM_posted : Int32) (xM_hears : Int32) (xM_censuses : Int32) (xM_finding : Int32) (gMtext : Nat → Int32) (gMkinds : Nat → Int32) (gMlates : Nat → Int32) (gMscarfs : Nat → Int32) (gMhands : Nat → Int32) (gMrings : Nat → Int32) (gMmains : Nat → Int32) (gMaheadOf : Nat → Int32) (gMlastIn : Nat → Int32) (gMmanyIn : Nat → Int32) (gMsetting : Nat → Int32) (gMlimit : Nat → Int32) (gMcomes : Nat → Int32) (gMbusyTo : Nat → Int32) (gMfeltMany : Nat → Int32) (gMfeltBits : Nat → Int32) (gMlostBits : Nat → Int32) (gMpostWho : Nat → Int32) (gMpostTime : Nat → Int32) (gMpicks : Nat → Int32) (gMbestPicks : Nat → Int32) (u : Int32 × Int32 × Int32 × (Nat → Int32) × (Nat → Int32) × (Nat → Int32) × (Nat → Int32) × (Nat → Int32) × (Nat → Int32) × (Nat → Int32) × (Nat → Int32) × (Nat → Int32) × (Nat → Int32) × (Nat → Int32) × (Nat → Int32) × (Nat → Int32) × (Nat → Int32) × (Nat → Int32) × (Nat → Int32) × (Nat → Int32) × (Nat → Int32)) (hm : fM_doubt a1 a2 xM_typed xM_people xM_posted gMtext gMkinds gMlates gMscarfs gMhands gMrings gMmains gMaheadOf gMlastIn gMmanyIn gMsetting gMlimit gMcomes gMbusyTo gMfeltMany gMfeltBits gMlostBits gMpostWho gMpostTime gMpicks gMbestPicks = some u) : Met l yX10_doubt wsX10_doubt ({ frames := 7, cells := 0, slots := 0, locals := 168 }) (va_Pc [.ref (ad 0), .int a1, .int a2] (fun U => U.heap.size = sz ∧ va_P (dC, dI) vwCl [oM ad xM_typed xM_people xM_posted xM_hears xM_censuses xM_finding, ar (ad 1) cA 60 gMtext, ar (ad 2) cA 20 gMkinds, ar (ad 3) cA 20 gMlates, ar (ad 4) cA 20 gMscarfs, ar (ad 5) cA 20 gMhands, ar (ad 6) cA 20 gMrings, ar (ad 7) cA 20 gMmains, ar (ad 8) cA 4 gMaheadOf, ar (ad 9) cA 4 gMlastIn, ar (ad 10) cA 4 gMmanyIn, ar (ad 11) cA 3 gMsetting, ar (ad 12) cA 3 gMlimit, ar (ad 13) cA 8020 gMcomes, ar (ad 14) cA 20 gMbusyTo, ar (ad 15) cA 20 gMfeltMany, ar (ad 16) cA 8020 gMfeltBits, ar (ad 17) cA 8020 gMlostBits, ar (ad 18) cA 20 gMpostWho, ar (ad 19) cA 20 gMpostTime, ar (ad 20) cA 5 gMpicks, ar (ad 21) cA 5 gMbestPicks] U.heap ∧ va_K (dC, dI) vwCl [(cA, .int), (cB, .boolean)] U ∧ va_D (fun _ => True) [oM ad xM_typed xM_people xM_posted xM_hears xM_censuses xM_finding, ar (ad 1) cA 60 gMtext, ar (ad 2) cA 20 gMkinds, ar (ad 3) cA 20 gMlates, ar (ad 4) cA 20 gMscarfs, ar (ad 5) cA 20 gMhands, ar (ad 6) cA 20 gMrings, ar (ad 7) cA 20 gMmains, ar (ad 8) cA 4 gMaheadOf, ar (ad 9) cA 4 gMlastIn, ar (ad 10) cA 4 gMmanyIn, ar (ad 11) cA 3 gMsetting, ar (ad 12) cA 3 gMlimit, ar (ad 13) cA 8020 gMcomes, ar (ad 14) cA 20 gMbusyTo, ar (ad 15) cA 20 gMfeltMany, ar (ad 16) cA 8020 gMfeltBits, ar (ad 17) cA 8020 gMlostBits, ar (ad 18) cA 20 gMpostWho, ar (ad 19) cA 20 gMpostTime, ar (ad 20) cA 5 gMpicks, ar (ad 21) cA 5 gMbestPicks])) (va_Qi (fun (r : Int32) (_ : Unit) => r = u.1) (fun (_ : Unit) t => va_P (dC, dI) vwCl [oM ad xM_typed u.2.1 u.2.2.1 xM_hears xM_censuses xM_finding, ar (ad 1) cA 60 gMtext, ar (ad 2) cA 20 u.2.2.2.1, ar (ad 3) cA 20 u.2.2.2.2.1, ar (ad 4) cA 20 u.2.2.2.2.2.1, ar (ad 5) cA 20 u.2.2.2.2.2.2.1, ar (ad 6) cA 20 u.2.2.2.2.2.2.2.1, ar (ad 7) cA 20 u.2.2.2.2.2.2.2.2.1, ar (ad 8) cA 4 u.2.2.2.2.2.2.2.2.2.1, ar (ad 9) cA 4 u.2.2.2.2.2.2.2.2.2.2.1, ar (ad 10) cA 4 u.2.2.2.2.2.2.2.2.2.2.2.1, ar (ad 11) cA 3 gMsetting, ar (ad 12) cA 3 gMlimit, ar (ad 13) cA 8020 u.2.2.2.2.2.2.2.2.2.2.2.2.1, ar (ad 14) cA 20 u.2.2.2.2.2.2.2.2.2.2.2.2.2.1, ar (ad 15) cA 20 u.2.2.2.2.2.2.2.2.2.2.2.2.2.2.1, ar (ad 16) cA 8020 u.2.2.2.2.2.2.2.2.2.2.2.2.2.2.2.1, ar (ad 17) cA 8020 u.2.2.2.2.2.2.2.2.2.2.2.2.2.2.2.2.1, ar (ad 18) cA 20 u.2.2.2.2.2.2.2.2.2.2.2.2.2.2.2.2.2.1, ar (ad 19) cA 20 u.2.2.2.2.2.2.2.2.2.2.2.2.2.2.2.2.2.2.1, ar (ad 20) cA 5 u.2.2.2.2.2.2.2.2.2.2.2.2.2.2.2.2.2.2.2.1, ar (ad 21) cA 5 u.2.2.2.2.2.2.2.2.2.2.2.2.2.2.2.2.2.2.2.2] t.heap ∧ va_K (dC, dI) vwCl [(cA, .int), (cB, .boolean)] t ∧ va_D (va_A [oM ad xM_typed xM_people xM_posted xM_hears xM_censuses xM_finding, ar (ad 1) cA 60 gMtext, ar (ad 2) cA 20 gMkinds, ar (ad 3) cA 20 gMlates, ar (ad 4) cA 20 gMscarfs, ar (ad 5) cA 20 gMhands, ar (ad 6) cA 20 gMrings, ar (ad 7) cA 20 gMmains, ar (ad 8) cA 4 gMaheadOf, ar (ad 9) cA 4 gMlastIn, ar (ad 10) cA 4 gMmanyIn, ar (ad 11) cA 3 gMsetting, ar (ad 12) cA 3 gMlimit, ar (ad 13) cA 8020 gMcomes, ar (ad 14) cA 20 gMbusyTo, ar (ad 15) cA 20 gMfeltMany, ar (ad 16) cA 8020 gMfeltBits, ar (ad 17) cA 8020 gMlostBits, ar (ad 18) cA 20 gMpostWho, ar (ad 19) cA 20 gMpostTime, ar (ad 20) cA 5 gMpicks, ar (ad 21) cA 5 gMbestPicks] sz) [oM ad xM_typed u.2.1 u.2.2.1 xM_hears xM_censuses xM_finding, ar (ad 1) cA 60 gMtext, ar (ad 2) cA 20 u.2.2.2.1, ar (ad 3) cA 20 u.2.2.2.2.1, ar (ad 4) cA 20 u.2.2.2.2.2.1, ar (ad 5) cA 20 u.2.2.2.2.2.2.1, ar (ad 6) cA 20 u.2.2.2.2.2.2.2.1, ar (ad 7) cA 20 u.2.2.2.2.2.2.2.2.1, ar (ad 8) cA 4 u.2.2.2.2.2.2.2.2.2.1, ar (ad 9) cA 4 u.2.2.2.2.2.2.2.2.2.2.1, ar (ad 10) cA 4 u.2.2.2.2.2.2.2.2.2.2.2.1, ar (ad 11) cA 3 gMsetting, ar (ad 12) cA 3 gMlimit, ar (ad 13) cA 8020 u.2.2.2.2.2.2.2.2.2.2.2.2.1, ar (ad 14) cA 20 u.2.2.2.2.2.2.2.2.2.2.2.2.2.1, ar (ad 15) cA 20 u.2.2.2.2.2.2.2.2.2.2.2.2.2.2.1, ar (ad 16) cA 8020 u.2.2.2.2.2.2.2.2.2.2.2.2.2.2.2.1, ar (ad 17) cA 8020 u.2.2.2.2.2.2.2.2.2.2.2.2.2.2.2.2.1, ar (ad 18) cA 20 u.2.2.2.2.2.2.2.2.2.2.2.2.2.2.2.2.2.1, ar (ad 19) cA 20 u.2.2.2.2.2.2.2.2.2.2.2.2.2.2.2.2.2.2.1, ar (ad 20) cA 5 u.2.2.2.2.2.2.2.2.2.2.2.2.2.2.2.2.2.2.2.1, ar (ad 21) cA 5 u.2.2.2.2.2.2.2.2.2.2.2.2.2.2.2.2.2.2.2.2]) (va_A [oM ad xM_typed xM_people xM_posted xM_hears xM_censuses xM_finding, ar (ad 1) cA 60 gMtext, ar (ad 2) cA 20 gMkinds, ar (ad 3) cA 20 gMlates, ar (ad 4) cA 20 gMscarfs, ar (ad 5) cA 20 gMhands, ar (ad 6) cA 20 gMrings, ar (ad 7) cA 20 gMmains, ar (ad 8) cA 4 gMaheadOf, ar (ad 9) cA 4 gMlastIn, ar (ad 10) cA 4 gMmanyIn, ar (ad 11) cA 3 gMsetting, ar (ad 12) cA 3 gMlimit, ar (ad 13) cA 8020 gMcomes, ar (ad 14) cA 20 gMbusyTo, ar (ad 15) cA 20 gMfeltMany, ar (ad 16) cA 8020 gMfeltBits, ar (ad 17) cA 8020 gMlostBits, ar (ad 18) cA 20 gMpostWho, ar (ad 19) cA 20 gMpostTime, ar (ad 20) cA 5 gMpicks, ar (ad 21) cA 5 gMbestPicks] sz)) 0 0 (va_A [oM ad xM_typed xM_people xM_posted xM_hears xM_censuses xM_finding, ar (ad 1) cA 60 gMtext, ar (ad 2) cA 20 gMkinds, ar (ad 3) cA 20 gMlates, ar (ad 4) cA 20 gMscarfs, ar (ad 5) cA 20 gMhands, ar (ad 6) cA 20 gMrings, ar (ad 7) cA 20 gMmains, ar (ad 8) cA 4 gMaheadOf, ar (ad 9) cA 4 gMlastIn, ar (ad 10) cA 4 gMmanyIn, ar (ad 11) cA 3 gMsetting, ar (ad 12) cA 3 gMlimit, ar (ad 13) cA 8020 gMcomes, ar (ad 14) cA 20 gMbusyTo, ar (ad 15) cA 20 gMfeltMany, ar (ad 16) cA 8020 gMfeltBits, ar (ad 17) cA 8020 gMlostBits, ar (ad 18) cA 20 gMpostWho, ar (ad 19) cA 20 gMpostTime, ar (ad 20) cA 5 gMpicks, ar (ad 21) cA 5 gMbestPicks] sz) := by
  refine Met.ofW (cc := cX10_doubt) (maxL := 3) (ret := (some .int)) (by decide) rfl ?_
  intro p e s m args below meth c s₁ B hml hv
  obtain ⟨rfl, hsz, hP, hK, hD0⟩ := hv
  have hx := B.exec
  have hb := B.bytes
  have hr := B.returns
  have hts := atoms_spec (ws := wsX10_doubt) B.pre
  have hown : s.vm.findClass RX10 = some m.cls := findClass_of_methodNamed B.named
  have hlocks := B.notSynchronized
  subst hsz
  have hD := hD0.self (sz := s.heap.size)
  generalize hAe : va_A [oM ad xM_typed xM_people xM_posted xM_hears xM_censuses xM_finding, ar (ad 1) cA 60 gMtext, ar (ad 2) cA 20 gMkinds, ar (ad 3) cA 20 gMlates, ar (ad 4) cA 20 gMscarfs, ar (ad 5) cA 20 gMhands, ar (ad 6) cA 20 gMrings, ar (ad 7) cA 20 gMmains, ar (ad 8) cA 4 gMaheadOf, ar (ad 9) cA 4 gMlastIn, ar (ad 10) cA 4 gMmanyIn, ar (ad 11) cA 3 gMsetting, ar (ad 12) cA 3 gMlimit, ar (ad 13) cA 8020 gMcomes, ar (ad 14) cA 20 gMbusyTo, ar (ad 15) cA 20 gMfeltMany, ar (ad 16) cA 8020 gMfeltBits, ar (ad 17) cA 8020 gMlostBits, ar (ad 18) cA 20 gMpostWho, ar (ad 19) cA 20 gMpostTime, ar (ad 20) cA 5 gMpicks, ar (ad 21) cA 5 gMbestPicks] s.heap.size = A at hD ⊢
  have hA : ∀ q : Nat, s.heap.size ≤ q → A q := fun q h => by rw [← hAe]; exact Or.inr h
  have hS : va_S A s.heap s.heap [] := va_S.rf
  have hl := lv_entry ([.ref (ad 0), .int a1, .int a2]) (n := 3) (Nat.le_of_ble_eq_true rfl)
  rw [lg_entry_eq]
  generalize (lg_sl ([.ref (ad 0), .int a1, .int a2]) ++ List.replicate (3 - (lg_sl ([.ref (ad 0), .int a1, .int a2])).length) Slot.unset).toArray = ls at hl ⊢
  have hl : lv_has ls 3 [(0, .ref (ad 0)), (1, .int a1), (2, .int a2)] := hl
  refine wk_Q (fun QQ hQ => ?_)
  unfold fM_doubt at hm
  refine lv_iload_n hx hb dX10_doubt_0 rfl (lv_at hl 1 rfl) ?_
  refine lv_iconst (v := 0) hx hb dX10_doubt_1 (by decide) ?_
  refine lv_iconst (v := 5) hx hb dX10_doubt_2 (by decide) ?_
  have hPc := hP.sub (ws' := []) [] rfl
  have hDc := hD.sub (ws' := []) [] (by decide) rfl
  have hFc := va_free (wc := []) hD hS hA [] rfl
  obtain ⟨u_1, hc_1, hm⟩ := bd_ok hm
  refine va_calli (va_runS (As := [.int a1, .int 0, .int 5]) (rest := []) ⟨hx, hb, hml, hown, hts⟩ (kM_in l dC dI cA cB ad s.heap.size a1 0 5 u_1 hc_1) (va_cwS 3 hts gX10_doubt_X10_in rfl rfl rfl (by decide +kernel) ⟨Nat.le_of_ble_eq_true rfl, Nat.le_of_ble_eq_true rfl⟩) ⟨fun a U g mk q => by obtain ⟨q0, q1, qP, qK, qD⟩ := q; exact ⟨q0, q1, qP, va_K.moved (u := U) (U := U.calling g mk a) (Vm.Alike.refl U.vm) qK, qD⟩, fun U hU hW => ⟨rfl, by rw [hU], by rw [hU]; exact hPc, va_K.moved hW.alike hK, hDc.weaken (fun _ _ _ _ => trivial)⟩⟩ rfl rfl hl.1 rfl (lv_room (Nat.le_of_ble_eq_true rfl)) dX10_doubt_3 ⟨Nat.le_of_ble_eq_true rfl, Nat.le_of_ble_eq_true rfl⟩) hS (fun q _ h => hFc q h) hFc (fun r_1 _ t H1 locs ht hvm hw hB hz1 hk1 hS => ?_)
  obtain ⟨hP1, hK1, hD1⟩ := hB
  rw [ht] at hP1
  obtain ⟨hP, hD⟩ := va_join (wr := [oM ad xM_typed xM_people xM_posted xM_hears xM_censuses xM_finding, ar (ad 1) cA 60 gMtext, ar (ad 2) cA 20 gMkinds, ar (ad 3) cA 20 gMlates, ar (ad 4) cA 20 gMscarfs, ar (ad 5) cA 20 gMhands, ar (ad 6) cA 20 gMrings, ar (ad 7) cA 20 gMmains, ar (ad 8) cA 4 gMaheadOf, ar (ad 9) cA 4 gMlastIn, ar (ad 10) cA 4 gMmanyIn, ar (ad 11) cA 3 gMsetting, ar (ad 12) cA 3 gMlimit, ar (ad 13) cA 8020 gMcomes, ar (ad 14) cA 20 gMbusyTo, ar (ad 15) cA 20 gMfeltMany, ar (ad 16) cA 8020 gMfeltBits, ar (ad 17) cA 8020 gMlostBits, ar (ad 18) cA 20 gMpostWho, ar (ad 19) cA 20 gMpostTime, ar (ad 20) cA 5 gMpicks, ar (ad 21) cA 5 gMbestPicks]) (w1 := []) hP hD [] [0, 1, 2, 3, 4, 5, 6, 7, 8, 9, 10, 11, 12, 13, 14, 15, 16, 17, 18, 19, 20, 21] rfl rfl (by decide) (by decide) hk1 hFc hP1 hD1
  clear hPc hDc hFc hP1 hK1 hD1 hk1 hz1 hvm ht
  generalize H1 = H at hP hS ⊢
  have hP : va_P (dC, dI) vwCl [oM ad xM_typed xM_people xM_posted xM_hears xM_censuses xM_finding, ar (ad 1) cA 60 gMtext, ar (ad 2) cA 20 gMkinds, ar (ad 3) cA 20 gMlates, ar (ad 4) cA 20 gMscarfs, ar (ad 5) cA 20 gMhands, ar (ad 6) cA 20 gMrings, ar (ad 7) cA 20 gMmains, ar (ad 8) cA 4 gMaheadOf, ar (ad 9) cA 4 gMlastIn, ar (ad 10) cA 4 gMmanyIn, ar (ad 11) cA 3 gMsetting, ar (ad 12) cA 3 gMlimit, ar (ad 13) cA 8020 gMcomes, ar (ad 14) cA 20 gMbusyTo, ar (ad 15) cA 20 gMfeltMany, ar (ad 16) cA 8020 gMfeltBits, ar (ad 17) cA 8020 gMlostBits, ar (ad 18) cA 20 gMpostWho, ar (ad 19) cA 20 gMpostTime, ar (ad 20) cA 5 gMpicks, ar (ad 21) cA 5 gMbestPicks] H := hP
  have hD : va_D A [oM ad xM_typed xM_people xM_posted xM_hears xM_censuses xM_finding, ar (ad 1) cA 60 gMtext, ar (ad 2) cA 20 gMkinds, ar (ad 3) cA 20 gMlates, ar (ad 4) cA 20 gMscarfs, ar (ad 5) cA 20 gMhands, ar (ad 6) cA 20 gMrings, ar (ad 7) cA 20 gMmains, ar (ad 8) cA 4 gMaheadOf, ar (ad 9) cA 4 gMlastIn, ar (ad 10) cA 4 gMmanyIn, ar (ad 11) cA 3 gMsetting, ar (ad 12) cA 3 gMlimit, ar (ad 13) cA 8020 gMcomes, ar (ad 14) cA 20 gMbusyTo, ar (ad 15) cA 20 gMfeltMany, ar (ad 16) cA 8020 gMfeltBits, ar (ad 17) cA 8020 gMlostBits, ar (ad 18) cA 20 gMpostWho, ar (ad 19) cA 20 gMpostTime, ar (ad 20) cA 5 gMpicks, ar (ad 21) cA 5 gMbestPicks] := hD
  have hw := hw.symm
  subst hw
  refine lv_if_eq (tgt := 29) hx hb dX10_doubt_6 (by decide) (fun c_2 => ?_) (fun c_2 => ?_)
  · have hm := it_pos c_2 hm
    refine lv_bipush (v := (-2)) hx hb dX10_doubt_29 (by decide) ?_
    obtain rfl := Option.some.inj hm
    subst hQ
    exact W.iret (v := (-2)) hx hb hr (fun t ht hW => ⟨⟨_, (), rfl, rfl, by rw [ht]; exact hP, va_K.moved hW.alike hK, hAe ▸ hD⟩, hS.F ht⟩) hS.2.2 dX10_doubt_31
  · have hm := it_neg c_2 hm
    refine lv_iload_n hx hb dX10_doubt_9 rfl (lv_at hl 2 rfl) ?_
    refine lv_iconst (v := (-1)) hx hb dX10_doubt_10 (by decide) ?_
    refine lv_iload_n hx hb dX10_doubt_11 rfl (lv_at hl 1 rfl) ?_
    refine lv_iconst (v := 1) hx hb dX10_doubt_12 (by decide) ?_
    refine lv_isub hx hb dX10_doubt_13 ?_
    have hPc := hP.sub (ws' := []) [] rfl
    have hDc := hD.sub (ws' := []) [] (by decide) rfl
    have hFc := va_free (wc := []) hD hS hA [] rfl
    obtain ⟨u_3, hc_3, hm⟩ := bd_ok hm
    refine va_calli (va_runS (As := [.int a2, .int (-1), .int (a1 - 1)]) (rest := []) ⟨hx, hb, hml, hown, hts⟩ (kM_in l dC dI cA cB ad H.size a2 (-1) (a1 - 1) u_3 hc_3) (va_cwS 3 hts gX10_doubt_X10_in rfl rfl rfl (by decide +kernel) ⟨Nat.le_of_ble_eq_true rfl, Nat.le_of_ble_eq_true rfl⟩) ⟨fun a U g mk q => by obtain ⟨q0, q1, qP, qK, qD⟩ := q; exact ⟨q0, q1, qP, va_K.moved (u := U) (U := U.calling g mk a) (Vm.Alike.refl U.vm) qK, qD⟩, fun U hU hW => ⟨rfl, by rw [hU], by rw [hU]; exact hPc, va_K.moved hW.alike hK, hDc.weaken (fun _ _ _ _ => trivial)⟩⟩ rfl rfl hl.1 rfl (lv_room (Nat.le_of_ble_eq_true rfl)) dX10_doubt_14 ⟨Nat.le_of_ble_eq_true rfl, Nat.le_of_ble_eq_true rfl⟩) hS (fun q _ h => hFc q h) hFc (fun r_3 _ t H1 locs ht hvm hw hB hz1 hk1 hS => ?_)
    obtain ⟨hP1, hK1, hD1⟩ := hB
    rw [ht] at hP1
    obtain ⟨hP, hD⟩ := va_join (wr := [oM ad xM_typed xM_people xM_posted xM_hears xM_censuses xM_finding, ar (ad 1) cA 60 gMtext, ar (ad 2) cA 20 gMkinds, ar (ad 3) cA 20 gMlates, ar (ad 4) cA 20 gMscarfs, ar (ad 5) cA 20 gMhands, ar (ad 6) cA 20 gMrings, ar (ad 7) cA 20 gMmains, ar (ad 8) cA 4 gMaheadOf, ar (ad 9) cA 4 gMlastIn, ar (ad 10) cA 4 gMmanyIn, ar (ad 11) cA 3 gMsetting, ar (ad 12) cA 3 gMlimit, ar (ad 13) cA 8020 gMcomes, ar (ad 14) cA 20 gMbusyTo, ar (ad 15) cA 20 gMfeltMany, ar (ad 16) cA 8020 gMfeltBits, ar (ad 17) cA 8020 gMlostBits, ar (ad 18) cA 20 gMpostWho, ar (ad 19) cA 20 gMpostTime, ar (ad 20) cA 5 gMpicks, ar (ad 21) cA 5 gMbestPicks]) (w1 := []) hP hD [] [0, 1, 2, 3, 4, 5, 6, 7, 8, 9, 10, 11, 12, 13, 14, 15, 16, 17, 18, 19, 20, 21] rfl rfl (by decide) (by decide) hk1 hFc hP1 hD1
    clear hPc hDc hFc hP1 hK1 hD1 hk1 hz1 hvm ht
    generalize H1 = H at hP hS ⊢
    have hP : va_P (dC, dI) vwCl [oM ad xM_typed xM_people xM_posted xM_hears xM_censuses xM_finding, ar (ad 1) cA 60 gMtext, ar (ad 2) cA 20 gMkinds, ar (ad 3) cA 20 gMlates, ar (ad 4) cA 20 gMscarfs, ar (ad 5) cA 20 gMhands, ar (ad 6) cA 20 gMrings, ar (ad 7) cA 20 gMmains, ar (ad 8) cA 4 gMaheadOf, ar (ad 9) cA 4 gMlastIn, ar (ad 10) cA 4 gMmanyIn, ar (ad 11) cA 3 gMsetting, ar (ad 12) cA 3 gMlimit, ar (ad 13) cA 8020 gMcomes, ar (ad 14) cA 20 gMbusyTo, ar (ad 15) cA 20 gMfeltMany, ar (ad 16) cA 8020 gMfeltBits, ar (ad 17) cA 8020 gMlostBits, ar (ad 18) cA 20 gMpostWho, ar (ad 19) cA 20 gMpostTime, ar (ad 20) cA 5 gMpicks, ar (ad 21) cA 5 gMbestPicks] H := hP
    have hD : va_D A [oM ad xM_typed xM_people xM_posted xM_hears xM_censuses xM_finding, ar (ad 1) cA 60 gMtext, ar (ad 2) cA 20 gMkinds, ar (ad 3) cA 20 gMlates, ar (ad 4) cA 20 gMscarfs, ar (ad 5) cA 20 gMhands, ar (ad 6) cA 20 gMrings, ar (ad 7) cA 20 gMmains, ar (ad 8) cA 4 gMaheadOf, ar (ad 9) cA 4 gMlastIn, ar (ad 10) cA 4 gMmanyIn, ar (ad 11) cA 3 gMsetting, ar (ad 12) cA 3 gMlimit, ar (ad 13) cA 8020 gMcomes, ar (ad 14) cA 20 gMbusyTo, ar (ad 15) cA 20 gMfeltMany, ar (ad 16) cA 8020 gMfeltBits, ar (ad 17) cA 8020 gMlostBits, ar (ad 18) cA 20 gMpostWho, ar (ad 19) cA 20 gMpostTime, ar (ad 20) cA 5 gMpicks, ar (ad 21) cA 5 gMbestPicks] := hD
    have hw := hw.symm
    subst hw
    refine lv_if_eq (tgt := 29) hx hb dX10_doubt_17 (by decide) (fun c_4 => ?_) (fun c_4 => ?_)
    · have hm := it_pos c_4 hm
      refine lv_bipush (v := (-2)) hx hb dX10_doubt_29 (by decide) ?_
      obtain rfl := Option.some.inj hm
      subst hQ
      exact W.iret (v := (-2)) hx hb hr (fun t ht hW => ⟨⟨_, (), rfl, rfl, by rw [ht]; exact hP, va_K.moved hW.alike hK, hAe ▸ hD⟩, hS.F ht⟩) hS.2.2 dX10_doubt_31
    · have hm := it_neg c_4 hm
      refine lv_aload_n hx hb dX10_doubt_20 rfl (lv_at hl 0 rfl) ?_
      refine lv_iload_n hx hb dX10_doubt_21 rfl (lv_at hl 1 rfl) ?_
      refine lv_iload_n hx hb dX10_doubt_22 rfl (lv_at hl 2 rfl) ?_
      have hPc := hP.sub (ws' := [oM ad xM_typed xM_people xM_posted xM_hears xM_censuses xM_finding, ar (ad 1) cA 60 gMtext, ar (ad 2) cA 20 gMkinds, ar (ad 3) cA 20 gMlates, ar (ad 4) cA 20 gMscarfs, ar (ad 5) cA 20 gMhands, ar (ad 6) cA 20 gMrings, ar (ad 7) cA 20 gMmains, ar (ad 8) cA 4 gMaheadOf, ar (ad 9) cA 4 gMlastIn, ar (ad 10) cA 4 gMmanyIn, ar (ad 11) cA 3 gMsetting, ar (ad 12) cA 3 gMlimit, ar (ad 13) cA 8020 gMcomes, ar (ad 14) cA 20 gMbusyTo, ar (ad 15) cA 20 gMfeltMany, ar (ad 16) cA 8020 gMfeltBits, ar (ad 17) cA 8020 gMlostBits, ar (ad 18) cA 20 gMpostWho, ar (ad 19) cA 20 gMpostTime, ar (ad 20) cA 5 gMpicks, ar (ad 21) cA 5 gMbestPicks]) [0, 1, 2, 3, 4, 5, 6, 7, 8, 9, 10, 11, 12, 13, 14, 15, 16, 17, 18, 19, 20, 21] rfl
      have hDc := hD.sub (ws' := [oM ad xM_typed xM_people xM_posted xM_hears xM_censuses xM_finding, ar (ad 1) cA 60 gMtext, ar (ad 2) cA 20 gMkinds, ar (ad 3) cA 20 gMlates, ar (ad 4) cA 20 gMscarfs, ar (ad 5) cA 20 gMhands, ar (ad 6) cA 20 gMrings, ar (ad 7) cA 20 gMmains, ar (ad 8) cA 4 gMaheadOf, ar (ad 9) cA 4 gMlastIn, ar (ad 10) cA 4 gMmanyIn, ar (ad 11) cA 3 gMsetting, ar (ad 12) cA 3 gMlimit, ar (ad 13) cA 8020 gMcomes, ar (ad 14) cA 20 gMbusyTo, ar (ad 15) cA 20 gMfeltMany, ar (ad 16) cA 8020 gMfeltBits, ar (ad 17) cA 8020 gMlostBits, ar (ad 18) cA 20 gMpostWho, ar (ad 19) cA 20 gMpostTime, ar (ad 20) cA 5 gMpicks, ar (ad 21) cA 5 gMbestPicks]) [0, 1, 2, 3, 4, 5, 6, 7, 8, 9, 10, 11, 12, 13, 14, 15, 16, 17, 18, 19, 20, 21] (by decide) rfl
      have hFc := va_free (wc := [oM ad xM_typed xM_people xM_posted xM_hears xM_censuses xM_finding, ar (ad 1) cA 60 gMtext, ar (ad 2) cA 20 gMkinds, ar (ad 3) cA 20 gMlates, ar (ad 4) cA 20 gMscarfs, ar (ad 5) cA 20 gMhands, ar (ad 6) cA 20 gMrings, ar (ad 7) cA 20 gMmains, ar (ad 8) cA 4 gMaheadOf, ar (ad 9) cA 4 gMlastIn, ar (ad 10) cA 4 gMmanyIn, ar (ad 11) cA 3 gMsetting, ar (ad 12) cA 3 gMlimit, ar (ad 13) cA 8020 gMcomes, ar (ad 14) cA 20 gMbusyTo, ar (ad 15) cA 20 gMfeltMany, ar (ad 16) cA 8020 gMfeltBits, ar (ad 17) cA 8020 gMlostBits, ar (ad 18) cA 20 gMpostWho, ar (ad 19) cA 20 gMpostTime, ar (ad 20) cA 5 gMpicks, ar (ad 21) cA 5 gMbestPicks]) hD hS hA [0, 1, 2, 3, 4, 5, 6, 7, 8, 9, 10, 11, 12, 13, 14, 15, 16, 17, 18, 19, 20, 21] rfl
      obtain ⟨u_5, hc_5, hm⟩ := bd_ok hm
      refine va_calli (va_runV (As := [.int a1, .int a2]) (rest := []) ⟨hx, hb, hml, hown, hts⟩ (kM_doubtOf l dC dI cA cB ad H.size a1 a2 xM_typed xM_people xM_posted xM_hears xM_censuses xM_finding gMtext gMkinds gMlates gMscarfs gMhands gMrings gMmains gMaheadOf gMlastIn gMmanyIn gMsetting gMlimit gMcomes gMbusyTo gMfeltMany gMfeltBits gMlostBits gMpostWho gMpostTime gMpicks gMbestPicks u_5 hc_5) (cwV 2 hts gX10_doubt_X10_doubtOf rfl rfl rfl (by decide +kernel) ⟨Nat.le_of_ble_eq_true rfl, Nat.le_of_ble_eq_true rfl⟩) ⟨fun a U g mk q => by obtain ⟨q0, q1, qP, qK, qD⟩ := q; exact ⟨q0, q1, qP, va_K.moved (u := U) (U := U.calling g mk a) (Vm.Alike.refl U.vm) qK, qD⟩, va_recv hK hPc (ci := 10) (q0 := 0) rfl rfl, fun U hU hW => ⟨rfl, by rw [hU], by rw [hU]; exact hPc, va_K.moved hW.alike hK, hDc.weaken (fun _ _ _ _ => trivial)⟩⟩ rfl rfl hl.1 rfl (lv_room (Nat.le_of_ble_eq_true rfl)) dX10_doubt_23 ⟨Nat.le_of_ble_eq_true rfl, Nat.le_of_ble_eq_true rfl⟩) hS (fun q _ h => hFc q h) hFc (fun r_5 _ t H1 locs ht hvm hw hB hz1 hk1 hS => ?_)
      obtain ⟨hP1, hK1, hD1⟩ := hB
      rw [ht] at hP1
      obtain ⟨hP, hD⟩ := va_join (wr := []) (w1 := [oM ad xM_typed u_5.2.1 u_5.2.2.1 xM_hears xM_censuses xM_finding, ar (ad 1) cA 60 gMtext, ar (ad 2) cA 20 u_5.2.2.2.1, ar (ad 3) cA 20 u_5.2.2.2.2.1, ar (ad 4) cA 20 u_5.2.2.2.2.2.1, ar (ad 5) cA 20 u_5.2.2.2.2.2.2.1, ar (ad 6) cA 20 u_5.2.2.2.2.2.2.2.1, ar (ad 7) cA 20 u_5.2.2.2.2.2.2.2.2.1, ar (ad 8) cA 4 u_5.2.2.2.2.2.2.2.2.2.1, ar (ad 9) cA 4 u_5.2.2.2.2.2.2.2.2.2.2.1, ar (ad 10) cA 4 u_5.2.2.2.2.2.2.2.2.2.2.2.1, ar (ad 11) cA 3 gMsetting, ar (ad 12) cA 3 gMlimit, ar (ad 13) cA 8020 u_5.2.2.2.2.2.2.2.2.2.2.2.2.1, ar (ad 14) cA 20 u_5.2.2.2.2.2.2.2.2.2.2.2.2.2.1, ar (ad 15) cA 20 u_5.2.2.2.2.2.2.2.2.2.2.2.2.2.2.1, ar (ad 16) cA 8020 u_5.2.2.2.2.2.2.2.2.2.2.2.2.2.2.2.1, ar (ad 17) cA 8020 u_5.2.2.2.2.2.2.2.2.2.2.2.2.2.2.2.2.1, ar (ad 18) cA 20 u_5.2.2.2.2.2.2.2.2.2.2.2.2.2.2.2.2.2.1, ar (ad 19) cA 20 u_5.2.2.2.2.2.2.2.2.2.2.2.2.2.2.2.2.2.2.1, ar (ad 20) cA 5 u_5.2.2.2.2.2.2.2.2.2.2.2.2.2.2.2.2.2.2.2.1, ar (ad 21) cA 5 u_5.2.2.2.2.2.2.2.2.2.2.2.2.2.2.2.2.2.2.2.2]) hP hD [0, 1, 2, 3, 4, 5, 6, 7, 8, 9, 10, 11, 12, 13, 14, 15, 16, 17, 18, 19, 20, 21] [] rfl rfl (by decide) (by decide) hk1 hFc hP1 hD1
      clear hPc hDc hFc hP1 hK1 hD1 hk1 hz1 hvm ht
      generalize H1 = H at hP hS ⊢
      have hP : va_P (dC, dI) vwCl [oM ad xM_typed u_5.2.1 u_5.2.2.1 xM_hears xM_censuses xM_finding, ar (ad 1) cA 60 gMtext, ar (ad 2) cA 20 u_5.2.2.2.1, ar (ad 3) cA 20 u_5.2.2.2.2.1, ar (ad 4) cA 20 u_5.2.2.2.2.2.1, ar (ad 5) cA 20 u_5.2.2.2.2.2.2.1, ar (ad 6) cA 20 u_5.2.2.2.2.2.2.2.1, ar (ad 7) cA 20 u_5.2.2.2.2.2.2.2.2.1, ar (ad 8) cA 4 u_5.2.2.2.2.2.2.2.2.2.1, ar (ad 9) cA 4 u_5.2.2.2.2.2.2.2.2.2.2.1, ar (ad 10) cA 4 u_5.2.2.2.2.2.2.2.2.2.2.2.1, ar (ad 11) cA 3 gMsetting, ar (ad 12) cA 3 gMlimit, ar (ad 13) cA 8020 u_5.2.2.2.2.2.2.2.2.2.2.2.2.1, ar (ad 14) cA 20 u_5.2.2.2.2.2.2.2.2.2.2.2.2.2.1, ar (ad 15) cA 20 u_5.2.2.2.2.2.2.2.2.2.2.2.2.2.2.1, ar (ad 16) cA 8020 u_5.2.2.2.2.2.2.2.2.2.2.2.2.2.2.2.1, ar (ad 17) cA 8020 u_5.2.2.2.2.2.2.2.2.2.2.2.2.2.2.2.2.1, ar (ad 18) cA 20 u_5.2.2.2.2.2.2.2.2.2.2.2.2.2.2.2.2.2.1, ar (ad 19) cA 20 u_5.2.2.2.2.2.2.2.2.2.2.2.2.2.2.2.2.2.2.1, ar (ad 20) cA 5 u_5.2.2.2.2.2.2.2.2.2.2.2.2.2.2.2.2.2.2.2.1, ar (ad 21) cA 5 u_5.2.2.2.2.2.2.2.2.2.2.2.2.2.2.2.2.2.2.2.2] H := hP
      have hD : va_D A [oM ad xM_typed u_5.2.1 u_5.2.2.1 xM_hears xM_censuses xM_finding, ar (ad 1) cA 60 gMtext, ar (ad 2) cA 20 u_5.2.2.2.1, ar (ad 3) cA 20 u_5.2.2.2.2.1, ar (ad 4) cA 20 u_5.2.2.2.2.2.1, ar (ad 5) cA 20 u_5.2.2.2.2.2.2.1, ar (ad 6) cA 20 u_5.2.2.2.2.2.2.2.1, ar (ad 7) cA 20 u_5.2.2.2.2.2.2.2.2.1, ar (ad 8) cA 4 u_5.2.2.2.2.2.2.2.2.2.1, ar (ad 9) cA 4 u_5.2.2.2.2.2.2.2.2.2.2.1, ar (ad 10) cA 4 u_5.2.2.2.2.2.2.2.2.2.2.2.1, ar (ad 11) cA 3 gMsetting, ar (ad 12) cA 3 gMlimit, ar (ad 13) cA 8020 u_5.2.2.2.2.2.2.2.2.2.2.2.2.1, ar (ad 14) cA 20 u_5.2.2.2.2.2.2.2.2.2.2.2.2.2.1, ar (ad 15) cA 20 u_5.2.2.2.2.2.2.2.2.2.2.2.2.2.2.1, ar (ad 16) cA 8020 u_5.2.2.2.2.2.2.2.2.2.2.2.2.2.2.2.1, ar (ad 17) cA 8020 u_5.2.2.2.2.2.2.2.2.2.2.2.2.2.2.2.2.1, ar (ad 18) cA 20 u_5.2.2.2.2.2.2.2.2.2.2.2.2.2.2.2.2.2.1, ar (ad 19) cA 20 u_5.2.2.2.2.2.2.2.2.2.2.2.2.2.2.2.2.2.2.1, ar (ad 20) cA 5 u_5.2.2.2.2.2.2.2.2.2.2.2.2.2.2.2.2.2.2.2.1, ar (ad 21) cA 5 u_5.2.2.2.2.2.2.2.2.2.2.2.2.2.2.2.2.2.2.2.2] := hD
      have hw := hw.symm
      subst hw
      refine lv_goto (tgt := 31) hx hb dX10_doubt_26 (by decide) ?_
      obtain rfl := Option.some.inj hm
      subst hQ
      exact W.iret (v := u_5.1) hx hb hr (fun t ht hW => ⟨⟨_, (), rfl, rfl, by rw [ht]; exact hP, va_K.moved hW.alike hK, hAe ▸ hD⟩, hS.F ht⟩) hS.2.2 dX10_doubt_31

set_option maxHeartbeats 4000000 in
set_option maxRecDepth 100000 in
theorem kM_postsOf (l : Launch) (dC : Nat → ClassId) (dI : Nat → Nat → Nat) (cA : ClassId) (cB : ClassId) (ad : Nat → Nat) (sz : Nat) (a1 : Int32) (xM_typed : Int32) (xM_people : Int32) (xM_posted : Int32) (xM_hears : Int32) (xM_censuses : Int32) (xM_finding : Int32) (gMtext : Nat → Int32) (gMkinds : Nat → Int32) (gMlates : Nat → Int32) (gMscarfs : Nat → Int32) (gMhands : Nat → Int32) (gMrings : Nat → Int32) (gMmains : Nat → Int32) (gMaheadOf : Nat → Int32) (gMlastIn : Nat → Int32) (gMmanyIn : Nat → Int32) (gMsetting : Nat → Int32) (gMlimit : Nat → Int32) (gMcomes : Nat → Int32) (gMbusyTo : Nat → Int32) (gMfeltMany : Nat → Int32) (gMfeltBits : Nat → Int32) (gMlostBits : Nat → Int32) (gMpostWho : Nat → Int32) (gMpostTime : Nat → Int32) (gMpicks : Nat → Int32) (gMbestPicks : Nat → Int32) (u : Int32 × Int32 × Int32 × (Nat → Int32) × (Nat → Int32) × (Nat → Int32) × (Nat → Int32) × (Nat → Int32) × (Nat → Int32) × (Nat → Int32) × (Nat → Int32) × (Nat → Int32) × (Nat → Int32) × (Nat → Int32) × (Nat → Int32) × (Nat → Int32) × (Nat → Int32) × (Nat → Int32) × (Nat → Int32) × (Nat → Int32) × (Nat → Int32)) (hm : fM_postsOf a1 xM_typed xM_people xM_posted gMtext gMkinds gMlates gMscarfs gMhands gMrings gMmains gMaheadOf gMlastIn gMmanyIn gMsetting gMlimit gMcomes gMbusyTo gMfeltMany gMfeltBits gMlostBits gMpostWho gMpostTime gMpicks gMbestPicks = some u) : Met l yX10_postsOf wsX10_postsOf ({ frames := 6, cells := 0, slots := 0, locals := 145 }) (va_Pc [.ref (ad 0), .int a1] (fun U => U.heap.size = sz ∧ va_P (dC, dI) vwCl [oM ad xM_typed xM_people xM_posted xM_hears xM_censuses xM_finding, ar (ad 1) cA 60 gMtext, ar (ad 2) cA 20 gMkinds, ar (ad 3) cA 20 gMlates, ar (ad 4) cA 20 gMscarfs, ar (ad 5) cA 20 gMhands, ar (ad 6) cA 20 gMrings, ar (ad 7) cA 20 gMmains, ar (ad 8) cA 4 gMaheadOf, ar (ad 9) cA 4 gMlastIn, ar (ad 10) cA 4 gMmanyIn, ar (ad 11) cA 3 gMsetting, ar (ad 12) cA 3 gMlimit, ar (ad 13) cA 8020 gMcomes, ar (ad 14) cA 20 gMbusyTo, ar (ad 15) cA 20 gMfeltMany, ar (ad 16) cA 8020 gMfeltBits, ar (ad 17) cA 8020 gMlostBits, ar (ad 18) cA 20 gMpostWho, ar (ad 19) cA 20 gMpostTime, ar (ad 20) cA 5 gMpicks, ar (ad 21) cA 5 gMbestPicks] U.heap ∧ va_K (dC, dI) vwCl [(cA, .int), (cB, .boolean)] U ∧ va_D (fun _ => True) [oM ad xM_typed xM_people xM_posted xM_hears xM_censuses xM_finding, ar (ad 1) cA 60 gMtext, ar (ad 2) cA 20 gMkinds, ar (ad 3) cA 20 gMlates, ar (ad 4) cA 20 gMscarfs, ar (ad 5) cA 20 gMhands, ar (ad 6) cA 20 gMrings, ar (ad 7) cA 20 gMmains, ar (ad 8) cA 4 gMaheadOf, ar (ad 9) cA 4 gMlastIn, ar (ad 10) cA 4 gMmanyIn, ar (ad 11) cA 3 gMsetting, ar (ad 12) cA 3 gMlimit, ar (ad 13) cA 8020 gMcomes, ar (ad 14) cA 20 gMbusyTo, ar (ad 15) cA 20 gMfeltMany, ar (ad 16) cA 8020 gMfeltBits, ar (ad 17) cA 8020 gMlostBits, ar (ad 18) cA 20 gMpostWho, ar (ad 19) cA 20 gMpostTime, ar (ad 20) cA 5 gMpicks, ar (ad 21) cA 5 gMbestPicks])) (va_Qi (fun (r : Int32) (_ : Unit) => r = u.1) (fun (_ : Unit) t => va_P (dC, dI) vwCl [oM ad xM_typed u.2.1 u.2.2.1 xM_hears xM_censuses xM_finding, ar (ad 1) cA 60 gMtext, ar (ad 2) cA 20 u.2.2.2.1, ar (ad 3) cA 20 u.2.2.2.2.1, ar (ad 4) cA 20 u.2.2.2.2.2.1, ar (ad 5) cA 20 u.2.2.2.2.2.2.1, ar (ad 6) cA 20 u.2.2.2.2.2.2.2.1, ar (ad 7) cA 20 u.2.2.2.2.2.2.2.2.1, ar (ad 8) cA 4 u.2.2.2.2.2.2.2.2.2.1, ar (ad 9) cA 4 u.2.2.2.2.2.2.2.2.2.2.1, ar (ad 10) cA 4 u.2.2.2.2.2.2.2.2.2.2.2.1, ar (ad 11) cA 3 gMsetting, ar (ad 12) cA 3 gMlimit, ar (ad 13) cA 8020 u.2.2.2.2.2.2.2.2.2.2.2.2.1, ar (ad 14) cA 20 u.2.2.2.2.2.2.2.2.2.2.2.2.2.1, ar (ad 15) cA 20 u.2.2.2.2.2.2.2.2.2.2.2.2.2.2.1, ar (ad 16) cA 8020 u.2.2.2.2.2.2.2.2.2.2.2.2.2.2.2.1, ar (ad 17) cA 8020 u.2.2.2.2.2.2.2.2.2.2.2.2.2.2.2.2.1, ar (ad 18) cA 20 u.2.2.2.2.2.2.2.2.2.2.2.2.2.2.2.2.2.1, ar (ad 19) cA 20 u.2.2.2.2.2.2.2.2.2.2.2.2.2.2.2.2.2.2.1, ar (ad 20) cA 5 u.2.2.2.2.2.2.2.2.2.2.2.2.2.2.2.2.2.2.2.1, ar (ad 21) cA 5 u.2.2.2.2.2.2.2.2.2.2.2.2.2.2.2.2.2.2.2.2] t.heap ∧ va_K (dC, dI) vwCl [(cA, .int), (cB, .boolean)] t ∧ va_D (va_A [oM ad xM_typed xM_people xM_posted xM_hears xM_censuses xM_finding, ar (ad 1) cA 60 gMtext, ar (ad 2) cA 20 gMkinds, ar (ad 3) cA 20 gMlates, ar (ad 4) cA 20 gMscarfs, ar (ad 5) cA 20 gMhands, ar (ad 6) cA 20 gMrings, ar (ad 7) cA 20 gMmains, ar (ad 8) cA 4 gMaheadOf, ar (ad 9) cA 4 gMlastIn, ar (ad 10) cA 4 gMmanyIn, ar (ad 11) cA 3 gMsetting, ar (ad 12) cA 3 gMlimit, ar (ad 13) cA 8020 gMcomes, ar (ad 14) cA 20 gMbusyTo, ar (ad 15) cA 20 gMfeltMany, ar (ad 16) cA 8020 gMfeltBits, ar (ad 17) cA 8020 gMlostBits, ar (ad 18) cA 20 gMpostWho, ar (ad 19) cA 20 gMpostTime, ar (ad 20) cA 5 gMpicks, ar (ad 21) cA 5 gMbestPicks] sz) [oM ad xM_typed u.2.1 u.2.2.1 xM_hears xM_censuses xM_finding, ar (ad 1) cA 60 gMtext, ar (ad 2) cA 20 u.2.2.2.1, ar (ad 3) cA 20 u.2.2.2.2.1, ar (ad 4) cA 20 u.2.2.2.2.2.1, ar (ad 5) cA 20 u.2.2.2.2.2.2.1, ar (ad 6) cA 20 u.2.2.2.2.2.2.2.1, ar (ad 7) cA 20 u.2.2.2.2.2.2.2.2.1, ar (ad 8) cA 4 u.2.2.2.2.2.2.2.2.2.1, ar (ad 9) cA 4 u.2.2.2.2.2.2.2.2.2.2.1, ar (ad 10) cA 4 u.2.2.2.2.2.2.2.2.2.2.2.1, ar (ad 11) cA 3 gMsetting, ar (ad 12) cA 3 gMlimit, ar (ad 13) cA 8020 u.2.2.2.2.2.2.2.2.2.2.2.2.1, ar (ad 14) cA 20 u.2.2.2.2.2.2.2.2.2.2.2.2.2.1, ar (ad 15) cA 20 u.2.2.2.2.2.2.2.2.2.2.2.2.2.2.1, ar (ad 16) cA 8020 u.2.2.2.2.2.2.2.2.2.2.2.2.2.2.2.1, ar (ad 17) cA 8020 u.2.2.2.2.2.2.2.2.2.2.2.2.2.2.2.2.1, ar (ad 18) cA 20 u.2.2.2.2.2.2.2.2.2.2.2.2.2.2.2.2.2.1, ar (ad 19) cA 20 u.2.2.2.2.2.2.2.2.2.2.2.2.2.2.2.2.2.2.1, ar (ad 20) cA 5 u.2.2.2.2.2.2.2.2.2.2.2.2.2.2.2.2.2.2.2.1, ar (ad 21) cA 5 u.2.2.2.2.2.2.2.2.2.2.2.2.2.2.2.2.2.2.2.2]) (va_A [oM ad xM_typed xM_people xM_posted xM_hears xM_censuses xM_finding, ar (ad 1) cA 60 gMtext, ar (ad 2) cA 20 gMkinds, ar (ad 3) cA 20 gMlates, ar (ad 4) cA 20 gMscarfs, ar (ad 5) cA 20 gMhands, ar (ad 6) cA 20 gMrings, ar (ad 7) cA 20 gMmains, ar (ad 8) cA 4 gMaheadOf, ar (ad 9) cA 4 gMlastIn, ar (ad 10) cA 4 gMmanyIn, ar (ad 11) cA 3 gMsetting, ar (ad 12) cA 3 gMlimit, ar (ad 13) cA 8020 gMcomes, ar (ad 14) cA 20 gMbusyTo, ar (ad 15) cA 20 gMfeltMany, ar (ad 16) cA 8020 gMfeltBits, ar (ad 17) cA 8020 gMlostBits, ar (ad 18) cA 20 gMpostWho, ar (ad 19) cA 20 gMpostTime, ar (ad 20) cA 5 gMpicks, ar (ad 21) cA 5 gMbestPicks] sz)) 0 0 (va_A [oM ad xM_typed xM_people xM_posted xM_hears xM_censuses xM_finding, ar (ad 1) cA 60 gMtext, ar (ad 2) cA 20 gMkinds, ar (ad 3) cA 20 gMlates, ar (ad 4) cA 20 gMscarfs, ar (ad 5) cA 20 gMhands, ar (ad 6) cA 20 gMrings, ar (ad 7) cA 20 gMmains, ar (ad 8) cA 4 gMaheadOf, ar (ad 9) cA 4 gMlastIn, ar (ad 10) cA 4 gMmanyIn, ar (ad 11) cA 3 gMsetting, ar (ad 12) cA 3 gMlimit, ar (ad 13) cA 8020 gMcomes, ar (ad 14) cA 20 gMbusyTo, ar (ad 15) cA 20 gMfeltMany, ar (ad 16) cA 8020 gMfeltBits, ar (ad 17) cA 8020 gMlostBits, ar (ad 18) cA 20 gMpostWho, ar (ad 19) cA 20 gMpostTime, ar (ad 20) cA 5 gMpicks, ar (ad 21) cA 5 gMbestPicks] sz) := by
  refine Met.ofW (cc := cX10_postsOf) (maxL := 4) (ret := (some .int)) (by decide) rfl ?_
  intro p e s m args below meth c s₁ B hml hv
  obtain ⟨rfl, hsz, hP, hK, hD0⟩ := hv
  have hx := B.exec
  have hb := B.bytes
  have hr := B.returns
  have hts := atoms_spec (ws := wsX10_postsOf) B.pre
  have hown : s.vm.findClass RX10 = some m.cls := findClass_of_methodNamed B.named
  have hlocks := B.notSynchronized
  subst hsz
  have hD := hD0.self (sz := s.heap.size)
  generalize hAe : va_A [oM ad xM_typed xM_people xM_posted xM_hears xM_censuses xM_finding, ar (ad 1) cA 60 gMtext, ar (ad 2) cA 20 gMkinds, ar (ad 3) cA 20 gMlates, ar (ad 4) cA 20 gMscarfs, ar (ad 5) cA 20 gMhands, ar (ad 6) cA 20 gMrings, ar (ad 7) cA 20 gMmains, ar (ad 8) cA 4 gMaheadOf, ar (ad 9) cA 4 gMlastIn, ar (ad 10) cA 4 gMmanyIn, ar (ad 11) cA 3 gMsetting, ar (ad 12) cA 3 gMlimit, ar (ad 13) cA 8020 gMcomes, ar (ad 14) cA 20 gMbusyTo, ar (ad 15) cA 20 gMfeltMany, ar (ad 16) cA 8020 gMfeltBits, ar (ad 17) cA 8020 gMlostBits, ar (ad 18) cA 20 gMpostWho, ar (ad 19) cA 20 gMpostTime, ar (ad 20) cA 5 gMpicks, ar (ad 21) cA 5 gMbestPicks] s.heap.size = A at hD ⊢
  have hA : ∀ q : Nat, s.heap.size ≤ q → A q := fun q h => by rw [← hAe]; exact Or.inr h
  have hS : va_S A s.heap s.heap [] := va_S.rf
  have hl := lv_entry ([.ref (ad 0), .int a1]) (n := 4) (Nat.le_of_ble_eq_true rfl)
  rw [lg_entry_eq]
  generalize (lg_sl ([.ref (ad 0), .int a1]) ++ List.replicate (4 - (lg_sl ([.ref (ad 0), .int a1])).length) Slot.unset).toArray = ls at hl ⊢
  have hl : lv_has ls 4 [(0, .ref (ad 0)), (1, .int a1)] := hl
  refine wk_Q (fun QQ hQ => ?_)
  have hinX10 : ∀ w ∈ wsX100, w ∈ wsX10_postsOf := fun w h => List.mem_cons_of_mem _ (inlX10 w h)
  have hl_213 := hts (.fieldLink RX10 213 "HandCensusModel" "posted" "I") (List.mem_cons_of_mem _ (in_r31 _ (List.mem_of_getElem? (i := 7) rfl)))
  have h_16 : ∀ (v1_16 : Int32) (xM_people_16 : Int32) (xM_posted_16 : Int32) (gMkinds_16 : Nat → Int32) (gMlates_16 : Nat → Int32) (gMscarfs_16 : Nat → Int32) (gMhands_16 : Nat → Int32) (gMrings_16 : Nat → Int32) (gMmains_16 : Nat → Int32) (gMaheadOf_16 : Nat → Int32) (gMlastIn_16 : Nat → Int32) (gMmanyIn_16 : Nat → Int32) (gMcomes_16 : Nat → Int32) (gMbusyTo_16 : Nat → Int32) (gMfeltMany_16 : Nat → Int32) (gMfeltBits_16 : Nat → Int32) (gMlostBits_16 : Nat → Int32) (gMpostWho_16 : Nat → Int32) (gMpostTime_16 : Nat → Int32), ∀ (n_16 : Nat), ∀ (v2_16 : Int32) (gMpicks_16 : Nat → Int32) (gMbestPicks_16 : Nat → Int32), fM_postsOf_16 v1_16 xM_people_16 xM_posted_16 gMkinds_16 gMlates_16 gMscarfs_16 gMhands_16 gMrings_16 gMmains_16 gMaheadOf_16 gMlastIn_16 gMmanyIn_16 gMlimit gMcomes_16 gMbusyTo_16 gMfeltMany_16 gMfeltBits_16 gMlostBits_16 gMpostWho_16 gMpostTime_16 n_16 v2_16 gMpicks_16 gMbestPicks_16 = some u → ∀ (H : Heap) (locs : List Loc), va_P (dC, dI) vwCl [oM ad xM_typed xM_people_16 xM_posted_16 xM_hears xM_censuses xM_finding, ar (ad 1) cA 60 gMtext, ar (ad 2) cA 20 gMkinds_16, ar (ad 3) cA 20 gMlates_16, ar (ad 4) cA 20 gMscarfs_16, ar (ad 5) cA 20 gMhands_16, ar (ad 6) cA 20 gMrings_16, ar (ad 7) cA 20 gMmains_16, ar (ad 8) cA 4 gMaheadOf_16, ar (ad 9) cA 4 gMlastIn_16, ar (ad 10) cA 4 gMmanyIn_16, ar (ad 11) cA 3 gMsetting, ar (ad 12) cA 3 gMlimit, ar (ad 13) cA 8020 gMcomes_16, ar (ad 14) cA 20 gMbusyTo_16, ar (ad 15) cA 20 gMfeltMany_16, ar (ad 16) cA 8020 gMfeltBits_16, ar (ad 17) cA 8020 gMlostBits_16, ar (ad 18) cA 20 gMpostWho_16, ar (ad 19) cA 20 gMpostTime_16, ar (ad 20) cA 5 gMpicks_16, ar (ad 21) cA 5 gMbestPicks_16] H → va_D A [oM ad xM_typed xM_people_16 xM_posted_16 xM_hears xM_censuses xM_finding, ar (ad 1) cA 60 gMtext, ar (ad 2) cA 20 gMkinds_16, ar (ad 3) cA 20 gMlates_16, ar (ad 4) cA 20 gMscarfs_16, ar (ad 5) cA 20 gMhands_16, ar (ad 6) cA 20 gMrings_16, ar (ad 7) cA 20 gMmains_16, ar (ad 8) cA 4 gMaheadOf_16, ar (ad 9) cA 4 gMlastIn_16, ar (ad 10) cA 4 gMmanyIn_16, ar (ad 11) cA 3 gMsetting, ar (ad 12) cA 3 gMlimit, ar (ad 13) cA 8020 gMcomes_16, ar (ad 14) cA 20 gMbusyTo_16, ar (ad 15) cA 20 gMfeltMany_16, ar (ad 16) cA 8020 gMfeltBits_16, ar (ad 17) cA 8020 gMlostBits_16, ar (ad 18) cA 20 gMpostWho_16, ar (ad 19) cA 20 gMpostTime_16, ar (ad 20) cA 5 gMpicks_16, ar (ad 21) cA 5 gMbestPicks_16] → va_S A s.heap H locs → ∀ ls : Array Slot, lv_has ls 4 [(0, .ref (ad 0)), (1, .int v1_16), (2, .int v2_16)] → W p l e (headSpec wsX10_postsOf ({ frames := 6, cells := 0, slots := 0, locals := 145 })).room s m ([.ref (ad 0), .int a1] : List Value).toArray below meth c H locs 0 0 QQ (F0 m 16 ls []) := by
    intro v1_16 xM_people_16 xM_posted_16 gMkinds_16 gMlates_16 gMscarfs_16 gMhands_16 gMrings_16 gMmains_16 gMaheadOf_16 gMlastIn_16 gMmanyIn_16 gMcomes_16 gMbusyTo_16 gMfeltMany_16 gMfeltBits_16 gMlostBits_16 gMpostWho_16 gMpostTime_16
    intro n_16
    induction n_16 with
    | zero => intro v2_16 gMpicks_16 gMbestPicks_16 hm; have hm : (none : Option (Int32 × Int32 × Int32 × (Nat → Int32) × (Nat → Int32) × (Nat → Int32) × (Nat → Int32) × (Nat → Int32) × (Nat → Int32) × (Nat → Int32) × (Nat → Int32) × (Nat → Int32) × (Nat → Int32) × (Nat → Int32) × (Nat → Int32) × (Nat → Int32) × (Nat → Int32) × (Nat → Int32) × (Nat → Int32) × (Nat → Int32) × (Nat → Int32))) = some u := hm; cases hm
    | succ n_16 ih_16 =>
      have b_41 : ∀ (v2_41 : Int32) (gMpicks_41 : Nat → Int32) (gMbestPicks_41 : Nat → Int32), fM_postsOf_41 (fM_postsOf_16  v1_16 xM_people_16 xM_posted_16 gMkinds_16 gMlates_16 gMscarfs_16 gMhands_16 gMrings_16 gMmains_16 gMaheadOf_16 gMlastIn_16 gMmanyIn_16 gMlimit gMcomes_16 gMbusyTo_16 gMfeltMany_16 gMfeltBits_16 gMlostBits_16 gMpostWho_16 gMpostTime_16 n_16) v1_16 v2_41 xM_people_16 xM_posted_16 gMkinds_16 gMlates_16 gMscarfs_16 gMhands_16 gMrings_16 gMmains_16 gMaheadOf_16 gMlastIn_16 gMmanyIn_16 gMlimit gMcomes_16 gMbusyTo_16 gMfeltMany_16 gMfeltBits_16 gMlostBits_16 gMpostWho_16 gMpostTime_16 gMpicks_41 gMbestPicks_41 = some u → ∀ (H : Heap) (locs : List Loc), va_P (dC, dI) vwCl [oM ad xM_typed xM_people_16 xM_posted_16 xM_hears xM_censuses xM_finding, ar (ad 1) cA 60 gMtext, ar (ad 2) cA 20 gMkinds_16, ar (ad 3) cA 20 gMlates_16, ar (ad 4) cA 20 gMscarfs_16, ar (ad 5) cA 20 gMhands_16, ar (ad 6) cA 20 gMrings_16, ar (ad 7) cA 20 gMmains_16, ar (ad 8) cA 4 gMaheadOf_16, ar (ad 9) cA 4 gMlastIn_16, ar (ad 10) cA 4 gMmanyIn_16, ar (ad 11) cA 3 gMsetting, ar (ad 12) cA 3 gMlimit, ar (ad 13) cA 8020 gMcomes_16, ar (ad 14) cA 20 gMbusyTo_16, ar (ad 15) cA 20 gMfeltMany_16, ar (ad 16) cA 8020 gMfeltBits_16, ar (ad 17) cA 8020 gMlostBits_16, ar (ad 18) cA 20 gMpostWho_16, ar (ad 19) cA 20 gMpostTime_16, ar (ad 20) cA 5 gMpicks_41, ar (ad 21) cA 5 gMbestPicks_41] H → va_D A [oM ad xM_typed xM_people_16 xM_posted_16 xM_hears xM_censuses xM_finding, ar (ad 1) cA 60 gMtext, ar (ad 2) cA 20 gMkinds_16, ar (ad 3) cA 20 gMlates_16, ar (ad 4) cA 20 gMscarfs_16, ar (ad 5) cA 20 gMhands_16, ar (ad 6) cA 20 gMrings_16, ar (ad 7) cA 20 gMmains_16, ar (ad 8) cA 4 gMaheadOf_16, ar (ad 9) cA 4 gMlastIn_16, ar (ad 10) cA 4 gMmanyIn_16, ar (ad 11) cA 3 gMsetting, ar (ad 12) cA 3 gMlimit, ar (ad 13) cA 8020 gMcomes_16, ar (ad 14) cA 20 gMbusyTo_16, ar (ad 15) cA 20 gMfeltMany_16, ar (ad 16) cA 8020 gMfeltBits_16, ar (ad 17) cA 8020 gMlostBits_16, ar (ad 18) cA 20 gMpostWho_16, ar (ad 19) cA 20 gMpostTime_16, ar (ad 20) cA 5 gMpicks_41, ar (ad 21) cA 5 gMbestPicks_41] → va_S A s.heap H locs → ∀ ls : Array Slot, lv_has ls 4 [(0, .ref (ad 0)), (1, .int v1_16), (2, .int v2_41)] → W p l e (headSpec wsX10_postsOf ({ frames := 6, cells := 0, slots := 0, locals := 145 })).room s m ([.ref (ad 0), .int a1] : List Value).toArray below meth c H locs 0 0 QQ (F0 m 41 ls []) := by
        intro v2_41 gMpicks_41 gMbestPicks_41 hm H locs hP hD hS ls hl
        unfold fM_postsOf_41 at hm
        refine lv_iinc (v := (v2_41 + 1)) (lv' := [(2, .int (v2_41 + 1)), (0, .ref (ad 0)), (1, .int v1_16)]) hx hb dX10_postsOf_41 hl (k := 2) rfl rfl (by decide) rfl (fun ls hl => ?_)
        refine lv_goto (tgt := 16) hx hb dX10_postsOf_44 (by decide) ?_
        exact ih_16 _ _ _ hm _ _ hP hD hS _ (lv_sub hl [1, 2, 0] rfl)
      intro v2_16 gMpicks_16 gMbestPicks_16 hm H locs hP hD hS ls hl
      have hm : fM_postsOf_16_b  (fM_postsOf_16  v1_16 xM_people_16 xM_posted_16 gMkinds_16 gMlates_16 gMscarfs_16 gMhands_16 gMrings_16 gMmains_16 gMaheadOf_16 gMlastIn_16 gMmanyIn_16 gMlimit gMcomes_16 gMbusyTo_16 gMfeltMany_16 gMfeltBits_16 gMlostBits_16 gMpostWho_16 gMpostTime_16 n_16) v1_16 xM_people_16 xM_posted_16 gMkinds_16 gMlates_16 gMscarfs_16 gMhands_16 gMrings_16 gMmains_16 gMaheadOf_16 gMlastIn_16 gMmanyIn_16 gMlimit gMcomes_16 gMbusyTo_16 gMfeltMany_16 gMfeltBits_16 gMlostBits_16 gMpostWho_16 gMpostTime_16 v2_16 gMpicks_16 gMbestPicks_16 = some u := hm
      unfold fM_postsOf_16_b at hm
      refine lv_iload_n hx hb dX10_postsOf_16 rfl (lv_at hl 2 rfl) ?_
      refine lv_bipush (v := 6) hx hb dX10_postsOf_17 (by decide) ?_
      refine lv_icmp_ge (tgt := 47) hx hb dX10_postsOf_19 (by decide) (fun c_1 => ?_) (fun c_1 => ?_)
      · have hm := it_pos c_1 hm
        refine lv_iconst (v := (-1)) hx hb dX10_postsOf_47 (by decide) ?_
        obtain rfl := Option.some.inj hm
        subst hQ
        exact W.iret (v := (-1)) hx hb hr (fun t ht hW => ⟨⟨_, (), rfl, rfl, by rw [ht]; exact hP, va_K.moved hW.alike hK, hAe ▸ hD⟩, hS.F ht⟩) hS.2.2 dX10_postsOf_48
      · have hm := it_neg c_1 hm
        refine lv_aload_n hx hb dX10_postsOf_22 rfl (lv_at hl 0 rfl) ?_
        refine lv_iload_n hx hb dX10_postsOf_23 rfl (lv_at hl 2 rfl) ?_
        have hPc := hP.sub (ws' := [oM ad xM_typed xM_people_16 xM_posted_16 xM_hears xM_censuses xM_finding, ar (ad 12) cA 3 gMlimit, ar (ad 19) cA 20 gMpostTime_16, ar (ad 20) cA 5 gMpicks_16, ar (ad 21) cA 5 gMbestPicks_16]) [0, 12, 19, 20, 21] rfl
        have hDc := hD.sub (ws' := [oM ad xM_typed xM_people_16 xM_posted_16 xM_hears xM_censuses xM_finding, ar (ad 12) cA 3 gMlimit, ar (ad 19) cA 20 gMpostTime_16, ar (ad 20) cA 5 gMpicks_16, ar (ad 21) cA 5 gMbestPicks_16]) [0, 12, 19, 20, 21] (by decide) rfl
        have hFc := va_free (wc := [oM ad xM_typed xM_people_16 xM_posted_16 xM_hears xM_censuses xM_finding, ar (ad 12) cA 3 gMlimit, ar (ad 19) cA 20 gMpostTime_16, ar (ad 20) cA 5 gMpicks_16, ar (ad 21) cA 5 gMbestPicks_16]) hD hS hA [0, 12, 19, 20, 21] rfl
        obtain ⟨u_2, hc_2, hm⟩ := bd_ok hm
        refine va_calli (va_runV (As := [.int v2_16]) (rest := []) ⟨hx, hb, hml, hown, hts⟩ (kM_doubtBy l dC dI cA cB ad H.size v2_16 xM_typed xM_people_16 xM_posted_16 xM_hears xM_censuses xM_finding gMlimit gMpostTime_16 gMpicks_16 gMbestPicks_16 u_2 hc_2) (cwV 1 hts gX10_postsOf_X10_doubtBy rfl rfl rfl (by decide +kernel) ⟨Nat.le_of_ble_eq_true rfl, Nat.le_of_ble_eq_true rfl⟩) ⟨fun a U g mk q => by obtain ⟨q0, q1, qP, qK, qD⟩ := q; exact ⟨q0, q1, qP, va_K.moved (u := U) (U := U.calling g mk a) (Vm.Alike.refl U.vm) qK, qD⟩, va_recv hK hPc (ci := 10) (q0 := 0) rfl rfl, fun U hU hW => ⟨rfl, by rw [hU], by rw [hU]; exact hPc, va_K.moved hW.alike hK, hDc.weaken (fun _ _ _ _ => trivial)⟩⟩ rfl rfl hl.1 rfl (lv_room (Nat.le_of_ble_eq_true rfl)) dX10_postsOf_24 ⟨Nat.le_of_ble_eq_true rfl, Nat.le_of_ble_eq_true rfl⟩) hS (fun q _ h => hFc q h) hFc (fun r_2 _ t H1 locs ht hvm hw hB hz1 hk1 hS => ?_)
        obtain ⟨hP1, hK1, hD1⟩ := hB
        rw [ht] at hP1
        obtain ⟨hP, hD⟩ := va_join (wr := [ar (ad 1) cA 60 gMtext, ar (ad 2) cA 20 gMkinds_16, ar (ad 3) cA 20 gMlates_16, ar (ad 4) cA 20 gMscarfs_16, ar (ad 5) cA 20 gMhands_16, ar (ad 6) cA 20 gMrings_16, ar (ad 7) cA 20 gMmains_16, ar (ad 8) cA 4 gMaheadOf_16, ar (ad 9) cA 4 gMlastIn_16, ar (ad 10) cA 4 gMmanyIn_16, ar (ad 11) cA 3 gMsetting, ar (ad 13) cA 8020 gMcomes_16, ar (ad 14) cA 20 gMbusyTo_16, ar (ad 15) cA 20 gMfeltMany_16, ar (ad 16) cA 8020 gMfeltBits_16, ar (ad 17) cA 8020 gMlostBits_16, ar (ad 18) cA 20 gMpostWho_16]) (w1 := [oM ad xM_typed xM_people_16 xM_posted_16 xM_hears xM_censuses xM_finding, ar (ad 12) cA 3 gMlimit, ar (ad 19) cA 20 gMpostTime_16, ar (ad 20) cA 5 u_2.2.1, ar (ad 21) cA 5 u_2.2.2]) hP hD [0, 12, 19, 20, 21] [1, 2, 3, 4, 5, 6, 7, 8, 9, 10, 11, 13, 14, 15, 16, 17, 18] rfl rfl (by decide) (by decide) hk1 hFc hP1 hD1
        clear hPc hDc hFc hP1 hK1 hD1 hk1 hz1 hvm ht
        generalize H1 = H at hP hS ⊢
        have hP : va_P (dC, dI) vwCl [oM ad xM_typed xM_people_16 xM_posted_16 xM_hears xM_censuses xM_finding, ar (ad 1) cA 60 gMtext, ar (ad 2) cA 20 gMkinds_16, ar (ad 3) cA 20 gMlates_16, ar (ad 4) cA 20 gMscarfs_16, ar (ad 5) cA 20 gMhands_16, ar (ad 6) cA 20 gMrings_16, ar (ad 7) cA 20 gMmains_16, ar (ad 8) cA 4 gMaheadOf_16, ar (ad 9) cA 4 gMlastIn_16, ar (ad 10) cA 4 gMmanyIn_16, ar (ad 11) cA 3 gMsetting, ar (ad 12) cA 3 gMlimit, ar (ad 13) cA 8020 gMcomes_16, ar (ad 14) cA 20 gMbusyTo_16, ar (ad 15) cA 20 gMfeltMany_16, ar (ad 16) cA 8020 gMfeltBits_16, ar (ad 17) cA 8020 gMlostBits_16, ar (ad 18) cA 20 gMpostWho_16, ar (ad 19) cA 20 gMpostTime_16, ar (ad 20) cA 5 u_2.2.1, ar (ad 21) cA 5 u_2.2.2] H := hP.sub [17, 0, 1, 2, 3, 4, 5, 6, 7, 8, 9, 10, 18, 11, 12, 13, 14, 15, 16, 19, 20, 21] rfl
        have hD : va_D A [oM ad xM_typed xM_people_16 xM_posted_16 xM_hears xM_censuses xM_finding, ar (ad 1) cA 60 gMtext, ar (ad 2) cA 20 gMkinds_16, ar (ad 3) cA 20 gMlates_16, ar (ad 4) cA 20 gMscarfs_16, ar (ad 5) cA 20 gMhands_16, ar (ad 6) cA 20 gMrings_16, ar (ad 7) cA 20 gMmains_16, ar (ad 8) cA 4 gMaheadOf_16, ar (ad 9) cA 4 gMlastIn_16, ar (ad 10) cA 4 gMmanyIn_16, ar (ad 11) cA 3 gMsetting, ar (ad 12) cA 3 gMlimit, ar (ad 13) cA 8020 gMcomes_16, ar (ad 14) cA 20 gMbusyTo_16, ar (ad 15) cA 20 gMfeltMany_16, ar (ad 16) cA 8020 gMfeltBits_16, ar (ad 17) cA 8020 gMlostBits_16, ar (ad 18) cA 20 gMpostWho_16, ar (ad 19) cA 20 gMpostTime_16, ar (ad 20) cA 5 u_2.2.1, ar (ad 21) cA 5 u_2.2.2] := hD.sub [17, 0, 1, 2, 3, 4, 5, 6, 7, 8, 9, 10, 18, 11, 12, 13, 14, 15, 16, 19, 20, 21] (by decide) rfl
        have hw := hw.symm
        subst hw
        refine lv_istore_n (lv' := [(3, .int u_2.1), (0, .ref (ad 0)), (1, .int v1_16), (2, .int v2_16)]) hx hb dX10_postsOf_27 rfl hl (by decide) rfl (fun ls hl => ?_)
        refine lv_iload_n hx hb dX10_postsOf_28 rfl (lv_at hl 0 rfl) ?_
        refine lv_bipush (v := (-3)) hx hb dX10_postsOf_29 (by decide) ?_
        refine lv_icmp_eq (tgt := 41) hx hb dX10_postsOf_31 (by decide) (fun c_3 => ?_) (fun c_3 => ?_)
        · have hm := it_pos c_3 hm
          exact b_41 _ _ _ hm _ _ hP hD hS _ (lv_sub hl [1, 2, 3] rfl)
        · have hm := it_neg c_3 hm
          refine lv_iload_n hx hb dX10_postsOf_34 rfl (lv_at hl 0 rfl) ?_
          refine lv_iload_n hx hb dX10_postsOf_35 rfl (lv_at hl 2 rfl) ?_
          refine lv_icmp_gt (tgt := 41) hx hb dX10_postsOf_36 (by decide) (fun c_4 => ?_) (fun c_4 => ?_)
          · have hm := it_pos c_4 hm
            exact b_41 _ _ _ hm _ _ hP hD hS _ (lv_sub hl [1, 2, 3] rfl)
          · have hm := it_neg c_4 hm
            refine lv_iload_n hx hb dX10_postsOf_39 rfl (lv_at hl 3 rfl) ?_
            obtain rfl := Option.some.inj hm
            subst hQ
            exact W.iret (v := v2_16) hx hb hr (fun t ht hW => ⟨⟨_, (), rfl, rfl, by rw [ht]; exact hP, va_K.moved hW.alike hK, hAe ▸ hD⟩, hS.F ht⟩) hS.2.2 dX10_postsOf_40
  unfold fM_postsOf at hm
  refine lv_aload_n hx hb dX10_postsOf_0 rfl (lv_at hl 0 rfl) ?_
  have hPc := hP.sub (ws' := [oM ad xM_typed xM_people xM_posted xM_hears xM_censuses xM_finding, ar (ad 1) cA 60 gMtext, ar (ad 2) cA 20 gMkinds, ar (ad 3) cA 20 gMlates, ar (ad 4) cA 20 gMscarfs, ar (ad 5) cA 20 gMhands, ar (ad 6) cA 20 gMrings, ar (ad 7) cA 20 gMmains, ar (ad 8) cA 4 gMaheadOf, ar (ad 9) cA 4 gMlastIn, ar (ad 10) cA 4 gMmanyIn, ar (ad 11) cA 3 gMsetting, ar (ad 13) cA 8020 gMcomes, ar (ad 14) cA 20 gMbusyTo, ar (ad 15) cA 20 gMfeltMany, ar (ad 16) cA 8020 gMfeltBits, ar (ad 17) cA 8020 gMlostBits, ar (ad 18) cA 20 gMpostWho, ar (ad 19) cA 20 gMpostTime]) [0, 1, 2, 3, 4, 5, 6, 7, 8, 9, 10, 11, 13, 14, 15, 16, 17, 18, 19] rfl
  have hDc := hD.sub (ws' := [oM ad xM_typed xM_people xM_posted xM_hears xM_censuses xM_finding, ar (ad 1) cA 60 gMtext, ar (ad 2) cA 20 gMkinds, ar (ad 3) cA 20 gMlates, ar (ad 4) cA 20 gMscarfs, ar (ad 5) cA 20 gMhands, ar (ad 6) cA 20 gMrings, ar (ad 7) cA 20 gMmains, ar (ad 8) cA 4 gMaheadOf, ar (ad 9) cA 4 gMlastIn, ar (ad 10) cA 4 gMmanyIn, ar (ad 11) cA 3 gMsetting, ar (ad 13) cA 8020 gMcomes, ar (ad 14) cA 20 gMbusyTo, ar (ad 15) cA 20 gMfeltMany, ar (ad 16) cA 8020 gMfeltBits, ar (ad 17) cA 8020 gMlostBits, ar (ad 18) cA 20 gMpostWho, ar (ad 19) cA 20 gMpostTime]) [0, 1, 2, 3, 4, 5, 6, 7, 8, 9, 10, 11, 13, 14, 15, 16, 17, 18, 19] (by decide) rfl
  have hFc := va_free (wc := [oM ad xM_typed xM_people xM_posted xM_hears xM_censuses xM_finding, ar (ad 1) cA 60 gMtext, ar (ad 2) cA 20 gMkinds, ar (ad 3) cA 20 gMlates, ar (ad 4) cA 20 gMscarfs, ar (ad 5) cA 20 gMhands, ar (ad 6) cA 20 gMrings, ar (ad 7) cA 20 gMmains, ar (ad 8) cA 4 gMaheadOf, ar (ad 9) cA 4 gMlastIn, ar (ad 10) cA 4 gMmanyIn, ar (ad 11) cA 3 gMsetting, ar (ad 13) cA 8020 gMcomes, ar (ad 14) cA 20 gMbusyTo, ar (ad 15) cA 20 gMfeltMany, ar (ad 16) cA 8020 gMfeltBits, ar (ad 17) cA 8020 gMlostBits, ar (ad 18) cA 20 gMpostWho, ar (ad 19) cA 20 gMpostTime]) hD hS hA [0, 1, 2, 3, 4, 5, 6, 7, 8, 9, 10, 11, 13, 14, 15, 16, 17, 18, 19] rfl
  obtain ⟨u_5, hc_5, hm⟩ := bd_ok hm
  refine va_callv (va_runV (As := []) (rest := []) ⟨hx, hb, hml, hown, hts⟩ (kM_laysPosts l dC dI cA cB ad s.heap.size xM_typed xM_people xM_posted xM_hears xM_censuses xM_finding gMtext gMkinds gMlates gMscarfs gMhands gMrings gMmains gMaheadOf gMlastIn gMmanyIn gMsetting gMcomes gMbusyTo gMfeltMany gMfeltBits gMlostBits gMpostWho gMpostTime u_5 hc_5) (cwV 0 hts gX10_postsOf_X10_laysPosts rfl rfl rfl (by decide +kernel) ⟨Nat.le_of_ble_eq_true rfl, Nat.le_of_ble_eq_true rfl⟩) ⟨fun a U g mk q => by obtain ⟨q0, q1, qP, qK, qD⟩ := q; exact ⟨q0, q1, qP, va_K.moved (u := U) (U := U.calling g mk a) (Vm.Alike.refl U.vm) qK, qD⟩, va_recv hK hPc (ci := 10) (q0 := 0) rfl rfl, fun U hU hW => ⟨rfl, by rw [hU], by rw [hU]; exact hPc, va_K.moved hW.alike hK, hDc.weaken (fun _ _ _ _ => trivial)⟩⟩ rfl rfl hl.1 rfl (lv_room (Nat.le_of_ble_eq_true rfl)) dX10_postsOf_1 ⟨Nat.le_of_ble_eq_true rfl, Nat.le_of_ble_eq_true rfl⟩) hS (fun q _ h => hFc q h) hFc (fun _ t H1 locs ht hvm hw hB hz1 hk1 hS => ?_)
  obtain ⟨hP1, hK1, hD1⟩ := hB
  rw [ht] at hP1
  obtain ⟨hP, hD⟩ := va_join (wr := [ar (ad 12) cA 3 gMlimit, ar (ad 20) cA 5 gMpicks, ar (ad 21) cA 5 gMbestPicks]) (w1 := [oM ad xM_typed u_5.1 u_5.2.1 xM_hears xM_censuses xM_finding, ar (ad 1) cA 60 gMtext, ar (ad 2) cA 20 u_5.2.2.1, ar (ad 3) cA 20 u_5.2.2.2.1, ar (ad 4) cA 20 u_5.2.2.2.2.1, ar (ad 5) cA 20 u_5.2.2.2.2.2.1, ar (ad 6) cA 20 u_5.2.2.2.2.2.2.1, ar (ad 7) cA 20 u_5.2.2.2.2.2.2.2.1, ar (ad 8) cA 4 u_5.2.2.2.2.2.2.2.2.1, ar (ad 9) cA 4 u_5.2.2.2.2.2.2.2.2.2.1, ar (ad 10) cA 4 u_5.2.2.2.2.2.2.2.2.2.2.1, ar (ad 11) cA 3 gMsetting, ar (ad 13) cA 8020 u_5.2.2.2.2.2.2.2.2.2.2.2.1, ar (ad 14) cA 20 u_5.2.2.2.2.2.2.2.2.2.2.2.2.1, ar (ad 15) cA 20 u_5.2.2.2.2.2.2.2.2.2.2.2.2.2.1, ar (ad 16) cA 8020 u_5.2.2.2.2.2.2.2.2.2.2.2.2.2.2.1, ar (ad 17) cA 8020 u_5.2.2.2.2.2.2.2.2.2.2.2.2.2.2.2.1, ar (ad 18) cA 20 u_5.2.2.2.2.2.2.2.2.2.2.2.2.2.2.2.2.1, ar (ad 19) cA 20 u_5.2.2.2.2.2.2.2.2.2.2.2.2.2.2.2.2.2]) hP hD [0, 1, 2, 3, 4, 5, 6, 7, 8, 9, 10, 11, 13, 14, 15, 16, 17, 18, 19] [12, 20, 21] rfl rfl (by decide) (by decide) hk1 hFc hP1 hD1
  clear hPc hDc hFc hP1 hK1 hD1 hk1 hz1 hvm ht
  generalize H1 = H at hP hS ⊢
  have hP : va_P (dC, dI) vwCl [oM ad xM_typed u_5.1 u_5.2.1 xM_hears xM_censuses xM_finding, ar (ad 1) cA 60 gMtext, ar (ad 2) cA 20 u_5.2.2.1, ar (ad 3) cA 20 u_5.2.2.2.1, ar (ad 4) cA 20 u_5.2.2.2.2.1, ar (ad 5) cA 20 u_5.2.2.2.2.2.1, ar (ad 6) cA 20 u_5.2.2.2.2.2.2.1, ar (ad 7) cA 20 u_5.2.2.2.2.2.2.2.1, ar (ad 8) cA 4 u_5.2.2.2.2.2.2.2.2.1, ar (ad 9) cA 4 u_5.2.2.2.2.2.2.2.2.2.1, ar (ad 10) cA 4 u_5.2.2.2.2.2.2.2.2.2.2.1, ar (ad 11) cA 3 gMsetting, ar (ad 12) cA 3 gMlimit, ar (ad 13) cA 8020 u_5.2.2.2.2.2.2.2.2.2.2.2.1, ar (ad 14) cA 20 u_5.2.2.2.2.2.2.2.2.2.2.2.2.1, ar (ad 15) cA 20 u_5.2.2.2.2.2.2.2.2.2.2.2.2.2.1, ar (ad 16) cA 8020 u_5.2.2.2.2.2.2.2.2.2.2.2.2.2.2.1, ar (ad 17) cA 8020 u_5.2.2.2.2.2.2.2.2.2.2.2.2.2.2.2.1, ar (ad 18) cA 20 u_5.2.2.2.2.2.2.2.2.2.2.2.2.2.2.2.2.1, ar (ad 19) cA 20 u_5.2.2.2.2.2.2.2.2.2.2.2.2.2.2.2.2.2, ar (ad 20) cA 5 gMpicks, ar (ad 21) cA 5 gMbestPicks] H := hP.sub [3, 4, 5, 6, 7, 8, 9, 10, 11, 12, 13, 14, 0, 15, 16, 17, 18, 19, 20, 21, 1, 2] rfl
  have hD : va_D A [oM ad xM_typed u_5.1 u_5.2.1 xM_hears xM_censuses xM_finding, ar (ad 1) cA 60 gMtext, ar (ad 2) cA 20 u_5.2.2.1, ar (ad 3) cA 20 u_5.2.2.2.1, ar (ad 4) cA 20 u_5.2.2.2.2.1, ar (ad 5) cA 20 u_5.2.2.2.2.2.1, ar (ad 6) cA 20 u_5.2.2.2.2.2.2.1, ar (ad 7) cA 20 u_5.2.2.2.2.2.2.2.1, ar (ad 8) cA 4 u_5.2.2.2.2.2.2.2.2.1, ar (ad 9) cA 4 u_5.2.2.2.2.2.2.2.2.2.1, ar (ad 10) cA 4 u_5.2.2.2.2.2.2.2.2.2.2.1, ar (ad 11) cA 3 gMsetting, ar (ad 12) cA 3 gMlimit, ar (ad 13) cA 8020 u_5.2.2.2.2.2.2.2.2.2.2.2.1, ar (ad 14) cA 20 u_5.2.2.2.2.2.2.2.2.2.2.2.2.1, ar (ad 15) cA 20 u_5.2.2.2.2.2.2.2.2.2.2.2.2.2.1, ar (ad 16) cA 8020 u_5.2.2.2.2.2.2.2.2.2.2.2.2.2.2.1, ar (ad 17) cA 8020 u_5.2.2.2.2.2.2.2.2.2.2.2.2.2.2.2.1, ar (ad 18) cA 20 u_5.2.2.2.2.2.2.2.2.2.2.2.2.2.2.2.2.1, ar (ad 19) cA 20 u_5.2.2.2.2.2.2.2.2.2.2.2.2.2.2.2.2.2, ar (ad 20) cA 5 gMpicks, ar (ad 21) cA 5 gMbestPicks] := hD.sub [3, 4, 5, 6, 7, 8, 9, 10, 11, 12, 13, 14, 0, 15, 16, 17, 18, 19, 20, 21, 1, 2] (by decide) rfl
  refine lv_aload_n hx hb dX10_postsOf_4 rfl (lv_at hl 0 rfl) ?_
  refine va_get (D := (dC, dI)) (ci := 10) (v := .int u_5.2.1) (C := RX10) (T := TX10) (N := 37) hx hb hts hinX10 hown hK hP 0 rfl rfl 19 (by decide) hl_213 (fun _ h9 => h9) rfl dX10_postsOf_5 ?_
  refine lv_if_ne (tgt := 14) hx hb dX10_postsOf_8 (by decide) (fun c_6 => ?_) (fun c_6 => ?_)
  · have hm := it_neg c_6 hm
    refine lv_iconst (v := 0) hx hb dX10_postsOf_14 (by decide) ?_
    refine lv_istore_n (lv' := [(2, .int 0), (0, .ref (ad 0)), (1, .int a1)]) hx hb dX10_postsOf_15 rfl hl (by decide) rfl (fun ls hl => ?_)
    exact h_16 _ _ _ _ _ _ _ _ _ _ _ _ _ _ _ _ _ _ _ _ _ _ _ hm _ _ hP hD hS _ (lv_sub hl [1, 2, 0] rfl)
  · have hm := it_pos c_6 hm
    refine lv_bipush (v := (-3)) hx hb dX10_postsOf_11 (by decide) ?_
    obtain rfl := Option.some.inj hm
    subst hQ
    exact W.iret (v := (-3)) hx hb hr (fun t ht hW => ⟨⟨_, (), rfl, rfl, by rw [ht]; exact hP, va_K.moved hW.alike hK, hAe ▸ hD⟩, hS.F ht⟩) hS.2.2 dX10_postsOf_13
