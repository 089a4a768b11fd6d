set_option maxHeartbeats 4000000 in
set_option maxRecDepth 100000 in
theorem kM_feels (l : Launch) (dC : Nat → ClassId) (dI : Nat → Nat → Nat) (cA : ClassId) (cB : ClassId) (ad : Nat → Nat) (sz : Nat) (a1 : Int32) (a2 : Int32) (a3 : Int32) (a4 : Int32) (xM_typed : Int32) (xM_people : Int32) (xM_posted : Int32) (xM_hears : Int32) (xM_censuses : Int32) (xM_finding : Int32) (gMkinds : Nat → Int32) (gMlates : Nat → Int32) (gMscarfs : Nat → Int32) (gMhands : Nat → Int32) (gMrings : Nat → Int32) (gMcomes : Nat → Int32) (gMbusyTo : Nat → Int32) (gMfeltMany : Nat → Int32) (gMfeltBits : Nat → Int32) (gMlostBits : Nat → Int32) (u : (Nat → Int32) × (Nat → Int32) × (Nat → Int32) × (Nat → Int32) × (Nat → Int32)) (hm : fM_feels a1 a2 a3 a4 xM_people gMkinds gMlates gMscarfs gMhands gMrings gMcomes gMbusyTo gMfeltMany gMfeltBits gMlostBits = some u) : Met l yX10_feels wsX10_feels ({ frames := 2, cells := 0, slots := 0, locals := 47 }) (va_Pc [.ref (ad 0), .int a1, .int a2, .int a3, .int a4] (fun U => U.heap.size = sz ∧ va_P (dC, dI) vwCl [oM ad xM_typed xM_people xM_posted xM_hears xM_censuses xM_finding, ar (ad 2) cA 20 gMkinds, ar (ad 3) cA 20 gMlates, ar (ad 4) cA 20 gMscarfs, ar (ad 5) cA 20 gMhands, ar (ad 6) cA 20 gMrings, ar (ad 13) cA 8020 gMcomes, ar (ad 14) cA 20 gMbusyTo, ar (ad 15) cA 20 gMfeltMany, ar (ad 16) cA 8020 gMfeltBits, ar (ad 17) cA 8020 gMlostBits] U.heap ∧ va_K (dC, dI) vwCl [(cA, .int), (cB, .boolean)] U ∧ va_D (fun _ => True) [oM ad xM_typed xM_people xM_posted xM_hears xM_censuses xM_finding, ar (ad 2) cA 20 gMkinds, ar (ad 3) cA 20 gMlates, ar (ad 4) cA 20 gMscarfs, ar (ad 5) cA 20 gMhands, ar (ad 6) cA 20 gMrings, ar (ad 13) cA 8020 gMcomes, ar (ad 14) cA 20 gMbusyTo, ar (ad 15) cA 20 gMfeltMany, ar (ad 16) cA 8020 gMfeltBits, ar (ad 17) cA 8020 gMlostBits])) (va_Qv (fun (_ : Unit) => True) (fun (_ : Unit) t => va_P (dC, dI) vwCl [oM ad xM_typed xM_people xM_posted xM_hears xM_censuses xM_finding, ar (ad 2) cA 20 gMkinds, ar (ad 3) cA 20 gMlates, ar (ad 4) cA 20 gMscarfs, ar (ad 5) cA 20 gMhands, ar (ad 6) cA 20 gMrings, ar (ad 13) cA 8020 u.1, ar (ad 14) cA 20 u.2.1, ar (ad 15) cA 20 u.2.2.1, ar (ad 16) cA 8020 u.2.2.2.1, ar (ad 17) cA 8020 u.2.2.2.2] t.heap ∧ va_K (dC, dI) vwCl [(cA, .int), (cB, .boolean)] t ∧ va_D (va_A [oM ad xM_typed xM_people xM_posted xM_hears xM_censuses xM_finding, ar (ad 2) cA 20 gMkinds, ar (ad 3) cA 20 gMlates, ar (ad 4) cA 20 gMscarfs, ar (ad 5) cA 20 gMhands, ar (ad 6) cA 20 gMrings, ar (ad 13) cA 8020 gMcomes, ar (ad 14) cA 20 gMbusyTo, ar (ad 15) cA 20 gMfeltMany, ar (ad 16) cA 8020 gMfeltBits, ar (ad 17) cA 8020 gMlostBits] sz) [oM ad xM_typed xM_people xM_posted xM_hears xM_censuses xM_finding, ar (ad 2) cA 20 gMkinds, ar (ad 3) cA 20 gMlates, ar (ad 4) cA 20 gMscarfs, ar (ad 5) cA 20 gMhands, ar (ad 6) cA 20 gMrings, ar (ad 13) cA 8020 u.1, ar (ad 14) cA 20 u.2.1, ar (ad 15) cA 20 u.2.2.1, ar (ad 16) cA 8020 u.2.2.2.1, ar (ad 17) cA 8020 u.2.2.2.2]) (va_A [oM ad xM_typed xM_people xM_posted xM_hears xM_censuses xM_finding, ar (ad 2) cA 20 gMkinds, ar (ad 3) cA 20 gMlates, ar (ad 4) cA 20 gMscarfs, ar (ad 5) cA 20 gMhands, ar (ad 6) cA 20 gMrings, ar (ad 13) cA 8020 gMcomes, ar (ad 14) cA 20 gMbusyTo, ar (ad 15) cA 20 gMfeltMany, ar (ad 16) cA 8020 gMfeltBits, ar (ad 17) cA 8020 gMlostBits] sz)) 0 0 (va_A [oM ad xM_typed xM_people xM_posted xM_hears xM_censuses xM_finding, ar (ad 2) cA 20 gMkinds, ar (ad 3) cA 20 gMlates, ar (ad 4) cA 20 gMscarfs, ar (ad 5) cA 20 gMhands, ar (ad 6) cA 20 gMrings, ar (ad 13) cA 8020 gMcomes, ar (ad 14) cA 20 gMbusyTo, ar (ad 15) cA 20 gMfeltMany, ar (ad 16) cA 8020 gMfeltBits, ar (ad 17) cA 8020 gMlostBits] sz) := by
  refine Met.ofW (cc := cX10_feels) (maxL := 8) (ret := none) (by decide) rfl ?_
  intro p e s m args below meth c s₁ B hml hv
  obtain ⟨rfl, hsz, hP, hK, hD0⟩ := hv
  have hx := B.exec
  have hb := B.bytes
  have hr := B.returns
  have hts := atoms_spec (ws := wsX10_feels) B.pre
  have hown : s.vm.findClass RX10 = some m.cls := findClass_of_methodNamed B.named
  have hlocks := B.notSynchronized
  subst hsz
  have hD := hD0.self (sz := s.heap.size)
  generalize hAe : va_A [oM ad xM_typed xM_people xM_posted xM_hears xM_censuses xM_finding, ar (ad 2) cA 20 gMkinds, ar (ad 3) cA 20 gMlates, ar (ad 4) cA 20 gMscarfs, ar (ad 5) cA 20 gMhands, ar (ad 6) cA 20 gMrings, ar (ad 13) cA 8020 gMcomes, ar (ad 14) cA 20 gMbusyTo, ar (ad 15) cA 20 gMfeltMany, ar (ad 16) cA 8020 gMfeltBits, ar (ad 17) cA 8020 gMlostBits] s.heap.size = A at hD ⊢
  have hA : ∀ q : Nat, s.heap.size ≤ q → A q := fun q h => by rw [← hAe]; exact Or.inr h
  have hS : va_S A s.heap s.heap [] := va_S.rf
  have hl := lv_entry ([.ref (ad 0), .int a1, .int a2, .int a3, .int a4]) (n := 8) (Nat.le_of_ble_eq_true rfl)
  rw [lg_entry_eq]
  generalize (lg_sl ([.ref (ad 0), .int a1, .int a2, .int a3, .int a4]) ++ List.replicate (8 - (lg_sl ([.ref (ad 0), .int a1, .int a2, .int a3, .int a4])).length) Slot.unset).toArray = ls at hl ⊢
  have hl : lv_has ls 8 [(0, .ref (ad 0)), (1, .int a1), (2, .int a2), (3, .int a3), (4, .int a4)] := hl
  refine wk_Q (fun QQ hQ => ?_)
  have hinX10 : ∀ w ∈ wsX100, w ∈ wsX10_feels := fun w h => List.mem_cons_of_mem _ (inlX10 w h)
  have hl_49 := hts (.fieldLink RX10 49 "HandCensusModel" "busyTo" "[I") (List.mem_cons_of_mem _ (in_r7 _ (List.mem_of_getElem? (i := 8) rfl)))
  have hl_16 := hts (.fieldLink RX10 16 "HandCensusModel" "lates" "[I") (List.mem_cons_of_mem _ (in_r6 _ (List.mem_of_getElem? (i := 21) rfl)))
  have hl_52 := hts (.fieldLink RX10 52 "HandCensusModel" "feltMany" "[I") (List.mem_cons_of_mem _ (in_r7 _ (List.mem_of_getElem? (i := 9) rfl)))
  have hl_55 := hts (.fieldLink RX10 55 "HandCensusModel" "feltBits" "[I") (List.mem_cons_of_mem _ (in_r7 _ (List.mem_of_getElem? (i := 10) rfl)))
  have hl_13 := hts (.fieldLink RX10 13 "HandCensusModel" "kinds" "[I") (List.mem_cons_of_mem _ (in_r6 _ (List.mem_of_getElem? (i := 20) rfl)))
  have hl_58 := hts (.fieldLink RX10 58 "HandCensusModel" "lostBits" "[I") (List.mem_cons_of_mem _ (in_r7 _ (List.mem_of_getElem? (i := 11) rfl)))
  have b_158 : ∀ (v1_158 : Int32) (v7_158 : Int32) (gMcomes_158 : Nat → Int32) (gMbusyTo_158 : Nat → Int32) (gMfeltMany_158 : Nat → Int32) (gMfeltBits_158 : Nat → Int32) (gMlostBits_158 : Nat → Int32), fM_feels_158 v1_158 v7_158 gMcomes_158 gMbusyTo_158 gMfeltMany_158 gMfeltBits_158 gMlostBits_158 = some u → ∀ (H : Heap) (locs : List Loc), va_P (dC, dI) vwCl [oM ad xM_typed xM_people xM_posted xM_hears xM_censuses xM_finding, ar (ad 2) cA 20 gMkinds, ar (ad 3) cA 20 gMlates, ar (ad 4) cA 20 gMscarfs, ar (ad 5) cA 20 gMhands, ar (ad 6) cA 20 gMrings, ar (ad 13) cA 8020 gMcomes_158, ar (ad 14) cA 20 gMbusyTo_158, ar (ad 15) cA 20 gMfeltMany_158, ar (ad 16) cA 8020 gMfeltBits_158, ar (ad 17) cA 8020 gMlostBits_158] H → va_D A [oM ad xM_typed xM_people xM_posted xM_hears xM_censuses xM_finding, ar (ad 2) cA 20 gMkinds, ar (ad 3) cA 20 gMlates, ar (ad 4) cA 20 gMscarfs, ar (ad 5) cA 20 gMhands, ar (ad 6) cA 20 gMrings, ar (ad 13) cA 8020 gMcomes_158, ar (ad 14) cA 20 gMbusyTo_158, ar (ad 15) cA 20 gMfeltMany_158, ar (ad 16) cA 8020 gMfeltBits_158, ar (ad 17) cA 8020 gMlostBits_158] → va_S A s.heap H locs → ∀ ls : Array Slot, lv_has ls 8 [(0, .ref (ad 0)), (1, .int v1_158), (7, .int v7_158)] → W p l e (headSpec wsX10_feels ({ frames := 2, cells := 0, slots := 0, locals := 47 })).room s m ([.ref (ad 0), .int a1, .int a2, .int a3, .int a4] : List Value).toArray below meth c H locs 0 0 QQ (F0 m 158 ls []) := by
    intro v1_158 v7_158 gMcomes_158 gMbusyTo_158 gMfeltMany_158 gMfeltBits_158 gMlostBits_158 hm H locs hP hD hS ls hl
    unfold fM_feels_158 at hm
    refine lv_aload_n hx hb dX10_feels_158 rfl (lv_at hl 0 rfl) ?_
    refine va_get (D := (dC, dI)) (ci := 10) (v := .ref (ad 14)) (C := RX10) (T := TX10) (N := 37) hx hb hts hinX10 hown hK hP 0 rfl rfl 15 (by decide) hl_49 (fun _ h9 => h9) rfl dX10_feels_159 ?_
    refine lv_iload_n hx hb dX10_feels_162 rfl (lv_at hl 1 rfl) ?_
    refine lv_iload hx hb dX10_feels_163 (lv_at hl 2 rfl) ?_
    obtain ⟨i_1, hm⟩ := ck_ok hm
    refine va_iast hx hb hK hP hD hS 7 0 rfl rfl i_1 dX10_feels_165 (fun H locs hP hD hS => ?_)
    have hP : va_P (dC, dI) vwCl [oM ad xM_typed xM_people xM_posted xM_hears xM_censuses xM_finding, ar (ad 2) cA 20 gMkinds, ar (ad 3) cA 20 gMlates, ar (ad 4) cA 20 gMscarfs, ar (ad 5) cA 20 gMhands, ar (ad 6) cA 20 gMrings, ar (ad 13) cA 8020 gMcomes_158, ar (ad 14) cA 20 (upd gMbusyTo_158 v1_158.toNatClampNeg v7_158), ar (ad 15) cA 20 gMfeltMany_158, ar (ad 16) cA 8020 gMfeltBits_158, ar (ad 17) cA 8020 gMlostBits_158] H := hP
    have hD : va_D A [oM ad xM_typed xM_people xM_posted xM_hears xM_censuses xM_finding, ar (ad 2) cA 20 gMkinds, ar (ad 3) cA 20 gMlates, ar (ad 4) cA 20 gMscarfs, ar (ad 5) cA 20 gMhands, ar (ad 6) cA 20 gMrings, ar (ad 13) cA 8020 gMcomes_158, ar (ad 14) cA 20 (upd gMbusyTo_158 v1_158.toNatClampNeg v7_158), ar (ad 15) cA 20 gMfeltMany_158, ar (ad 16) cA 8020 gMfeltBits_158, ar (ad 17) cA 8020 gMlostBits_158] := hD
    obtain rfl := Option.some.inj hm
    subst hQ
    exact W.vret hx hb hr (fun t ht hW => ⟨⟨(), rfl, trivial, by rw [ht]; exact hP, va_K.moved hW.alike hK, hAe ▸ hD⟩, hS.F ht⟩) hS.2.2 dX10_feels_166
  have b_126 : ∀ (v1_126 : Int32) (v2_126 : Int32) (v3_126 : Int32) (v5_126 : Int32) (s0_126 : Int32) (s1_126 : Int32) (s2_126 : Int32) (gMcomes_126 : Nat → Int32) (gMbusyTo_126 : Nat → Int32) (gMfeltMany_126 : Nat → Int32) (gMfeltBits_126 : Nat → Int32) (gMlostBits_126 : Nat → Int32), fM_feels_126 v1_126 v2_126 v3_126 v5_126 s0_126 s1_126 s2_126 xM_people gMlates gMscarfs gMhands gMrings gMcomes_126 gMbusyTo_126 gMfeltMany_126 gMfeltBits_126 gMlostBits_126 = some u → ∀ (H : Heap) (locs : List Loc), va_P (dC, dI) vwCl [oM ad xM_typed xM_people xM_posted xM_hears xM_censuses xM_finding, ar (ad 2) cA 20 gMkinds, ar (ad 3) cA 20 gMlates, ar (ad 4) cA 20 gMscarfs, ar (ad 5) cA 20 gMhands, ar (ad 6) cA 20 gMrings, ar (ad 13) cA 8020 gMcomes_126, ar (ad 14) cA 20 gMbusyTo_126, ar (ad 15) cA 20 gMfeltMany_126, ar (ad 16) cA 8020 gMfeltBits_126, ar (ad 17) cA 8020 gMlostBits_126] H → va_D A [oM ad xM_typed xM_people xM_posted xM_hears xM_censuses xM_finding, ar (ad 2) cA 20 gMkinds, ar (ad 3) cA 20 gMlates, ar (ad 4) cA 20 gMscarfs, ar (ad 5) cA 20 gMhands, ar (ad 6) cA 20 gMrings, ar (ad 13) cA 8020 gMcomes_126, ar (ad 14) cA 20 gMbusyTo_126, ar (ad 15) cA 20 gMfeltMany_126, ar (ad 16) cA 8020 gMfeltBits_126, ar (ad 17) cA 8020 gMlostBits_126] → va_S A s.heap H locs → ∀ ls : Array Slot, lv_has ls 8 [(0, .ref (ad 0)), (1, .int v1_126), (2, .int v2_126), (3, .int v3_126), (5, .int v5_126)] → W p l e (headSpec wsX10_feels ({ frames := 2, cells := 0, slots := 0, locals := 47 })).room s m ([.ref (ad 0), .int a1, .int a2, .int a3, .int a4] : List Value).toArray below meth c H locs 0 0 QQ (F0 m 126 ls [.int s2_126, .int s1_126, .int s0_126]) := by
    intro v1_126 v2_126 v3_126 v5_126 s0_126 s1_126 s2_126 gMcomes_126 gMbusyTo_126 gMfeltMany_126 gMfeltBits_126 gMlostBits_126 hm H locs hP hD hS ls hl
    unfold fM_feels_126 at hm
    refine lv_imul hx hb dX10_feels_126 ?_
    refine lv_iadd hx hb dX10_feels_127 ?_
    refine lv_istore (lv' := [(7, .int (s0_126 + (s1_126 * s2_126))), (0, .ref (ad 0)), (1, .int v1_126), (2, .int v2_126), (3, .int v3_126), (5, .int v5_126)]) hx hb dX10_feels_128 hl (by decide) rfl (fun ls hl => ?_)
    refine lv_aload_n hx hb dX10_feels_130 rfl (lv_at hl 1 rfl) ?_
    refine lv_iload_n hx hb dX10_feels_131 rfl (lv_at hl 2 rfl) ?_
    refine lv_iload_n hx hb dX10_feels_132 rfl (lv_at hl 3 rfl) ?_
    refine lv_aload_n hx hb dX10_feels_133 rfl (lv_at hl 1 rfl) ?_
    refine va_get (D := (dC, dI)) (ci := 10) (v := .ref (ad 3)) (C := RX10) (T := TX10) (N := 37) hx hb hts hinX10 hown hK hP 0 rfl rfl 4 (by decide) hl_16 (fun _ h9 => h9) rfl dX10_feels_134 ?_
    refine lv_iload_n hx hb dX10_feels_137 rfl (lv_at hl 2 rfl) ?_
    obtain ⟨i_2, hm⟩ := ck_ok hm
    refine va_iald hx hb hK hP 2 0 rfl rfl i_2 dX10_feels_138 ?_
    refine lv_iadd hx hb dX10_feels_139 ?_
    refine lv_iload_n hx hb dX10_feels_140 rfl (lv_at hl 4 rfl) ?_
    have hPc := hP.sub (ws' := [oM ad xM_typed xM_people xM_posted xM_hears xM_censuses xM_finding, ar (ad 4) cA 20 gMscarfs, ar (ad 5) cA 20 gMhands, ar (ad 6) cA 20 gMrings, ar (ad 13) cA 8020 gMcomes_126]) [0, 3, 4, 5, 6] rfl
    have hDc := hD.sub (ws' := [oM ad xM_typed xM_people xM_posted xM_hears xM_censuses xM_finding, ar (ad 4) cA 20 gMscarfs, ar (ad 5) cA 20 gMhands, ar (ad 6) cA 20 gMrings, ar (ad 13) cA 8020 gMcomes_126]) [0, 3, 4, 5, 6] (by decide) rfl
    have hFc := va_free (wc := [oM ad xM_typed xM_people xM_posted xM_hears xM_censuses xM_finding, ar (ad 4) cA 20 gMscarfs, ar (ad 5) cA 20 gMhands, ar (ad 6) cA 20 gMrings, ar (ad 13) cA 8020 gMcomes_126]) hD hS hA [0, 3, 4, 5, 6] rfl
    obtain ⟨u_3, hc_3, hm⟩ := bd_ok hm
    refine va_callv (va_runV (As := [.int v1_126, .int (v2_126 + (gMlates v1_126.toNatClampNeg)), .int v3_126]) (rest := []) ⟨hx, hb, hml, hown, hts⟩ (kM_passes l dC dI cA cB ad H.size v1_126 (v2_126 + (gMlates v1_126.toNatClampNeg)) v3_126 xM_typed xM_people xM_posted xM_hears xM_censuses xM_finding gMscarfs gMhands gMrings gMcomes_126 u_3 hc_3) (cwV 3 hts gX10_feels_X10_passes rfl rfl rfl (by decide +kernel) ⟨Nat.le_of_ble_eq_true rfl, Nat.le_of_ble_eq_true rfl⟩) ⟨fun a U g mk q => by obtain ⟨q0, q1, qP, qK, qD⟩ := q; exact ⟨q0, q1, qP, va_K.moved (u := U) (U := U.calling g mk a) (Vm.Alike.refl U.vm) qK, qD⟩, va_recv hK hPc (ci := 10) (q0 := 0) rfl rfl, fun U hU hW => ⟨rfl, by rw [hU], by rw [hU]; exact hPc, va_K.moved hW.alike hK, hDc.weaken (fun _ _ _ _ => trivial)⟩⟩ rfl rfl hl.1 rfl (lv_room (Nat.le_of_ble_eq_true rfl)) dX10_feels_141 ⟨Nat.le_of_ble_eq_true rfl, Nat.le_of_ble_eq_true rfl⟩) hS (fun q _ h => hFc q h) hFc (fun _ t H1 locs ht hvm hw hB hz1 hk1 hS => ?_)
    obtain ⟨hP1, hK1, hD1⟩ := hB
    rw [ht] at hP1
    obtain ⟨hP, hD⟩ := va_join (wr := [ar (ad 2) cA 20 gMkinds, ar (ad 3) cA 20 gMlates, ar (ad 14) cA 20 gMbusyTo_126, ar (ad 15) cA 20 gMfeltMany_126, ar (ad 16) cA 8020 gMfeltBits_126, ar (ad 17) cA 8020 gMlostBits_126]) (w1 := [oM ad xM_typed xM_people xM_posted xM_hears xM_censuses xM_finding, ar (ad 4) cA 20 gMscarfs, ar (ad 5) cA 20 gMhands, ar (ad 6) cA 20 gMrings, ar (ad 13) cA 8020 u_3]) hP hD [0, 3, 4, 5, 6] [1, 2, 7, 8, 9, 10] rfl rfl (by decide) (by decide) hk1 hFc hP1 hD1
    clear hPc hDc hFc hP1 hK1 hD1 hk1 hz1 hvm ht
    generalize H1 = H at hP hS ⊢
    have hP : va_P (dC, dI) vwCl [oM ad xM_typed xM_people xM_posted xM_hears xM_censuses xM_finding, ar (ad 2) cA 20 gMkinds, ar (ad 3) cA 20 gMlates, ar (ad 4) cA 20 gMscarfs, ar (ad 5) cA 20 gMhands, ar (ad 6) cA 20 gMrings, ar (ad 13) cA 8020 u_3, ar (ad 14) cA 20 gMbusyTo_126, ar (ad 15) cA 20 gMfeltMany_126, ar (ad 16) cA 8020 gMfeltBits_126, ar (ad 17) cA 8020 gMlostBits_126] H := hP.sub [6, 0, 1, 7, 8, 9, 10, 2, 3, 4, 5] rfl
    have hD : va_D A [oM ad xM_typed xM_people xM_posted xM_hears xM_censuses xM_finding, ar (ad 2) cA 20 gMkinds, ar (ad 3) cA 20 gMlates, ar (ad 4) cA 20 gMscarfs, ar (ad 5) cA 20 gMhands, ar (ad 6) cA 20 gMrings, ar (ad 13) cA 8020 u_3, ar (ad 14) cA 20 gMbusyTo_126, ar (ad 15) cA 20 gMfeltMany_126, ar (ad 16) cA 8020 gMfeltBits_126, ar (ad 17) cA 8020 gMlostBits_126] := hD.sub [6, 0, 1, 7, 8, 9, 10, 2, 3, 4, 5] (by decide) rfl
    refine lv_iload hx hb dX10_feels_144 (lv_at hl 5 rfl) ?_
    refine lv_iconst (v := 1) hx hb dX10_feels_146 (by decide) ?_
    refine lv_icmp_ne (tgt := 158) hx hb dX10_feels_147 (by decide) (fun c_4 => ?_) (fun c_4 => ?_)
    · have hm := it_neg c_4 hm
      exact b_158 _ _ _ _ _ _ _ hm _ _ hP hD hS _ (lv_sub hl [1, 2, 0] rfl)
    · have hm := it_pos c_4 hm
      refine lv_aload_n hx hb dX10_feels_150 rfl (lv_at hl 1 rfl) ?_
      refine lv_iload_n hx hb dX10_feels_151 rfl (lv_at hl 2 rfl) ?_
      refine lv_iload hx hb dX10_feels_152 (lv_at hl 0 rfl) ?_
      refine lv_iload_n hx hb dX10_feels_154 rfl (lv_at hl 4 rfl) ?_
      have hPc := hP.sub (ws' := [oM ad xM_typed xM_people xM_posted xM_hears xM_censuses xM_finding, ar (ad 4) cA 20 gMscarfs, ar (ad 5) cA 20 gMhands, ar (ad 6) cA 20 gMrings, ar (ad 13) cA 8020 u_3]) [0, 3, 4, 5, 6] rfl
      have hDc := hD.sub (ws' := [oM ad xM_typed xM_people xM_posted xM_hears xM_censuses xM_finding, ar (ad 4) cA 20 gMscarfs, ar (ad 5) cA 20 gMhands, ar (ad 6) cA 20 gMrings, ar (ad 13) cA 8020 u_3]) [0, 3, 4, 5, 6] (by decide) rfl
      have hFc := va_free (wc := [oM ad xM_typed xM_people xM_posted xM_hears xM_censuses xM_finding, ar (ad 4) cA 20 gMscarfs, ar (ad 5) cA 20 gMhands, ar (ad 6) cA 20 gMrings, ar (ad 13) cA 8020 u_3]) hD hS hA [0, 3, 4, 5, 6] rfl
      obtain ⟨u_5, hc_5, hm⟩ := bd_ok hm
      refine va_callv (va_runV (As := [.int v1_126, .int (s0_126 + (s1_126 * s2_126)), .int v3_126]) (rest := []) ⟨hx, hb, hml, hown, hts⟩ (kM_passes l dC dI cA cB ad H.size v1_126 (s0_126 + (s1_126 * s2_126)) v3_126 xM_typed xM_people xM_posted xM_hears xM_censuses xM_finding gMscarfs gMhands gMrings u_3 u_5 hc_5) (cwV 3 hts gX10_feels_X10_passes rfl rfl rfl (by decide +kernel) ⟨Nat.le_of_ble_eq_true rfl, Nat.le_of_ble_eq_true rfl⟩) ⟨fun a U g mk q => by obtain ⟨q0, q1, qP, qK, qD⟩ := q; exact ⟨q0, q1, qP, va_K.moved (u := U) (U := U.calling g mk a) (Vm.Alike.refl U.vm) qK, qD⟩, va_recv hK hPc (ci := 10) (q0 := 0) rfl rfl, fun U hU hW => ⟨rfl, by rw [hU], by rw [hU]; exact hPc, va_K.moved hW.alike hK, hDc.weaken (fun _ _ _ _ => trivial)⟩⟩ rfl rfl hl.1 rfl (lv_room (Nat.le_of_ble_eq_true rfl)) dX10_feels_155 ⟨Nat.le_of_ble_eq_true rfl, Nat.le_of_ble_eq_true rfl⟩) hS (fun q _ h => hFc q h) hFc (fun _ t H1 locs ht hvm hw hB hz1 hk1 hS => ?_)
      obtain ⟨hP1, hK1, hD1⟩ := hB
      rw [ht] at hP1
      obtain ⟨hP, hD⟩ := va_join (wr := [ar (ad 2) cA 20 gMkinds, ar (ad 3) cA 20 gMlates, ar (ad 14) cA 20 gMbusyTo_126, ar (ad 15) cA 20 gMfeltMany_126, ar (ad 16) cA 8020 gMfeltBits_126, ar (ad 17) cA 8020 gMlostBits_126]) (w1 := [oM ad xM_typed xM_people xM_posted xM_hears xM_censuses xM_finding, ar (ad 4) cA 20 gMscarfs, ar (ad 5) cA 20 gMhands, ar (ad 6) cA 20 gMrings, ar (ad 13) cA 8020 u_5]) hP hD [0, 3, 4, 5, 6] [1, 2, 7, 8, 9, 10] rfl rfl (by decide) (by decide) hk1 hFc hP1 hD1
      clear hPc hDc hFc hP1 hK1 hD1 hk1 hz1 hvm ht
      generalize H1 = H at hP hS ⊢
      have hP : va_P (dC, dI) vwCl [oM ad xM_typed xM_people xM_posted xM_hears xM_censuses xM_finding, ar (ad 2) cA 20 gMkinds, ar (ad 3) cA 20 gMlates, ar (ad 4) cA 20 gMscarfs, ar (ad 5) cA 20 gMhands, ar (ad 6) cA 20 gMrings, ar (ad 13) cA 8020 u_5, ar (ad 14) cA 20 gMbusyTo_126, ar (ad 15) cA 20 gMfeltMany_126, ar (ad 16) cA 8020 gMfeltBits_126, ar (ad 17) cA 8020 gMlostBits_126] H := hP.sub [6, 0, 1, 7, 8, 9, 10, 2, 3, 4, 5] rfl
      have hD : va_D A [oM ad xM_typed xM_people xM_posted xM_hears xM_censuses xM_finding, ar (ad 2) cA 20 gMkinds, ar (ad 3) cA 20 gMlates, ar (ad 4) cA 20 gMscarfs, ar (ad 5) cA 20 gMhands, ar (ad 6) cA 20 gMrings, ar (ad 13) cA 8020 u_5, ar (ad 14) cA 20 gMbusyTo_126, ar (ad 15) cA 20 gMfeltMany_126, ar (ad 16) cA 8020 gMfeltBits_126, ar (ad 17) cA 8020 gMlostBits_126] := hD.sub [6, 0, 1, 7, 8, 9, 10, 2, 3, 4, 5] (by decide) rfl
      exact b_158 _ _ _ _ _ _ _ hm _ _ hP hD hS _ (lv_sub hl [1, 2, 0] rfl)
  have b_101 : ∀ (v1_101 : Int32) (v2_101 : Int32) (v3_101 : Int32) (v5_101 : Int32) (s0_101 : Int32) (gMcomes_101 : Nat → Int32) (gMbusyTo_101 : Nat → Int32) (gMfeltMany_101 : Nat → Int32) (gMfeltBits_101 : Nat → Int32) (gMlostBits_101 : Nat → Int32), fM_feels_101 v1_101 v2_101 v3_101 v5_101 s0_101 xM_people gMlates gMscarfs gMhands gMrings gMcomes_101 gMbusyTo_101 gMfeltMany_101 gMfeltBits_101 gMlostBits_101 = some u → ∀ (H : Heap) (locs : List Loc), va_P (dC, dI) vwCl [oM ad xM_typed xM_people xM_posted xM_hears xM_censuses xM_finding, ar (ad 2) cA 20 gMkinds, ar (ad 3) cA 20 gMlates, ar (ad 4) cA 20 gMscarfs, ar (ad 5) cA 20 gMhands, ar (ad 6) cA 20 gMrings, ar (ad 13) cA 8020 gMcomes_101, ar (ad 14) cA 20 gMbusyTo_101, ar (ad 15) cA 20 gMfeltMany_101, ar (ad 16) cA 8020 gMfeltBits_101, ar (ad 17) cA 8020 gMlostBits_101] H → va_D A [oM ad xM_typed xM_people xM_posted xM_hears xM_censuses xM_finding, ar (ad 2) cA 20 gMkinds, ar (ad 3) cA 20 gMlates, ar (ad 4) cA 20 gMscarfs, ar (ad 5) cA 20 gMhands, ar (ad 6) cA 20 gMrings, ar (ad 13) cA 8020 gMcomes_101, ar (ad 14) cA 20 gMbusyTo_101, ar (ad 15) cA 20 gMfeltMany_101, ar (ad 16) cA 8020 gMfeltBits_101, ar (ad 17) cA 8020 gMlostBits_101] → va_S A s.heap H locs → ∀ ls : Array Slot, lv_has ls 8 [(0, .ref (ad 0)), (1, .int v1_101), (2, .int v2_101), (3, .int v3_101), (5, .int v5_101)] → W p l e (headSpec wsX10_feels ({ frames := 2, cells := 0, slots := 0, locals := 47 })).room s m ([.ref (ad 0), .int a1, .int a2, .int a3, .int a4] : List Value).toArray below meth c H locs 0 0 QQ (F0 m 101 ls [.int s0_101]) := by
    intro v1_101 v2_101 v3_101 v5_101 s0_101 gMcomes_101 gMbusyTo_101 gMfeltMany_101 gMfeltBits_101 gMlostBits_101 hm H locs hP hD hS ls hl
    unfold fM_feels_101 at hm
    refine lv_istore (lv' := [(6, .int s0_101), (0, .ref (ad 0)), (1, .int v1_101), (2, .int v2_101), (3, .int v3_101), (5, .int v5_101)]) hx hb dX10_feels_101 hl (by decide) rfl (fun ls hl => ?_)
    refine lv_iload hx hb dX10_feels_103 (lv_at hl 0 rfl) ?_
    refine lv_if_eq (tgt := 166) hx hb dX10_feels_105 (by decide) (fun c_6 => ?_) (fun c_6 => ?_)
    · have hm := it_pos c_6 hm
      obtain rfl := Option.some.inj hm
      subst hQ
      exact W.vret hx hb hr (fun t ht hW => ⟨⟨(), rfl, trivial, by rw [ht]; exact hP, va_K.moved hW.alike hK, hAe ▸ hD⟩, hS.F ht⟩) hS.2.2 dX10_feels_166
    · have hm := it_neg c_6 hm
      refine lv_iload_n hx hb dX10_feels_108 rfl (lv_at hl 3 rfl) ?_
      refine lv_aload_n hx hb dX10_feels_109 rfl (lv_at hl 1 rfl) ?_
      refine va_get (D := (dC, dI)) (ci := 10) (v := .ref (ad 3)) (C := RX10) (T := TX10) (N := 37) hx hb hts hinX10 hown hK hP 0 rfl rfl 4 (by decide) hl_16 (fun _ h9 => h9) rfl dX10_feels_110 ?_
      refine lv_iload_n hx hb dX10_feels_113 rfl (lv_at hl 2 rfl) ?_
      obtain ⟨i_7, hm⟩ := ck_ok hm
      refine va_iald hx hb hK hP 2 0 rfl rfl i_7 dX10_feels_114 ?_
      refine lv_iload hx hb dX10_feels_115 (lv_at hl 5 rfl) ?_
      refine lv_iconst (v := 1) hx hb dX10_feels_117 (by decide) ?_
      refine lv_icmp_ne (tgt := 125) hx hb dX10_feels_118 (by decide) (fun c_8 => ?_) (fun c_8 => ?_)
      · have hm := it_neg c_8 hm
        refine lv_iconst (v := 1) hx hb dX10_feels_125 (by decide) ?_
        exact b_126 _ _ _ _ _ _ _ _ _ _ _ _ hm _ _ hP hD hS _ (lv_sub hl [1, 2, 3, 4, 5] rfl)
      · have hm := it_pos c_8 hm
        refine lv_iconst (v := 2) hx hb dX10_feels_121 (by decide) ?_
        refine lv_goto (tgt := 126) hx hb dX10_feels_122 (by decide) ?_
        exact b_126 _ _ _ _ _ _ _ _ _ _ _ _ hm _ _ hP hD hS _ (lv_sub hl [1, 2, 3, 4, 5] rfl)
  have b_100 : ∀ (v1_100 : Int32) (v2_100 : Int32) (v3_100 : Int32) (v5_100 : Int32) (gMcomes_100 : Nat → Int32) (gMbusyTo_100 : Nat → Int32) (gMfeltMany_100 : Nat → Int32) (gMfeltBits_100 : Nat → Int32) (gMlostBits_100 : Nat → Int32), fM_feels_100 v1_100 v2_100 v3_100 v5_100 xM_people gMlates gMscarfs gMhands gMrings gMcomes_100 gMbusyTo_100 gMfeltMany_100 gMfeltBits_100 gMlostBits_100 = some u → ∀ (H : Heap) (locs : List Loc), va_P (dC, dI) vwCl [oM ad xM_typed xM_people xM_posted xM_hears xM_censuses xM_finding, ar (ad 2) cA 20 gMkinds, ar (ad 3) cA 20 gMlates, ar (ad 4) cA 20 gMscarfs, ar (ad 5) cA 20 gMhands, ar (ad 6) cA 20 gMrings, ar (ad 13) cA 8020 gMcomes_100, ar (ad 14) cA 20 gMbusyTo_100, ar (ad 15) cA 20 gMfeltMany_100, ar (ad 16) cA 8020 gMfeltBits_100, ar (ad 17) cA 8020 gMlostBits_100] H → va_D A [oM ad xM_typed xM_people xM_posted xM_hears xM_censuses xM_finding, ar (ad 2) cA 20 gMkinds, ar (ad 3) cA 20 gMlates, ar (ad 4) cA 20 gMscarfs, ar (ad 5) cA 20 gMhands, ar (ad 6) cA 20 gMrings, ar (ad 13) cA 8020 gMcomes_100, ar (ad 14) cA 20 gMbusyTo_100, ar (ad 15) cA 20 gMfeltMany_100, ar (ad 16) cA 8020 gMfeltBits_100, ar (ad 17) cA 8020 gMlostBits_100] → va_S A s.heap H locs → ∀ ls : Array Slot, lv_has ls 8 [(0, .ref (ad 0)), (1, .int v1_100), (2, .int v2_100), (3, .int v3_100), (5, .int v5_100)] → W p l e (headSpec wsX10_feels ({ frames := 2, cells := 0, slots := 0, locals := 47 })).room s m ([.ref (ad 0), .int a1, .int a2, .int a3, .int a4] : List Value).toArray below meth c H locs 0 0 QQ (F0 m 100 ls []) := by
    intro v1_100 v2_100 v3_100 v5_100 gMcomes_100 gMbusyTo_100 gMfeltMany_100 gMfeltBits_100 gMlostBits_100 hm H locs hP hD hS ls hl
    unfold fM_feels_100 at hm
    refine lv_iconst (v := 0) hx hb dX10_feels_100 (by decide) ?_
    exact b_101 _ _ _ _ _ _ _ _ _ _ hm _ _ hP hD hS _ (lv_sub hl [0, 1, 2, 3, 4] rfl)
  have b_96 : ∀ (v1_96 : Int32) (v2_96 : Int32) (v3_96 : Int32) (v5_96 : Int32) (gMcomes_96 : Nat → Int32) (gMbusyTo_96 : Nat → Int32) (gMfeltMany_96 : Nat → Int32) (gMfeltBits_96 : Nat → Int32) (gMlostBits_96 : Nat → Int32), fM_feels_96 v1_96 v2_96 v3_96 v5_96 xM_people gMlates gMscarfs gMhands gMrings gMcomes_96 gMbusyTo_96 gMfeltMany_96 gMfeltBits_96 gMlostBits_96 = some u → ∀ (H : Heap) (locs : List Loc), va_P (dC, dI) vwCl [oM ad xM_typed xM_people xM_posted xM_hears xM_censuses xM_finding, ar (ad 2) cA 20 gMkinds, ar (ad 3) cA 20 gMlates, ar (ad 4) cA 20 gMscarfs, ar (ad 5) cA 20 gMhands, ar (ad 6) cA 20 gMrings, ar (ad 13) cA 8020 gMcomes_96, ar (ad 14) cA 20 gMbusyTo_96, ar (ad 15) cA 20 gMfeltMany_96, ar (ad 16) cA 8020 gMfeltBits_96, ar (ad 17) cA 8020 gMlostBits_96] H → va_D A [oM ad xM_typed xM_people xM_posted xM_hears xM_censuses xM_finding, ar (ad 2) cA 20 gMkinds, ar (ad 3) cA 20 gMlates, ar (ad 4) cA 20 gMscarfs, ar (ad 5) cA 20 gMhands, ar (ad 6) cA 20 gMrings, ar (ad 13) cA 8020 gMcomes_96, ar (ad 14) cA 20 gMbusyTo_96, ar (ad 15) cA 20 gMfeltMany_96, ar (ad 16) cA 8020 gMfeltBits_96, ar (ad 17) cA 8020 gMlostBits_96] → va_S A s.heap H locs → ∀ ls : Array Slot, lv_has ls 8 [(0, .ref (ad 0)), (1, .int v1_96), (2, .int v2_96), (3, .int v3_96), (5, .int v5_96)] → W p l e (headSpec wsX10_feels ({ frames := 2, cells := 0, slots := 0, locals := 47 })).room s m ([.ref (ad 0), .int a1, .int a2, .int a3, .int a4] : List Value).toArray below meth c H locs 0 0 QQ (F0 m 96 ls []) := by
    intro v1_96 v2_96 v3_96 v5_96 gMcomes_96 gMbusyTo_96 gMfeltMany_96 gMfeltBits_96 gMlostBits_96 hm H locs hP hD hS ls hl
    unfold fM_feels_96 at hm
    refine lv_iconst (v := 1) hx hb dX10_feels_96 (by decide) ?_
    refine lv_goto (tgt := 101) hx hb dX10_feels_97 (by decide) ?_
    exact b_101 _ _ _ _ _ _ _ _ _ _ hm _ _ hP hD hS _ (lv_sub hl [0, 1, 2, 3, 4] rfl)
  have b_71 : ∀ (v1_71 : Int32) (v2_71 : Int32) (v3_71 : Int32) (s0_71 : Int32) (gMcomes_71 : Nat → Int32) (gMbusyTo_71 : Nat → Int32) (gMfeltMany_71 : Nat → Int32) (gMfeltBits_71 : Nat → Int32) (gMlostBits_71 : Nat → Int32), fM_feels_71 v1_71 v2_71 v3_71 s0_71 xM_people gMlates gMscarfs gMhands gMrings gMcomes_71 gMbusyTo_71 gMfeltMany_71 gMfeltBits_71 gMlostBits_71 = some u → ∀ (H : Heap) (locs : List Loc), va_P (dC, dI) vwCl [oM ad xM_typed xM_people xM_posted xM_hears xM_censuses xM_finding, ar (ad 2) cA 20 gMkinds, ar (ad 3) cA 20 gMlates, ar (ad 4) cA 20 gMscarfs, ar (ad 5) cA 20 gMhands, ar (ad 6) cA 20 gMrings, ar (ad 13) cA 8020 gMcomes_71, ar (ad 14) cA 20 gMbusyTo_71, ar (ad 15) cA 20 gMfeltMany_71, ar (ad 16) cA 8020 gMfeltBits_71, ar (ad 17) cA 8020 gMlostBits_71] H → va_D A [oM ad xM_typed xM_people xM_posted xM_hears xM_censuses xM_finding, ar (ad 2) cA 20 gMkinds, ar (ad 3) cA 20 gMlates, ar (ad 4) cA 20 gMscarfs, ar (ad 5) cA 20 gMhands, ar (ad 6) cA 20 gMrings, ar (ad 13) cA 8020 gMcomes_71, ar (ad 14) cA 20 gMbusyTo_71, ar (ad 15) cA 20 gMfeltMany_71, ar (ad 16) cA 8020 gMfeltBits_71, ar (ad 17) cA 8020 gMlostBits_71] → va_S A s.heap H locs → ∀ ls : Array Slot, lv_has ls 8 [(0, .ref (ad 0)), (1, .int v1_71), (2, .int v2_71), (3, .int v3_71)] → W p l e (headSpec wsX10_feels ({ frames := 2, cells := 0, slots := 0, locals := 47 })).room s m ([.ref (ad 0), .int a1, .int a2, .int a3, .int a4] : List Value).toArray below meth c H locs 0 0 QQ (F0 m 71 ls [.int s0_71]) := by
    intro v1_71 v2_71 v3_71 s0_71 gMcomes_71 gMbusyTo_71 gMfeltMany_71 gMfeltBits_71 gMlostBits_71 hm H locs hP hD hS ls hl
    unfold fM_feels_71 at hm
    refine lv_istore (lv' := [(5, .int s0_71), (0, .ref (ad 0)), (1, .int v1_71), (2, .int v2_71), (3, .int v3_71)]) hx hb dX10_feels_71 hl (by decide) rfl (fun ls hl => ?_)
    refine lv_iload hx hb dX10_feels_73 (lv_at hl 0 rfl) ?_
    refine lv_iconst (v := 2) hx hb dX10_feels_75 (by decide) ?_
    refine lv_icmp_lt (tgt := 96) hx hb dX10_feels_76 (by decide) (fun c_9 => ?_) (fun c_9 => ?_)
    · have hm := it_pos c_9 hm
      exact b_96 _ _ _ _ _ _ _ _ _ hm _ _ hP hD hS _ (lv_sub hl [1, 2, 3, 4, 0] rfl)
    · have hm := it_neg c_9 hm
      refine lv_iload hx hb dX10_feels_79 (lv_at hl 0 rfl) ?_
      refine lv_iconst (v := 2) hx hb dX10_feels_81 (by decide) ?_
      refine lv_icmp_ne (tgt := 100) hx hb dX10_feels_82 (by decide) (fun c_10 => ?_) (fun c_10 => ?_)
      · have hm := it_neg c_10 hm
        exact b_100 _ _ _ _ _ _ _ _ _ hm _ _ hP hD hS _ (lv_sub hl [1, 2, 3, 4, 0] rfl)
      · have hm := it_pos c_10 hm
        refine lv_aload_n hx hb dX10_feels_85 rfl (lv_at hl 1 rfl) ?_
        refine va_get (D := (dC, dI)) (ci := 10) (v := .ref (ad 15)) (C := RX10) (T := TX10) (N := 37) hx hb hts hinX10 hown hK hP 0 rfl rfl 16 (by decide) hl_52 (fun _ h9 => h9) rfl dX10_feels_86 ?_
        refine lv_iload_n hx hb dX10_feels_89 rfl (lv_at hl 2 rfl) ?_
        obtain ⟨i_11, hm⟩ := ck_ok hm
        refine va_iald hx hb hK hP 8 0 rfl rfl i_11 dX10_feels_90 ?_
        refine lv_iconst (v := 2) hx hb dX10_feels_91 (by decide) ?_
        refine lv_irem hx hb dX10_feels_92 (by decide) ?_
        refine lv_if_ne (tgt := 100) hx hb dX10_feels_93 (by decide) (fun c_13 => ?_) (fun c_13 => ?_)
        · have hm := it_neg c_13 hm
          exact b_100 _ _ _ _ _ _ _ _ _ hm _ _ hP hD hS _ (lv_sub hl [1, 2, 3, 4, 0] rfl)
        · have hm := it_pos c_13 hm
          exact b_96 _ _ _ _ _ _ _ _ _ hm _ _ hP hD hS _ (lv_sub hl [1, 2, 3, 4, 0] rfl)
  unfold fM_feels at hm
  refine lv_iload_n hx hb dX10_feels_0 rfl (lv_at hl 2 rfl) ?_
  refine lv_aload_n hx hb dX10_feels_1 rfl (lv_at hl 0 rfl) ?_
  refine va_get (D := (dC, dI)) (ci := 10) (v := .ref (ad 14)) (C := RX10) (T := TX10) (N := 37) hx hb hts hinX10 hown hK hP 0 rfl rfl 15 (by decide) hl_49 (fun _ h9 => h9) rfl dX10_feels_2 ?_
  refine lv_iload_n hx hb dX10_feels_5 rfl (lv_at hl 1 rfl) ?_
  obtain ⟨i_14, hm⟩ := ck_ok hm
  refine va_iald hx hb hK hP 7 0 rfl rfl i_14 dX10_feels_6 ?_
  refine lv_icmp_ge (tgt := 28) hx hb dX10_feels_7 (by decide) (fun c_15 => ?_) (fun c_15 => ?_)
  · have hm := it_pos c_15 hm
    refine lv_aload_n hx hb dX10_feels_28 rfl (lv_at hl 0 rfl) ?_
    refine va_get (D := (dC, dI)) (ci := 10) (v := .ref (ad 16)) (C := RX10) (T := TX10) (N := 37) hx hb hts hinX10 hown hK hP 0 rfl rfl 17 (by decide) hl_55 (fun _ h9 => h9) rfl dX10_feels_29 ?_
    refine lv_bipush (v := 20) hx hb dX10_feels_32 (by decide) ?_
    refine lv_iload_n hx hb dX10_feels_34 rfl (lv_at hl 2 rfl) ?_
    refine lv_imul hx hb dX10_feels_35 ?_
    refine lv_iload_n hx hb dX10_feels_36 rfl (lv_at hl 1 rfl) ?_
    refine lv_iadd hx hb dX10_feels_37 ?_
    refine lv_dup2_11 hx hb dX10_feels_38 rfl rfl ?_
    obtain ⟨i_16, hm⟩ := ck_ok hm
    refine va_iald hx hb hK hP 9 0 rfl rfl i_16 dX10_feels_39 ?_
    refine lv_iconst (v := 1) hx hb dX10_feels_40 (by decide) ?_
    refine lv_iload_n hx hb dX10_feels_41 rfl (lv_at hl 3 rfl) ?_
    refine lv_ishl hx hb dX10_feels_42 ?_
    refine lv_ior hx hb dX10_feels_43 ?_
    obtain ⟨i_17, hm⟩ := ck_ok hm
    refine va_iast hx hb hK hP hD hS 9 0 rfl rfl i_17 dX10_feels_44 (fun H locs hP hD hS => ?_)
    have hP : va_P (dC, dI) vwCl [oM ad xM_typed xM_people xM_posted xM_hears xM_censuses xM_finding, ar (ad 2) cA 20 gMkinds, ar (ad 3) cA 20 gMlates, ar (ad 4) cA 20 gMscarfs, ar (ad 5) cA 20 gMhands, ar (ad 6) cA 20 gMrings, ar (ad 13) cA 8020 gMcomes, ar (ad 14) cA 20 gMbusyTo, ar (ad 15) cA 20 gMfeltMany, ar (ad 16) cA 8020 (upd gMfeltBits ((20 * a2) + a1).toNatClampNeg ((gMfeltBits ((20 * a2) + a1).toNatClampNeg) ||| (1 <<< (a3 &&& 31)))), ar (ad 17) cA 8020 gMlostBits] H := hP
    have hD : va_D A [oM ad xM_typed xM_people xM_posted xM_hears xM_censuses xM_finding, ar (ad 2) cA 20 gMkinds, ar (ad 3) cA 20 gMlates, ar (ad 4) cA 20 gMscarfs, ar (ad 5) cA 20 gMhands, ar (ad 6) cA 20 gMrings, ar (ad 13) cA 8020 gMcomes, ar (ad 14) cA 20 gMbusyTo, ar (ad 15) cA 20 gMfeltMany, ar (ad 16) cA 8020 (upd gMfeltBits ((20 * a2) + a1).toNatClampNeg ((gMfeltBits ((20 * a2) + a1).toNatClampNeg) ||| (1 <<< (a3 &&& 31)))), ar (ad 17) cA 8020 gMlostBits] := hD
    refine lv_aload_n hx hb dX10_feels_45 rfl (lv_at hl 0 rfl) ?_
    refine va_get (D := (dC, dI)) (ci := 10) (v := .ref (ad 15)) (C := RX10) (T := TX10) (N := 37) hx hb hts hinX10 hown hK hP 0 rfl rfl 16 (by decide) hl_52 (fun _ h9 => h9) rfl dX10_feels_46 ?_
    refine lv_iload_n hx hb dX10_feels_49 rfl (lv_at hl 1 rfl) ?_
    refine lv_dup2_11 hx hb dX10_feels_50 rfl rfl ?_
    obtain ⟨i_18, hm⟩ := ck_ok hm
    refine va_iald hx hb hK hP 8 0 rfl rfl i_18 dX10_feels_51 ?_
    refine lv_iconst (v := 1) hx hb dX10_feels_52 (by decide) ?_
    refine lv_iadd hx hb dX10_feels_53 ?_
    obtain ⟨i_19, hm⟩ := ck_ok hm
    refine va_iast hx hb hK hP hD hS 8 0 rfl rfl i_19 dX10_feels_54 (fun H locs hP hD hS => ?_)
    have hP : va_P (dC, dI) vwCl [oM ad xM_typed xM_people xM_posted xM_hears xM_censuses xM_finding, ar (ad 2) cA 20 gMkinds, ar (ad 3) cA 20 gMlates, ar (ad 4) cA 20 gMscarfs, ar (ad 5) cA 20 gMhands, ar (ad 6) cA 20 gMrings, ar (ad 13) cA 8020 gMcomes, ar (ad 14) cA 20 gMbusyTo, ar (ad 15) cA 20 (upd gMfeltMany a1.toNatClampNeg ((gMfeltMany a1.toNatClampNeg) + 1)), ar (ad 16) cA 8020 (upd gMfeltBits ((20 * a2) + a1).toNatClampNeg ((gMfeltBits ((20 * a2) + a1).toNatClampNeg) ||| (1 <<< (a3 &&& 31)))), ar (ad 17) cA 8020 gMlostBits] H := hP
    have hD : va_D A [oM ad xM_typed xM_people xM_posted xM_hears xM_censuses xM_finding, ar (ad 2) cA 20 gMkinds, ar (ad 3) cA 20 gMlates, ar (ad 4) cA 20 gMscarfs, ar (ad 5) cA 20 gMhands, ar (ad 6) cA 20 gMrings, ar (ad 13) cA 8020 gMcomes, ar (ad 14) cA 20 gMbusyTo, ar (ad 15) cA 20 (upd gMfeltMany a1.toNatClampNeg ((gMfeltMany a1.toNatClampNeg) + 1)), ar (ad 16) cA 8020 (upd gMfeltBits ((20 * a2) + a1).toNatClampNeg ((gMfeltBits ((20 * a2) + a1).toNatClampNeg) ||| (1 <<< (a3 &&& 31)))), ar (ad 17) cA 8020 gMlostBits] := hD
    refine lv_iload_n hx hb dX10_feels_55 rfl (lv_at hl 1 rfl) ?_
    refine lv_iload hx hb dX10_feels_56 (lv_at hl 4 rfl) ?_
    refine lv_icmp_ne (tgt := 65) hx hb dX10_feels_58 (by decide) (fun c_20 => ?_) (fun c_20 => ?_)
    · have hm := it_neg c_20 hm
      refine lv_aload_n hx hb dX10_feels_65 rfl (lv_at hl 0 rfl) ?_
      refine va_get (D := (dC, dI)) (ci := 10) (v := .ref (ad 2)) (C := RX10) (T := TX10) (N := 37) hx hb hts hinX10 hown hK hP 0 rfl rfl 3 (by decide) hl_13 (fun _ h9 => h9) rfl dX10_feels_66 ?_
      refine lv_iload_n hx hb dX10_feels_69 rfl (lv_at hl 1 rfl) ?_
      obtain ⟨i_21, hm⟩ := ck_ok hm
      refine va_iald hx hb hK hP 1 0 rfl rfl i_21 dX10_feels_70 ?_
      exact b_71 _ _ _ _ _ _ _ _ _ hm _ _ hP hD hS _ (lv_sub hl [0, 1, 2, 3] rfl)
    · have hm := it_pos c_20 hm
      refine lv_iconst (v := 3) hx hb dX10_feels_61 (by decide) ?_
      refine lv_goto (tgt := 71) hx hb dX10_feels_62 (by decide) ?_
      exact b_71 _ _ _ _ _ _ _ _ _ hm _ _ hP hD hS _ (lv_sub hl [0, 1, 2, 3] rfl)
  · have hm := it_neg c_15 hm
    refine lv_aload_n hx hb dX10_feels_10 rfl (lv_at hl 0 rfl) ?_
    refine va_get (D := (dC, dI)) (ci := 10) (v := .ref (ad 17)) (C := RX10) (T := TX10) (N := 37) hx hb hts hinX10 hown hK hP 0 rfl rfl 18 (by decide) hl_58 (fun _ h9 => h9) rfl dX10_feels_11 ?_
    refine lv_bipush (v := 20) hx hb dX10_feels_14 (by decide) ?_
    refine lv_iload_n hx hb dX10_feels_16 rfl (lv_at hl 2 rfl) ?_
    refine lv_imul hx hb dX10_feels_17 ?_
    refine lv_iload_n hx hb dX10_feels_18 rfl (lv_at hl 1 rfl) ?_
    refine lv_iadd hx hb dX10_feels_19 ?_
    refine lv_dup2_11 hx hb dX10_feels_20 rfl rfl ?_
    obtain ⟨i_22, hm⟩ := ck_ok hm
    refine va_iald hx hb hK hP 10 0 rfl rfl i_22 dX10_feels_21 ?_
    refine lv_iconst (v := 1) hx hb dX10_feels_22 (by decide) ?_
    refine lv_iload_n hx hb dX10_feels_23 rfl (lv_at hl 3 rfl) ?_
    refine lv_ishl hx hb dX10_feels_24 ?_
    refine lv_ior hx hb dX10_feels_25 ?_
    obtain ⟨i_23, hm⟩ := ck_ok hm
    refine va_iast hx hb hK hP hD hS 10 0 rfl rfl i_23 dX10_feels_26 (fun H locs hP hD hS => ?_)
    have hP : va_P (dC, dI) vwCl [oM ad xM_typed xM_people xM_posted xM_hears xM_censuses xM_finding, ar (ad 2) cA 20 gMkinds, ar (ad 3) cA 20 gMlates, ar (ad 4) cA 20 gMscarfs, ar (ad 5) cA 20 gMhands, ar (ad 6) cA 20 gMrings, ar (ad 13) cA 8020 gMcomes, ar (ad 14) cA 20 gMbusyTo, ar (ad 15) cA 20 gMfeltMany, ar (ad 16) cA 8020 gMfeltBits, ar (ad 17) cA 8020 (upd gMlostBits ((20 * a2) + a1).toNatClampNeg ((gMlostBits ((20 * a2) + a1).toNatClampNeg) ||| (1 <<< (a3 &&& 31))))] H := hP
    have hD : va_D A [oM ad xM_typed xM_people xM_posted xM_hears xM_censuses xM_finding, ar (ad 2) cA 20 gMkinds, ar (ad 3) cA 20 gMlates, ar (ad 4) cA 20 gMscarfs, ar (ad 5) cA 20 gMhands, ar (ad 6) cA 20 gMrings, ar (ad 13) cA 8020 gMcomes, ar (ad 14) cA 20 gMbusyTo, ar (ad 15) cA 20 gMfeltMany, ar (ad 16) cA 8020 gMfeltBits, ar (ad 17) cA 8020 (upd gMlostBits ((20 * a2) + a1).toNatClampNeg ((gMlostBits ((20 * a2) + a1).toNatClampNeg) ||| (1 <<< (a3 &&& 31))))] := hD
    obtain rfl := Option.some.inj hm
    subst hQ
    exact W.vret hx hb hr (fun t ht hW => ⟨⟨(), rfl, trivial, by rw [ht]; exact hP, va_K.moved hW.alike hK, hAe ▸ hD⟩, hS.F ht⟩) hS.2.2 dX10_feels_27

set_option maxHeartbeats 4000000 in
set_option maxRecDepth 100000 in
theorem kM_runs (l : Launch) (dC : Nat → ClassId) (dI : Nat → Nat → Nat) (cA : ClassId) (cB : ClassId) (ad : Nat → Nat) (sz : Nat) (a1 : Int32) (a2 : Int32) (a3 : Int32) (a4 : Int32) (xM_typed : Int32) (xM_people : Int32) (xM_posted : Int32) (xM_hears : Int32) (xM_censuses : Int32) (xM_finding : Int32) (gMkinds : Nat → Int32) (gMlates : Nat → Int32) (gMscarfs : Nat → Int32) (gMhands : Nat → Int32) (gMrings : Nat → Int32) (gMcomes : Nat → Int32) (gMbusyTo : Nat → Int32) (gMfeltMany : Nat → Int32) (gMfeltBits : Nat → Int32) (gMlostBits : Nat → Int32) (u : (Nat → Int32) × (Nat → Int32) × (Nat → Int32) × (Nat → Int32) × (Nat → Int32)) (hm : fM_runs a1 a2 a3 a4 xM_people gMkinds gMlates gMscarfs gMhands gMrings gMcomes gMbusyTo gMfeltMany gMfeltBits gMlostBits = some u) : Met l yX10_runs wsX10_runs ({ frames := 3, cells := 0, slots := 0, locals := 74 }) (va_Pc [.ref (ad 0), .int a1, .int a2, .int a3, .int a4] (fun U => U.heap.size = sz ∧ va_P (dC, dI) vwCl [oM ad xM_typed xM_people xM_posted xM_hears xM_censuses xM_finding, ar (ad 2) cA 20 gMkinds, ar (ad 3) cA 20 gMlates, ar (ad 4) cA 20 gMscarfs, ar (ad 5) cA 20 gMhands, ar (ad 6) cA 20 gMrings, ar (ad 13) cA 8020 gMcomes, ar (ad 14) cA 20 gMbusyTo, ar (ad 15) cA 20 gMfeltMany, ar (ad 16) cA 8020 gMfeltBits, ar (ad 17) cA 8020 gMlostBits] U.heap ∧ va_K (dC, dI) vwCl [(cA, .int), (cB, .boolean)] U ∧ va_D (fun _ => True) [oM ad xM_typed xM_people xM_posted xM_hears xM_censuses xM_finding, ar (ad 2) cA 20 gMkinds, ar (ad 3) cA 20 gMlates, ar (ad 4) cA 20 gMscarfs, ar (ad 5) cA 20 gMhands, ar (ad 6) cA 20 gMrings, ar (ad 13) cA 8020 gMcomes, ar (ad 14) cA 20 gMbusyTo, ar (ad 15) cA 20 gMfeltMany, ar (ad 16) cA 8020 gMfeltBits, ar (ad 17) cA 8020 gMlostBits])) (va_Qv (fun (_ : Unit) => True) (fun (_ : Unit) t => va_P (dC, dI) vwCl [oM ad xM_typed xM_people xM_posted xM_hears xM_censuses xM_finding, ar (ad 2) cA 20 gMkinds, ar (ad 3) cA 20 gMlates, ar (ad 4) cA 20 gMscarfs, ar (ad 5) cA 20 gMhands, ar (ad 6) cA 20 gMrings, ar (ad 13) cA 8020 u.1, ar (ad 14) cA 20 u.2.1, ar (ad 15) cA 20 u.2.2.1, ar (ad 16) cA 8020 u.2.2.2.1, ar (ad 17) cA 8020 u.2.2.2.2] t.heap ∧ va_K (dC, dI) vwCl [(cA, .int), (cB, .boolean)] t ∧ va_D (va_A [oM ad xM_typed xM_people xM_posted xM_hears xM_censuses xM_finding, ar (ad 2) cA 20 gMkinds, ar (ad 3) cA 20 gMlates, ar (ad 4) cA 20 gMscarfs, ar (ad 5) cA 20 gMhands, ar (ad 6) cA 20 gMrings, ar (ad 13) cA 8020 gMcomes, ar (ad 14) cA 20 gMbusyTo, ar (ad 15) cA 20 gMfeltMany, ar (ad 16) cA 8020 gMfeltBits, ar (ad 17) cA 8020 gMlostBits] sz) [oM ad xM_typed xM_people xM_posted xM_hears xM_censuses xM_finding, ar (ad 2) cA 20 gMkinds, ar (ad 3) cA 20 gMlates, ar (ad 4) cA 20 gMscarfs, ar (ad 5) cA 20 gMhands, ar (ad 6) cA 20 gMrings, ar (ad 13) cA 8020 u.1, ar (ad 14) cA 20 u.2.1, ar (ad 15) cA 20 u.2.2.1, ar (ad 16) cA 8020 u.2.2.2.1, ar (ad 17) cA 8020 u.2.2.2.2]) (va_A [oM ad xM_typed xM_people xM_posted xM_hears xM_censuses xM_finding, ar (ad 2) cA 20 gMkinds, ar (ad 3) cA 20 gMlates, ar (ad 4) cA 20 gMscarfs, ar (ad 5) cA 20 gMhands, ar (ad 6) cA 20 gMrings, ar (ad 13) cA 8020 gMcomes, ar (ad 14) cA 20 gMbusyTo, ar (ad 15) cA 20 gMfeltMany, ar (ad 16) cA 8020 gMfeltBits, ar (ad 17) cA 8020 gMlostBits] sz)) 0 0 (va_A [oM ad xM_typed xM_people xM_posted xM_hears xM_censuses xM_finding, ar (ad 2) cA 20 gMkinds, ar (ad 3) cA 20 gMlates, ar (ad 4) cA 20 gMscarfs, ar (ad 5) cA 20 gMhands, ar (ad 6) cA 20 gMrings, ar (ad 13) cA 8020 gMcomes, ar (ad 14) cA 20 gMbusyTo, ar (ad 15) cA 20 gMfeltMany, ar (ad 16) cA 8020 gMfeltBits, ar (ad 17) cA 8020 gMlostBits] sz) := by
  refine Met.ofW (cc := cX10_runs) (maxL := 10) (ret := none) (by decide) rfl ?_
  intro p e s m args below meth c s₁ B hml hv
  obtain ⟨rfl, hsz, hP, hK, hD0⟩ := hv
  have hx := B.exec
  have hb := B.bytes
  have hr := B.returns
  have hts := atoms_spec (ws := wsX10_runs) B.pre
  have hown : s.vm.findClass RX10 = some m.cls := findClass_of_methodNamed B.named
  have hlocks := B.notSynchronized
  subst hsz
  have hD := hD0.self (sz := s.heap.size)
  generalize hAe : va_A [oM ad xM_typed xM_people xM_posted xM_hears xM_censuses xM_finding, ar (ad 2) cA 20 gMkinds, ar (ad 3) cA 20 gMlates, ar (ad 4) cA 20 gMscarfs, ar (ad 5) cA 20 gMhands, ar (ad 6) cA 20 gMrings, ar (ad 13) cA 8020 gMcomes, ar (ad 14) cA 20 gMbusyTo, ar (ad 15) cA 20 gMfeltMany, ar (ad 16) cA 8020 gMfeltBits, ar (ad 17) cA 8020 gMlostBits] s.heap.size = A at hD ⊢
  have hA : ∀ q : Nat, s.heap.size ≤ q → A q := fun q h => by rw [← hAe]; exact Or.inr h
  have hS : va_S A s.heap s.heap [] := va_S.rf
  have hl := lv_entry ([.ref (ad 0), .int a1, .int a2, .int a3, .int a4]) (n := 10) (Nat.le_of_ble_eq_true rfl)
  rw [lg_entry_eq]
  generalize (lg_sl ([.ref (ad 0), .int a1, .int a2, .int a3, .int a4]) ++ List.replicate (10 - (lg_sl ([.ref (ad 0), .int a1, .int a2, .int a3, .int a4])).length) Slot.unset).toArray = ls at hl ⊢
  have hl : lv_has ls 10 [(0, .ref (ad 0)), (1, .int a1), (2, .int a2), (3, .int a3), (4, .int a4)] := hl
  refine wk_Q (fun QQ hQ => ?_)
  have hinX10 : ∀ w ∈ wsX100, w ∈ wsX10_runs := fun w h => List.mem_cons_of_mem _ (inlX10 w h)
  have hl_112 := hts (.fieldLink RX10 112 "HandCensusModel" "people" "I") (List.mem_cons_of_mem _ (in_r12 _ (List.mem_of_getElem? (i := 4) rfl)))
  have hl_46 := hts (.fieldLink RX10 46 "HandCensusModel" "comes" "[I") (List.mem_cons_of_mem _ (in_r7 _ (List.mem_of_getElem? (i := 7) rfl)))
  have hw_2 := hts (.constant RX10 150 (2097152)) (List.mem_cons_of_mem _ (in_r18 _ (List.mem_of_getElem? (i := 9) rfl)))
  have hw_3 := hts (.constant RX10 149 (1048576)) (List.mem_cons_of_mem _ (in_r18 _ (List.mem_of_getElem? (i := 8) rfl)))
  have hl_49 := hts (.fieldLink RX10 49 "HandCensusModel" "busyTo" "[I") (List.mem_cons_of_mem _ (in_r7 _ (List.mem_of_getElem? (i := 8) rfl)))
  have hl_52 := hts (.fieldLink RX10 52 "HandCensusModel" "feltMany" "[I") (List.mem_cons_of_mem _ (in_r7 _ (List.mem_of_getElem? (i := 9) rfl)))
  have hl_55 := hts (.fieldLink RX10 55 "HandCensusModel" "feltBits" "[I") (List.mem_cons_of_mem _ (in_r7 _ (List.mem_of_getElem? (i := 10) rfl)))
  have hl_58 := hts (.fieldLink RX10 58 "HandCensusModel" "lostBits" "[I") (List.mem_cons_of_mem _ (in_r7 _ (List.mem_of_getElem? (i := 11) rfl)))
  have h_133 : ∀ (v4_133 : Int32), ∀ (n_133 : Nat), ∀ (v5_133 : Int32) (gMcomes_133 : Nat → Int32) (gMbusyTo_133 : Nat → Int32) (gMfeltMany_133 : Nat → Int32) (gMfeltBits_133 : Nat → Int32) (gMlostBits_133 : Nat → Int32), fM_runs_133 v4_133 xM_people gMkinds gMlates gMscarfs gMhands gMrings n_133 v5_133 gMcomes_133 gMbusyTo_133 gMfeltMany_133 gMfeltBits_133 gMlostBits_133 = some u → ∀ (H : Heap) (locs : List Loc), va_P (dC, dI) vwCl [oM ad xM_typed xM_people xM_posted xM_hears xM_censuses xM_finding, ar (ad 2) cA 20 gMkinds, ar (ad 3) cA 20 gMlates, ar (ad 4) cA 20 gMscarfs, ar (ad 5) cA 20 gMhands, ar (ad 6) cA 20 gMrings, ar (ad 13) cA 8020 gMcomes_133, ar (ad 14) cA 20 gMbusyTo_133, ar (ad 15) cA 20 gMfeltMany_133, ar (ad 16) cA 8020 gMfeltBits_133, ar (ad 17) cA 8020 gMlostBits_133] H → va_D A [oM ad xM_typed xM_people xM_posted xM_hears xM_censuses xM_finding, ar (ad 2) cA 20 gMkinds, ar (ad 3) cA 20 gMlates, ar (ad 4) cA 20 gMscarfs, ar (ad 5) cA 20 gMhands, ar (ad 6) cA 20 gMrings, ar (ad 13) cA 8020 gMcomes_133, ar (ad 14) cA 20 gMbusyTo_133, ar (ad 15) cA 20 gMfeltMany_133, ar (ad 16) cA 8020 gMfeltBits_133, ar (ad 17) cA 8020 gMlostBits_133] → va_S A s.heap H locs → ∀ ls : Array Slot, lv_has ls 10 [(0, .ref (ad 0)), (4, .int v4_133), (5, .int v5_133)] → W p l e (headSpec wsX10_runs ({ frames := 3, cells := 0, slots := 0, locals := 74 })).room s m ([.ref (ad 0), .int a1, .int a2, .int a3, .int a4] : List Value).toArray below meth c H locs 0 0 QQ (F0 m 133 ls []) := by
    intro v4_133
    intro n_133
    induction n_133 with
    | zero => intro v5_133 gMcomes_133 gMbusyTo_133 gMfeltMany_133 gMfeltBits_133 gMlostBits_133 hm; have hm : (none : Option ((Nat → Int32) × (Nat → Int32) × (Nat → Int32) × (Nat → Int32) × (Nat → Int32))) = some u := hm; cases hm
    | succ n_133 ih_133 =>
      have h_144 : ∀ (v5_144 : Int32), ∀ (n_144 : Nat), ∀ (v6_144 : Int32) (gMcomes_144 : Nat → Int32) (gMbusyTo_144 : Nat → Int32) (gMfeltMany_144 : Nat → Int32) (gMfeltBits_144 : Nat → Int32) (gMlostBits_144 : Nat → Int32), fM_runs_144 (fM_runs_133  v4_133 xM_people gMkinds gMlates gMscarfs gMhands gMrings n_133) v4_133 v5_144 xM_people gMkinds gMlates gMscarfs gMhands gMrings n_144 v6_144 gMcomes_144 gMbusyTo_144 gMfeltMany_144 gMfeltBits_144 gMlostBits_144 = some u → ∀ (H : Heap) (locs : List Loc), va_P (dC, dI) vwCl [oM ad xM_typed xM_people xM_posted xM_hears xM_censuses xM_finding, ar (ad 2) cA 20 gMkinds, ar (ad 3) cA 20 gMlates, ar (ad 4) cA 20 gMscarfs, ar (ad 5) cA 20 gMhands, ar (ad 6) cA 20 gMrings, ar (ad 13) cA 8020 gMcomes_144, ar (ad 14) cA 20 gMbusyTo_144, ar (ad 15) cA 20 gMfeltMany_144, ar (ad 16) cA 8020 gMfeltBits_144, ar (ad 17) cA 8020 gMlostBits_144] H → va_D A [oM ad xM_typed xM_people xM_posted xM_hears xM_censuses xM_finding, ar (ad 2) cA 20 gMkinds, ar (ad 3) cA 20 gMlates, ar (ad 4) cA 20 gMscarfs, ar (ad 5) cA 20 gMhands, ar (ad 6) cA 20 gMrings, ar (ad 13) cA 8020 gMcomes_144, ar (ad 14) cA 20 gMbusyTo_144, ar (ad 15) cA 20 gMfeltMany_144, ar (ad 16) cA 8020 gMfeltBits_144, ar (ad 17) cA 8020 gMlostBits_144] → va_S A s.heap H locs → ∀ ls : Array Slot, lv_has ls 10 [(0, .ref (ad 0)), (4, .int v4_133), (5, .int v5_144), (6, .int v6_144)] → W p l e (headSpec wsX10_runs ({ frames := 3, cells := 0, slots := 0, locals := 74 })).room s m ([.ref (ad 0), .int a1, .int a2, .int a3, .int a4] : List Value).toArray below meth c H locs 0 0 QQ (F0 m 144 ls []) := by
        intro v5_144
        intro n_144
        induction n_144 with
        | zero => intro v6_144 gMcomes_144 gMbusyTo_144 gMfeltMany_144 gMfeltBits_144 gMlostBits_144 hm; have hm : (none : Option ((Nat → Int32) × (Nat → Int32) × (Nat → Int32) × (Nat → Int32) × (Nat → Int32))) = some u := hm; cases hm
        | succ n_144 ih_144 =>
          have b_231 : ∀ (v6_231 : Int32) (gMcomes_231 : Nat → Int32) (gMbusyTo_231 : Nat → Int32) (gMfeltMany_231 : Nat → Int32) (gMfeltBits_231 : Nat → Int32) (gMlostBits_231 : Nat → Int32), fM_runs_231 (fM_runs_133  v4_133 xM_people gMkinds gMlates gMscarfs gMhands gMrings n_133) (fM_runs_144 (fM_runs_133  v4_133 xM_people gMkinds gMlates gMscarfs gMhands gMrings n_133) v4_133 v5_144 xM_people gMkinds gMlates gMscarfs gMhands gMrings n_144) v4_133 v5_144 v6_231 xM_people gMkinds gMlates gMscarfs gMhands gMrings gMcomes_231 gMbusyTo_231 gMfeltMany_231 gMfeltBits_231 gMlostBits_231 = some u → ∀ (H : Heap) (locs : List Loc), va_P (dC, dI) vwCl [oM ad xM_typed xM_people xM_posted xM_hears xM_censuses xM_finding, ar (ad 2) cA 20 gMkinds, ar (ad 3) cA 20 gMlates, ar (ad 4) cA 20 gMscarfs, ar (ad 5) cA 20 gMhands, ar (ad 6) cA 20 gMrings, ar (ad 13) cA 8020 gMcomes_231, ar (ad 14) cA 20 gMbusyTo_231, ar (ad 15) cA 20 gMfeltMany_231, ar (ad 16) cA 8020 gMfeltBits_231, ar (ad 17) cA 8020 gMlostBits_231] H → va_D A [oM ad xM_typed xM_people xM_posted xM_hears xM_censuses xM_finding, ar (ad 2) cA 20 gMkinds, ar (ad 3) cA 20 gMlates, ar (ad 4) cA 20 gMscarfs, ar (ad 5) cA 20 gMhands, ar (ad 6) cA 20 gMrings, ar (ad 13) cA 8020 gMcomes_231, ar (ad 14) cA 20 gMbusyTo_231, ar (ad 15) cA 20 gMfeltMany_231, ar (ad 16) cA 8020 gMfeltBits_231, ar (ad 17) cA 8020 gMlostBits_231] → va_S A s.heap H locs → ∀ ls : Array Slot, lv_has ls 10 [(0, .ref (ad 0)), (4, .int v4_133), (5, .int v5_144), (6, .int v6_231)] → W p l e (headSpec wsX10_runs ({ frames := 3, cells := 0, slots := 0, locals := 74 })).room s m ([.ref (ad 0), .int a1, .int a2, .int a3, .int a4] : List Value).toArray below meth c H locs 0 0 QQ (F0 m 231 ls []) := by
            intro v6_231 gMcomes_231 gMbusyTo_231 gMfeltMany_231 gMfeltBits_231 gMlostBits_231 hm H locs hP hD hS ls hl
            unfold fM_runs_231 at hm
            refine lv_iinc (v := (v6_231 + 1)) (lv' := [(6, .int (v6_231 + 1)), (0, .ref (ad 0)), (4, .int v4_133), (5, .int v5_144)]) hx hb dX10_runs_231 hl (k := 3) rfl rfl (by decide) rfl (fun ls hl => ?_)
            refine lv_goto (tgt := 144) hx hb dX10_runs_234 (by decide) ?_
            exact ih_144 _ _ _ _ _ _ hm _ _ hP hD hS _ (lv_sub hl [1, 2, 3, 0] rfl)
          have h_171 : ∀ (v6_171 : Int32) (v7_171 : Int32), ∀ (n_171 : Nat), ∀ (v8_171 : Int32) (gMcomes_171 : Nat → Int32) (gMbusyTo_171 : Nat → Int32) (gMfeltMany_171 : Nat → Int32) (gMfeltBits_171 : Nat → Int32) (gMlostBits_171 : Nat → Int32), fM_runs_171 (fM_runs_133  v4_133 xM_people gMkinds gMlates gMscarfs gMhands gMrings n_133) (fM_runs_144 (fM_runs_133  v4_133 xM_people gMkinds gMlates gMscarfs gMhands gMrings n_133) v4_133 v5_144 xM_people gMkinds gMlates gMscarfs gMhands gMrings n_144) v4_133 v5_144 v6_171 v7_171 xM_people gMkinds gMlates gMscarfs gMhands gMrings n_171 v8_171 gMcomes_171 gMbusyTo_171 gMfeltMany_171 gMfeltBits_171 gMlostBits_171 = some u → ∀ (H : Heap) (locs : List Loc), va_P (dC, dI) vwCl [oM ad xM_typed xM_people xM_posted xM_hears xM_censuses xM_finding, ar (ad 2) cA 20 gMkinds, ar (ad 3) cA 20 gMlates, ar (ad 4) cA 20 gMscarfs, ar (ad 5) cA 20 gMhands, ar (ad 6) cA 20 gMrings, ar (ad 13) cA 8020 gMcomes_171, ar (ad 14) cA 20 gMbusyTo_171, ar (ad 15) cA 20 gMfeltMany_171, ar (ad 16) cA 8020 gMfeltBits_171, ar (ad 17) cA 8020 gMlostBits_171] H → va_D A [oM ad xM_typed xM_people xM_posted xM_hears xM_censuses xM_finding, ar (ad 2) cA 20 gMkinds, ar (ad 3) cA 20 gMlates, ar (ad 4) cA 20 gMscarfs, ar (ad 5) cA 20 gMhands, ar (ad 6) cA 20 gMrings, ar (ad 13) cA 8020 gMcomes_171, ar (ad 14) cA 20 gMbusyTo_171, ar (ad 15) cA 20 gMfeltMany_171, ar (ad 16) cA 8020 gMfeltBits_171, ar (ad 17) cA 8020 gMlostBits_171] → va_S A s.heap H locs → ∀ ls : Array Slot, lv_has ls 10 [(0, .ref (ad 0)), (4, .int v4_133), (5, .int v5_144), (6, .int v6_171), (7, .int v7_171), (8, .int v8_171)] → W p l e (headSpec wsX10_runs ({ frames := 3, cells := 0, slots := 0, locals := 74 })).room s m ([.ref (ad 0), .int a1, .int a2, .int a3, .int a4] : List Value).toArray below meth c H locs 0 0 QQ (F0 m 171 ls []) := by
            intro v6_171 v7_171
            intro n_171
            induction n_171 with
            | zero => intro v8_171 gMcomes_171 gMbusyTo_171 gMfeltMany_171 gMfeltBits_171 gMlostBits_171 hm; have hm : (none : Option ((Nat → Int32) × (Nat → Int32) × (Nat → Int32) × (Nat → Int32) × (Nat → Int32))) = some u := hm; cases hm
            | succ n_171 ih_171 =>
              have b_225 : ∀ (v8_225 : Int32) (gMcomes_225 : Nat → Int32) (gMbusyTo_225 : Nat → Int32) (gMfeltMany_225 : Nat → Int32) (gMfeltBits_225 : Nat → Int32) (gMlostBits_225 : Nat → Int32), fM_runs_225 (fM_runs_133  v4_133 xM_people gMkinds gMlates gMscarfs gMhands gMrings n_133) (fM_runs_144 (fM_runs_133  v4_133 xM_people gMkinds gMlates gMscarfs gMhands gMrings n_133) v4_133 v5_144 xM_people gMkinds gMlates gMscarfs gMhands gMrings n_144) (fM_runs_171 (fM_runs_133  v4_133 xM_people gMkinds gMlates gMscarfs gMhands gMrings n_133) (fM_runs_144 (fM_runs_133  v4_133 xM_people gMkinds gMlates gMscarfs gMhands gMrings n_133) v4_133 v5_144 xM_people gMkinds gMlates gMscarfs gMhands gMrings n_144) v4_133 v5_144 v6_171 v7_171 xM_people gMkinds gMlates gMscarfs gMhands gMrings n_171) v4_133 v5_144 v6_171 v7_171 v8_225 xM_people gMkinds gMlates gMscarfs gMhands gMrings gMcomes_225 gMbusyTo_225 gMfeltMany_225 gMfeltBits_225 gMlostBits_225 = some u → ∀ (H : Heap) (locs : List Loc), va_P (dC, dI) vwCl [oM ad xM_typed xM_people xM_posted xM_hears xM_censuses xM_finding, ar (ad 2) cA 20 gMkinds, ar (ad 3) cA 20 gMlates, ar (ad 4) cA 20 gMscarfs, ar (ad 5) cA 20 gMhands, ar (ad 6) cA 20 gMrings, ar (ad 13) cA 8020 gMcomes_225, ar (ad 14) cA 20 gMbusyTo_225, ar (ad 15) cA 20 gMfeltMany_225, ar (ad 16) cA 8020 gMfeltBits_225, ar (ad 17) cA 8020 gMlostBits_225] H → va_D A [oM ad xM_typed xM_people xM_posted xM_hears xM_censuses xM_finding, ar (ad 2) cA 20 gMkinds, ar (ad 3) cA 20 gMlates, ar (ad 4) cA 20 gMscarfs, ar (ad 5) cA 20 gMhands, ar (ad 6) cA 20 gMrings, ar (ad 13) cA 8020 gMcomes_225, ar (ad 14) cA 20 gMbusyTo_225, ar (ad 15) cA 20 gMfeltMany_225, ar (ad 16) cA 8020 gMfeltBits_225, ar (ad 17) cA 8020 gMlostBits_225] → va_S A s.heap H locs → ∀ ls : Array Slot, lv_has ls 10 [(0, .ref (ad 0)), (4, .int v4_133), (5, .int v5_144), (6, .int v6_171), (7, .int v7_171), (8, .int v8_225)] → W p l e (headSpec wsX10_runs ({ frames := 3, cells := 0, slots := 0, locals := 74 })).room s m ([.ref (ad 0), .int a1, .int a2, .int a3, .int a4] : List Value).toArray below meth c H locs 0 0 QQ (F0 m 225 ls []) := by
                intro v8_225 gMcomes_225 gMbusyTo_225 gMfeltMany_225 gMfeltBits_225 gMlostBits_225 hm H locs hP hD hS ls hl
                unfold fM_runs_225 at hm
                refine lv_iinc (v := (v8_225 + 1)) (lv' := [(8, .int (v8_225 + 1)), (0, .ref (ad 0)), (4, .int v4_133), (5, .int v5_144), (6, .int v6_171), (7, .int v7_171)]) hx hb dX10_runs_225 hl (k := 5) rfl rfl (by decide) rfl (fun ls hl => ?_)
                refine lv_goto (tgt := 171) hx hb dX10_runs_228 (by decide) ?_
                exact ih_171 _ _ _ _ _ _ hm _ _ hP hD hS _ (lv_sub hl [1, 2, 3, 4, 5, 0] rfl)
              have b_201 : ∀ (v8_201 : Int32) (s0_201 : Int32) (gMcomes_201 : Nat → Int32) (gMbusyTo_201 : Nat → Int32) (gMfeltMany_201 : Nat → Int32) (gMfeltBits_201 : Nat → Int32) (gMlostBits_201 : Nat → Int32), fM_runs_201 (fM_runs_133  v4_133 xM_people gMkinds gMlates gMscarfs gMhands gMrings n_133) (fM_runs_144 (fM_runs_133  v4_133 xM_people gMkinds gMlates gMscarfs gMhands gMrings n_133) v4_133 v5_144 xM_people gMkinds gMlates gMscarfs gMhands gMrings n_144) (fM_runs_171 (fM_runs_133  v4_133 xM_people gMkinds gMlates gMscarfs gMhands gMrings n_133) (fM_runs_144 (fM_runs_133  v4_133 xM_people gMkinds gMlates gMscarfs gMhands gMrings n_133) v4_133 v5_144 xM_people gMkinds gMlates gMscarfs gMhands gMrings n_144) v4_133 v5_144 v6_171 v7_171 xM_people gMkinds gMlates gMscarfs gMhands gMrings n_171) v4_133 v5_144 v6_171 v7_171 v8_201 s0_201 xM_people gMkinds gMlates gMscarfs gMhands gMrings gMcomes_201 gMbusyTo_201 gMfeltMany_201 gMfeltBits_201 gMlostBits_201 = some u → ∀ (H : Heap) (locs : List Loc), va_P (dC, dI) vwCl [oM ad xM_typed xM_people xM_posted xM_hears xM_censuses xM_finding, ar (ad 2) cA 20 gMkinds, ar (ad 3) cA 20 gMlates, ar (ad 4) cA 20 gMscarfs, ar (ad 5) cA 20 gMhands, ar (ad 6) cA 20 gMrings, ar (ad 13) cA 8020 gMcomes_201, ar (ad 14) cA 20 gMbusyTo_201, ar (ad 15) cA 20 gMfeltMany_201, ar (ad 16) cA 8020 gMfeltBits_201, ar (ad 17) cA 8020 gMlostBits_201] H → va_D A [oM ad xM_typed xM_people xM_posted xM_hears xM_censuses xM_finding, ar (ad 2) cA 20 gMkinds, ar (ad 3) cA 20 gMlates, ar (ad 4) cA 20 gMscarfs, ar (ad 5) cA 20 gMhands, ar (ad 6) cA 20 gMrings, ar (ad 13) cA 8020 gMcomes_201, ar (ad 14) cA 20 gMbusyTo_201, ar (ad 15) cA 20 gMfeltMany_201, ar (ad 16) cA 8020 gMfeltBits_201, ar (ad 17) cA 8020 gMlostBits_201] → va_S A s.heap H locs → ∀ ls : Array Slot, lv_has ls 10 [(0, .ref (ad 0)), (4, .int v4_133), (5, .int v5_144), (6, .int v6_171), (7, .int v7_171), (8, .int v8_201)] → W p l e (headSpec wsX10_runs ({ frames := 3, cells := 0, slots := 0, locals := 74 })).room s m ([.ref (ad 0), .int a1, .int a2, .int a3, .int a4] : List Value).toArray below meth c H locs 0 0 QQ (F0 m 201 ls [.int s0_201]) := by
                intro v8_201 s0_201 gMcomes_201 gMbusyTo_201 gMfeltMany_201 gMfeltBits_201 gMlostBits_201 hm H locs hP hD hS ls hl
                unfold fM_runs_201 at hm
                refine lv_istore (lv' := [(9, .int s0_201), (0, .ref (ad 0)), (4, .int v4_133), (5, .int v5_144), (6, .int v6_171), (7, .int v7_171), (8, .int v8_201)]) hx hb dX10_runs_201 hl (by decide) rfl (fun ls hl => ?_)
                refine lv_iload hx hb dX10_runs_203 (lv_at hl 5 rfl) ?_
                refine lv_iload hx hb dX10_runs_205 (lv_at hl 0 rfl) ?_
                have hPc := hP.sub (ws' := []) [] rfl
                have hDc := hD.sub (ws' := []) [] (by decide) rfl
                have hFc := va_free (wc := []) hD hS hA [] rfl
                obtain ⟨u_1, hc_1, hm⟩ := bd_ok hm
                refine va_calli (va_runS (As := [.int v7_171, .int s0_201]) (rest := []) ⟨hx, hb, hml, hown, hts⟩ (kM_isIn l dC dI cA cB ad H.size v7_171 s0_201 u_1 hc_1) (va_cwS 2 hts gX10_runs_X10_isIn rfl rfl rfl (by decide +kernel) ⟨Nat.le_of_ble_eq_true rfl, Nat.le_of_ble_eq_true rfl⟩) ⟨fun a U g mk q => by obtain ⟨q0, q1, qP, qK, qD⟩ := q; exact ⟨q0, q1, qP, va_K.moved (u := U) (U := U.calling g mk a) (Vm.Alike.refl U.vm) qK, qD⟩, fun U hU hW => ⟨rfl, by rw [hU], by rw [hU]; exact hPc, va_K.moved hW.alike hK, hDc.weaken (fun _ _ _ _ => trivial)⟩⟩ rfl rfl hl.1 rfl (lv_room (Nat.le_of_ble_eq_true rfl)) dX10_runs_207 ⟨Nat.le_of_ble_eq_true rfl, Nat.le_of_ble_eq_true rfl⟩) hS (fun q _ h => hFc q h) hFc (fun r_1 _ t H1 locs ht hvm hw hB hz1 hk1 hS => ?_)
                obtain ⟨hP1, hK1, hD1⟩ := hB
                rw [ht] at hP1
                obtain ⟨hP, hD⟩ := va_join (wr := [oM ad xM_typed xM_people xM_posted xM_hears xM_censuses xM_finding, ar (ad 2) cA 20 gMkinds, ar (ad 3) cA 20 gMlates, ar (ad 4) cA 20 gMscarfs, ar (ad 5) cA 20 gMhands, ar (ad 6) cA 20 gMrings, ar (ad 13) cA 8020 gMcomes_201, ar (ad 14) cA 20 gMbusyTo_201, ar (ad 15) cA 20 gMfeltMany_201, ar (ad 16) cA 8020 gMfeltBits_201, ar (ad 17) cA 8020 gMlostBits_201]) (w1 := []) hP hD [] [0, 1, 2, 3, 4, 5, 6, 7, 8, 9, 10] rfl rfl (by decide) (by decide) hk1 hFc hP1 hD1
                clear hPc hDc hFc hP1 hK1 hD1 hk1 hz1 hvm ht
                generalize H1 = H at hP hS ⊢
                have hP : va_P (dC, dI) vwCl [oM ad xM_typed xM_people xM_posted xM_hears xM_censuses xM_finding, ar (ad 2) cA 20 gMkinds, ar (ad 3) cA 20 gMlates, ar (ad 4) cA 20 gMscarfs, ar (ad 5) cA 20 gMhands, ar (ad 6) cA 20 gMrings, ar (ad 13) cA 8020 gMcomes_201, ar (ad 14) cA 20 gMbusyTo_201, ar (ad 15) cA 20 gMfeltMany_201, ar (ad 16) cA 8020 gMfeltBits_201, ar (ad 17) cA 8020 gMlostBits_201] H := hP
                have hD : va_D A [oM ad xM_typed xM_people xM_posted xM_hears xM_censuses xM_finding, ar (ad 2) cA 20 gMkinds, ar (ad 3) cA 20 gMlates, ar (ad 4) cA 20 gMscarfs, ar (ad 5) cA 20 gMhands, ar (ad 6) cA 20 gMrings, ar (ad 13) cA 8020 gMcomes_201, ar (ad 14) cA 20 gMbusyTo_201, ar (ad 15) cA 20 gMfeltMany_201, ar (ad 16) cA 8020 gMfeltBits_201, ar (ad 17) cA 8020 gMlostBits_201] := hD
                have hw := hw.symm
                subst hw
                refine lv_if_eq (tgt := 225) hx hb dX10_runs_210 (by decide) (fun c_2 => ?_) (fun c_2 => ?_)
                · have hm := it_pos c_2 hm
                  exact b_225 _ _ _ _ _ _ hm _ _ hP hD hS _ (lv_sub hl [1, 2, 3, 4, 5, 6] rfl)
                · have hm := it_neg c_2 hm
                  refine lv_aload_n hx hb dX10_runs_213 rfl (lv_at hl 1 rfl) ?_
                  refine lv_iload hx hb dX10_runs_214 (lv_at hl 4 rfl) ?_
                  refine lv_iload hx hb dX10_runs_216 (lv_at hl 3 rfl) ?_
                  refine lv_iload hx hb dX10_runs_218 (lv_at hl 0 rfl) ?_
                  refine lv_iload hx hb dX10_runs_220 (lv_at hl 2 rfl) ?_
                  have hPc := hP.sub (ws' := [oM ad xM_typed xM_people xM_posted xM_hears xM_censuses xM_finding, ar (ad 2) cA 20 gMkinds, ar (ad 3) cA 20 gMlates, ar (ad 4) cA 20 gMscarfs, ar (ad 5) cA 20 gMhands, ar (ad 6) cA 20 gMrings, ar (ad 13) cA 8020 gMcomes_201, ar (ad 14) cA 20 gMbusyTo_201, ar (ad 15) cA 20 gMfeltMany_201, ar (ad 16) cA 8020 gMfeltBits_201, ar (ad 17) cA 8020 gMlostBits_201]) [0, 1, 2, 3, 4, 5, 6, 7, 8, 9, 10] rfl
                  have hDc := hD.sub (ws' := [oM ad xM_typed xM_people xM_posted xM_hears xM_censuses xM_finding, ar (ad 2) cA 20 gMkinds, ar (ad 3) cA 20 gMlates, ar (ad 4) cA 20 gMscarfs, ar (ad 5) cA 20 gMhands, ar (ad 6) cA 20 gMrings, ar (ad 13) cA 8020 gMcomes_201, ar (ad 14) cA 20 gMbusyTo_201, ar (ad 15) cA 20 gMfeltMany_201, ar (ad 16) cA 8020 gMfeltBits_201, ar (ad 17) cA 8020 gMlostBits_201]) [0, 1, 2, 3, 4, 5, 6, 7, 8, 9, 10] (by decide) rfl
                  have hFc := va_free (wc := [oM ad xM_typed xM_people xM_posted xM_hears xM_censuses xM_finding, ar (ad 2) cA 20 gMkinds, ar (ad 3) cA 20 gMlates, ar (ad 4) cA 20 gMscarfs, ar (ad 5) cA 20 gMhands, ar (ad 6) cA 20 gMrings, ar (ad 13) cA 8020 gMcomes_201, ar (ad 14) cA 20 gMbusyTo_201, ar (ad 15) cA 20 gMfeltMany_201, ar (ad 16) cA 8020 gMfeltBits_201, ar (ad 17) cA 8020 gMlostBits_201]) hD hS hA [0, 1, 2, 3, 4, 5, 6, 7, 8, 9, 10] rfl
                  obtain ⟨u_3, hc_3, hm⟩ := bd_ok hm
                  refine va_callv (va_runV (As := [.int v6_171, .int v5_144, .int s0_201, .int v4_133]) (rest := []) ⟨hx, hb, hml, hown, hts⟩ (kM_feels l dC dI cA cB ad H.size v6_171 v5_144 s0_201 v4_133 xM_typed xM_people xM_posted xM_hears xM_censuses xM_finding gMkinds gMlates gMscarfs gMhands gMrings gMcomes_201 gMbusyTo_201 gMfeltMany_201 gMfeltBits_201 gMlostBits_201 u_3 hc_3) (cwV 4 hts gX10_runs_X10_feels rfl rfl rfl (by decide +kernel) ⟨Nat.le_of_ble_eq_true rfl, Nat.le_of_ble_eq_true rfl⟩) ⟨fun a U g mk q => by obtain ⟨q0, q1, qP, qK, qD⟩ := q; exact ⟨q0, q1, qP, va_K.moved (u := U) (U := U.calling g mk a) (Vm.Alike.refl U.vm) qK, qD⟩, va_recv hK hPc (ci := 10) (q0 := 0) rfl rfl, fun U hU hW => ⟨rfl, by rw [hU], by rw [hU]; exact hPc, va_K.moved hW.alike hK, hDc.weaken (fun _ _ _ _ => trivial)⟩⟩ rfl rfl hl.1 rfl (lv_room (Nat.le_of_ble_eq_true rfl)) dX10_runs_222 ⟨Nat.le_of_ble_eq_true rfl, Nat.le_of_ble_eq_true rfl⟩) hS (fun q _ h => hFc q h) hFc (fun _ t H1 locs ht hvm hw hB hz1 hk1 hS => ?_)
                  obtain ⟨hP1, hK1, hD1⟩ := hB
                  rw [ht] at hP1
                  obtain ⟨hP, hD⟩ := va_join (wr := []) (w1 := [oM ad xM_typed xM_people xM_posted xM_hears xM_censuses xM_finding, ar (ad 2) cA 20 gMkinds, ar (ad 3) cA 20 gMlates, ar (ad 4) cA 20 gMscarfs, ar (ad 5) cA 20 gMhands, ar (ad 6) cA 20 gMrings, ar (ad 13) cA 8020 u_3.1, ar (ad 14) cA 20 u_3.2.1, ar (ad 15) cA 20 u_3.2.2.1, ar (ad 16) cA 8020 u_3.2.2.2.1, ar (ad 17) cA 8020 u_3.2.2.2.2]) hP hD [0, 1, 2, 3, 4, 5, 6, 7, 8, 9, 10] [] rfl rfl (by decide) (by decide) hk1 hFc hP1 hD1
                  clear hPc hDc hFc hP1 hK1 hD1 hk1 hz1 hvm ht
                  generalize H1 = H at hP hS ⊢
                  have hP : va_P (dC, dI) vwCl [oM ad xM_typed xM_people xM_posted xM_hears xM_censuses xM_finding, ar (ad 2) cA 20 gMkinds, ar (ad 3) cA 20 gMlates, ar (ad 4) cA 20 gMscarfs, ar (ad 5) cA 20 gMhands, ar (ad 6) cA 20 gMrings, ar (ad 13) cA 8020 u_3.1, ar (ad 14) cA 20 u_3.2.1, ar (ad 15) cA 20 u_3.2.2.1, ar (ad 16) cA 8020 u_3.2.2.2.1, ar (ad 17) cA 8020 u_3.2.2.2.2] H := hP
                  have hD : va_D A [oM ad xM_typed xM_people xM_posted xM_hears xM_censuses xM_finding, ar (ad 2) cA 20 gMkinds, ar (ad 3) cA 20 gMlates, ar (ad 4) cA 20 gMscarfs, ar (ad 5) cA 20 gMhands, ar (ad 6) cA 20 gMrings, ar (ad 13) cA 8020 u_3.1, ar (ad 14) cA 20 u_3.2.1, ar (ad 15) cA 20 u_3.2.2.1, ar (ad 16) cA 8020 u_3.2.2.2.1, ar (ad 17) cA 8020 u_3.2.2.2.2] := hD
                  exact b_225 _ _ _ _ _ _ hm _ _ hP hD hS _ (lv_sub hl [1, 2, 3, 4, 5, 6] rfl)
              intro v8_171 gMcomes_171 gMbusyTo_171 gMfeltMany_171 gMfeltBits_171 gMlostBits_171 hm H locs hP hD hS ls hl
              have hm : fM_runs_171_b (fM_runs_133  v4_133 xM_people gMkinds gMlates gMscarfs gMhands gMrings n_133) (fM_runs_144 (fM_runs_133  v4_133 xM_people gMkinds gMlates gMscarfs gMhands gMrings n_133) v4_133 v5_144 xM_people gMkinds gMlates gMscarfs gMhands gMrings n_144) (fM_runs_171 (fM_runs_133  v4_133 xM_people gMkinds gMlates gMscarfs gMhands gMrings n_133) (fM_runs_144 (fM_runs_133  v4_133 xM_people gMkinds gMlates gMscarfs gMhands gMrings n_133) v4_133 v5_144 xM_people gMkinds gMlates gMscarfs gMhands gMrings n_144) v4_133 v5_144 v6_171 v7_171 xM_people gMkinds gMlates gMscarfs gMhands gMrings n_171) v4_133 v5_144 v6_171 v7_171 xM_people gMkinds gMlates gMscarfs gMhands gMrings v8_171 gMcomes_171 gMbusyTo_171 gMfeltMany_171 gMfeltBits_171 gMlostBits_171 = some u := hm
              unfold fM_runs_171_b at hm
              refine lv_iload hx hb dX10_runs_171 (lv_at hl 5 rfl) ?_
              refine lv_bipush (v := 22) hx hb dX10_runs_173 (by decide) ?_
              refine lv_icmp_ge (tgt := 231) hx hb dX10_runs_175 (by decide) (fun c_4 => ?_) (fun c_4 => ?_)
              · have hm := it_pos c_4 hm
                exact b_231 _ _ _ _ _ _ hm _ _ hP hD hS _ (lv_sub hl [0, 1, 2, 3] rfl)
              · have hm := it_neg c_4 hm
                refine lv_iload hx hb dX10_runs_178 (lv_at hl 4 rfl) ?_
                refine lv_if_eq (tgt := 231) hx hb dX10_runs_180 (by decide) (fun c_5 => ?_) (fun c_5 => ?_)
                · have hm := it_pos c_5 hm
                  exact b_231 _ _ _ _ _ _ hm _ _ hP hD hS _ (lv_sub hl [0, 1, 2, 3] rfl)
                · have hm := it_neg c_5 hm
                  refine lv_iload hx hb dX10_runs_183 (lv_at hl 5 rfl) ?_
                  refine lv_iconst (v := 2) hx hb dX10_runs_185 (by decide) ?_
                  refine lv_icmp_ge (tgt := 197) hx hb dX10_runs_186 (by decide) (fun c_6 => ?_) (fun c_6 => ?_)
                  · have hm := it_pos c_6 hm
                    refine lv_iload hx hb dX10_runs_197 (lv_at hl 5 rfl) ?_
                    refine lv_iconst (v := 2) hx hb dX10_runs_199 (by decide) ?_
                    refine lv_isub hx hb dX10_runs_200 ?_
                    exact b_201 _ _ _ _ _ _ _ hm _ _ hP hD hS _ (lv_sub hl [0, 1, 2, 3, 4, 5] rfl)
                  · have hm := it_neg c_6 hm
                    refine lv_bipush (v := 20) hx hb dX10_runs_189 (by decide) ?_
                    refine lv_iload hx hb dX10_runs_191 (lv_at hl 5 rfl) ?_
                    refine lv_iadd hx hb dX10_runs_193 ?_
                    refine lv_goto (tgt := 201) hx hb dX10_runs_194 (by decide) ?_
                    exact b_201 _ _ _ _ _ _ _ hm _ _ hP hD hS _ (lv_sub hl [0, 1, 2, 3, 4, 5] rfl)
          intro v6_144 gMcomes_144 gMbusyTo_144 gMfeltMany_144 gMfeltBits_144 gMlostBits_144 hm H locs hP hD hS ls hl
          have hm : fM_runs_144_b (fM_runs_133  v4_133 xM_people gMkinds gMlates gMscarfs gMhands gMrings n_133) (fM_runs_144 (fM_runs_133  v4_133 xM_people gMkinds gMlates gMscarfs gMhands gMrings n_133) v4_133 v5_144 xM_people gMkinds gMlates gMscarfs gMhands gMrings n_144) v4_133 v5_144 xM_people gMkinds gMlates gMscarfs gMhands gMrings v6_144 gMcomes_144 gMbusyTo_144 gMfeltMany_144 gMfeltBits_144 gMlostBits_144 = some u := hm
          unfold fM_runs_144_b at hm
          refine lv_iload hx hb dX10_runs_144 (lv_at hl 3 rfl) ?_
          refine lv_aload_n hx hb dX10_runs_146 rfl (lv_at hl 0 rfl) ?_
          refine va_get (D := (dC, dI)) (ci := 10) (v := .int xM_people) (C := RX10) (T := TX10) (N := 37) hx hb hts hinX10 hown hK hP 0 rfl rfl 2 (by decide) hl_112 (fun _ h9 => h9) rfl dX10_runs_147 ?_
          refine lv_icmp_ge (tgt := 237) hx hb dX10_runs_150 (by decide) (fun c_7 => ?_) (fun c_7 => ?_)
          · have hm := it_pos c_7 hm
            refine lv_iinc (v := (v5_144 + 1)) (lv' := [(5, .int (v5_144 + 1)), (0, .ref (ad 0)), (4, .int v4_133), (6, .int v6_144)]) hx hb dX10_runs_237 hl (k := 2) rfl rfl (by decide) rfl (fun ls hl => ?_)
            refine lv_goto (tgt := 133) hx hb dX10_runs_240 (by decide) ?_
            exact ih_133 _ _ _ _ _ _ hm _ _ hP hD hS _ (lv_sub hl [1, 2, 0] rfl)
          · have hm := it_neg c_7 hm
            refine lv_aload_n hx hb dX10_runs_153 rfl (lv_at hl 0 rfl) ?_
            refine va_get (D := (dC, dI)) (ci := 10) (v := .ref (ad 13)) (C := RX10) (T := TX10) (N := 37) hx hb hts hinX10 hown hK hP 0 rfl rfl 14 (by decide) hl_46 (fun _ h9 => h9) rfl dX10_runs_154 ?_
            refine lv_bipush (v := 20) hx hb dX10_runs_157 (by decide) ?_
            refine lv_iload hx hb dX10_runs_159 (lv_at hl 2 rfl) ?_
            refine lv_imul hx hb dX10_runs_161 ?_
            refine lv_iload hx hb dX10_runs_162 (lv_at hl 3 rfl) ?_
            refine lv_iadd hx hb dX10_runs_164 ?_
            obtain ⟨i_8, hm⟩ := ck_ok hm
            refine va_iald hx hb hK hP 6 0 rfl rfl i_8 dX10_runs_165 ?_
            refine lv_topi (fun y9 ey9 => ?_)
            have hm := nm_in ey9 hm
            refine lv_istore (lv' := [(7, .int y9), (0, .ref (ad 0)), (4, .int v4_133), (5, .int v5_144), (6, .int v6_144)]) hx hb dX10_runs_166 hl (by decide) rfl (fun ls hl => ?_)
            refine lv_iconst (v := 0) hx hb dX10_runs_168 (by decide) ?_
            refine lv_istore (lv' := [(8, .int 0), (7, .int y9), (0, .ref (ad 0)), (4, .int v4_133), (5, .int v5_144), (6, .int v6_144)]) hx hb dX10_runs_169 hl (by decide) rfl (fun ls hl => ?_)
            exact h_171 _ _ _ _ _ _ _ _ _ hm _ _ hP hD hS _ (lv_sub hl [2, 3, 4, 5, 1, 0] rfl)
      intro v5_133 gMcomes_133 gMbusyTo_133 gMfeltMany_133 gMfeltBits_133 gMlostBits_133 hm H locs hP hD hS ls hl
      have hm : fM_runs_133_b  (fM_runs_133  v4_133 xM_people gMkinds gMlates gMscarfs gMhands gMrings n_133) v4_133 xM_people gMkinds gMlates gMscarfs gMhands gMrings v5_133 gMcomes_133 gMbusyTo_133 gMfeltMany_133 gMfeltBits_133 gMlostBits_133 = some u := hm
      unfold fM_runs_133_b at hm
      refine lv_iload hx hb dX10_runs_133 (lv_at hl 2 rfl) ?_
      refine lv_sipush (v := 400) hx hb dX10_runs_135 (by decide) ?_
      refine lv_icmp_gt (tgt := 243) hx hb dX10_runs_138 (by decide) (fun c_10 => ?_) (fun c_10 => ?_)
      · have hm := it_pos c_10 hm
        obtain rfl := Option.some.inj hm
        subst hQ
        exact W.vret hx hb hr (fun t ht hW => ⟨⟨(), rfl, trivial, by rw [ht]; exact hP, va_K.moved hW.alike hK, hAe ▸ hD⟩, hS.F ht⟩) hS.2.2 dX10_runs_243
      · have hm := it_neg c_10 hm
        refine lv_iconst (v := 0) hx hb dX10_runs_141 (by decide) ?_
        refine lv_istore (lv' := [(6, .int 0), (0, .ref (ad 0)), (4, .int v4_133), (5, .int v5_133)]) hx hb dX10_runs_142 hl (by decide) rfl (fun ls hl => ?_)
        exact h_144 _ _ _ _ _ _ _ _ hm _ _ hP hD hS _ (lv_sub hl [1, 2, 3, 0] rfl)
  have b_130 : ∀ (v4_130 : Int32) (gMcomes_130 : Nat → Int32) (gMbusyTo_130 : Nat → Int32) (gMfeltMany_130 : Nat → Int32) (gMfeltBits_130 : Nat → Int32) (gMlostBits_130 : Nat → Int32), fM_runs_130 v4_130 xM_people gMkinds gMlates gMscarfs gMhands gMrings gMcomes_130 gMbusyTo_130 gMfeltMany_130 gMfeltBits_130 gMlostBits_130 = some u → ∀ (H : Heap) (locs : List Loc), va_P (dC, dI) vwCl [oM ad xM_typed xM_people xM_posted xM_hears xM_censuses xM_finding, ar (ad 2) cA 20 gMkinds, ar (ad 3) cA 20 gMlates, ar (ad 4) cA 20 gMscarfs, ar (ad 5) cA 20 gMhands, ar (ad 6) cA 20 gMrings, ar (ad 13) cA 8020 gMcomes_130, ar (ad 14) cA 20 gMbusyTo_130, ar (ad 15) cA 20 gMfeltMany_130, ar (ad 16) cA 8020 gMfeltBits_130, ar (ad 17) cA 8020 gMlostBits_130] H → va_D A [oM ad xM_typed xM_people xM_posted xM_hears xM_censuses xM_finding, ar (ad 2) cA 20 gMkinds, ar (ad 3) cA 20 gMlates, ar (ad 4) cA 20 gMscarfs, ar (ad 5) cA 20 gMhands, ar (ad 6) cA 20 gMrings, ar (ad 13) cA 8020 gMcomes_130, ar (ad 14) cA 20 gMbusyTo_130, ar (ad 15) cA 20 gMfeltMany_130, ar (ad 16) cA 8020 gMfeltBits_130, ar (ad 17) cA 8020 gMlostBits_130] → va_S A s.heap H locs → ∀ ls : Array Slot, lv_has ls 10 [(0, .ref (ad 0)), (4, .int v4_130)] → W p l e (headSpec wsX10_runs ({ frames := 3, cells := 0, slots := 0, locals := 74 })).room s m ([.ref (ad 0), .int a1, .int a2, .int a3, .int a4] : List Value).toArray below meth c H locs 0 0 QQ (F0 m 130 ls []) := by
    intro v4_130 gMcomes_130 gMbusyTo_130 gMfeltMany_130 gMfeltBits_130 gMlostBits_130 hm H locs hP hD hS ls hl
    unfold fM_runs_130 at hm
    refine lv_iconst (v := 0) hx hb dX10_runs_130 (by decide) ?_
    refine lv_istore (lv' := [(5, .int 0), (0, .ref (ad 0)), (4, .int v4_130)]) hx hb dX10_runs_131 hl (by decide) rfl (fun ls hl => ?_)
    exact h_133 _ _ _ _ _ _ _ _ hm _ _ hP hD hS _ (lv_sub hl [1, 2, 0] rfl)
  have b_100 : ∀ (v2_100 : Int32) (v3_100 : Int32) (v4_100 : Int32) (gMcomes_100 : Nat → Int32) (gMbusyTo_100 : Nat → Int32) (gMfeltMany_100 : Nat → Int32) (gMfeltBits_100 : Nat → Int32) (gMlostBits_100 : Nat → Int32), fM_runs_100 v2_100 v3_100 v4_100 xM_people gMkinds gMlates gMscarfs gMhands gMrings gMcomes_100 gMbusyTo_100 gMfeltMany_100 gMfeltBits_100 gMlostBits_100 = some u → ∀ (H : Heap) (locs : List Loc), va_P (dC, dI) vwCl [oM ad xM_typed xM_people xM_posted xM_hears xM_censuses xM_finding, ar (ad 2) cA 20 gMkinds, ar (ad 3) cA 20 gMlates, ar (ad 4) cA 20 gMscarfs, ar (ad 5) cA 20 gMhands, ar (ad 6) cA 20 gMrings, ar (ad 13) cA 8020 gMcomes_100, ar (ad 14) cA 20 gMbusyTo_100, ar (ad 15) cA 20 gMfeltMany_100, ar (ad 16) cA 8020 gMfeltBits_100, ar (ad 17) cA 8020 gMlostBits_100] H → va_D A [oM ad xM_typed xM_people xM_posted xM_hears xM_censuses xM_finding, ar (ad 2) cA 20 gMkinds, ar (ad 3) cA 20 gMlates, ar (ad 4) cA 20 gMscarfs, ar (ad 5) cA 20 gMhands, ar (ad 6) cA 20 gMrings, ar (ad 13) cA 8020 gMcomes_100, ar (ad 14) cA 20 gMbusyTo_100, ar (ad 15) cA 20 gMfeltMany_100, ar (ad 16) cA 8020 gMfeltBits_100, ar (ad 17) cA 8020 gMlostBits_100] → va_S A s.heap H locs → ∀ ls : Array Slot, lv_has ls 10 [(0, .ref (ad 0)), (2, .int v2_100), (3, .int v3_100), (4, .int v4_100)] → W p l e (headSpec wsX10_runs ({ frames := 3, cells := 0, slots := 0, locals := 74 })).room s m ([.ref (ad 0), .int a1, .int a2, .int a3, .int a4] : List Value).toArray below meth c H locs 0 0 QQ (F0 m 100 ls []) := by
    intro v2_100 v3_100 v4_100 gMcomes_100 gMbusyTo_100 gMfeltMany_100 gMfeltBits_100 gMlostBits_100 hm H locs hP hD hS ls hl
    unfold fM_runs_100 at hm
    refine lv_iload_n hx hb dX10_runs_100 rfl (lv_at hl 1 rfl) ?_
    refine lv_iconst (v := 0) hx hb dX10_runs_101 (by decide) ?_
    refine lv_aload_n hx hb dX10_runs_102 rfl (lv_at hl 0 rfl) ?_
    refine va_get (D := (dC, dI)) (ci := 10) (v := .int xM_people) (C := RX10) (T := TX10) (N := 37) hx hb hts hinX10 hown hK hP 0 rfl rfl 2 (by decide) hl_112 (fun _ h9 => h9) rfl dX10_runs_103 ?_
    refine lv_iconst (v := 1) hx hb dX10_runs_106 (by decide) ?_
    refine lv_isub hx hb dX10_runs_107 ?_
    have hPc := hP.sub (ws' := []) [] rfl
    have hDc := hD.sub (ws' := []) [] (by decide) rfl
    have hFc := va_free (wc := []) hD hS hA [] rfl
    obtain ⟨u_11, hc_11, hm⟩ := bd_ok hm
    refine va_calli (va_runS (As := [.int v2_100, .int 0, .int (xM_people - 1)]) (rest := []) ⟨hx, hb, hml, hown, hts⟩ (kM_in l dC dI cA cB ad H.size v2_100 0 (xM_people - 1) u_11 hc_11) (va_cwS 3 hts gX10_runs_X10_in rfl rfl rfl (by decide +kernel) ⟨Nat.le_of_ble_eq_true rfl, Nat.le_of_ble_eq_true rfl⟩) ⟨fun a U g mk q => by obtain ⟨q0, q1, qP, qK, qD⟩ := q; exact ⟨q0, q1, qP, va_K.moved (u := U) (U := U.calling g mk a) (Vm.Alike.refl U.vm) qK, qD⟩, fun U hU hW => ⟨rfl, by rw [hU], by rw [hU]; exact hPc, va_K.moved hW.alike hK, hDc.weaken (fun _ _ _ _ => trivial)⟩⟩ rfl rfl hl.1 rfl (lv_room (Nat.le_of_ble_eq_true rfl)) dX10_runs_108 ⟨Nat.le_of_ble_eq_true rfl, Nat.le_of_ble_eq_true rfl⟩) hS (fun q _ h => hFc q h) hFc (fun r_11 _ t H1 locs ht hvm hw hB hz1 hk1 hS => ?_)
    obtain ⟨hP1, hK1, hD1⟩ := hB
    rw [ht] at hP1
    obtain ⟨hP, hD⟩ := va_join (wr := [oM ad xM_typed xM_people xM_posted xM_hears xM_censuses xM_finding, ar (ad 2) cA 20 gMkinds, ar (ad 3) cA 20 gMlates, ar (ad 4) cA 20 gMscarfs, ar (ad 5) cA 20 gMhands, ar (ad 6) cA 20 gMrings, ar (ad 13) cA 8020 gMcomes_100, ar (ad 14) cA 20 gMbusyTo_100, ar (ad 15) cA 20 gMfeltMany_100, ar (ad 16) cA 8020 gMfeltBits_100, ar (ad 17) cA 8020 gMlostBits_100]) (w1 := []) hP hD [] [0, 1, 2, 3, 4, 5, 6, 7, 8, 9, 10] rfl rfl (by decide) (by decide) hk1 hFc hP1 hD1
    clear hPc hDc hFc hP1 hK1 hD1 hk1 hz1 hvm ht
    generalize H1 = H at hP hS ⊢
    have hP : va_P (dC, dI) vwCl [oM ad xM_typed xM_people xM_posted xM_hears xM_censuses xM_finding, ar (ad 2) cA 20 gMkinds, ar (ad 3) cA 20 gMlates, ar (ad 4) cA 20 gMscarfs, ar (ad 5) cA 20 gMhands, ar (ad 6) cA 20 gMrings, ar (ad 13) cA 8020 gMcomes_100, ar (ad 14) cA 20 gMbusyTo_100, ar (ad 15) cA 20 gMfeltMany_100, ar (ad 16) cA 8020 gMfeltBits_100, ar (ad 17) cA 8020 gMlostBits_100] H := hP
    have hD : va_D A [oM ad xM_typed xM_people xM_posted xM_hears xM_censuses xM_finding, ar (ad 2) cA 20 gMkinds, ar (ad 3) cA 20 gMlates, ar (ad 4) cA 20 gMscarfs, ar (ad 5) cA 20 gMhands, ar (ad 6) cA 20 gMrings, ar (ad 13) cA 8020 gMcomes_100, ar (ad 14) cA 20 gMbusyTo_100, ar (ad 15) cA 20 gMfeltMany_100, ar (ad 16) cA 8020 gMfeltBits_100, ar (ad 17) cA 8020 gMlostBits_100] := hD
    have hw := hw.symm
    subst hw
    refine lv_if_eq (tgt := 130) hx hb dX10_runs_111 (by decide) (fun c_12 => ?_) (fun c_12 => ?_)
    · have hm := it_pos c_12 hm
      exact b_130 _ _ _ _ _ _ hm _ _ hP hD hS _ (lv_sub hl [0, 3] rfl)
    · have hm := it_neg c_12 hm
      refine lv_aload_n hx hb dX10_runs_114 rfl (lv_at hl 0 rfl) ?_
      refine va_get (D := (dC, dI)) (ci := 10) (v := .ref (ad 13)) (C := RX10) (T := TX10) (N := 37) hx hb hts hinX10 hown hK hP 0 rfl rfl 14 (by decide) hl_46 (fun _ h9 => h9) rfl dX10_runs_115 ?_
      refine lv_bipush (v := 20) hx hb dX10_runs_118 (by decide) ?_
      refine lv_iload_n hx hb dX10_runs_120 rfl (lv_at hl 2 rfl) ?_
      refine lv_imul hx hb dX10_runs_121 ?_
      refine lv_iload_n hx hb dX10_runs_122 rfl (lv_at hl 1 rfl) ?_
      refine lv_iadd hx hb dX10_runs_123 ?_
      refine lv_dup2_11 hx hb dX10_runs_124 rfl rfl ?_
      obtain ⟨i_13, hm⟩ := ck_ok hm
      refine va_iald hx hb hK hP 6 0 rfl rfl i_13 dX10_runs_125 ?_
      refine lv_ldc hx hb hown hw_2 dX10_runs_126 ?_
      refine lv_ior hx hb dX10_runs_128 ?_
      obtain ⟨i_14, hm⟩ := ck_ok hm
      refine va_iast hx hb hK hP hD hS 6 0 rfl rfl i_14 dX10_runs_129 (fun H locs hP hD hS => ?_)
      have hP : va_P (dC, dI) vwCl [oM ad xM_typed xM_people xM_posted xM_hears xM_censuses xM_finding, ar (ad 2) cA 20 gMkinds, ar (ad 3) cA 20 gMlates, ar (ad 4) cA 20 gMscarfs, ar (ad 5) cA 20 gMhands, ar (ad 6) cA 20 gMrings, ar (ad 13) cA 8020 (upd gMcomes_100 ((20 * v3_100) + v2_100).toNatClampNeg ((gMcomes_100 ((20 * v3_100) + v2_100).toNatClampNeg) ||| (2097152))), ar (ad 14) cA 20 gMbusyTo_100, ar (ad 15) cA 20 gMfeltMany_100, ar (ad 16) cA 8020 gMfeltBits_100, ar (ad 17) cA 8020 gMlostBits_100] H := hP
      have hD : va_D A [oM ad xM_typed xM_people xM_posted xM_hears xM_censuses xM_finding, ar (ad 2) cA 20 gMkinds, ar (ad 3) cA 20 gMlates, ar (ad 4) cA 20 gMscarfs, ar (ad 5) cA 20 gMhands, ar (ad 6) cA 20 gMrings, ar (ad 13) cA 8020 (upd gMcomes_100 ((20 * v3_100) + v2_100).toNatClampNeg ((gMcomes_100 ((20 * v3_100) + v2_100).toNatClampNeg) ||| (2097152))), ar (ad 14) cA 20 gMbusyTo_100, ar (ad 15) cA 20 gMfeltMany_100, ar (ad 16) cA 8020 gMfeltBits_100, ar (ad 17) cA 8020 gMlostBits_100] := hD
      exact b_130 _ _ _ _ _ _ hm _ _ hP hD hS _ (lv_sub hl [0, 3] rfl)
  have h_44 : ∀ (v1_44 : Int32) (v2_44 : Int32) (v3_44 : Int32) (v4_44 : Int32) (gMcomes_44 : Nat → Int32) (gMfeltBits_44 : Nat → Int32) (gMlostBits_44 : Nat → Int32), ∀ (n_44 : Nat), ∀ (v5_44 : Int32) (gMbusyTo_44 : Nat → Int32) (gMfeltMany_44 : Nat → Int32), fM_runs_44 v1_44 v2_44 v3_44 v4_44 xM_people gMkinds gMlates gMscarfs gMhands gMrings gMcomes_44 gMfeltBits_44 gMlostBits_44 n_44 v5_44 gMbusyTo_44 gMfeltMany_44 = some u → ∀ (H : Heap) (locs : List Loc), va_P (dC, dI) vwCl [oM ad xM_typed xM_people xM_posted xM_hears xM_censuses xM_finding, ar (ad 2) cA 20 gMkinds, ar (ad 3) cA 20 gMlates, ar (ad 4) cA 20 gMscarfs, ar (ad 5) cA 20 gMhands, ar (ad 6) cA 20 gMrings, ar (ad 13) cA 8020 gMcomes_44, ar (ad 14) cA 20 gMbusyTo_44, ar (ad 15) cA 20 gMfeltMany_44, ar (ad 16) cA 8020 gMfeltBits_44, ar (ad 17) cA 8020 gMlostBits_44] H → va_D A [oM ad xM_typed xM_people xM_posted xM_hears xM_censuses xM_finding, ar (ad 2) cA 20 gMkinds, ar (ad 3) cA 20 gMlates, ar (ad 4) cA 20 gMscarfs, ar (ad 5) cA 20 gMhands, ar (ad 6) cA 20 gMrings, ar (ad 13) cA 8020 gMcomes_44, ar (ad 14) cA 20 gMbusyTo_44, ar (ad 15) cA 20 gMfeltMany_44, ar (ad 16) cA 8020 gMfeltBits_44, ar (ad 17) cA 8020 gMlostBits_44] → va_S A s.heap H locs → ∀ ls : Array Slot, lv_has ls 10 [(0, .ref (ad 0)), (1, .int v1_44), (2, .int v2_44), (3, .int v3_44), (4, .int v4_44), (5, .int v5_44)] → W p l e (headSpec wsX10_runs ({ frames := 3, cells := 0, slots := 0, locals := 74 })).room s m ([.ref (ad 0), .int a1, .int a2, .int a3, .int a4] : List Value).toArray below meth c H locs 0 0 QQ (F0 m 44 ls []) := by
    intro v1_44 v2_44 v3_44 v4_44 gMcomes_44 gMfeltBits_44 gMlostBits_44
    intro n_44
    induction n_44 with
    | zero => intro v5_44 gMbusyTo_44 gMfeltMany_44 hm; have hm : (none : Option ((Nat → Int32) × (Nat → Int32) × (Nat → Int32) × (Nat → Int32) × (Nat → Int32))) = some u := hm; cases hm
    | succ n_44 ih_44 =>
      intro v5_44 gMbusyTo_44 gMfeltMany_44 hm H locs hP hD hS ls hl
      have hm : fM_runs_44_b  (fM_runs_44  v1_44 v2_44 v3_44 v4_44 xM_people gMkinds gMlates gMscarfs gMhands gMrings gMcomes_44 gMfeltBits_44 gMlostBits_44 n_44) v1_44 v2_44 v3_44 v4_44 xM_people gMkinds gMlates gMscarfs gMhands gMrings gMcomes_44 gMfeltBits_44 gMlostBits_44 v5_44 gMbusyTo_44 gMfeltMany_44 = some u := hm
      unfold fM_runs_44_b at hm
      refine lv_iload hx hb dX10_runs_44 (lv_at hl 5 rfl) ?_
      refine lv_aload_n hx hb dX10_runs_46 rfl (lv_at hl 0 rfl) ?_
      refine va_get (D := (dC, dI)) (ci := 10) (v := .int xM_people) (C := RX10) (T := TX10) (N := 37) hx hb hts hinX10 hown hK hP 0 rfl rfl 2 (by decide) hl_112 (fun _ h9 => h9) rfl dX10_runs_47 ?_
      refine lv_icmp_ge (tgt := 75) hx hb dX10_runs_50 (by decide) (fun c_15 => ?_) (fun c_15 => ?_)
      · have hm := it_pos c_15 hm
        refine lv_iload_n hx hb dX10_runs_75 rfl (lv_at hl 1 rfl) ?_
        refine lv_iconst (v := 0) hx hb dX10_runs_76 (by decide) ?_
        refine lv_aload_n hx hb dX10_runs_77 rfl (lv_at hl 0 rfl) ?_
        refine va_get (D := (dC, dI)) (ci := 10) (v := .int xM_people) (C := RX10) (T := TX10) (N := 37) hx hb hts hinX10 hown hK hP 0 rfl rfl 2 (by decide) hl_112 (fun _ h9 => h9) rfl dX10_runs_78 ?_
        refine lv_iconst (v := 1) hx hb dX10_runs_81 (by decide) ?_
        refine lv_isub hx hb dX10_runs_82 ?_
        have hPc := hP.sub (ws' := []) [] rfl
        have hDc := hD.sub (ws' := []) [] (by decide) rfl
        have hFc := va_free (wc := []) hD hS hA [] rfl
        obtain ⟨u_16, hc_16, hm⟩ := bd_ok hm
        refine va_calli (va_runS (As := [.int v1_44, .int 0, .int (xM_people - 1)]) (rest := []) ⟨hx, hb, hml, hown, hts⟩ (kM_in l dC dI cA cB ad H.size v1_44 0 (xM_people - 1) u_16 hc_16) (va_cwS 3 hts gX10_runs_X10_in rfl rfl rfl (by decide +kernel) ⟨Nat.le_of_ble_eq_true rfl, Nat.le_of_ble_eq_true rfl⟩) ⟨fun a U g mk q => by obtain ⟨q0, q1, qP, qK, qD⟩ := q; exact ⟨q0, q1, qP, va_K.moved (u := U) (U := U.calling g mk a) (Vm.Alike.refl U.vm) qK, qD⟩, fun U hU hW => ⟨rfl, by rw [hU], by rw [hU]; exact hPc, va_K.moved hW.alike hK, hDc.weaken (fun _ _ _ _ => trivial)⟩⟩ rfl rfl hl.1 rfl (lv_room (Nat.le_of_ble_eq_true rfl)) dX10_runs_83 ⟨Nat.le_of_ble_eq_true rfl, Nat.le_of_ble_eq_true rfl⟩) hS (fun q _ h => hFc q h) hFc (fun r_16 _ t H1 locs ht hvm hw hB hz1 hk1 hS => ?_)
        obtain ⟨hP1, hK1, hD1⟩ := hB
        rw [ht] at hP1
        obtain ⟨hP, hD⟩ := va_join (wr := [oM ad xM_typed xM_people xM_posted xM_hears xM_censuses xM_finding, ar (ad 2) cA 20 gMkinds, ar (ad 3) cA 20 gMlates, ar (ad 4) cA 20 gMscarfs, ar (ad 5) cA 20 gMhands, ar (ad 6) cA 20 gMrings, ar (ad 13) cA 8020 gMcomes_44, ar (ad 14) cA 20 gMbusyTo_44, ar (ad 15) cA 20 gMfeltMany_44, ar (ad 16) cA 8020 gMfeltBits_44, ar (ad 17) cA 8020 gMlostBits_44]) (w1 := []) hP hD [] [0, 1, 2, 3, 4, 5, 6, 7, 8, 9, 10] rfl rfl (by decide) (by decide) hk1 hFc hP1 hD1
        clear hPc hDc hFc hP1 hK1 hD1 hk1 hz1 hvm ht
        generalize H1 = H at hP hS ⊢
        have hP : va_P (dC, dI) vwCl [oM ad xM_typed xM_people xM_posted xM_hears xM_censuses xM_finding, ar (ad 2) cA 20 gMkinds, ar (ad 3) cA 20 gMlates, ar (ad 4) cA 20 gMscarfs, ar (ad 5) cA 20 gMhands, ar (ad 6) cA 20 gMrings, ar (ad 13) cA 8020 gMcomes_44, ar (ad 14) cA 20 gMbusyTo_44, ar (ad 15) cA 20 gMfeltMany_44, ar (ad 16) cA 8020 gMfeltBits_44, ar (ad 17) cA 8020 gMlostBits_44] H := hP
        have hD : va_D A [oM ad xM_typed xM_people xM_posted xM_hears xM_censuses xM_finding, ar (ad 2) cA 20 gMkinds, ar (ad 3) cA 20 gMlates, ar (ad 4) cA 20 gMscarfs, ar (ad 5) cA 20 gMhands, ar (ad 6) cA 20 gMrings, ar (ad 13) cA 8020 gMcomes_44, ar (ad 14) cA 20 gMbusyTo_44, ar (ad 15) cA 20 gMfeltMany_44, ar (ad 16) cA 8020 gMfeltBits_44, ar (ad 17) cA 8020 gMlostBits_44] := hD
        have hw := hw.symm
        subst hw
        refine lv_if_eq (tgt := 100) hx hb dX10_runs_86 (by decide) (fun c_17 => ?_) (fun c_17 => ?_)
        · have hm := it_pos c_17 hm
          exact b_100 _ _ _ _ _ _ _ _ hm _ _ hP hD hS _ (lv_sub hl [0, 2, 3, 4] rfl)
        · have hm := it_neg c_17 hm
          refine lv_aload_n hx hb dX10_runs_89 rfl (lv_at hl 0 rfl) ?_
          refine va_get (D := (dC, dI)) (ci := 10) (v := .ref (ad 13)) (C := RX10) (T := TX10) (N := 37) hx hb hts hinX10 hown hK hP 0 rfl rfl 14 (by decide) hl_46 (fun _ h9 => h9) rfl dX10_runs_90 ?_
          refine lv_iload_n hx hb dX10_runs_93 rfl (lv_at hl 1 rfl) ?_
          refine lv_dup2_11 hx hb dX10_runs_94 rfl rfl ?_
          obtain ⟨i_18, hm⟩ := ck_ok hm
          refine va_iald hx hb hK hP 6 0 rfl rfl i_18 dX10_runs_95 ?_
          refine lv_ldc hx hb hown hw_3 dX10_runs_96 ?_
          refine lv_ior hx hb dX10_runs_98 ?_
          obtain ⟨i_19, hm⟩ := ck_ok hm
          refine va_iast hx hb hK hP hD hS 6 0 rfl rfl i_19 dX10_runs_99 (fun H locs hP hD hS => ?_)
          have hP : va_P (dC, dI) vwCl [oM ad xM_typed xM_people xM_posted xM_hears xM_censuses xM_finding, ar (ad 2) cA 20 gMkinds, ar (ad 3) cA 20 gMlates, ar (ad 4) cA 20 gMscarfs, ar (ad 5) cA 20 gMhands, ar (ad 6) cA 20 gMrings, ar (ad 13) cA 8020 (upd gMcomes_44 v1_44.toNatClampNeg ((gMcomes_44 v1_44.toNatClampNeg) ||| (1048576))), ar (ad 14) cA 20 gMbusyTo_44, ar (ad 15) cA 20 gMfeltMany_44, ar (ad 16) cA 8020 gMfeltBits_44, ar (ad 17) cA 8020 gMlostBits_44] H := hP
          have hD : va_D A [oM ad xM_typed xM_people xM_posted xM_hears xM_censuses xM_finding, ar (ad 2) cA 20 gMkinds, ar (ad 3) cA 20 gMlates, ar (ad 4) cA 20 gMscarfs, ar (ad 5) cA 20 gMhands, ar (ad 6) cA 20 gMrings, ar (ad 13) cA 8020 (upd gMcomes_44 v1_44.toNatClampNeg ((gMcomes_44 v1_44.toNatClampNeg) ||| (1048576))), ar (ad 14) cA 20 gMbusyTo_44, ar (ad 15) cA 20 gMfeltMany_44, ar (ad 16) cA 8020 gMfeltBits_44, ar (ad 17) cA 8020 gMlostBits_44] := hD
          exact b_100 _ _ _ _ _ _ _ _ hm _ _ hP hD hS _ (lv_sub hl [0, 2, 3, 4] rfl)
      · have hm := it_neg c_15 hm
        refine lv_aload_n hx hb dX10_runs_53 rfl (lv_at hl 0 rfl) ?_
        refine va_get (D := (dC, dI)) (ci := 10) (v := .ref (ad 14)) (C := RX10) (T := TX10) (N := 37) hx hb hts hinX10 hown hK hP 0 rfl rfl 15 (by decide) hl_49 (fun _ h9 => h9) rfl dX10_runs_54 ?_
        refine lv_iload hx hb dX10_runs_57 (lv_at hl 5 rfl) ?_
        refine lv_iconst (v := 0) hx hb dX10_runs_59 (by decide) ?_
        obtain ⟨i_20, hm⟩ := ck_ok hm
        refine va_iast hx hb hK hP hD hS 7 0 rfl rfl i_20 dX10_runs_60 (fun H locs hP hD hS => ?_)
        have hP : va_P (dC, dI) vwCl [oM ad xM_typed xM_people xM_posted xM_hears xM_censuses xM_finding, ar (ad 2) cA 20 gMkinds, ar (ad 3) cA 20 gMlates, ar (ad 4) cA 20 gMscarfs, ar (ad 5) cA 20 gMhands, ar (ad 6) cA 20 gMrings, ar (ad 13) cA 8020 gMcomes_44, ar (ad 14) cA 20 (upd gMbusyTo_44 v5_44.toNatClampNeg 0), ar (ad 15) cA 20 gMfeltMany_44, ar (ad 16) cA 8020 gMfeltBits_44, ar (ad 17) cA 8020 gMlostBits_44] H := hP
        have hD : va_D A [oM ad xM_typed xM_people xM_posted xM_hears xM_censuses xM_finding, ar (ad 2) cA 20 gMkinds, ar (ad 3) cA 20 gMlates, ar (ad 4) cA 20 gMscarfs, ar (ad 5) cA 20 gMhands, ar (ad 6) cA 20 gMrings, ar (ad 13) cA 8020 gMcomes_44, ar (ad 14) cA 20 (upd gMbusyTo_44 v5_44.toNatClampNeg 0), ar (ad 15) cA 20 gMfeltMany_44, ar (ad 16) cA 8020 gMfeltBits_44, ar (ad 17) cA 8020 gMlostBits_44] := hD
        refine lv_aload_n hx hb dX10_runs_61 rfl (lv_at hl 0 rfl) ?_
        refine va_get (D := (dC, dI)) (ci := 10) (v := .ref (ad 15)) (C := RX10) (T := TX10) (N := 37) hx hb hts hinX10 hown hK hP 0 rfl rfl 16 (by decide) hl_52 (fun _ h9 => h9) rfl dX10_runs_62 ?_
        refine lv_iload hx hb dX10_runs_65 (lv_at hl 5 rfl) ?_
        refine lv_iconst (v := 0) hx hb dX10_runs_67 (by decide) ?_
        obtain ⟨i_21, hm⟩ := ck_ok hm
        refine va_iast hx hb hK hP hD hS 8 0 rfl rfl i_21 dX10_runs_68 (fun H locs hP hD hS => ?_)
        have hP : va_P (dC, dI) vwCl [oM ad xM_typed xM_people xM_posted xM_hears xM_censuses xM_finding, ar (ad 2) cA 20 gMkinds, ar (ad 3) cA 20 gMlates, ar (ad 4) cA 20 gMscarfs, ar (ad 5) cA 20 gMhands, ar (ad 6) cA 20 gMrings, ar (ad 13) cA 8020 gMcomes_44, ar (ad 14) cA 20 (upd gMbusyTo_44 v5_44.toNatClampNeg 0), ar (ad 15) cA 20 (upd gMfeltMany_44 v5_44.toNatClampNeg 0), ar (ad 16) cA 8020 gMfeltBits_44, ar (ad 17) cA 8020 gMlostBits_44] H := hP
        have hD : va_D A [oM ad xM_typed xM_people xM_posted xM_hears xM_censuses xM_finding, ar (ad 2) cA 20 gMkinds, ar (ad 3) cA 20 gMlates, ar (ad 4) cA 20 gMscarfs, ar (ad 5) cA 20 gMhands, ar (ad 6) cA 20 gMrings, ar (ad 13) cA 8020 gMcomes_44, ar (ad 14) cA 20 (upd gMbusyTo_44 v5_44.toNatClampNeg 0), ar (ad 15) cA 20 (upd gMfeltMany_44 v5_44.toNatClampNeg 0), ar (ad 16) cA 8020 gMfeltBits_44, ar (ad 17) cA 8020 gMlostBits_44] := hD
        refine lv_iinc (v := (v5_44 + 1)) (lv' := [(5, .int (v5_44 + 1)), (0, .ref (ad 0)), (1, .int v1_44), (2, .int v2_44), (3, .int v3_44), (4, .int v4_44)]) hx hb dX10_runs_69 hl (k := 5) rfl rfl (by decide) rfl (fun ls hl => ?_)
        refine lv_goto (tgt := 44) hx hb dX10_runs_72 (by decide) ?_
        exact ih_44 _ _ _ hm _ _ hP hD hS _ (lv_sub hl [1, 2, 3, 4, 5, 0] rfl)
  have h_3 : ∀ (v1_3 : Int32) (v2_3 : Int32) (v3_3 : Int32) (v4_3 : Int32) (gMbusyTo_3 : Nat → Int32) (gMfeltMany_3 : Nat → Int32), ∀ (n_3 : Nat), ∀ (v5_3 : Int32) (gMcomes_3 : Nat → Int32) (gMfeltBits_3 : Nat → Int32) (gMlostBits_3 : Nat → Int32), fM_runs_3 v1_3 v2_3 v3_3 v4_3 xM_people gMkinds gMlates gMscarfs gMhands gMrings gMbusyTo_3 gMfeltMany_3 n_3 v5_3 gMcomes_3 gMfeltBits_3 gMlostBits_3 = some u → ∀ (H : Heap) (locs : List Loc), va_P (dC, dI) vwCl [oM ad xM_typed xM_people xM_posted xM_hears xM_censuses xM_finding, ar (ad 2) cA 20 gMkinds, ar (ad 3) cA 20 gMlates, ar (ad 4) cA 20 gMscarfs, ar (ad 5) cA 20 gMhands, ar (ad 6) cA 20 gMrings, ar (ad 13) cA 8020 gMcomes_3, ar (ad 14) cA 20 gMbusyTo_3, ar (ad 15) cA 20 gMfeltMany_3, ar (ad 16) cA 8020 gMfeltBits_3, ar (ad 17) cA 8020 gMlostBits_3] H → va_D A [oM ad xM_typed xM_people xM_posted xM_hears xM_censuses xM_finding, ar (ad 2) cA 20 gMkinds, ar (ad 3) cA 20 gMlates, ar (ad 4) cA 20 gMscarfs, ar (ad 5) cA 20 gMhands, ar (ad 6) cA 20 gMrings, ar (ad 13) cA 8020 gMcomes_3, ar (ad 14) cA 20 gMbusyTo_3, ar (ad 15) cA 20 gMfeltMany_3, ar (ad 16) cA 8020 gMfeltBits_3, ar (ad 17) cA 8020 gMlostBits_3] → va_S A s.heap H locs → ∀ ls : Array Slot, lv_has ls 10 [(0, .ref (ad 0)), (1, .int v1_3), (2, .int v2_3), (3, .int v3_3), (4, .int v4_3), (5, .int v5_3)] → W p l e (headSpec wsX10_runs ({ frames := 3, cells := 0, slots := 0, locals := 74 })).room s m ([.ref (ad 0), .int a1, .int a2, .int a3, .int a4] : List Value).toArray below meth c H locs 0 0 QQ (F0 m 3 ls []) := by
    intro v1_3 v2_3 v3_3 v4_3 gMbusyTo_3 gMfeltMany_3
    intro n_3
    induction n_3 with
    | zero => intro v5_3 gMcomes_3 gMfeltBits_3 gMlostBits_3 hm; have hm : (none : Option ((Nat → Int32) × (Nat → Int32) × (Nat → Int32) × (Nat → Int32) × (Nat → Int32))) = some u := hm; cases hm
    | succ n_3 ih_3 =>
      intro v5_3 gMcomes_3 gMfeltBits_3 gMlostBits_3 hm H locs hP hD hS ls hl
      have hm : fM_runs_3_b  (fM_runs_3  v1_3 v2_3 v3_3 v4_3 xM_people gMkinds gMlates gMscarfs gMhands gMrings gMbusyTo_3 gMfeltMany_3 n_3) v1_3 v2_3 v3_3 v4_3 xM_people gMkinds gMlates gMscarfs gMhands gMrings gMbusyTo_3 gMfeltMany_3 v5_3 gMcomes_3 gMfeltBits_3 gMlostBits_3 = some u := hm
      unfold fM_runs_3_b at hm
      refine lv_iload hx hb dX10_runs_3 (lv_at hl 5 rfl) ?_
      refine lv_sipush (v := 8020) hx hb dX10_runs_5 (by decide) ?_
      refine lv_icmp_ge (tgt := 41) hx hb dX10_runs_8 (by decide) (fun c_22 => ?_) (fun c_22 => ?_)
      · have hm := it_pos c_22 hm
        refine lv_iconst (v := 0) hx hb dX10_runs_41 (by decide) ?_
        refine lv_istore (lv' := [(5, .int 0), (0, .ref (ad 0)), (1, .int v1_3), (2, .int v2_3), (3, .int v3_3), (4, .int v4_3)]) hx hb dX10_runs_42 hl (by decide) rfl (fun ls hl => ?_)
        exact h_44 _ _ _ _ _ _ _ _ _ _ _ hm _ _ hP hD hS _ (lv_sub hl [1, 2, 3, 4, 5, 0] rfl)
      · have hm := it_neg c_22 hm
        refine lv_aload_n hx hb dX10_runs_11 rfl (lv_at hl 0 rfl) ?_
        refine va_get (D := (dC, dI)) (ci := 10) (v := .ref (ad 13)) (C := RX10) (T := TX10) (N := 37) hx hb hts hinX10 hown hK hP 0 rfl rfl 14 (by decide) hl_46 (fun _ h9 => h9) rfl dX10_runs_12 ?_
        refine lv_iload hx hb dX10_runs_15 (lv_at hl 5 rfl) ?_
        refine lv_iconst (v := 0) hx hb dX10_runs_17 (by decide) ?_
        obtain ⟨i_23, hm⟩ := ck_ok hm
        refine va_iast hx hb hK hP hD hS 6 0 rfl rfl i_23 dX10_runs_18 (fun H locs hP hD hS => ?_)
        have hP : va_P (dC, dI) vwCl [oM ad xM_typed xM_people xM_posted xM_hears xM_censuses xM_finding, ar (ad 2) cA 20 gMkinds, ar (ad 3) cA 20 gMlates, ar (ad 4) cA 20 gMscarfs, ar (ad 5) cA 20 gMhands, ar (ad 6) cA 20 gMrings, ar (ad 13) cA 8020 (upd gMcomes_3 v5_3.toNatClampNeg 0), ar (ad 14) cA 20 gMbusyTo_3, ar (ad 15) cA 20 gMfeltMany_3, ar (ad 16) cA 8020 gMfeltBits_3, ar (ad 17) cA 8020 gMlostBits_3] H := hP
        have hD : va_D A [oM ad xM_typed xM_people xM_posted xM_hears xM_censuses xM_finding, ar (ad 2) cA 20 gMkinds, ar (ad 3) cA 20 gMlates, ar (ad 4) cA 20 gMscarfs, ar (ad 5) cA 20 gMhands, ar (ad 6) cA 20 gMrings, ar (ad 13) cA 8020 (upd gMcomes_3 v5_3.toNatClampNeg 0), ar (ad 14) cA 20 gMbusyTo_3, ar (ad 15) cA 20 gMfeltMany_3, ar (ad 16) cA 8020 gMfeltBits_3, ar (ad 17) cA 8020 gMlostBits_3] := hD
        refine lv_aload_n hx hb dX10_runs_19 rfl (lv_at hl 0 rfl) ?_
        refine va_get (D := (dC, dI)) (ci := 10) (v := .ref (ad 16)) (C := RX10) (T := TX10) (N := 37) hx hb hts hinX10 hown hK hP 0 rfl rfl 17 (by decide) hl_55 (fun _ h9 => h9) rfl dX10_runs_20 ?_
        refine lv_iload hx hb dX10_runs_23 (lv_at hl 5 rfl) ?_
        refine lv_iconst (v := 0) hx hb dX10_runs_25 (by decide) ?_
        obtain ⟨i_24, hm⟩ := ck_ok hm
        refine va_iast hx hb hK hP hD hS 9 0 rfl rfl i_24 dX10_runs_26 (fun H locs hP hD hS => ?_)
        have hP : va_P (dC, dI) vwCl [oM ad xM_typed xM_people xM_posted xM_hears xM_censuses xM_finding, ar (ad 2) cA 20 gMkinds, ar (ad 3) cA 20 gMlates, ar (ad 4) cA 20 gMscarfs, ar (ad 5) cA 20 gMhands, ar (ad 6) cA 20 gMrings, ar (ad 13) cA 8020 (upd gMcomes_3 v5_3.toNatClampNeg 0), ar (ad 14) cA 20 gMbusyTo_3, ar (ad 15) cA 20 gMfeltMany_3, ar (ad 16) cA 8020 (upd gMfeltBits_3 v5_3.toNatClampNeg 0), ar (ad 17) cA 8020 gMlostBits_3] H := hP
        have hD : va_D A [oM ad xM_typed xM_people xM_posted xM_hears xM_censuses xM_finding, ar (ad 2) cA 20 gMkinds, ar (ad 3) cA 20 gMlates, ar (ad 4) cA 20 gMscarfs, ar (ad 5) cA 20 gMhands, ar (ad 6) cA 20 gMrings, ar (ad 13) cA 8020 (upd gMcomes_3 v5_3.toNatClampNeg 0), ar (ad 14) cA 20 gMbusyTo_3, ar (ad 15) cA 20 gMfeltMany_3, ar (ad 16) cA 8020 (upd gMfeltBits_3 v5_3.toNatClampNeg 0), ar (ad 17) cA 8020 gMlostBits_3] := hD
        refine lv_aload_n hx hb dX10_runs_27 rfl (lv_at hl 0 rfl) ?_
        refine va_get (D := (dC, dI)) (ci := 10) (v := .ref (ad 17)) (C := RX10) (T := TX10) (N := 37) hx hb hts hinX10 hown hK hP 0 rfl rfl 18 (by decide) hl_58 (fun _ h9 => h9) rfl dX10_runs_28 ?_
        refine lv_iload hx hb dX10_runs_31 (lv_at hl 5 rfl) ?_
        refine lv_iconst (v := 0) hx hb dX10_runs_33 (by decide) ?_
        obtain ⟨i_25, hm⟩ := ck_ok hm
        refine va_iast hx hb hK hP hD hS 10 0 rfl rfl i_25 dX10_runs_34 (fun H locs hP hD hS => ?_)
        have hP : va_P (dC, dI) vwCl [oM ad xM_typed xM_people xM_posted xM_hears xM_censuses xM_finding, ar (ad 2) cA 20 gMkinds, ar (ad 3) cA 20 gMlates, ar (ad 4) cA 20 gMscarfs, ar (ad 5) cA 20 gMhands, ar (ad 6) cA 20 gMrings, ar (ad 13) cA 8020 (upd gMcomes_3 v5_3.toNatClampNeg 0), ar (ad 14) cA 20 gMbusyTo_3, ar (ad 15) cA 20 gMfeltMany_3, ar (ad 16) cA 8020 (upd gMfeltBits_3 v5_3.toNatClampNeg 0), ar (ad 17) cA 8020 (upd gMlostBits_3 v5_3.toNatClampNeg 0)] H := hP
        have hD : va_D A [oM ad xM_typed xM_people xM_posted xM_hears xM_censuses xM_finding, ar (ad 2) cA 20 gMkinds, ar (ad 3) cA 20 gMlates, ar (ad 4) cA 20 gMscarfs, ar (ad 5) cA 20 gMhands, ar (ad 6) cA 20 gMrings, ar (ad 13) cA 8020 (upd gMcomes_3 v5_3.toNatClampNeg 0), ar (ad 14) cA 20 gMbusyTo_3, ar (ad 15) cA 20 gMfeltMany_3, ar (ad 16) cA 8020 (upd gMfeltBits_3 v5_3.toNatClampNeg 0), ar (ad 17) cA 8020 (upd gMlostBits_3 v5_3.toNatClampNeg 0)] := hD
        refine lv_iinc (v := (v5_3 + 1)) (lv' := [(5, .int (v5_3 + 1)), (0, .ref (ad 0)), (1, .int v1_3), (2, .int v2_3), (3, .int v3_3), (4, .int v4_3)]) hx hb dX10_runs_35 hl (k := 5) rfl rfl (by decide) rfl (fun ls hl => ?_)
        refine lv_goto (tgt := 3) hx hb dX10_runs_38 (by decide) ?_
        exact ih_3 _ _ _ _ hm _ _ hP hD hS _ (lv_sub hl [1, 2, 3, 4, 5, 0] rfl)
  unfold fM_runs at hm
  refine lv_iconst (v := 0) hx hb dX10_runs_0 (by decide) ?_
  refine lv_istore (lv' := [(5, .int 0), (0, .ref (ad 0)), (1, .int a1), (2, .int a2), (3, .int a3), (4, .int a4)]) hx hb dX10_runs_1 hl (by decide) rfl (fun ls hl => ?_)
  exact h_3 _ _ _ _ _ _ _ _ _ _ _ hm _ _ hP hD hS _ (lv_sub hl [1, 2, 3, 4, 5, 0] rfl)

set_option maxHeartbeats 4000000 in
set_option maxRecDepth 100000 in
theorem kM_lays (l : Launch) (dC : Nat → ClassId) (dI : Nat → Nat → Nat) (cA : ClassId) (cB : ClassId) (ad : Nat → Nat) (sz : Nat) (xM_typed : Int32) (xM_people : Int32) (xM_posted : Int32) (xM_hears : Int32) (xM_censuses : Int32) (xM_finding : Int32) (gMtext : Nat → Int32) (gMkinds : Nat → Int32) (gMlates : Nat → Int32) (gMscarfs : Nat → Int32) (gMhands : Nat → Int32) (gMrings : Nat → Int32) (gMmains : Nat → Int32) (gMaheadOf : Nat → Int32) (gMlastIn : Nat → Int32) (gMmanyIn : Nat → Int32) (gMsetting : Nat → Int32) (gMcomes : Nat → Int32) (gMbusyTo : Nat → Int32) (gMfeltMany : Nat → Int32) (gMfeltBits : Nat → Int32) (gMlostBits : Nat → Int32) (u : Int32 × (Nat → Int32) × (Nat → Int32) × (Nat → Int32) × (Nat → Int32) × (Nat → Int32) × (Nat → Int32) × (Nat → Int32) × (Nat → Int32) × (Nat → Int32) × (Nat → Int32) × (Nat → Int32) × (Nat → Int32) × (Nat → Int32) × (Nat → Int32)) (hm : fM_lays xM_typed xM_people gMtext gMkinds gMlates gMscarfs gMhands gMrings gMmains gMaheadOf gMlastIn gMmanyIn gMsetting gMcomes gMbusyTo gMfeltMany gMfeltBits gMlostBits = some u) : Met l yX10_lays wsX10_lays ({ frames := 4, cells := 0, slots := 0, locals := 103 }) (va_Pc [.ref (ad 0)] (fun U => U.heap.size = sz ∧ va_P (dC, dI) vwCl [oM ad xM_typed xM_people xM_posted xM_hears xM_censuses xM_finding, ar (ad 1) cA 60 gMtext, ar (ad 2) cA 20 gMkinds, ar (ad 3) cA 20 gMlates, ar (ad 4) cA 20 gMscarfs, ar (ad 5) cA 20 gMhands, ar (ad 6) cA 20 gMrings, ar (ad 7) cA 20 gMmains, ar (ad 8) cA 4 gMaheadOf, ar (ad 9) cA 4 gMlastIn, ar (ad 10) cA 4 gMmanyIn, ar (ad 11) cA 3 gMsetting, ar (ad 13) cA 8020 gMcomes, ar (ad 14) cA 20 gMbusyTo, ar (ad 15) cA 20 gMfeltMany, ar (ad 16) cA 8020 gMfeltBits, ar (ad 17) cA 8020 gMlostBits] U.heap ∧ va_K (dC, dI) vwCl [(cA, .int), (cB, .boolean)] U ∧ va_D (fun _ => True) [oM ad xM_typed xM_people xM_posted xM_hears xM_censuses xM_finding, ar (ad 1) cA 60 gMtext, ar (ad 2) cA 20 gMkinds, ar (ad 3) cA 20 gMlates, ar (ad 4) cA 20 gMscarfs, ar (ad 5) cA 20 gMhands, ar (ad 6) cA 20 gMrings, ar (ad 7) cA 20 gMmains, ar (ad 8) cA 4 gMaheadOf, ar (ad 9) cA 4 gMlastIn, ar (ad 10) cA 4 gMmanyIn, ar (ad 11) cA 3 gMsetting, ar (ad 13) cA 8020 gMcomes, ar (ad 14) cA 20 gMbusyTo, ar (ad 15) cA 20 gMfeltMany, ar (ad 16) cA 8020 gMfeltBits, ar (ad 17) cA 8020 gMlostBits])) (va_Qv (fun (_ : Unit) => True) (fun (_ : Unit) t => va_P (dC, dI) vwCl [oM ad xM_typed u.1 xM_posted xM_hears xM_censuses xM_finding, ar (ad 1) cA 60 gMtext, ar (ad 2) cA 20 u.2.1, ar (ad 3) cA 20 u.2.2.1, ar (ad 4) cA 20 u.2.2.2.1, ar (ad 5) cA 20 u.2.2.2.2.1, ar (ad 6) cA 20 u.2.2.2.2.2.1, ar (ad 7) cA 20 u.2.2.2.2.2.2.1, ar (ad 8) cA 4 u.2.2.2.2.2.2.2.1, ar (ad 9) cA 4 u.2.2.2.2.2.2.2.2.1, ar (ad 10) cA 4 u.2.2.2.2.2.2.2.2.2.1, ar (ad 11) cA 3 gMsetting, ar (ad 13) cA 8020 u.2.2.2.2.2.2.2.2.2.2.1, ar (ad 14) cA 20 u.2.2.2.2.2.2.2.2.2.2.2.1, ar (ad 15) cA 20 u.2.2.2.2.2.2.2.2.2.2.2.2.1, ar (ad 16) cA 8020 u.2.2.2.2.2.2.2.2.2.2.2.2.2.1, ar (ad 17) cA 8020 u.2.2.2.2.2.2.2.2.2.2.2.2.2.2] t.heap ∧ va_K (dC, dI) vwCl [(cA, .int), (cB, .boolean)] t ∧ va_D (va_A [oM ad xM_typed xM_people xM_posted xM_hears xM_censuses xM_finding, ar (ad 1) cA 60 gMtext, ar (ad 2) cA 20 gMkinds, ar (ad 3) cA 20 gMlates, ar (ad 4) cA 20 gMscarfs, ar (ad 5) cA 20 gMhands, ar (ad 6) cA 20 gMrings, ar (ad 7) cA 20 gMmains, ar (ad 8) cA 4 gMaheadOf, ar (ad 9) cA 4 gMlastIn, ar (ad 10) cA 4 gMmanyIn, ar (ad 11) cA 3 gMsetting, ar (ad 13) cA 8020 gMcomes, ar (ad 14) cA 20 gMbusyTo, ar (ad 15) cA 20 gMfeltMany, ar (ad 16) cA 8020 gMfeltBits, ar (ad 17) cA 8020 gMlostBits] sz) [oM ad xM_typed u.1 xM_posted xM_hears xM_censuses xM_finding, ar (ad 1) cA 60 gMtext, ar (ad 2) cA 20 u.2.1, ar (ad 3) cA 20 u.2.2.1, ar (ad 4) cA 20 u.2.2.2.1, ar (ad 5) cA 20 u.2.2.2.2.1, ar (ad 6) cA 20 u.2.2.2.2.2.1, ar (ad 7) cA 20 u.2.2.2.2.2.2.1, ar (ad 8) cA 4 u.2.2.2.2.2.2.2.1, ar (ad 9) cA 4 u.2.2.2.2.2.2.2.2.1, ar (ad 10) cA 4 u.2.2.2.2.2.2.2.2.2.1, ar (ad 11) cA 3 gMsetting, ar (ad 13) cA 8020 u.2.2.2.2.2.2.2.2.2.2.1, ar (ad 14) cA 20 u.2.2.2.2.2.2.2.2.2.2.2.1, ar (ad 15) cA 20 u.2.2.2.2.2.2.2.2.2.2.2.2.1, ar (ad 16) cA 8020 u.2.2.2.2.2.2.2.2.2.2.2.2.2.1, ar (ad 17) cA 8020 u.2.2.2.2.2.2.2.2.2.2.2.2.2.2]) (va_A [oM ad xM_typed xM_people xM_posted xM_hears xM_censuses xM_finding, ar (ad 1) cA 60 gMtext, ar (ad 2) cA 20 gMkinds, ar (ad 3) cA 20 gMlates, ar (ad 4) cA 20 gMscarfs, ar (ad 5) cA 20 gMhands, ar (ad 6) cA 20 gMrings, ar (ad 7) cA 20 gMmains, ar (ad 8) cA 4 gMaheadOf, ar (ad 9) cA 4 gMlastIn, ar (ad 10) cA 4 gMmanyIn, ar (ad 11) cA 3 gMsetting, ar (ad 13) cA 8020 gMcomes, ar (ad 14) cA 20 gMbusyTo, ar (ad 15) cA 20 gMfeltMany, ar (ad 16) cA 8020 gMfeltBits, ar (ad 17) cA 8020 gMlostBits] sz)) 0 0 (va_A [oM ad xM_typed xM_people xM_posted xM_hears xM_censuses xM_finding, ar (ad 1) cA 60 gMtext, ar (ad 2) cA 20 gMkinds, ar (ad 3) cA 20 gMlates, ar (ad 4) cA 20 gMscarfs, ar (ad 5) cA 20 gMhands, ar (ad 6) cA 20 gMrings, ar (ad 7) cA 20 gMmains, ar (ad 8) cA 4 gMaheadOf, ar (ad 9) cA 4 gMlastIn, ar (ad 10) cA 4 gMmanyIn, ar (ad 11) cA 3 gMsetting, ar (ad 13) cA 8020 gMcomes, ar (ad 14) cA 20 gMbusyTo, ar (ad 15) cA 20 gMfeltMany, ar (ad 16) cA 8020 gMfeltBits, ar (ad 17) cA 8020 gMlostBits] sz) := by
  refine Met.ofW (cc := cX10_lays) (maxL := 2) (ret := none) (by decide) rfl ?_
  intro p e s m args below meth c s₁ B hml hv
  obtain ⟨rfl, hsz, hP, hK, hD0⟩ := hv
  have hx := B.exec
  have hb := B.bytes
  have hr := B.returns
  have hts := atoms_spec (ws := wsX10_lays) B.pre
  have hown : s.vm.findClass RX10 = some m.cls := findClass_of_methodNamed B.named
  have hlocks := B.notSynchronized
  subst hsz
  have hD := hD0.self (sz := s.heap.size)
  generalize hAe : va_A [oM ad xM_typed xM_people xM_posted xM_hears xM_censuses xM_finding, ar (ad 1) cA 60 gMtext, ar (ad 2) cA 20 gMkinds, ar (ad 3) cA 20 gMlates, ar (ad 4) cA 20 gMscarfs, ar (ad 5) cA 20 gMhands, ar (ad 6) cA 20 gMrings, ar (ad 7) cA 20 gMmains, ar (ad 8) cA 4 gMaheadOf, ar (ad 9) cA 4 gMlastIn, ar (ad 10) cA 4 gMmanyIn, ar (ad 11) cA 3 gMsetting, ar (ad 13) cA 8020 gMcomes, ar (ad 14) cA 20 gMbusyTo, ar (ad 15) cA 20 gMfeltMany, ar (ad 16) cA 8020 gMfeltBits, ar (ad 17) cA 8020 gMlostBits] s.heap.size = A at hD ⊢
  have hA : ∀ q : Nat, s.heap.size ≤ q → A q := fun q h => by rw [← hAe]; exact Or.inr h
  have hS : va_S A s.heap s.heap [] := va_S.rf
  have hl := lv_entry ([.ref (ad 0)]) (n := 2) (Nat.le_of_ble_eq_true rfl)
  rw [lg_entry_eq]
  generalize (lg_sl ([.ref (ad 0)]) ++ List.replicate (2 - (lg_sl ([.ref (ad 0)])).length) Slot.unset).toArray = ls at hl ⊢
  have hl : lv_has ls 2 [(0, .ref (ad 0))] := hl
  refine wk_Q (fun QQ hQ => ?_)
  have hinX10 : ∀ w ∈ wsX100, w ∈ wsX10_lays := fun w h => List.mem_cons_of_mem _ (inlX10 w h)
  have hl_40 := hts (.fieldLink RX10 40 "HandCensusModel" "setting" "[I") (List.mem_cons_of_mem _ (in_r7 _ (List.mem_of_getElem? (i := 5) rfl)))
  unfold fM_lays at hm
  refine lv_aload_n hx hb dX10_lays_0 rfl (lv_at hl 0 rfl) ?_
  have hPc := hP.sub (ws' := [oM ad xM_typed xM_people xM_posted xM_hears xM_censuses xM_finding, ar (ad 1) cA 60 gMtext, ar (ad 2) cA 20 gMkinds, ar (ad 3) cA 20 gMlates, ar (ad 4) cA 20 gMscarfs, ar (ad 5) cA 20 gMhands, ar (ad 6) cA 20 gMrings, ar (ad 7) cA 20 gMmains, ar (ad 8) cA 4 gMaheadOf, ar (ad 9) cA 4 gMlastIn, ar (ad 10) cA 4 gMmanyIn]) [0, 1, 2, 3, 4, 5, 6, 7, 8, 9, 10] rfl
  have hDc := hD.sub (ws' := [oM ad xM_typed xM_people xM_posted xM_hears xM_censuses xM_finding, ar (ad 1) cA 60 gMtext, ar (ad 2) cA 20 gMkinds, ar (ad 3) cA 20 gMlates, ar (ad 4) cA 20 gMscarfs, ar (ad 5) cA 20 gMhands, ar (ad 6) cA 20 gMrings, ar (ad 7) cA 20 gMmains, ar (ad 8) cA 4 gMaheadOf, ar (ad 9) cA 4 gMlastIn, ar (ad 10) cA 4 gMmanyIn]) [0, 1, 2, 3, 4, 5, 6, 7, 8, 9, 10] (by decide) rfl
  have hFc := va_free (wc := [oM ad xM_typed xM_people xM_posted xM_hears xM_censuses xM_finding, ar (ad 1) cA 60 gMtext, ar (ad 2) cA 20 gMkinds, ar (ad 3) cA 20 gMlates, ar (ad 4) cA 20 gMscarfs, ar (ad 5) cA 20 gMhands, ar (ad 6) cA 20 gMrings, ar (ad 7) cA 20 gMmains, ar (ad 8) cA 4 gMaheadOf, ar (ad 9) cA 4 gMlastIn, ar (ad 10) cA 4 gMmanyIn]) hD hS hA [0, 1, 2, 3, 4, 5, 6, 7, 8, 9, 10] rfl
  obtain ⟨u_1, hc_1, hm⟩ := bd_ok hm
  refine va_calli (va_runV (As := []) (rest := []) ⟨hx, hb, hml, hown, hts⟩ (kM_faultNow l dC dI cA cB ad s.heap.size xM_typed xM_people xM_posted xM_hears xM_censuses xM_finding gMtext gMkinds gMlates gMscarfs gMhands gMrings gMmains gMaheadOf gMlastIn gMmanyIn u_1 hc_1) (cwV 0 hts gX10_lays_X10_faultNow rfl rfl rfl (by decide +kernel) ⟨Nat.le_of_ble_eq_true rfl, Nat.le_of_ble_eq_true rfl⟩) ⟨fun a U g mk q => by obtain ⟨q0, q1, qP, qK, qD⟩ := q; exact ⟨q0, q1, qP, va_K.moved (u := U) (U := U.calling g mk a) (Vm.Alike.refl U.vm) qK, qD⟩, va_recv hK hPc (ci := 10) (q0 := 0) rfl rfl, fun U hU hW => ⟨rfl, by rw [hU], by rw [hU]; exact hPc, va_K.moved hW.alike hK, hDc.weaken (fun _ _ _ _ => trivial)⟩⟩ rfl rfl hl.1 rfl (lv_room (Nat.le_of_ble_eq_true rfl)) dX10_lays_1 ⟨Nat.le_of_ble_eq_true rfl, Nat.le_of_ble_eq_true rfl⟩) hS (fun q _ h => hFc q h) hFc (fun r_1 _ t H1 locs ht hvm hw hB hz1 hk1 hS => ?_)
  obtain ⟨hP1, hK1, hD1⟩ := hB
  rw [ht] at hP1
  obtain ⟨hP, hD⟩ := va_join (wr := [ar (ad 11) cA 3 gMsetting, ar (ad 13) cA 8020 gMcomes, ar (ad 14) cA 20 gMbusyTo, ar (ad 15) cA 20 gMfeltMany, ar (ad 16) cA 8020 gMfeltBits, ar (ad 17) cA 8020 gMlostBits]) (w1 := [oM ad xM_typed u_1.2.1 xM_posted xM_hears xM_censuses xM_finding, ar (ad 1) cA 60 gMtext, ar (ad 2) cA 20 u_1.2.2.1, ar (ad 3) cA 20 u_1.2.2.2.1, ar (ad 4) cA 20 u_1.2.2.2.2.1, ar (ad 5) cA 20 u_1.2.2.2.2.2.1, ar (ad 6) cA 20 u_1.2.2.2.2.2.2.1, ar (ad 7) cA 20 u_1.2.2.2.2.2.2.2.1, ar (ad 8) cA 4 u_1.2.2.2.2.2.2.2.2.1, ar (ad 9) cA 4 u_1.2.2.2.2.2.2.2.2.2.1, ar (ad 10) cA 4 u_1.2.2.2.2.2.2.2.2.2.2]) hP hD [0, 1, 2, 3, 4, 5, 6, 7, 8, 9, 10] [11, 12, 13, 14, 15, 16] rfl rfl (by decide) (by decide) hk1 hFc hP1 hD1
  clear hPc hDc hFc hP1 hK1 hD1 hk1 hz1 hvm ht
  generalize H1 = H at hP hS ⊢
  have hP : va_P (dC, dI) vwCl [oM ad xM_typed u_1.2.1 xM_posted xM_hears xM_censuses xM_finding, ar (ad 1) cA 60 gMtext, ar (ad 2) cA 20 u_1.2.2.1, ar (ad 3) cA 20 u_1.2.2.2.1, ar (ad 4) cA 20 u_1.2.2.2.2.1, ar (ad 5) cA 20 u_1.2.2.2.2.2.1, ar (ad 6) cA 20 u_1.2.2.2.2.2.2.1, ar (ad 7) cA 20 u_1.2.2.2.2.2.2.2.1, ar (ad 8) cA 4 u_1.2.2.2.2.2.2.2.2.1, ar (ad 9) cA 4 u_1.2.2.2.2.2.2.2.2.2.1, ar (ad 10) cA 4 u_1.2.2.2.2.2.2.2.2.2.2, ar (ad 11) cA 3 gMsetting, ar (ad 13) cA 8020 gMcomes, ar (ad 14) cA 20 gMbusyTo, ar (ad 15) cA 20 gMfeltMany, ar (ad 16) cA 8020 gMfeltBits, ar (ad 17) cA 8020 gMlostBits] H := hP.sub [6, 7, 8, 9, 10, 11, 12, 13, 14, 15, 16, 0, 1, 2, 3, 4, 5] rfl
  have hD : va_D A [oM ad xM_typed u_1.2.1 xM_posted xM_hears xM_censuses xM_finding, ar (ad 1) cA 60 gMtext, ar (ad 2) cA 20 u_1.2.2.1, ar (ad 3) cA 20 u_1.2.2.2.1, ar (ad 4) cA 20 u_1.2.2.2.2.1, ar (ad 5) cA 20 u_1.2.2.2.2.2.1, ar (ad 6) cA 20 u_1.2.2.2.2.2.2.1, ar (ad 7) cA 20 u_1.2.2.2.2.2.2.2.1, ar (ad 8) cA 4 u_1.2.2.2.2.2.2.2.2.1, ar (ad 9) cA 4 u_1.2.2.2.2.2.2.2.2.2.1, ar (ad 10) cA 4 u_1.2.2.2.2.2.2.2.2.2.2, ar (ad 11) cA 3 gMsetting, ar (ad 13) cA 8020 gMcomes, ar (ad 14) cA 20 gMbusyTo, ar (ad 15) cA 20 gMfeltMany, ar (ad 16) cA 8020 gMfeltBits, ar (ad 17) cA 8020 gMlostBits] := hD.sub [6, 7, 8, 9, 10, 11, 12, 13, 14, 15, 16, 0, 1, 2, 3, 4, 5] (by decide) rfl
  have hw := hw.symm
  subst hw
  refine lv_istore_n (lv' := [(1, .int u_1.1), (0, .ref (ad 0))]) hx hb dX10_lays_4 rfl hl (by decide) rfl (fun ls hl => ?_)
  refine lv_aload_n hx hb dX10_lays_5 rfl (lv_at hl 1 rfl) ?_
  refine lv_aload_n hx hb dX10_lays_6 rfl (lv_at hl 1 rfl) ?_
  refine va_get (D := (dC, dI)) (ci := 10) (v := .ref (ad 11)) (C := RX10) (T := TX10) (N := 37) hx hb hts hinX10 hown hK hP 0 rfl rfl 12 (by decide) hl_40 (fun _ h9 => h9) rfl dX10_lays_7 ?_
  refine lv_iconst (v := 0) hx hb dX10_lays_10 (by decide) ?_
  obtain ⟨i_2, hm⟩ := ck_ok hm
  refine va_iald hx hb hK hP 11 0 rfl rfl i_2 dX10_lays_11 ?_
  refine lv_aload_n hx hb dX10_lays_12 rfl (lv_at hl 1 rfl) ?_
  refine va_get (D := (dC, dI)) (ci := 10) (v := .ref (ad 11)) (C := RX10) (T := TX10) (N := 37) hx hb hts hinX10 hown hK hP 0 rfl rfl 12 (by decide) hl_40 (fun _ h9 => h9) rfl dX10_lays_13 ?_
  refine lv_iconst (v := 1) hx hb dX10_lays_16 (by decide) ?_
  obtain ⟨i_3, hm⟩ := ck_ok hm
  refine va_iald hx hb hK hP 11 0 rfl rfl i_3 dX10_lays_17 ?_
  refine lv_aload_n hx hb dX10_lays_18 rfl (lv_at hl 1 rfl) ?_
  refine va_get (D := (dC, dI)) (ci := 10) (v := .ref (ad 11)) (C := RX10) (T := TX10) (N := 37) hx hb hts hinX10 hown hK hP 0 rfl rfl 12 (by decide) hl_40 (fun _ h9 => h9) rfl dX10_lays_19 ?_
  refine lv_iconst (v := 2) hx hb dX10_lays_22 (by decide) ?_
  obtain ⟨i_4, hm⟩ := ck_ok hm
  refine va_iald hx hb hK hP 11 0 rfl rfl i_4 dX10_lays_23 ?_
  refine lv_iconst (v := (-1)) hx hb dX10_lays_24 (by decide) ?_
  have hPc := hP.sub (ws' := [oM ad xM_typed u_1.2.1 xM_posted xM_hears xM_censuses xM_finding, ar (ad 2) cA 20 u_1.2.2.1, ar (ad 3) cA 20 u_1.2.2.2.1, ar (ad 4) cA 20 u_1.2.2.2.2.1, ar (ad 5) cA 20 u_1.2.2.2.2.2.1, ar (ad 6) cA 20 u_1.2.2.2.2.2.2.1, ar (ad 13) cA 8020 gMcomes, ar (ad 14) cA 20 gMbusyTo, ar (ad 15) cA 20 gMfeltMany, ar (ad 16) cA 8020 gMfeltBits, ar (ad 17) cA 8020 gMlostBits]) [0, 2, 3, 4, 5, 6, 12, 13, 14, 15, 16] rfl
  have hDc := hD.sub (ws' := [oM ad xM_typed u_1.2.1 xM_posted xM_hears xM_censuses xM_finding, ar (ad 2) cA 20 u_1.2.2.1, ar (ad 3) cA 20 u_1.2.2.2.1, ar (ad 4) cA 20 u_1.2.2.2.2.1, ar (ad 5) cA 20 u_1.2.2.2.2.2.1, ar (ad 6) cA 20 u_1.2.2.2.2.2.2.1, ar (ad 13) cA 8020 gMcomes, ar (ad 14) cA 20 gMbusyTo, ar (ad 15) cA 20 gMfeltMany, ar (ad 16) cA 8020 gMfeltBits, ar (ad 17) cA 8020 gMlostBits]) [0, 2, 3, 4, 5, 6, 12, 13, 14, 15, 16] (by decide) rfl
  have hFc := va_free (wc := [oM ad xM_typed u_1.2.1 xM_posted xM_hears xM_censuses xM_finding, ar (ad 2) cA 20 u_1.2.2.1, ar (ad 3) cA 20 u_1.2.2.2.1, ar (ad 4) cA 20 u_1.2.2.2.2.1, ar (ad 5) cA 20 u_1.2.2.2.2.2.1, ar (ad 6) cA 20 u_1.2.2.2.2.2.2.1, ar (ad 13) cA 8020 gMcomes, ar (ad 14) cA 20 gMbusyTo, ar (ad 15) cA 20 gMfeltMany, ar (ad 16) cA 8020 gMfeltBits, ar (ad 17) cA 8020 gMlostBits]) hD hS hA [0, 2, 3, 4, 5, 6, 12, 13, 14, 15, 16] rfl
  obtain ⟨u_5, hc_5, hm⟩ := bd_ok hm
  refine va_callv (va_runV (As := [.int (gMsetting (0 : Int32).toNatClampNeg), .int (gMsetting (1 : Int32).toNatClampNeg), .int (gMsetting (2 : Int32).toNatClampNeg), .int (-1)]) (rest := []) ⟨hx, hb, hml, hown, hts⟩ (kM_runs l dC dI cA cB ad H.size (gMsetting (0 : Int32).toNatClampNeg) (gMsetting (1 : Int32).toNatClampNeg) (gMsetting (2 : Int32).toNatClampNeg) (-1) xM_typed u_1.2.1 xM_posted xM_hears xM_censuses xM_finding u_1.2.2.1 u_1.2.2.2.1 u_1.2.2.2.2.1 u_1.2.2.2.2.2.1 u_1.2.2.2.2.2.2.1 gMcomes gMbusyTo gMfeltMany gMfeltBits gMlostBits u_5 hc_5) (cwV 4 hts gX10_lays_X10_runs rfl rfl rfl (by decide +kernel) ⟨Nat.le_of_ble_eq_true rfl, Nat.le_of_ble_eq_true rfl⟩) ⟨fun a U g mk q => by obtain ⟨q0, q1, qP, qK, qD⟩ := q; exact ⟨q0, q1, qP, va_K.moved (u := U) (U := U.calling g mk a) (Vm.Alike.refl U.vm) qK, qD⟩, va_recv hK hPc (ci := 10) (q0 := 0) rfl rfl, fun U hU hW => ⟨rfl, by rw [hU], by rw [hU]; exact hPc, va_K.moved hW.alike hK, hDc.weaken (fun _ _ _ _ => trivial)⟩⟩ rfl rfl hl.1 rfl (lv_room (Nat.le_of_ble_eq_true rfl)) dX10_lays_25 ⟨Nat.le_of_ble_eq_true rfl, Nat.le_of_ble_eq_true rfl⟩) hS (fun q _ h => hFc q h) hFc (fun _ t H1 locs ht hvm hw hB hz1 hk1 hS => ?_)
  obtain ⟨hP1, hK1, hD1⟩ := hB
  rw [ht] at hP1
  obtain ⟨hP, hD⟩ := va_join (wr := [ar (ad 1) cA 60 gMtext, ar (ad 7) cA 20 u_1.2.2.2.2.2.2.2.1, ar (ad 8) cA 4 u_1.2.2.2.2.2.2.2.2.1, ar (ad 9) cA 4 u_1.2.2.2.2.2.2.2.2.2.1, ar (ad 10) cA 4 u_1.2.2.2.2.2.2.2.2.2.2, ar (ad 11) cA 3 gMsetting]) (w1 := [oM ad xM_typed u_1.2.1 xM_posted xM_hears xM_censuses xM_finding, ar (ad 2) cA 20 u_1.2.2.1, ar (ad 3) cA 20 u_1.2.2.2.1, ar (ad 4) cA 20 u_1.2.2.2.2.1, ar (ad 5) cA 20 u_1.2.2.2.2.2.1, ar (ad 6) cA 20 u_1.2.2.2.2.2.2.1, ar (ad 13) cA 8020 u_5.1, ar (ad 14) cA 20 u_5.2.1, ar (ad 15) cA 20 u_5.2.2.1, ar (ad 16) cA 8020 u_5.2.2.2.1, ar (ad 17) cA 8020 u_5.2.2.2.2]) hP hD [0, 2, 3, 4, 5, 6, 12, 13, 14, 15, 16] [1, 7, 8, 9, 10, 11] rfl rfl (by decide) (by decide) hk1 hFc hP1 hD1
  clear hPc hDc hFc hP1 hK1 hD1 hk1 hz1 hvm ht
  generalize H1 = H at hP hS ⊢
  have hP : va_P (dC, dI) vwCl [oM ad xM_typed u_1.2.1 xM_posted xM_hears xM_censuses xM_finding, ar (ad 1) cA 60 gMtext, ar (ad 2) cA 20 u_1.2.2.1, ar (ad 3) cA 20 u_1.2.2.2.1, ar (ad 4) cA 20 u_1.2.2.2.2.1, ar (ad 5) cA 20 u_1.2.2.2.2.2.1, ar (ad 6) cA 20 u_1.2.2.2.2.2.2.1, ar (ad 7) cA 20 u_1.2.2.2.2.2.2.2.1, ar (ad 8) cA 4 u_1.2.2.2.2.2.2.2.2.1, ar (ad 9) cA 4 u_1.2.2.2.2.2.2.2.2.2.1, ar (ad 10) cA 4 u_1.2.2.2.2.2.2.2.2.2.2, ar (ad 11) cA 3 gMsetting, ar (ad 13) cA 8020 u_5.1, ar (ad 14) cA 20 u_5.2.1, ar (ad 15) cA 20 u_5.2.2.1, ar (ad 16) cA 8020 u_5.2.2.2.1, ar (ad 17) cA 8020 u_5.2.2.2.2] H := hP.sub [6, 0, 7, 8, 9, 10, 11, 1, 2, 3, 4, 5, 12, 13, 14, 15, 16] rfl
  have hD : va_D A [oM ad xM_typed u_1.2.1 xM_posted xM_hears xM_censuses xM_finding, ar (ad 1) cA 60 gMtext, ar (ad 2) cA 20 u_1.2.2.1, ar (ad 3) cA 20 u_1.2.2.2.1, ar (ad 4) cA 20 u_1.2.2.2.2.1, ar (ad 5) cA 20 u_1.2.2.2.2.2.1, ar (ad 6) cA 20 u_1.2.2.2.2.2.2.1, ar (ad 7) cA 20 u_1.2.2.2.2.2.2.2.1, ar (ad 8) cA 4 u_1.2.2.2.2.2.2.2.2.1, ar (ad 9) cA 4 u_1.2.2.2.2.2.2.2.2.2.1, ar (ad 10) cA 4 u_1.2.2.2.2.2.2.2.2.2.2, ar (ad 11) cA 3 gMsetting, ar (ad 13) cA 8020 u_5.1, ar (ad 14) cA 20 u_5.2.1, ar (ad 15) cA 20 u_5.2.2.1, ar (ad 16) cA 8020 u_5.2.2.2.1, ar (ad 17) cA 8020 u_5.2.2.2.2] := hD.sub [6, 0, 7, 8, 9, 10, 11, 1, 2, 3, 4, 5, 12, 13, 14, 15, 16] (by decide) rfl
  obtain rfl := Option.some.inj hm
  subst hQ
  exact W.vret hx hb hr (fun t ht hW => ⟨⟨(), rfl, trivial, by rw [ht]; exact hP, va_K.moved hW.alike hK, hAe ▸ hD⟩, hS.F ht⟩) hS.2.2 dX10_lays_28

set_option maxHeartbeats 4000000 in
set_option maxRecDepth 100000 in
theorem kM_isTime (l : Launch) (dC : Nat → ClassId) (dI : Nat → Nat → Nat) (cA : ClassId) (cB : ClassId) (ad : Nat → Nat) (sz : Nat) (a0 : Int32) (u : Int32) (hm : fM_isTime a0 = some u) : Met l yX10_isTime wsX10_isTime ({ frames := 1, cells := 0, slots := 0, locals := 22 }) (va_Pc [.int a0] (fun U => U.heap.size = sz ∧ va_P (dC, dI) vwCl [] U.heap ∧ va_K (dC, dI) vwCl [(cA, .int), (cB, .boolean)] U ∧ va_D (fun _ => True) [])) (va_Qi (fun (r : Int32) (_ : Unit) => r = u) (fun (_ : Unit) t => va_P (dC, dI) vwCl [] t.heap ∧ va_K (dC, dI) vwCl [(cA, .int), (cB, .boolean)] t ∧ va_D (va_A [] sz) []) (va_A [] sz)) 0 0 (va_A [] sz) := by
  refine Met.ofW (cc := cX10_isTime) (maxL := 1) (ret := (some .boolean)) (by decide) rfl ?_
  intro p e s m args below meth c s₁ B hml hv
  obtain ⟨rfl, hsz, hP, hK, hD0⟩ := hv
  have hx := B.exec
  have hb := B.bytes
  have hr := B.returns
  have hts := atoms_spec (ws := wsX10_isTime) B.pre
  have hown : s.vm.findClass RX10 = some m.cls := findClass_of_methodNamed B.named
  have hlocks := B.notSynchronized
  subst hsz
  have hD := hD0.self (sz := s.heap.size)
  generalize hAe : va_A [] s.heap.size = A at hD ⊢
  have hA : ∀ q : Nat, s.heap.size ≤ q → A q := fun q h => by rw [← hAe]; exact Or.inr h
  have hS : va_S A s.heap s.heap [] := va_S.rf
  have hl := lv_entry ([.int a0]) (n := 1) (Nat.le_of_ble_eq_true rfl)
  rw [lg_entry_eq]
  generalize (lg_sl ([.int a0]) ++ List.replicate (1 - (lg_sl ([.int a0])).length) Slot.unset).toArray = ls at hl ⊢
  have hl : lv_has ls 1 [(0, .int a0)] := hl
  refine wk_Q (fun QQ hQ => ?_)
  unfold fM_isTime at hm
  refine lv_iload_n hx hb dX10_isTime_0 rfl (lv_at hl 0 rfl) ?_
  refine lv_iconst (v := 0) hx hb dX10_isTime_1 (by decide) ?_
  refine lv_sipush (v := 400) hx hb dX10_isTime_2 (by decide) ?_
  have hPc := hP.sub (ws' := []) [] rfl
  have hDc := hD.sub (ws' := []) [] (by decide) rfl
  have hFc := va_free (wc := []) hD hS hA [] rfl
  obtain ⟨u_1, hc_1, hm⟩ := bd_ok hm
  refine va_calli (va_runS (As := [.int a0, .int 0, .int 400]) (rest := []) ⟨hx, hb, hml, hown, hts⟩ (kM_in l dC dI cA cB ad s.heap.size a0 0 400 u_1 hc_1) (va_cwS 3 hts gX10_isTime_X10_in rfl rfl rfl (by decide +kernel) ⟨Nat.le_of_ble_eq_true rfl, Nat.le_of_ble_eq_true rfl⟩) ⟨fun a U g mk q => by obtain ⟨q0, q1, qP, qK, qD⟩ := q; exact ⟨q0, q1, qP, va_K.moved (u := U) (U := U.calling g mk a) (Vm.Alike.refl U.vm) qK, qD⟩, fun U hU hW => ⟨rfl, by rw [hU], by rw [hU]; exact hPc, va_K.moved hW.alike hK, hDc.weaken (fun _ _ _ _ => trivial)⟩⟩ rfl rfl hl.1 rfl (lv_room (Nat.le_of_ble_eq_true rfl)) dX10_isTime_5 ⟨Nat.le_of_ble_eq_true rfl, Nat.le_of_ble_eq_true rfl⟩) hS (fun q _ h => hFc q h) hFc (fun r_1 _ t H1 locs ht hvm hw hB hz1 hk1 hS => ?_)
  obtain ⟨hP1, hK1, hD1⟩ := hB
  rw [ht] at hP1
  obtain ⟨hP, hD⟩ := va_join (wr := []) (w1 := []) hP hD [] [] rfl rfl (by decide) (by decide) hk1 hFc hP1 hD1
  clear hPc hDc hFc hP1 hK1 hD1 hk1 hz1 hvm ht
  generalize H1 = H at hP hS ⊢
  have hP : va_P (dC, dI) vwCl [] H := hP
  have hD : va_D A [] := hD
  have hw := hw.symm
  subst hw
  obtain ⟨z_b, hm⟩ := bz_ok hm
  obtain rfl := Option.some.inj hm
  subst hQ
  exact W.zret (v := u_1) hx hb hr (nar_bz z_b) (fun t ht hW => ⟨⟨_, (), rfl, rfl, by rw [ht]; exact hP, va_K.moved hW.alike hK, hAe ▸ hD⟩, hS.F ht⟩) hS.2.2 dX10_isTime_8

set_option maxHeartbeats 4000000 in
set_option maxRecDepth 100000 in
theorem kM_feltBy (l : Launch) (dC : Nat → ClassId) (dI : Nat → Nat → Nat) (cA : ClassId) (cB : ClassId) (ad : Nat → Nat) (sz : Nat) (a1 : Int32) (a2 : Int32) (xM_typed : Int32) (xM_people : Int32) (xM_posted : Int32) (xM_hears : Int32) (xM_censuses : Int32) (xM_finding : Int32) (gMfeltMany : Nat → Int32) (gMfeltBits : Nat → Int32) (u : Int32) (hm : fM_feltBy a1 a2 gMfeltMany gMfeltBits = some u) : Met l yX10_feltBy wsX10_feltBy ({ frames := 1, cells := 0, slots := 0, locals := 22 }) (va_Pc [.ref (ad 0), .int a1, .int a2] (fun U => U.heap.size = sz ∧ va_P (dC, dI) vwCl [oM ad xM_typed xM_people xM_posted xM_hears xM_censuses xM_finding, ar (ad 15) cA 20 gMfeltMany, ar (ad 16) cA 8020 gMfeltBits] U.heap ∧ va_K (dC, dI) vwCl [(cA, .int), (cB, .boolean)] U ∧ va_D (fun _ => True) [oM ad xM_typed xM_people xM_posted xM_hears xM_censuses xM_finding, ar (ad 15) cA 20 gMfeltMany, ar (ad 16) cA 8020 gMfeltBits])) (va_Qi (fun (r : Int32) (_ : Unit) => r = u) (fun (_ : Unit) t => va_P (dC, dI) vwCl [oM ad xM_typed xM_people xM_posted xM_hears xM_censuses xM_finding, ar (ad 15) cA 20 gMfeltMany, ar (ad 16) cA 8020 gMfeltBits] t.heap ∧ va_K (dC, dI) vwCl [(cA, .int), (cB, .boolean)] t ∧ va_D (va_A [oM ad xM_typed xM_people xM_posted xM_hears xM_censuses xM_finding, ar (ad 15) cA 20 gMfeltMany, ar (ad 16) cA 8020 gMfeltBits] sz) [oM ad xM_typed xM_people xM_posted xM_hears xM_censuses xM_finding, ar (ad 15) cA 20 gMfeltMany, ar (ad 16) cA 8020 gMfeltBits]) (va_A [oM ad xM_typed xM_people xM_posted xM_hears xM_censuses xM_finding, ar (ad 15) cA 20 gMfeltMany, ar (ad 16) cA 8020 gMfeltBits] sz)) 0 0 (va_A [oM ad xM_typed xM_people xM_posted xM_hears xM_censuses xM_finding, ar (ad 15) cA 20 gMfeltMany, ar (ad 16) cA 8020 gMfeltBits] sz) := by
  refine Met.ofW (cc := cX10_feltBy) (maxL := 5) (ret := (some .int)) (by decide) rfl ?_
  intro p e s m args below meth c s₁ B hml hv
  obtain ⟨rfl, hsz, hP, hK, hD0⟩ := hv
  have hx := B.exec
  have hb := B.bytes
  have hr := B.returns
  have hts := atoms_spec (ws := wsX10_feltBy) B.pre
  have hown : s.vm.findClass RX10 = some m.cls := findClass_of_methodNamed B.named
  have hlocks := B.notSynchronized
  subst hsz
  have hD := hD0.self (sz := s.heap.size)
  generalize hAe : va_A [oM ad xM_typed xM_people xM_posted xM_hears xM_censuses xM_finding, ar (ad 15) cA 20 gMfeltMany, ar (ad 16) cA 8020 gMfeltBits] s.heap.size = A at hD ⊢
  have hA : ∀ q : Nat, s.heap.size ≤ q → A q := fun q h => by rw [← hAe]; exact Or.inr h
  have hS : va_S A s.heap s.heap [] := va_S.rf
  have hl := lv_entry ([.ref (ad 0), .int a1, .int a2]) (n := 5) (Nat.le_of_ble_eq_true rfl)
  rw [lg_entry_eq]
  generalize (lg_sl ([.ref (ad 0), .int a1, .int a2]) ++ List.replicate (5 - (lg_sl ([.ref (ad 0), .int a1, .int a2])).length) Slot.unset).toArray = ls at hl ⊢
  have hl : lv_has ls 5 [(0, .ref (ad 0)), (1, .int a1), (2, .int a2)] := hl
  refine wk_Q (fun QQ hQ => ?_)
  have hinX10 : ∀ w ∈ wsX100, w ∈ wsX10_feltBy := fun w h => List.mem_cons_of_mem _ (inlX10 w h)
  have hl_52 := hts (.fieldLink RX10 52 "HandCensusModel" "feltMany" "[I") (List.mem_cons_of_mem _ (in_r7 _ (List.mem_of_getElem? (i := 9) rfl)))
  have hl_55 := hts (.fieldLink RX10 55 "HandCensusModel" "feltBits" "[I") (List.mem_cons_of_mem _ (in_r7 _ (List.mem_of_getElem? (i := 10) rfl)))
  have h_5 : ∀ (v1_5 : Int32) (v2_5 : Int32), ∀ (n_5 : Nat), ∀ (v3_5 : Int32) (v4_5 : Int32), fM_feltBy_5 v1_5 v2_5 gMfeltMany gMfeltBits n_5 v3_5 v4_5 = some u → ∀ (H : Heap) (locs : List Loc), va_P (dC, dI) vwCl [oM ad xM_typed xM_people xM_posted xM_hears xM_censuses xM_finding, ar (ad 15) cA 20 gMfeltMany, ar (ad 16) cA 8020 gMfeltBits] H → va_D A [oM ad xM_typed xM_people xM_posted xM_hears xM_censuses xM_finding, ar (ad 15) cA 20 gMfeltMany, ar (ad 16) cA 8020 gMfeltBits] → va_S A s.heap H locs → ∀ ls : Array Slot, lv_has ls 5 [(0, .ref (ad 0)), (1, .int v1_5), (2, .int v2_5), (3, .int v3_5), (4, .int v4_5)] → W p l e (headSpec wsX10_feltBy ({ frames := 1, cells := 0, slots := 0, locals := 22 })).room s m ([.ref (ad 0), .int a1, .int a2] : List Value).toArray below meth c H locs 0 0 QQ (F0 m 5 ls []) := by
    intro v1_5 v2_5
    intro n_5
    induction n_5 with
    | zero => intro v3_5 v4_5 hm; have hm : (none : Option (Int32)) = some u := hm; cases hm
    | succ n_5 ih_5 =>
      intro v3_5 v4_5 hm H locs hP hD hS ls hl
      have hm : fM_feltBy_5_b  (fM_feltBy_5  v1_5 v2_5 gMfeltMany gMfeltBits n_5) v1_5 v2_5 gMfeltMany gMfeltBits v3_5 v4_5 = some u := hm
      unfold fM_feltBy_5_b at hm
      refine lv_iload hx hb dX10_feltBy_5 (lv_at hl 4 rfl) ?_
      refine lv_sipush (v := 400) hx hb dX10_feltBy_7 (by decide) ?_
      refine lv_icmp_gt (tgt := 55) hx hb dX10_feltBy_10 (by decide) (fun c_1 => ?_) (fun c_1 => ?_)
      · have hm := it_pos c_1 hm
        refine lv_iconst (v := (-1)) hx hb dX10_feltBy_55 (by decide) ?_
        obtain rfl := Option.some.inj hm
        subst hQ
        exact W.iret (v := (-1)) hx hb hr (fun t ht hW => ⟨⟨_, (), rfl, rfl, by rw [ht]; exact hP, va_K.moved hW.alike hK, hAe ▸ hD⟩, hS.F ht⟩) hS.2.2 dX10_feltBy_56
      · have hm := it_neg c_1 hm
        refine lv_iload_n hx hb dX10_feltBy_13 rfl (lv_at hl 2 rfl) ?_
        refine lv_aload_n hx hb dX10_feltBy_14 rfl (lv_at hl 0 rfl) ?_
        refine va_get (D := (dC, dI)) (ci := 10) (v := .ref (ad 15)) (C := RX10) (T := TX10) (N := 37) hx hb hts hinX10 hown hK hP 0 rfl rfl 16 (by decide) hl_52 (fun _ h9 => h9) rfl dX10_feltBy_15 ?_
        refine lv_iload_n hx hb dX10_feltBy_18 rfl (lv_at hl 1 rfl) ?_
        obtain ⟨i_2, hm⟩ := ck_ok hm
        refine va_iald hx hb hK hP 1 0 rfl rfl i_2 dX10_feltBy_19 ?_
        refine lv_icmp_ge (tgt := 55) hx hb dX10_feltBy_20 (by decide) (fun c_3 => ?_) (fun c_3 => ?_)
        · have hm := it_pos c_3 hm
          refine lv_iconst (v := (-1)) hx hb dX10_feltBy_55 (by decide) ?_
          obtain rfl := Option.some.inj hm
          subst hQ
          exact W.iret (v := (-1)) hx hb hr (fun t ht hW => ⟨⟨_, (), rfl, rfl, by rw [ht]; exact hP, va_K.moved hW.alike hK, hAe ▸ hD⟩, hS.F ht⟩) hS.2.2 dX10_feltBy_56
        · have hm := it_neg c_3 hm
          refine lv_iload_n hx hb dX10_feltBy_23 rfl (lv_at hl 3 rfl) ?_
          refine lv_aload_n hx hb dX10_feltBy_24 rfl (lv_at hl 0 rfl) ?_
          refine va_get (D := (dC, dI)) (ci := 10) (v := .ref (ad 16)) (C := RX10) (T := TX10) (N := 37) hx hb hts hinX10 hown hK hP 0 rfl rfl 17 (by decide) hl_55 (fun _ h9 => h9) rfl dX10_feltBy_25 ?_
          refine lv_bipush (v := 20) hx hb dX10_feltBy_28 (by decide) ?_
          refine lv_iload hx hb dX10_feltBy_30 (lv_at hl 4 rfl) ?_
          refine lv_imul hx hb dX10_feltBy_32 ?_
          refine lv_iload_n hx hb dX10_feltBy_33 rfl (lv_at hl 1 rfl) ?_
          refine lv_iadd hx hb dX10_feltBy_34 ?_
          obtain ⟨i_4, hm⟩ := ck_ok hm
          refine va_iald hx hb hK hP 2 0 rfl rfl i_4 dX10_feltBy_35 ?_
          have hPc := hP.sub (ws' := []) [] rfl
          have hDc := hD.sub (ws' := []) [] (by decide) rfl
          have hFc := va_free (wc := []) hD hS hA [] rfl
          obtain ⟨u_5, hc_5, hm⟩ := bd_ok hm
          refine va_calli (va_runS (As := [.int (gMfeltBits ((20 * v4_5) + v1_5).toNatClampNeg)]) (rest := [.int v3_5]) ⟨hx, hb, hml, hown, hts⟩ (kM_ones l dC dI cA cB ad H.size (gMfeltBits ((20 * v4_5) + v1_5).toNatClampNeg) u_5 hc_5) (va_cwS 1 hts gX10_feltBy_X10_ones rfl rfl rfl (by decide +kernel) ⟨Nat.le_of_ble_eq_true rfl, Nat.le_of_ble_eq_true rfl⟩) ⟨fun a U g mk q => by obtain ⟨q0, q1, qP, qK, qD⟩ := q; exact ⟨q0, q1, qP, va_K.moved (u := U) (U := U.calling g mk a) (Vm.Alike.refl U.vm) qK, qD⟩, fun U hU hW => ⟨rfl, by rw [hU], by rw [hU]; exact hPc, va_K.moved hW.alike hK, hDc.weaken (fun _ _ _ _ => trivial)⟩⟩ rfl rfl hl.1 rfl (lv_room (Nat.le_of_ble_eq_true rfl)) dX10_feltBy_36 ⟨Nat.le_of_ble_eq_true rfl, Nat.le_of_ble_eq_true rfl⟩) hS (fun q _ h => hFc q h) hFc (fun r_5 _ t H1 locs ht hvm hw hB hz1 hk1 hS => ?_)
          obtain ⟨hP1, hK1, hD1⟩ := hB
          rw [ht] at hP1
          obtain ⟨hP, hD⟩ := va_join (wr := [oM ad xM_typed xM_people xM_posted xM_hears xM_censuses xM_finding, ar (ad 15) cA 20 gMfeltMany, ar (ad 16) cA 8020 gMfeltBits]) (w1 := []) hP hD [] [0, 1, 2] rfl rfl (by decide) (by decide) hk1 hFc hP1 hD1
          clear hPc hDc hFc hP1 hK1 hD1 hk1 hz1 hvm ht
          generalize H1 = H at hP hS ⊢
          have hP : va_P (dC, dI) vwCl [oM ad xM_typed xM_people xM_posted xM_hears xM_censuses xM_finding, ar (ad 15) cA 20 gMfeltMany, ar (ad 16) cA 8020 gMfeltBits] H := hP
          have hD : va_D A [oM ad xM_typed xM_people xM_posted xM_hears xM_censuses xM_finding, ar (ad 15) cA 20 gMfeltMany, ar (ad 16) cA 8020 gMfeltBits] := hD
          have hw := hw.symm
          subst hw
          refine lv_iadd hx hb dX10_feltBy_39 ?_
          refine lv_istore_n (lv' := [(3, .int (v3_5 + u_5)), (0, .ref (ad 0)), (1, .int v1_5), (2, .int v2_5), (4, .int v4_5)]) hx hb dX10_feltBy_40 rfl hl (by decide) rfl (fun ls hl => ?_)
          refine lv_iload_n hx hb dX10_feltBy_41 rfl (lv_at hl 0 rfl) ?_
          refine lv_iload_n hx hb dX10_feltBy_42 rfl (lv_at hl 3 rfl) ?_
          refine lv_icmp_le (tgt := 49) hx hb dX10_feltBy_43 (by decide) (fun c_6 => ?_) (fun c_6 => ?_)
          · have hm := it_pos c_6 hm
            refine lv_iinc (v := (v4_5 + 1)) (lv' := [(4, .int (v4_5 + 1)), (3, .int (v3_5 + u_5)), (0, .ref (ad 0)), (1, .int v1_5), (2, .int v2_5)]) hx hb dX10_feltBy_49 hl (k := 4) rfl rfl (by decide) rfl (fun ls hl => ?_)
            refine lv_goto (tgt := 5) hx hb dX10_feltBy_52 (by decide) ?_
            exact ih_5 _ _ hm _ _ hP hD hS _ (lv_sub hl [2, 3, 4, 1, 0] rfl)
          · have hm := it_neg c_6 hm
            refine lv_iload hx hb dX10_feltBy_46 (lv_at hl 4 rfl) ?_
            obtain rfl := Option.some.inj hm
            subst hQ
            exact W.iret (v := v4_5) hx hb hr (fun t ht hW => ⟨⟨_, (), rfl, rfl, by rw [ht]; exact hP, va_K.moved hW.alike hK, hAe ▸ hD⟩, hS.F ht⟩) hS.2.2 dX10_feltBy_48
  unfold fM_feltBy at hm
  refine lv_iconst (v := 0) hx hb dX10_feltBy_0 (by decide) ?_
  refine lv_istore_n (lv' := [(3, .int 0), (0, .ref (ad 0)), (1, .int a1), (2, .int a2)]) hx hb dX10_feltBy_1 rfl hl (by decide) rfl (fun ls hl => ?_)
  refine lv_iconst (v := 0) hx hb dX10_feltBy_2 (by decide) ?_
  refine lv_istore (lv' := [(4, .int 0), (3, .int 0), (0, .ref (ad 0)), (1, .int a1), (2, .int a2)]) hx hb dX10_feltBy_3 hl (by decide) rfl (fun ls hl => ?_)
  exact h_5 _ _ _ _ _ hm _ _ hP hD hS _ (lv_sub hl [2, 3, 4, 1, 0] rfl)

set_option maxHeartbeats 4000000 in
set_option maxRecDepth 100000 in
theorem kM_feltOf (l : Launch) (dC : Nat → ClassId) (dI : Nat → Nat → Nat) (cA : ClassId) (cB : ClassId) (ad : Nat → Nat) (sz : Nat) (a1 : Int32) (a2 : Int32) (xM_typed : Int32) (xM_people : Int32) (xM_posted : Int32) (xM_hears : Int32) (xM_censuses : Int32) (xM_finding : Int32) (gMtext : Nat → Int32) (gMkinds : Nat → Int32) (gMlates : Nat → Int32) (gMscarfs : Nat → Int32) (gMhands : Nat → Int32) (gMrings : Nat → Int32) (gMmains : Nat → Int32) (gMaheadOf : Nat → Int32) (gMlastIn : Nat → Int32) (gMmanyIn : Nat → Int32) (gMsetting : Nat → Int32) (gMcomes : Nat → Int32) (gMbusyTo : Nat → Int32) (gMfeltMany : Nat → Int32) (gMfeltBits : Nat → Int32) (gMlostBits : Nat → Int32) (u : Int32 × Int32 × (Nat → Int32) × (Nat → Int32) × (Nat → Int32) × (Nat → Int32) × (Nat → Int32) × (Nat → Int32) × (Nat → Int32) × (Nat → Int32) × (Nat → Int32) × (Nat → Int32) × (Nat → Int32) × (Nat → Int32) × (Nat → Int32) × (Nat → Int32)) (hm : fM_feltOf a1 a2 xM_typed xM_people gMtext gMkinds gMlates gMscarfs gMhands gMrings gMmains gMaheadOf gMlastIn gMmanyIn gMsetting gMcomes gMbusyTo gMfeltMany gMfeltBits gMlostBits = some u) : Met l yX10_feltOf wsX10_feltOf ({ frames := 5, cells := 0, slots := 0, locals := 124 }) (va_Pc [.ref (ad 0), .int a1, .int a2] (fun U => U.heap.size = sz ∧ va_P (dC, dI) vwCl [oM ad xM_typed xM_people xM_posted xM_hears xM_censuses xM_finding, ar (ad 1) cA 60 gMtext, ar (ad 2) cA 20 gMkinds, ar (ad 3) cA 20 gMlates, ar (ad 4) cA 20 gMscarfs, ar (ad 5) cA 20 gMhands, ar (ad 6) cA 20 gMrings, ar (ad 7) cA 20 gMmains, ar (ad 8) cA 4 gMaheadOf, ar (ad 9) cA 4 gMlastIn, ar (ad 10) cA 4 gMmanyIn, ar (ad 11) cA 3 gMsetting, ar (ad 13) cA 8020 gMcomes, ar (ad 14) cA 20 gMbusyTo, ar (ad 15) cA 20 gMfeltMany, ar (ad 16) cA 8020 gMfeltBits, ar (ad 17) cA 8020 gMlostBits] U.heap ∧ va_K (dC, dI) vwCl [(cA, .int), (cB, .boolean)] U ∧ va_D (fun _ => True) [oM ad xM_typed xM_people xM_posted xM_hears xM_censuses xM_finding, ar (ad 1) cA 60 gMtext, ar (ad 2) cA 20 gMkinds, ar (ad 3) cA 20 gMlates, ar (ad 4) cA 20 gMscarfs, ar (ad 5) cA 20 gMhands, ar (ad 6) cA 20 gMrings, ar (ad 7) cA 20 gMmains, ar (ad 8) cA 4 gMaheadOf, ar (ad 9) cA 4 gMlastIn, ar (ad 10) cA 4 gMmanyIn, ar (ad 11) cA 3 gMsetting, ar (ad 13) cA 8020 gMcomes, ar (ad 14) cA 20 gMbusyTo, ar (ad 15) cA 20 gMfeltMany, ar (ad 16) cA 8020 gMfeltBits, ar (ad 17) cA 8020 gMlostBits])) (va_Qi (fun (r : Int32) (_ : Unit) => r = u.1) (fun (_ : Unit) t => va_P (dC, dI) vwCl [oM ad xM_typed u.2.1 xM_posted xM_hears xM_censuses xM_finding, ar (ad 1) cA 60 gMtext, ar (ad 2) cA 20 u.2.2.1, ar (ad 3) cA 20 u.2.2.2.1, ar (ad 4) cA 20 u.2.2.2.2.1, ar (ad 5) cA 20 u.2.2.2.2.2.1, ar (ad 6) cA 20 u.2.2.2.2.2.2.1, ar (ad 7) cA 20 u.2.2.2.2.2.2.2.1, ar (ad 8) cA 4 u.2.2.2.2.2.2.2.2.1, ar (ad 9) cA 4 u.2.2.2.2.2.2.2.2.2.1, ar (ad 10) cA 4 u.2.2.2.2.2.2.2.2.2.2.1, ar (ad 11) cA 3 gMsetting, ar (ad 13) cA 8020 u.2.2.2.2.2.2.2.2.2.2.2.1, ar (ad 14) cA 20 u.2.2.2.2.2.2.2.2.2.2.2.2.1, ar (ad 15) cA 20 u.2.2.2.2.2.2.2.2.2.2.2.2.2.1, ar (ad 16) cA 8020 u.2.2.2.2.2.2.2.2.2.2.2.2.2.2.1, ar (ad 17) cA 8020 u.2.2.2.2.2.2.2.2.2.2.2.2.2.2.2] t.heap ∧ va_K (dC, dI) vwCl [(cA, .int), (cB, .boolean)] t ∧ va_D (va_A [oM ad xM_typed xM_people xM_posted xM_hears xM_censuses xM_finding, ar (ad 1) cA 60 gMtext, ar (ad 2) cA 20 gMkinds, ar (ad 3) cA 20 gMlates, ar (ad 4) cA 20 gMscarfs, ar (ad 5) cA 20 gMhands, ar (ad 6) cA 20 gMrings, ar (ad 7) cA 20 gMmains, ar (ad 8) cA 4 gMaheadOf, ar (ad 9) cA 4 gMlastIn, ar (ad 10) cA 4 gMmanyIn, ar (ad 11) cA 3 gMsetting, ar (ad 13) cA 8020 gMcomes, ar (ad 14) cA 20 gMbusyTo, ar (ad 15) cA 20 gMfeltMany, ar (ad 16) cA 8020 gMfeltBits, ar (ad 17) cA 8020 gMlostBits] sz) [oM ad xM_typed u.2.1 xM_posted xM_hears xM_censuses xM_finding, ar (ad 1) cA 60 gMtext, ar (ad 2) cA 20 u.2.2.1, ar (ad 3) cA 20 u.2.2.2.1, ar (ad 4) cA 20 u.2.2.2.2.1, ar (ad 5) cA 20 u.2.2.2.2.2.1, ar (ad 6) cA 20 u.2.2.2.2.2.2.1, ar (ad 7) cA 20 u.2.2.2.2.2.2.2.1, ar (ad 8) cA 4 u.2.2.2.2.2.2.2.2.1, ar (ad 9) cA 4 u.2.2.2.2.2.2.2.2.2.1, ar (ad 10) cA 4 u.2.2.2.2.2.2.2.2.2.2.1, ar (ad 11) cA 3 gMsetting, ar (ad 13) cA 8020 u.2.2.2.2.2.2.2.2.2.2.2.1, ar (ad 14) cA 20 u.2.2.2.2.2.2.2.2.2.2.2.2.1, ar (ad 15) cA 20 u.2.2.2.2.2.2.2.2.2.2.2.2.2.1, ar (ad 16) cA 8020 u.2.2.2.2.2.2.2.2.2.2.2.2.2.2.1, ar (ad 17) cA 8020 u.2.2.2.2.2.2.2.2.2.2.2.2.2.2.2]) (va_A [oM ad xM_typed xM_people xM_posted xM_hears xM_censuses xM_finding, ar (ad 1) cA 60 gMtext, ar (ad 2) cA 20 gMkinds, ar (ad 3) cA 20 gMlates, ar (ad 4) cA 20 gMscarfs, ar (ad 5) cA 20 gMhands, ar (ad 6) cA 20 gMrings, ar (ad 7) cA 20 gMmains, ar (ad 8) cA 4 gMaheadOf, ar (ad 9) cA 4 gMlastIn, ar (ad 10) cA 4 gMmanyIn, ar (ad 11) cA 3 gMsetting, ar (ad 13) cA 8020 gMcomes, ar (ad 14) cA 20 gMbusyTo, ar (ad 15) cA 20 gMfeltMany, ar (ad 16) cA 8020 gMfeltBits, ar (ad 17) cA 8020 gMlostBits] sz)) 0 0 (va_A [oM ad xM_typed xM_people xM_posted xM_hears xM_censuses xM_finding, ar (ad 1) cA 60 gMtext, ar (ad 2) cA 20 gMkinds, ar (ad 3) cA 20 gMlates, ar (ad 4) cA 20 gMscarfs, ar (ad 5) cA 20 gMhands, ar (ad 6) cA 20 gMrings, ar (ad 7) cA 20 gMmains, ar (ad 8) cA 4 gMaheadOf, ar (ad 9) cA 4 gMlastIn, ar (ad 10) cA 4 gMmanyIn, ar (ad 11) cA 3 gMsetting, ar (ad 13) cA 8020 gMcomes, ar (ad 14) cA 20 gMbusyTo, ar (ad 15) cA 20 gMfeltMany, ar (ad 16) cA 8020 gMfeltBits, ar (ad 17) cA 8020 gMlostBits] sz) := by
  refine Met.ofW (cc := cX10_feltOf) (maxL := 3) (ret := (some .int)) (by decide) rfl ?_
  intro p e s m args below meth c s₁ B hml hv
  obtain ⟨rfl, hsz, hP, hK, hD0⟩ := hv
  have hx := B.exec
  have hb := B.bytes
  have hr := B.returns
  have hts := atoms_spec (ws := wsX10_feltOf) B.pre
  have hown : s.vm.findClass RX10 = some m.cls := findClass_of_methodNamed B.named
  have hlocks := B.notSynchronized
  subst hsz
  have hD := hD0.self (sz := s.heap.size)
  generalize hAe : va_A [oM ad xM_typed xM_people xM_posted xM_hears xM_censuses xM_finding, ar (ad 1) cA 60 gMtext, ar (ad 2) cA 20 gMkinds, ar (ad 3) cA 20 gMlates, ar (ad 4) cA 20 gMscarfs, ar (ad 5) cA 20 gMhands, ar (ad 6) cA 20 gMrings, ar (ad 7) cA 20 gMmains, ar (ad 8) cA 4 gMaheadOf, ar (ad 9) cA 4 gMlastIn, ar (ad 10) cA 4 gMmanyIn, ar (ad 11) cA 3 gMsetting, ar (ad 13) cA 8020 gMcomes, ar (ad 14) cA 20 gMbusyTo, ar (ad 15) cA 20 gMfeltMany, ar (ad 16) cA 8020 gMfeltBits, ar (ad 17) cA 8020 gMlostBits] s.heap.size = A at hD ⊢
  have hA : ∀ q : Nat, s.heap.size ≤ q → A q := fun q h => by rw [← hAe]; exact Or.inr h
  have hS : va_S A s.heap s.heap [] := va_S.rf
  have hl := lv_entry ([.ref (ad 0), .int a1, .int a2]) (n := 3) (Nat.le_of_ble_eq_true rfl)
  rw [lg_entry_eq]
  generalize (lg_sl ([.ref (ad 0), .int a1, .int a2]) ++ List.replicate (3 - (lg_sl ([.ref (ad 0), .int a1, .int a2])).length) Slot.unset).toArray = ls at hl ⊢
  have hl : lv_has ls 3 [(0, .ref (ad 0)), (1, .int a1), (2, .int a2)] := hl
  refine wk_Q (fun QQ hQ => ?_)
  unfold fM_feltOf at hm
  refine lv_aload_n hx hb dX10_feltOf_0 rfl (lv_at hl 0 rfl) ?_
  have hPc := hP.sub (ws' := [oM ad xM_typed xM_people xM_posted xM_hears xM_censuses xM_finding, ar (ad 1) cA 60 gMtext, ar (ad 2) cA 20 gMkinds, ar (ad 3) cA 20 gMlates, ar (ad 4) cA 20 gMscarfs, ar (ad 5) cA 20 gMhands, ar (ad 6) cA 20 gMrings, ar (ad 7) cA 20 gMmains, ar (ad 8) cA 4 gMaheadOf, ar (ad 9) cA 4 gMlastIn, ar (ad 10) cA 4 gMmanyIn, ar (ad 11) cA 3 gMsetting, ar (ad 13) cA 8020 gMcomes, ar (ad 14) cA 20 gMbusyTo, ar (ad 15) cA 20 gMfeltMany, ar (ad 16) cA 8020 gMfeltBits, ar (ad 17) cA 8020 gMlostBits]) [0, 1, 2, 3, 4, 5, 6, 7, 8, 9, 10, 11, 12, 13, 14, 15, 16] rfl
  have hDc := hD.sub (ws' := [oM ad xM_typed xM_people xM_posted xM_hears xM_censuses xM_finding, ar (ad 1) cA 60 gMtext, ar (ad 2) cA 20 gMkinds, ar (ad 3) cA 20 gMlates, ar (ad 4) cA 20 gMscarfs, ar (ad 5) cA 20 gMhands, ar (ad 6) cA 20 gMrings, ar (ad 7) cA 20 gMmains, ar (ad 8) cA 4 gMaheadOf, ar (ad 9) cA 4 gMlastIn, ar (ad 10) cA 4 gMmanyIn, ar (ad 11) cA 3 gMsetting, ar (ad 13) cA 8020 gMcomes, ar (ad 14) cA 20 gMbusyTo, ar (ad 15) cA 20 gMfeltMany, ar (ad 16) cA 8020 gMfeltBits, ar (ad 17) cA 8020 gMlostBits]) [0, 1, 2, 3, 4, 5, 6, 7, 8, 9, 10, 11, 12, 13, 14, 15, 16] (by decide) rfl
  have hFc := va_free (wc := [oM ad xM_typed xM_people xM_posted xM_hears xM_censuses xM_finding, ar (ad 1) cA 60 gMtext, ar (ad 2) cA 20 gMkinds, ar (ad 3) cA 20 gMlates, ar (ad 4) cA 20 gMscarfs, ar (ad 5) cA 20 gMhands, ar (ad 6) cA 20 gMrings, ar (ad 7) cA 20 gMmains, ar (ad 8) cA 4 gMaheadOf, ar (ad 9) cA 4 gMlastIn, ar (ad 10) cA 4 gMmanyIn, ar (ad 11) cA 3 gMsetting, ar (ad 13) cA 8020 gMcomes, ar (ad 14) cA 20 gMbusyTo, ar (ad 15) cA 20 gMfeltMany, ar (ad 16) cA 8020 gMfeltBits, ar (ad 17) cA 8020 gMlostBits]) hD hS hA [0, 1, 2, 3, 4, 5, 6, 7, 8, 9, 10, 11, 12, 13, 14, 15, 16] rfl
  obtain ⟨u_1, hc_1, hm⟩ := bd_ok hm
  refine va_callv (va_runV (As := []) (rest := []) ⟨hx, hb, hml, hown, hts⟩ (kM_lays l dC dI cA cB ad s.heap.size xM_typed xM_people xM_posted xM_hears xM_censuses xM_finding gMtext gMkinds gMlates gMscarfs gMhands gMrings gMmains gMaheadOf gMlastIn gMmanyIn gMsetting gMcomes gMbusyTo gMfeltMany gMfeltBits gMlostBits u_1 hc_1) (cwV 0 hts gX10_feltOf_X10_lays rfl rfl rfl (by decide +kernel) ⟨Nat.le_of_ble_eq_true rfl, Nat.le_of_ble_eq_true rfl⟩) ⟨fun a U g mk q => by obtain ⟨q0, q1, qP, qK, qD⟩ := q; exact ⟨q0, q1, qP, va_K.moved (u := U) (U := U.calling g mk a) (Vm.Alike.refl U.vm) qK, qD⟩, va_recv hK hPc (ci := 10) (q0 := 0) rfl rfl, fun U hU hW => ⟨rfl, by rw [hU], by rw [hU]; exact hPc, va_K.moved hW.alike hK, hDc.weaken (fun _ _ _ _ => trivial)⟩⟩ rfl rfl hl.1 rfl (lv_room (Nat.le_of_ble_eq_true rfl)) dX10_feltOf_1 ⟨Nat.le_of_ble_eq_true rfl, Nat.le_of_ble_eq_true rfl⟩) hS (fun q _ h => hFc q h) hFc (fun _ t H1 locs ht hvm hw hB hz1 hk1 hS => ?_)
  obtain ⟨hP1, hK1, hD1⟩ := hB
  rw [ht] at hP1
  obtain ⟨hP, hD⟩ := va_join (wr := []) (w1 := [oM ad xM_typed u_1.1 xM_posted xM_hears xM_censuses xM_finding, ar (ad 1) cA 60 gMtext, ar (ad 2) cA 20 u_1.2.1, ar (ad 3) cA 20 u_1.2.2.1, ar (ad 4) cA 20 u_1.2.2.2.1, ar (ad 5) cA 20 u_1.2.2.2.2.1, ar (ad 6) cA 20 u_1.2.2.2.2.2.1, ar (ad 7) cA 20 u_1.2.2.2.2.2.2.1, ar (ad 8) cA 4 u_1.2.2.2.2.2.2.2.1, ar (ad 9) cA 4 u_1.2.2.2.2.2.2.2.2.1, ar (ad 10) cA 4 u_1.2.2.2.2.2.2.2.2.2.1, ar (ad 11) cA 3 gMsetting, ar (ad 13) cA 8020 u_1.2.2.2.2.2.2.2.2.2.2.1, ar (ad 14) cA 20 u_1.2.2.2.2.2.2.2.2.2.2.2.1, ar (ad 15) cA 20 u_1.2.2.2.2.2.2.2.2.2.2.2.2.1, ar (ad 16) cA 8020 u_1.2.2.2.2.2.2.2.2.2.2.2.2.2.1, ar (ad 17) cA 8020 u_1.2.2.2.2.2.2.2.2.2.2.2.2.2.2]) hP hD [0, 1, 2, 3, 4, 5, 6, 7, 8, 9, 10, 11, 12, 13, 14, 15, 16] [] rfl rfl (by decide) (by decide) hk1 hFc hP1 hD1
  clear hPc hDc hFc hP1 hK1 hD1 hk1 hz1 hvm ht
  generalize H1 = H at hP hS ⊢
  have hP : va_P (dC, dI) vwCl [oM ad xM_typed u_1.1 xM_posted xM_hears xM_censuses xM_finding, ar (ad 1) cA 60 gMtext, ar (ad 2) cA 20 u_1.2.1, ar (ad 3) cA 20 u_1.2.2.1, ar (ad 4) cA 20 u_1.2.2.2.1, ar (ad 5) cA 20 u_1.2.2.2.2.1, ar (ad 6) cA 20 u_1.2.2.2.2.2.1, ar (ad 7) cA 20 u_1.2.2.2.2.2.2.1, ar (ad 8) cA 4 u_1.2.2.2.2.2.2.2.1, ar (ad 9) cA 4 u_1.2.2.2.2.2.2.2.2.1, ar (ad 10) cA 4 u_1.2.2.2.2.2.2.2.2.2.1, ar (ad 11) cA 3 gMsetting, ar (ad 13) cA 8020 u_1.2.2.2.2.2.2.2.2.2.2.1, ar (ad 14) cA 20 u_1.2.2.2.2.2.2.2.2.2.2.2.1, ar (ad 15) cA 20 u_1.2.2.2.2.2.2.2.2.2.2.2.2.1, ar (ad 16) cA 8020 u_1.2.2.2.2.2.2.2.2.2.2.2.2.2.1, ar (ad 17) cA 8020 u_1.2.2.2.2.2.2.2.2.2.2.2.2.2.2] H := hP
  have hD : va_D A [oM ad xM_typed u_1.1 xM_posted xM_hears xM_censuses xM_finding, ar (ad 1) cA 60 gMtext, ar (ad 2) cA 20 u_1.2.1, ar (ad 3) cA 20 u_1.2.2.1, ar (ad 4) cA 20 u_1.2.2.2.1, ar (ad 5) cA 20 u_1.2.2.2.2.1, ar (ad 6) cA 20 u_1.2.2.2.2.2.1, ar (ad 7) cA 20 u_1.2.2.2.2.2.2.1, ar (ad 8) cA 4 u_1.2.2.2.2.2.2.2.1, ar (ad 9) cA 4 u_1.2.2.2.2.2.2.2.2.1, ar (ad 10) cA 4 u_1.2.2.2.2.2.2.2.2.2.1, ar (ad 11) cA 3 gMsetting, ar (ad 13) cA 8020 u_1.2.2.2.2.2.2.2.2.2.2.1, ar (ad 14) cA 20 u_1.2.2.2.2.2.2.2.2.2.2.2.1, ar (ad 15) cA 20 u_1.2.2.2.2.2.2.2.2.2.2.2.2.1, ar (ad 16) cA 8020 u_1.2.2.2.2.2.2.2.2.2.2.2.2.2.1, ar (ad 17) cA 8020 u_1.2.2.2.2.2.2.2.2.2.2.2.2.2.2] := hD
  refine lv_aload_n hx hb dX10_feltOf_4 rfl (lv_at hl 0 rfl) ?_
  refine lv_iload_n hx hb dX10_feltOf_5 rfl (lv_at hl 1 rfl) ?_
  refine lv_iload_n hx hb dX10_feltOf_6 rfl (lv_at hl 2 rfl) ?_
  have hPc := hP.sub (ws' := [oM ad xM_typed u_1.1 xM_posted xM_hears xM_censuses xM_finding, ar (ad 15) cA 20 u_1.2.2.2.2.2.2.2.2.2.2.2.2.1, ar (ad 16) cA 8020 u_1.2.2.2.2.2.2.2.2.2.2.2.2.2.1]) [0, 14, 15] rfl
  have hDc := hD.sub (ws' := [oM ad xM_typed u_1.1 xM_posted xM_hears xM_censuses xM_finding, ar (ad 15) cA 20 u_1.2.2.2.2.2.2.2.2.2.2.2.2.1, ar (ad 16) cA 8020 u_1.2.2.2.2.2.2.2.2.2.2.2.2.2.1]) [0, 14, 15] (by decide) rfl
  have hFc := va_free (wc := [oM ad xM_typed u_1.1 xM_posted xM_hears xM_censuses xM_finding, ar (ad 15) cA 20 u_1.2.2.2.2.2.2.2.2.2.2.2.2.1, ar (ad 16) cA 8020 u_1.2.2.2.2.2.2.2.2.2.2.2.2.2.1]) hD hS hA [0, 14, 15] rfl
  obtain ⟨u_2, hc_2, hm⟩ := bd_ok hm
  refine va_calli (va_runV (As := [.int a1, .int a2]) (rest := []) ⟨hx, hb, hml, hown, hts⟩ (kM_feltBy l dC dI cA cB ad H.size a1 a2 xM_typed u_1.1 xM_posted xM_hears xM_censuses xM_finding u_1.2.2.2.2.2.2.2.2.2.2.2.2.1 u_1.2.2.2.2.2.2.2.2.2.2.2.2.2.1 u_2 hc_2) (cwV 2 hts gX10_feltOf_X10_feltBy rfl rfl rfl (by decide +kernel) ⟨Nat.le_of_ble_eq_true rfl, Nat.le_of_ble_eq_true rfl⟩) ⟨fun a U g mk q => by obtain ⟨q0, q1, qP, qK, qD⟩ := q; exact ⟨q0, q1, qP, va_K.moved (u := U) (U := U.calling g mk a) (Vm.Alike.refl U.vm) qK, qD⟩, va_recv hK hPc (ci := 10) (q0 := 0) rfl rfl, fun U hU hW => ⟨rfl, by rw [hU], by rw [hU]; exact hPc, va_K.moved hW.alike hK, hDc.weaken (fun _ _ _ _ => trivial)⟩⟩ rfl rfl hl.1 rfl (lv_room (Nat.le_of_ble_eq_true rfl)) dX10_feltOf_7 ⟨Nat.le_of_ble_eq_true rfl, Nat.le_of_ble_eq_true rfl⟩) hS (fun q _ h => hFc q h) hFc (fun r_2 _ t H1 locs ht hvm hw hB hz1 hk1 hS => ?_)
  obtain ⟨hP1, hK1, hD1⟩ := hB
  rw [ht] at hP1
  obtain ⟨hP, hD⟩ := va_join (wr := [ar (ad 1) cA 60 gMtext, ar (ad 2) cA 20 u_1.2.1, ar (ad 3) cA 20 u_1.2.2.1, ar (ad 4) cA 20 u_1.2.2.2.1, ar (ad 5) cA 20 u_1.2.2.2.2.1, ar (ad 6) cA 20 u_1.2.2.2.2.2.1, ar (ad 7) cA 20 u_1.2.2.2.2.2.2.1, ar (ad 8) cA 4 u_1.2.2.2.2.2.2.2.1, ar (ad 9) cA 4 u_1.2.2.2.2.2.2.2.2.1, ar (ad 10) cA 4 u_1.2.2.2.2.2.2.2.2.2.1, ar (ad 11) cA 3 gMsetting, ar (ad 13) cA 8020 u_1.2.2.2.2.2.2.2.2.2.2.1, ar (ad 14) cA 20 u_1.2.2.2.2.2.2.2.2.2.2.2.1, ar (ad 17) cA 8020 u_1.2.2.2.2.2.2.2.2.2.2.2.2.2.2]) (w1 := [oM ad xM_typed u_1.1 xM_posted xM_hears xM_censuses xM_finding, ar (ad 15) cA 20 u_1.2.2.2.2.2.2.2.2.2.2.2.2.1, ar (ad 16) cA 8020 u_1.2.2.2.2.2.2.2.2.2.2.2.2.2.1]) hP hD [0, 14, 15] [1, 2, 3, 4, 5, 6, 7, 8, 9, 10, 11, 12, 13, 16] rfl rfl (by decide) (by decide) hk1 hFc hP1 hD1
  clear hPc hDc hFc hP1 hK1 hD1 hk1 hz1 hvm ht
  generalize H1 = H at hP hS ⊢
  have hP : va_P (dC, dI) vwCl [oM ad xM_typed u_1.1 xM_posted xM_hears xM_censuses xM_finding, ar (ad 1) cA 60 gMtext, ar (ad 2) cA 20 u_1.2.1, ar (ad 3) cA 20 u_1.2.2.1, ar (ad 4) cA 20 u_1.2.2.2.1, ar (ad 5) cA 20 u_1.2.2.2.2.1, ar (ad 6) cA 20 u_1.2.2.2.2.2.1, ar (ad 7) cA 20 u_1.2.2.2.2.2.2.1, ar (ad 8) cA 4 u_1.2.2.2.2.2.2.2.1, ar (ad 9) cA 4 u_1.2.2.2.2.2.2.2.2.1, ar (ad 10) cA 4 u_1.2.2.2.2.2.2.2.2.2.1, ar (ad 11) cA 3 gMsetting, ar (ad 13) cA 8020 u_1.2.2.2.2.2.2.2.2.2.2.1, ar (ad 14) cA 20 u_1.2.2.2.2.2.2.2.2.2.2.2.1, ar (ad 15) cA 20 u_1.2.2.2.2.2.2.2.2.2.2.2.2.1, ar (ad 16) cA 8020 u_1.2.2.2.2.2.2.2.2.2.2.2.2.2.1, ar (ad 17) cA 8020 u_1.2.2.2.2.2.2.2.2.2.2.2.2.2.2] H := hP.sub [14, 0, 1, 2, 3, 4, 5, 6, 7, 8, 9, 10, 11, 12, 15, 16, 13] rfl
  have hD : va_D A [oM ad xM_typed u_1.1 xM_posted xM_hears xM_censuses xM_finding, ar (ad 1) cA 60 gMtext, ar (ad 2) cA 20 u_1.2.1, ar (ad 3) cA 20 u_1.2.2.1, ar (ad 4) cA 20 u_1.2.2.2.1, ar (ad 5) cA 20 u_1.2.2.2.2.1, ar (ad 6) cA 20 u_1.2.2.2.2.2.1, ar (ad 7) cA 20 u_1.2.2.2.2.2.2.1, ar (ad 8) cA 4 u_1.2.2.2.2.2.2.2.1, ar (ad 9) cA 4 u_1.2.2.2.2.2.2.2.2.1, ar (ad 10) cA 4 u_1.2.2.2.2.2.2.2.2.2.1, ar (ad 11) cA 3 gMsetting, ar (ad 13) cA 8020 u_1.2.2.2.2.2.2.2.2.2.2.1, ar (ad 14) cA 20 u_1.2.2.2.2.2.2.2.2.2.2.2.1, ar (ad 15) cA 20 u_1.2.2.2.2.2.2.2.2.2.2.2.2.1, ar (ad 16) cA 8020 u_1.2.2.2.2.2.2.2.2.2.2.2.2.2.1, ar (ad 17) cA 8020 u_1.2.2.2.2.2.2.2.2.2.2.2.2.2.2] := hD.sub [14, 0, 1, 2, 3, 4, 5, 6, 7, 8, 9, 10, 11, 12, 15, 16, 13] (by decide) rfl
  have hw := hw.symm
  subst hw
  obtain rfl := Option.some.inj hm
  subst hQ
  exact W.iret (v := u_2) hx hb hr (fun t ht hW => ⟨⟨_, (), rfl, rfl, by rw [ht]; exact hP, va_K.moved hW.alike hK, hAe ▸ hD⟩, hS.F ht⟩) hS.2.2 dX10_feltOf_10

set_option maxHeartbeats 4000000 in
set_option maxRecDepth 100000 in
theorem kM_felt (l : Launch) (dC : Nat → ClassId) (dI : Nat → Nat → Nat) (cA : ClassId) (cB : ClassId) (ad : Nat → Nat) (sz : Nat) (a1 : Int32) (a2 : Int32) (xM_typed : Int32) (xM_people : Int32) (xM_posted : Int32) (xM_hears : Int32) (xM_censuses : Int32) (xM_finding : Int32) (gMtext : Nat → Int32) (gMkinds : Nat → Int32) (gMlates : Nat → Int32) (gMscarfs : Nat → Int32) (gMhands : Nat → Int32) (gMrings : Nat → Int32) (gMmains : Nat → Int32) (gMaheadOf : Nat → Int32) (gMlastIn : Nat → Int32) (gMmanyIn : Nat → Int32) (gMsetting : Nat → Int32) (gMcomes : Nat → Int32) (gMbusyTo : Nat → Int32) (gMfeltMany : Nat → Int32) (gMfeltBits : Nat → Int32) (gMlostBits : Nat → Int32) (u : Int32 × Int32 × (Nat → Int32) × (Nat → Int32) × (Nat → Int32) × (Nat → Int32) × (Nat → Int32) × (Nat → Int32) × (Nat → Int32) × (Nat → Int32) × (Nat → Int32) × (Nat → Int32) × (Nat → Int32) × (Nat → Int32) × (Nat → Int32) × (Nat → Int32)) (hm : fM_felt a1 a2 xM_typed xM_people gMtext gMkinds gMlates gMscarfs gMhands gMrings gMmains gMaheadOf gMlastIn gMmanyIn gMsetting gMcomes gMbusyTo gMfeltMany gMfeltBits gMlostBits = some u) : Met l yX10_felt wsX10_felt ({ frames := 6, cells := 0, slots := 0, locals := 146 }) (va_Pc [.ref (ad 0), .int a1, .int a2] (fun U => U.heap.size = sz ∧ va_P (dC, dI) vwCl [oM ad xM_typed xM_people xM_posted xM_hears xM_censuses xM_finding, ar (ad 1) cA 60 gMtext, ar (ad 2) cA 20 gMkinds, ar (ad 3) cA 20 gMlates, ar (ad 4) cA 20 gMscarfs, ar (ad 5) cA 20 gMhands, ar (ad 6) cA 20 gMrings, ar (ad 7) cA 20 gMmains, ar (ad 8) cA 4 gMaheadOf, ar (ad 9) cA 4 gMlastIn, ar (ad 10) cA 4 gMmanyIn, ar (ad 11) cA 3 gMsetting, ar (ad 13) cA 8020 gMcomes, ar (ad 14) cA 20 gMbusyTo, ar (ad 15) cA 20 gMfeltMany, ar (ad 16) cA 8020 gMfeltBits, ar (ad 17) cA 8020 gMlostBits] U.heap ∧ va_K (dC, dI) vwCl [(cA, .int), (cB, .boolean)] U ∧ va_D (fun _ => True) [oM ad xM_typed xM_people xM_posted xM_hears xM_censuses xM_finding, ar (ad 1) cA 60 gMtext, ar (ad 2) cA 20 gMkinds, ar (ad 3) cA 20 gMlates, ar (ad 4) cA 20 gMscarfs, ar (ad 5) cA 20 gMhands, ar (ad 6) cA 20 gMrings, ar (ad 7) cA 20 gMmains, ar (ad 8) cA 4 gMaheadOf, ar (ad 9) cA 4 gMlastIn, ar (ad 10) cA 4 gMmanyIn, ar (ad 11) cA 3 gMsetting, ar (ad 13) cA 8020 gMcomes, ar (ad 14) cA 20 gMbusyTo, ar (ad 15) cA 20 gMfeltMany, ar (ad 16) cA 8020 gMfeltBits, ar (ad 17) cA 8020 gMlostBits])) (va_Qi (fun (r : Int32) (_ : Unit) => r = u.1) (fun (_ : Unit) t => va_P (dC, dI) vwCl [oM ad xM_typed u.2.1 xM_posted xM_hears xM_censuses xM_finding, ar (ad 1) cA 60 gMtext, ar (ad 2) cA 20 u.2.2.1, ar (ad 3) cA 20 u.2.2.2.1, ar (ad 4) cA 20 u.2.2.2.2.1, ar (ad 5) cA 20 u.2.2.2.2.2.1, ar (ad 6) cA 20 u.2.2.2.2.2.2.1, ar (ad 7) cA 20 u.2.2.2.2.2.2.2.1, ar (ad 8) cA 4 u.2.2.2.2.2.2.2.2.1, ar (ad 9) cA 4 u.2.2.2.2.2.2.2.2.2.1, ar (ad 10) cA 4 u.2.2.2.2.2.2.2.2.2.2.1, ar (ad 11) cA 3 gMsetting, ar (ad 13) cA 8020 u.2.2.2.2.2.2.2.2.2.2.2.1, ar (ad 14) cA 20 u.2.2.2.2.2.2.2.2.2.2.2.2.1, ar (ad 15) cA 20 u.2.2.2.2.2.2.2.2.2.2.2.2.2.1, ar (ad 16) cA 8020 u.2.2.2.2.2.2.2.2.2.2.2.2.2.2.1, ar (ad 17) cA 8020 u.2.2.2.2.2.2.2.2.2.2.2.2.2.2.2] t.heap ∧ va_K (dC, dI) vwCl [(cA, .int), (cB, .boolean)] t ∧ va_D (va_A [oM ad xM_typed xM_people xM_posted xM_hears xM_censuses xM_finding, ar (ad 1) cA 60 gMtext, ar (ad 2) cA 20 gMkinds, ar (ad 3) cA 20 gMlates, ar (ad 4) cA 20 gMscarfs, ar (ad 5) cA 20 gMhands, ar (ad 6) cA 20 gMrings, ar (ad 7) cA 20 gMmains, ar (ad 8) cA 4 gMaheadOf, ar (ad 9) cA 4 gMlastIn, ar (ad 10) cA 4 gMmanyIn, ar (ad 11) cA 3 gMsetting, ar (ad 13) cA 8020 gMcomes, ar (ad 14) cA 20 gMbusyTo, ar (ad 15) cA 20 gMfeltMany, ar (ad 16) cA 8020 gMfeltBits, ar (ad 17) cA 8020 gMlostBits] sz) [oM ad xM_typed u.2.1 xM_posted xM_hears xM_censuses xM_finding, ar (ad 1) cA 60 gMtext, ar (ad 2) cA 20 u.2.2.1, ar (ad 3) cA 20 u.2.2.2.1, ar (ad 4) cA 20 u.2.2.2.2.1, ar (ad 5) cA 20 u.2.2.2.2.2.1, ar (ad 6) cA 20 u.2.2.2.2.2.2.1, ar (ad 7) cA 20 u.2.2.2.2.2.2.2.1, ar (ad 8) cA 4 u.2.2.2.2.2.2.2.2.1, ar (ad 9) cA 4 u.2.2.2.2.2.2.2.2.2.1, ar (ad 10) cA 4 u.2.2.2.2.2.2.2.2.2.2.1, ar (ad 11) cA 3 gMsetting, ar (ad 13) cA 8020 u.2.2.2.2.2.2.2.2.2.2.2.1, ar (ad 14) cA 20 u.2.2.2.2.2.2.2.2.2.2.2.2.1, ar (ad 15) cA 20 u.2.2.2.2.2.2.2.2.2.2.2.2.2.1, ar (ad 16) cA 8020 u.2.2.2.2.2.2.2.2.2.2.2.2.2.2.1, ar (ad 17) cA 8020 u.2.2.2.2.2.2.2.2.2.2.2.2.2.2.2]) (va_A [oM ad xM_typed xM_people xM_posted xM_hears xM_censuses xM_finding, ar (ad 1) cA 60 gMtext, ar (ad 2) cA 20 gMkinds, ar (ad 3) cA 20 gMlates, ar (ad 4) cA 20 gMscarfs, ar (ad 5) cA 20 gMhands, ar (ad 6) cA 20 gMrings, ar (ad 7) cA 20 gMmains, ar (ad 8) cA 4 gMaheadOf, ar (ad 9) cA 4 gMlastIn, ar (ad 10) cA 4 gMmanyIn, ar (ad 11) cA 3 gMsetting, ar (ad 13) cA 8020 gMcomes, ar (ad 14) cA 20 gMbusyTo, ar (ad 15) cA 20 gMfeltMany, ar (ad 16) cA 8020 gMfeltBits, ar (ad 17) cA 8020 gMlostBits] sz)) 0 0 (va_A [oM ad xM_typed xM_people xM_posted xM_hears xM_censuses xM_finding, ar (ad 1) cA 60 gMtext, ar (ad 2) cA 20 gMkinds, ar (ad 3) cA 20 gMlates, ar (ad 4) cA 20 gMscarfs, ar (ad 5) cA 20 gMhands, ar (ad 6) cA 20 gMrings, ar (ad 7) cA 20 gMmains, ar (ad 8) cA 4 gMaheadOf, ar (ad 9) cA 4 gMlastIn, ar (ad 10) cA 4 gMmanyIn, ar (ad 11) cA 3 gMsetting, ar (ad 13) cA 8020 gMcomes, ar (ad 14) cA 20 gMbusyTo, ar (ad 15) cA 20 gMfeltMany, ar (ad 16) cA 8020 gMfeltBits, ar (ad 17) cA 8020 gMlostBits] sz) := by
  refine Met.ofW (cc := cX10_felt) (maxL := 3) (ret := (some .int)) (by decide) rfl ?_
  intro p e s m args below meth c s₁ B hml hv
  obtain ⟨rfl, hsz, hP, hK, hD0⟩ := hv
  have hx := B.exec
  have hb := B.bytes
  have hr := B.returns
  have hts := atoms_spec (ws := wsX10_felt) B.pre
  have hown : s.vm.findClass RX10 = some m.cls := findClass_of_methodNamed B.named
  have hlocks := B.notSynchronized
  subst hsz
  have hD := hD0.self (sz := s.heap.size)
  generalize hAe : va_A [oM ad xM_typed xM_people xM_posted xM_hears xM_censuses xM_finding, ar (ad 1) cA 60 gMtext, ar (ad 2) cA 20 gMkinds, ar (ad 3) cA 20 gMlates, ar (ad 4) cA 20 gMscarfs, ar (ad 5) cA 20 gMhands, ar (ad 6) cA 20 gMrings, ar (ad 7) cA 20 gMmains, ar (ad 8) cA 4 gMaheadOf, ar (ad 9) cA 4 gMlastIn, ar (ad 10) cA 4 gMmanyIn, ar (ad 11) cA 3 gMsetting, ar (ad 13) cA 8020 gMcomes, ar (ad 14) cA 20 gMbusyTo, ar (ad 15) cA 20 gMfeltMany, ar (ad 16) cA 8020 gMfeltBits, ar (ad 17) cA 8020 gMlostBits] s.heap.size = A at hD ⊢
  have hA : ∀ q : Nat, s.heap.size ≤ q → A q := fun q h => by rw [← hAe]; exact Or.inr h
  have hS : va_S A s.heap s.heap [] := va_S.rf
  have hl := lv_entry ([.ref (ad 0), .int a1, .int a2]) (n := 3) (Nat.le_of_ble_eq_true rfl)
  rw [lg_entry_eq]
  generalize (lg_sl ([.ref (ad 0), .int a1, .int a2]) ++ List.replicate (3 - (lg_sl ([.ref (ad 0), .int a1, .int a2])).length) Slot.unset).toArray = ls at hl ⊢
  have hl : lv_has ls 3 [(0, .ref (ad 0)), (1, .int a1), (2, .int a2)] := hl
  refine wk_Q (fun QQ hQ => ?_)
  unfold fM_felt at hm
  refine lv_aload_n hx hb dX10_felt_0 rfl (lv_at hl 0 rfl) ?_
  refine lv_iload_n hx hb dX10_felt_1 rfl (lv_at hl 1 rfl) ?_
  have hPc := hP.sub (ws' := [oM ad xM_typed xM_people xM_posted xM_hears xM_censuses xM_finding, ar (ad 1) cA 60 gMtext, ar (ad 2) cA 20 gMkinds, ar (ad 3) cA 20 gMlates, ar (ad 4) cA 20 gMscarfs, ar (ad 5) cA 20 gMhands, ar (ad 6) cA 20 gMrings, ar (ad 7) cA 20 gMmains, ar (ad 8) cA 4 gMaheadOf, ar (ad 9) cA 4 gMlastIn, ar (ad 10) cA 4 gMmanyIn]) [0, 1, 2, 3, 4, 5, 6, 7, 8, 9, 10] rfl
  have hDc := hD.sub (ws' := [oM ad xM_typed xM_people xM_posted xM_hears xM_censuses xM_finding, ar (ad 1) cA 60 gMtext, ar (ad 2) cA 20 gMkinds, ar (ad 3) cA 20 gMlates, ar (ad 4) cA 20 gMscarfs, ar (ad 5) cA 20 gMhands, ar (ad 6) cA 20 gMrings, ar (ad 7) cA 20 gMmains, ar (ad 8) cA 4 gMaheadOf, ar (ad 9) cA 4 gMlastIn, ar (ad 10) cA 4 gMmanyIn]) [0, 1, 2, 3, 4, 5, 6, 7, 8, 9, 10] (by decide) rfl
  have hFc := va_free (wc := [oM ad xM_typed xM_people xM_posted xM_hears xM_censuses xM_finding, ar (ad 1) cA 60 gMtext, ar (ad 2) cA 20 gMkinds, ar (ad 3) cA 20 gMlates, ar (ad 4) cA 20 gMscarfs, ar (ad 5) cA 20 gMhands, ar (ad 6) cA 20 gMrings, ar (ad 7) cA 20 gMmains, ar (ad 8) cA 4 gMaheadOf, ar (ad 9) cA 4 gMlastIn, ar (ad 10) cA 4 gMmanyIn]) hD hS hA [0, 1, 2, 3, 4, 5, 6, 7, 8, 9, 10] rfl
  obtain ⟨u_1, hc_1, hm⟩ := bd_ok hm
  refine va_calli (va_runV (As := [.int a1]) (rest := []) ⟨hx, hb, hml, hown, hts⟩ (kM_isPerson l dC dI cA cB ad s.heap.size a1 xM_typed xM_people xM_posted xM_hears xM_censuses xM_finding gMtext gMkinds gMlates gMscarfs gMhands gMrings gMmains gMaheadOf gMlastIn gMmanyIn u_1 hc_1) (cwV 1 hts gX10_felt_X10_isPerson rfl rfl rfl (by decide +kernel) ⟨Nat.le_of_ble_eq_true rfl, Nat.le_of_ble_eq_true rfl⟩) ⟨fun a U g mk q => by obtain ⟨q0, q1, qP, qK, qD⟩ := q; exact ⟨q0, q1, qP, va_K.moved (u := U) (U := U.calling g mk a) (Vm.Alike.refl U.vm) qK, qD⟩, va_recv hK hPc (ci := 10) (q0 := 0) rfl rfl, fun U hU hW => ⟨rfl, by rw [hU], by rw [hU]; exact hPc, va_K.moved hW.alike hK, hDc.weaken (fun _ _ _ _ => trivial)⟩⟩ rfl rfl hl.1 rfl (lv_room (Nat.le_of_ble_eq_true rfl)) dX10_felt_2 ⟨Nat.le_of_ble_eq_true rfl, Nat.le_of_ble_eq_true rfl⟩) hS (fun q _ h => hFc q h) hFc (fun r_1 _ t H1 locs ht hvm hw hB hz1 hk1 hS => ?_)
  obtain ⟨hP1, hK1, hD1⟩ := hB
  rw [ht] at hP1
  obtain ⟨hP, hD⟩ := va_join (wr := [ar (ad 11) cA 3 gMsetting, ar (ad 13) cA 8020 gMcomes, ar (ad 14) cA 20 gMbusyTo, ar (ad 15) cA 20 gMfeltMany, ar (ad 16) cA 8020 gMfeltBits, ar (ad 17) cA 8020 gMlostBits]) (w1 := [oM ad xM_typed u_1.2.1 xM_posted xM_hears xM_censuses xM_finding, ar (ad 1) cA 60 gMtext, ar (ad 2) cA 20 u_1.2.2.1, ar (ad 3) cA 20 u_1.2.2.2.1, ar (ad 4) cA 20 u_1.2.2.2.2.1, ar (ad 5) cA 20 u_1.2.2.2.2.2.1, ar (ad 6) cA 20 u_1.2.2.2.2.2.2.1, ar (ad 7) cA 20 u_1.2.2.2.2.2.2.2.1, ar (ad 8) cA 4 u_1.2.2.2.2.2.2.2.2.1, ar (ad 9) cA 4 u_1.2.2.2.2.2.2.2.2.2.1, ar (ad 10) cA 4 u_1.2.2.2.2.2.2.2.2.2.2]) hP hD [0, 1, 2, 3, 4, 5, 6, 7, 8, 9, 10] [11, 12, 13, 14, 15, 16] rfl rfl (by decide) (by decide) hk1 hFc hP1 hD1
  clear hPc hDc hFc hP1 hK1 hD1 hk1 hz1 hvm ht
  generalize H1 = H at hP hS ⊢
  have hP : va_P (dC, dI) vwCl [oM ad xM_typed u_1.2.1 xM_posted xM_hears xM_censuses xM_finding, ar (ad 1) cA 60 gMtext, ar (ad 2) cA 20 u_1.2.2.1, ar (ad 3) cA 20 u_1.2.2.2.1, ar (ad 4) cA 20 u_1.2.2.2.2.1, ar (ad 5) cA 20 u_1.2.2.2.2.2.1, ar (ad 6) cA 20 u_1.2.2.2.2.2.2.1, ar (ad 7) cA 20 u_1.2.2.2.2.2.2.2.1, ar (ad 8) cA 4 u_1.2.2.2.2.2.2.2.2.1, ar (ad 9) cA 4 u_1.2.2.2.2.2.2.2.2.2.1, ar (ad 10) cA 4 u_1.2.2.2.2.2.2.2.2.2.2, ar (ad 11) cA 3 gMsetting, ar (ad 13) cA 8020 gMcomes, ar (ad 14) cA 20 gMbusyTo, ar (ad 15) cA 20 gMfeltMany, ar (ad 16) cA 8020 gMfeltBits, ar (ad 17) cA 8020 gMlostBits] H := hP.sub [6, 7, 8, 9, 10, 11, 12, 13, 14, 15, 16, 0, 1, 2, 3, 4, 5] rfl
  have hD : va_D A [oM ad xM_typed u_1.2.1 xM_posted xM_hears xM_censuses xM_finding, ar (ad 1) cA 60 gMtext, ar (ad 2) cA 20 u_1.2.2.1, ar (ad 3) cA 20 u_1.2.2.2.1, ar (ad 4) cA 20 u_1.2.2.2.2.1, ar (ad 5) cA 20 u_1.2.2.2.2.2.1, ar (ad 6) cA 20 u_1.2.2.2.2.2.2.1, ar (ad 7) cA 20 u_1.2.2.2.2.2.2.2.1, ar (ad 8) cA 4 u_1.2.2.2.2.2.2.2.2.1, ar (ad 9) cA 4 u_1.2.2.2.2.2.2.2.2.2.1, ar (ad 10) cA 4 u_1.2.2.2.2.2.2.2.2.2.2, ar (ad 11) cA 3 gMsetting, ar (ad 13) cA 8020 gMcomes, ar (ad 14) cA 20 gMbusyTo, ar (ad 15) cA 20 gMfeltMany, ar (ad 16) cA 8020 gMfeltBits, ar (ad 17) cA 8020 gMlostBits] := hD.sub [6, 7, 8, 9, 10, 11, 12, 13, 14, 15, 16, 0, 1, 2, 3, 4, 5] (by decide) rfl
  have hw := hw.symm
  subst hw
  refine lv_if_eq (tgt := 21) hx hb dX10_felt_5 (by decide) (fun c_2 => ?_) (fun c_2 => ?_)
  · have hm := it_pos c_2 hm
    refine lv_bipush (v := (-2)) hx hb dX10_felt_21 (by decide) ?_
    obtain rfl := Option.some.inj hm
    subst hQ
    exact W.iret (v := (-2)) hx hb hr (fun t ht hW => ⟨⟨_, (), rfl, rfl, by rw [ht]; exact hP, va_K.moved hW.alike hK, hAe ▸ hD⟩, hS.F ht⟩) hS.2.2 dX10_felt_23
  · have hm := it_neg c_2 hm
    refine lv_iload_n hx hb dX10_felt_8 rfl (lv_at hl 2 rfl) ?_
    refine lv_if_lt (tgt := 21) hx hb dX10_felt_9 (by decide) (fun c_3 => ?_) (fun c_3 => ?_)
    · have hm := it_pos c_3 hm
      refine lv_bipush (v := (-2)) hx hb dX10_felt_21 (by decide) ?_
      obtain rfl := Option.some.inj hm
      subst hQ
      exact W.iret (v := (-2)) hx hb hr (fun t ht hW => ⟨⟨_, (), rfl, rfl, by rw [ht]; exact hP, va_K.moved hW.alike hK, hAe ▸ hD⟩, hS.F ht⟩) hS.2.2 dX10_felt_23
    · have hm := it_neg c_3 hm
      refine lv_aload_n hx hb dX10_felt_12 rfl (lv_at hl 0 rfl) ?_
      refine lv_iload_n hx hb dX10_felt_13 rfl (lv_at hl 1 rfl) ?_
      refine lv_iload_n hx hb dX10_felt_14 rfl (lv_at hl 2 rfl) ?_
      have hPc := hP.sub (ws' := [oM ad xM_typed u_1.2.1 xM_posted xM_hears xM_censuses xM_finding, ar (ad 1) cA 60 gMtext, ar (ad 2) cA 20 u_1.2.2.1, ar (ad 3) cA 20 u_1.2.2.2.1, ar (ad 4) cA 20 u_1.2.2.2.2.1, ar (ad 5) cA 20 u_1.2.2.2.2.2.1, ar (ad 6) cA 20 u_1.2.2.2.2.2.2.1, ar (ad 7) cA 20 u_1.2.2.2.2.2.2.2.1, ar (ad 8) cA 4 u_1.2.2.2.2.2.2.2.2.1, ar (ad 9) cA 4 u_1.2.2.2.2.2.2.2.2.2.1, ar (ad 10) cA 4 u_1.2.2.2.2.2.2.2.2.2.2, ar (ad 11) cA 3 gMsetting, ar (ad 13) cA 8020 gMcomes, ar (ad 14) cA 20 gMbusyTo, ar (ad 15) cA 20 gMfeltMany, ar (ad 16) cA 8020 gMfeltBits, ar (ad 17) cA 8020 gMlostBits]) [0, 1, 2, 3, 4, 5, 6, 7, 8, 9, 10, 11, 12, 13, 14, 15, 16] rfl
      have hDc := hD.sub (ws' := [oM ad xM_typed u_1.2.1 xM_posted xM_hears xM_censuses xM_finding, ar (ad 1) cA 60 gMtext, ar (ad 2) cA 20 u_1.2.2.1, ar (ad 3) cA 20 u_1.2.2.2.1, ar (ad 4) cA 20 u_1.2.2.2.2.1, ar (ad 5) cA 20 u_1.2.2.2.2.2.1, ar (ad 6) cA 20 u_1.2.2.2.2.2.2.1, ar (ad 7) cA 20 u_1.2.2.2.2.2.2.2.1, ar (ad 8) cA 4 u_1.2.2.2.2.2.2.2.2.1, ar (ad 9) cA 4 u_1.2.2.2.2.2.2.2.2.2.1, ar (ad 10) cA 4 u_1.2.2.2.2.2.2.2.2.2.2, ar (ad 11) cA 3 gMsetting, ar (ad 13) cA 8020 gMcomes, ar (ad 14) cA 20 gMbusyTo, ar (ad 15) cA 20 gMfeltMany, ar (ad 16) cA 8020 gMfeltBits, ar (ad 17) cA 8020 gMlostBits]) [0, 1, 2, 3, 4, 5, 6, 7, 8, 9, 10, 11, 12, 13, 14, 15, 16] (by decide) rfl
      have hFc := va_free (wc := [oM ad xM_typed u_1.2.1 xM_posted xM_hears xM_censuses xM_finding, ar (ad 1) cA 60 gMtext, ar (ad 2) cA 20 u_1.2.2.1, ar (ad 3) cA 20 u_1.2.2.2.1, ar (ad 4) cA 20 u_1.2.2.2.2.1, ar (ad 5) cA 20 u_1.2.2.2.2.2.1, ar (ad 6) cA 20 u_1.2.2.2.2.2.2.1, ar (ad 7) cA 20 u_1.2.2.2.2.2.2.2.1, ar (ad 8) cA 4 u_1.2.2.2.2.2.2.2.2.1, ar (ad 9) cA 4 u_1.2.2.2.2.2.2.2.2.2.1, ar (ad 10) cA 4 u_1.2.2.2.2.2.2.2.2.2.2, ar (ad 11) cA 3 gMsetting, ar (ad 13) cA 8020 gMcomes, ar (ad 14) cA 20 gMbusyTo, ar (ad 15) cA 20 gMfeltMany, ar (ad 16) cA 8020 gMfeltBits, ar (ad 17) cA 8020 gMlostBits]) hD hS hA [0, 1, 2, 3, 4, 5, 6, 7, 8, 9, 10, 11, 12, 13, 14, 15, 16] rfl
      obtain ⟨u_4, hc_4, hm⟩ := bd_ok hm
      refine va_calli (va_runV (As := [.int a1, .int a2]) (rest := []) ⟨hx, hb, hml, hown, hts⟩ (kM_feltOf l dC dI cA cB ad H.size a1 a2 xM_typed u_1.2.1 xM_posted xM_hears xM_censuses xM_finding gMtext u_1.2.2.1 u_1.2.2.2.1 u_1.2.2.2.2.1 u_1.2.2.2.2.2.1 u_1.2.2.2.2.2.2.1 u_1.2.2.2.2.2.2.2.1 u_1.2.2.2.2.2.2.2.2.1 u_1.2.2.2.2.2.2.2.2.2.1 u_1.2.2.2.2.2.2.2.2.2.2 gMsetting gMcomes gMbusyTo gMfeltMany gMfeltBits gMlostBits u_4 hc_4) (cwV 2 hts gX10_felt_X10_feltOf rfl rfl rfl (by decide +kernel) ⟨Nat.le_of_ble_eq_true rfl, Nat.le_of_ble_eq_true rfl⟩) ⟨fun a U g mk q => by obtain ⟨q0, q1, qP, qK, qD⟩ := q; exact ⟨q0, q1, qP, va_K.moved (u := U) (U := U.calling g mk a) (Vm.Alike.refl U.vm) qK, qD⟩, va_recv hK hPc (ci := 10) (q0 := 0) rfl rfl, fun U hU hW => ⟨rfl, by rw [hU], by rw [hU]; exact hPc, va_K.moved hW.alike hK, hDc.weaken (fun _ _ _ _ => trivial)⟩⟩ rfl rfl hl.1 rfl (lv_room (Nat.le_of_ble_eq_true rfl)) dX10_felt_15 ⟨Nat.le_of_ble_eq_true rfl, Nat.le_of_ble_eq_true rfl⟩) hS (fun q _ h => hFc q h) hFc (fun r_4 _ t H1 locs ht hvm hw hB hz1 hk1 hS => ?_)
      obtain ⟨hP1, hK1, hD1⟩ := hB
      rw [ht] at hP1
      obtain ⟨hP, hD⟩ := va_join (wr := []) (w1 := [oM ad xM_typed u_4.2.1 xM_posted xM_hears xM_censuses xM_finding, ar (ad 1) cA 60 gMtext, ar (ad 2) cA 20 u_4.2.2.1, ar (ad 3) cA 20 u_4.2.2.2.1, ar (ad 4) cA 20 u_4.2.2.2.2.1, ar (ad 5) cA 20 u_4.2.2.2.2.2.1, ar (ad 6) cA 20 u_4.2.2.2.2.2.2.1, ar (ad 7) cA 20 u_4.2.2.2.2.2.2.2.1, ar (ad 8) cA 4 u_4.2.2.2.2.2.2.2.2.1, ar (ad 9) cA 4 u_4.2.2.2.2.2.2.2.2.2.1, ar (ad 10) cA 4 u_4.2.2.2.2.2.2.2.2.2.2.1, ar (ad 11) cA 3 gMsetting, ar (ad 13) cA 8020 u_4.2.2.2.2.2.2.2.2.2.2.2.1, ar (ad 14) cA 20 u_4.2.2.2.2.2.2.2.2.2.2.2.2.1, ar (ad 15) cA 20 u_4.2.2.2.2.2.2.2.2.2.2.2.2.2.1, ar (ad 16) cA 8020 u_4.2.2.2.2.2.2.2.2.2.2.2.2.2.2.1, ar (ad 17) cA 8020 u_4.2.2.2.2.2.2.2.2.2.2.2.2.2.2.2]) hP hD [0, 1, 2, 3, 4, 5, 6, 7, 8, 9, 10, 11, 12, 13, 14, 15, 16] [] rfl rfl (by decide) (by decide) hk1 hFc hP1 hD1
      clear hPc hDc hFc hP1 hK1 hD1 hk1 hz1 hvm ht
      generalize H1 = H at hP hS ⊢
      have hP : va_P (dC, dI) vwCl [oM ad xM_typed u_4.2.1 xM_posted xM_hears xM_censuses xM_finding, ar (ad 1) cA 60 gMtext, ar (ad 2) cA 20 u_4.2.2.1, ar (ad 3) cA 20 u_4.2.2.2.1, ar (ad 4) cA 20 u_4.2.2.2.2.1, ar (ad 5) cA 20 u_4.2.2.2.2.2.1, ar (ad 6) cA 20 u_4.2.2.2.2.2.2.1, ar (ad 7) cA 20 u_4.2.2.2.2.2.2.2.1, ar (ad 8) cA 4 u_4.2.2.2.2.2.2.2.2.1, ar (ad 9) cA 4 u_4.2.2.2.2.2.2.2.2.2.1, ar (ad 10) cA 4 u_4.2.2.2.2.2.2.2.2.2.2.1, ar (ad 11) cA 3 gMsetting, ar (ad 13) cA 8020 u_4.2.2.2.2.2.2.2.2.2.2.2.1, ar (ad 14) cA 20 u_4.2.2.2.2.2.2.2.2.2.2.2.2.1, ar (ad 15) cA 20 u_4.2.2.2.2.2.2.2.2.2.2.2.2.2.1, ar (ad 16) cA 8020 u_4.2.2.2.2.2.2.2.2.2.2.2.2.2.2.1, ar (ad 17) cA 8020 u_4.2.2.2.2.2.2.2.2.2.2.2.2.2.2.2] H := hP
      have hD : va_D A [oM ad xM_typed u_4.2.1 xM_posted xM_hears xM_censuses xM_finding, ar (ad 1) cA 60 gMtext, ar (ad 2) cA 20 u_4.2.2.1, ar (ad 3) cA 20 u_4.2.2.2.1, ar (ad 4) cA 20 u_4.2.2.2.2.1, ar (ad 5) cA 20 u_4.2.2.2.2.2.1, ar (ad 6) cA 20 u_4.2.2.2.2.2.2.1, ar (ad 7) cA 20 u_4.2.2.2.2.2.2.2.1, ar (ad 8) cA 4 u_4.2.2.2.2.2.2.2.2.1, ar (ad 9) cA 4 u_4.2.2.2.2.2.2.2.2.2.1, ar (ad 10) cA 4 u_4.2.2.2.2.2.2.2.2.2.2.1, ar (ad 11) cA 3 gMsetting, ar (ad 13) cA 8020 u_4.2.2.2.2.2.2.2.2.2.2.2.1, ar (ad 14) cA 20 u_4.2.2.2.2.2.2.2.2.2.2.2.2.1, ar (ad 15) cA 20 u_4.2.2.2.2.2.2.2.2.2.2.2.2.2.1, ar (ad 16) cA 8020 u_4.2.2.2.2.2.2.2.2.2.2.2.2.2.2.1, ar (ad 17) cA 8020 u_4.2.2.2.2.2.2.2.2.2.2.2.2.2.2.2] := hD
      have hw := hw.symm
      subst hw
      refine lv_goto (tgt := 23) hx hb dX10_felt_18 (by decide) ?_
      obtain rfl := Option.some.inj hm
      subst hQ
      exact W.iret (v := u_4.1) hx hb hr (fun t ht hW => ⟨⟨_, (), rfl, rfl, by rw [ht]; exact hP, va_K.moved hW.alike hK, hAe ▸ hD⟩, hS.F ht⟩) hS.2.2 dX10_felt_23

set_option maxHeartbeats 4000000 in
set_option maxRecDepth 100000 in
theorem kM_manyBy (l : Launch) (dC : Nat → ClassId) (dI : Nat → Nat → Nat) (cA : ClassId) (cB : ClassId) (ad : Nat → Nat) (sz : Nat) (a1 : Int32) (a2 : Int32) (xM_typed : Int32) (xM_people : Int32) (xM_posted : Int32) (xM_hears : Int32) (xM_censuses : Int32) (xM_finding : Int32) (gMfeltBits : Nat → Int32) (u : Int32) (hm : fM_manyBy a1 a2 gMfeltBits = some u) : Met l yX10_manyBy wsX10_manyBy ({ frames := 1, cells := 0, slots := 0, locals := 22 }) (va_Pc [.ref (ad 0), .int a1, .int a2] (fun U => U.heap.size = sz ∧ va_P (dC, dI) vwCl [oM ad xM_typed xM_people xM_posted xM_hears xM_censuses xM_finding, ar (ad 16) cA 8020 gMfeltBits] U.heap ∧ va_K (dC, dI) vwCl [(cA, .int), (cB, .boolean)] U ∧ va_D (fun _ => True) [oM ad xM_typed xM_people xM_posted xM_hears xM_censuses xM_finding, ar (ad 16) cA 8020 gMfeltBits])) (va_Qi (fun (r : Int32) (_ : Unit) => r = u) (fun (_ : Unit) t => va_P (dC, dI) vwCl [oM ad xM_typed xM_people xM_posted xM_hears xM_censuses xM_finding, ar (ad 16) cA 8020 gMfeltBits] t.heap ∧ va_K (dC, dI) vwCl [(cA, .int), (cB, .boolean)] t ∧ va_D (va_A [oM ad xM_typed xM_people xM_posted xM_hears xM_censuses xM_finding, ar (ad 16) cA 8020 gMfeltBits] sz) [oM ad xM_typed xM_people xM_posted xM_hears xM_censuses xM_finding, ar (ad 16) cA 8020 gMfeltBits]) (va_A [oM ad xM_typed xM_people xM_posted xM_hears xM_censuses xM_finding, ar (ad 16) cA 8020 gMfeltBits] sz)) 0 0 (va_A [oM ad xM_typed xM_people xM_posted xM_hears xM_censuses xM_finding, ar (ad 16) cA 8020 gMfeltBits] sz) := by
  refine Met.ofW (cc := cX10_manyBy) (maxL := 5) (ret := (some .int)) (by decide) rfl ?_
  intro p e s m args below meth c s₁ B hml hv
  obtain ⟨rfl, hsz, hP, hK, hD0⟩ := hv
  have hx := B.exec
  have hb := B.bytes
  have hr := B.returns
  have hts := atoms_spec (ws := wsX10_manyBy) B.pre
  have hown : s.vm.findClass RX10 = some m.cls := findClass_of_methodNamed B.named
  have hlocks := B.notSynchronized
  subst hsz
  have hD := hD0.self (sz := s.heap.size)
  generalize hAe : va_A [oM ad xM_typed xM_people xM_posted xM_hears xM_censuses xM_finding, ar (ad 16) cA 8020 gMfeltBits] s.heap.size = A at hD ⊢
  have hA : ∀ q : Nat, s.heap.size ≤ q → A q := fun q h => by rw [← hAe]; exact Or.inr h
  have hS : va_S A s.heap s.heap [] := va_S.rf
  have hl := lv_entry ([.ref (ad 0), .int a1, .int a2]) (n := 5) (Nat.le_of_ble_eq_true rfl)
  rw [lg_entry_eq]
  generalize (lg_sl ([.ref (ad 0), .int a1, .int a2]) ++ List.replicate (5 - (lg_sl ([.ref (ad 0), .int a1, .int a2])).length) Slot.unset).toArray = ls at hl ⊢
  have hl : lv_has ls 5 [(0, .ref (ad 0)), (1, .int a1), (2, .int a2)] := hl
  refine wk_Q (fun QQ hQ => ?_)
  have hinX10 : ∀ w ∈ wsX100, w ∈ wsX10_manyBy := fun w h => List.mem_cons_of_mem _ (inlX10 w h)
  have hl_55 := hts (.fieldLink RX10 55 "HandCensusModel" "feltBits" "[I") (List.mem_cons_of_mem _ (in_r7 _ (List.mem_of_getElem? (i := 10) rfl)))
  have h_5 : ∀ (v1_5 : Int32) (v2_5 : Int32), ∀ (n_5 : Nat), ∀ (v3_5 : Int32) (v4_5 : Int32), fM_manyBy_5 v1_5 v2_5 gMfeltBits n_5 v3_5 v4_5 = some u → ∀ (H : Heap) (locs : List Loc), va_P (dC, dI) vwCl [oM ad xM_typed xM_people xM_posted xM_hears xM_censuses xM_finding, ar (ad 16) cA 8020 gMfeltBits] H → va_D A [oM ad xM_typed xM_people xM_posted xM_hears xM_censuses xM_finding, ar (ad 16) cA 8020 gMfeltBits] → va_S A s.heap H locs → ∀ ls : Array Slot, lv_has ls 5 [(0, .ref (ad 0)), (1, .int v1_5), (2, .int v2_5), (3, .int v3_5), (4, .int v4_5)] → W p l e (headSpec wsX10_manyBy ({ frames := 1, cells := 0, slots := 0, locals := 22 })).room s m ([.ref (ad 0), .int a1, .int a2] : List Value).toArray below meth c H locs 0 0 QQ (F0 m 5 ls []) := by
    intro v1_5 v2_5
    intro n_5
    induction n_5 with
    | zero => intro v3_5 v4_5 hm; have hm : (none : Option (Int32)) = some u := hm; cases hm
    | succ n_5 ih_5 =>
      intro v3_5 v4_5 hm H locs hP hD hS ls hl
      have hm : fM_manyBy_5_b  (fM_manyBy_5  v1_5 v2_5 gMfeltBits n_5) v1_5 v2_5 gMfeltBits v3_5 v4_5 = some u := hm
      unfold fM_manyBy_5_b at hm
      refine lv_iload hx hb dX10_manyBy_5 (lv_at hl 4 rfl) ?_
      refine lv_iload_n hx hb dX10_manyBy_7 rfl (lv_at hl 2 rfl) ?_
      refine lv_icmp_gt (tgt := 35) hx hb dX10_manyBy_8 (by decide) (fun c_1 => ?_) (fun c_1 => ?_)
      · have hm := it_pos c_1 hm
        refine lv_iload_n hx hb dX10_manyBy_35 rfl (lv_at hl 3 rfl) ?_
        obtain rfl := Option.some.inj hm
        subst hQ
        exact W.iret (v := v3_5) hx hb hr (fun t ht hW => ⟨⟨_, (), rfl, rfl, by rw [ht]; exact hP, va_K.moved hW.alike hK, hAe ▸ hD⟩, hS.F ht⟩) hS.2.2 dX10_manyBy_36
      · have hm := it_neg c_1 hm
        refine lv_iload_n hx hb dX10_manyBy_11 rfl (lv_at hl 3 rfl) ?_
        refine lv_aload_n hx hb dX10_manyBy_12 rfl (lv_at hl 0 rfl) ?_
        refine va_get (D := (dC, dI)) (ci := 10) (v := .ref (ad 16)) (C := RX10) (T := TX10) (N := 37) hx hb hts hinX10 hown hK hP 0 rfl rfl 17 (by decide) hl_55 (fun _ h9 => h9) rfl dX10_manyBy_13 ?_
        refine lv_bipush (v := 20) hx hb dX10_manyBy_16 (by decide) ?_
        refine lv_iload hx hb dX10_manyBy_18 (lv_at hl 4 rfl) ?_
        refine lv_imul hx hb dX10_manyBy_20 ?_
        refine lv_iload_n hx hb dX10_manyBy_21 rfl (lv_at hl 1 rfl) ?_
        refine lv_iadd hx hb dX10_manyBy_22 ?_
        obtain ⟨i_2, hm⟩ := ck_ok hm
        refine va_iald hx hb hK hP 1 0 rfl rfl i_2 dX10_manyBy_23 ?_
        have hPc := hP.sub (ws' := []) [] rfl
        have hDc := hD.sub (ws' := []) [] (by decide) rfl
        have hFc := va_free (wc := []) hD hS hA [] rfl
        obtain ⟨u_3, hc_3, hm⟩ := bd_ok hm
        refine va_calli (va_runS (As := [.int (gMfeltBits ((20 * v4_5) + v1_5).toNatClampNeg)]) (rest := [.int v3_5]) ⟨hx, hb, hml, hown, hts⟩ (kM_ones l dC dI cA cB ad H.size (gMfeltBits ((20 * v4_5) + v1_5).toNatClampNeg) u_3 hc_3) (va_cwS 1 hts gX10_manyBy_X10_ones rfl rfl rfl (by decide +kernel) ⟨Nat.le_of_ble_eq_true rfl, Nat.le_of_ble_eq_true rfl⟩) ⟨fun a U g mk q => by obtain ⟨q0, q1, qP, qK, qD⟩ := q; exact ⟨q0, q1, qP, va_K.moved (u := U) (U := U.calling g mk a) (Vm.Alike.refl U.vm) qK, qD⟩, fun U hU hW => ⟨rfl, by rw [hU], by rw [hU]; exact hPc, va_K.moved hW.alike hK, hDc.weaken (fun _ _ _ _ => trivial)⟩⟩ rfl rfl hl.1 rfl (lv_room (Nat.le_of_ble_eq_true rfl)) dX10_manyBy_24 ⟨Nat.le_of_ble_eq_true rfl, Nat.le_of_ble_eq_true rfl⟩) hS (fun q _ h => hFc q h) hFc (fun r_3 _ t H1 locs ht hvm hw hB hz1 hk1 hS => ?_)
        obtain ⟨hP1, hK1, hD1⟩ := hB
        rw [ht] at hP1
        obtain ⟨hP, hD⟩ := va_join (wr := [oM ad xM_typed xM_people xM_posted xM_hears xM_censuses xM_finding, ar (ad 16) cA 8020 gMfeltBits]) (w1 := []) hP hD [] [0, 1] rfl rfl (by decide) (by decide) hk1 hFc hP1 hD1
        clear hPc hDc hFc hP1 hK1 hD1 hk1 hz1 hvm ht
        generalize H1 = H at hP hS ⊢
        have hP : va_P (dC, dI) vwCl [oM ad xM_typed xM_people xM_posted xM_hears xM_censuses xM_finding, ar (ad 16) cA 8020 gMfeltBits] H := hP
        have hD : va_D A [oM ad xM_typed xM_people xM_posted xM_hears xM_censuses xM_finding, ar (ad 16) cA 8020 gMfeltBits] := hD
        have hw := hw.symm
        subst hw
        refine lv_iadd hx hb dX10_manyBy_27 ?_
        refine lv_istore_n (lv' := [(3, .int (v3_5 + u_3)), (0, .ref (ad 0)), (1, .int v1_5), (2, .int v2_5), (4, .int v4_5)]) hx hb dX10_manyBy_28 rfl hl (by decide) rfl (fun ls hl => ?_)
        refine lv_iinc (v := (v4_5 + 1)) (lv' := [(4, .int (v4_5 + 1)), (3, .int (v3_5 + u_3)), (0, .ref (ad 0)), (1, .int v1_5), (2, .int v2_5)]) hx hb dX10_manyBy_29 hl (k := 4) rfl rfl (by decide) rfl (fun ls hl => ?_)
        refine lv_goto (tgt := 5) hx hb dX10_manyBy_32 (by decide) ?_
        exact ih_5 _ _ hm _ _ hP hD hS _ (lv_sub hl [2, 3, 4, 1, 0] rfl)
  unfold fM_manyBy at hm
  refine lv_iconst (v := 0) hx hb dX10_manyBy_0 (by decide) ?_
  refine lv_istore_n (lv' := [(3, .int 0), (0, .ref (ad 0)), (1, .int a1), (2, .int a2)]) hx hb dX10_manyBy_1 rfl hl (by decide) rfl (fun ls hl => ?_)
  refine lv_iconst (v := 0) hx hb dX10_manyBy_2 (by decide) ?_
  refine lv_istore (lv' := [(4, .int 0), (3, .int 0), (0, .ref (ad 0)), (1, .int a1), (2, .int a2)]) hx hb dX10_manyBy_3 hl (by decide) rfl (fun ls hl => ?_)
  exact h_5 _ _ _ _ _ hm _ _ hP hD hS _ (lv_sub hl [2, 3, 4, 1, 0] rfl)

set_option maxHeartbeats 4000000 in
set_option maxRecDepth 100000 in
theorem kM_manyOf (l : Launch) (dC : Nat → ClassId) (dI : Nat → Nat → Nat) (cA : ClassId) (cB : ClassId) (ad : Nat → Nat) (sz : Nat) (a1 : Int32) (a2 : Int32) (xM_typed : Int32) (xM_people : Int32) (xM_posted : Int32) (xM_hears : Int32) (xM_censuses : Int32) (xM_finding : Int32) (gMtext : Nat → Int32) (gMkinds : Nat → Int32) (gMlates : Nat → Int32) (gMscarfs : Nat → Int32) (gMhands : Nat → Int32) (gMrings : Nat → Int32) (gMmains : Nat → Int32) (gMaheadOf : Nat → Int32) (gMlastIn : Nat → Int32) (gMmanyIn : Nat → Int32) (gMsetting : Nat → Int32) (gMcomes : Nat → Int32) (gMbusyTo : Nat → Int32) (gMfeltMany : Nat → Int32) (gMfeltBits : Nat → Int32) (gMlostBits : Nat → Int32) (u : Int32 × Int32 × (Nat → Int32) × (Nat → Int32) × (Nat → Int32) × (Nat → Int32) × (Nat → Int32) × (Nat → Int32) × (Nat → Int32) × (Nat → Int32) × (Nat → Int32) × (Nat → Int32) × (Nat → Int32) × (Nat → Int32) × (Nat → Int32) × (Nat → Int32)) (hm : fM_manyOf a1 a2 xM_typed xM_people gMtext gMkinds gMlates gMscarfs gMhands gMrings gMmains gMaheadOf gMlastIn gMmanyIn gMsetting gMcomes gMbusyTo gMfeltMany gMfeltBits gMlostBits = some u) : Met l yX10_manyOf wsX10_manyOf ({ frames := 5, cells := 0, slots := 0, locals := 124 }) (va_Pc [.ref (ad 0), .int a1, .int a2] (fun U => U.heap.size = sz ∧ va_P (dC, dI) vwCl [oM ad xM_typed xM_people xM_posted xM_hears xM_censuses xM_finding, ar (ad 1) cA 60 gMtext, ar (ad 2) cA 20 gMkinds, ar (ad 3) cA 20 gMlates, ar (ad 4) cA 20 gMscarfs, ar (ad 5) cA 20 gMhands, ar (ad 6) cA 20 gMrings, ar (ad 7) cA 20 gMmains, ar (ad 8) cA 4 gMaheadOf, ar (ad 9) cA 4 gMlastIn, ar (ad 10) cA 4 gMmanyIn, ar (ad 11) cA 3 gMsetting, ar (ad 13) cA 8020 gMcomes, ar (ad 14) cA 20 gMbusyTo, ar (ad 15) cA 20 gMfeltMany, ar (ad 16) cA 8020 gMfeltBits, ar (ad 17) cA 8020 gMlostBits] U.heap ∧ va_K (dC, dI) vwCl [(cA, .int), (cB, .boolean)] U ∧ va_D (fun _ => True) [oM ad xM_typed xM_people xM_posted xM_hears xM_censuses xM_finding, ar (ad 1) cA 60 gMtext, ar (ad 2) cA 20 gMkinds, ar (ad 3) cA 20 gMlates, ar (ad 4) cA 20 gMscarfs, ar (ad 5) cA 20 gMhands, ar (ad 6) cA 20 gMrings, ar (ad 7) cA 20 gMmains, ar (ad 8) cA 4 gMaheadOf, ar (ad 9) cA 4 gMlastIn, ar (ad 10) cA 4 gMmanyIn, ar (ad 11) cA 3 gMsetting, ar (ad 13) cA 8020 gMcomes, ar (ad 14) cA 20 gMbusyTo, ar (ad 15) cA 20 gMfeltMany, ar (ad 16) cA 8020 gMfeltBits, ar (ad 17) cA 8020 gMlostBits])) (va_Qi (fun (r : Int32) (_ : Unit) => r = u.1) (fun (_ : Unit) t => va_P (dC, dI) vwCl [oM ad xM_typed u.2.1 xM_posted xM_hears xM_censuses xM_finding, ar (ad 1) cA 60 gMtext, ar (ad 2) cA 20 u.2.2.1, ar (ad 3) cA 20 u.2.2.2.1, ar (ad 4) cA 20 u.2.2.2.2.1, ar (ad 5) cA 20 u.2.2.2.2.2.1, ar (ad 6) cA 20 u.2.2.2.2.2.2.1, ar (ad 7) cA 20 u.2.2.2.2.2.2.2.1, ar (ad 8) cA 4 u.2.2.2.2.2.2.2.2.1, ar (ad 9) cA 4 u.2.2.2.2.2.2.2.2.2.1, ar (ad 10) cA 4 u.2.2.2.2.2.2.2.2.2.2.1, ar (ad 11) cA 3 gMsetting, ar (ad 13) cA 8020 u.2.2.2.2.2.2.2.2.2.2.2.1, ar (ad 14) cA 20 u.2.2.2.2.2.2.2.2.2.2.2.2.1, ar (ad 15) cA 20 u.2.2.2.2.2.2.2.2.2.2.2.2.2.1, ar (ad 16) cA 8020 u.2.2.2.2.2.2.2.2.2.2.2.2.2.2.1, ar (ad 17) cA 8020 u.2.2.2.2.2.2.2.2.2.2.2.2.2.2.2] t.heap ∧ va_K (dC, dI) vwCl [(cA, .int), (cB, .boolean)] t ∧ va_D (va_A [oM ad xM_typed xM_people xM_posted xM_hears xM_censuses xM_finding, ar (ad 1) cA 60 gMtext, ar (ad 2) cA 20 gMkinds, ar (ad 3) cA 20 gMlates, ar (ad 4) cA 20 gMscarfs, ar (ad 5) cA 20 gMhands, ar (ad 6) cA 20 gMrings, ar (ad 7) cA 20 gMmains, ar (ad 8) cA 4 gMaheadOf, ar (ad 9) cA 4 gMlastIn, ar (ad 10) cA 4 gMmanyIn, ar (ad 11) cA 3 gMsetting, ar (ad 13) cA 8020 gMcomes, ar (ad 14) cA 20 gMbusyTo, ar (ad 15) cA 20 gMfeltMany, ar (ad 16) cA 8020 gMfeltBits, ar (ad 17) cA 8020 gMlostBits] sz) [oM ad xM_typed u.2.1 xM_posted xM_hears xM_censuses xM_finding, ar (ad 1) cA 60 gMtext, ar (ad 2) cA 20 u.2.2.1, ar (ad 3) cA 20 u.2.2.2.1, ar (ad 4) cA 20 u.2.2.2.2.1, ar (ad 5) cA 20 u.2.2.2.2.2.1, ar (ad 6) cA 20 u.2.2.2.2.2.2.1, ar (ad 7) cA 20 u.2.2.2.2.2.2.2.1, ar (ad 8) cA 4 u.2.2.2.2.2.2.2.2.1, ar (ad 9) cA 4 u.2.2.2.2.2.2.2.2.2.1, ar (ad 10) cA 4 u.2.2.2.2.2.2.2.2.2.2.1, ar (ad 11) cA 3 gMsetting, ar (ad 13) cA 8020 u.2.2.2.2.2.2.2.2.2.2.2.1, ar (ad 14) cA 20 u.2.2.2.2.2.2.2.2.2.2.2.2.1, ar (ad 15) cA 20 u.2.2.2.2.2.2.2.2.2.2.2.2.2.1, ar (ad 16) cA 8020 u.2.2.2.2.2.2.2.2.2.2.2.2.2.2.1, ar (ad 17) cA 8020 u.2.2.2.2.2.2.2.2.2.2.2.2.2.2.2]) (va_A [oM ad xM_typed xM_people xM_posted xM_hears xM_censuses xM_finding, ar (ad 1) cA 60 gMtext, ar (ad 2) cA 20 gMkinds, ar (ad 3) cA 20 gMlates, ar (ad 4) cA 20 gMscarfs, ar (ad 5) cA 20 gMhands, ar (ad 6) cA 20 gMrings, ar (ad 7) cA 20 gMmains, ar (ad 8) cA 4 gMaheadOf, ar (ad 9) cA 4 gMlastIn, ar (ad 10) cA 4 gMmanyIn, ar (ad 11) cA 3 gMsetting, ar (ad 13) cA 8020 gMcomes, ar (ad 14) cA 20 gMbusyTo, ar (ad 15) cA 20 gMfeltMany, ar (ad 16) cA 8020 gMfeltBits, ar (ad 17) cA 8020 gMlostBits] sz)) 0 0 (va_A [oM ad xM_typed xM_people xM_posted xM_hears xM_censuses xM_finding, ar (ad 1) cA 60 gMtext, ar (ad 2) cA 20 gMkinds, ar (ad 3) cA 20 gMlates, ar (ad 4) cA 20 gMscarfs, ar (ad 5) cA 20 gMhands, ar (ad 6) cA 20 gMrings, ar (ad 7) cA 20 gMmains, ar (ad 8) cA 4 gMaheadOf, ar (ad 9) cA 4 gMlastIn, ar (ad 10) cA 4 gMmanyIn, ar (ad 11) cA 3 gMsetting, ar (ad 13) cA 8020 gMcomes, ar (ad 14) cA 20 gMbusyTo, ar (ad 15) cA 20 gMfeltMany, ar (ad 16) cA 8020 gMfeltBits, ar (ad 17) cA 8020 gMlostBits] sz) := by
  refine Met.ofW (cc := cX10_manyOf) (maxL := 3) (ret := (some .int)) (by decide) rfl ?_
  intro p e s m args below meth c s₁ B hml hv
  obtain ⟨rfl, hsz, hP, hK, hD0⟩ := hv
  have hx := B.exec
  have hb := B.bytes
  have hr := B.returns
  have hts := atoms_spec (ws := wsX10_manyOf) B.pre
  have hown : s.vm.findClass RX10 = some m.cls := findClass_of_methodNamed B.named
  have hlocks := B.notSynchronized
  subst hsz
  have hD := hD0.self (sz := s.heap.size)
  generalize hAe : va_A [oM ad xM_typed xM_people xM_posted xM_hears xM_censuses xM_finding, ar (ad 1) cA 60 gMtext, ar (ad 2) cA 20 gMkinds, ar (ad 3) cA 20 gMlates, ar (ad 4) cA 20 gMscarfs, ar (ad 5) cA 20 gMhands, ar (ad 6) cA 20 gMrings, ar (ad 7) cA 20 gMmains, ar (ad 8) cA 4 gMaheadOf, ar (ad 9) cA 4 gMlastIn, ar (ad 10) cA 4 gMmanyIn, ar (ad 11) cA 3 gMsetting, ar (ad 13) cA 8020 gMcomes, ar (ad 14) cA 20 gMbusyTo, ar (ad 15) cA 20 gMfeltMany, ar (ad 16) cA 8020 gMfeltBits, ar (ad 17) cA 8020 gMlostBits] s.heap.size = A at hD ⊢
  have hA : ∀ q : Nat, s.heap.size ≤ q → A q := fun q h => by rw [← hAe]; exact Or.inr h
  have hS : va_S A s.heap s.heap [] := va_S.rf
  have hl := lv_entry ([.ref (ad 0), .int a1, .int a2]) (n := 3) (Nat.le_of_ble_eq_true rfl)
  rw [lg_entry_eq]
  generalize (lg_sl ([.ref (ad 0), .int a1, .int a2]) ++ List.replicate (3 - (lg_sl ([.ref (ad 0), .int a1, .int a2])).length) Slot.unset).toArray = ls at hl ⊢
  have hl : lv_has ls 3 [(0, .ref (ad 0)), (1, .int a1), (2, .int a2)] := hl
  refine wk_Q (fun QQ hQ => ?_)
  unfold fM_manyOf at hm
  refine lv_aload_n hx hb dX10_manyOf_0 rfl (lv_at hl 0 rfl) ?_
  have hPc := hP.sub (ws' := [oM ad xM_typed xM_people xM_posted xM_hears xM_censuses xM_finding, ar (ad 1) cA 60 gMtext, ar (ad 2) cA 20 gMkinds, ar (ad 3) cA 20 gMlates, ar (ad 4) cA 20 gMscarfs, ar (ad 5) cA 20 gMhands, ar (ad 6) cA 20 gMrings, ar (ad 7) cA 20 gMmains, ar (ad 8) cA 4 gMaheadOf, ar (ad 9) cA 4 gMlastIn, ar (ad 10) cA 4 gMmanyIn, ar (ad 11) cA 3 gMsetting, ar (ad 13) cA 8020 gMcomes, ar (ad 14) cA 20 gMbusyTo, ar (ad 15) cA 20 gMfeltMany, ar (ad 16) cA 8020 gMfeltBits, ar (ad 17) cA 8020 gMlostBits]) [0, 1, 2, 3, 4, 5, 6, 7, 8, 9, 10, 11, 12, 13, 14, 15, 16] rfl
  have hDc := hD.sub (ws' := [oM ad xM_typed xM_people xM_posted xM_hears xM_censuses xM_finding, ar (ad 1) cA 60 gMtext, ar (ad 2) cA 20 gMkinds, ar (ad 3) cA 20 gMlates, ar (ad 4) cA 20 gMscarfs, ar (ad 5) cA 20 gMhands, ar (ad 6) cA 20 gMrings, ar (ad 7) cA 20 gMmains, ar (ad 8) cA 4 gMaheadOf, ar (ad 9) cA 4 gMlastIn, ar (ad 10) cA 4 gMmanyIn, ar (ad 11) cA 3 gMsetting, ar (ad 13) cA 8020 gMcomes, ar (ad 14) cA 20 gMbusyTo, ar (ad 15) cA 20 gMfeltMany, ar (ad 16) cA 8020 gMfeltBits, ar (ad 17) cA 8020 gMlostBits]) [0, 1, 2, 3, 4, 5, 6, 7, 8, 9, 10, 11, 12, 13, 14, 15, 16] (by decide) rfl
  have hFc := va_free (wc := [oM ad xM_typed xM_people xM_posted xM_hears xM_censuses xM_finding, ar (ad 1) cA 60 gMtext, ar (ad 2) cA 20 gMkinds, ar (ad 3) cA 20 gMlates, ar (ad 4) cA 20 gMscarfs, ar (ad 5) cA 20 gMhands, ar (ad 6) cA 20 gMrings, ar (ad 7) cA 20 gMmains, ar (ad 8) cA 4 gMaheadOf, ar (ad 9) cA 4 gMlastIn, ar (ad 10) cA 4 gMmanyIn, ar (ad 11) cA 3 gMsetting, ar (ad 13) cA 8020 gMcomes, ar (ad 14) cA 20 gMbusyTo, ar (ad 15) cA 20 gMfeltMany, ar (ad 16) cA 8020 gMfeltBits, ar (ad 17) cA 8020 gMlostBits]) hD hS hA [0, 1, 2, 3, 4, 5, 6, 7, 8, 9, 10, 11, 12, 13, 14, 15, 16] rfl
  obtain ⟨u_1, hc_1, hm⟩ := bd_ok hm
  refine va_callv (va_runV (As := []) (rest := []) ⟨hx, hb, hml, hown, hts⟩ (kM_lays l dC dI cA cB ad s.heap.size xM_typed xM_people xM_posted xM_hears xM_censuses xM_finding gMtext gMkinds gMlates gMscarfs gMhands gMrings gMmains gMaheadOf gMlastIn gMmanyIn gMsetting gMcomes gMbusyTo gMfeltMany gMfeltBits gMlostBits u_1 hc_1) (cwV 0 hts gX10_manyOf_X10_lays rfl rfl rfl (by decide +kernel) ⟨Nat.le_of_ble_eq_true rfl, Nat.le_of_ble_eq_true rfl⟩) ⟨fun a U g mk q => by obtain ⟨q0, q1, qP, qK, qD⟩ := q; exact ⟨q0, q1, qP, va_K.moved (u := U) (U := U.calling g mk a) (Vm.Alike.refl U.vm) qK, qD⟩, va_recv hK hPc (ci := 10) (q0 := 0) rfl rfl, fun U hU hW => ⟨rfl, by rw [hU], by rw [hU]; exact hPc, va_K.moved hW.alike hK, hDc.weaken (fun _ _ _ _ => trivial)⟩⟩ rfl rfl hl.1 rfl (lv_room (Nat.le_of_ble_eq_true rfl)) dX10_manyOf_1 ⟨Nat.le_of_ble_eq_true rfl, Nat.le_of_ble_eq_true rfl⟩) hS (fun q _ h => hFc q h) hFc (fun _ t H1 locs ht hvm hw hB hz1 hk1 hS => ?_)
  obtain ⟨hP1, hK1, hD1⟩ := hB
  rw [ht] at hP1
  obtain ⟨hP, hD⟩ := va_join (wr := []) (w1 := [oM ad xM_typed u_1.1 xM_posted xM_hears xM_censuses xM_finding, ar (ad 1) cA 60 gMtext, ar (ad 2) cA 20 u_1.2.1, ar (ad 3) cA 20 u_1.2.2.1, ar (ad 4) cA 20 u_1.2.2.2.1, ar (ad 5) cA 20 u_1.2.2.2.2.1, ar (ad 6) cA 20 u_1.2.2.2.2.2.1, ar (ad 7) cA 20 u_1.2.2.2.2.2.2.1, ar (ad 8) cA 4 u_1.2.2.2.2.2.2.2.1, ar (ad 9) cA 4 u_1.2.2.2.2.2.2.2.2.1, ar (ad 10) cA 4 u_1.2.2.2.2.2.2.2.2.2.1, ar (ad 11) cA 3 gMsetting, ar (ad 13) cA 8020 u_1.2.2.2.2.2.2.2.2.2.2.1, ar (ad 14) cA 20 u_1.2.2.2.2.2.2.2.2.2.2.2.1, ar (ad 15) cA 20 u_1.2.2.2.2.2.2.2.2.2.2.2.2.1, ar (ad 16) cA 8020 u_1.2.2.2.2.2.2.2.2.2.2.2.2.2.1, ar (ad 17) cA 8020 u_1.2.2.2.2.2.2.2.2.2.2.2.2.2.2]) hP hD [0, 1, 2, 3, 4, 5, 6, 7, 8, 9, 10, 11, 12, 13, 14, 15, 16] [] rfl rfl (by decide) (by decide) hk1 hFc hP1 hD1
  clear hPc hDc hFc hP1 hK1 hD1 hk1 hz1 hvm ht
  generalize H1 = H at hP hS ⊢
  have hP : va_P (dC, dI) vwCl [oM ad xM_typed u_1.1 xM_posted xM_hears xM_censuses xM_finding, ar (ad 1) cA 60 gMtext, ar (ad 2) cA 20 u_1.2.1, ar (ad 3) cA 20 u_1.2.2.1, ar (ad 4) cA 20 u_1.2.2.2.1, ar (ad 5) cA 20 u_1.2.2.2.2.1, ar (ad 6) cA 20 u_1.2.2.2.2.2.1, ar (ad 7) cA 20 u_1.2.2.2.2.2.2.1, ar (ad 8) cA 4 u_1.2.2.2.2.2.2.2.1, ar (ad 9) cA 4 u_1.2.2.2.2.2.2.2.2.1, ar (ad 10) cA 4 u_1.2.2.2.2.2.2.2.2.2.1, ar (ad 11) cA 3 gMsetting, ar (ad 13) cA 8020 u_1.2.2.2.2.2.2.2.2.2.2.1, ar (ad 14) cA 20 u_1.2.2.2.2.2.2.2.2.2.2.2.1, ar (ad 15) cA 20 u_1.2.2.2.2.2.2.2.2.2.2.2.2.1, ar (ad 16) cA 8020 u_1.2.2.2.2.2.2.2.2.2.2.2.2.2.1, ar (ad 17) cA 8020 u_1.2.2.2.2.2.2.2.2.2.2.2.2.2.2] H := hP
  have hD : va_D A [oM ad xM_typed u_1.1 xM_posted xM_hears xM_censuses xM_finding, ar (ad 1) cA 60 gMtext, ar (ad 2) cA 20 u_1.2.1, ar (ad 3) cA 20 u_1.2.2.1, ar (ad 4) cA 20 u_1.2.2.2.1, ar (ad 5) cA 20 u_1.2.2.2.2.1, ar (ad 6) cA 20 u_1.2.2.2.2.2.1, ar (ad 7) cA 20 u_1.2.2.2.2.2.2.1, ar (ad 8) cA 4 u_1.2.2.2.2.2.2.2.1, ar (ad 9) cA 4 u_1.2.2.2.2.2.2.2.2.1, ar (ad 10) cA 4 u_1.2.2.2.2.2.2.2.2.2.1, ar (ad 11) cA 3 gMsetting, ar (ad 13) cA 8020 u_1.2.2.2.2.2.2.2.2.2.2.1, ar (ad 14) cA 20 u_1.2.2.2.2.2.2.2.2.2.2.2.1, ar (ad 15) cA 20 u_1.2.2.2.2.2.2.2.2.2.2.2.2.1, ar (ad 16) cA 8020 u_1.2.2.2.2.2.2.2.2.2.2.2.2.2.1, ar (ad 17) cA 8020 u_1.2.2.2.2.2.2.2.2.2.2.2.2.2.2] := hD
  refine lv_aload_n hx hb dX10_manyOf_4 rfl (lv_at hl 0 rfl) ?_
  refine lv_iload_n hx hb dX10_manyOf_5 rfl (lv_at hl 1 rfl) ?_
  refine lv_iload_n hx hb dX10_manyOf_6 rfl (lv_at hl 2 rfl) ?_
  have hPc := hP.sub (ws' := [oM ad xM_typed u_1.1 xM_posted xM_hears xM_censuses xM_finding, ar (ad 16) cA 8020 u_1.2.2.2.2.2.2.2.2.2.2.2.2.2.1]) [0, 15] rfl
  have hDc := hD.sub (ws' := [oM ad xM_typed u_1.1 xM_posted xM_hears xM_censuses xM_finding, ar (ad 16) cA 8020 u_1.2.2.2.2.2.2.2.2.2.2.2.2.2.1]) [0, 15] (by decide) rfl
  have hFc := va_free (wc := [oM ad xM_typed u_1.1 xM_posted xM_hears xM_censuses xM_finding, ar (ad 16) cA 8020 u_1.2.2.2.2.2.2.2.2.2.2.2.2.2.1]) hD hS hA [0, 15] rfl
  obtain ⟨u_2, hc_2, hm⟩ := bd_ok hm
  refine va_calli (va_runV (As := [.int a1, .int a2]) (rest := []) ⟨hx, hb, hml, hown, hts⟩ (kM_manyBy l dC dI cA cB ad H.size a1 a2 xM_typed u_1.1 xM_posted xM_hears xM_censuses xM_finding u_1.2.2.2.2.2.2.2.2.2.2.2.2.2.1 u_2 hc_2) (cwV 2 hts gX10_manyOf_X10_manyBy rfl rfl rfl (by decide +kernel) ⟨Nat.le_of_ble_eq_true rfl, Nat.le_of_ble_eq_true rfl⟩) ⟨fun a U g mk q => by obtain ⟨q0, q1, qP, qK, qD⟩ := q; exact ⟨q0, q1, qP, va_K.moved (u := U) (U := U.calling g mk a) (Vm.Alike.refl U.vm) qK, qD⟩, va_recv hK hPc (ci := 10) (q0 := 0) rfl rfl, fun U hU hW => ⟨rfl, by rw [hU], by rw [hU]; exact hPc, va_K.moved hW.alike hK, hDc.weaken (fun _ _ _ _ => trivial)⟩⟩ rfl rfl hl.1 rfl (lv_room (Nat.le_of_ble_eq_true rfl)) dX10_manyOf_7 ⟨Nat.le_of_ble_eq_true rfl, Nat.le_of_ble_eq_true rfl⟩) hS (fun q _ h => hFc q h) hFc (fun r_2 _ t H1 locs ht hvm hw hB hz1 hk1 hS => ?_)
  obtain ⟨hP1, hK1, hD1⟩ := hB
  rw [ht] at hP1
  obtain ⟨hP, hD⟩ := va_join (wr := [ar (ad 1) cA 60 gMtext, ar (ad 2) cA 20 u_1.2.1, ar (ad 3) cA 20 u_1.2.2.1, ar (ad 4) cA 20 u_1.2.2.2.1, ar (ad 5) cA 20 u_1.2.2.2.2.1, ar (ad 6) cA 20 u_1.2.2.2.2.2.1, ar (ad 7) cA 20 u_1.2.2.2.2.2.2.1, ar (ad 8) cA 4 u_1.2.2.2.2.2.2.2.1, ar (ad 9) cA 4 u_1.2.2.2.2.2.2.2.2.1, ar (ad 10) cA 4 u_1.2.2.2.2.2.2.2.2.2.1, ar (ad 11) cA 3 gMsetting, ar (ad 13) cA 8020 u_1.2.2.2.2.2.2.2.2.2.2.1, ar (ad 14) cA 20 u_1.2.2.2.2.2.2.2.2.2.2.2.1, ar (ad 15) cA 20 u_1.2.2.2.2.2.2.2.2.2.2.2.2.1, ar (ad 17) cA 8020 u_1.2.2.2.2.2.2.2.2.2.2.2.2.2.2]) (w1 := [oM ad xM_typed u_1.1 xM_posted xM_hears xM_censuses xM_finding, ar (ad 16) cA 8020 u_1.2.2.2.2.2.2.2.2.2.2.2.2.2.1]) hP hD [0, 15] [1, 2, 3, 4, 5, 6, 7, 8, 9, 10, 11, 12, 13, 14, 16] rfl rfl (by decide) (by decide) hk1 hFc hP1 hD1
  clear hPc hDc hFc hP1 hK1 hD1 hk1 hz1 hvm ht
  generalize H1 = H at hP hS ⊢
  have hP : va_P (dC, dI) vwCl [oM ad xM_typed u_1.1 xM_posted xM_hears xM_censuses xM_finding, ar (ad 1) cA 60 gMtext, ar (ad 2) cA 20 u_1.2.1, ar (ad 3) cA 20 u_1.2.2.1, ar (ad 4) cA 20 u_1.2.2.2.1, ar (ad 5) cA 20 u_1.2.2.2.2.1, ar (ad 6) cA 20 u_1.2.2.2.2.2.1, ar (ad 7) cA 20 u_1.2.2.2.2.2.2.1, ar (ad 8) cA 4 u_1.2.2.2.2.2.2.2.1, ar (ad 9) cA 4 u_1.2.2.2.2.2.2.2.2.1, ar (ad 10) cA 4 u_1.2.2.2.2.2.2.2.2.2.1, ar (ad 11) cA 3 gMsetting, ar (ad 13) cA 8020 u_1.2.2.2.2.2.2.2.2.2.2.1, ar (ad 14) cA 20 u_1.2.2.2.2.2.2.2.2.2.2.2.1, ar (ad 15) cA 20 u_1.2.2.2.2.2.2.2.2.2.2.2.2.1, ar (ad 16) cA 8020 u_1.2.2.2.2.2.2.2.2.2.2.2.2.2.1, ar (ad 17) cA 8020 u_1.2.2.2.2.2.2.2.2.2.2.2.2.2.2] H := hP.sub [15, 0, 1, 2, 3, 4, 5, 6, 7, 8, 9, 10, 11, 12, 13, 16, 14] rfl
  have hD : va_D A [oM ad xM_typed u_1.1 xM_posted xM_hears xM_censuses xM_finding, ar (ad 1) cA 60 gMtext, ar (ad 2) cA 20 u_1.2.1, ar (ad 3) cA 20 u_1.2.2.1, ar (ad 4) cA 20 u_1.2.2.2.1, ar (ad 5) cA 20 u_1.2.2.2.2.1, ar (ad 6) cA 20 u_1.2.2.2.2.2.1, ar (ad 7) cA 20 u_1.2.2.2.2.2.2.1, ar (ad 8) cA 4 u_1.2.2.2.2.2.2.2.1, ar (ad 9) cA 4 u_1.2.2.2.2.2.2.2.2.1, ar (ad 10) cA 4 u_1.2.2.2.2.2.2.2.2.2.1, ar (ad 11) cA 3 gMsetting, ar (ad 13) cA 8020 u_1.2.2.2.2.2.2.2.2.2.2.1, ar (ad 14) cA 20 u_1.2.2.2.2.2.2.2.2.2.2.2.1, ar (ad 15) cA 20 u_1.2.2.2.2.2.2.2.2.2.2.2.2.1, ar (ad 16) cA 8020 u_1.2.2.2.2.2.2.2.2.2.2.2.2.2.1, ar (ad 17) cA 8020 u_1.2.2.2.2.2.2.2.2.2.2.2.2.2.2] := hD.sub [15, 0, 1, 2, 3, 4, 5, 6, 7, 8, 9, 10, 11, 12, 13, 16, 14] (by decide) rfl
  have hw := hw.symm
  subst hw
  obtain rfl := Option.some.inj hm
  subst hQ
  exact W.iret (v := u_2) hx hb hr (fun t ht hW => ⟨⟨_, (), rfl, rfl, by rw [ht]; exact hP, va_K.moved hW.alike hK, hAe ▸ hD⟩, hS.F ht⟩) hS.2.2 dX10_manyOf_10

set_option maxHeartbeats 4000000 in
set_option maxRecDepth 100000 in
theorem kM_many (l : Launch) (dC : Nat → ClassId) (dI : Nat → Nat → Nat) (cA : ClassId) (cB : ClassId) (ad : Nat → Nat) (sz : Nat) (a1 : Int32) (a2 : Int32) (xM_typed : Int32) (xM_people : Int32) (xM_posted : Int32) (xM_hears : Int32) (xM_censuses : Int32) (xM_finding : Int32) (gMtext : Nat → Int32) (gMkinds : Nat → Int32) (gMlates : Nat → Int32) (gMscarfs : Nat → Int32) (gMhands : Nat → Int32) (gMrings : Nat → Int32) (gMmains : Nat → Int32) (gMaheadOf : Nat → Int32) (gMlastIn : Nat → Int32) (gMmanyIn : Nat → Int32) (gMsetting : Nat → Int32) (gMcomes : Nat → Int32) (gMbusyTo : Nat → Int32) (gMfeltMany : Nat → Int32) (gMfeltBits : Nat → Int32) (gMlostBits : Nat → Int32) (u : Int32 × Int32 × (Nat → Int32) × (Nat → Int32) × (Nat → Int32) × (Nat → Int32) × (Nat → Int32) × (Nat → Int32) × (Nat → Int32) × (Nat → Int32) × (Nat → Int32) × (Nat → Int32) × (Nat → Int32) × (Nat → Int32) × (Nat → Int32) × (Nat → Int32)) (hm : fM_many a1 a2 xM_typed xM_people gMtext gMkinds gMlates gMscarfs gMhands gMrings gMmains gMaheadOf gMlastIn gMmanyIn gMsetting gMcomes gMbusyTo gMfeltMany gMfeltBits gMlostBits = some u) : Met l yX10_many wsX10_many ({ frames := 6, cells := 0, slots := 0, locals := 146 }) (va_Pc [.ref (ad 0), .int a1, .int a2] (fun U => U.heap.size = sz ∧ va_P (dC, dI) vwCl [oM ad xM_typed xM_people xM_posted xM_hears xM_censuses xM_finding, ar (ad 1) cA 60 gMtext, ar (ad 2) cA 20 gMkinds, ar (ad 3) cA 20 gMlates, ar (ad 4) cA 20 gMscarfs, ar (ad 5) cA 20 gMhands, ar (ad 6) cA 20 gMrings, ar (ad 7) cA 20 gMmains, ar (ad 8) cA 4 gMaheadOf, ar (ad 9) cA 4 gMlastIn, ar (ad 10) cA 4 gMmanyIn, ar (ad 11) cA 3 gMsetting, ar (ad 13) cA 8020 gMcomes, ar (ad 14) cA 20 gMbusyTo, ar (ad 15) cA 20 gMfeltMany, ar (ad 16) cA 8020 gMfeltBits, ar (ad 17) cA 8020 gMlostBits] U.heap ∧ va_K (dC, dI) vwCl [(cA, .int), (cB, .boolean)] U ∧ va_D (fun _ => True) [oM ad xM_typed xM_people xM_posted xM_hears xM_censuses xM_finding, ar (ad 1) cA 60 gMtext, ar (ad 2) cA 20 gMkinds, ar (ad 3) cA 20 gMlates, ar (ad 4) cA 20 gMscarfs, ar (ad 5) cA 20 gMhands, ar (ad 6) cA 20 gMrings, ar (ad 7) cA 20 gMmains, ar (ad 8) cA 4 gMaheadOf, ar (ad 9) cA 4 gMlastIn, ar (ad 10) cA 4 gMmanyIn, ar (ad 11) cA 3 gMsetting, ar (ad 13) cA 8020 gMcomes, ar (ad 14) cA 20 gMbusyTo, ar (ad 15) cA 20 gMfeltMany, ar (ad 16) cA 8020 gMfeltBits, ar (ad 17) cA 8020 gMlostBits])) (va_Qi (fun (r : Int32) (_ : Unit) => r = u.1) (fun (_ : Unit) t => va_P (dC, dI) vwCl [oM ad xM_typed u.2.1 xM_posted xM_hears xM_censuses xM_finding, ar (ad 1) cA 60 gMtext, ar (ad 2) cA 20 u.2.2.1, ar (ad 3) cA 20 u.2.2.2.1, ar (ad 4) cA 20 u.2.2.2.2.1, ar (ad 5) cA 20 u.2.2.2.2.2.1, ar (ad 6) cA 20 u.2.2.2.2.2.2.1, ar (ad 7) cA 20 u.2.2.2.2.2.2.2.1, ar (ad 8) cA 4 u.2.2.2.2.2.2.2.2.1, ar (ad 9) cA 4 u.2.2.2.2.2.2.2.2.2.1, ar (ad 10) cA 4 u.2.2.2.2.2.2.2.2.2.2.1, ar (ad 11) cA 3 gMsetting, ar (ad 13) cA 8020 u.2.2.2.2.2.2.2.2.2.2.2.1, ar (ad 14) cA 20 u.2.2.2.2.2.2.2.2.2.2.2.2.1, ar (ad 15) cA 20 u.2.2.2.2.2.2.2.2.2.2.2.2.2.1, ar (ad 16) cA 8020 u.2.2.2.2.2.2.2.2.2.2.2.2.2.2.1, ar (ad 17) cA 8020 u.2.2.2.2.2.2.2.2.2.2.2.2.2.2.2] t.heap ∧ va_K (dC, dI) vwCl [(cA, .int), (cB, .boolean)] t ∧ va_D (va_A [oM ad xM_typed xM_people xM_posted xM_hears xM_censuses xM_finding, ar (ad 1) cA 60 gMtext, ar (ad 2) cA 20 gMkinds, ar (ad 3) cA 20 gMlates, ar (ad 4) cA 20 gMscarfs, ar (ad 5) cA 20 gMhands, ar (ad 6) cA 20 gMrings, ar (ad 7) cA 20 gMmains, ar (ad 8) cA 4 gMaheadOf, ar (ad 9) cA 4 gMlastIn, ar (ad 10) cA 4 gMmanyIn, ar (ad 11) cA 3 gMsetting, ar (ad 13) cA 8020 gMcomes, ar (ad 14) cA 20 gMbusyTo, ar (ad 15) cA 20 gMfeltMany, ar (ad 16) cA 8020 gMfeltBits, ar (ad 17) cA 8020 gMlostBits] sz) [oM ad xM_typed u.2.1 xM_posted xM_hears xM_censuses xM_finding, ar (ad 1) cA 60 gMtext, ar (ad 2) cA 20 u.2.2.1, ar (ad 3) cA 20 u.2.2.2.1, ar (ad 4) cA 20 u.2.2.2.2.1, ar (ad 5) cA 20 u.2.2.2.2.2.1, ar (ad 6) cA 20 u.2.2.2.2.2.2.1, ar (ad 7) cA 20 u.2.2.2.2.2.2.2.1, ar (ad 8) cA 4 u.2.2.2.2.2.2.2.2.1, ar (ad 9) cA 4 u.2.2.2.2.2.2.2.2.2.1, ar (ad 10) cA 4 u.2.2.2.2.2.2.2.2.2.2.1, ar (ad 11) cA 3 gMsetting, ar (ad 13) cA 8020 u.2.2.2.2.2.2.2.2.2.2.2.1, ar (ad 14) cA 20 u.2.2.2.2.2.2.2.2.2.2.2.2.1, ar (ad 15) cA 20 u.2.2.2.2.2.2.2.2.2.2.2.2.2.1, ar (ad 16) cA 8020 u.2.2.2.2.2.2.2.2.2.2.2.2.2.2.1, ar (ad 17) cA 8020 u.2.2.2.2.2.2.2.2.2.2.2.2.2.2.2]) (va_A [oM ad xM_typed xM_people xM_posted xM_hears xM_censuses xM_finding, ar (ad 1) cA 60 gMtext, ar (ad 2) cA 20 gMkinds, ar (ad 3) cA 20 gMlates, ar (ad 4) cA 20 gMscarfs, ar (ad 5) cA 20 gMhands, ar (ad 6) cA 20 gMrings, ar (ad 7) cA 20 gMmains, ar (ad 8) cA 4 gMaheadOf, ar (ad 9) cA 4 gMlastIn, ar (ad 10) cA 4 gMmanyIn, ar (ad 11) cA 3 gMsetting, ar (ad 13) cA 8020 gMcomes, ar (ad 14) cA 20 gMbusyTo, ar (ad 15) cA 20 gMfeltMany, ar (ad 16) cA 8020 gMfeltBits, ar (ad 17) cA 8020 gMlostBits] sz)) 0 0 (va_A [oM ad xM_typed xM_people xM_posted xM_hears xM_censuses xM_finding, ar (ad 1) cA 60 gMtext, ar (ad 2) cA 20 gMkinds, ar (ad 3) cA 20 gMlates, ar (ad 4) cA 20 gMscarfs, ar (ad 5) cA 20 gMhands, ar (ad 6) cA 20 gMrings, ar (ad 7) cA 20 gMmains, ar (ad 8) cA 4 gMaheadOf, ar (ad 9) cA 4 gMlastIn, ar (ad 10) cA 4 gMmanyIn, ar (ad 11) cA 3 gMsetting, ar (ad 13) cA 8020 gMcomes, ar (ad 14) cA 20 gMbusyTo, ar (ad 15) cA 20 gMfeltMany, ar (ad 16) cA 8020 gMfeltBits, ar (ad 17) cA 8020 gMlostBits] sz) := by
  refine Met.ofW (cc := cX10_many) (maxL := 3) (ret := (some .int)) (by decide) rfl ?_
  intro p e s m args below meth c s₁ B hml hv
  obtain ⟨rfl, hsz, hP, hK, hD0⟩ := hv
  have hx := B.exec
  have hb := B.bytes
  have hr := B.returns
  have hts := atoms_spec (ws := wsX10_many) B.pre
  have hown : s.vm.findClass RX10 = some m.cls := findClass_of_methodNamed B.named
  have hlocks := B.notSynchronized
  subst hsz
  have hD := hD0.self (sz := s.heap.size)
  generalize hAe : va_A [oM ad xM_typed xM_people xM_posted xM_hears xM_censuses xM_finding, ar (ad 1) cA 60 gMtext, ar (ad 2) cA 20 gMkinds, ar (ad 3) cA 20 gMlates, ar (ad 4) cA 20 gMscarfs, ar (ad 5) cA 20 gMhands, ar (ad 6) cA 20 gMrings, ar (ad 7) cA 20 gMmains, ar (ad 8) cA 4 gMaheadOf, ar (ad 9) cA 4 gMlastIn, ar (ad 10) cA 4 gMmanyIn, ar (ad 11) cA 3 gMsetting, ar (ad 13) cA 8020 gMcomes, ar (ad 14) cA 20 gMbusyTo, ar (ad 15) cA 20 gMfeltMany, ar (ad 16) cA 8020 gMfeltBits, ar (ad 17) cA 8020 gMlostBits] s.heap.size = A at hD ⊢
  have hA : ∀ q : Nat, s.heap.size ≤ q → A q := fun q h => by rw [← hAe]; exact Or.inr h
  have hS : va_S A s.heap s.heap [] := va_S.rf
  have hl := lv_entry ([.ref (ad 0), .int a1, .int a2]) (n := 3) (Nat.le_of_ble_eq_true rfl)
  rw [lg_entry_eq]
  generalize (lg_sl ([.ref (ad 0), .int a1, .int a2]) ++ List.replicate (3 - (lg_sl ([.ref (ad 0), .int a1, .int a2])).length) Slot.unset).toArray = ls at hl ⊢
  have hl : lv_has ls 3 [(0, .ref (ad 0)), (1, .int a1), (2, .int a2)] := hl
  refine wk_Q (fun QQ hQ => ?_)
  unfold fM_many at hm
  refine lv_aload_n hx hb dX10_many_0 rfl (lv_at hl 0 rfl) ?_
  refine lv_iload_n hx hb dX10_many_1 rfl (lv_at hl 1 rfl) ?_
  have hPc := hP.sub (ws' := [oM ad xM_typed xM_people xM_posted xM_hears xM_censuses xM_finding, ar (ad 1) cA 60 gMtext, ar (ad 2) cA 20 gMkinds, ar (ad 3) cA 20 gMlates, ar (ad 4) cA 20 gMscarfs, ar (ad 5) cA 20 gMhands, ar (ad 6) cA 20 gMrings, ar (ad 7) cA 20 gMmains, ar (ad 8) cA 4 gMaheadOf, ar (ad 9) cA 4 gMlastIn, ar (ad 10) cA 4 gMmanyIn]) [0, 1, 2, 3, 4, 5, 6, 7, 8, 9, 10] rfl
  have hDc := hD.sub (ws' := [oM ad xM_typed xM_people xM_posted xM_hears xM_censuses xM_finding, ar (ad 1) cA 60 gMtext, ar (ad 2) cA 20 gMkinds, ar (ad 3) cA 20 gMlates, ar (ad 4) cA 20 gMscarfs, ar (ad 5) cA 20 gMhands, ar (ad 6) cA 20 gMrings, ar (ad 7) cA 20 gMmains, ar (ad 8) cA 4 gMaheadOf, ar (ad 9) cA 4 gMlastIn, ar (ad 10) cA 4 gMmanyIn]) [0, 1, 2, 3, 4, 5, 6, 7, 8, 9, 10] (by decide) rfl
  have hFc := va_free (wc := [oM ad xM_typed xM_people xM_posted xM_hears xM_censuses xM_finding, ar (ad 1) cA 60 gMtext, ar (ad 2) cA 20 gMkinds, ar (ad 3) cA 20 gMlates, ar (ad 4) cA 20 gMscarfs, ar (ad 5) cA 20 gMhands, ar (ad 6) cA 20 gMrings, ar (ad 7) cA 20 gMmains, ar (ad 8) cA 4 gMaheadOf, ar (ad 9) cA 4 gMlastIn, ar (ad 10) cA 4 gMmanyIn]) hD hS hA [0, 1, 2, 3, 4, 5, 6, 7, 8, 9, 10] rfl
  obtain ⟨u_1, hc_1, hm⟩ := bd_ok hm
  refine va_calli (va_runV (As := [.int a1]) (rest := []) ⟨hx, hb, hml, hown, hts⟩ (kM_isPerson l dC dI cA cB ad s.heap.size a1 xM_typed xM_people xM_posted xM_hears xM_censuses xM_finding gMtext gMkinds gMlates gMscarfs gMhands gMrings gMmains gMaheadOf gMlastIn gMmanyIn u_1 hc_1) (cwV 1 hts gX10_many_X10_isPerson rfl rfl rfl (by decide +kernel) ⟨Nat.le_of_ble_eq_true rfl, Nat.le_of_ble_eq_true rfl⟩) ⟨fun a U g mk q => by obtain ⟨q0, q1, qP, qK, qD⟩ := q; exact ⟨q0, q1, qP, va_K.moved (u := U) (U := U.calling g mk a) (Vm.Alike.refl U.vm) qK, qD⟩, va_recv hK hPc (ci := 10) (q0 := 0) rfl rfl, fun U hU hW => ⟨rfl, by rw [hU], by rw [hU]; exact hPc, va_K.moved hW.alike hK, hDc.weaken (fun _ _ _ _ => trivial)⟩⟩ rfl rfl hl.1 rfl (lv_room (Nat.le_of_ble_eq_true rfl)) dX10_many_2 ⟨Nat.le_of_ble_eq_true rfl, Nat.le_of_ble_eq_true rfl⟩) hS (fun q _ h => hFc q h) hFc (fun r_1 _ t H1 locs ht hvm hw hB hz1 hk1 hS => ?_)
  obtain ⟨hP1, hK1, hD1⟩ := hB
  rw [ht] at hP1
  obtain ⟨hP, hD⟩ := va_join (wr := [ar (ad 11) cA 3 gMsetting, ar (ad 13) cA 8020 gMcomes, ar (ad 14) cA 20 gMbusyTo, ar (ad 15) cA 20 gMfeltMany, ar (ad 16) cA 8020 gMfeltBits, ar (ad 17) cA 8020 gMlostBits]) (w1 := [oM ad xM_typed u_1.2.1 xM_posted xM_hears xM_censuses xM_finding, ar (ad 1) cA 60 gMtext, ar (ad 2) cA 20 u_1.2.2.1, ar (ad 3) cA 20 u_1.2.2.2.1, ar (ad 4) cA 20 u_1.2.2.2.2.1, ar (ad 5) cA 20 u_1.2.2.2.2.2.1, ar (ad 6) cA 20 u_1.2.2.2.2.2.2.1, ar (ad 7) cA 20 u_1.2.2.2.2.2.2.2.1, ar (ad 8) cA 4 u_1.2.2.2.2.2.2.2.2.1, ar (ad 9) cA 4 u_1.2.2.2.2.2.2.2.2.2.1, ar (ad 10) cA 4 u_1.2.2.2.2.2.2.2.2.2.2]) hP hD [0, 1, 2, 3, 4, 5, 6, 7, 8, 9, 10] [11, 12, 13, 14, 15, 16] rfl rfl (by decide) (by decide) hk1 hFc hP1 hD1
  clear hPc hDc hFc hP1 hK1 hD1 hk1 hz1 hvm ht
  generalize H1 = H at hP hS ⊢
  have hP : va_P (dC, dI) vwCl [oM ad xM_typed u_1.2.1 xM_posted xM_hears xM_censuses xM_finding, ar (ad 1) cA 60 gMtext, ar (ad 2) cA 20 u_1.2.2.1, ar (ad 3) cA 20 u_1.2.2.2.1, ar (ad 4) cA 20 u_1.2.2.2.2.1, ar (ad 5) cA 20 u_1.2.2.2.2.2.1, ar (ad 6) cA 20 u_1.2.2.2.2.2.2.1, ar (ad 7) cA 20 u_1.2.2.2.2.2.2.2.1, ar (ad 8) cA 4 u_1.2.2.2.2.2.2.2.2.1, ar (ad 9) cA 4 u_1.2.2.2.2.2.2.2.2.2.1, ar (ad 10) cA 4 u_1.2.2.2.2.2.2.2.2.2.2, ar (ad 11) cA 3 gMsetting, ar (ad 13) cA 8020 gMcomes, ar (ad 14) cA 20 gMbusyTo, ar (ad 15) cA 20 gMfeltMany, ar (ad 16) cA 8020 gMfeltBits, ar (ad 17) cA 8020 gMlostBits] H := hP.sub [6, 7, 8, 9, 10, 11, 12, 13, 14, 15, 16, 0, 1, 2, 3, 4, 5] rfl
  have hD : va_D A [oM ad xM_typed u_1.2.1 xM_posted xM_hears xM_censuses xM_finding, ar (ad 1) cA 60 gMtext, ar (ad 2) cA 20 u_1.2.2.1, ar (ad 3) cA 20 u_1.2.2.2.1, ar (ad 4) cA 20 u_1.2.2.2.2.1, ar (ad 5) cA 20 u_1.2.2.2.2.2.1, ar (ad 6) cA 20 u_1.2.2.2.2.2.2.1, ar (ad 7) cA 20 u_1.2.2.2.2.2.2.2.1, ar (ad 8) cA 4 u_1.2.2.2.2.2.2.2.2.1, ar (ad 9) cA 4 u_1.2.2.2.2.2.2.2.2.2.1, ar (ad 10) cA 4 u_1.2.2.2.2.2.2.2.2.2.2, ar (ad 11) cA 3 gMsetting, ar (ad 13) cA 8020 gMcomes, ar (ad 14) cA 20 gMbusyTo, ar (ad 15) cA 20 gMfeltMany, ar (ad 16) cA 8020 gMfeltBits, ar (ad 17) cA 8020 gMlostBits] := hD.sub [6, 7, 8, 9, 10, 11, 12, 13, 14, 15, 16, 0, 1, 2, 3, 4, 5] (by decide) rfl
  have hw := hw.symm
  subst hw
  refine lv_if_eq (tgt := 24) hx hb dX10_many_5 (by decide) (fun c_2 => ?_) (fun c_2 => ?_)
  · have hm := it_pos c_2 hm
    refine lv_bipush (v := (-2)) hx hb dX10_many_24 (by decide) ?_
    obtain rfl := Option.some.inj hm
    subst hQ
    exact W.iret (v := (-2)) hx hb hr (fun t ht hW => ⟨⟨_, (), rfl, rfl, by rw [ht]; exact hP, va_K.moved hW.alike hK, hAe ▸ hD⟩, hS.F ht⟩) hS.2.2 dX10_many_26
  · have hm := it_neg c_2 hm
    refine lv_iload_n hx hb dX10_many_8 rfl (lv_at hl 2 rfl) ?_
    have hPc := hP.sub (ws' := []) [] rfl
    have hDc := hD.sub (ws' := []) [] (by decide) rfl
    have hFc := va_free (wc := []) hD hS hA [] rfl
    obtain ⟨u_3, hc_3, hm⟩ := bd_ok hm
    refine va_calli (va_runS (As := [.int a2]) (rest := []) ⟨hx, hb, hml, hown, hts⟩ (kM_isTime l dC dI cA cB ad H.size a2 u_3 hc_3) (va_cwS 1 hts gX10_many_X10_isTime rfl rfl rfl (by decide +kernel) ⟨Nat.le_of_ble_eq_true rfl, Nat.le_of_ble_eq_true rfl⟩) ⟨fun a U g mk q => by obtain ⟨q0, q1, qP, qK, qD⟩ := q; exact ⟨q0, q1, qP, va_K.moved (u := U) (U := U.calling g mk a) (Vm.Alike.refl U.vm) qK, qD⟩, fun U hU hW => ⟨rfl, by rw [hU], by rw [hU]; exact hPc, va_K.moved hW.alike hK, hDc.weaken (fun _ _ _ _ => trivial)⟩⟩ rfl rfl hl.1 rfl (lv_room (Nat.le_of_ble_eq_true rfl)) dX10_many_9 ⟨Nat.le_of_ble_eq_true rfl, Nat.le_of_ble_eq_true rfl⟩) hS (fun q _ h => hFc q h) hFc (fun r_3 _ t H1 locs ht hvm hw hB hz1 hk1 hS => ?_)
    obtain ⟨hP1, hK1, hD1⟩ := hB
    rw [ht] at hP1
    obtain ⟨hP, hD⟩ := va_join (wr := [oM ad xM_typed u_1.2.1 xM_posted xM_hears xM_censuses xM_finding, ar (ad 1) cA 60 gMtext, ar (ad 2) cA 20 u_1.2.2.1, ar (ad 3) cA 20 u_1.2.2.2.1, ar (ad 4) cA 20 u_1.2.2.2.2.1, ar (ad 5) cA 20 u_1.2.2.2.2.2.1, ar (ad 6) cA 20 u_1.2.2.2.2.2.2.1, ar (ad 7) cA 20 u_1.2.2.2.2.2.2.2.1, ar (ad 8) cA 4 u_1.2.2.2.2.2.2.2.2.1, ar (ad 9) cA 4 u_1.2.2.2.2.2.2.2.2.2.1, ar (ad 10) cA 4 u_1.2.2.2.2.2.2.2.2.2.2, ar (ad 11) cA 3 gMsetting, ar (ad 13) cA 8020 gMcomes, ar (ad 14) cA 20 gMbusyTo, ar (ad 15) cA 20 gMfeltMany, ar (ad 16) cA 8020 gMfeltBits, ar (ad 17) cA 8020 gMlostBits]) (w1 := []) hP hD [] [0, 1, 2, 3, 4, 5, 6, 7, 8, 9, 10, 11, 12, 13, 14, 15, 16] rfl rfl (by decide) (by decide) hk1 hFc hP1 hD1
    clear hPc hDc hFc hP1 hK1 hD1 hk1 hz1 hvm ht
    generalize H1 = H at hP hS ⊢
    have hP : va_P (dC, dI) vwCl [oM ad xM_typed u_1.2.1 xM_posted xM_hears xM_censuses xM_finding, ar (ad 1) cA 60 gMtext, ar (ad 2) cA 20 u_1.2.2.1, ar (ad 3) cA 20 u_1.2.2.2.1, ar (ad 4) cA 20 u_1.2.2.2.2.1, ar (ad 5) cA 20 u_1.2.2.2.2.2.1, ar (ad 6) cA 20 u_1.2.2.2.2.2.2.1, ar (ad 7) cA 20 u_1.2.2.2.2.2.2.2.1, ar (ad 8) cA 4 u_1.2.2.2.2.2.2.2.2.1, ar (ad 9) cA 4 u_1.2.2.2.2.2.2.2.2.2.1, ar (ad 10) cA 4 u_1.2.2.2.2.2.2.2.2.2.2, ar (ad 11) cA 3 gMsetting, ar (ad 13) cA 8020 gMcomes, ar (ad 14) cA 20 gMbusyTo, ar (ad 15) cA 20 gMfeltMany, ar (ad 16) cA 8020 gMfeltBits, ar (ad 17) cA 8020 gMlostBits] H := hP
    have hD : va_D A [oM ad xM_typed u_1.2.1 xM_posted xM_hears xM_censuses xM_finding, ar (ad 1) cA 60 gMtext, ar (ad 2) cA 20 u_1.2.2.1, ar (ad 3) cA 20 u_1.2.2.2.1, ar (ad 4) cA 20 u_1.2.2.2.2.1, ar (ad 5) cA 20 u_1.2.2.2.2.2.1, ar (ad 6) cA 20 u_1.2.2.2.2.2.2.1, ar (ad 7) cA 20 u_1.2.2.2.2.2.2.2.1, ar (ad 8) cA 4 u_1.2.2.2.2.2.2.2.2.1, ar (ad 9) cA 4 u_1.2.2.2.2.2.2.2.2.2.1, ar (ad 10) cA 4 u_1.2.2.2.2.2.2.2.2.2.2, ar (ad 11) cA 3 gMsetting, ar (ad 13) cA 8020 gMcomes, ar (ad 14) cA 20 gMbusyTo, ar (ad 15) cA 20 gMfeltMany, ar (ad 16) cA 8020 gMfeltBits, ar (ad 17) cA 8020 gMlostBits] := hD
    have hw := hw.symm
    subst hw
    refine lv_if_eq (tgt := 24) hx hb dX10_many_12 (by decide) (fun c_4 => ?_) (fun c_4 => ?_)
    · have hm := it_pos c_4 hm
      refine lv_bipush (v := (-2)) hx hb dX10_many_24 (by decide) ?_
      obtain rfl := Option.some.inj hm
      subst hQ
      exact W.iret (v := (-2)) hx hb hr (fun t ht hW => ⟨⟨_, (), rfl, rfl, by rw [ht]; exact hP, va_K.moved hW.alike hK, hAe ▸ hD⟩, hS.F ht⟩) hS.2.2 dX10_many_26
    · have hm := it_neg c_4 hm
      refine lv_aload_n hx hb dX10_many_15 rfl (lv_at hl 0 rfl) ?_
      refine lv_iload_n hx hb dX10_many_16 rfl (lv_at hl 1 rfl) ?_
      refine lv_iload_n hx hb dX10_many_17 rfl (lv_at hl 2 rfl) ?_
      have hPc := hP.sub (ws' := [oM ad xM_typed u_1.2.1 xM_posted xM_hears xM_censuses xM_finding, ar (ad 1) cA 60 gMtext, ar (ad 2) cA 20 u_1.2.2.1, ar (ad 3) cA 20 u_1.2.2.2.1, ar (ad 4) cA 20 u_1.2.2.2.2.1, ar (ad 5) cA 20 u_1.2.2.2.2.2.1, ar (ad 6) cA 20 u_1.2.2.2.2.2.2.1, ar (ad 7) cA 20 u_1.2.2.2.2.2.2.2.1, ar (ad 8) cA 4 u_1.2.2.2.2.2.2.2.2.1, ar (ad 9) cA 4 u_1.2.2.2.2.2.2.2.2.2.1, ar (ad 10) cA 4 u_1.2.2.2.2.2.2.2.2.2.2, ar (ad 11) cA 3 gMsetting, ar (ad 13) cA 8020 gMcomes, ar (ad 14) cA 20 gMbusyTo, ar (ad 15) cA 20 gMfeltMany, ar (ad 16) cA 8020 gMfeltBits, ar (ad 17) cA 8020 gMlostBits]) [0, 1, 2, 3, 4, 5, 6, 7, 8, 9, 10, 11, 12, 13, 14, 15, 16] rfl
      have hDc := hD.sub (ws' := [oM ad xM_typed u_1.2.1 xM_posted xM_hears xM_censuses xM_finding, ar (ad 1) cA 60 gMtext, ar (ad 2) cA 20 u_1.2.2.1, ar (ad 3) cA 20 u_1.2.2.2.1, ar (ad 4) cA 20 u_1.2.2.2.2.1, ar (ad 5) cA 20 u_1.2.2.2.2.2.1, ar (ad 6) cA 20 u_1.2.2.2.2.2.2.1, ar (ad 7) cA 20 u_1.2.2.2.2.2.2.2.1, ar (ad 8) cA 4 u_1.2.2.2.2.2.2.2.2.1, ar (ad 9) cA 4 u_1.2.2.2.2.2.2.2.2.2.1, ar (ad 10) cA 4 u_1.2.2.2.2.2.2.2.2.2.2, ar (ad 11) cA 3 gMsetting, ar (ad 13) cA 8020 gMcomes, ar (ad 14) cA 20 gMbusyTo, ar (ad 15) cA 20 gMfeltMany, ar (ad 16) cA 8020 gMfeltBits, ar (ad 17) cA 8020 gMlostBits]) [0, 1, 2, 3, 4, 5, 6, 7, 8, 9, 10, 11, 12, 13, 14, 15, 16] (by decide) rfl
      have hFc := va_free (wc := [oM ad xM_typed u_1.2.1 xM_posted xM_hears xM_censuses xM_finding, ar (ad 1) cA 60 gMtext, ar (ad 2) cA 20 u_1.2.2.1, ar (ad 3) cA 20 u_1.2.2.2.1, ar (ad 4) cA 20 u_1.2.2.2.2.1, ar (ad 5) cA 20 u_1.2.2.2.2.2.1, ar (ad 6) cA 20 u_1.2.2.2.2.2.2.1, ar (ad 7) cA 20 u_1.2.2.2.2.2.2.2.1, ar (ad 8) cA 4 u_1.2.2.2.2.2.2.2.2.1, ar (ad 9) cA 4 u_1.2.2.2.2.2.2.2.2.2.1, ar (ad 10) cA 4 u_1.2.2.2.2.2.2.2.2.2.2, ar (ad 11) cA 3 gMsetting, ar (ad 13) cA 8020 gMcomes, ar (ad 14) cA 20 gMbusyTo, ar (ad 15) cA 20 gMfeltMany, ar (ad 16) cA 8020 gMfeltBits, ar (ad 17) cA 8020 gMlostBits]) hD hS hA [0, 1, 2, 3, 4, 5, 6, 7, 8, 9, 10, 11, 12, 13, 14, 15, 16] rfl
      obtain ⟨u_5, hc_5, hm⟩ := bd_ok hm
      refine va_calli (va_runV (As := [.int a1, .int a2]) (rest := []) ⟨hx, hb, hml, hown, hts⟩ (kM_manyOf l dC dI cA cB ad H.size a1 a2 xM_typed u_1.2.1 xM_posted xM_hears xM_censuses xM_finding gMtext u_1.2.2.1 u_1.2.2.2.1 u_1.2.2.2.2.1 u_1.2.2.2.2.2.1 u_1.2.2.2.2.2.2.1 u_1.2.2.2.2.2.2.2.1 u_1.2.2.2.2.2.2.2.2.1 u_1.2.2.2.2.2.2.2.2.2.1 u_1.2.2.2.2.2.2.2.2.2.2 gMsetting gMcomes gMbusyTo gMfeltMany gMfeltBits gMlostBits u_5 hc_5) (cwV 2 hts gX10_many_X10_manyOf rfl rfl rfl (by decide +kernel) ⟨Nat.le_of_ble_eq_true rfl, Nat.le_of_ble_eq_true rfl⟩) ⟨fun a U g mk q => by obtain ⟨q0, q1, qP, qK, qD⟩ := q; exact ⟨q0, q1, qP, va_K.moved (u := U) (U := U.calling g mk a) (Vm.Alike.refl U.vm) qK, qD⟩, va_recv hK hPc (ci := 10) (q0 := 0) rfl rfl, fun U hU hW => ⟨rfl, by rw [hU], by rw [hU]; exact hPc, va_K.moved hW.alike hK, hDc.weaken (fun _ _ _ _ => trivial)⟩⟩ rfl rfl hl.1 rfl (lv_room (Nat.le_of_ble_eq_true rfl)) dX10_many_18 ⟨Nat.le_of_ble_eq_true rfl, Nat.le_of_ble_eq_true rfl⟩) hS (fun q _ h => hFc q h) hFc (fun r_5 _ t H1 locs ht hvm hw hB hz1 hk1 hS => ?_)
      obtain ⟨hP1, hK1, hD1⟩ := hB
      rw [ht] at hP1
      obtain ⟨hP, hD⟩ := va_join (wr := []) (w1 := [oM ad xM_typed u_5.2.1 xM_posted xM_hears xM_censuses xM_finding, ar (ad 1) cA 60 gMtext, ar (ad 2) cA 20 u_5.2.2.1, ar (ad 3) cA 20 u_5.2.2.2.1, ar (ad 4) cA 20 u_5.2.2.2.2.1, ar (ad 5) cA 20 u_5.2.2.2.2.2.1, ar (ad 6) cA 20 u_5.2.2.2.2.2.2.1, ar (ad 7) cA 20 u_5.2.2.2.2.2.2.2.1, ar (ad 8) cA 4 u_5.2.2.2.2.2.2.2.2.1, ar (ad 9) cA 4 u_5.2.2.2.2.2.2.2.2.2.1, ar (ad 10) cA 4 u_5.2.2.2.2.2.2.2.2.2.2.1, ar (ad 11) cA 3 gMsetting, ar (ad 13) cA 8020 u_5.2.2.2.2.2.2.2.2.2.2.2.1, ar (ad 14) cA 20 u_5.2.2.2.2.2.2.2.2.2.2.2.2.1, ar (ad 15) cA 20 u_5.2.2.2.2.2.2.2.2.2.2.2.2.2.1, ar (ad 16) cA 8020 u_5.2.2.2.2.2.2.2.2.2.2.2.2.2.2.1, ar (ad 17) cA 8020 u_5.2.2.2.2.2.2.2.2.2.2.2.2.2.2.2]) hP hD [0, 1, 2, 3, 4, 5, 6, 7, 8, 9, 10, 11, 12, 13, 14, 15, 16] [] rfl rfl (by decide) (by decide) hk1 hFc hP1 hD1
      clear hPc hDc hFc hP1 hK1 hD1 hk1 hz1 hvm ht
      generalize H1 = H at hP hS ⊢
      have hP : va_P (dC, dI) vwCl [oM ad xM_typed u_5.2.1 xM_posted xM_hears xM_censuses xM_finding, ar (ad 1) cA 60 gMtext, ar (ad 2) cA 20 u_5.2.2.1, ar (ad 3) cA 20 u_5.2.2.2.1, ar (ad 4) cA 20 u_5.2.2.2.2.1, ar (ad 5) cA 20 u_5.2.2.2.2.2.1, ar (ad 6) cA 20 u_5.2.2.2.2.2.2.1, ar (ad 7) cA 20 u_5.2.2.2.2.2.2.2.1, ar (ad 8) cA 4 u_5.2.2.2.2.2.2.2.2.1, ar (ad 9) cA 4 u_5.2.2.2.2.2.2.2.2.2.1, ar (ad 10) cA 4 u_5.2.2.2.2.2.2.2.2.2.2.1, ar (ad 11) cA 3 gMsetting, ar (ad 13) cA 8020 u_5.2.2.2.2.2.2.2.2.2.2.2.1, ar (ad 14) cA 20 u_5.2.2.2.2.2.2.2.2.2.2.2.2.1, ar (ad 15) cA 20 u_5.2.2.2.2.2.2.2.2.2.2.2.2.2.1, ar (ad 16) cA 8020 u_5.2.2.2.2.2.2.2.2.2.2.2.2.2.2.1, ar (ad 17) cA 8020 u_5.2.2.2.2.2.2.2.2.2.2.2.2.2.2.2] H := hP
      have hD : va_D A [oM ad xM_typed u_5.2.1 xM_posted xM_hears xM_censuses xM_finding, ar (ad 1) cA 60 gMtext, ar (ad 2) cA 20 u_5.2.2.1, ar (ad 3) cA 20 u_5.2.2.2.1, ar (ad 4) cA 20 u_5.2.2.2.2.1, ar (ad 5) cA 20 u_5.2.2.2.2.2.1, ar (ad 6) cA 20 u_5.2.2.2.2.2.2.1, ar (ad 7) cA 20 u_5.2.2.2.2.2.2.2.1, ar (ad 8) cA 4 u_5.2.2.2.2.2.2.2.2.1, ar (ad 9) cA 4 u_5.2.2.2.2.2.2.2.2.2.1, ar (ad 10) cA 4 u_5.2.2.2.2.2.2.2.2.2.2.1, ar (ad 11) cA 3 gMsetting, ar (ad 13) cA 8020 u_5.2.2.2.2.2.2.2.2.2.2.2.1, ar (ad 14) cA 20 u_5.2.2.2.2.2.2.2.2.2.2.2.2.1, ar (ad 15) cA 20 u_5.2.2.2.2.2.2.2.2.2.2.2.2.2.1, ar (ad 16) cA 8020 u_5.2.2.2.2.2.2.2.2.2.2.2.2.2.2.1, ar (ad 17) cA 8020 u_5.2.2.2.2.2.2.2.2.2.2.2.2.2.2.2] := hD
      have hw := hw.symm
      subst hw
      refine lv_goto (tgt := 26) hx hb dX10_many_21 (by decide) ?_
      obtain rfl := Option.some.inj hm
      subst hQ
      exact W.iret (v := u_5.1) hx hb hr (fun t ht hW => ⟨⟨_, (), rfl, rfl, by rw [ht]; exact hP, va_K.moved hW.alike hK, hAe ▸ hD⟩, hS.F ht⟩) hS.2.2 dX10_many_26

set_option maxHeartbeats 4000000 in
set_option maxRecDepth 100000 in
theorem kM_lostBy (l : Launch) (dC : Nat → ClassId) (dI : Nat → Nat → Nat) (cA : ClassId) (cB : ClassId) (ad : Nat → Nat) (sz : Nat) (a1 : Int32) (a2 : Int32) (xM_typed : Int32) (xM_people : Int32) (xM_posted : Int32) (xM_hears : Int32) (xM_censuses : Int32) (xM_finding : Int32) (gMlostBits : Nat → Int32) (u : Int32) (hm : fM_lostBy a1 a2 gMlostBits = some u) : Met l yX10_lostBy wsX10_lostBy ({ frames := 1, cells := 0, slots := 0, locals := 22 }) (va_Pc [.ref (ad 0), .int a1, .int a2] (fun U => U.heap.size = sz ∧ va_P (dC, dI) vwCl [oM ad xM_typed xM_people xM_posted xM_hears xM_censuses xM_finding, ar (ad 17) cA 8020 gMlostBits] U.heap ∧ va_K (dC, dI) vwCl [(cA, .int), (cB, .boolean)] U ∧ va_D (fun _ => True) [oM ad xM_typed xM_people xM_posted xM_hears xM_censuses xM_finding, ar (ad 17) cA 8020 gMlostBits])) (va_Qi (fun (r : Int32) (_ : Unit) => r = u) (fun (_ : Unit) t => va_P (dC, dI) vwCl [oM ad xM_typed xM_people xM_posted xM_hears xM_censuses xM_finding, ar (ad 17) cA 8020 gMlostBits] t.heap ∧ va_K (dC, dI) vwCl [(cA, .int), (cB, .boolean)] t ∧ va_D (va_A [oM ad xM_typed xM_people xM_posted xM_hears xM_censuses xM_finding, ar (ad 17) cA 8020 gMlostBits] sz) [oM ad xM_typed xM_people xM_posted xM_hears xM_censuses xM_finding, ar (ad 17) cA 8020 gMlostBits]) (va_A [oM ad xM_typed xM_people xM_posted xM_hears xM_censuses xM_finding, ar (ad 17) cA 8020 gMlostBits] sz)) 0 0 (va_A [oM ad xM_typed xM_people xM_posted xM_hears xM_censuses xM_finding, ar (ad 17) cA 8020 gMlostBits] sz) := by
  refine Met.ofW (cc := cX10_lostBy) (maxL := 5) (ret := (some .int)) (by decide) rfl ?_
  intro p e s m args below meth c s₁ B hml hv
  obtain ⟨rfl, hsz, hP, hK, hD0⟩ := hv
  have hx := B.exec
  have hb := B.bytes
  have hr := B.returns
  have hts := atoms_spec (ws := wsX10_lostBy) B.pre
  have hown : s.vm.findClass RX10 = some m.cls := findClass_of_methodNamed B.named
  have hlocks := B.notSynchronized
  subst hsz
  have hD := hD0.self (sz := s.heap.size)
  generalize hAe : va_A [oM ad xM_typed xM_people xM_posted xM_hears xM_censuses xM_finding, ar (ad 17) cA 8020 gMlostBits] s.heap.size = A at hD ⊢
  have hA : ∀ q : Nat, s.heap.size ≤ q → A q := fun q h => by rw [← hAe]; exact Or.inr h
  have hS : va_S A s.heap s.heap [] := va_S.rf
  have hl := lv_entry ([.ref (ad 0), .int a1, .int a2]) (n := 5) (Nat.le_of_ble_eq_true rfl)
  rw [lg_entry_eq]
  generalize (lg_sl ([.ref (ad 0), .int a1, .int a2]) ++ List.replicate (5 - (lg_sl ([.ref (ad 0), .int a1, .int a2])).length) Slot.unset).toArray = ls at hl ⊢
  have hl : lv_has ls 5 [(0, .ref (ad 0)), (1, .int a1), (2, .int a2)] := hl
  refine wk_Q (fun QQ hQ => ?_)
  have hinX10 : ∀ w ∈ wsX100, w ∈ wsX10_lostBy := fun w h => List.mem_cons_of_mem _ (inlX10 w h)
  have hl_58 := hts (.fieldLink RX10 58 "HandCensusModel" "lostBits" "[I") (List.mem_cons_of_mem _ (in_r7 _ (List.mem_of_getElem? (i := 11) rfl)))
  have h_5 : ∀ (v1_5 : Int32) (v2_5 : Int32), ∀ (n_5 : Nat), ∀ (v3_5 : Int32) (v4_5 : Int32), fM_lostBy_5 v1_5 v2_5 gMlostBits n_5 v3_5 v4_5 = some u → ∀ (H : Heap) (locs : List Loc), va_P (dC, dI) vwCl [oM ad xM_typed xM_people xM_posted xM_hears xM_censuses xM_finding, ar (ad 17) cA 8020 gMlostBits] H → va_D A [oM ad xM_typed xM_people xM_posted xM_hears xM_censuses xM_finding, ar (ad 17) cA 8020 gMlostBits] → va_S A s.heap H locs → ∀ ls : Array Slot, lv_has ls 5 [(0, .ref (ad 0)), (1, .int v1_5), (2, .int v2_5), (3, .int v3_5), (4, .int v4_5)] → W p l e (headSpec wsX10_lostBy ({ frames := 1, cells := 0, slots := 0, locals := 22 })).room s m ([.ref (ad 0), .int a1, .int a2] : List Value).toArray below meth c H locs 0 0 QQ (F0 m 5 ls []) := by
    intro v1_5 v2_5
    intro n_5
    induction n_5 with
    | zero => intro v3_5 v4_5 hm; have hm : (none : Option (Int32)) = some u := hm; cases hm
    | succ n_5 ih_5 =>
      intro v3_5 v4_5 hm H locs hP hD hS ls hl
      have hm : fM_lostBy_5_b  (fM_lostBy_5  v1_5 v2_5 gMlostBits n_5) v1_5 v2_5 gMlostBits v3_5 v4_5 = some u := hm
      unfold fM_lostBy_5_b at hm
      refine lv_iload hx hb dX10_lostBy_5 (lv_at hl 4 rfl) ?_
      refine lv_iload_n hx hb dX10_lostBy_7 rfl (lv_at hl 2 rfl) ?_
      refine lv_icmp_gt (tgt := 35) hx hb dX10_lostBy_8 (by decide) (fun c_1 => ?_) (fun c_1 => ?_)
      · have hm := it_pos c_1 hm
        refine lv_iload_n hx hb dX10_lostBy_35 rfl (lv_at hl 3 rfl) ?_
        obtain rfl := Option.some.inj hm
        subst hQ
        exact W.iret (v := v3_5) hx hb hr (fun t ht hW => ⟨⟨_, (), rfl, rfl, by rw [ht]; exact hP, va_K.moved hW.alike hK, hAe ▸ hD⟩, hS.F ht⟩) hS.2.2 dX10_lostBy_36
      · have hm := it_neg c_1 hm
        refine lv_iload_n hx hb dX10_lostBy_11 rfl (lv_at hl 3 rfl) ?_
        refine lv_aload_n hx hb dX10_lostBy_12 rfl (lv_at hl 0 rfl) ?_
        refine va_get (D := (dC, dI)) (ci := 10) (v := .ref (ad 17)) (C := RX10) (T := TX10) (N := 37) hx hb hts hinX10 hown hK hP 0 rfl rfl 18 (by decide) hl_58 (fun _ h9 => h9) rfl dX10_lostBy_13 ?_
        refine lv_bipush (v := 20) hx hb dX10_lostBy_16 (by decide) ?_
        refine lv_iload hx hb dX10_lostBy_18 (lv_at hl 4 rfl) ?_
        refine lv_imul hx hb dX10_lostBy_20 ?_
        refine lv_iload_n hx hb dX10_lostBy_21 rfl (lv_at hl 1 rfl) ?_
        refine lv_iadd hx hb dX10_lostBy_22 ?_
        obtain ⟨i_2, hm⟩ := ck_ok hm
        refine va_iald hx hb hK hP 1 0 rfl rfl i_2 dX10_lostBy_23 ?_
        have hPc := hP.sub (ws' := []) [] rfl
        have hDc := hD.sub (ws' := []) [] (by decide) rfl
        have hFc := va_free (wc := []) hD hS hA [] rfl
        obtain ⟨u_3, hc_3, hm⟩ := bd_ok hm
        refine va_calli (va_runS (As := [.int (gMlostBits ((20 * v4_5) + v1_5).toNatClampNeg)]) (rest := [.int v3_5]) ⟨hx, hb, hml, hown, hts⟩ (kM_ones l dC dI cA cB ad H.size (gMlostBits ((20 * v4_5) + v1_5).toNatClampNeg) u_3 hc_3) (va_cwS 1 hts gX10_lostBy_X10_ones rfl rfl rfl (by decide +kernel) ⟨Nat.le_of_ble_eq_true rfl, Nat.le_of_ble_eq_true rfl⟩) ⟨fun a U g mk q => by obtain ⟨q0, q1, qP, qK, qD⟩ := q; exact ⟨q0, q1, qP, va_K.moved (u := U) (U := U.calling g mk a) (Vm.Alike.refl U.vm) qK, qD⟩, fun U hU hW => ⟨rfl, by rw [hU], by rw [hU]; exact hPc, va_K.moved hW.alike hK, hDc.weaken (fun _ _ _ _ => trivial)⟩⟩ rfl rfl hl.1 rfl (lv_room (Nat.le_of_ble_eq_true rfl)) dX10_lostBy_24 ⟨Nat.le_of_ble_eq_true rfl, Nat.le_of_ble_eq_true rfl⟩) hS (fun q _ h => hFc q h) hFc (fun r_3 _ t H1 locs ht hvm hw hB hz1 hk1 hS => ?_)
        obtain ⟨hP1, hK1, hD1⟩ := hB
        rw [ht] at hP1
        obtain ⟨hP, hD⟩ := va_join (wr := [oM ad xM_typed xM_people xM_posted xM_hears xM_censuses xM_finding, ar (ad 17) cA 8020 gMlostBits]) (w1 := []) hP hD [] [0, 1] rfl rfl (by decide) (by decide) hk1 hFc hP1 hD1
        clear hPc hDc hFc hP1 hK1 hD1 hk1 hz1 hvm ht
        generalize H1 = H at hP hS ⊢
        have hP : va_P (dC, dI) vwCl [oM ad xM_typed xM_people xM_posted xM_hears xM_censuses xM_finding, ar (ad 17) cA 8020 gMlostBits] H := hP
        have hD : va_D A [oM ad xM_typed xM_people xM_posted xM_hears xM_censuses xM_finding, ar (ad 17) cA 8020 gMlostBits] := hD
        have hw := hw.symm
        subst hw
        refine lv_iadd hx hb dX10_lostBy_27 ?_
        refine lv_istore_n (lv' := [(3, .int (v3_5 + u_3)), (0, .ref (ad 0)), (1, .int v1_5), (2, .int v2_5), (4, .int v4_5)]) hx hb dX10_lostBy_28 rfl hl (by decide) rfl (fun ls hl => ?_)
        refine lv_iinc (v := (v4_5 + 1)) (lv' := [(4, .int (v4_5 + 1)), (3, .int (v3_5 + u_3)), (0, .ref (ad 0)), (1, .int v1_5), (2, .int v2_5)]) hx hb dX10_lostBy_29 hl (k := 4) rfl rfl (by decide) rfl (fun ls hl => ?_)
        refine lv_goto (tgt := 5) hx hb dX10_lostBy_32 (by decide) ?_
        exact ih_5 _ _ hm _ _ hP hD hS _ (lv_sub hl [2, 3, 4, 1, 0] rfl)
  unfold fM_lostBy at hm
  refine lv_iconst (v := 0) hx hb dX10_lostBy_0 (by decide) ?_
  refine lv_istore_n (lv' := [(3, .int 0), (0, .ref (ad 0)), (1, .int a1), (2, .int a2)]) hx hb dX10_lostBy_1 rfl hl (by decide) rfl (fun ls hl => ?_)
  refine lv_iconst (v := 0) hx hb dX10_lostBy_2 (by decide) ?_
  refine lv_istore (lv' := [(4, .int 0), (3, .int 0), (0, .ref (ad 0)), (1, .int a1), (2, .int a2)]) hx hb dX10_lostBy_3 hl (by decide) rfl (fun ls hl => ?_)
  exact h_5 _ _ _ _ _ hm _ _ hP hD hS _ (lv_sub hl [2, 3, 4, 1, 0] rfl)

set_option maxHeartbeats 4000000 in
set_option maxRecDepth 100000 in
theorem kM_lostOf (l : Launch) (dC : Nat → ClassId) (dI : Nat → Nat → Nat) (cA : ClassId) (cB : ClassId) (ad : Nat → Nat) (sz : Nat) (a1 : Int32) (a2 : Int32) (xM_typed : Int32) (xM_people : Int32) (xM_posted : Int32) (xM_hears : Int32) (xM_censuses : Int32) (xM_finding : Int32) (gMtext : Nat → Int32) (gMkinds : Nat → Int32) (gMlates : Nat → Int32) (gMscarfs : Nat → Int32) (gMhands : Nat → Int32) (gMrings : Nat → Int32) (gMmains : Nat → Int32) (gMaheadOf : Nat → Int32) (gMlastIn : Nat → Int32) (gMmanyIn : Nat → Int32) (gMsetting : Nat → Int32) (gMcomes : Nat → Int32) (gMbusyTo : Nat → Int32) (gMfeltMany : Nat → Int32) (gMfeltBits : Nat → Int32) (gMlostBits : Nat → Int32) (u : Int32 × Int32 × (Nat → Int32) × (Nat → Int32) × (Nat → Int32) × (Nat → Int32) × (Nat → Int32) × (Nat → Int32) × (Nat → Int32) × (Nat → Int32) × (Nat → Int32) × (Nat → Int32) × (Nat → Int32) × (Nat → Int32) × (Nat → Int32) × (Nat → Int32)) (hm : fM_lostOf a1 a2 xM_typed xM_people gMtext gMkinds gMlates gMscarfs gMhands gMrings gMmains gMaheadOf gMlastIn gMmanyIn gMsetting gMcomes gMbusyTo gMfeltMany gMfeltBits gMlostBits = some u) : Met l yX10_lostOf wsX10_lostOf ({ frames := 5, cells := 0, slots := 0, locals := 124 }) (va_Pc [.ref (ad 0), .int a1, .int a2] (fun U => U.heap.size = sz ∧ va_P (dC, dI) vwCl [oM ad xM_typed xM_people xM_posted xM_hears xM_censuses xM_finding, ar (ad 1) cA 60 gMtext, ar (ad 2) cA 20 gMkinds, ar (ad 3) cA 20 gMlates, ar (ad 4) cA 20 gMscarfs, ar (ad 5) cA 20 gMhands, ar (ad 6) cA 20 gMrings, ar (ad 7) cA 20 gMmains, ar (ad 8) cA 4 gMaheadOf, ar (ad 9) cA 4 gMlastIn, ar (ad 10) cA 4 gMmanyIn, ar (ad 11) cA 3 gMsetting, ar (ad 13) cA 8020 gMcomes, ar (ad 14) cA 20 gMbusyTo, ar (ad 15) cA 20 gMfeltMany, ar (ad 16) cA 8020 gMfeltBits, ar (ad 17) cA 8020 gMlostBits] U.heap ∧ va_K (dC, dI) vwCl [(cA, .int), (cB, .boolean)] U ∧ va_D (fun _ => True) [oM ad xM_typed xM_people xM_posted xM_hears xM_censuses xM_finding, ar (ad 1) cA 60 gMtext, ar (ad 2) cA 20 gMkinds, ar (ad 3) cA 20 gMlates, ar (ad 4) cA 20 gMscarfs, ar (ad 5) cA 20 gMhands, ar (ad 6) cA 20 gMrings, ar (ad 7) cA 20 gMmains, ar (ad 8) cA 4 gMaheadOf, ar (ad 9) cA 4 gMlastIn, ar (ad 10) cA 4 gMmanyIn, ar (ad 11) cA 3 gMsetting, ar (ad 13) cA 8020 gMcomes, ar (ad 14) cA 20 gMbusyTo, ar (ad 15) cA 20 gMfeltMany, ar (ad 16) cA 8020 gMfeltBits, ar (ad 17) cA 8020 gMlostBits])) (va_Qi (fun (r : Int32) (_ : Unit) => r = u.1) (fun (_ : Unit) t => va_P (dC, dI) vwCl [oM ad xM_typed u.2.1 xM_posted xM_hears xM_censuses xM_finding, ar (ad 1) cA 60 gMtext, ar (ad 2) cA 20 u.2.2.1, ar (ad 3) cA 20 u.2.2.2.1, ar (ad 4) cA 20 u.2.2.2.2.1, ar (ad 5) cA 20 u.2.2.2.2.2.1, ar (ad 6) cA 20 u.2.2.2.2.2.2.1, ar (ad 7) cA 20 u.2.2.2.2.2.2.2.1, ar (ad 8) cA 4 u.2.2.2.2.2.2.2.2.1, ar (ad 9) cA 4 u.2.2.2.2.2.2.2.2.2.1, ar (ad 10) cA 4 u.2.2.2.2.2.2.2.2.2.2.1, ar (ad 11) cA 3 gMsetting, ar (ad 13) cA 8020 u.2.2.2.2.2.2.2.2.2.2.2.1, ar (ad 14) cA 20 u.2.2.2.2.2.2.2.2.2.2.2.2.1, ar (ad 15) cA 20 u.2.2.2.2.2.2.2.2.2.2.2.2.2.1, ar (ad 16) cA 8020 u.2.2.2.2.2.2.2.2.2.2.2.2.2.2.1, ar (ad 17) cA 8020 u.2.2.2.2.2.2.2.2.2.2.2.2.2.2.2] t.heap ∧ va_K (dC, dI) vwCl [(cA, .int), (cB, .boolean)] t ∧ va_D (va_A [oM ad xM_typed xM_people xM_posted xM_hears xM_censuses xM_finding, ar (ad 1) cA 60 gMtext, ar (ad 2) cA 20 gMkinds, ar (ad 3) cA 20 gMlates, ar (ad 4) cA 20 gMscarfs, ar (ad 5) cA 20 gMhands, ar (ad 6) cA 20 gMrings, ar (ad 7) cA 20 gMmains, ar (ad 8) cA 4 gMaheadOf, ar (ad 9) cA 4 gMlastIn, ar (ad 10) cA 4 gMmanyIn, ar (ad 11) cA 3 gMsetting, ar (ad 13) cA 8020 gMcomes, ar (ad 14) cA 20 gMbusyTo, ar (ad 15) cA 20 gMfeltMany, ar (ad 16) cA 8020 gMfeltBits, ar (ad 17) cA 8020 gMlostBits] sz) [oM ad xM_typed u.2.1 xM_posted xM_hears xM_censuses xM_finding, ar (ad 1) cA 60 gMtext, ar (ad 2) cA 20 u.2.2.1, ar (ad 3) cA 20 u.2.2.2.1, ar (ad 4) cA 20 u.2.2.2.2.1, ar (ad 5) cA 20 u.2.2.2.2.2.1, ar (ad 6) cA 20 u.2.2.2.2.2.2.1, ar (ad 7) cA 20 u.2.2.2.2.2.2.2.1, ar (ad 8) cA 4 u.2.2.2.2.2.2.2.2.1, ar (ad 9) cA 4 u.2.2.2.2.2.2.2.2.2.1, ar (ad 10) cA 4 u.2.2.2.2.2.2.2.2.2.2.1, ar (ad 11) cA 3 gMsetting, ar (ad 13) cA 8020 u.2.2.2.2.2.2.2.2.2.2.2.1, ar (ad 14) cA 20 u.2.2.2.2.2.2.2.2.2.2.2.2.1, ar (ad 15) cA 20 u.2.2.2.2.2.2.2.2.2.2.2.2.2.1, ar (ad 16) cA 8020 u.2.2.2.2.2.2.2.2.2.2.2.2.2.2.1, ar (ad 17) cA 8020 u.2.2.2.2.2.2.2.2.2.2.2.2.2.2.2]) (va_A [oM ad xM_typed xM_people xM_posted xM_hears xM_censuses xM_finding, ar (ad 1) cA 60 gMtext, ar (ad 2) cA 20 gMkinds, ar (ad 3) cA 20 gMlates, ar (ad 4) cA 20 gMscarfs, ar (ad 5) cA 20 gMhands, ar (ad 6) cA 20 gMrings, ar (ad 7) cA 20 gMmains, ar (ad 8) cA 4 gMaheadOf, ar (ad 9) cA 4 gMlastIn, ar (ad 10) cA 4 gMmanyIn, ar (ad 11) cA 3 gMsetting, ar (ad 13) cA 8020 gMcomes, ar (ad 14) cA 20 gMbusyTo, ar (ad 15) cA 20 gMfeltMany, ar (ad 16) cA 8020 gMfeltBits, ar (ad 17) cA 8020 gMlostBits] sz)) 0 0 (va_A [oM ad xM_typed xM_people xM_posted xM_hears xM_censuses xM_finding, ar (ad 1) cA 60 gMtext, ar (ad 2) cA 20 gMkinds, ar (ad 3) cA 20 gMlates, ar (ad 4) cA 20 gMscarfs, ar (ad 5) cA 20 gMhands, ar (ad 6) cA 20 gMrings, ar (ad 7) cA 20 gMmains, ar (ad 8) cA 4 gMaheadOf, ar (ad 9) cA 4 gMlastIn, ar (ad 10) cA 4 gMmanyIn, ar (ad 11) cA 3 gMsetting, ar (ad 13) cA 8020 gMcomes, ar (ad 14) cA 20 gMbusyTo, ar (ad 15) cA 20 gMfeltMany, ar (ad 16) cA 8020 gMfeltBits, ar (ad 17) cA 8020 gMlostBits] sz) := by
  refine Met.ofW (cc := cX10_lostOf) (maxL := 3) (ret := (some .int)) (by decide) rfl ?_
  intro p e s m args below meth c s₁ B hml hv
  obtain ⟨rfl, hsz, hP, hK, hD0⟩ := hv
  have hx := B.exec
  have hb := B.bytes
  have hr := B.returns
  have hts := atoms_spec (ws := wsX10_lostOf) B.pre
  have hown : s.vm.findClass RX10 = some m.cls := findClass_of_methodNamed B.named
  have hlocks := B.notSynchronized
  subst hsz
  have hD := hD0.self (sz := s.heap.size)
  generalize hAe : va_A [oM ad xM_typed xM_people xM_posted xM_hears xM_censuses xM_finding, ar (ad 1) cA 60 gMtext, ar (ad 2) cA 20 gMkinds, ar (ad 3) cA 20 gMlates, ar (ad 4) cA 20 gMscarfs, ar (ad 5) cA 20 gMhands, ar (ad 6) cA 20 gMrings, ar (ad 7) cA 20 gMmains, ar (ad 8) cA 4 gMaheadOf, ar (ad 9) cA 4 gMlastIn, ar (ad 10) cA 4 gMmanyIn, ar (ad 11) cA 3 gMsetting, ar (ad 13) cA 8020 gMcomes, ar (ad 14) cA 20 gMbusyTo, ar (ad 15) cA 20 gMfeltMany, ar (ad 16) cA 8020 gMfeltBits, ar (ad 17) cA 8020 gMlostBits] s.heap.size = A at hD ⊢
  have hA : ∀ q : Nat, s.heap.size ≤ q → A q := fun q h => by rw [← hAe]; exact Or.inr h
  have hS : va_S A s.heap s.heap [] := va_S.rf
  have hl := lv_entry ([.ref (ad 0), .int a1, .int a2]) (n := 3) (Nat.le_of_ble_eq_true rfl)
  rw [lg_entry_eq]
  generalize (lg_sl ([.ref (ad 0), .int a1, .int a2]) ++ List.replicate (3 - (lg_sl ([.ref (ad 0), .int a1, .int a2])).length) Slot.unset).toArray = ls at hl ⊢
  have hl : lv_has ls 3 [(0, .ref (ad 0)), (1, .int a1), (2, .int a2)] := hl
  refine wk_Q (fun QQ hQ => ?_)
  unfold fM_lostOf at hm
  refine lv_aload_n hx hb dX10_lostOf_0 rfl (lv_at hl 0 rfl) ?_
  have hPc := hP.sub (ws' := [oM ad xM_typed xM_people xM_posted xM_hears xM_censuses xM_finding, ar (ad 1) cA 60 gMtext, ar (ad 2) cA 20 gMkinds, ar (ad 3) cA 20 gMlates, ar (ad 4) cA 20 gMscarfs, ar (ad 5) cA 20 gMhands, ar (ad 6) cA 20 gMrings, ar (ad 7) cA 20 gMmains, ar (ad 8) cA 4 gMaheadOf, ar (ad 9) cA 4 gMlastIn, ar (ad 10) cA 4 gMmanyIn, ar (ad 11) cA 3 gMsetting, ar (ad 13) cA 8020 gMcomes, ar (ad 14) cA 20 gMbusyTo, ar (ad 15) cA 20 gMfeltMany, ar (ad 16) cA 8020 gMfeltBits, ar (ad 17) cA 8020 gMlostBits]) [0, 1, 2, 3, 4, 5, 6, 7, 8, 9, 10, 11, 12, 13, 14, 15, 16] rfl
  have hDc := hD.sub (ws' := [oM ad xM_typed xM_people xM_posted xM_hears xM_censuses xM_finding, ar (ad 1) cA 60 gMtext, ar (ad 2) cA 20 gMkinds, ar (ad 3) cA 20 gMlates, ar (ad 4) cA 20 gMscarfs, ar (ad 5) cA 20 gMhands, ar (ad 6) cA 20 gMrings, ar (ad 7) cA 20 gMmains, ar (ad 8) cA 4 gMaheadOf, ar (ad 9) cA 4 gMlastIn, ar (ad 10) cA 4 gMmanyIn, ar (ad 11) cA 3 gMsetting, ar (ad 13) cA 8020 gMcomes, ar (ad 14) cA 20 gMbusyTo, ar (ad 15) cA 20 gMfeltMany, ar (ad 16) cA 8020 gMfeltBits, ar (ad 17) cA 8020 gMlostBits]) [0, 1, 2, 3, 4, 5, 6, 7, 8, 9, 10, 11, 12, 13, 14, 15, 16] (by decide) rfl
  have hFc := va_free (wc := [oM ad xM_typed xM_people xM_posted xM_hears xM_censuses xM_finding, ar (ad 1) cA 60 gMtext, ar (ad 2) cA 20 gMkinds, ar (ad 3) cA 20 gMlates, ar (ad 4) cA 20 gMscarfs, ar (ad 5) cA 20 gMhands, ar (ad 6) cA 20 gMrings, ar (ad 7) cA 20 gMmains, ar (ad 8) cA 4 gMaheadOf, ar (ad 9) cA 4 gMlastIn, ar (ad 10) cA 4 gMmanyIn, ar (ad 11) cA 3 gMsetting, ar (ad 13) cA 8020 gMcomes, ar (ad 14) cA 20 gMbusyTo, ar (ad 15) cA 20 gMfeltMany, ar (ad 16) cA 8020 gMfeltBits, ar (ad 17) cA 8020 gMlostBits]) hD hS hA [0, 1, 2, 3, 4, 5, 6, 7, 8, 9, 10, 11, 12, 13, 14, 15, 16] rfl
  obtain ⟨u_1, hc_1, hm⟩ := bd_ok hm
  refine va_callv (va_runV (As := []) (rest := []) ⟨hx, hb, hml, hown, hts⟩ (kM_lays l dC dI cA cB ad s.heap.size xM_typed xM_people xM_posted xM_hears xM_censuses xM_finding gMtext gMkinds gMlates gMscarfs gMhands gMrings gMmains gMaheadOf gMlastIn gMmanyIn gMsetting gMcomes gMbusyTo gMfeltMany gMfeltBits gMlostBits u_1 hc_1) (cwV 0 hts gX10_lostOf_X10_lays rfl rfl rfl (by decide +kernel) ⟨Nat.le_of_ble_eq_true rfl, Nat.le_of_ble_eq_true rfl⟩) ⟨fun a U g mk q => by obtain ⟨q0, q1, qP, qK, qD⟩ := q; exact ⟨q0, q1, qP, va_K.moved (u := U) (U := U.calling g mk a) (Vm.Alike.refl U.vm) qK, qD⟩, va_recv hK hPc (ci := 10) (q0 := 0) rfl rfl, fun U hU hW => ⟨rfl, by rw [hU], by rw [hU]; exact hPc, va_K.moved hW.alike hK, hDc.weaken (fun _ _ _ _ => trivial)⟩⟩ rfl rfl hl.1 rfl (lv_room (Nat.le_of_ble_eq_true rfl)) dX10_lostOf_1 ⟨Nat.le_of_ble_eq_true rfl, Nat.le_of_ble_eq_true rfl⟩) hS (fun q _ h => hFc q h) hFc (fun _ t H1 locs ht hvm hw hB hz1 hk1 hS => ?_)
  obtain ⟨hP1, hK1, hD1⟩ := hB
  rw [ht] at hP1
  obtain ⟨hP, hD⟩ := va_join (wr := []) (w1 := [oM ad xM_typed u_1.1 xM_posted xM_hears xM_censuses xM_finding, ar (ad 1) cA 60 gMtext, ar (ad 2) cA 20 u_1.2.1, ar (ad 3) cA 20 u_1.2.2.1, ar (ad 4) cA 20 u_1.2.2.2.1, ar (ad 5) cA 20 u_1.2.2.2.2.1, ar (ad 6) cA 20 u_1.2.2.2.2.2.1, ar (ad 7) cA 20 u_1.2.2.2.2.2.2.1, ar (ad 8) cA 4 u_1.2.2.2.2.2.2.2.1, ar (ad 9) cA 4 u_1.2.2.2.2.2.2.2.2.1, ar (ad 10) cA 4 u_1.2.2.2.2.2.2.2.2.2.1, ar (ad 11) cA 3 gMsetting, ar (ad 13) cA 8020 u_1.2.2.2.2.2.2.2.2.2.2.1, ar (ad 14) cA 20 u_1.2.2.2.2.2.2.2.2.2.2.2.1, ar (ad 15) cA 20 u_1.2.2.2.2.2.2.2.2.2.2.2.2.1, ar (ad 16) cA 8020 u_1.2.2.2.2.2.2.2.2.2.2.2.2.2.1, ar (ad 17) cA 8020 u_1.2.2.2.2.2.2.2.2.2.2.2.2.2.2]) hP hD [0, 1, 2, 3, 4, 5, 6, 7, 8, 9, 10, 11, 12, 13, 14, 15, 16] [] rfl rfl (by decide) (by decide) hk1 hFc hP1 hD1
  clear hPc hDc hFc hP1 hK1 hD1 hk1 hz1 hvm ht
  generalize H1 = H at hP hS ⊢
  have hP : va_P (dC, dI) vwCl [oM ad xM_typed u_1.1 xM_posted xM_hears xM_censuses xM_finding, ar (ad 1) cA 60 gMtext, ar (ad 2) cA 20 u_1.2.1, ar (ad 3) cA 20 u_1.2.2.1, ar (ad 4) cA 20 u_1.2.2.2.1, ar (ad 5) cA 20 u_1.2.2.2.2.1, ar (ad 6) cA 20 u_1.2.2.2.2.2.1, ar (ad 7) cA 20 u_1.2.2.2.2.2.2.1, ar (ad 8) cA 4 u_1.2.2.2.2.2.2.2.1, ar (ad 9) cA 4 u_1.2.2.2.2.2.2.2.2.1, ar (ad 10) cA 4 u_1.2.2.2.2.2.2.2.2.2.1, ar (ad 11) cA 3 gMsetting, ar (ad 13) cA 8020 u_1.2.2.2.2.2.2.2.2.2.2.1, ar (ad 14) cA 20 u_1.2.2.2.2.2.2.2.2.2.2.2.1, ar (ad 15) cA 20 u_1.2.2.2.2.2.2.2.2.2.2.2.2.1, ar (ad 16) cA 8020 u_1.2.2.2.2.2.2.2.2.2.2.2.2.2.1, ar (ad 17) cA 8020 u_1.2.2.2.2.2.2.2.2.2.2.2.2.2.2] H := hP
  have hD : va_D A [oM ad xM_typed u_1.1 xM_posted xM_hears xM_censuses xM_finding, ar (ad 1) cA 60 gMtext, ar (ad 2) cA 20 u_1.2.1, ar (ad 3) cA 20 u_1.2.2.1, ar (ad 4) cA 20 u_1.2.2.2.1, ar (ad 5) cA 20 u_1.2.2.2.2.1, ar (ad 6) cA 20 u_1.2.2.2.2.2.1, ar (ad 7) cA 20 u_1.2.2.2.2.2.2.1, ar (ad 8) cA 4 u_1.2.2.2.2.2.2.2.1, ar (ad 9) cA 4 u_1.2.2.2.2.2.2.2.2.1, ar (ad 10) cA 4 u_1.2.2.2.2.2.2.2.2.2.1, ar (ad 11) cA 3 gMsetting, ar (ad 13) cA 8020 u_1.2.2.2.2.2.2.2.2.2.2.1, ar (ad 14) cA 20 u_1.2.2.2.2.2.2.2.2.2.2.2.1, ar (ad 15) cA 20 u_1.2.2.2.2.2.2.2.2.2.2.2.2.1, ar (ad 16) cA 8020 u_1.2.2.2.2.2.2.2.2.2.2.2.2.2.1, ar (ad 17) cA 8020 u_1.2.2.2.2.2.2.2.2.2.2.2.2.2.2] := hD
  refine lv_aload_n hx hb dX10_lostOf_4 rfl (lv_at hl 0 rfl) ?_
  refine lv_iload_n hx hb dX10_lostOf_5 rfl (lv_at hl 1 rfl) ?_
  refine lv_iload_n hx hb dX10_lostOf_6 rfl (lv_at hl 2 rfl) ?_
  have hPc := hP.sub (ws' := [oM ad xM_typed u_1.1 xM_posted xM_hears xM_censuses xM_finding, ar (ad 17) cA 8020 u_1.2.2.2.2.2.2.2.2.2.2.2.2.2.2]) [0, 16] rfl
  have hDc := hD.sub (ws' := [oM ad xM_typed u_1.1 xM_posted xM_hears xM_censuses xM_finding, ar (ad 17) cA 8020 u_1.2.2.2.2.2.2.2.2.2.2.2.2.2.2]) [0, 16] (by decide) rfl
  have hFc := va_free (wc := [oM ad xM_typed u_1.1 xM_posted xM_hears xM_censuses xM_finding, ar (ad 17) cA 8020 u_1.2.2.2.2.2.2.2.2.2.2.2.2.2.2]) hD hS hA [0, 16] rfl
  obtain ⟨u_2, hc_2, hm⟩ := bd_ok hm
  refine va_calli (va_runV (As := [.int a1, .int a2]) (rest := []) ⟨hx, hb, hml, hown, hts⟩ (kM_lostBy l dC dI cA cB ad H.size a1 a2 xM_typed u_1.1 xM_posted xM_hears xM_censuses xM_finding u_1.2.2.2.2.2.2.2.2.2.2.2.2.2.2 u_2 hc_2) (cwV 2 hts gX10_lostOf_X10_lostBy rfl rfl rfl (by decide +kernel) ⟨Nat.le_of_ble_eq_true rfl, Nat.le_of_ble_eq_true rfl⟩) ⟨fun a U g mk q => by obtain ⟨q0, q1, qP, qK, qD⟩ := q; exact ⟨q0, q1, qP, va_K.moved (u := U) (U := U.calling g mk a) (Vm.Alike.refl U.vm) qK, qD⟩, va_recv hK hPc (ci := 10) (q0 := 0) rfl rfl, fun U hU hW => ⟨rfl, by rw [hU], by rw [hU]; exact hPc, va_K.moved hW.alike hK, hDc.weaken (fun _ _ _ _ => trivial)⟩⟩ rfl rfl hl.1 rfl (lv_room (Nat.le_of_ble_eq_true rfl)) dX10_lostOf_7 ⟨Nat.le_of_ble_eq_true rfl, Nat.le_of_ble_eq_true rfl⟩) hS (fun q _ h => hFc q h) hFc (fun r_2 _ t H1 locs ht hvm hw hB hz1 hk1 hS => ?_)
  obtain ⟨hP1, hK1, hD1⟩ := hB
  rw [ht] at hP1
  obtain ⟨hP, hD⟩ := va_join (wr := [ar (ad 1) cA 60 gMtext, ar (ad 2) cA 20 u_1.2.1, ar (ad 3) cA 20 u_1.2.2.1, ar (ad 4) cA 20 u_1.2.2.2.1, ar (ad 5) cA 20 u_1.2.2.2.2.1, ar (ad 6) cA 20 u_1.2.2.2.2.2.1, ar (ad 7) cA 20 u_1.2.2.2.2.2.2.1, ar (ad 8) cA 4 u_1.2.2.2.2.2.2.2.1, ar (ad 9) cA 4 u_1.2.2.2.2.2.2.2.2.1, ar (ad 10) cA 4 u_1.2.2.2.2.2.2.2.2.2.1, ar (ad 11) cA 3 gMsetting, ar (ad 13) cA 8020 u_1.2.2.2.2.2.2.2.2.2.2.1, ar (ad 14) cA 20 u_1.2.2.2.2.2.2.2.2.2.2.2.1, ar (ad 15) cA 20 u_1.2.2.2.2.2.2.2.2.2.2.2.2.1, ar (ad 16) cA 8020 u_1.2.2.2.2.2.2.2.2.2.2.2.2.2.1]) (w1 := [oM ad xM_typed u_1.1 xM_posted xM_hears xM_censuses xM_finding, ar (ad 17) cA 8020 u_1.2.2.2.2.2.2.2.2.2.2.2.2.2.2]) hP hD [0, 16] [1, 2, 3, 4, 5, 6, 7, 8, 9, 10, 11, 12, 13, 14, 15] rfl rfl (by decide) (by decide) hk1 hFc hP1 hD1
  clear hPc hDc hFc hP1 hK1 hD1 hk1 hz1 hvm ht
  generalize H1 = H at hP hS ⊢
  have hP : va_P (dC, dI) vwCl [oM ad xM_typed u_1.1 xM_posted xM_hears xM_censuses xM_finding, ar (ad 1) cA 60 gMtext, ar (ad 2) cA 20 u_1.2.1, ar (ad 3) cA 20 u_1.2.2.1, ar (ad 4) cA 20 u_1.2.2.2.1, ar (ad 5) cA 20 u_1.2.2.2.2.1, ar (ad 6) cA 20 u_1.2.2.2.2.2.1, ar (ad 7) cA 20 u_1.2.2.2.2.2.2.1, ar (ad 8) cA 4 u_1.2.2.2.2.2.2.2.1, ar (ad 9) cA 4 u_1.2.2.2.2.2.2.2.2.1, ar (ad 10) cA 4 u_1.2.2.2.2.2.2.2.2.2.1, ar (ad 11) cA 3 gMsetting, ar (ad 13) cA 8020 u_1.2.2.2.2.2.2.2.2.2.2.1, ar (ad 14) cA 20 u_1.2.2.2.2.2.2.2.2.2.2.2.1, ar (ad 15) cA 20 u_1.2.2.2.2.2.2.2.2.2.2.2.2.1, ar (ad 16) cA 8020 u_1.2.2.2.2.2.2.2.2.2.2.2.2.2.1, ar (ad 17) cA 8020 u_1.2.2.2.2.2.2.2.2.2.2.2.2.2.2] H := hP.sub [15, 0, 1, 2, 3, 4, 5, 6, 7, 8, 9, 10, 11, 12, 13, 14, 16] rfl
  have hD : va_D A [oM ad xM_typed u_1.1 xM_posted xM_hears xM_censuses xM_finding, ar (ad 1) cA 60 gMtext, ar (ad 2) cA 20 u_1.2.1, ar (ad 3) cA 20 u_1.2.2.1, ar (ad 4) cA 20 u_1.2.2.2.1, ar (ad 5) cA 20 u_1.2.2.2.2.1, ar (ad 6) cA 20 u_1.2.2.2.2.2.1, ar (ad 7) cA 20 u_1.2.2.2.2.2.2.1, ar (ad 8) cA 4 u_1.2.2.2.2.2.2.2.1, ar (ad 9) cA 4 u_1.2.2.2.2.2.2.2.2.1, ar (ad 10) cA 4 u_1.2.2.2.2.2.2.2.2.2.1, ar (ad 11) cA 3 gMsetting, ar (ad 13) cA 8020 u_1.2.2.2.2.2.2.2.2.2.2.1, ar (ad 14) cA 20 u_1.2.2.2.2.2.2.2.2.2.2.2.1, ar (ad 15) cA 20 u_1.2.2.2.2.2.2.2.2.2.2.2.2.1, ar (ad 16) cA 8020 u_1.2.2.2.2.2.2.2.2.2.2.2.2.2.1, ar (ad 17) cA 8020 u_1.2.2.2.2.2.2.2.2.2.2.2.2.2.2] := hD.sub [15, 0, 1, 2, 3, 4, 5, 6, 7, 8, 9, 10, 11, 12, 13, 14, 16] (by decide) rfl
  have hw := hw.symm
  subst hw
  obtain rfl := Option.some.inj hm
  subst hQ
  exact W.iret (v := u_2) hx hb hr (fun t ht hW => ⟨⟨_, (), rfl, rfl, by rw [ht]; exact hP, va_K.moved hW.alike hK, hAe ▸ hD⟩, hS.F ht⟩) hS.2.2 dX10_lostOf_10

set_option maxHeartbeats 4000000 in
set_option maxRecDepth 100000 in
theorem kM_lost (l : Launch) (dC : Nat → ClassId) (dI : Nat → Nat → Nat) (cA : ClassId) (cB : ClassId) (ad : Nat → Nat) (sz : Nat) (a1 : Int32) (a2 : Int32) (xM_typed : Int32) (xM_people : Int32) (xM_posted : Int32) (xM_hears : Int32) (xM_censuses : Int32) (xM_finding : Int32) (gMtext : Nat → Int32) (gMkinds : Nat → Int32) (gMlates : Nat → Int32) (gMscarfs : Nat → Int32) (gMhands : Nat → Int32) (gMrings : Nat → Int32) (gMmains : Nat → Int32) (gMaheadOf : Nat → Int32) (gMlastIn : Nat → Int32) (gMmanyIn : Nat → Int32) (gMsetting : Nat → Int32) (gMcomes : Nat → Int32) (gMbusyTo : Nat → Int32) (gMfeltMany : Nat → Int32) (gMfeltBits : Nat → Int32) (gMlostBits : Nat → Int32) (u : Int32 × Int32 × (Nat → Int32) × (Nat → Int32) × (Nat → Int32) × (Nat → Int32) × (Nat → Int32) × (Nat → Int32) × (Nat → Int32) × (Nat → Int32) × (Nat → Int32) × (Nat → Int32) × (Nat → Int32) × (Nat → Int32) × (Nat → Int32) × (Nat → Int32)) (hm : fM_lost a1 a2 xM_typed xM_people gMtext gMkinds gMlates gMscarfs gMhands gMrings gMmains gMaheadOf gMlastIn gMmanyIn gMsetting gMcomes gMbusyTo gMfeltMany gMfeltBits gMlostBits = some u) : Met l yX10_lost wsX10_lost ({ frames := 6, cells := 0, slots := 0, locals := 146 }) (va_Pc [.ref (ad 0), .int a1, .int a2] (fun U => U.heap.size = sz ∧ va_P (dC, dI) vwCl [oM ad xM_typed xM_people xM_posted xM_hears xM_censuses xM_finding, ar (ad 1) cA 60 gMtext, ar (ad 2) cA 20 gMkinds, ar (ad 3) cA 20 gMlates, ar (ad 4) cA 20 gMscarfs, ar (ad 5) cA 20 gMhands, ar (ad 6) cA 20 gMrings, ar (ad 7) cA 20 gMmains, ar (ad 8) cA 4 gMaheadOf, ar (ad 9) cA 4 gMlastIn, ar (ad 10) cA 4 gMmanyIn, ar (ad 11) cA 3 gMsetting, ar (ad 13) cA 8020 gMcomes, ar (ad 14) cA 20 gMbusyTo, ar (ad 15) cA 20 gMfeltMany, ar (ad 16) cA 8020 gMfeltBits, ar (ad 17) cA 8020 gMlostBits] U.heap ∧ va_K (dC, dI) vwCl [(cA, .int), (cB, .boolean)] U ∧ va_D (fun _ => True) [oM ad xM_typed xM_people xM_posted xM_hears xM_censuses xM_finding, ar (ad 1) cA 60 gMtext, ar (ad 2) cA 20 gMkinds, ar (ad 3) cA 20 gMlates, ar (ad 4) cA 20 gMscarfs, ar (ad 5) cA 20 gMhands, ar (ad 6) cA 20 gMrings, ar (ad 7) cA 20 gMmains, ar (ad 8) cA 4 gMaheadOf, ar (ad 9) cA 4 gMlastIn, ar (ad 10) cA 4 gMmanyIn, ar (ad 11) cA 3 gMsetting, ar (ad 13) cA 8020 gMcomes, ar (ad 14) cA 20 gMbusyTo, ar (ad 15) cA 20 gMfeltMany, ar (ad 16) cA 8020 gMfeltBits, ar (ad 17) cA 8020 gMlostBits])) (va_Qi (fun (r : Int32) (_ : Unit) => r = u.1) (fun (_ : Unit) t => va_P (dC, dI) vwCl [oM ad xM_typed u.2.1 xM_posted xM_hears xM_censuses xM_finding, ar (ad 1) cA 60 gMtext, ar (ad 2) cA 20 u.2.2.1, ar (ad 3) cA 20 u.2.2.2.1, ar (ad 4) cA 20 u.2.2.2.2.1, ar (ad 5) cA 20 u.2.2.2.2.2.1, ar (ad 6) cA 20 u.2.2.2.2.2.2.1, ar (ad 7) cA 20 u.2.2.2.2.2.2.2.1, ar (ad 8) cA 4 u.2.2.2.2.2.2.2.2.1, ar (ad 9) cA 4 u.2.2.2.2.2.2.2.2.2.1, ar (ad 10) cA 4 u.2.2.2.2.2.2.2.2.2.2.1, ar (ad 11) cA 3 gMsetting, ar (ad 13) cA 8020 u.2.2.2.2.2.2.2.2.2.2.2.1, ar (ad 14) cA 20 u.2.2.2.2.2.2.2.2.2.2.2.2.1, ar (ad 15) cA 20 u.2.2.2.2.2.2.2.2.2.2.2.2.2.1, ar (ad 16) cA 8020 u.2.2.2.2.2.2.2.2.2.2.2.2.2.2.1, ar (ad 17) cA 8020 u.2.2.2.2.2.2.2.2.2.2.2.2.2.2.2] t.heap ∧ va_K (dC, dI) vwCl [(cA, .int), (cB, .boolean)] t ∧ va_D (va_A [oM ad xM_typed xM_people xM_posted xM_hears xM_censuses xM_finding, ar (ad 1) cA 60 gMtext, ar (ad 2) cA 20 gMkinds, ar (ad 3) cA 20 gMlates, ar (ad 4) cA 20 gMscarfs, ar (ad 5) cA 20 gMhands, ar (ad 6) cA 20 gMrings, ar (ad 7) cA 20 gMmains, ar (ad 8) cA 4 gMaheadOf, ar (ad 9) cA 4 gMlastIn, ar (ad 10) cA 4 gMmanyIn, ar (ad 11) cA 3 gMsetting, ar (ad 13) cA 8020 gMcomes, ar (ad 14) cA 20 gMbusyTo, ar (ad 15) cA 20 gMfeltMany, ar (ad 16) cA 8020 gMfeltBits, ar (ad 17) cA 8020 gMlostBits] sz) [oM ad xM_typed u.2.1 xM_posted xM_hears xM_censuses xM_finding, ar (ad 1) cA 60 gMtext, ar (ad 2) cA 20 u.2.2.1, ar (ad 3) cA 20 u.2.2.2.1, ar (ad 4) cA 20 u.2.2.2.2.1, ar (ad 5) cA 20 u.2.2.2.2.2.1, ar (ad 6) cA 20 u.2.2.2.2.2.2.1, ar (ad 7) cA 20 u.2.2.2.2.2.2.2.1, ar (ad 8) cA 4 u.2.2.2.2.2.2.2.2.1, ar (ad 9) cA 4 u.2.2.2.2.2.2.2.2.2.1, ar (ad 10) cA 4 u.2.2.2.2.2.2.2.2.2.2.1, ar (ad 11) cA 3 gMsetting, ar (ad 13) cA 8020 u.2.2.2.2.2.2.2.2.2.2.2.1, ar (ad 14) cA 20 u.2.2.2.2.2.2.2.2.2.2.2.2.1, ar (ad 15) cA 20 u.2.2.2.2.2.2.2.2.2.2.2.2.2.1, ar (ad 16) cA 8020 u.2.2.2.2.2.2.2.2.2.2.2.2.2.2.1, ar (ad 17) cA 8020 u.2.2.2.2.2.2.2.2.2.2.2.2.2.2.2]) (va_A [oM ad xM_typed xM_people xM_posted xM_hears xM_censuses xM_finding, ar (ad 1) cA 60 gMtext, ar (ad 2) cA 20 gMkinds, ar (ad 3) cA 20 gMlates, ar (ad 4) cA 20 gMscarfs, ar (ad 5) cA 20 gMhands, ar (ad 6) cA 20 gMrings, ar (ad 7) cA 20 gMmains, ar (ad 8) cA 4 gMaheadOf, ar (ad 9) cA 4 gMlastIn, ar (ad 10) cA 4 gMmanyIn, ar (ad 11) cA 3 gMsetting, ar (ad 13) cA 8020 gMcomes, ar (ad 14) cA 20 gMbusyTo, ar (ad 15) cA 20 gMfeltMany, ar (ad 16) cA 8020 gMfeltBits, ar (ad 17) cA 8020 gMlostBits] sz)) 0 0 (va_A [oM ad xM_typed xM_people xM_posted xM_hears xM_censuses xM_finding, ar (ad 1) cA 60 gMtext, ar (ad 2) cA 20 gMkinds, ar (ad 3) cA 20 gMlates, ar (ad 4) cA 20 gMscarfs, ar (ad 5) cA 20 gMhands, ar (ad 6) cA 20 gMrings, ar (ad 7) cA 20 gMmains, ar (ad 8) cA 4 gMaheadOf, ar (ad 9) cA 4 gMlastIn, ar (ad 10) cA 4 gMmanyIn, ar (ad 11) cA 3 gMsetting, ar (ad 13) cA 8020 gMcomes, ar (ad 14) cA 20 gMbusyTo, ar (ad 15) cA 20 gMfeltMany, ar (ad 16) cA 8020 gMfeltBits, ar (ad 17) cA 8020 gMlostBits] sz) := by
  refine Met.ofW (cc := cX10_lost) (maxL := 3) (ret := (some .int)) (by decide) rfl ?_
  intro p e s m args below meth c s₁ B hml hv
  obtain ⟨rfl, hsz, hP, hK, hD0⟩ := hv
  have hx := B.exec
  have hb := B.bytes
  have hr := B.returns
  have hts := atoms_spec (ws := wsX10_lost) B.pre
  have hown : s.vm.findClass RX10 = some m.cls := findClass_of_methodNamed B.named
  have hlocks := B.notSynchronized
  subst hsz
  have hD := hD0.self (sz := s.heap.size)
  generalize hAe : va_A [oM ad xM_typed xM_people xM_posted xM_hears xM_censuses xM_finding, ar (ad 1) cA 60 gMtext, ar (ad 2) cA 20 gMkinds, ar (ad 3) cA 20 gMlates, ar (ad 4) cA 20 gMscarfs, ar (ad 5) cA 20 gMhands, ar (ad 6) cA 20 gMrings, ar (ad 7) cA 20 gMmains, ar (ad 8) cA 4 gMaheadOf, ar (ad 9) cA 4 gMlastIn, ar (ad 10) cA 4 gMmanyIn, ar (ad 11) cA 3 gMsetting, ar (ad 13) cA 8020 gMcomes, ar (ad 14) cA 20 gMbusyTo, ar (ad 15) cA 20 gMfeltMany, ar (ad 16) cA 8020 gMfeltBits, ar (ad 17) cA 8020 gMlostBits] s.heap.size = A at hD ⊢
  have hA : ∀ q : Nat, s.heap.size ≤ q → A q := fun q h => by rw [← hAe]; exact Or.inr h
  have hS : va_S A s.heap s.heap [] := va_S.rf
  have hl := lv_entry ([.ref (ad 0), .int a1, .int a2]) (n := 3) (Nat.le_of_ble_eq_true rfl)
  rw [lg_entry_eq]
  generalize (lg_sl ([.ref (ad 0), .int a1, .int a2]) ++ List.replicate (3 - (lg_sl ([.ref (ad 0), .int a1, .int a2])).length) Slot.unset).toArray = ls at hl ⊢
  have hl : lv_has ls 3 [(0, .ref (ad 0)), (1, .int a1), (2, .int a2)] := hl
  refine wk_Q (fun QQ hQ => ?_)
  unfold fM_lost at hm
  refine lv_aload_n hx hb dX10_lost_0 rfl (lv_at hl 0 rfl) ?_
  refine lv_iload_n hx hb dX10_lost_1 rfl (lv_at hl 1 rfl) ?_
  have hPc := hP.sub (ws' := [oM ad xM_typed xM_people xM_posted xM_hears xM_censuses xM_finding, ar (ad 1) cA 60 gMtext, ar (ad 2) cA 20 gMkinds, ar (ad 3) cA 20 gMlates, ar (ad 4) cA 20 gMscarfs, ar (ad 5) cA 20 gMhands, ar (ad 6) cA 20 gMrings, ar (ad 7) cA 20 gMmains, ar (ad 8) cA 4 gMaheadOf, ar (ad 9) cA 4 gMlastIn, ar (ad 10) cA 4 gMmanyIn]) [0, 1, 2, 3, 4, 5, 6, 7, 8, 9, 10] rfl
  have hDc := hD.sub (ws' := [oM ad xM_typed xM_people xM_posted xM_hears xM_censuses xM_finding, ar (ad 1) cA 60 gMtext, ar (ad 2) cA 20 gMkinds, ar (ad 3) cA 20 gMlates, ar (ad 4) cA 20 gMscarfs, ar (ad 5) cA 20 gMhands, ar (ad 6) cA 20 gMrings, ar (ad 7) cA 20 gMmains, ar (ad 8) cA 4 gMaheadOf, ar (ad 9) cA 4 gMlastIn, ar (ad 10) cA 4 gMmanyIn]) [0, 1, 2, 3, 4, 5, 6, 7, 8, 9, 10] (by decide) rfl
  have hFc := va_free (wc := [oM ad xM_typed xM_people xM_posted xM_hears xM_censuses xM_finding, ar (ad 1) cA 60 gMtext, ar (ad 2) cA 20 gMkinds, ar (ad 3) cA 20 gMlates, ar (ad 4) cA 20 gMscarfs, ar (ad 5) cA 20 gMhands, ar (ad 6) cA 20 gMrings, ar (ad 7) cA 20 gMmains, ar (ad 8) cA 4 gMaheadOf, ar (ad 9) cA 4 gMlastIn, ar (ad 10) cA 4 gMmanyIn]) hD hS hA [0, 1, 2, 3, 4, 5, 6, 7, 8, 9, 10] rfl
  obtain ⟨u_1, hc_1, hm⟩ := bd_ok hm
  refine va_calli (va_runV (As := [.int a1]) (rest := []) ⟨hx, hb, hml, hown, hts⟩ (kM_isPerson l dC dI cA cB ad s.heap.size a1 xM_typed xM_people xM_posted xM_hears xM_censuses xM_finding gMtext gMkinds gMlates gMscarfs gMhands gMrings gMmains gMaheadOf gMlastIn gMmanyIn u_1 hc_1) (cwV 1 hts gX10_lost_X10_isPerson rfl rfl rfl (by decide +kernel) ⟨Nat.le_of_ble_eq_true rfl, Nat.le_of_ble_eq_true rfl⟩) ⟨fun a U g mk q => by obtain ⟨q0, q1, qP, qK, qD⟩ := q; exact ⟨q0, q1, qP, va_K.moved (u := U) (U := U.calling g mk a) (Vm.Alike.refl U.vm) qK, qD⟩, va_recv hK hPc (ci := 10) (q0 := 0) rfl rfl, fun U hU hW => ⟨rfl, by rw [hU], by rw [hU]; exact hPc, va_K.moved hW.alike hK, hDc.weaken (fun _ _ _ _ => trivial)⟩⟩ rfl rfl hl.1 rfl (lv_room (Nat.le_of_ble_eq_true rfl)) dX10_lost_2 ⟨Nat.le_of_ble_eq_true rfl, Nat.le_of_ble_eq_true rfl⟩) hS (fun q _ h => hFc q h) hFc (fun r_1 _ t H1 locs ht hvm hw hB hz1 hk1 hS => ?_)
  obtain ⟨hP1, hK1, hD1⟩ := hB
  rw [ht] at hP1
  obtain ⟨hP, hD⟩ := va_join (wr := [ar (ad 11) cA 3 gMsetting, ar (ad 13) cA 8020 gMcomes, ar (ad 14) cA 20 gMbusyTo, ar (ad 15) cA 20 gMfeltMany, ar (ad 16) cA 8020 gMfeltBits, ar (ad 17) cA 8020 gMlostBits]) (w1 := [oM ad xM_typed u_1.2.1 xM_posted xM_hears xM_censuses xM_finding, ar (ad 1) cA 60 gMtext, ar (ad 2) cA 20 u_1.2.2.1, ar (ad 3) cA 20 u_1.2.2.2.1, ar (ad 4) cA 20 u_1.2.2.2.2.1, ar (ad 5) cA 20 u_1.2.2.2.2.2.1, ar (ad 6) cA 20 u_1.2.2.2.2.2.2.1, ar (ad 7) cA 20 u_1.2.2.2.2.2.2.2.1, ar (ad 8) cA 4 u_1.2.2.2.2.2.2.2.2.1, ar (ad 9) cA 4 u_1.2.2.2.2.2.2.2.2.2.1, ar (ad 10) cA 4 u_1.2.2.2.2.2.2.2.2.2.2]) hP hD [0, 1, 2, 3, 4, 5, 6, 7, 8, 9, 10] [11, 12, 13, 14, 15, 16] rfl rfl (by decide) (by decide) hk1 hFc hP1 hD1
  clear hPc hDc hFc hP1 hK1 hD1 hk1 hz1 hvm ht
  generalize H1 = H at hP hS ⊢
  have hP : va_P (dC, dI) vwCl [oM ad xM_typed u_1.2.1 xM_posted xM_hears xM_censuses xM_finding, ar (ad 1) cA 60 gMtext, ar (ad 2) cA 20 u_1.2.2.1, ar (ad 3) cA 20 u_1.2.2.2.1, ar (ad 4) cA 20 u_1.2.2.2.2.1, ar (ad 5) cA 20 u_1.2.2.2.2.2.1, ar (ad 6) cA 20 u_1.2.2.2.2.2.2.1, ar (ad 7) cA 20 u_1.2.2.2.2.2.2.2.1, ar (ad 8) cA 4 u_1.2.2.2.2.2.2.2.2.1, ar (ad 9) cA 4 u_1.2.2.2.2.2.2.2.2.2.1, ar (ad 10) cA 4 u_1.2.2.2.2.2.2.2.2.2.2, ar (ad 11) cA 3 gMsetting, ar (ad 13) cA 8020 gMcomes, ar (ad 14) cA 20 gMbusyTo, ar (ad 15) cA 20 gMfeltMany, ar (ad 16) cA 8020 gMfeltBits, ar (ad 17) cA 8020 gMlostBits] H := hP.sub [6, 7, 8, 9, 10, 11, 12, 13, 14, 15, 16, 0, 1, 2, 3, 4, 5] rfl
  have hD : va_D A [oM ad xM_typed u_1.2.1 xM_posted xM_hears xM_censuses xM_finding, ar (ad 1) cA 60 gMtext, ar (ad 2) cA 20 u_1.2.2.1, ar (ad 3) cA 20 u_1.2.2.2.1, ar (ad 4) cA 20 u_1.2.2.2.2.1, ar (ad 5) cA 20 u_1.2.2.2.2.2.1, ar (ad 6) cA 20 u_1.2.2.2.2.2.2.1, ar (ad 7) cA 20 u_1.2.2.2.2.2.2.2.1, ar (ad 8) cA 4 u_1.2.2.2.2.2.2.2.2.1, ar (ad 9) cA 4 u_1.2.2.2.2.2.2.2.2.2.1, ar (ad 10) cA 4 u_1.2.2.2.2.2.2.2.2.2.2, ar (ad 11) cA 3 gMsetting, ar (ad 13) cA 8020 gMcomes, ar (ad 14) cA 20 gMbusyTo, ar (ad 15) cA 20 gMfeltMany, ar (ad 16) cA 8020 gMfeltBits, ar (ad 17) cA 8020 gMlostBits] := hD.sub [6, 7, 8, 9, 10, 11, 12, 13, 14, 15, 16, 0, 1, 2, 3, 4, 5] (by decide) rfl
  have hw := hw.symm
  subst hw
  refine lv_if_eq (tgt := 24) hx hb dX10_lost_5 (by decide) (fun c_2 => ?_) (fun c_2 => ?_)
  · have hm := it_pos c_2 hm
    refine lv_bipush (v := (-2)) hx hb dX10_lost_24 (by decide) ?_
    obtain rfl := Option.some.inj hm
    subst hQ
    exact W.iret (v := (-2)) hx hb hr (fun t ht hW => ⟨⟨_, (), rfl, rfl, by rw [ht]; exact hP, va_K.moved hW.alike hK, hAe ▸ hD⟩, hS.F ht⟩) hS.2.2 dX10_lost_26
  · have hm := it_neg c_2 hm
    refine lv_iload_n hx hb dX10_lost_8 rfl (lv_at hl 2 rfl) ?_
    have hPc := hP.sub (ws' := []) [] rfl
    have hDc := hD.sub (ws' := []) [] (by decide) rfl
    have hFc := va_free (wc := []) hD hS hA [] rfl
    obtain ⟨u_3, hc_3, hm⟩ := bd_ok hm
    refine va_calli (va_runS (As := [.int a2]) (rest := []) ⟨hx, hb, hml, hown, hts⟩ (kM_isTime l dC dI cA cB ad H.size a2 u_3 hc_3) (va_cwS 1 hts gX10_lost_X10_isTime rfl rfl rfl (by decide +kernel) ⟨Nat.le_of_ble_eq_true rfl, Nat.le_of_ble_eq_true rfl⟩) ⟨fun a U g mk q => by obtain ⟨q0, q1, qP, qK, qD⟩ := q; exact ⟨q0, q1, qP, va_K.moved (u := U) (U := U.calling g mk a) (Vm.Alike.refl U.vm) qK, qD⟩, fun U hU hW => ⟨rfl, by rw [hU], by rw [hU]; exact hPc, va_K.moved hW.alike hK, hDc.weaken (fun _ _ _ _ => trivial)⟩⟩ rfl rfl hl.1 rfl (lv_room (Nat.le_of_ble_eq_true rfl)) dX10_lost_9 ⟨Nat.le_of_ble_eq_true rfl, Nat.le_of_ble_eq_true rfl⟩) hS (fun q _ h => hFc q h) hFc (fun r_3 _ t H1 locs ht hvm hw hB hz1 hk1 hS => ?_)
    obtain ⟨hP1, hK1, hD1⟩ := hB
    rw [ht] at hP1
    obtain ⟨hP, hD⟩ := va_join (wr := [oM ad xM_typed u_1.2.1 xM_posted xM_hears xM_censuses xM_finding, ar (ad 1) cA 60 gMtext, ar (ad 2) cA 20 u_1.2.2.1, ar (ad 3) cA 20 u_1.2.2.2.1, ar (ad 4) cA 20 u_1.2.2.2.2.1, ar (ad 5) cA 20 u_1.2.2.2.2.2.1, ar (ad 6) cA 20 u_1.2.2.2.2.2.2.1, ar (ad 7) cA 20 u_1.2.2.2.2.2.2.2.1, ar (ad 8) cA 4 u_1.2.2.2.2.2.2.2.2.1, ar (ad 9) cA 4 u_1.2.2.2.2.2.2.2.2.2.1, ar (ad 10) cA 4 u_1.2.2.2.2.2.2.2.2.2.2, ar (ad 11) cA 3 gMsetting, ar (ad 13) cA 8020 gMcomes, ar (ad 14) cA 20 gMbusyTo, ar (ad 15) cA 20 gMfeltMany, ar (ad 16) cA 8020 gMfeltBits, ar (ad 17) cA 8020 gMlostBits]) (w1 := []) hP hD [] [0, 1, 2, 3, 4, 5, 6, 7, 8, 9, 10, 11, 12, 13, 14, 15, 16] rfl rfl (by decide) (by decide) hk1 hFc hP1 hD1
    clear hPc hDc hFc hP1 hK1 hD1 hk1 hz1 hvm ht
    generalize H1 = H at hP hS ⊢
    have hP : va_P (dC, dI) vwCl [oM ad xM_typed u_1.2.1 xM_posted xM_hears xM_censuses xM_finding, ar (ad 1) cA 60 gMtext, ar (ad 2) cA 20 u_1.2.2.1, ar (ad 3) cA 20 u_1.2.2.2.1, ar (ad 4) cA 20 u_1.2.2.2.2.1, ar (ad 5) cA 20 u_1.2.2.2.2.2.1, ar (ad 6) cA 20 u_1.2.2.2.2.2.2.1, ar (ad 7) cA 20 u_1.2.2.2.2.2.2.2.1, ar (ad 8) cA 4 u_1.2.2.2.2.2.2.2.2.1, ar (ad 9) cA 4 u_1.2.2.2.2.2.2.2.2.2.1, ar (ad 10) cA 4 u_1.2.2.2.2.2.2.2.2.2.2, ar (ad 11) cA 3 gMsetting, ar (ad 13) cA 8020 gMcomes, ar (ad 14) cA 20 gMbusyTo, ar (ad 15) cA 20 gMfeltMany, ar (ad 16) cA 8020 gMfeltBits, ar (ad 17) cA 8020 gMlostBits] H := hP
    have hD : va_D A [oM ad xM_typed u_1.2.1 xM_posted xM_hears xM_censuses xM_finding, ar (ad 1) cA 60 gMtext, ar (ad 2) cA 20 u_1.2.2.1, ar (ad 3) cA 20 u_1.2.2.2.1, ar (ad 4) cA 20 u_1.2.2.2.2.1, ar (ad 5) cA 20 u_1.2.2.2.2.2.1, ar (ad 6) cA 20 u_1.2.2.2.2.2.2.1, ar (ad 7) cA 20 u_1.2.2.2.2.2.2.2.1, ar (ad 8) cA 4 u_1.2.2.2.2.2.2.2.2.1, ar (ad 9) cA 4 u_1.2.2.2.2.2.2.2.2.2.1, ar (ad 10) cA 4 u_1.2.2.2.2.2.2.2.2.2.2, ar (ad 11) cA 3 gMsetting, ar (ad 13) cA 8020 gMcomes, ar (ad 14) cA 20 gMbusyTo, ar (ad 15) cA 20 gMfeltMany, ar (ad 16) cA 8020 gMfeltBits, ar (ad 17) cA 8020 gMlostBits] := hD
    have hw := hw.symm
    subst hw
    refine lv_if_eq (tgt := 24) hx hb dX10_lost_12 (by decide) (fun c_4 => ?_) (fun c_4 => ?_)
    · have hm := it_pos c_4 hm
      refine lv_bipush (v := (-2)) hx hb dX10_lost_24 (by decide) ?_
      obtain rfl := Option.some.inj hm
      subst hQ
      exact W.iret (v := (-2)) hx hb hr (fun t ht hW => ⟨⟨_, (), rfl, rfl, by rw [ht]; exact hP, va_K.moved hW.alike hK, hAe ▸ hD⟩, hS.F ht⟩) hS.2.2 dX10_lost_26
    · have hm := it_neg c_4 hm
      refine lv_aload_n hx hb dX10_lost_15 rfl (lv_at hl 0 rfl) ?_
      refine lv_iload_n hx hb dX10_lost_16 rfl (lv_at hl 1 rfl) ?_
      refine lv_iload_n hx hb dX10_lost_17 rfl (lv_at hl 2 rfl) ?_
      have hPc := hP.sub (ws' := [oM ad xM_typed u_1.2.1 xM_posted xM_hears xM_censuses xM_finding, ar (ad 1) cA 60 gMtext, ar (ad 2) cA 20 u_1.2.2.1, ar (ad 3) cA 20 u_1.2.2.2.1, ar (ad 4) cA 20 u_1.2.2.2.2.1, ar (ad 5) cA 20 u_1.2.2.2.2.2.1, ar (ad 6) cA 20 u_1.2.2.2.2.2.2.1, ar (ad 7) cA 20 u_1.2.2.2.2.2.2.2.1, ar (ad 8) cA 4 u_1.2.2.2.2.2.2.2.2.1, ar (ad 9) cA 4 u_1.2.2.2.2.2.2.2.2.2.1, ar (ad 10) cA 4 u_1.2.2.2.2.2.2.2.2.2.2, ar (ad 11) cA 3 gMsetting, ar (ad 13) cA 8020 gMcomes, ar (ad 14) cA 20 gMbusyTo, ar (ad 15) cA 20 gMfeltMany, ar (ad 16) cA 8020 gMfeltBits, ar (ad 17) cA 8020 gMlostBits]) [0, 1, 2, 3, 4, 5, 6, 7, 8, 9, 10, 11, 12, 13, 14, 15, 16] rfl
      have hDc := hD.sub (ws' := [oM ad xM_typed u_1.2.1 xM_posted xM_hears xM_censuses xM_finding, ar (ad 1) cA 60 gMtext, ar (ad 2) cA 20 u_1.2.2.1, ar (ad 3) cA 20 u_1.2.2.2.1, ar (ad 4) cA 20 u_1.2.2.2.2.1, ar (ad 5) cA 20 u_1.2.2.2.2.2.1, ar (ad 6) cA 20 u_1.2.2.2.2.2.2.1, ar (ad 7) cA 20 u_1.2.2.2.2.2.2.2.1, ar (ad 8) cA 4 u_1.2.2.2.2.2.2.2.2.1, ar (ad 9) cA 4 u_1.2.2.2.2.2.2.2.2.2.1, ar (ad 10) cA 4 u_1.2.2.2.2.2.2.2.2.2.2, ar (ad 11) cA 3 gMsetting, ar (ad 13) cA 8020 gMcomes, ar (ad 14) cA 20 gMbusyTo, ar (ad 15) cA 20 gMfeltMany, ar (ad 16) cA 8020 gMfeltBits, ar (ad 17) cA 8020 gMlostBits]) [0, 1, 2, 3, 4, 5, 6, 7, 8, 9, 10, 11, 12, 13, 14, 15, 16] (by decide) rfl
      have hFc := va_free (wc := [oM ad xM_typed u_1.2.1 xM_posted xM_hears xM_censuses xM_finding, ar (ad 1) cA 60 gMtext, ar (ad 2) cA 20 u_1.2.2.1, ar (ad 3) cA 20 u_1.2.2.2.1, ar (ad 4) cA 20 u_1.2.2.2.2.1, ar (ad 5) cA 20 u_1.2.2.2.2.2.1, ar (ad 6) cA 20 u_1.2.2.2.2.2.2.1, ar (ad 7) cA 20 u_1.2.2.2.2.2.2.2.1, ar (ad 8) cA 4 u_1.2.2.2.2.2.2.2.2.1, ar (ad 9) cA 4 u_1.2.2.2.2.2.2.2.2.2.1, ar (ad 10) cA 4 u_1.2.2.2.2.2.2.2.2.2.2, ar (ad 11) cA 3 gMsetting, ar (ad 13) cA 8020 gMcomes, ar (ad 14) cA 20 gMbusyTo, ar (ad 15) cA 20 gMfeltMany, ar (ad 16) cA 8020 gMfeltBits, ar (ad 17) cA 8020 gMlostBits]) hD hS hA [0, 1, 2, 3, 4, 5, 6, 7, 8, 9, 10, 11, 12, 13, 14, 15, 16] rfl
      obtain ⟨u_5, hc_5, hm⟩ := bd_ok hm
      refine va_calli (va_runV (As := [.int a1, .int a2]) (rest := []) ⟨hx, hb, hml, hown, hts⟩ (kM_lostOf l dC dI cA cB ad H.size a1 a2 xM_typed u_1.2.1 xM_posted xM_hears xM_censuses xM_finding gMtext u_1.2.2.1 u_1.2.2.2.1 u_1.2.2.2.2.1 u_1.2.2.2.2.2.1 u_1.2.2.2.2.2.2.1 u_1.2.2.2.2.2.2.2.1 u_1.2.2.2.2.2.2.2.2.1 u_1.2.2.2.2.2.2.2.2.2.1 u_1.2.2.2.2.2.2.2.2.2.2 gMsetting gMcomes gMbusyTo gMfeltMany gMfeltBits gMlostBits u_5 hc_5) (cwV 2 hts gX10_lost_X10_lostOf rfl rfl rfl (by decide +kernel) ⟨Nat.le_of_ble_eq_true rfl, Nat.le_of_ble_eq_true rfl⟩) ⟨fun a U g mk q => by obtain ⟨q0, q1, qP, qK, qD⟩ := q; exact ⟨q0, q1, qP, va_K.moved (u := U) (U := U.calling g mk a) (Vm.Alike.refl U.vm) qK, qD⟩, va_recv hK hPc (ci := 10) (q0 := 0) rfl rfl, fun U hU hW => ⟨rfl, by rw [hU], by rw [hU]; exact hPc, va_K.moved hW.alike hK, hDc.weaken (fun _ _ _ _ => trivial)⟩⟩ rfl rfl hl.1 rfl (lv_room (Nat.le_of_ble_eq_true rfl)) dX10_lost_18 ⟨Nat.le_of_ble_eq_true rfl, Nat.le_of_ble_eq_true rfl⟩) hS (fun q _ h => hFc q h) hFc (fun r_5 _ t H1 locs ht hvm hw hB hz1 hk1 hS => ?_)
      obtain ⟨hP1, hK1, hD1⟩ := hB
      rw [ht] at hP1
      obtain ⟨hP, hD⟩ := va_join (wr := []) (w1 := [oM ad xM_typed u_5.2.1 xM_posted xM_hears xM_censuses xM_finding, ar (ad 1) cA 60 gMtext, ar (ad 2) cA 20 u_5.2.2.1, ar (ad 3) cA 20 u_5.2.2.2.1, ar (ad 4) cA 20 u_5.2.2.2.2.1, ar (ad 5) cA 20 u_5.2.2.2.2.2.1, ar (ad 6) cA 20 u_5.2.2.2.2.2.2.1, ar (ad 7) cA 20 u_5.2.2.2.2.2.2.2.1, ar (ad 8) cA 4 u_5.2.2.2.2.2.2.2.2.1, ar (ad 9) cA 4 u_5.2.2.2.2.2.2.2.2.2.1, ar (ad 10) cA 4 u_5.2.2.2.2.2.2.2.2.2.2.1, ar (ad 11) cA 3 gMsetting, ar (ad 13) cA 8020 u_5.2.2.2.2.2.2.2.2.2.2.2.1, ar (ad 14) cA 20 u_5.2.2.2.2.2.2.2.2.2.2.2.2.1, ar (ad 15) cA 20 u_5.2.2.2.2.2.2.2.2.2.2.2.2.2.1, ar (ad 16) cA 8020 u_5.2.2.2.2.2.2.2.2.2.2.2.2.2.2.1, ar (ad 17) cA 8020 u_5.2.2.2.2.2.2.2.2.2.2.2.2.2.2.2]) hP hD [0, 1, 2, 3, 4, 5, 6, 7, 8, 9, 10, 11, 12, 13, 14, 15, 16] [] rfl rfl (by decide) (by decide) hk1 hFc hP1 hD1
      clear hPc hDc hFc hP1 hK1 hD1 hk1 hz1 hvm ht
      generalize H1 = H at hP hS ⊢
      have hP : va_P (dC, dI) vwCl [oM ad xM_typed u_5.2.1 xM_posted xM_hears xM_censuses xM_finding, ar (ad 1) cA 60 gMtext, ar (ad 2) cA 20 u_5.2.2.1, ar (ad 3) cA 20 u_5.2.2.2.1, ar (ad 4) cA 20 u_5.2.2.2.2.1, ar (ad 5) cA 20 u_5.2.2.2.2.2.1, ar (ad 6) cA 20 u_5.2.2.2.2.2.2.1, ar (ad 7) cA 20 u_5.2.2.2.2.2.2.2.1, ar (ad 8) cA 4 u_5.2.2.2.2.2.2.2.2.1, ar (ad 9) cA 4 u_5.2.2.2.2.2.2.2.2.2.1, ar (ad 10) cA 4 u_5.2.2.2.2.2.2.2.2.2.2.1, ar (ad 11) cA 3 gMsetting, ar (ad 13) cA 8020 u_5.2.2.2.2.2.2.2.2.2.2.2.1, ar (ad 14) cA 20 u_5.2.2.2.2.2.2.2.2.2.2.2.2.1, ar (ad 15) cA 20 u_5.2.2.2.2.2.2.2.2.2.2.2.2.2.1, ar (ad 16) cA 8020 u_5.2.2.2.2.2.2.2.2.2.2.2.2.2.2.1, ar (ad 17) cA 8020 u_5.2.2.2.2.2.2.2.2.2.2.2.2.2.2.2] H := hP
      have hD : va_D A [oM ad xM_typed u_5.2.1 xM_posted xM_hears xM_censuses xM_finding, ar (ad 1) cA 60 gMtext, ar (ad 2) cA 20 u_5.2.2.1, ar (ad 3) cA 20 u_5.2.2.2.1, ar (ad 4) cA 20 u_5.2.2.2.2.1, ar (ad 5) cA 20 u_5.2.2.2.2.2.1, ar (ad 6) cA 20 u_5.2.2.2.2.2.2.1, ar (ad 7) cA 20 u_5.2.2.2.2.2.2.2.1, ar (ad 8) cA 4 u_5.2.2.2.2.2.2.2.2.1, ar (ad 9) cA 4 u_5.2.2.2.2.2.2.2.2.2.1, ar (ad 10) cA 4 u_5.2.2.2.2.2.2.2.2.2.2.1, ar (ad 11) cA 3 gMsetting, ar (ad 13) cA 8020 u_5.2.2.2.2.2.2.2.2.2.2.2.1, ar (ad 14) cA 20 u_5.2.2.2.2.2.2.2.2.2.2.2.2.1, ar (ad 15) cA 20 u_5.2.2.2.2.2.2.2.2.2.2.2.2.2.1, ar (ad 16) cA 8020 u_5.2.2.2.2.2.2.2.2.2.2.2.2.2.2.1, ar (ad 17) cA 8020 u_5.2.2.2.2.2.2.2.2.2.2.2.2.2.2.2] := hD
      have hw := hw.symm
      subst hw
      refine lv_goto (tgt := 26) hx hb dX10_lost_21 (by decide) ?_
      obtain rfl := Option.some.inj hm
      subst hQ
      exact W.iret (v := u_5.1) hx hb hr (fun t ht hW => ⟨⟨_, (), rfl, rfl, by rw [ht]; exact hP, va_K.moved hW.alike hK, hAe ▸ hD⟩, hS.F ht⟩) hS.2.2 dX10_lost_26
