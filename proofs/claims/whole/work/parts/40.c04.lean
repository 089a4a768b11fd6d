set_option maxHeartbeats 4000000 in
set_option maxRecDepth 100000 in
theorem kM_posts (l : Launch) (dC : Nat → ClassId) (dI : Nat → Nat → Nat) (cA : ClassId) (cB : ClassId) (ad : Nat → Nat) (sz : Nat) (a1 : Int32) (xM_typed : Int32) (xM_people : Int32) (xM_posted : Int32) (xM_hears : Int32) (xM_censuses : Int32) (xM_finding : Int32) (gMtext : Nat → Int32) (gMkinds : Nat → Int32) (gMlates : Nat → Int32) (gMscarfs : Nat → Int32) (gMhands : Nat → Int32) (gMrings : Nat → Int32) (gMmains : Nat → Int32) (gMaheadOf : Nat → Int32) (gMlastIn : Nat → Int32) (gMmanyIn : Nat → Int32) (gMsetting : Nat → Int32) (gMlimit : Nat → Int32) (gMcomes : Nat → Int32) (gMbusyTo : Nat → Int32) (gMfeltMany : Nat → Int32) (gMfeltBits : Nat → Int32) (gMlostBits : Nat → Int32) (gMpostWho : Nat → Int32) (gMpostTime : Nat → Int32) (gMpicks : Nat → Int32) (gMbestPicks : Nat → Int32) (u : Int32 × Int32 × Int32 × (Nat → Int32) × (Nat → Int32) × (Nat → Int32) × (Nat → Int32) × (Nat → Int32) × (Nat → Int32) × (Nat → Int32) × (Nat → Int32) × (Nat → Int32) × (Nat → Int32) × (Nat → Int32) × (Nat → Int32) × (Nat → Int32) × (Nat → Int32) × (Nat → Int32) × (Nat → Int32) × (Nat → Int32) × (Nat → Int32)) (hm : fM_posts a1 xM_typed xM_people xM_posted gMtext gMkinds gMlates gMscarfs gMhands gMrings gMmains gMaheadOf gMlastIn gMmanyIn gMsetting gMlimit gMcomes gMbusyTo gMfeltMany gMfeltBits gMlostBits gMpostWho gMpostTime gMpicks gMbestPicks = some u) : Met l yX10_posts wsX10_posts ({ frames := 7, cells := 0, slots := 0, locals := 168 }) (va_Pc [.ref (ad 0), .int a1] (fun U => U.heap.size = sz ∧ va_P (dC, dI) vwCl [oM ad xM_typed xM_people xM_posted xM_hears xM_censuses xM_finding, ar (ad 1) cA 60 gMtext, ar (ad 2) cA 20 gMkinds, ar (ad 3) cA 20 gMlates, ar (ad 4) cA 20 gMscarfs, ar (ad 5) cA 20 gMhands, ar (ad 6) cA 20 gMrings, ar (ad 7) cA 20 gMmains, ar (ad 8) cA 4 gMaheadOf, ar (ad 9) cA 4 gMlastIn, ar (ad 10) cA 4 gMmanyIn, ar (ad 11) cA 3 gMsetting, ar (ad 12) cA 3 gMlimit, ar (ad 13) cA 8020 gMcomes, ar (ad 14) cA 20 gMbusyTo, ar (ad 15) cA 20 gMfeltMany, ar (ad 16) cA 8020 gMfeltBits, ar (ad 17) cA 8020 gMlostBits, ar (ad 18) cA 20 gMpostWho, ar (ad 19) cA 20 gMpostTime, ar (ad 20) cA 5 gMpicks, ar (ad 21) cA 5 gMbestPicks] U.heap ∧ va_K (dC, dI) vwCl [(cA, .int), (cB, .boolean)] U ∧ va_D (fun _ => True) [oM ad xM_typed xM_people xM_posted xM_hears xM_censuses xM_finding, ar (ad 1) cA 60 gMtext, ar (ad 2) cA 20 gMkinds, ar (ad 3) cA 20 gMlates, ar (ad 4) cA 20 gMscarfs, ar (ad 5) cA 20 gMhands, ar (ad 6) cA 20 gMrings, ar (ad 7) cA 20 gMmains, ar (ad 8) cA 4 gMaheadOf, ar (ad 9) cA 4 gMlastIn, ar (ad 10) cA 4 gMmanyIn, ar (ad 11) cA 3 gMsetting, ar (ad 12) cA 3 gMlimit, ar (ad 13) cA 8020 gMcomes, ar (ad 14) cA 20 gMbusyTo, ar (ad 15) cA 20 gMfeltMany, ar (ad 16) cA 8020 gMfeltBits, ar (ad 17) cA 8020 gMlostBits, ar (ad 18) cA 20 gMpostWho, ar (ad 19) cA 20 gMpostTime, ar (ad 20) cA 5 gMpicks, ar (ad 21) cA 5 gMbestPicks])) (va_Qi (fun (r : Int32) (_ : Unit) => r = u.1) (fun (_ : Unit) t => va_P (dC, dI) vwCl [oM ad xM_typed u.2.1 u.2.2.1 xM_hears xM_censuses xM_finding, ar (ad 1) cA 60 gMtext, ar (ad 2) cA 20 u.2.2.2.1, ar (ad 3) cA 20 u.2.2.2.2.1, ar (ad 4) cA 20 u.2.2.2.2.2.1, ar (ad 5) cA 20 u.2.2.2.2.2.2.1, ar (ad 6) cA 20 u.2.2.2.2.2.2.2.1, ar (ad 7) cA 20 u.2.2.2.2.2.2.2.2.1, ar (ad 8) cA 4 u.2.2.2.2.2.2.2.2.2.1, ar (ad 9) cA 4 u.2.2.2.2.2.2.2.2.2.2.1, ar (ad 10) cA 4 u.2.2.2.2.2.2.2.2.2.2.2.1, ar (ad 11) cA 3 gMsetting, ar (ad 12) cA 3 gMlimit, ar (ad 13) cA 8020 u.2.2.2.2.2.2.2.2.2.2.2.2.1, ar (ad 14) cA 20 u.2.2.2.2.2.2.2.2.2.2.2.2.2.1, ar (ad 15) cA 20 u.2.2.2.2.2.2.2.2.2.2.2.2.2.2.1, ar (ad 16) cA 8020 u.2.2.2.2.2.2.2.2.2.2.2.2.2.2.2.1, ar (ad 17) cA 8020 u.2.2.2.2.2.2.2.2.2.2.2.2.2.2.2.2.1, ar (ad 18) cA 20 u.2.2.2.2.2.2.2.2.2.2.2.2.2.2.2.2.2.1, ar (ad 19) cA 20 u.2.2.2.2.2.2.2.2.2.2.2.2.2.2.2.2.2.2.1, ar (ad 20) cA 5 u.2.2.2.2.2.2.2.2.2.2.2.2.2.2.2.2.2.2.2.1, ar (ad 21) cA 5 u.2.2.2.2.2.2.2.2.2.2.2.2.2.2.2.2.2.2.2.2] t.heap ∧ va_K (dC, dI) vwCl [(cA, .int), (cB, .boolean)] t ∧ va_D (va_A [oM ad xM_typed xM_people xM_posted xM_hears xM_censuses xM_finding, ar (ad 1) cA 60 gMtext, ar (ad 2) cA 20 gMkinds, ar (ad 3) cA 20 gMlates, ar (ad 4) cA 20 gMscarfs, ar (ad 5) cA 20 gMhands, ar (ad 6) cA 20 gMrings, ar (ad 7) cA 20 gMmains, ar (ad 8) cA 4 gMaheadOf, ar (ad 9) cA 4 gMlastIn, ar (ad 10) cA 4 gMmanyIn, ar (ad 11) cA 3 gMsetting, ar (ad 12) cA 3 gMlimit, ar (ad 13) cA 8020 gMcomes, ar (ad 14) cA 20 gMbusyTo, ar (ad 15) cA 20 gMfeltMany, ar (ad 16) cA 8020 gMfeltBits, ar (ad 17) cA 8020 gMlostBits, ar (ad 18) cA 20 gMpostWho, ar (ad 19) cA 20 gMpostTime, ar (ad 20) cA 5 gMpicks, ar (ad 21) cA 5 gMbestPicks] sz) [oM ad xM_typed u.2.1 u.2.2.1 xM_hears xM_censuses xM_finding, ar (ad 1) cA 60 gMtext, ar (ad 2) cA 20 u.2.2.2.1, ar (ad 3) cA 20 u.2.2.2.2.1, ar (ad 4) cA 20 u.2.2.2.2.2.1, ar (ad 5) cA 20 u.2.2.2.2.2.2.1, ar (ad 6) cA 20 u.2.2.2.2.2.2.2.1, ar (ad 7) cA 20 u.2.2.2.2.2.2.2.2.1, ar (ad 8) cA 4 u.2.2.2.2.2.2.2.2.2.1, ar (ad 9) cA 4 u.2.2.2.2.2.2.2.2.2.2.1, ar (ad 10) cA 4 u.2.2.2.2.2.2.2.2.2.2.2.1, ar (ad 11) cA 3 gMsetting, ar (ad 12) cA 3 gMlimit, ar (ad 13) cA 8020 u.2.2.2.2.2.2.2.2.2.2.2.2.1, ar (ad 14) cA 20 u.2.2.2.2.2.2.2.2.2.2.2.2.2.1, ar (ad 15) cA 20 u.2.2.2.2.2.2.2.2.2.2.2.2.2.2.1, ar (ad 16) cA 8020 u.2.2.2.2.2.2.2.2.2.2.2.2.2.2.2.1, ar (ad 17) cA 8020 u.2.2.2.2.2.2.2.2.2.2.2.2.2.2.2.2.1, ar (ad 18) cA 20 u.2.2.2.2.2.2.2.2.2.2.2.2.2.2.2.2.2.1, ar (ad 19) cA 20 u.2.2.2.2.2.2.2.2.2.2.2.2.2.2.2.2.2.2.1, ar (ad 20) cA 5 u.2.2.2.2.2.2.2.2.2.2.2.2.2.2.2.2.2.2.2.1, ar (ad 21) cA 5 u.2.2.2.2.2.2.2.2.2.2.2.2.2.2.2.2.2.2.2.2]) (va_A [oM ad xM_typed xM_people xM_posted xM_hears xM_censuses xM_finding, ar (ad 1) cA 60 gMtext, ar (ad 2) cA 20 gMkinds, ar (ad 3) cA 20 gMlates, ar (ad 4) cA 20 gMscarfs, ar (ad 5) cA 20 gMhands, ar (ad 6) cA 20 gMrings, ar (ad 7) cA 20 gMmains, ar (ad 8) cA 4 gMaheadOf, ar (ad 9) cA 4 gMlastIn, ar (ad 10) cA 4 gMmanyIn, ar (ad 11) cA 3 gMsetting, ar (ad 12) cA 3 gMlimit, ar (ad 13) cA 8020 gMcomes, ar (ad 14) cA 20 gMbusyTo, ar (ad 15) cA 20 gMfeltMany, ar (ad 16) cA 8020 gMfeltBits, ar (ad 17) cA 8020 gMlostBits, ar (ad 18) cA 20 gMpostWho, ar (ad 19) cA 20 gMpostTime, ar (ad 20) cA 5 gMpicks, ar (ad 21) cA 5 gMbestPicks] sz)) 0 0 (va_A [oM ad xM_typed xM_people xM_posted xM_hears xM_censuses xM_finding, ar (ad 1) cA 60 gMtext, ar (ad 2) cA 20 gMkinds, ar (ad 3) cA 20 gMlates, ar (ad 4) cA 20 gMscarfs, ar (ad 5) cA 20 gMhands, ar (ad 6) cA 20 gMrings, ar (ad 7) cA 20 gMmains, ar (ad 8) cA 4 gMaheadOf, ar (ad 9) cA 4 gMlastIn, ar (ad 10) cA 4 gMmanyIn, ar (ad 11) cA 3 gMsetting, ar (ad 12) cA 3 gMlimit, ar (ad 13) cA 8020 gMcomes, ar (ad 14) cA 20 gMbusyTo, ar (ad 15) cA 20 gMfeltMany, ar (ad 16) cA 8020 gMfeltBits, ar (ad 17) cA 8020 gMlostBits, ar (ad 18) cA 20 gMpostWho, ar (ad 19) cA 20 gMpostTime, ar (ad 20) cA 5 gMpicks, ar (ad 21) cA 5 gMbestPicks] sz) := by
  refine Met.ofW (cc := cX10_posts) (maxL := 2) (ret := (some .int)) (by decide) rfl ?_
  intro p e s m args below meth c s₁ B hml hv
  obtain ⟨rfl, hsz, hP, hK, hD0⟩ := hv
  have hx := B.exec
  have hb := B.bytes
  have hr := B.returns
  have hts := atoms_spec (ws := wsX10_posts) B.pre
  have hown : s.vm.findClass RX10 = some m.cls := findClass_of_methodNamed B.named
  have hlocks := B.notSynchronized
  subst hsz
  have hD := hD0.self (sz := s.heap.size)
  generalize hAe : va_A [oM ad xM_typed xM_people xM_posted xM_hears xM_censuses xM_finding, ar (ad 1) cA 60 gMtext, ar (ad 2) cA 20 gMkinds, ar (ad 3) cA 20 gMlates, ar (ad 4) cA 20 gMscarfs, ar (ad 5) cA 20 gMhands, ar (ad 6) cA 20 gMrings, ar (ad 7) cA 20 gMmains, ar (ad 8) cA 4 gMaheadOf, ar (ad 9) cA 4 gMlastIn, ar (ad 10) cA 4 gMmanyIn, ar (ad 11) cA 3 gMsetting, ar (ad 12) cA 3 gMlimit, ar (ad 13) cA 8020 gMcomes, ar (ad 14) cA 20 gMbusyTo, ar (ad 15) cA 20 gMfeltMany, ar (ad 16) cA 8020 gMfeltBits, ar (ad 17) cA 8020 gMlostBits, ar (ad 18) cA 20 gMpostWho, ar (ad 19) cA 20 gMpostTime, ar (ad 20) cA 5 gMpicks, ar (ad 21) cA 5 gMbestPicks] s.heap.size = A at hD ⊢
  have hA : ∀ q : Nat, s.heap.size ≤ q → A q := fun q h => by rw [← hAe]; exact Or.inr h
  have hS : va_S A s.heap s.heap [] := va_S.rf
  have hl := lv_entry ([.ref (ad 0), .int a1]) (n := 2) (Nat.le_of_ble_eq_true rfl)
  rw [lg_entry_eq]
  generalize (lg_sl ([.ref (ad 0), .int a1]) ++ List.replicate (2 - (lg_sl ([.ref (ad 0), .int a1])).length) Slot.unset).toArray = ls at hl ⊢
  have hl : lv_has ls 2 [(0, .ref (ad 0)), (1, .int a1)] := hl
  refine wk_Q (fun QQ hQ => ?_)
  unfold fM_posts at hm
  refine lv_iload_n hx hb dX10_posts_0 rfl (lv_at hl 1 rfl) ?_
  refine lv_iconst (v := 0) hx hb dX10_posts_1 (by decide) ?_
  refine lv_sipush (v := 9999) hx hb dX10_posts_2 (by decide) ?_
  have hPc := hP.sub (ws' := []) [] rfl
  have hDc := hD.sub (ws' := []) [] (by decide) rfl
  have hFc := va_free (wc := []) hD hS hA [] rfl
  obtain ⟨u_1, hc_1, hm⟩ := bd_ok hm
  refine va_calli (va_runS (As := [.int a1, .int 0, .int 9999]) (rest := []) ⟨hx, hb, hml, hown, hts⟩ (kM_in l dC dI cA cB ad s.heap.size a1 0 9999 u_1 hc_1) (va_cwS 3 hts gX10_posts_X10_in rfl rfl rfl (by decide +kernel) ⟨Nat.le_of_ble_eq_true rfl, Nat.le_of_ble_eq_true rfl⟩) ⟨fun a U g mk q => by obtain ⟨q0, q1, qP, qK, qD⟩ := q; exact ⟨q0, q1, qP, va_K.moved (u := U) (U := U.calling g mk a) (Vm.Alike.refl U.vm) qK, qD⟩, fun U hU hW => ⟨rfl, by rw [hU], by rw [hU]; exact hPc, va_K.moved hW.alike hK, hDc.weaken (fun _ _ _ _ => trivial)⟩⟩ rfl rfl hl.1 rfl (lv_room (Nat.le_of_ble_eq_true rfl)) dX10_posts_5 ⟨Nat.le_of_ble_eq_true rfl, Nat.le_of_ble_eq_true rfl⟩) hS (fun q _ h => hFc q h) hFc (fun r_1 _ t H1 locs ht hvm hw hB hz1 hk1 hS => ?_)
  obtain ⟨hP1, hK1, hD1⟩ := hB
  rw [ht] at hP1
  obtain ⟨hP, hD⟩ := va_join (wr := [oM ad xM_typed xM_people xM_posted xM_hears xM_censuses xM_finding, ar (ad 1) cA 60 gMtext, ar (ad 2) cA 20 gMkinds, ar (ad 3) cA 20 gMlates, ar (ad 4) cA 20 gMscarfs, ar (ad 5) cA 20 gMhands, ar (ad 6) cA 20 gMrings, ar (ad 7) cA 20 gMmains, ar (ad 8) cA 4 gMaheadOf, ar (ad 9) cA 4 gMlastIn, ar (ad 10) cA 4 gMmanyIn, ar (ad 11) cA 3 gMsetting, ar (ad 12) cA 3 gMlimit, ar (ad 13) cA 8020 gMcomes, ar (ad 14) cA 20 gMbusyTo, ar (ad 15) cA 20 gMfeltMany, ar (ad 16) cA 8020 gMfeltBits, ar (ad 17) cA 8020 gMlostBits, ar (ad 18) cA 20 gMpostWho, ar (ad 19) cA 20 gMpostTime, ar (ad 20) cA 5 gMpicks, ar (ad 21) cA 5 gMbestPicks]) (w1 := []) hP hD [] [0, 1, 2, 3, 4, 5, 6, 7, 8, 9, 10, 11, 12, 13, 14, 15, 16, 17, 18, 19, 20, 21] rfl rfl (by decide) (by decide) hk1 hFc hP1 hD1
  clear hPc hDc hFc hP1 hK1 hD1 hk1 hz1 hvm ht
  generalize H1 = H at hP hS ⊢
  have hP : va_P (dC, dI) vwCl [oM ad xM_typed xM_people xM_posted xM_hears xM_censuses xM_finding, ar (ad 1) cA 60 gMtext, ar (ad 2) cA 20 gMkinds, ar (ad 3) cA 20 gMlates, ar (ad 4) cA 20 gMscarfs, ar (ad 5) cA 20 gMhands, ar (ad 6) cA 20 gMrings, ar (ad 7) cA 20 gMmains, ar (ad 8) cA 4 gMaheadOf, ar (ad 9) cA 4 gMlastIn, ar (ad 10) cA 4 gMmanyIn, ar (ad 11) cA 3 gMsetting, ar (ad 12) cA 3 gMlimit, ar (ad 13) cA 8020 gMcomes, ar (ad 14) cA 20 gMbusyTo, ar (ad 15) cA 20 gMfeltMany, ar (ad 16) cA 8020 gMfeltBits, ar (ad 17) cA 8020 gMlostBits, ar (ad 18) cA 20 gMpostWho, ar (ad 19) cA 20 gMpostTime, ar (ad 20) cA 5 gMpicks, ar (ad 21) cA 5 gMbestPicks] H := hP
  have hD : va_D A [oM ad xM_typed xM_people xM_posted xM_hears xM_censuses xM_finding, ar (ad 1) cA 60 gMtext, ar (ad 2) cA 20 gMkinds, ar (ad 3) cA 20 gMlates, ar (ad 4) cA 20 gMscarfs, ar (ad 5) cA 20 gMhands, ar (ad 6) cA 20 gMrings, ar (ad 7) cA 20 gMmains, ar (ad 8) cA 4 gMaheadOf, ar (ad 9) cA 4 gMlastIn, ar (ad 10) cA 4 gMmanyIn, ar (ad 11) cA 3 gMsetting, ar (ad 12) cA 3 gMlimit, ar (ad 13) cA 8020 gMcomes, ar (ad 14) cA 20 gMbusyTo, ar (ad 15) cA 20 gMfeltMany, ar (ad 16) cA 8020 gMfeltBits, ar (ad 17) cA 8020 gMlostBits, ar (ad 18) cA 20 gMpostWho, ar (ad 19) cA 20 gMpostTime, ar (ad 20) cA 5 gMpicks, ar (ad 21) cA 5 gMbestPicks] := hD
  have hw := hw.symm
  subst hw
  refine lv_if_eq (tgt := 19) hx hb dX10_posts_8 (by decide) (fun c_2 => ?_) (fun c_2 => ?_)
  · have hm := it_pos c_2 hm
    refine lv_bipush (v := (-2)) hx hb dX10_posts_19 (by decide) ?_
    obtain rfl := Option.some.inj hm
    subst hQ
    exact W.iret (v := (-2)) hx hb hr (fun t ht hW => ⟨⟨_, (), rfl, rfl, by rw [ht]; exact hP, va_K.moved hW.alike hK, hAe ▸ hD⟩, hS.F ht⟩) hS.2.2 dX10_posts_21
  · have hm := it_neg c_2 hm
    refine lv_aload_n hx hb dX10_posts_11 rfl (lv_at hl 0 rfl) ?_
    refine lv_iload_n hx hb dX10_posts_12 rfl (lv_at hl 1 rfl) ?_
    have hPc := hP.sub (ws' := [oM ad xM_typed xM_people xM_posted xM_hears xM_censuses xM_finding, ar (ad 1) cA 60 gMtext, ar (ad 2) cA 20 gMkinds, ar (ad 3) cA 20 gMlates, ar (ad 4) cA 20 gMscarfs, ar (ad 5) cA 20 gMhands, ar (ad 6) cA 20 gMrings, ar (ad 7) cA 20 gMmains, ar (ad 8) cA 4 gMaheadOf, ar (ad 9) cA 4 gMlastIn, ar (ad 10) cA 4 gMmanyIn, ar (ad 11) cA 3 gMsetting, ar (ad 12) cA 3 gMlimit, ar (ad 13) cA 8020 gMcomes, ar (ad 14) cA 20 gMbusyTo, ar (ad 15) cA 20 gMfeltMany, ar (ad 16) cA 8020 gMfeltBits, ar (ad 17) cA 8020 gMlostBits, ar (ad 18) cA 20 gMpostWho, ar (ad 19) cA 20 gMpostTime, ar (ad 20) cA 5 gMpicks, ar (ad 21) cA 5 gMbestPicks]) [0, 1, 2, 3, 4, 5, 6, 7, 8, 9, 10, 11, 12, 13, 14, 15, 16, 17, 18, 19, 20, 21] rfl
    have hDc := hD.sub (ws' := [oM ad xM_typed xM_people xM_posted xM_hears xM_censuses xM_finding, ar (ad 1) cA 60 gMtext, ar (ad 2) cA 20 gMkinds, ar (ad 3) cA 20 gMlates, ar (ad 4) cA 20 gMscarfs, ar (ad 5) cA 20 gMhands, ar (ad 6) cA 20 gMrings, ar (ad 7) cA 20 gMmains, ar (ad 8) cA 4 gMaheadOf, ar (ad 9) cA 4 gMlastIn, ar (ad 10) cA 4 gMmanyIn, ar (ad 11) cA 3 gMsetting, ar (ad 12) cA 3 gMlimit, ar (ad 13) cA 8020 gMcomes, ar (ad 14) cA 20 gMbusyTo, ar (ad 15) cA 20 gMfeltMany, ar (ad 16) cA 8020 gMfeltBits, ar (ad 17) cA 8020 gMlostBits, ar (ad 18) cA 20 gMpostWho, ar (ad 19) cA 20 gMpostTime, ar (ad 20) cA 5 gMpicks, ar (ad 21) cA 5 gMbestPicks]) [0, 1, 2, 3, 4, 5, 6, 7, 8, 9, 10, 11, 12, 13, 14, 15, 16, 17, 18, 19, 20, 21] (by decide) rfl
    have hFc := va_free (wc := [oM ad xM_typed xM_people xM_posted xM_hears xM_censuses xM_finding, ar (ad 1) cA 60 gMtext, ar (ad 2) cA 20 gMkinds, ar (ad 3) cA 20 gMlates, ar (ad 4) cA 20 gMscarfs, ar (ad 5) cA 20 gMhands, ar (ad 6) cA 20 gMrings, ar (ad 7) cA 20 gMmains, ar (ad 8) cA 4 gMaheadOf, ar (ad 9) cA 4 gMlastIn, ar (ad 10) cA 4 gMmanyIn, ar (ad 11) cA 3 gMsetting, ar (ad 12) cA 3 gMlimit, ar (ad 13) cA 8020 gMcomes, ar (ad 14) cA 20 gMbusyTo, ar (ad 15) cA 20 gMfeltMany, ar (ad 16) cA 8020 gMfeltBits, ar (ad 17) cA 8020 gMlostBits, ar (ad 18) cA 20 gMpostWho, ar (ad 19) cA 20 gMpostTime, ar (ad 20) cA 5 gMpicks, ar (ad 21) cA 5 gMbestPicks]) hD hS hA [0, 1, 2, 3, 4, 5, 6, 7, 8, 9, 10, 11, 12, 13, 14, 15, 16, 17, 18, 19, 20, 21] rfl
    obtain ⟨u_3, hc_3, hm⟩ := bd_ok hm
    refine va_calli (va_runV (As := [.int a1]) (rest := []) ⟨hx, hb, hml, hown, hts⟩ (kM_postsOf l dC dI cA cB ad H.size a1 xM_typed xM_people xM_posted xM_hears xM_censuses xM_finding gMtext gMkinds gMlates gMscarfs gMhands gMrings gMmains gMaheadOf gMlastIn gMmanyIn gMsetting gMlimit gMcomes gMbusyTo gMfeltMany gMfeltBits gMlostBits gMpostWho gMpostTime gMpicks gMbestPicks u_3 hc_3) (cwV 1 hts gX10_posts_X10_postsOf rfl rfl rfl (by decide +kernel) ⟨Nat.le_of_ble_eq_true rfl, Nat.le_of_ble_eq_true rfl⟩) ⟨fun a U g mk q => by obtain ⟨q0, q1, qP, qK, qD⟩ := q; exact ⟨q0, q1, qP, va_K.moved (u := U) (U := U.calling g mk a) (Vm.Alike.refl U.vm) qK, qD⟩, va_recv hK hPc (ci := 10) (q0 := 0) rfl rfl, fun U hU hW => ⟨rfl, by rw [hU], by rw [hU]; exact hPc, va_K.moved hW.alike hK, hDc.weaken (fun _ _ _ _ => trivial)⟩⟩ rfl rfl hl.1 rfl (lv_room (Nat.le_of_ble_eq_true rfl)) dX10_posts_13 ⟨Nat.le_of_ble_eq_true rfl, Nat.le_of_ble_eq_true rfl⟩) hS (fun q _ h => hFc q h) hFc (fun r_3 _ t H1 locs ht hvm hw hB hz1 hk1 hS => ?_)
    obtain ⟨hP1, hK1, hD1⟩ := hB
    rw [ht] at hP1
    obtain ⟨hP, hD⟩ := va_join (wr := []) (w1 := [oM ad xM_typed u_3.2.1 u_3.2.2.1 xM_hears xM_censuses xM_finding, ar (ad 1) cA 60 gMtext, ar (ad 2) cA 20 u_3.2.2.2.1, ar (ad 3) cA 20 u_3.2.2.2.2.1, ar (ad 4) cA 20 u_3.2.2.2.2.2.1, ar (ad 5) cA 20 u_3.2.2.2.2.2.2.1, ar (ad 6) cA 20 u_3.2.2.2.2.2.2.2.1, ar (ad 7) cA 20 u_3.2.2.2.2.2.2.2.2.1, ar (ad 8) cA 4 u_3.2.2.2.2.2.2.2.2.2.1, ar (ad 9) cA 4 u_3.2.2.2.2.2.2.2.2.2.2.1, ar (ad 10) cA 4 u_3.2.2.2.2.2.2.2.2.2.2.2.1, ar (ad 11) cA 3 gMsetting, ar (ad 12) cA 3 gMlimit, ar (ad 13) cA 8020 u_3.2.2.2.2.2.2.2.2.2.2.2.2.1, ar (ad 14) cA 20 u_3.2.2.2.2.2.2.2.2.2.2.2.2.2.1, ar (ad 15) cA 20 u_3.2.2.2.2.2.2.2.2.2.2.2.2.2.2.1, ar (ad 16) cA 8020 u_3.2.2.2.2.2.2.2.2.2.2.2.2.2.2.2.1, ar (ad 17) cA 8020 u_3.2.2.2.2.2.2.2.2.2.2.2.2.2.2.2.2.1, ar (ad 18) cA 20 u_3.2.2.2.2.2.2.2.2.2.2.2.2.2.2.2.2.2.1, ar (ad 19) cA 20 u_3.2.2.2.2.2.2.2.2.2.2.2.2.2.2.2.2.2.2.1, ar (ad 20) cA 5 u_3.2.2.2.2.2.2.2.2.2.2.2.2.2.2.2.2.2.2.2.1, ar (ad 21) cA 5 u_3.2.2.2.2.2.2.2.2.2.2.2.2.2.2.2.2.2.2.2.2]) hP hD [0, 1, 2, 3, 4, 5, 6, 7, 8, 9, 10, 11, 12, 13, 14, 15, 16, 17, 18, 19, 20, 21] [] rfl rfl (by decide) (by decide) hk1 hFc hP1 hD1
    clear hPc hDc hFc hP1 hK1 hD1 hk1 hz1 hvm ht
    generalize H1 = H at hP hS ⊢
    have hP : va_P (dC, dI) vwCl [oM ad xM_typed u_3.2.1 u_3.2.2.1 xM_hears xM_censuses xM_finding, ar (ad 1) cA 60 gMtext, ar (ad 2) cA 20 u_3.2.2.2.1, ar (ad 3) cA 20 u_3.2.2.2.2.1, ar (ad 4) cA 20 u_3.2.2.2.2.2.1, ar (ad 5) cA 20 u_3.2.2.2.2.2.2.1, ar (ad 6) cA 20 u_3.2.2.2.2.2.2.2.1, ar (ad 7) cA 20 u_3.2.2.2.2.2.2.2.2.1, ar (ad 8) cA 4 u_3.2.2.2.2.2.2.2.2.2.1, ar (ad 9) cA 4 u_3.2.2.2.2.2.2.2.2.2.2.1, ar (ad 10) cA 4 u_3.2.2.2.2.2.2.2.2.2.2.2.1, ar (ad 11) cA 3 gMsetting, ar (ad 12) cA 3 gMlimit, ar (ad 13) cA 8020 u_3.2.2.2.2.2.2.2.2.2.2.2.2.1, ar (ad 14) cA 20 u_3.2.2.2.2.2.2.2.2.2.2.2.2.2.1, ar (ad 15) cA 20 u_3.2.2.2.2.2.2.2.2.2.2.2.2.2.2.1, ar (ad 16) cA 8020 u_3.2.2.2.2.2.2.2.2.2.2.2.2.2.2.2.1, ar (ad 17) cA 8020 u_3.2.2.2.2.2.2.2.2.2.2.2.2.2.2.2.2.1, ar (ad 18) cA 20 u_3.2.2.2.2.2.2.2.2.2.2.2.2.2.2.2.2.2.1, ar (ad 19) cA 20 u_3.2.2.2.2.2.2.2.2.2.2.2.2.2.2.2.2.2.2.1, ar (ad 20) cA 5 u_3.2.2.2.2.2.2.2.2.2.2.2.2.2.2.2.2.2.2.2.1, ar (ad 21) cA 5 u_3.2.2.2.2.2.2.2.2.2.2.2.2.2.2.2.2.2.2.2.2] H := hP
    have hD : va_D A [oM ad xM_typed u_3.2.1 u_3.2.2.1 xM_hears xM_censuses xM_finding, ar (ad 1) cA 60 gMtext, ar (ad 2) cA 20 u_3.2.2.2.1, ar (ad 3) cA 20 u_3.2.2.2.2.1, ar (ad 4) cA 20 u_3.2.2.2.2.2.1, ar (ad 5) cA 20 u_3.2.2.2.2.2.2.1, ar (ad 6) cA 20 u_3.2.2.2.2.2.2.2.1, ar (ad 7) cA 20 u_3.2.2.2.2.2.2.2.2.1, ar (ad 8) cA 4 u_3.2.2.2.2.2.2.2.2.2.1, ar (ad 9) cA 4 u_3.2.2.2.2.2.2.2.2.2.2.1, ar (ad 10) cA 4 u_3.2.2.2.2.2.2.2.2.2.2.2.1, ar (ad 11) cA 3 gMsetting, ar (ad 12) cA 3 gMlimit, ar (ad 13) cA 8020 u_3.2.2.2.2.2.2.2.2.2.2.2.2.1, ar (ad 14) cA 20 u_3.2.2.2.2.2.2.2.2.2.2.2.2.2.1, ar (ad 15) cA 20 u_3.2.2.2.2.2.2.2.2.2.2.2.2.2.2.1, ar (ad 16) cA 8020 u_3.2.2.2.2.2.2.2.2.2.2.2.2.2.2.2.1, ar (ad 17) cA 8020 u_3.2.2.2.2.2.2.2.2.2.2.2.2.2.2.2.2.1, ar (ad 18) cA 20 u_3.2.2.2.2.2.2.2.2.2.2.2.2.2.2.2.2.2.1, ar (ad 19) cA 20 u_3.2.2.2.2.2.2.2.2.2.2.2.2.2.2.2.2.2.2.1, ar (ad 20) cA 5 u_3.2.2.2.2.2.2.2.2.2.2.2.2.2.2.2.2.2.2.2.1, ar (ad 21) cA 5 u_3.2.2.2.2.2.2.2.2.2.2.2.2.2.2.2.2.2.2.2.2] := hD
    have hw := hw.symm
    subst hw
    refine lv_goto (tgt := 21) hx hb dX10_posts_16 (by decide) ?_
    obtain rfl := Option.some.inj hm
    subst hQ
    exact W.iret (v := u_3.1) hx hb hr (fun t ht hW => ⟨⟨_, (), rfl, rfl, by rw [ht]; exact hP, va_K.moved hW.alike hK, hAe ▸ hD⟩, hS.F ht⟩) hS.2.2 dX10_posts_21

set_option maxHeartbeats 4000000 in
set_option maxRecDepth 100000 in
theorem kM_heardMore (l : Launch) (dC : Nat → ClassId) (dI : Nat → Nat → Nat) (cA : ClassId) (cB : ClassId) (ad : Nat → Nat) (sz : Nat) (a1 : Int32) (a2 : Int32) (xM_typed : Int32) (xM_people : Int32) (xM_posted : Int32) (xM_hears : Int32) (xM_censuses : Int32) (xM_finding : Int32) (gMheardWho : Nat → Int32) (gMheardTime : Nat → Int32) (u : Int32 × Int32 × (Nat → Int32) × (Nat → Int32)) (hm : fM_heardMore a1 a2 xM_hears gMheardWho gMheardTime = some u) : Met l yX10_heardMore wsX10_heardMore ({ frames := 1, cells := 0, slots := 0, locals := 22 }) (va_Pc [.ref (ad 0), .int a1, .int a2] (fun U => U.heap.size = sz ∧ va_P (dC, dI) vwCl [oM ad xM_typed xM_people xM_posted xM_hears xM_censuses xM_finding, ar (ad 22) cA 12 gMheardWho, ar (ad 23) cA 12 gMheardTime] U.heap ∧ va_K (dC, dI) vwCl [(cA, .int), (cB, .boolean)] U ∧ va_D (fun _ => True) [oM ad xM_typed xM_people xM_posted xM_hears xM_censuses xM_finding, ar (ad 22) cA 12 gMheardWho, ar (ad 23) cA 12 gMheardTime])) (va_Qi (fun (r : Int32) (_ : Unit) => r = u.1) (fun (_ : Unit) t => va_P (dC, dI) vwCl [oM ad xM_typed xM_people xM_posted u.2.1 xM_censuses xM_finding, ar (ad 22) cA 12 u.2.2.1, ar (ad 23) cA 12 u.2.2.2] t.heap ∧ va_K (dC, dI) vwCl [(cA, .int), (cB, .boolean)] t ∧ va_D (va_A [oM ad xM_typed xM_people xM_posted xM_hears xM_censuses xM_finding, ar (ad 22) cA 12 gMheardWho, ar (ad 23) cA 12 gMheardTime] sz) [oM ad xM_typed xM_people xM_posted u.2.1 xM_censuses xM_finding, ar (ad 22) cA 12 u.2.2.1, ar (ad 23) cA 12 u.2.2.2]) (va_A [oM ad xM_typed xM_people xM_posted xM_hears xM_censuses xM_finding, ar (ad 22) cA 12 gMheardWho, ar (ad 23) cA 12 gMheardTime] sz)) 0 0 (va_A [oM ad xM_typed xM_people xM_posted xM_hears xM_censuses xM_finding, ar (ad 22) cA 12 gMheardWho, ar (ad 23) cA 12 gMheardTime] sz) := by
  refine Met.ofW (cc := cX10_heardMore) (maxL := 3) (ret := (some .int)) (by decide) rfl ?_
  intro p e s m args below meth c s₁ B hml hv
  obtain ⟨rfl, hsz, hP, hK, hD0⟩ := hv
  have hx := B.exec
  have hb := B.bytes
  have hr := B.returns
  have hts := atoms_spec (ws := wsX10_heardMore) B.pre
  have hown : s.vm.findClass RX10 = some m.cls := findClass_of_methodNamed B.named
  have hlocks := B.notSynchronized
  subst hsz
  have hD := hD0.self (sz := s.heap.size)
  generalize hAe : va_A [oM ad xM_typed xM_people xM_posted xM_hears xM_censuses xM_finding, ar (ad 22) cA 12 gMheardWho, ar (ad 23) cA 12 gMheardTime] s.heap.size = A at hD ⊢
  have hA : ∀ q : Nat, s.heap.size ≤ q → A q := fun q h => by rw [← hAe]; exact Or.inr h
  have hS : va_S A s.heap s.heap [] := va_S.rf
  have hl := lv_entry ([.ref (ad 0), .int a1, .int a2]) (n := 3) (Nat.le_of_ble_eq_true rfl)
  rw [lg_entry_eq]
  generalize (lg_sl ([.ref (ad 0), .int a1, .int a2]) ++ List.replicate (3 - (lg_sl ([.ref (ad 0), .int a1, .int a2])).length) Slot.unset).toArray = ls at hl ⊢
  have hl : lv_has ls 3 [(0, .ref (ad 0)), (1, .int a1), (2, .int a2)] := hl
  refine wk_Q (fun QQ hQ => ?_)
  have hinX10 : ∀ w ∈ wsX100, w ∈ wsX10_heardMore := fun w h => List.mem_cons_of_mem _ (inlX10 w h)
  have hl_231 := hts (.fieldLink RX10 231 "HandCensusModel" "hears" "I") (List.mem_cons_of_mem _ (in_r32 _ (List.mem_of_getElem? (i := 20) rfl)))
  have hl_73 := hts (.fieldLink RX10 73 "HandCensusModel" "heardWho" "[I") (List.mem_cons_of_mem _ (in_r7 _ (List.mem_of_getElem? (i := 16) rfl)))
  have hl_76 := hts (.fieldLink RX10 76 "HandCensusModel" "heardTime" "[I") (List.mem_cons_of_mem _ (in_r7 _ (List.mem_of_getElem? (i := 17) rfl)))
  unfold fM_heardMore at hm
  refine lv_iload_n hx hb dX10_heardMore_0 rfl (lv_at hl 1 rfl) ?_
  refine lv_iconst (v := 0) hx hb dX10_heardMore_1 (by decide) ?_
  refine lv_bipush (v := 19) hx hb dX10_heardMore_2 (by decide) ?_
  have hPc := hP.sub (ws' := []) [] rfl
  have hDc := hD.sub (ws' := []) [] (by decide) rfl
  have hFc := va_free (wc := []) hD hS hA [] rfl
  obtain ⟨u_1, hc_1, hm⟩ := bd_ok hm
  refine va_calli (va_runS (As := [.int a1, .int 0, .int 19]) (rest := []) ⟨hx, hb, hml, hown, hts⟩ (kM_in l dC dI cA cB ad s.heap.size a1 0 19 u_1 hc_1) (va_cwS 3 hts gX10_heardMore_X10_in rfl rfl rfl (by decide +kernel) ⟨Nat.le_of_ble_eq_true rfl, Nat.le_of_ble_eq_true rfl⟩) ⟨fun a U g mk q => by obtain ⟨q0, q1, qP, qK, qD⟩ := q; exact ⟨q0, q1, qP, va_K.moved (u := U) (U := U.calling g mk a) (Vm.Alike.refl U.vm) qK, qD⟩, fun U hU hW => ⟨rfl, by rw [hU], by rw [hU]; exact hPc, va_K.moved hW.alike hK, hDc.weaken (fun _ _ _ _ => trivial)⟩⟩ rfl rfl hl.1 rfl (lv_room (Nat.le_of_ble_eq_true rfl)) dX10_heardMore_4 ⟨Nat.le_of_ble_eq_true rfl, Nat.le_of_ble_eq_true rfl⟩) hS (fun q _ h => hFc q h) hFc (fun r_1 _ t H1 locs ht hvm hw hB hz1 hk1 hS => ?_)
  obtain ⟨hP1, hK1, hD1⟩ := hB
  rw [ht] at hP1
  obtain ⟨hP, hD⟩ := va_join (wr := [oM ad xM_typed xM_people xM_posted xM_hears xM_censuses xM_finding, ar (ad 22) cA 12 gMheardWho, ar (ad 23) cA 12 gMheardTime]) (w1 := []) hP hD [] [0, 1, 2] rfl rfl (by decide) (by decide) hk1 hFc hP1 hD1
  clear hPc hDc hFc hP1 hK1 hD1 hk1 hz1 hvm ht
  generalize H1 = H at hP hS ⊢
  have hP : va_P (dC, dI) vwCl [oM ad xM_typed xM_people xM_posted xM_hears xM_censuses xM_finding, ar (ad 22) cA 12 gMheardWho, ar (ad 23) cA 12 gMheardTime] H := hP
  have hD : va_D A [oM ad xM_typed xM_people xM_posted xM_hears xM_censuses xM_finding, ar (ad 22) cA 12 gMheardWho, ar (ad 23) cA 12 gMheardTime] := hD
  have hw := hw.symm
  subst hw
  refine lv_if_eq (tgt := 21) hx hb dX10_heardMore_7 (by decide) (fun c_2 => ?_) (fun c_2 => ?_)
  · have hm := it_pos c_2 hm
    refine lv_bipush (v := (-2)) hx hb dX10_heardMore_21 (by decide) ?_
    obtain rfl := Option.some.inj hm
    subst hQ
    exact W.iret (v := (-2)) hx hb hr (fun t ht hW => ⟨⟨_, (), rfl, rfl, by rw [ht]; exact hP, va_K.moved hW.alike hK, hAe ▸ hD⟩, hS.F ht⟩) hS.2.2 dX10_heardMore_23
  · have hm := it_neg c_2 hm
    refine lv_iload_n hx hb dX10_heardMore_10 rfl (lv_at hl 2 rfl) ?_
    refine lv_iconst (v := (-1)) hx hb dX10_heardMore_11 (by decide) ?_
    refine lv_sipush (v := 400) hx hb dX10_heardMore_12 (by decide) ?_
    have hPc := hP.sub (ws' := []) [] rfl
    have hDc := hD.sub (ws' := []) [] (by decide) rfl
    have hFc := va_free (wc := []) hD hS hA [] rfl
    obtain ⟨u_3, hc_3, hm⟩ := bd_ok hm
    refine va_calli (va_runS (As := [.int a2, .int (-1), .int 400]) (rest := []) ⟨hx, hb, hml, hown, hts⟩ (kM_in l dC dI cA cB ad H.size a2 (-1) 400 u_3 hc_3) (va_cwS 3 hts gX10_heardMore_X10_in rfl rfl rfl (by decide +kernel) ⟨Nat.le_of_ble_eq_true rfl, Nat.le_of_ble_eq_true rfl⟩) ⟨fun a U g mk q => by obtain ⟨q0, q1, qP, qK, qD⟩ := q; exact ⟨q0, q1, qP, va_K.moved (u := U) (U := U.calling g mk a) (Vm.Alike.refl U.vm) qK, qD⟩, fun U hU hW => ⟨rfl, by rw [hU], by rw [hU]; exact hPc, va_K.moved hW.alike hK, hDc.weaken (fun _ _ _ _ => trivial)⟩⟩ rfl rfl hl.1 rfl (lv_room (Nat.le_of_ble_eq_true rfl)) dX10_heardMore_15 ⟨Nat.le_of_ble_eq_true rfl, Nat.le_of_ble_eq_true rfl⟩) hS (fun q _ h => hFc q h) hFc (fun r_3 _ t H1 locs ht hvm hw hB hz1 hk1 hS => ?_)
    obtain ⟨hP1, hK1, hD1⟩ := hB
    rw [ht] at hP1
    obtain ⟨hP, hD⟩ := va_join (wr := [oM ad xM_typed xM_people xM_posted xM_hears xM_censuses xM_finding, ar (ad 22) cA 12 gMheardWho, ar (ad 23) cA 12 gMheardTime]) (w1 := []) hP hD [] [0, 1, 2] rfl rfl (by decide) (by decide) hk1 hFc hP1 hD1
    clear hPc hDc hFc hP1 hK1 hD1 hk1 hz1 hvm ht
    generalize H1 = H at hP hS ⊢
    have hP : va_P (dC, dI) vwCl [oM ad xM_typed xM_people xM_posted xM_hears xM_censuses xM_finding, ar (ad 22) cA 12 gMheardWho, ar (ad 23) cA 12 gMheardTime] H := hP
    have hD : va_D A [oM ad xM_typed xM_people xM_posted xM_hears xM_censuses xM_finding, ar (ad 22) cA 12 gMheardWho, ar (ad 23) cA 12 gMheardTime] := hD
    have hw := hw.symm
    subst hw
    refine lv_if_ne (tgt := 24) hx hb dX10_heardMore_18 (by decide) (fun c_4 => ?_) (fun c_4 => ?_)
    · have hm := it_neg c_4 hm
      refine lv_aload_n hx hb dX10_heardMore_24 rfl (lv_at hl 0 rfl) ?_
      refine va_get (D := (dC, dI)) (ci := 10) (v := .int xM_hears) (C := RX10) (T := TX10) (N := 37) hx hb hts hinX10 hown hK hP 0 rfl rfl 24 (by decide) hl_231 (fun _ h9 => h9) rfl dX10_heardMore_25 ?_
      refine lv_bipush (v := 12) hx hb dX10_heardMore_28 (by decide) ?_
      refine lv_icmp_ne (tgt := 36) hx hb dX10_heardMore_30 (by decide) (fun c_5 => ?_) (fun c_5 => ?_)
      · have hm := it_neg c_5 hm
        refine lv_aload_n hx hb dX10_heardMore_36 rfl (lv_at hl 0 rfl) ?_
        refine va_get (D := (dC, dI)) (ci := 10) (v := .ref (ad 22)) (C := RX10) (T := TX10) (N := 37) hx hb hts hinX10 hown hK hP 0 rfl rfl 25 (by decide) hl_73 (fun _ h9 => h9) rfl dX10_heardMore_37 ?_
        refine lv_aload_n hx hb dX10_heardMore_40 rfl (lv_at hl 0 rfl) ?_
        refine va_get (D := (dC, dI)) (ci := 10) (v := .int xM_hears) (C := RX10) (T := TX10) (N := 37) hx hb hts hinX10 hown hK hP 0 rfl rfl 24 (by decide) hl_231 (fun _ h9 => h9) rfl dX10_heardMore_41 ?_
        refine lv_iload_n hx hb dX10_heardMore_44 rfl (lv_at hl 1 rfl) ?_
        obtain ⟨i_6, hm⟩ := ck_ok hm
        refine va_iast hx hb hK hP hD hS 1 0 rfl rfl i_6 dX10_heardMore_45 (fun H locs hP hD hS => ?_)
        have hP : va_P (dC, dI) vwCl [oM ad xM_typed xM_people xM_posted xM_hears xM_censuses xM_finding, ar (ad 22) cA 12 (upd gMheardWho xM_hears.toNatClampNeg a1), ar (ad 23) cA 12 gMheardTime] H := hP
        have hD : va_D A [oM ad xM_typed xM_people xM_posted xM_hears xM_censuses xM_finding, ar (ad 22) cA 12 (upd gMheardWho xM_hears.toNatClampNeg a1), ar (ad 23) cA 12 gMheardTime] := hD
        refine lv_aload_n hx hb dX10_heardMore_46 rfl (lv_at hl 0 rfl) ?_
        refine va_get (D := (dC, dI)) (ci := 10) (v := .ref (ad 23)) (C := RX10) (T := TX10) (N := 37) hx hb hts hinX10 hown hK hP 0 rfl rfl 26 (by decide) hl_76 (fun _ h9 => h9) rfl dX10_heardMore_47 ?_
        refine lv_aload_n hx hb dX10_heardMore_50 rfl (lv_at hl 0 rfl) ?_
        refine va_get (D := (dC, dI)) (ci := 10) (v := .int xM_hears) (C := RX10) (T := TX10) (N := 37) hx hb hts hinX10 hown hK hP 0 rfl rfl 24 (by decide) hl_231 (fun _ h9 => h9) rfl dX10_heardMore_51 ?_
        refine lv_iload_n hx hb dX10_heardMore_54 rfl (lv_at hl 2 rfl) ?_
        obtain ⟨i_7, hm⟩ := ck_ok hm
        refine va_iast hx hb hK hP hD hS 2 0 rfl rfl i_7 dX10_heardMore_55 (fun H locs hP hD hS => ?_)
        have hP : va_P (dC, dI) vwCl [oM ad xM_typed xM_people xM_posted xM_hears xM_censuses xM_finding, ar (ad 22) cA 12 (upd gMheardWho xM_hears.toNatClampNeg a1), ar (ad 23) cA 12 (upd gMheardTime xM_hears.toNatClampNeg a2)] H := hP
        have hD : va_D A [oM ad xM_typed xM_people xM_posted xM_hears xM_censuses xM_finding, ar (ad 22) cA 12 (upd gMheardWho xM_hears.toNatClampNeg a1), ar (ad 23) cA 12 (upd gMheardTime xM_hears.toNatClampNeg a2)] := hD
        refine lv_aload_n hx hb dX10_heardMore_56 rfl (lv_at hl 0 rfl) ?_
        refine lv_dup hx hb dX10_heardMore_57 rfl ?_
        refine va_get (D := (dC, dI)) (ci := 10) (v := .int xM_hears) (C := RX10) (T := TX10) (N := 37) hx hb hts hinX10 hown hK hP 0 rfl rfl 24 (by decide) hl_231 (fun _ h9 => h9) rfl dX10_heardMore_58 ?_
        refine lv_iconst (v := 1) hx hb dX10_heardMore_61 (by decide) ?_
        refine lv_iadd hx hb dX10_heardMore_62 ?_
        refine va_put (D := (dC, dI)) (ci := 10) (v := .int (xM_hears + 1)) (ty := .int) (C := RX10) (T := TX10) (N := 37) hx hb hts hinX10 tyX10 tyX10_ok nmX10 hown hK hP hD hS 0 rfl rfl 24 (by decide) hl_231 (fun _ h9 => h9) rfl (by decide +kernel) rfl rfl (Nat.le_of_ble_eq_true rfl) dX10_heardMore_63 (fun H locs hP hD hS => ?_)
        have hP : va_P (dC, dI) vwCl [oM ad xM_typed xM_people xM_posted (xM_hears + 1) xM_censuses xM_finding, ar (ad 22) cA 12 (upd gMheardWho xM_hears.toNatClampNeg a1), ar (ad 23) cA 12 (upd gMheardTime xM_hears.toNatClampNeg a2)] H := hP
        have hD : va_D A [oM ad xM_typed xM_people xM_posted (xM_hears + 1) xM_censuses xM_finding, ar (ad 22) cA 12 (upd gMheardWho xM_hears.toNatClampNeg a1), ar (ad 23) cA 12 (upd gMheardTime xM_hears.toNatClampNeg a2)] := hD
        refine lv_aload_n hx hb dX10_heardMore_66 rfl (lv_at hl 0 rfl) ?_
        refine va_get (D := (dC, dI)) (ci := 10) (v := .int (xM_hears + 1)) (C := RX10) (T := TX10) (N := 37) hx hb hts hinX10 hown hK hP 0 rfl rfl 24 (by decide) hl_231 (fun _ h9 => h9) rfl dX10_heardMore_67 ?_
        obtain rfl := Option.some.inj hm
        subst hQ
        exact W.iret (v := (xM_hears + 1)) hx hb hr (fun t ht hW => ⟨⟨_, (), rfl, rfl, by rw [ht]; exact hP, va_K.moved hW.alike hK, hAe ▸ hD⟩, hS.F ht⟩) hS.2.2 dX10_heardMore_70
      · have hm := it_pos c_5 hm
        refine lv_bipush (v := (-4)) hx hb dX10_heardMore_33 (by decide) ?_
        obtain rfl := Option.some.inj hm
        subst hQ
        exact W.iret (v := (-4)) hx hb hr (fun t ht hW => ⟨⟨_, (), rfl, rfl, by rw [ht]; exact hP, va_K.moved hW.alike hK, hAe ▸ hD⟩, hS.F ht⟩) hS.2.2 dX10_heardMore_35
    · have hm := it_pos c_4 hm
      refine lv_bipush (v := (-2)) hx hb dX10_heardMore_21 (by decide) ?_
      obtain rfl := Option.some.inj hm
      subst hQ
      exact W.iret (v := (-2)) hx hb hr (fun t ht hW => ⟨⟨_, (), rfl, rfl, by rw [ht]; exact hP, va_K.moved hW.alike hK, hAe ▸ hD⟩, hS.F ht⟩) hS.2.2 dX10_heardMore_23

set_option maxHeartbeats 4000000 in
set_option maxRecDepth 100000 in
theorem kM_heard (l : Launch) (dC : Nat → ClassId) (dI : Nat → Nat → Nat) (cA : ClassId) (cB : ClassId) (ad : Nat → Nat) (sz : Nat) (a1 : Int32) (a2 : Int32) (xM_typed : Int32) (xM_people : Int32) (xM_posted : Int32) (xM_hears : Int32) (xM_censuses : Int32) (xM_finding : Int32) (gMheardWho : Nat → Int32) (gMheardTime : Nat → Int32) (u : Int32 × Int32 × (Nat → Int32) × (Nat → Int32)) (hm : fM_heard a1 a2 xM_hears gMheardWho gMheardTime = some u) : Met l yX10_heard wsX10_heard ({ frames := 2, cells := 0, slots := 0, locals := 44 }) (va_Pc [.ref (ad 0), .int a1, .int a2] (fun U => U.heap.size = sz ∧ va_P (dC, dI) vwCl [oM ad xM_typed xM_people xM_posted xM_hears xM_censuses xM_finding, ar (ad 22) cA 12 gMheardWho, ar (ad 23) cA 12 gMheardTime] U.heap ∧ va_K (dC, dI) vwCl [(cA, .int), (cB, .boolean)] U ∧ va_D (fun _ => True) [oM ad xM_typed xM_people xM_posted xM_hears xM_censuses xM_finding, ar (ad 22) cA 12 gMheardWho, ar (ad 23) cA 12 gMheardTime])) (va_Qi (fun (r : Int32) (_ : Unit) => r = u.1) (fun (_ : Unit) t => va_P (dC, dI) vwCl [oM ad xM_typed xM_people xM_posted u.2.1 xM_censuses xM_finding, ar (ad 22) cA 12 u.2.2.1, ar (ad 23) cA 12 u.2.2.2] t.heap ∧ va_K (dC, dI) vwCl [(cA, .int), (cB, .boolean)] t ∧ va_D (va_A [oM ad xM_typed xM_people xM_posted xM_hears xM_censuses xM_finding, ar (ad 22) cA 12 gMheardWho, ar (ad 23) cA 12 gMheardTime] sz) [oM ad xM_typed xM_people xM_posted u.2.1 xM_censuses xM_finding, ar (ad 22) cA 12 u.2.2.1, ar (ad 23) cA 12 u.2.2.2]) (va_A [oM ad xM_typed xM_people xM_posted xM_hears xM_censuses xM_finding, ar (ad 22) cA 12 gMheardWho, ar (ad 23) cA 12 gMheardTime] sz)) 0 0 (va_A [oM ad xM_typed xM_people xM_posted xM_hears xM_censuses xM_finding, ar (ad 22) cA 12 gMheardWho, ar (ad 23) cA 12 gMheardTime] sz) := by
  refine Met.ofW (cc := cX10_heard) (maxL := 3) (ret := (some .int)) (by decide) rfl ?_
  intro p e s m args below meth c s₁ B hml hv
  obtain ⟨rfl, hsz, hP, hK, hD0⟩ := hv
  have hx := B.exec
  have hb := B.bytes
  have hr := B.returns
  have hts := atoms_spec (ws := wsX10_heard) B.pre
  have hown : s.vm.findClass RX10 = some m.cls := findClass_of_methodNamed B.named
  have hlocks := B.notSynchronized
  subst hsz
  have hD := hD0.self (sz := s.heap.size)
  generalize hAe : va_A [oM ad xM_typed xM_people xM_posted xM_hears xM_censuses xM_finding, ar (ad 22) cA 12 gMheardWho, ar (ad 23) cA 12 gMheardTime] s.heap.size = A at hD ⊢
  have hA : ∀ q : Nat, s.heap.size ≤ q → A q := fun q h => by rw [← hAe]; exact Or.inr h
  have hS : va_S A s.heap s.heap [] := va_S.rf
  have hl := lv_entry ([.ref (ad 0), .int a1, .int a2]) (n := 3) (Nat.le_of_ble_eq_true rfl)
  rw [lg_entry_eq]
  generalize (lg_sl ([.ref (ad 0), .int a1, .int a2]) ++ List.replicate (3 - (lg_sl ([.ref (ad 0), .int a1, .int a2])).length) Slot.unset).toArray = ls at hl ⊢
  have hl : lv_has ls 3 [(0, .ref (ad 0)), (1, .int a1), (2, .int a2)] := hl
  refine wk_Q (fun QQ hQ => ?_)
  unfold fM_heard at hm
  refine lv_aload_n hx hb dX10_heard_0 rfl (lv_at hl 0 rfl) ?_
  refine lv_iload_n hx hb dX10_heard_1 rfl (lv_at hl 1 rfl) ?_
  refine lv_iload_n hx hb dX10_heard_2 rfl (lv_at hl 2 rfl) ?_
  have hPc := hP.sub (ws' := [oM ad xM_typed xM_people xM_posted xM_hears xM_censuses xM_finding, ar (ad 22) cA 12 gMheardWho, ar (ad 23) cA 12 gMheardTime]) [0, 1, 2] rfl
  have hDc := hD.sub (ws' := [oM ad xM_typed xM_people xM_posted xM_hears xM_censuses xM_finding, ar (ad 22) cA 12 gMheardWho, ar (ad 23) cA 12 gMheardTime]) [0, 1, 2] (by decide) rfl
  have hFc := va_free (wc := [oM ad xM_typed xM_people xM_posted xM_hears xM_censuses xM_finding, ar (ad 22) cA 12 gMheardWho, ar (ad 23) cA 12 gMheardTime]) hD hS hA [0, 1, 2] rfl
  obtain ⟨u_1, hc_1, hm⟩ := bd_ok hm
  refine va_calli (va_runV (As := [.int a1, .int a2]) (rest := []) ⟨hx, hb, hml, hown, hts⟩ (kM_heardMore l dC dI cA cB ad s.heap.size a1 a2 xM_typed xM_people xM_posted xM_hears xM_censuses xM_finding gMheardWho gMheardTime u_1 hc_1) (cwV 2 hts gX10_heard_X10_heardMore rfl rfl rfl (by decide +kernel) ⟨Nat.le_of_ble_eq_true rfl, Nat.le_of_ble_eq_true rfl⟩) ⟨fun a U g mk q => by obtain ⟨q0, q1, qP, qK, qD⟩ := q; exact ⟨q0, q1, qP, va_K.moved (u := U) (U := U.calling g mk a) (Vm.Alike.refl U.vm) qK, qD⟩, va_recv hK hPc (ci := 10) (q0 := 0) rfl rfl, fun U hU hW => ⟨rfl, by rw [hU], by rw [hU]; exact hPc, va_K.moved hW.alike hK, hDc.weaken (fun _ _ _ _ => trivial)⟩⟩ rfl rfl hl.1 rfl (lv_room (Nat.le_of_ble_eq_true rfl)) dX10_heard_3 ⟨Nat.le_of_ble_eq_true rfl, Nat.le_of_ble_eq_true rfl⟩) hS (fun q _ h => hFc q h) hFc (fun r_1 _ t H1 locs ht hvm hw hB hz1 hk1 hS => ?_)
  obtain ⟨hP1, hK1, hD1⟩ := hB
  rw [ht] at hP1
  obtain ⟨hP, hD⟩ := va_join (wr := []) (w1 := [oM ad xM_typed xM_people xM_posted u_1.2.1 xM_censuses xM_finding, ar (ad 22) cA 12 u_1.2.2.1, ar (ad 23) cA 12 u_1.2.2.2]) hP hD [0, 1, 2] [] rfl rfl (by decide) (by decide) hk1 hFc hP1 hD1
  clear hPc hDc hFc hP1 hK1 hD1 hk1 hz1 hvm ht
  generalize H1 = H at hP hS ⊢
  have hP : va_P (dC, dI) vwCl [oM ad xM_typed xM_people xM_posted u_1.2.1 xM_censuses xM_finding, ar (ad 22) cA 12 u_1.2.2.1, ar (ad 23) cA 12 u_1.2.2.2] H := hP
  have hD : va_D A [oM ad xM_typed xM_people xM_posted u_1.2.1 xM_censuses xM_finding, ar (ad 22) cA 12 u_1.2.2.1, ar (ad 23) cA 12 u_1.2.2.2] := hD
  have hw := hw.symm
  subst hw
  obtain rfl := Option.some.inj hm
  subst hQ
  exact W.iret (v := u_1.1) hx hb hr (fun t ht hW => ⟨⟨_, (), rfl, rfl, by rw [ht]; exact hP, va_K.moved hW.alike hK, hAe ▸ hD⟩, hS.F ht⟩) hS.2.2 dX10_heard_6

set_option maxHeartbeats 4000000 in
set_option maxRecDepth 100000 in
theorem kM_isSheet (l : Launch) (dC : Nat → ClassId) (dI : Nat → Nat → Nat) (cA : ClassId) (cB : ClassId) (ad : Nat → Nat) (sz : Nat) (a0 : Int32) (u : Int32) (hm : fM_isSheet a0 = some u) : Met l yX10_isSheet wsX10_isSheet ({ frames := 1, cells := 0, slots := 0, locals := 22 }) (va_Pc [.int a0] (fun U => U.heap.size = sz ∧ va_P (dC, dI) vwCl [] U.heap ∧ va_K (dC, dI) vwCl [(cA, .int), (cB, .boolean)] U ∧ va_D (fun _ => True) [])) (va_Qi (fun (r : Int32) (_ : Unit) => r = u) (fun (_ : Unit) t => va_P (dC, dI) vwCl [] t.heap ∧ va_K (dC, dI) vwCl [(cA, .int), (cB, .boolean)] t ∧ va_D (va_A [] sz) []) (va_A [] sz)) 0 0 (va_A [] sz) := by
  refine Met.ofW (cc := cX10_isSheet) (maxL := 1) (ret := (some .boolean)) (by decide) rfl ?_
  intro p e s m args below meth c s₁ B hml hv
  obtain ⟨rfl, hsz, hP, hK, hD0⟩ := hv
  have hx := B.exec
  have hb := B.bytes
  have hr := B.returns
  have hts := atoms_spec (ws := wsX10_isSheet) B.pre
  have hown : s.vm.findClass RX10 = some m.cls := findClass_of_methodNamed B.named
  have hlocks := B.notSynchronized
  subst hsz
  have hD := hD0.self (sz := s.heap.size)
  generalize hAe : va_A [] s.heap.size = A at hD ⊢
  have hA : ∀ q : Nat, s.heap.size ≤ q → A q := fun q h => by rw [← hAe]; exact Or.inr h
  have hS : va_S A s.heap s.heap [] := va_S.rf
  have hl := lv_entry ([.int a0]) (n := 1) (Nat.le_of_ble_eq_true rfl)
  rw [lg_entry_eq]
  generalize (lg_sl ([.int a0]) ++ List.replicate (1 - (lg_sl ([.int a0])).length) Slot.unset).toArray = ls at hl ⊢
  have hl : lv_has ls 1 [(0, .int a0)] := hl
  refine wk_Q (fun QQ hQ => ?_)
  unfold fM_isSheet at hm
  refine lv_iload_n hx hb dX10_isSheet_0 rfl (lv_at hl 0 rfl) ?_
  refine lv_iconst (v := 0) hx hb dX10_isSheet_1 (by decide) ?_
  refine lv_iconst (v := 3) hx hb dX10_isSheet_2 (by decide) ?_
  have hPc := hP.sub (ws' := []) [] rfl
  have hDc := hD.sub (ws' := []) [] (by decide) rfl
  have hFc := va_free (wc := []) hD hS hA [] rfl
  obtain ⟨u_1, hc_1, hm⟩ := bd_ok hm
  refine va_calli (va_runS (As := [.int a0, .int 0, .int 3]) (rest := []) ⟨hx, hb, hml, hown, hts⟩ (kM_in l dC dI cA cB ad s.heap.size a0 0 3 u_1 hc_1) (va_cwS 3 hts gX10_isSheet_X10_in rfl rfl rfl (by decide +kernel) ⟨Nat.le_of_ble_eq_true rfl, Nat.le_of_ble_eq_true rfl⟩) ⟨fun a U g mk q => by obtain ⟨q0, q1, qP, qK, qD⟩ := q; exact ⟨q0, q1, qP, va_K.moved (u := U) (U := U.calling g mk a) (Vm.Alike.refl U.vm) qK, qD⟩, fun U hU hW => ⟨rfl, by rw [hU], by rw [hU]; exact hPc, va_K.moved hW.alike hK, hDc.weaken (fun _ _ _ _ => trivial)⟩⟩ rfl rfl hl.1 rfl (lv_room (Nat.le_of_ble_eq_true rfl)) dX10_isSheet_3 ⟨Nat.le_of_ble_eq_true rfl, Nat.le_of_ble_eq_true rfl⟩) hS (fun q _ h => hFc q h) hFc (fun r_1 _ t H1 locs ht hvm hw hB hz1 hk1 hS => ?_)
  obtain ⟨hP1, hK1, hD1⟩ := hB
  rw [ht] at hP1
  obtain ⟨hP, hD⟩ := va_join (wr := []) (w1 := []) hP hD [] [] rfl rfl (by decide) (by decide) hk1 hFc hP1 hD1
  clear hPc hDc hFc hP1 hK1 hD1 hk1 hz1 hvm ht
  generalize H1 = H at hP hS ⊢
  have hP : va_P (dC, dI) vwCl [] H := hP
  have hD : va_D A [] := hD
  have hw := hw.symm
  subst hw
  obtain ⟨z_b, hm⟩ := bz_ok hm
  obtain rfl := Option.some.inj hm
  subst hQ
  exact W.zret (v := u_1) hx hb hr (nar_bz z_b) (fun t ht hW => ⟨⟨_, (), rfl, rfl, by rw [ht]; exact hP, va_K.moved hW.alike hK, hAe ▸ hD⟩, hS.F ht⟩) hS.2.2 dX10_isSheet_6

set_option maxHeartbeats 4000000 in
set_option maxRecDepth 100000 in
theorem kM_meets (l : Launch) (dC : Nat → ClassId) (dI : Nat → Nat → Nat) (cA : ClassId) (cB : ClassId) (ad : Nat → Nat) (sz : Nat) (a1 : Int32) (xM_typed : Int32) (xM_people : Int32) (xM_posted : Int32) (xM_hears : Int32) (xM_censuses : Int32) (xM_finding : Int32) (u : Int32 × Int32) (hm : fM_meets a1 xM_finding = some u) : Met l yX10_meets wsX10_meets ({ frames := 0, cells := 0, slots := 0, locals := 0 }) (va_Pc [.ref (ad 0), .int a1] (fun U => U.heap.size = sz ∧ va_P (dC, dI) vwCl [oM ad xM_typed xM_people xM_posted xM_hears xM_censuses xM_finding] U.heap ∧ va_K (dC, dI) vwCl [(cA, .int), (cB, .boolean)] U ∧ va_D (fun _ => True) [oM ad xM_typed xM_people xM_posted xM_hears xM_censuses xM_finding])) (va_Qi (fun (r : Int32) (_ : Unit) => r = u.1) (fun (_ : Unit) t => va_P (dC, dI) vwCl [oM ad xM_typed xM_people xM_posted xM_hears xM_censuses u.2] t.heap ∧ va_K (dC, dI) vwCl [(cA, .int), (cB, .boolean)] t ∧ va_D (va_A [oM ad xM_typed xM_people xM_posted xM_hears xM_censuses xM_finding] sz) [oM ad xM_typed xM_people xM_posted xM_hears xM_censuses u.2]) (va_A [oM ad xM_typed xM_people xM_posted xM_hears xM_censuses xM_finding] sz)) 0 0 (va_A [oM ad xM_typed xM_people xM_posted xM_hears xM_censuses xM_finding] sz) := by
  refine Met.ofW (cc := cX10_meets) (maxL := 2) (ret := (some .int)) (by decide) rfl ?_
  intro p e s m args below meth c s₁ B hml hv
  obtain ⟨rfl, hsz, hP, hK, hD0⟩ := hv
  have hx := B.exec
  have hb := B.bytes
  have hr := B.returns
  have hts := atoms_spec (ws := wsX10_meets) B.pre
  have hown : s.vm.findClass RX10 = some m.cls := findClass_of_methodNamed B.named
  have hlocks := B.notSynchronized
  subst hsz
  have hD := hD0.self (sz := s.heap.size)
  generalize hAe : va_A [oM ad xM_typed xM_people xM_posted xM_hears xM_censuses xM_finding] s.heap.size = A at hD ⊢
  have hA : ∀ q : Nat, s.heap.size ≤ q → A q := fun q h => by rw [← hAe]; exact Or.inr h
  have hS : va_S A s.heap s.heap [] := va_S.rf
  have hl := lv_entry ([.ref (ad 0), .int a1]) (n := 2) (Nat.le_of_ble_eq_true rfl)
  rw [lg_entry_eq]
  generalize (lg_sl ([.ref (ad 0), .int a1]) ++ List.replicate (2 - (lg_sl ([.ref (ad 0), .int a1])).length) Slot.unset).toArray = ls at hl ⊢
  have hl : lv_has ls 2 [(0, .ref (ad 0)), (1, .int a1)] := hl
  refine wk_Q (fun QQ hQ => ?_)
  have hinX10 : ∀ w ∈ wsX100, w ∈ wsX10_meets := fun w h => List.mem_cons_of_mem _ (inlX10 w h)
  have hl_267 := hts (.fieldLink RX10 267 "HandCensusModel" "finding" "I") (List.mem_cons_of_mem _ (in_r34 _ (List.mem_of_getElem? (i := 4) rfl)))
  unfold fM_meets at hm
  refine lv_aload_n hx hb dX10_meets_0 rfl (lv_at hl 0 rfl) ?_
  refine lv_iload_n hx hb dX10_meets_1 rfl (lv_at hl 1 rfl) ?_
  refine va_put (D := (dC, dI)) (ci := 10) (v := .int a1) (ty := .int) (C := RX10) (T := TX10) (N := 37) hx hb hts hinX10 tyX10 tyX10_ok nmX10 hown hK hP hD hS 0 rfl rfl 36 (by decide) hl_267 (fun _ h9 => h9) rfl (by decide +kernel) rfl rfl (Nat.le_of_ble_eq_true rfl) dX10_meets_2 (fun H locs hP hD hS => ?_)
  have hP : va_P (dC, dI) vwCl [oM ad xM_typed xM_people xM_posted xM_hears xM_censuses a1] H := hP
  have hD : va_D A [oM ad xM_typed xM_people xM_posted xM_hears xM_censuses a1] := hD
  refine lv_bipush (v := (-10)) hx hb dX10_meets_5 (by decide) ?_
  refine lv_iload_n hx hb dX10_meets_7 rfl (lv_at hl 1 rfl) ?_
  refine lv_isub hx hb dX10_meets_8 ?_
  obtain rfl := Option.some.inj hm
  subst hQ
  exact W.iret (v := ((-10) - a1)) hx hb hr (fun t ht hW => ⟨⟨_, (), rfl, rfl, by rw [ht]; exact hP, va_K.moved hW.alike hK, hAe ▸ hD⟩, hS.F ht⟩) hS.2.2 dX10_meets_9

set_option maxHeartbeats 4000000 in
set_option maxRecDepth 100000 in
theorem kM_read (l : Launch) (dC : Nat → ClassId) (dI : Nat → Nat → Nat) (cA : ClassId) (cB : ClassId) (ad : Nat → Nat) (sz : Nat) (a1 : Int32) (xM_typed : Int32) (xM_people : Int32) (xM_posted : Int32) (xM_hears : Int32) (xM_censuses : Int32) (xM_finding : Int32) (gMheardWho : Nat → Int32) (gMheardTime : Nat → Int32) (gMisThere : Nat → Int32) (gMsizes : Nat → Int32) (gMitems : Nat → Int32) (u : Int32 × Int32 × Int32 × (Nat → Int32) × (Nat → Int32)) (hm : fM_read a1 xM_hears xM_finding gMheardWho gMheardTime gMisThere gMsizes gMitems = some u) : Met l yX10_read wsX10_read ({ frames := 2, cells := 0, slots := 0, locals := 44 }) (va_Pc [.ref (ad 0), .int a1] (fun U => U.heap.size = sz ∧ va_P (dC, dI) vwCl [oM ad xM_typed xM_people xM_posted xM_hears xM_censuses xM_finding, ar (ad 22) cA 12 gMheardWho, ar (ad 23) cA 12 gMheardTime, ar (ad 27) cB 4 gMisThere, ar (ad 29) cA 4 gMsizes, ar (ad 30) cA 240 gMitems] U.heap ∧ va_K (dC, dI) vwCl [(cA, .int), (cB, .boolean)] U ∧ va_D (fun _ => True) [oM ad xM_typed xM_people xM_posted xM_hears xM_censuses xM_finding, ar (ad 22) cA 12 gMheardWho, ar (ad 23) cA 12 gMheardTime, ar (ad 27) cB 4 gMisThere, ar (ad 29) cA 4 gMsizes, ar (ad 30) cA 240 gMitems])) (va_Qi (fun (r : Int32) (_ : Unit) => r = u.1) (fun (_ : Unit) t => va_P (dC, dI) vwCl [oM ad xM_typed xM_people xM_posted u.2.1 xM_censuses u.2.2.1, ar (ad 22) cA 12 u.2.2.2.1, ar (ad 23) cA 12 u.2.2.2.2, ar (ad 27) cB 4 gMisThere, ar (ad 29) cA 4 gMsizes, ar (ad 30) cA 240 gMitems] t.heap ∧ va_K (dC, dI) vwCl [(cA, .int), (cB, .boolean)] t ∧ va_D (va_A [oM ad xM_typed xM_people xM_posted xM_hears xM_censuses xM_finding, ar (ad 22) cA 12 gMheardWho, ar (ad 23) cA 12 gMheardTime, ar (ad 27) cB 4 gMisThere, ar (ad 29) cA 4 gMsizes, ar (ad 30) cA 240 gMitems] sz) [oM ad xM_typed xM_people xM_posted u.2.1 xM_censuses u.2.2.1, ar (ad 22) cA 12 u.2.2.2.1, ar (ad 23) cA 12 u.2.2.2.2, ar (ad 27) cB 4 gMisThere, ar (ad 29) cA 4 gMsizes, ar (ad 30) cA 240 gMitems]) (va_A [oM ad xM_typed xM_people xM_posted xM_hears xM_censuses xM_finding, ar (ad 22) cA 12 gMheardWho, ar (ad 23) cA 12 gMheardTime, ar (ad 27) cB 4 gMisThere, ar (ad 29) cA 4 gMsizes, ar (ad 30) cA 240 gMitems] sz)) 0 0 (va_A [oM ad xM_typed xM_people xM_posted xM_hears xM_censuses xM_finding, ar (ad 22) cA 12 gMheardWho, ar (ad 23) cA 12 gMheardTime, ar (ad 27) cB 4 gMisThere, ar (ad 29) cA 4 gMsizes, ar (ad 30) cA 240 gMitems] sz) := by
  refine Met.ofW (cc := cX10_read) (maxL := 3) (ret := (some .int)) (by decide) rfl ?_
  intro p e s m args below meth c s₁ B hml hv
  obtain ⟨rfl, hsz, hP, hK, hD0⟩ := hv
  have hx := B.exec
  have hb := B.bytes
  have hr := B.returns
  have hts := atoms_spec (ws := wsX10_read) B.pre
  have hown : s.vm.findClass RX10 = some m.cls := findClass_of_methodNamed B.named
  have hlocks := B.notSynchronized
  subst hsz
  have hD := hD0.self (sz := s.heap.size)
  generalize hAe : va_A [oM ad xM_typed xM_people xM_posted xM_hears xM_censuses xM_finding, ar (ad 22) cA 12 gMheardWho, ar (ad 23) cA 12 gMheardTime, ar (ad 27) cB 4 gMisThere, ar (ad 29) cA 4 gMsizes, ar (ad 30) cA 240 gMitems] s.heap.size = A at hD ⊢
  have hA : ∀ q : Nat, s.heap.size ≤ q → A q := fun q h => by rw [← hAe]; exact Or.inr h
  have hS : va_S A s.heap s.heap [] := va_S.rf
  have hl := lv_entry ([.ref (ad 0), .int a1]) (n := 3) (Nat.le_of_ble_eq_true rfl)
  rw [lg_entry_eq]
  generalize (lg_sl ([.ref (ad 0), .int a1]) ++ List.replicate (3 - (lg_sl ([.ref (ad 0), .int a1])).length) Slot.unset).toArray = ls at hl ⊢
  have hl : lv_has ls 3 [(0, .ref (ad 0)), (1, .int a1)] := hl
  refine wk_Q (fun QQ hQ => ?_)
  have hinX10 : ∀ w ∈ wsX100, w ∈ wsX10_read := fun w h => List.mem_cons_of_mem _ (inlX10 w h)
  have hl_95 := hts (.fieldLink RX10 95 "HandCensusModel" "sizes" "[I") (List.mem_cons_of_mem _ (in_r8 _ (List.mem_of_getElem? (i := 0) rfl)))
  have hl_98 := hts (.fieldLink RX10 98 "HandCensusModel" "items" "[I") (List.mem_cons_of_mem _ (in_r8 _ (List.mem_of_getElem? (i := 1) rfl)))
  have hl_88 := hts (.fieldLink RX10 88 "HandCensusModel" "isThere" "[Z") (List.mem_cons_of_mem _ (in_r7 _ (List.mem_of_getElem? (i := 22) rfl)))
  have h_27 : ∀ (v1_27 : Int32) (xM_finding_27 : Int32), ∀ (n_27 : Nat), ∀ (v2_27 : Int32) (xM_hears_27 : Int32) (gMheardWho_27 : Nat → Int32) (gMheardTime_27 : Nat → Int32), fM_read_27 v1_27 xM_finding_27 gMsizes gMitems n_27 v2_27 xM_hears_27 gMheardWho_27 gMheardTime_27 = some u → ∀ (H : Heap) (locs : List Loc), va_P (dC, dI) vwCl [oM ad xM_typed xM_people xM_posted xM_hears_27 xM_censuses xM_finding_27, ar (ad 22) cA 12 gMheardWho_27, ar (ad 23) cA 12 gMheardTime_27, ar (ad 27) cB 4 gMisThere, ar (ad 29) cA 4 gMsizes, ar (ad 30) cA 240 gMitems] H → va_D A [oM ad xM_typed xM_people xM_posted xM_hears_27 xM_censuses xM_finding_27, ar (ad 22) cA 12 gMheardWho_27, ar (ad 23) cA 12 gMheardTime_27, ar (ad 27) cB 4 gMisThere, ar (ad 29) cA 4 gMsizes, ar (ad 30) cA 240 gMitems] → va_S A s.heap H locs → ∀ ls : Array Slot, lv_has ls 3 [(0, .ref (ad 0)), (1, .int v1_27), (2, .int v2_27)] → W p l e (headSpec wsX10_read ({ frames := 2, cells := 0, slots := 0, locals := 44 })).room s m ([.ref (ad 0), .int a1] : List Value).toArray below meth c H locs 0 0 QQ (F0 m 27 ls []) := by
    intro v1_27 xM_finding_27
    intro n_27
    induction n_27 with
    | zero => intro v2_27 xM_hears_27 gMheardWho_27 gMheardTime_27 hm; have hm : (none : Option (Int32 × Int32 × Int32 × (Nat → Int32) × (Nat → Int32))) = some u := hm; cases hm
    | succ n_27 ih_27 =>
      intro v2_27 xM_hears_27 gMheardWho_27 gMheardTime_27 hm H locs hP hD hS ls hl
      have hm : fM_read_27_b  (fM_read_27  v1_27 xM_finding_27 gMsizes gMitems n_27) v1_27 xM_finding_27 gMsizes gMitems v2_27 xM_hears_27 gMheardWho_27 gMheardTime_27 = some u := hm
      unfold fM_read_27_b at hm
      refine lv_iconst (v := 2) hx hb dX10_read_27 (by decide) ?_
      refine lv_iload_n hx hb dX10_read_28 rfl (lv_at hl 2 rfl) ?_
      refine lv_imul hx hb dX10_read_29 ?_
      refine lv_iconst (v := 1) hx hb dX10_read_30 (by decide) ?_
      refine lv_iadd hx hb dX10_read_31 ?_
      refine lv_aload_n hx hb dX10_read_32 rfl (lv_at hl 0 rfl) ?_
      refine va_get (D := (dC, dI)) (ci := 10) (v := .ref (ad 29)) (C := RX10) (T := TX10) (N := 37) hx hb hts hinX10 hown hK hP 0 rfl rfl 33 (by decide) hl_95 (fun _ h9 => h9) rfl dX10_read_33 ?_
      refine lv_iload_n hx hb dX10_read_36 rfl (lv_at hl 1 rfl) ?_
      obtain ⟨i_1, hm⟩ := ck_ok hm
      refine va_iald hx hb hK hP 4 0 rfl rfl i_1 dX10_read_37 ?_
      refine lv_icmp_ge (tgt := 82) hx hb dX10_read_38 (by decide) (fun c_2 => ?_) (fun c_2 => ?_)
      · have hm := it_pos c_2 hm
        refine lv_iload_n hx hb dX10_read_82 rfl (lv_at hl 2 rfl) ?_
        obtain rfl := Option.some.inj hm
        subst hQ
        exact W.iret (v := v2_27) hx hb hr (fun t ht hW => ⟨⟨_, (), rfl, rfl, by rw [ht]; exact hP, va_K.moved hW.alike hK, hAe ▸ hD⟩, hS.F ht⟩) hS.2.2 dX10_read_83
      · have hm := it_neg c_2 hm
        refine lv_aload_n hx hb dX10_read_41 rfl (lv_at hl 0 rfl) ?_
        refine lv_aload_n hx hb dX10_read_42 rfl (lv_at hl 0 rfl) ?_
        refine va_get (D := (dC, dI)) (ci := 10) (v := .ref (ad 30)) (C := RX10) (T := TX10) (N := 37) hx hb hts hinX10 hown hK hP 0 rfl rfl 34 (by decide) hl_98 (fun _ h9 => h9) rfl dX10_read_43 ?_
        refine lv_bipush (v := 60) hx hb dX10_read_46 (by decide) ?_
        refine lv_iload_n hx hb dX10_read_48 rfl (lv_at hl 1 rfl) ?_
        refine lv_imul hx hb dX10_read_49 ?_
        refine lv_iconst (v := 2) hx hb dX10_read_50 (by decide) ?_
        refine lv_iload_n hx hb dX10_read_51 rfl (lv_at hl 2 rfl) ?_
        refine lv_imul hx hb dX10_read_52 ?_
        refine lv_iadd hx hb dX10_read_53 ?_
        obtain ⟨i_3, hm⟩ := ck_ok hm
        refine va_iald hx hb hK hP 5 0 rfl rfl i_3 dX10_read_54 ?_
        refine lv_aload_n hx hb dX10_read_55 rfl (lv_at hl 0 rfl) ?_
        refine va_get (D := (dC, dI)) (ci := 10) (v := .ref (ad 30)) (C := RX10) (T := TX10) (N := 37) hx hb hts hinX10 hown hK hP 0 rfl rfl 34 (by decide) hl_98 (fun _ h9 => h9) rfl dX10_read_56 ?_
        refine lv_bipush (v := 60) hx hb dX10_read_59 (by decide) ?_
        refine lv_iload_n hx hb dX10_read_61 rfl (lv_at hl 1 rfl) ?_
        refine lv_imul hx hb dX10_read_62 ?_
        refine lv_iconst (v := 2) hx hb dX10_read_63 (by decide) ?_
        refine lv_iload_n hx hb dX10_read_64 rfl (lv_at hl 2 rfl) ?_
        refine lv_imul hx hb dX10_read_65 ?_
        refine lv_iadd hx hb dX10_read_66 ?_
        refine lv_iconst (v := 1) hx hb dX10_read_67 (by decide) ?_
        refine lv_iadd hx hb dX10_read_68 ?_
        obtain ⟨i_4, hm⟩ := ck_ok hm
        refine va_iald hx hb hK hP 5 0 rfl rfl i_4 dX10_read_69 ?_
        have hPc := hP.sub (ws' := [oM ad xM_typed xM_people xM_posted xM_hears_27 xM_censuses xM_finding_27, ar (ad 22) cA 12 gMheardWho_27, ar (ad 23) cA 12 gMheardTime_27]) [0, 1, 2] rfl
        have hDc := hD.sub (ws' := [oM ad xM_typed xM_people xM_posted xM_hears_27 xM_censuses xM_finding_27, ar (ad 22) cA 12 gMheardWho_27, ar (ad 23) cA 12 gMheardTime_27]) [0, 1, 2] (by decide) rfl
        have hFc := va_free (wc := [oM ad xM_typed xM_people xM_posted xM_hears_27 xM_censuses xM_finding_27, ar (ad 22) cA 12 gMheardWho_27, ar (ad 23) cA 12 gMheardTime_27]) hD hS hA [0, 1, 2] rfl
        obtain ⟨u_5, hc_5, hm⟩ := bd_ok hm
        refine va_calli (va_runV (As := [.int (gMitems ((60 * v1_27) + (2 * v2_27)).toNatClampNeg), .int (gMitems (((60 * v1_27) + (2 * v2_27)) + 1).toNatClampNeg)]) (rest := []) ⟨hx, hb, hml, hown, hts⟩ (kM_heardMore l dC dI cA cB ad H.size (gMitems ((60 * v1_27) + (2 * v2_27)).toNatClampNeg) (gMitems (((60 * v1_27) + (2 * v2_27)) + 1).toNatClampNeg) xM_typed xM_people xM_posted xM_hears_27 xM_censuses xM_finding_27 gMheardWho_27 gMheardTime_27 u_5 hc_5) (cwV 2 hts gX10_read_X10_heardMore rfl rfl rfl (by decide +kernel) ⟨Nat.le_of_ble_eq_true rfl, Nat.le_of_ble_eq_true rfl⟩) ⟨fun a U g mk q => by obtain ⟨q0, q1, qP, qK, qD⟩ := q; exact ⟨q0, q1, qP, va_K.moved (u := U) (U := U.calling g mk a) (Vm.Alike.refl U.vm) qK, qD⟩, va_recv hK hPc (ci := 10) (q0 := 0) rfl rfl, fun U hU hW => ⟨rfl, by rw [hU], by rw [hU]; exact hPc, va_K.moved hW.alike hK, hDc.weaken (fun _ _ _ _ => trivial)⟩⟩ rfl rfl hl.1 rfl (lv_room (Nat.le_of_ble_eq_true rfl)) dX10_read_70 ⟨Nat.le_of_ble_eq_true rfl, Nat.le_of_ble_eq_true rfl⟩) hS (fun q _ h => hFc q h) hFc (fun r_5 _ t H1 locs ht hvm hw hB hz1 hk1 hS => ?_)
        obtain ⟨hP1, hK1, hD1⟩ := hB
        rw [ht] at hP1
        obtain ⟨hP, hD⟩ := va_join (wr := [ar (ad 27) cB 4 gMisThere, ar (ad 29) cA 4 gMsizes, ar (ad 30) cA 240 gMitems]) (w1 := [oM ad xM_typed xM_people xM_posted u_5.2.1 xM_censuses xM_finding_27, ar (ad 22) cA 12 u_5.2.2.1, ar (ad 23) cA 12 u_5.2.2.2]) hP hD [0, 1, 2] [3, 4, 5] rfl rfl (by decide) (by decide) hk1 hFc hP1 hD1
        clear hPc hDc hFc hP1 hK1 hD1 hk1 hz1 hvm ht
        generalize H1 = H at hP hS ⊢
        have hP : va_P (dC, dI) vwCl [oM ad xM_typed xM_people xM_posted u_5.2.1 xM_censuses xM_finding_27, ar (ad 22) cA 12 u_5.2.2.1, ar (ad 23) cA 12 u_5.2.2.2, ar (ad 27) cB 4 gMisThere, ar (ad 29) cA 4 gMsizes, ar (ad 30) cA 240 gMitems] H := hP.sub [3, 4, 5, 0, 1, 2] rfl
        have hD : va_D A [oM ad xM_typed xM_people xM_posted u_5.2.1 xM_censuses xM_finding_27, ar (ad 22) cA 12 u_5.2.2.1, ar (ad 23) cA 12 u_5.2.2.2, ar (ad 27) cB 4 gMisThere, ar (ad 29) cA 4 gMsizes, ar (ad 30) cA 240 gMitems] := hD.sub [3, 4, 5, 0, 1, 2] (by decide) rfl
        have hw := hw.symm
        subst hw
        refine lv_if_le (tgt := 82) hx hb dX10_read_73 (by decide) (fun c_6 => ?_) (fun c_6 => ?_)
        · have hm := it_pos c_6 hm
          refine lv_iload_n hx hb dX10_read_82 rfl (lv_at hl 2 rfl) ?_
          obtain rfl := Option.some.inj hm
          subst hQ
          exact W.iret (v := v2_27) hx hb hr (fun t ht hW => ⟨⟨_, (), rfl, rfl, by rw [ht]; exact hP, va_K.moved hW.alike hK, hAe ▸ hD⟩, hS.F ht⟩) hS.2.2 dX10_read_83
        · have hm := it_neg c_6 hm
          refine lv_iinc (v := (v2_27 + 1)) (lv' := [(2, .int (v2_27 + 1)), (0, .ref (ad 0)), (1, .int v1_27)]) hx hb dX10_read_76 hl (k := 2) rfl rfl (by decide) rfl (fun ls hl => ?_)
          refine lv_goto (tgt := 27) hx hb dX10_read_79 (by decide) ?_
          exact ih_27 _ _ _ _ hm _ _ hP hD hS _ (lv_sub hl [1, 2, 0] rfl)
  unfold fM_read at hm
  refine lv_iload_n hx hb dX10_read_0 rfl (lv_at hl 1 rfl) ?_
  have hPc := hP.sub (ws' := []) [] rfl
  have hDc := hD.sub (ws' := []) [] (by decide) rfl
  have hFc := va_free (wc := []) hD hS hA [] rfl
  obtain ⟨u_7, hc_7, hm⟩ := bd_ok hm
  refine va_calli (va_runS (As := [.int a1]) (rest := []) ⟨hx, hb, hml, hown, hts⟩ (kM_isSheet l dC dI cA cB ad s.heap.size a1 u_7 hc_7) (va_cwS 1 hts gX10_read_X10_isSheet rfl rfl rfl (by decide +kernel) ⟨Nat.le_of_ble_eq_true rfl, Nat.le_of_ble_eq_true rfl⟩) ⟨fun a U g mk q => by obtain ⟨q0, q1, qP, qK, qD⟩ := q; exact ⟨q0, q1, qP, va_K.moved (u := U) (U := U.calling g mk a) (Vm.Alike.refl U.vm) qK, qD⟩, fun U hU hW => ⟨rfl, by rw [hU], by rw [hU]; exact hPc, va_K.moved hW.alike hK, hDc.weaken (fun _ _ _ _ => trivial)⟩⟩ rfl rfl hl.1 rfl (lv_room (Nat.le_of_ble_eq_true rfl)) dX10_read_1 ⟨Nat.le_of_ble_eq_true rfl, Nat.le_of_ble_eq_true rfl⟩) hS (fun q _ h => hFc q h) hFc (fun r_7 _ t H1 locs ht hvm hw hB hz1 hk1 hS => ?_)
  obtain ⟨hP1, hK1, hD1⟩ := hB
  rw [ht] at hP1
  obtain ⟨hP, hD⟩ := va_join (wr := [oM ad xM_typed xM_people xM_posted xM_hears xM_censuses xM_finding, ar (ad 22) cA 12 gMheardWho, ar (ad 23) cA 12 gMheardTime, ar (ad 27) cB 4 gMisThere, ar (ad 29) cA 4 gMsizes, ar (ad 30) cA 240 gMitems]) (w1 := []) hP hD [] [0, 1, 2, 3, 4, 5] rfl rfl (by decide) (by decide) hk1 hFc hP1 hD1
  clear hPc hDc hFc hP1 hK1 hD1 hk1 hz1 hvm ht
  generalize H1 = H at hP hS ⊢
  have hP : va_P (dC, dI) vwCl [oM ad xM_typed xM_people xM_posted xM_hears xM_censuses xM_finding, ar (ad 22) cA 12 gMheardWho, ar (ad 23) cA 12 gMheardTime, ar (ad 27) cB 4 gMisThere, ar (ad 29) cA 4 gMsizes, ar (ad 30) cA 240 gMitems] H := hP
  have hD : va_D A [oM ad xM_typed xM_people xM_posted xM_hears xM_censuses xM_finding, ar (ad 22) cA 12 gMheardWho, ar (ad 23) cA 12 gMheardTime, ar (ad 27) cB 4 gMisThere, ar (ad 29) cA 4 gMsizes, ar (ad 30) cA 240 gMitems] := hD
  have hw := hw.symm
  subst hw
  refine lv_if_ne (tgt := 10) hx hb dX10_read_4 (by decide) (fun c_8 => ?_) (fun c_8 => ?_)
  · have hm := it_neg c_8 hm
    refine lv_aload_n hx hb dX10_read_10 rfl (lv_at hl 0 rfl) ?_
    refine va_get (D := (dC, dI)) (ci := 10) (v := .ref (ad 27)) (C := RX10) (T := TX10) (N := 37) hx hb hts hinX10 hown hK hP 0 rfl rfl 31 (by decide) hl_88 (fun _ h9 => h9) rfl dX10_read_11 ?_
    refine lv_iload_n hx hb dX10_read_14 rfl (lv_at hl 1 rfl) ?_
    obtain ⟨i_9, hm⟩ := ck_ok hm
    refine va_zald hx hb hK hP 3 1 rfl rfl i_9 dX10_read_15 ?_
    refine lv_if_ne (tgt := 25) hx hb dX10_read_16 (by decide) (fun c_10 => ?_) (fun c_10 => ?_)
    · have hm := it_neg c_10 hm
      refine lv_iconst (v := 0) hx hb dX10_read_25 (by decide) ?_
      refine lv_istore_n (lv' := [(2, .int 0), (0, .ref (ad 0)), (1, .int a1)]) hx hb dX10_read_26 rfl hl (by decide) rfl (fun ls hl => ?_)
      exact h_27 _ _ _ _ _ _ _ hm _ _ hP hD hS _ (lv_sub hl [1, 2, 0] rfl)
    · have hm := it_pos c_10 hm
      refine lv_aload_n hx hb dX10_read_19 rfl (lv_at hl 0 rfl) ?_
      refine lv_iconst (v := 1) hx hb dX10_read_20 (by decide) ?_
      have hPc := hP.sub (ws' := [oM ad xM_typed xM_people xM_posted xM_hears xM_censuses xM_finding]) [0] rfl
      have hDc := hD.sub (ws' := [oM ad xM_typed xM_people xM_posted xM_hears xM_censuses xM_finding]) [0] (by decide) rfl
      have hFc := va_free (wc := [oM ad xM_typed xM_people xM_posted xM_hears xM_censuses xM_finding]) hD hS hA [0] rfl
      obtain ⟨u_11, hc_11, hm⟩ := bd_ok hm
      refine va_calli (va_runV (As := [.int 1]) (rest := []) ⟨hx, hb, hml, hown, hts⟩ (kM_meets l dC dI cA cB ad H.size 1 xM_typed xM_people xM_posted xM_hears xM_censuses xM_finding u_11 hc_11) (cwV 1 hts gX10_read_X10_meets rfl rfl rfl (by decide +kernel) ⟨Nat.le_of_ble_eq_true rfl, Nat.le_of_ble_eq_true rfl⟩) ⟨fun a U g mk q => by obtain ⟨q0, q1, qP, qK, qD⟩ := q; exact ⟨q0, q1, qP, va_K.moved (u := U) (U := U.calling g mk a) (Vm.Alike.refl U.vm) qK, qD⟩, va_recv hK hPc (ci := 10) (q0 := 0) rfl rfl, fun U hU hW => ⟨rfl, by rw [hU], by rw [hU]; exact hPc, va_K.moved hW.alike hK, hDc.weaken (fun _ _ _ _ => trivial)⟩⟩ rfl rfl hl.1 rfl (lv_room (Nat.le_of_ble_eq_true rfl)) dX10_read_21 ⟨Nat.le_of_ble_eq_true rfl, Nat.le_of_ble_eq_true rfl⟩) hS (fun q _ h => hFc q h) hFc (fun r_11 _ t H1 locs ht hvm hw hB hz1 hk1 hS => ?_)
      obtain ⟨hP1, hK1, hD1⟩ := hB
      rw [ht] at hP1
      obtain ⟨hP, hD⟩ := va_join (wr := [ar (ad 22) cA 12 gMheardWho, ar (ad 23) cA 12 gMheardTime, ar (ad 27) cB 4 gMisThere, ar (ad 29) cA 4 gMsizes, ar (ad 30) cA 240 gMitems]) (w1 := [oM ad xM_typed xM_people xM_posted xM_hears xM_censuses u_11.2]) hP hD [0] [1, 2, 3, 4, 5] rfl rfl (by decide) (by decide) hk1 hFc hP1 hD1
      clear hPc hDc hFc hP1 hK1 hD1 hk1 hz1 hvm ht
      generalize H1 = H at hP hS ⊢
      have hP : va_P (dC, dI) vwCl [oM ad xM_typed xM_people xM_posted xM_hears xM_censuses u_11.2, ar (ad 22) cA 12 gMheardWho, ar (ad 23) cA 12 gMheardTime, ar (ad 27) cB 4 gMisThere, ar (ad 29) cA 4 gMsizes, ar (ad 30) cA 240 gMitems] H := hP.sub [5, 0, 1, 2, 3, 4] rfl
      have hD : va_D A [oM ad xM_typed xM_people xM_posted xM_hears xM_censuses u_11.2, ar (ad 22) cA 12 gMheardWho, ar (ad 23) cA 12 gMheardTime, ar (ad 27) cB 4 gMisThere, ar (ad 29) cA 4 gMsizes, ar (ad 30) cA 240 gMitems] := hD.sub [5, 0, 1, 2, 3, 4] (by decide) rfl
      have hw := hw.symm
      subst hw
      obtain rfl := Option.some.inj hm
      subst hQ
      exact W.iret (v := u_11.1) hx hb hr (fun t ht hW => ⟨⟨_, (), rfl, rfl, by rw [ht]; exact hP, va_K.moved hW.alike hK, hAe ▸ hD⟩, hS.F ht⟩) hS.2.2 dX10_read_24
  · have hm := it_pos c_8 hm
    refine lv_bipush (v := (-2)) hx hb dX10_read_7 (by decide) ?_
    obtain rfl := Option.some.inj hm
    subst hQ
    exact W.iret (v := (-2)) hx hb hr (fun t ht hW => ⟨⟨_, (), rfl, rfl, by rw [ht]; exact hP, va_K.moved hW.alike hK, hAe ▸ hD⟩, hS.F ht⟩) hS.2.2 dX10_read_9

set_option maxHeartbeats 4000000 in
set_option maxRecDepth 100000 in
theorem kM_forget (l : Launch) (dC : Nat → ClassId) (dI : Nat → Nat → Nat) (cA : ClassId) (cB : ClassId) (ad : Nat → Nat) (sz : Nat) (xM_typed : Int32) (xM_people : Int32) (xM_posted : Int32) (xM_hears : Int32) (xM_censuses : Int32) (xM_finding : Int32) (u : Int32 × Int32) (hm : fM_forget xM_hears = some u) : Met l yX10_forget wsX10_forget ({ frames := 0, cells := 0, slots := 0, locals := 0 }) (va_Pc [.ref (ad 0)] (fun U => U.heap.size = sz ∧ va_P (dC, dI) vwCl [oM ad xM_typed xM_people xM_posted xM_hears xM_censuses xM_finding] U.heap ∧ va_K (dC, dI) vwCl [(cA, .int), (cB, .boolean)] U ∧ va_D (fun _ => True) [oM ad xM_typed xM_people xM_posted xM_hears xM_censuses xM_finding])) (va_Qi (fun (r : Int32) (_ : Unit) => r = u.1) (fun (_ : Unit) t => va_P (dC, dI) vwCl [oM ad xM_typed xM_people xM_posted u.2 xM_censuses xM_finding] t.heap ∧ va_K (dC, dI) vwCl [(cA, .int), (cB, .boolean)] t ∧ va_D (va_A [oM ad xM_typed xM_people xM_posted xM_hears xM_censuses xM_finding] sz) [oM ad xM_typed xM_people xM_posted u.2 xM_censuses xM_finding]) (va_A [oM ad xM_typed xM_people xM_posted xM_hears xM_censuses xM_finding] sz)) 0 0 (va_A [oM ad xM_typed xM_people xM_posted xM_hears xM_censuses xM_finding] sz) := by
  refine Met.ofW (cc := cX10_forget) (maxL := 2) (ret := (some .int)) (by decide) rfl ?_
  intro p e s m args below meth c s₁ B hml hv
  obtain ⟨rfl, hsz, hP, hK, hD0⟩ := hv
  have hx := B.exec
  have hb := B.bytes
  have hr := B.returns
  have hts := atoms_spec (ws := wsX10_forget) B.pre
  have hown : s.vm.findClass RX10 = some m.cls := findClass_of_methodNamed B.named
  have hlocks := B.notSynchronized
  subst hsz
  have hD := hD0.self (sz := s.heap.size)
  generalize hAe : va_A [oM ad xM_typed xM_people xM_posted xM_hears xM_censuses xM_finding] s.heap.size = A at hD ⊢
  have hA : ∀ q : Nat, s.heap.size ≤ q → A q := fun q h => by rw [← hAe]; exact Or.inr h
  have hS : va_S A s.heap s.heap [] := va_S.rf
  have hl := lv_entry ([.ref (ad 0)]) (n := 2) (Nat.le_of_ble_eq_true rfl)
  rw [lg_entry_eq]
  generalize (lg_sl ([.ref (ad 0)]) ++ List.replicate (2 - (lg_sl ([.ref (ad 0)])).length) Slot.unset).toArray = ls at hl ⊢
  have hl : lv_has ls 2 [(0, .ref (ad 0))] := hl
  refine wk_Q (fun QQ hQ => ?_)
  have hinX10 : ∀ w ∈ wsX100, w ∈ wsX10_forget := fun w h => List.mem_cons_of_mem _ (inlX10 w h)
  have hl_231 := hts (.fieldLink RX10 231 "HandCensusModel" "hears" "I") (List.mem_cons_of_mem _ (in_r32 _ (List.mem_of_getElem? (i := 20) rfl)))
  unfold fM_forget at hm
  refine lv_aload_n hx hb dX10_forget_0 rfl (lv_at hl 0 rfl) ?_
  refine va_get (D := (dC, dI)) (ci := 10) (v := .int xM_hears) (C := RX10) (T := TX10) (N := 37) hx hb hts hinX10 hown hK hP 0 rfl rfl 24 (by decide) hl_231 (fun _ h9 => h9) rfl dX10_forget_1 ?_
  refine lv_istore_n (lv' := [(1, .int xM_hears), (0, .ref (ad 0))]) hx hb dX10_forget_4 rfl hl (by decide) rfl (fun ls hl => ?_)
  refine lv_aload_n hx hb dX10_forget_5 rfl (lv_at hl 1 rfl) ?_
  refine lv_iconst (v := 0) hx hb dX10_forget_6 (by decide) ?_
  refine va_put (D := (dC, dI)) (ci := 10) (v := .int 0) (ty := .int) (C := RX10) (T := TX10) (N := 37) hx hb hts hinX10 tyX10 tyX10_ok nmX10 hown hK hP hD hS 0 rfl rfl 24 (by decide) hl_231 (fun _ h9 => h9) rfl (by decide +kernel) rfl rfl (Nat.le_of_ble_eq_true rfl) dX10_forget_7 (fun H locs hP hD hS => ?_)
  have hP : va_P (dC, dI) vwCl [oM ad xM_typed xM_people xM_posted 0 xM_censuses xM_finding] H := hP
  have hD : va_D A [oM ad xM_typed xM_people xM_posted 0 xM_censuses xM_finding] := hD
  refine lv_iload_n hx hb dX10_forget_10 rfl (lv_at hl 0 rfl) ?_
  obtain rfl := Option.some.inj hm
  subst hQ
  exact W.iret (v := xM_hears) hx hb hr (fun t ht hW => ⟨⟨_, (), rfl, rfl, by rw [ht]; exact hP, va_K.moved hW.alike hK, hAe ▸ hD⟩, hS.F ht⟩) hS.2.2 dX10_forget_11

set_option maxHeartbeats 4000000 in
set_option maxRecDepth 100000 in
theorem kM_unlikeBy (l : Launch) (dC : Nat → ClassId) (dI : Nat → Nat → Nat) (cA : ClassId) (cB : ClassId) (ad : Nat → Nat) (sz : Nat) (xM_typed : Int32) (xM_people : Int32) (xM_posted : Int32) (xM_hears : Int32) (xM_censuses : Int32) (xM_finding : Int32) (gMfeltMany : Nat → Int32) (gMfeltBits : Nat → Int32) (gMheardWho : Nat → Int32) (gMheardTime : Nat → Int32) (u : Int32) (hm : fM_unlikeBy xM_people xM_hears gMfeltMany gMfeltBits gMheardWho gMheardTime = some u) : Met l yX10_unlikeBy wsX10_unlikeBy ({ frames := 2, cells := 0, slots := 0, locals := 46 }) (va_Pc [.ref (ad 0)] (fun U => U.heap.size = sz ∧ va_P (dC, dI) vwCl [oM ad xM_typed xM_people xM_posted xM_hears xM_censuses xM_finding, ar (ad 15) cA 20 gMfeltMany, ar (ad 16) cA 8020 gMfeltBits, ar (ad 22) cA 12 gMheardWho, ar (ad 23) cA 12 gMheardTime] U.heap ∧ va_K (dC, dI) vwCl [(cA, .int), (cB, .boolean)] U ∧ va_D (fun _ => True) [oM ad xM_typed xM_people xM_posted xM_hears xM_censuses xM_finding, ar (ad 15) cA 20 gMfeltMany, ar (ad 16) cA 8020 gMfeltBits, ar (ad 22) cA 12 gMheardWho, ar (ad 23) cA 12 gMheardTime])) (va_Qi (fun (r : Int32) (_ : Unit) => r = u) (fun (_ : Unit) t => va_P (dC, dI) vwCl [oM ad xM_typed xM_people xM_posted xM_hears xM_censuses xM_finding, ar (ad 15) cA 20 gMfeltMany, ar (ad 16) cA 8020 gMfeltBits, ar (ad 22) cA 12 gMheardWho, ar (ad 23) cA 12 gMheardTime] t.heap ∧ va_K (dC, dI) vwCl [(cA, .int), (cB, .boolean)] t ∧ va_D (va_A [oM ad xM_typed xM_people xM_posted xM_hears xM_censuses xM_finding, ar (ad 15) cA 20 gMfeltMany, ar (ad 16) cA 8020 gMfeltBits, ar (ad 22) cA 12 gMheardWho, ar (ad 23) cA 12 gMheardTime] sz) [oM ad xM_typed xM_people xM_posted xM_hears xM_censuses xM_finding, ar (ad 15) cA 20 gMfeltMany, ar (ad 16) cA 8020 gMfeltBits, ar (ad 22) cA 12 gMheardWho, ar (ad 23) cA 12 gMheardTime]) (va_A [oM ad xM_typed xM_people xM_posted xM_hears xM_censuses xM_finding, ar (ad 15) cA 20 gMfeltMany, ar (ad 16) cA 8020 gMfeltBits, ar (ad 22) cA 12 gMheardWho, ar (ad 23) cA 12 gMheardTime] sz)) 0 0 (va_A [oM ad xM_typed xM_people xM_posted xM_hears xM_censuses xM_finding, ar (ad 15) cA 20 gMfeltMany, ar (ad 16) cA 8020 gMfeltBits, ar (ad 22) cA 12 gMheardWho, ar (ad 23) cA 12 gMheardTime] sz) := by
  refine Met.ofW (cc := cX10_unlikeBy) (maxL := 4) (ret := (some .int)) (by decide) rfl ?_
  intro p e s m args below meth c s₁ B hml hv
  obtain ⟨rfl, hsz, hP, hK, hD0⟩ := hv
  have hx := B.exec
  have hb := B.bytes
  have hr := B.returns
  have hts := atoms_spec (ws := wsX10_unlikeBy) B.pre
  have hown : s.vm.findClass RX10 = some m.cls := findClass_of_methodNamed B.named
  have hlocks := B.notSynchronized
  subst hsz
  have hD := hD0.self (sz := s.heap.size)
  generalize hAe : va_A [oM ad xM_typed xM_people xM_posted xM_hears xM_censuses xM_finding, ar (ad 15) cA 20 gMfeltMany, ar (ad 16) cA 8020 gMfeltBits, ar (ad 22) cA 12 gMheardWho, ar (ad 23) cA 12 gMheardTime] s.heap.size = A at hD ⊢
  have hA : ∀ q : Nat, s.heap.size ≤ q → A q := fun q h => by rw [← hAe]; exact Or.inr h
  have hS : va_S A s.heap s.heap [] := va_S.rf
  have hl := lv_entry ([.ref (ad 0)]) (n := 4) (Nat.le_of_ble_eq_true rfl)
  rw [lg_entry_eq]
  generalize (lg_sl ([.ref (ad 0)]) ++ List.replicate (4 - (lg_sl ([.ref (ad 0)])).length) Slot.unset).toArray = ls at hl ⊢
  have hl : lv_has ls 4 [(0, .ref (ad 0))] := hl
  refine wk_Q (fun QQ hQ => ?_)
  have hinX10 : ∀ w ∈ wsX100, w ∈ wsX10_unlikeBy := fun w h => List.mem_cons_of_mem _ (inlX10 w h)
  have hl_76 := hts (.fieldLink RX10 76 "HandCensusModel" "heardTime" "[I") (List.mem_cons_of_mem _ (in_r7 _ (List.mem_of_getElem? (i := 17) rfl)))
  have hl_231 := hts (.fieldLink RX10 231 "HandCensusModel" "hears" "I") (List.mem_cons_of_mem _ (in_r32 _ (List.mem_of_getElem? (i := 20) rfl)))
  have hl_73 := hts (.fieldLink RX10 73 "HandCensusModel" "heardWho" "[I") (List.mem_cons_of_mem _ (in_r7 _ (List.mem_of_getElem? (i := 16) rfl)))
  have hl_112 := hts (.fieldLink RX10 112 "HandCensusModel" "people" "I") (List.mem_cons_of_mem _ (in_r12 _ (List.mem_of_getElem? (i := 4) rfl)))
  have h_4 : ∀ (n_4 : Nat), ∀ (v1_4 : Int32) (v2_4 : Int32), fM_unlikeBy_4 xM_people xM_hears gMfeltMany gMfeltBits gMheardWho gMheardTime n_4 v1_4 v2_4 = some u → ∀ (H : Heap) (locs : List Loc), va_P (dC, dI) vwCl [oM ad xM_typed xM_people xM_posted xM_hears xM_censuses xM_finding, ar (ad 15) cA 20 gMfeltMany, ar (ad 16) cA 8020 gMfeltBits, ar (ad 22) cA 12 gMheardWho, ar (ad 23) cA 12 gMheardTime] H → va_D A [oM ad xM_typed xM_people xM_posted xM_hears xM_censuses xM_finding, ar (ad 15) cA 20 gMfeltMany, ar (ad 16) cA 8020 gMfeltBits, ar (ad 22) cA 12 gMheardWho, ar (ad 23) cA 12 gMheardTime] → va_S A s.heap H locs → ∀ ls : Array Slot, lv_has ls 4 [(0, .ref (ad 0)), (1, .int v1_4), (2, .int v2_4)] → W p l e (headSpec wsX10_unlikeBy ({ frames := 2, cells := 0, slots := 0, locals := 46 })).room s m ([.ref (ad 0)] : List Value).toArray below meth c H locs 0 0 QQ (F0 m 4 ls []) := by
    intro n_4
    induction n_4 with
    | zero => intro v1_4 v2_4 hm; have hm : (none : Option (Int32)) = some u := hm; cases hm
    | succ n_4 ih_4 =>
      have b_57 : ∀ (v2_57 : Int32) (s0_57 : Int32) (s1_57 : Int32), fM_unlikeBy_57 (fM_unlikeBy_4  xM_people xM_hears gMfeltMany gMfeltBits gMheardWho gMheardTime n_4) v2_57 s0_57 s1_57 xM_people xM_hears gMfeltMany gMfeltBits gMheardWho gMheardTime = some u → ∀ (H : Heap) (locs : List Loc), va_P (dC, dI) vwCl [oM ad xM_typed xM_people xM_posted xM_hears xM_censuses xM_finding, ar (ad 15) cA 20 gMfeltMany, ar (ad 16) cA 8020 gMfeltBits, ar (ad 22) cA 12 gMheardWho, ar (ad 23) cA 12 gMheardTime] H → va_D A [oM ad xM_typed xM_people xM_posted xM_hears xM_censuses xM_finding, ar (ad 15) cA 20 gMfeltMany, ar (ad 16) cA 8020 gMfeltBits, ar (ad 22) cA 12 gMheardWho, ar (ad 23) cA 12 gMheardTime] → va_S A s.heap H locs → ∀ ls : Array Slot, lv_has ls 4 [(0, .ref (ad 0)), (2, .int v2_57)] → W p l e (headSpec wsX10_unlikeBy ({ frames := 2, cells := 0, slots := 0, locals := 46 })).room s m ([.ref (ad 0)] : List Value).toArray below meth c H locs 0 0 QQ (F0 m 57 ls [.int s1_57, .int s0_57]) := by
        intro v2_57 s0_57 s1_57 hm H locs hP hD hS ls hl
        unfold fM_unlikeBy_57 at hm
        refine lv_iadd hx hb dX10_unlikeBy_57 ?_
        refine lv_istore_n (lv' := [(1, .int (s0_57 + s1_57)), (0, .ref (ad 0)), (2, .int v2_57)]) hx hb dX10_unlikeBy_58 rfl hl (by decide) rfl (fun ls hl => ?_)
        refine lv_iinc (v := (v2_57 + 1)) (lv' := [(2, .int (v2_57 + 1)), (1, .int (s0_57 + s1_57)), (0, .ref (ad 0))]) hx hb dX10_unlikeBy_59 hl (k := 2) rfl rfl (by decide) rfl (fun ls hl => ?_)
        refine lv_goto (tgt := 4) hx hb dX10_unlikeBy_62 (by decide) ?_
        exact ih_4 _ _ hm _ _ hP hD hS _ (lv_sub hl [2, 1, 0] rfl)
      have b_40 : ∀ (v1_40 : Int32) (v2_40 : Int32) (s0_40 : Int32), fM_unlikeBy_40 (fM_unlikeBy_4  xM_people xM_hears gMfeltMany gMfeltBits gMheardWho gMheardTime n_4) v1_40 v2_40 s0_40 xM_people xM_hears gMfeltMany gMfeltBits gMheardWho gMheardTime = some u → ∀ (H : Heap) (locs : List Loc), va_P (dC, dI) vwCl [oM ad xM_typed xM_people xM_posted xM_hears xM_censuses xM_finding, ar (ad 15) cA 20 gMfeltMany, ar (ad 16) cA 8020 gMfeltBits, ar (ad 22) cA 12 gMheardWho, ar (ad 23) cA 12 gMheardTime] H → va_D A [oM ad xM_typed xM_people xM_posted xM_hears xM_censuses xM_finding, ar (ad 15) cA 20 gMfeltMany, ar (ad 16) cA 8020 gMfeltBits, ar (ad 22) cA 12 gMheardWho, ar (ad 23) cA 12 gMheardTime] → va_S A s.heap H locs → ∀ ls : Array Slot, lv_has ls 4 [(0, .ref (ad 0)), (1, .int v1_40), (2, .int v2_40)] → W p l e (headSpec wsX10_unlikeBy ({ frames := 2, cells := 0, slots := 0, locals := 46 })).room s m ([.ref (ad 0)] : List Value).toArray below meth c H locs 0 0 QQ (F0 m 40 ls [.int s0_40]) := by
        intro v1_40 v2_40 s0_40 hm H locs hP hD hS ls hl
        unfold fM_unlikeBy_40 at hm
        refine lv_istore_n (lv' := [(3, .int s0_40), (0, .ref (ad 0)), (1, .int v1_40), (2, .int v2_40)]) hx hb dX10_unlikeBy_40 rfl hl (by decide) rfl (fun ls hl => ?_)
        refine lv_iload_n hx hb dX10_unlikeBy_41 rfl (lv_at hl 2 rfl) ?_
        refine lv_iload_n hx hb dX10_unlikeBy_42 rfl (lv_at hl 0 rfl) ?_
        refine lv_aload_n hx hb dX10_unlikeBy_43 rfl (lv_at hl 1 rfl) ?_
        refine va_get (D := (dC, dI)) (ci := 10) (v := .ref (ad 23)) (C := RX10) (T := TX10) (N := 37) hx hb hts hinX10 hown hK hP 0 rfl rfl 26 (by decide) hl_76 (fun _ h9 => h9) rfl dX10_unlikeBy_44 ?_
        refine lv_iload_n hx hb dX10_unlikeBy_47 rfl (lv_at hl 3 rfl) ?_
        obtain ⟨i_1, hm⟩ := ck_ok hm
        refine va_iald hx hb hK hP 4 0 rfl rfl i_1 dX10_unlikeBy_48 ?_
        refine lv_icmp_ne (tgt := 56) hx hb dX10_unlikeBy_49 (by decide) (fun c_2 => ?_) (fun c_2 => ?_)
        · have hm := it_neg c_2 hm
          refine lv_iconst (v := 1) hx hb dX10_unlikeBy_56 (by decide) ?_
          exact b_57 _ _ _ hm _ _ hP hD hS _ (lv_sub hl [1, 3] rfl)
        · have hm := it_pos c_2 hm
          refine lv_iconst (v := 0) hx hb dX10_unlikeBy_52 (by decide) ?_
          refine lv_goto (tgt := 57) hx hb dX10_unlikeBy_53 (by decide) ?_
          exact b_57 _ _ _ hm _ _ hP hD hS _ (lv_sub hl [1, 3] rfl)
      intro v1_4 v2_4 hm H locs hP hD hS ls hl
      have hm : fM_unlikeBy_4_b  (fM_unlikeBy_4  xM_people xM_hears gMfeltMany gMfeltBits gMheardWho gMheardTime n_4) xM_people xM_hears gMfeltMany gMfeltBits gMheardWho gMheardTime v1_4 v2_4 = some u := hm
      unfold fM_unlikeBy_4_b at hm
      refine lv_iload_n hx hb dX10_unlikeBy_4 rfl (lv_at hl 2 rfl) ?_
      refine lv_aload_n hx hb dX10_unlikeBy_5 rfl (lv_at hl 0 rfl) ?_
      refine va_get (D := (dC, dI)) (ci := 10) (v := .int xM_hears) (C := RX10) (T := TX10) (N := 37) hx hb hts hinX10 hown hK hP 0 rfl rfl 24 (by decide) hl_231 (fun _ h9 => h9) rfl dX10_unlikeBy_6 ?_
      refine lv_icmp_ge (tgt := 65) hx hb dX10_unlikeBy_9 (by decide) (fun c_3 => ?_) (fun c_3 => ?_)
      · have hm := it_pos c_3 hm
        refine lv_iload_n hx hb dX10_unlikeBy_65 rfl (lv_at hl 1 rfl) ?_
        obtain rfl := Option.some.inj hm
        subst hQ
        exact W.iret (v := v1_4) hx hb hr (fun t ht hW => ⟨⟨_, (), rfl, rfl, by rw [ht]; exact hP, va_K.moved hW.alike hK, hAe ▸ hD⟩, hS.F ht⟩) hS.2.2 dX10_unlikeBy_66
      · have hm := it_neg c_3 hm
        refine lv_aload_n hx hb dX10_unlikeBy_12 rfl (lv_at hl 0 rfl) ?_
        refine va_get (D := (dC, dI)) (ci := 10) (v := .ref (ad 22)) (C := RX10) (T := TX10) (N := 37) hx hb hts hinX10 hown hK hP 0 rfl rfl 25 (by decide) hl_73 (fun _ h9 => h9) rfl dX10_unlikeBy_13 ?_
        refine lv_iload_n hx hb dX10_unlikeBy_16 rfl (lv_at hl 2 rfl) ?_
        obtain ⟨i_4, hm⟩ := ck_ok hm
        refine va_iald hx hb hK hP 3 0 rfl rfl i_4 dX10_unlikeBy_17 ?_
        refine lv_aload_n hx hb dX10_unlikeBy_18 rfl (lv_at hl 0 rfl) ?_
        refine va_get (D := (dC, dI)) (ci := 10) (v := .int xM_people) (C := RX10) (T := TX10) (N := 37) hx hb hts hinX10 hown hK hP 0 rfl rfl 2 (by decide) hl_112 (fun _ h9 => h9) rfl dX10_unlikeBy_19 ?_
        refine lv_icmp_ge (tgt := 39) hx hb dX10_unlikeBy_22 (by decide) (fun c_5 => ?_) (fun c_5 => ?_)
        · have hm := it_pos c_5 hm
          refine lv_iconst (v := (-1)) hx hb dX10_unlikeBy_39 (by decide) ?_
          exact b_40 _ _ _ hm _ _ hP hD hS _ (lv_sub hl [0, 1, 2] rfl)
        · have hm := it_neg c_5 hm
          refine lv_aload_n hx hb dX10_unlikeBy_25 rfl (lv_at hl 0 rfl) ?_
          refine lv_aload_n hx hb dX10_unlikeBy_26 rfl (lv_at hl 0 rfl) ?_
          refine va_get (D := (dC, dI)) (ci := 10) (v := .ref (ad 22)) (C := RX10) (T := TX10) (N := 37) hx hb hts hinX10 hown hK hP 0 rfl rfl 25 (by decide) hl_73 (fun _ h9 => h9) rfl dX10_unlikeBy_27 ?_
          refine lv_iload_n hx hb dX10_unlikeBy_30 rfl (lv_at hl 2 rfl) ?_
          obtain ⟨i_6, hm⟩ := ck_ok hm
          refine va_iald hx hb hK hP 3 0 rfl rfl i_6 dX10_unlikeBy_31 ?_
          refine lv_iconst (v := 0) hx hb dX10_unlikeBy_32 (by decide) ?_
          have hPc := hP.sub (ws' := [oM ad xM_typed xM_people xM_posted xM_hears xM_censuses xM_finding, ar (ad 15) cA 20 gMfeltMany, ar (ad 16) cA 8020 gMfeltBits]) [0, 1, 2] rfl
          have hDc := hD.sub (ws' := [oM ad xM_typed xM_people xM_posted xM_hears xM_censuses xM_finding, ar (ad 15) cA 20 gMfeltMany, ar (ad 16) cA 8020 gMfeltBits]) [0, 1, 2] (by decide) rfl
          have hFc := va_free (wc := [oM ad xM_typed xM_people xM_posted xM_hears xM_censuses xM_finding, ar (ad 15) cA 20 gMfeltMany, ar (ad 16) cA 8020 gMfeltBits]) hD hS hA [0, 1, 2] rfl
          obtain ⟨u_7, hc_7, hm⟩ := bd_ok hm
          refine va_calli (va_runV (As := [.int (gMheardWho v2_4.toNatClampNeg), .int 0]) (rest := []) ⟨hx, hb, hml, hown, hts⟩ (kM_feltBy l dC dI cA cB ad H.size (gMheardWho v2_4.toNatClampNeg) 0 xM_typed xM_people xM_posted xM_hears xM_censuses xM_finding gMfeltMany gMfeltBits u_7 hc_7) (cwV 2 hts gX10_unlikeBy_X10_feltBy rfl rfl rfl (by decide +kernel) ⟨Nat.le_of_ble_eq_true rfl, Nat.le_of_ble_eq_true rfl⟩) ⟨fun a U g mk q => by obtain ⟨q0, q1, qP, qK, qD⟩ := q; exact ⟨q0, q1, qP, va_K.moved (u := U) (U := U.calling g mk a) (Vm.Alike.refl U.vm) qK, qD⟩, va_recv hK hPc (ci := 10) (q0 := 0) rfl rfl, fun U hU hW => ⟨rfl, by rw [hU], by rw [hU]; exact hPc, va_K.moved hW.alike hK, hDc.weaken (fun _ _ _ _ => trivial)⟩⟩ rfl rfl hl.1 rfl (lv_room (Nat.le_of_ble_eq_true rfl)) dX10_unlikeBy_33 ⟨Nat.le_of_ble_eq_true rfl, Nat.le_of_ble_eq_true rfl⟩) hS (fun q _ h => hFc q h) hFc (fun r_7 _ t H1 locs ht hvm hw hB hz1 hk1 hS => ?_)
          obtain ⟨hP1, hK1, hD1⟩ := hB
          rw [ht] at hP1
          obtain ⟨hP, hD⟩ := va_join (wr := [ar (ad 22) cA 12 gMheardWho, ar (ad 23) cA 12 gMheardTime]) (w1 := [oM ad xM_typed xM_people xM_posted xM_hears xM_censuses xM_finding, ar (ad 15) cA 20 gMfeltMany, ar (ad 16) cA 8020 gMfeltBits]) hP hD [0, 1, 2] [3, 4] rfl rfl (by decide) (by decide) hk1 hFc hP1 hD1
          clear hPc hDc hFc hP1 hK1 hD1 hk1 hz1 hvm ht
          generalize H1 = H at hP hS ⊢
          have hP : va_P (dC, dI) vwCl [oM ad xM_typed xM_people xM_posted xM_hears xM_censuses xM_finding, ar (ad 15) cA 20 gMfeltMany, ar (ad 16) cA 8020 gMfeltBits, ar (ad 22) cA 12 gMheardWho, ar (ad 23) cA 12 gMheardTime] H := hP.sub [2, 3, 4, 0, 1] rfl
          have hD : va_D A [oM ad xM_typed xM_people xM_posted xM_hears xM_censuses xM_finding, ar (ad 15) cA 20 gMfeltMany, ar (ad 16) cA 8020 gMfeltBits, ar (ad 22) cA 12 gMheardWho, ar (ad 23) cA 12 gMheardTime] := hD.sub [2, 3, 4, 0, 1] (by decide) rfl
          have hw := hw.symm
          subst hw
          refine lv_goto (tgt := 40) hx hb dX10_unlikeBy_36 (by decide) ?_
          exact b_40 _ _ _ hm _ _ hP hD hS _ (lv_sub hl [0, 1, 2] rfl)
  unfold fM_unlikeBy at hm
  refine lv_iconst (v := 0) hx hb dX10_unlikeBy_0 (by decide) ?_
  refine lv_istore_n (lv' := [(1, .int 0), (0, .ref (ad 0))]) hx hb dX10_unlikeBy_1 rfl hl (by decide) rfl (fun ls hl => ?_)
  refine lv_iconst (v := 0) hx hb dX10_unlikeBy_2 (by decide) ?_
  refine lv_istore_n (lv' := [(2, .int 0), (1, .int 0), (0, .ref (ad 0))]) hx hb dX10_unlikeBy_3 rfl hl (by decide) rfl (fun ls hl => ?_)
  exact h_4 _ _ _ hm _ _ hP hD hS _ (lv_sub hl [2, 1, 0] rfl)

set_option maxHeartbeats 4000000 in
set_option maxRecDepth 100000 in
theorem kM_unlikeNow (l : Launch) (dC : Nat → ClassId) (dI : Nat → Nat → Nat) (cA : ClassId) (cB : ClassId) (ad : Nat → Nat) (sz : Nat) (xM_typed : Int32) (xM_people : Int32) (xM_posted : Int32) (xM_hears : Int32) (xM_censuses : Int32) (xM_finding : Int32) (gMtext : Nat → Int32) (gMkinds : Nat → Int32) (gMlates : Nat → Int32) (gMscarfs : Nat → Int32) (gMhands : Nat → Int32) (gMrings : Nat → Int32) (gMmains : Nat → Int32) (gMaheadOf : Nat → Int32) (gMlastIn : Nat → Int32) (gMmanyIn : Nat → Int32) (gMsetting : Nat → Int32) (gMcomes : Nat → Int32) (gMbusyTo : Nat → Int32) (gMfeltMany : Nat → Int32) (gMfeltBits : Nat → Int32) (gMlostBits : Nat → Int32) (gMheardWho : Nat → Int32) (gMheardTime : Nat → Int32) (u : Int32 × Int32 × (Nat → Int32) × (Nat → Int32) × (Nat → Int32) × (Nat → Int32) × (Nat → Int32) × (Nat → Int32) × (Nat → Int32) × (Nat → Int32) × (Nat → Int32) × (Nat → Int32) × (Nat → Int32) × (Nat → Int32) × (Nat → Int32) × (Nat → Int32)) (hm : fM_unlikeNow xM_typed xM_people xM_hears gMtext gMkinds gMlates gMscarfs gMhands gMrings gMmains gMaheadOf gMlastIn gMmanyIn gMsetting gMcomes gMbusyTo gMfeltMany gMfeltBits gMlostBits gMheardWho gMheardTime = some u) : Met l yX10_unlikeNow wsX10_unlikeNow ({ frames := 5, cells := 0, slots := 0, locals := 124 }) (va_Pc [.ref (ad 0)] (fun U => U.heap.size = sz ∧ va_P (dC, dI) vwCl [oM ad xM_typed xM_people xM_posted xM_hears xM_censuses xM_finding, ar (ad 1) cA 60 gMtext, ar (ad 2) cA 20 gMkinds, ar (ad 3) cA 20 gMlates, ar (ad 4) cA 20 gMscarfs, ar (ad 5) cA 20 gMhands, ar (ad 6) cA 20 gMrings, ar (ad 7) cA 20 gMmains, ar (ad 8) cA 4 gMaheadOf, ar (ad 9) cA 4 gMlastIn, ar (ad 10) cA 4 gMmanyIn, ar (ad 11) cA 3 gMsetting, ar (ad 13) cA 8020 gMcomes, ar (ad 14) cA 20 gMbusyTo, ar (ad 15) cA 20 gMfeltMany, ar (ad 16) cA 8020 gMfeltBits, ar (ad 17) cA 8020 gMlostBits, ar (ad 22) cA 12 gMheardWho, ar (ad 23) cA 12 gMheardTime] U.heap ∧ va_K (dC, dI) vwCl [(cA, .int), (cB, .boolean)] U ∧ va_D (fun _ => True) [oM ad xM_typed xM_people xM_posted xM_hears xM_censuses xM_finding, ar (ad 1) cA 60 gMtext, ar (ad 2) cA 20 gMkinds, ar (ad 3) cA 20 gMlates, ar (ad 4) cA 20 gMscarfs, ar (ad 5) cA 20 gMhands, ar (ad 6) cA 20 gMrings, ar (ad 7) cA 20 gMmains, ar (ad 8) cA 4 gMaheadOf, ar (ad 9) cA 4 gMlastIn, ar (ad 10) cA 4 gMmanyIn, ar (ad 11) cA 3 gMsetting, ar (ad 13) cA 8020 gMcomes, ar (ad 14) cA 20 gMbusyTo, ar (ad 15) cA 20 gMfeltMany, ar (ad 16) cA 8020 gMfeltBits, ar (ad 17) cA 8020 gMlostBits, ar (ad 22) cA 12 gMheardWho, ar (ad 23) cA 12 gMheardTime])) (va_Qi (fun (r : Int32) (_ : Unit) => r = u.1) (fun (_ : Unit) t => va_P (dC, dI) vwCl [oM ad xM_typed u.2.1 xM_posted xM_hears xM_censuses xM_finding, ar (ad 1) cA 60 gMtext, ar (ad 2) cA 20 u.2.2.1, ar (ad 3) cA 20 u.2.2.2.1, ar (ad 4) cA 20 u.2.2.2.2.1, ar (ad 5) cA 20 u.2.2.2.2.2.1, ar (ad 6) cA 20 u.2.2.2.2.2.2.1, ar (ad 7) cA 20 u.2.2.2.2.2.2.2.1, ar (ad 8) cA 4 u.2.2.2.2.2.2.2.2.1, ar (ad 9) cA 4 u.2.2.2.2.2.2.2.2.2.1, ar (ad 10) cA 4 u.2.2.2.2.2.2.2.2.2.2.1, ar (ad 11) cA 3 gMsetting, ar (ad 13) cA 8020 u.2.2.2.2.2.2.2.2.2.2.2.1, ar (ad 14) cA 20 u.2.2.2.2.2.2.2.2.2.2.2.2.1, ar (ad 15) cA 20 u.2.2.2.2.2.2.2.2.2.2.2.2.2.1, ar (ad 16) cA 8020 u.2.2.2.2.2.2.2.2.2.2.2.2.2.2.1, ar (ad 17) cA 8020 u.2.2.2.2.2.2.2.2.2.2.2.2.2.2.2, ar (ad 22) cA 12 gMheardWho, ar (ad 23) cA 12 gMheardTime] t.heap ∧ va_K (dC, dI) vwCl [(cA, .int), (cB, .boolean)] t ∧ va_D (va_A [oM ad xM_typed xM_people xM_posted xM_hears xM_censuses xM_finding, ar (ad 1) cA 60 gMtext, ar (ad 2) cA 20 gMkinds, ar (ad 3) cA 20 gMlates, ar (ad 4) cA 20 gMscarfs, ar (ad 5) cA 20 gMhands, ar (ad 6) cA 20 gMrings, ar (ad 7) cA 20 gMmains, ar (ad 8) cA 4 gMaheadOf, ar (ad 9) cA 4 gMlastIn, ar (ad 10) cA 4 gMmanyIn, ar (ad 11) cA 3 gMsetting, ar (ad 13) cA 8020 gMcomes, ar (ad 14) cA 20 gMbusyTo, ar (ad 15) cA 20 gMfeltMany, ar (ad 16) cA 8020 gMfeltBits, ar (ad 17) cA 8020 gMlostBits, ar (ad 22) cA 12 gMheardWho, ar (ad 23) cA 12 gMheardTime] sz) [oM ad xM_typed u.2.1 xM_posted xM_hears xM_censuses xM_finding, ar (ad 1) cA 60 gMtext, ar (ad 2) cA 20 u.2.2.1, ar (ad 3) cA 20 u.2.2.2.1, ar (ad 4) cA 20 u.2.2.2.2.1, ar (ad 5) cA 20 u.2.2.2.2.2.1, ar (ad 6) cA 20 u.2.2.2.2.2.2.1, ar (ad 7) cA 20 u.2.2.2.2.2.2.2.1, ar (ad 8) cA 4 u.2.2.2.2.2.2.2.2.1, ar (ad 9) cA 4 u.2.2.2.2.2.2.2.2.2.1, ar (ad 10) cA 4 u.2.2.2.2.2.2.2.2.2.2.1, ar (ad 11) cA 3 gMsetting, ar (ad 13) cA 8020 u.2.2.2.2.2.2.2.2.2.2.2.1, ar (ad 14) cA 20 u.2.2.2.2.2.2.2.2.2.2.2.2.1, ar (ad 15) cA 20 u.2.2.2.2.2.2.2.2.2.2.2.2.2.1, ar (ad 16) cA 8020 u.2.2.2.2.2.2.2.2.2.2.2.2.2.2.1, ar (ad 17) cA 8020 u.2.2.2.2.2.2.2.2.2.2.2.2.2.2.2, ar (ad 22) cA 12 gMheardWho, ar (ad 23) cA 12 gMheardTime]) (va_A [oM ad xM_typed xM_people xM_posted xM_hears xM_censuses xM_finding, ar (ad 1) cA 60 gMtext, ar (ad 2) cA 20 gMkinds, ar (ad 3) cA 20 gMlates, ar (ad 4) cA 20 gMscarfs, ar (ad 5) cA 20 gMhands, ar (ad 6) cA 20 gMrings, ar (ad 7) cA 20 gMmains, ar (ad 8) cA 4 gMaheadOf, ar (ad 9) cA 4 gMlastIn, ar (ad 10) cA 4 gMmanyIn, ar (ad 11) cA 3 gMsetting, ar (ad 13) cA 8020 gMcomes, ar (ad 14) cA 20 gMbusyTo, ar (ad 15) cA 20 gMfeltMany, ar (ad 16) cA 8020 gMfeltBits, ar (ad 17) cA 8020 gMlostBits, ar (ad 22) cA 12 gMheardWho, ar (ad 23) cA 12 gMheardTime] sz)) 0 0 (va_A [oM ad xM_typed xM_people xM_posted xM_hears xM_censuses xM_finding, ar (ad 1) cA 60 gMtext, ar (ad 2) cA 20 gMkinds, ar (ad 3) cA 20 gMlates, ar (ad 4) cA 20 gMscarfs, ar (ad 5) cA 20 gMhands, ar (ad 6) cA 20 gMrings, ar (ad 7) cA 20 gMmains, ar (ad 8) cA 4 gMaheadOf, ar (ad 9) cA 4 gMlastIn, ar (ad 10) cA 4 gMmanyIn, ar (ad 11) cA 3 gMsetting, ar (ad 13) cA 8020 gMcomes, ar (ad 14) cA 20 gMbusyTo, ar (ad 15) cA 20 gMfeltMany, ar (ad 16) cA 8020 gMfeltBits, ar (ad 17) cA 8020 gMlostBits, ar (ad 22) cA 12 gMheardWho, ar (ad 23) cA 12 gMheardTime] sz) := by
  refine Met.ofW (cc := cX10_unlikeNow) (maxL := 1) (ret := (some .int)) (by decide) rfl ?_
  intro p e s m args below meth c s₁ B hml hv
  obtain ⟨rfl, hsz, hP, hK, hD0⟩ := hv
  have hx := B.exec
  have hb := B.bytes
  have hr := B.returns
  have hts := atoms_spec (ws := wsX10_unlikeNow) B.pre
  have hown : s.vm.findClass RX10 = some m.cls := findClass_of_methodNamed B.named
  have hlocks := B.notSynchronized
  subst hsz
  have hD := hD0.self (sz := s.heap.size)
  generalize hAe : va_A [oM ad xM_typed xM_people xM_posted xM_hears xM_censuses xM_finding, ar (ad 1) cA 60 gMtext, ar (ad 2) cA 20 gMkinds, ar (ad 3) cA 20 gMlates, ar (ad 4) cA 20 gMscarfs, ar (ad 5) cA 20 gMhands, ar (ad 6) cA 20 gMrings, ar (ad 7) cA 20 gMmains, ar (ad 8) cA 4 gMaheadOf, ar (ad 9) cA 4 gMlastIn, ar (ad 10) cA 4 gMmanyIn, ar (ad 11) cA 3 gMsetting, ar (ad 13) cA 8020 gMcomes, ar (ad 14) cA 20 gMbusyTo, ar (ad 15) cA 20 gMfeltMany, ar (ad 16) cA 8020 gMfeltBits, ar (ad 17) cA 8020 gMlostBits, ar (ad 22) cA 12 gMheardWho, ar (ad 23) cA 12 gMheardTime] s.heap.size = A at hD ⊢
  have hA : ∀ q : Nat, s.heap.size ≤ q → A q := fun q h => by rw [← hAe]; exact Or.inr h
  have hS : va_S A s.heap s.heap [] := va_S.rf
  have hl := lv_entry ([.ref (ad 0)]) (n := 1) (Nat.le_of_ble_eq_true rfl)
  rw [lg_entry_eq]
  generalize (lg_sl ([.ref (ad 0)]) ++ List.replicate (1 - (lg_sl ([.ref (ad 0)])).length) Slot.unset).toArray = ls at hl ⊢
  have hl : lv_has ls 1 [(0, .ref (ad 0))] := hl
  refine wk_Q (fun QQ hQ => ?_)
  unfold fM_unlikeNow at hm
  refine lv_aload_n hx hb dX10_unlikeNow_0 rfl (lv_at hl 0 rfl) ?_
  have hPc := hP.sub (ws' := [oM ad xM_typed xM_people xM_posted xM_hears xM_censuses xM_finding, ar (ad 1) cA 60 gMtext, ar (ad 2) cA 20 gMkinds, ar (ad 3) cA 20 gMlates, ar (ad 4) cA 20 gMscarfs, ar (ad 5) cA 20 gMhands, ar (ad 6) cA 20 gMrings, ar (ad 7) cA 20 gMmains, ar (ad 8) cA 4 gMaheadOf, ar (ad 9) cA 4 gMlastIn, ar (ad 10) cA 4 gMmanyIn, ar (ad 11) cA 3 gMsetting, ar (ad 13) cA 8020 gMcomes, ar (ad 14) cA 20 gMbusyTo, ar (ad 15) cA 20 gMfeltMany, ar (ad 16) cA 8020 gMfeltBits, ar (ad 17) cA 8020 gMlostBits]) [0, 1, 2, 3, 4, 5, 6, 7, 8, 9, 10, 11, 12, 13, 14, 15, 16] rfl
  have hDc := hD.sub (ws' := [oM ad xM_typed xM_people xM_posted xM_hears xM_censuses xM_finding, ar (ad 1) cA 60 gMtext, ar (ad 2) cA 20 gMkinds, ar (ad 3) cA 20 gMlates, ar (ad 4) cA 20 gMscarfs, ar (ad 5) cA 20 gMhands, ar (ad 6) cA 20 gMrings, ar (ad 7) cA 20 gMmains, ar (ad 8) cA 4 gMaheadOf, ar (ad 9) cA 4 gMlastIn, ar (ad 10) cA 4 gMmanyIn, ar (ad 11) cA 3 gMsetting, ar (ad 13) cA 8020 gMcomes, ar (ad 14) cA 20 gMbusyTo, ar (ad 15) cA 20 gMfeltMany, ar (ad 16) cA 8020 gMfeltBits, ar (ad 17) cA 8020 gMlostBits]) [0, 1, 2, 3, 4, 5, 6, 7, 8, 9, 10, 11, 12, 13, 14, 15, 16] (by decide) rfl
  have hFc := va_free (wc := [oM ad xM_typed xM_people xM_posted xM_hears xM_censuses xM_finding, ar (ad 1) cA 60 gMtext, ar (ad 2) cA 20 gMkinds, ar (ad 3) cA 20 gMlates, ar (ad 4) cA 20 gMscarfs, ar (ad 5) cA 20 gMhands, ar (ad 6) cA 20 gMrings, ar (ad 7) cA 20 gMmains, ar (ad 8) cA 4 gMaheadOf, ar (ad 9) cA 4 gMlastIn, ar (ad 10) cA 4 gMmanyIn, ar (ad 11) cA 3 gMsetting, ar (ad 13) cA 8020 gMcomes, ar (ad 14) cA 20 gMbusyTo, ar (ad 15) cA 20 gMfeltMany, ar (ad 16) cA 8020 gMfeltBits, ar (ad 17) cA 8020 gMlostBits]) hD hS hA [0, 1, 2, 3, 4, 5, 6, 7, 8, 9, 10, 11, 12, 13, 14, 15, 16] rfl
  obtain ⟨u_1, hc_1, hm⟩ := bd_ok hm
  refine va_callv (va_runV (As := []) (rest := []) ⟨hx, hb, hml, hown, hts⟩ (kM_lays l dC dI cA cB ad s.heap.size xM_typed xM_people xM_posted xM_hears xM_censuses xM_finding gMtext gMkinds gMlates gMscarfs gMhands gMrings gMmains gMaheadOf gMlastIn gMmanyIn gMsetting gMcomes gMbusyTo gMfeltMany gMfeltBits gMlostBits u_1 hc_1) (cwV 0 hts gX10_unlikeNow_X10_lays rfl rfl rfl (by decide +kernel) ⟨Nat.le_of_ble_eq_true rfl, Nat.le_of_ble_eq_true rfl⟩) ⟨fun a U g mk q => by obtain ⟨q0, q1, qP, qK, qD⟩ := q; exact ⟨q0, q1, qP, va_K.moved (u := U) (U := U.calling g mk a) (Vm.Alike.refl U.vm) qK, qD⟩, va_recv hK hPc (ci := 10) (q0 := 0) rfl rfl, fun U hU hW => ⟨rfl, by rw [hU], by rw [hU]; exact hPc, va_K.moved hW.alike hK, hDc.weaken (fun _ _ _ _ => trivial)⟩⟩ rfl rfl hl.1 rfl (lv_room (Nat.le_of_ble_eq_true rfl)) dX10_unlikeNow_1 ⟨Nat.le_of_ble_eq_true rfl, Nat.le_of_ble_eq_true rfl⟩) hS (fun q _ h => hFc q h) hFc (fun _ t H1 locs ht hvm hw hB hz1 hk1 hS => ?_)
  obtain ⟨hP1, hK1, hD1⟩ := hB
  rw [ht] at hP1
  obtain ⟨hP, hD⟩ := va_join (wr := [ar (ad 22) cA 12 gMheardWho, ar (ad 23) cA 12 gMheardTime]) (w1 := [oM ad xM_typed u_1.1 xM_posted xM_hears xM_censuses xM_finding, ar (ad 1) cA 60 gMtext, ar (ad 2) cA 20 u_1.2.1, ar (ad 3) cA 20 u_1.2.2.1, ar (ad 4) cA 20 u_1.2.2.2.1, ar (ad 5) cA 20 u_1.2.2.2.2.1, ar (ad 6) cA 20 u_1.2.2.2.2.2.1, ar (ad 7) cA 20 u_1.2.2.2.2.2.2.1, ar (ad 8) cA 4 u_1.2.2.2.2.2.2.2.1, ar (ad 9) cA 4 u_1.2.2.2.2.2.2.2.2.1, ar (ad 10) cA 4 u_1.2.2.2.2.2.2.2.2.2.1, ar (ad 11) cA 3 gMsetting, ar (ad 13) cA 8020 u_1.2.2.2.2.2.2.2.2.2.2.1, ar (ad 14) cA 20 u_1.2.2.2.2.2.2.2.2.2.2.2.1, ar (ad 15) cA 20 u_1.2.2.2.2.2.2.2.2.2.2.2.2.1, ar (ad 16) cA 8020 u_1.2.2.2.2.2.2.2.2.2.2.2.2.2.1, ar (ad 17) cA 8020 u_1.2.2.2.2.2.2.2.2.2.2.2.2.2.2]) hP hD [0, 1, 2, 3, 4, 5, 6, 7, 8, 9, 10, 11, 12, 13, 14, 15, 16] [17, 18] rfl rfl (by decide) (by decide) hk1 hFc hP1 hD1
  clear hPc hDc hFc hP1 hK1 hD1 hk1 hz1 hvm ht
  generalize H1 = H at hP hS ⊢
  have hP : va_P (dC, dI) vwCl [oM ad xM_typed u_1.1 xM_posted xM_hears xM_censuses xM_finding, ar (ad 1) cA 60 gMtext, ar (ad 2) cA 20 u_1.2.1, ar (ad 3) cA 20 u_1.2.2.1, ar (ad 4) cA 20 u_1.2.2.2.1, ar (ad 5) cA 20 u_1.2.2.2.2.1, ar (ad 6) cA 20 u_1.2.2.2.2.2.1, ar (ad 7) cA 20 u_1.2.2.2.2.2.2.1, ar (ad 8) cA 4 u_1.2.2.2.2.2.2.2.1, ar (ad 9) cA 4 u_1.2.2.2.2.2.2.2.2.1, ar (ad 10) cA 4 u_1.2.2.2.2.2.2.2.2.2.1, ar (ad 11) cA 3 gMsetting, ar (ad 13) cA 8020 u_1.2.2.2.2.2.2.2.2.2.2.1, ar (ad 14) cA 20 u_1.2.2.2.2.2.2.2.2.2.2.2.1, ar (ad 15) cA 20 u_1.2.2.2.2.2.2.2.2.2.2.2.2.1, ar (ad 16) cA 8020 u_1.2.2.2.2.2.2.2.2.2.2.2.2.2.1, ar (ad 17) cA 8020 u_1.2.2.2.2.2.2.2.2.2.2.2.2.2.2, ar (ad 22) cA 12 gMheardWho, ar (ad 23) cA 12 gMheardTime] H := hP.sub [2, 3, 4, 5, 6, 7, 8, 9, 10, 11, 12, 13, 14, 15, 16, 17, 18, 0, 1] rfl
  have hD : va_D A [oM ad xM_typed u_1.1 xM_posted xM_hears xM_censuses xM_finding, ar (ad 1) cA 60 gMtext, ar (ad 2) cA 20 u_1.2.1, ar (ad 3) cA 20 u_1.2.2.1, ar (ad 4) cA 20 u_1.2.2.2.1, ar (ad 5) cA 20 u_1.2.2.2.2.1, ar (ad 6) cA 20 u_1.2.2.2.2.2.1, ar (ad 7) cA 20 u_1.2.2.2.2.2.2.1, ar (ad 8) cA 4 u_1.2.2.2.2.2.2.2.1, ar (ad 9) cA 4 u_1.2.2.2.2.2.2.2.2.1, ar (ad 10) cA 4 u_1.2.2.2.2.2.2.2.2.2.1, ar (ad 11) cA 3 gMsetting, ar (ad 13) cA 8020 u_1.2.2.2.2.2.2.2.2.2.2.1, ar (ad 14) cA 20 u_1.2.2.2.2.2.2.2.2.2.2.2.1, ar (ad 15) cA 20 u_1.2.2.2.2.2.2.2.2.2.2.2.2.1, ar (ad 16) cA 8020 u_1.2.2.2.2.2.2.2.2.2.2.2.2.2.1, ar (ad 17) cA 8020 u_1.2.2.2.2.2.2.2.2.2.2.2.2.2.2, ar (ad 22) cA 12 gMheardWho, ar (ad 23) cA 12 gMheardTime] := hD.sub [2, 3, 4, 5, 6, 7, 8, 9, 10, 11, 12, 13, 14, 15, 16, 17, 18, 0, 1] (by decide) rfl
  refine lv_aload_n hx hb dX10_unlikeNow_4 rfl (lv_at hl 0 rfl) ?_
  have hPc := hP.sub (ws' := [oM ad xM_typed u_1.1 xM_posted xM_hears xM_censuses xM_finding, ar (ad 15) cA 20 u_1.2.2.2.2.2.2.2.2.2.2.2.2.1, ar (ad 16) cA 8020 u_1.2.2.2.2.2.2.2.2.2.2.2.2.2.1, ar (ad 22) cA 12 gMheardWho, ar (ad 23) cA 12 gMheardTime]) [0, 14, 15, 17, 18] rfl
  have hDc := hD.sub (ws' := [oM ad xM_typed u_1.1 xM_posted xM_hears xM_censuses xM_finding, ar (ad 15) cA 20 u_1.2.2.2.2.2.2.2.2.2.2.2.2.1, ar (ad 16) cA 8020 u_1.2.2.2.2.2.2.2.2.2.2.2.2.2.1, ar (ad 22) cA 12 gMheardWho, ar (ad 23) cA 12 gMheardTime]) [0, 14, 15, 17, 18] (by decide) rfl
  have hFc := va_free (wc := [oM ad xM_typed u_1.1 xM_posted xM_hears xM_censuses xM_finding, ar (ad 15) cA 20 u_1.2.2.2.2.2.2.2.2.2.2.2.2.1, ar (ad 16) cA 8020 u_1.2.2.2.2.2.2.2.2.2.2.2.2.2.1, ar (ad 22) cA 12 gMheardWho, ar (ad 23) cA 12 gMheardTime]) hD hS hA [0, 14, 15, 17, 18] rfl
  obtain ⟨u_2, hc_2, hm⟩ := bd_ok hm
  refine va_calli (va_runV (As := []) (rest := []) ⟨hx, hb, hml, hown, hts⟩ (kM_unlikeBy l dC dI cA cB ad H.size xM_typed u_1.1 xM_posted xM_hears xM_censuses xM_finding u_1.2.2.2.2.2.2.2.2.2.2.2.2.1 u_1.2.2.2.2.2.2.2.2.2.2.2.2.2.1 gMheardWho gMheardTime u_2 hc_2) (cwV 0 hts gX10_unlikeNow_X10_unlikeBy rfl rfl rfl (by decide +kernel) ⟨Nat.le_of_ble_eq_true rfl, Nat.le_of_ble_eq_true rfl⟩) ⟨fun a U g mk q => by obtain ⟨q0, q1, qP, qK, qD⟩ := q; exact ⟨q0, q1, qP, va_K.moved (u := U) (U := U.calling g mk a) (Vm.Alike.refl U.vm) qK, qD⟩, va_recv hK hPc (ci := 10) (q0 := 0) rfl rfl, fun U hU hW => ⟨rfl, by rw [hU], by rw [hU]; exact hPc, va_K.moved hW.alike hK, hDc.weaken (fun _ _ _ _ => trivial)⟩⟩ rfl rfl hl.1 rfl (lv_room (Nat.le_of_ble_eq_true rfl)) dX10_unlikeNow_5 ⟨Nat.le_of_ble_eq_true rfl, Nat.le_of_ble_eq_true rfl⟩) hS (fun q _ h => hFc q h) hFc (fun r_2 _ t H1 locs ht hvm hw hB hz1 hk1 hS => ?_)
  obtain ⟨hP1, hK1, hD1⟩ := hB
  rw [ht] at hP1
  obtain ⟨hP, hD⟩ := va_join (wr := [ar (ad 1) cA 60 gMtext, ar (ad 2) cA 20 u_1.2.1, ar (ad 3) cA 20 u_1.2.2.1, ar (ad 4) cA 20 u_1.2.2.2.1, ar (ad 5) cA 20 u_1.2.2.2.2.1, ar (ad 6) cA 20 u_1.2.2.2.2.2.1, ar (ad 7) cA 20 u_1.2.2.2.2.2.2.1, ar (ad 8) cA 4 u_1.2.2.2.2.2.2.2.1, ar (ad 9) cA 4 u_1.2.2.2.2.2.2.2.2.1, ar (ad 10) cA 4 u_1.2.2.2.2.2.2.2.2.2.1, ar (ad 11) cA 3 gMsetting, ar (ad 13) cA 8020 u_1.2.2.2.2.2.2.2.2.2.2.1, ar (ad 14) cA 20 u_1.2.2.2.2.2.2.2.2.2.2.2.1, ar (ad 17) cA 8020 u_1.2.2.2.2.2.2.2.2.2.2.2.2.2.2]) (w1 := [oM ad xM_typed u_1.1 xM_posted xM_hears xM_censuses xM_finding, ar (ad 15) cA 20 u_1.2.2.2.2.2.2.2.2.2.2.2.2.1, ar (ad 16) cA 8020 u_1.2.2.2.2.2.2.2.2.2.2.2.2.2.1, ar (ad 22) cA 12 gMheardWho, ar (ad 23) cA 12 gMheardTime]) hP hD [0, 14, 15, 17, 18] [1, 2, 3, 4, 5, 6, 7, 8, 9, 10, 11, 12, 13, 16] rfl rfl (by decide) (by decide) hk1 hFc hP1 hD1
  clear hPc hDc hFc hP1 hK1 hD1 hk1 hz1 hvm ht
  generalize H1 = H at hP hS ⊢
  have hP : va_P (dC, dI) vwCl [oM ad xM_typed u_1.1 xM_posted xM_hears xM_censuses xM_finding, ar (ad 1) cA 60 gMtext, ar (ad 2) cA 20 u_1.2.1, ar (ad 3) cA 20 u_1.2.2.1, ar (ad 4) cA 20 u_1.2.2.2.1, ar (ad 5) cA 20 u_1.2.2.2.2.1, ar (ad 6) cA 20 u_1.2.2.2.2.2.1, ar (ad 7) cA 20 u_1.2.2.2.2.2.2.1, ar (ad 8) cA 4 u_1.2.2.2.2.2.2.2.1, ar (ad 9) cA 4 u_1.2.2.2.2.2.2.2.2.1, ar (ad 10) cA 4 u_1.2.2.2.2.2.2.2.2.2.1, ar (ad 11) cA 3 gMsetting, ar (ad 13) cA 8020 u_1.2.2.2.2.2.2.2.2.2.2.1, ar (ad 14) cA 20 u_1.2.2.2.2.2.2.2.2.2.2.2.1, ar (ad 15) cA 20 u_1.2.2.2.2.2.2.2.2.2.2.2.2.1, ar (ad 16) cA 8020 u_1.2.2.2.2.2.2.2.2.2.2.2.2.2.1, ar (ad 17) cA 8020 u_1.2.2.2.2.2.2.2.2.2.2.2.2.2.2, ar (ad 22) cA 12 gMheardWho, ar (ad 23) cA 12 gMheardTime] H := hP.sub [14, 0, 1, 2, 3, 4, 5, 6, 7, 8, 9, 10, 11, 12, 15, 16, 13, 17, 18] rfl
  have hD : va_D A [oM ad xM_typed u_1.1 xM_posted xM_hears xM_censuses xM_finding, ar (ad 1) cA 60 gMtext, ar (ad 2) cA 20 u_1.2.1, ar (ad 3) cA 20 u_1.2.2.1, ar (ad 4) cA 20 u_1.2.2.2.1, ar (ad 5) cA 20 u_1.2.2.2.2.1, ar (ad 6) cA 20 u_1.2.2.2.2.2.1, ar (ad 7) cA 20 u_1.2.2.2.2.2.2.1, ar (ad 8) cA 4 u_1.2.2.2.2.2.2.2.1, ar (ad 9) cA 4 u_1.2.2.2.2.2.2.2.2.1, ar (ad 10) cA 4 u_1.2.2.2.2.2.2.2.2.2.1, ar (ad 11) cA 3 gMsetting, ar (ad 13) cA 8020 u_1.2.2.2.2.2.2.2.2.2.2.1, ar (ad 14) cA 20 u_1.2.2.2.2.2.2.2.2.2.2.2.1, ar (ad 15) cA 20 u_1.2.2.2.2.2.2.2.2.2.2.2.2.1, ar (ad 16) cA 8020 u_1.2.2.2.2.2.2.2.2.2.2.2.2.2.1, ar (ad 17) cA 8020 u_1.2.2.2.2.2.2.2.2.2.2.2.2.2.2, ar (ad 22) cA 12 gMheardWho, ar (ad 23) cA 12 gMheardTime] := hD.sub [14, 0, 1, 2, 3, 4, 5, 6, 7, 8, 9, 10, 11, 12, 15, 16, 13, 17, 18] (by decide) rfl
  have hw := hw.symm
  subst hw
  obtain rfl := Option.some.inj hm
  subst hQ
  exact W.iret (v := u_2) hx hb hr (fun t ht hW => ⟨⟨_, (), rfl, rfl, by rw [ht]; exact hP, va_K.moved hW.alike hK, hAe ▸ hD⟩, hS.F ht⟩) hS.2.2 dX10_unlikeNow_8

set_option maxHeartbeats 4000000 in
set_option maxRecDepth 100000 in
theorem kM_unlike (l : Launch) (dC : Nat → ClassId) (dI : Nat → Nat → Nat) (cA : ClassId) (cB : ClassId) (ad : Nat → Nat) (sz : Nat) (xM_typed : Int32) (xM_people : Int32) (xM_posted : Int32) (xM_hears : Int32) (xM_censuses : Int32) (xM_finding : Int32) (gMtext : Nat → Int32) (gMkinds : Nat → Int32) (gMlates : Nat → Int32) (gMscarfs : Nat → Int32) (gMhands : Nat → Int32) (gMrings : Nat → Int32) (gMmains : Nat → Int32) (gMaheadOf : Nat → Int32) (gMlastIn : Nat → Int32) (gMmanyIn : Nat → Int32) (gMsetting : Nat → Int32) (gMcomes : Nat → Int32) (gMbusyTo : Nat → Int32) (gMfeltMany : Nat → Int32) (gMfeltBits : Nat → Int32) (gMlostBits : Nat → Int32) (gMheardWho : Nat → Int32) (gMheardTime : Nat → Int32) (u : Int32 × Int32 × (Nat → Int32) × (Nat → Int32) × (Nat → Int32) × (Nat → Int32) × (Nat → Int32) × (Nat → Int32) × (Nat → Int32) × (Nat → Int32) × (Nat → Int32) × (Nat → Int32) × (Nat → Int32) × (Nat → Int32) × (Nat → Int32) × (Nat → Int32)) (hm : fM_unlike xM_typed xM_people xM_hears gMtext gMkinds gMlates gMscarfs gMhands gMrings gMmains gMaheadOf gMlastIn gMmanyIn gMsetting gMcomes gMbusyTo gMfeltMany gMfeltBits gMlostBits gMheardWho gMheardTime = some u) : Met l yX10_unlike wsX10_unlike ({ frames := 6, cells := 0, slots := 0, locals := 144 }) (va_Pc [.ref (ad 0)] (fun U => U.heap.size = sz ∧ va_P (dC, dI) vwCl [oM ad xM_typed xM_people xM_posted xM_hears xM_censuses xM_finding, ar (ad 1) cA 60 gMtext, ar (ad 2) cA 20 gMkinds, ar (ad 3) cA 20 gMlates, ar (ad 4) cA 20 gMscarfs, ar (ad 5) cA 20 gMhands, ar (ad 6) cA 20 gMrings, ar (ad 7) cA 20 gMmains, ar (ad 8) cA 4 gMaheadOf, ar (ad 9) cA 4 gMlastIn, ar (ad 10) cA 4 gMmanyIn, ar (ad 11) cA 3 gMsetting, ar (ad 13) cA 8020 gMcomes, ar (ad 14) cA 20 gMbusyTo, ar (ad 15) cA 20 gMfeltMany, ar (ad 16) cA 8020 gMfeltBits, ar (ad 17) cA 8020 gMlostBits, ar (ad 22) cA 12 gMheardWho, ar (ad 23) cA 12 gMheardTime] U.heap ∧ va_K (dC, dI) vwCl [(cA, .int), (cB, .boolean)] U ∧ va_D (fun _ => True) [oM ad xM_typed xM_people xM_posted xM_hears xM_censuses xM_finding, ar (ad 1) cA 60 gMtext, ar (ad 2) cA 20 gMkinds, ar (ad 3) cA 20 gMlates, ar (ad 4) cA 20 gMscarfs, ar (ad 5) cA 20 gMhands, ar (ad 6) cA 20 gMrings, ar (ad 7) cA 20 gMmains, ar (ad 8) cA 4 gMaheadOf, ar (ad 9) cA 4 gMlastIn, ar (ad 10) cA 4 gMmanyIn, ar (ad 11) cA 3 gMsetting, ar (ad 13) cA 8020 gMcomes, ar (ad 14) cA 20 gMbusyTo, ar (ad 15) cA 20 gMfeltMany, ar (ad 16) cA 8020 gMfeltBits, ar (ad 17) cA 8020 gMlostBits, ar (ad 22) cA 12 gMheardWho, ar (ad 23) cA 12 gMheardTime])) (va_Qi (fun (r : Int32) (_ : Unit) => r = u.1) (fun (_ : Unit) t => va_P (dC, dI) vwCl [oM ad xM_typed u.2.1 xM_posted xM_hears xM_censuses xM_finding, ar (ad 1) cA 60 gMtext, ar (ad 2) cA 20 u.2.2.1, ar (ad 3) cA 20 u.2.2.2.1, ar (ad 4) cA 20 u.2.2.2.2.1, ar (ad 5) cA 20 u.2.2.2.2.2.1, ar (ad 6) cA 20 u.2.2.2.2.2.2.1, ar (ad 7) cA 20 u.2.2.2.2.2.2.2.1, ar (ad 8) cA 4 u.2.2.2.2.2.2.2.2.1, ar (ad 9) cA 4 u.2.2.2.2.2.2.2.2.2.1, ar (ad 10) cA 4 u.2.2.2.2.2.2.2.2.2.2.1, ar (ad 11) cA 3 gMsetting, ar (ad 13) cA 8020 u.2.2.2.2.2.2.2.2.2.2.2.1, ar (ad 14) cA 20 u.2.2.2.2.2.2.2.2.2.2.2.2.1, ar (ad 15) cA 20 u.2.2.2.2.2.2.2.2.2.2.2.2.2.1, ar (ad 16) cA 8020 u.2.2.2.2.2.2.2.2.2.2.2.2.2.2.1, ar (ad 17) cA 8020 u.2.2.2.2.2.2.2.2.2.2.2.2.2.2.2, ar (ad 22) cA 12 gMheardWho, ar (ad 23) cA 12 gMheardTime] t.heap ∧ va_K (dC, dI) vwCl [(cA, .int), (cB, .boolean)] t ∧ va_D (va_A [oM ad xM_typed xM_people xM_posted xM_hears xM_censuses xM_finding, ar (ad 1) cA 60 gMtext, ar (ad 2) cA 20 gMkinds, ar (ad 3) cA 20 gMlates, ar (ad 4) cA 20 gMscarfs, ar (ad 5) cA 20 gMhands, ar (ad 6) cA 20 gMrings, ar (ad 7) cA 20 gMmains, ar (ad 8) cA 4 gMaheadOf, ar (ad 9) cA 4 gMlastIn, ar (ad 10) cA 4 gMmanyIn, ar (ad 11) cA 3 gMsetting, ar (ad 13) cA 8020 gMcomes, ar (ad 14) cA 20 gMbusyTo, ar (ad 15) cA 20 gMfeltMany, ar (ad 16) cA 8020 gMfeltBits, ar (ad 17) cA 8020 gMlostBits, ar (ad 22) cA 12 gMheardWho, ar (ad 23) cA 12 gMheardTime] sz) [oM ad xM_typed u.2.1 xM_posted xM_hears xM_censuses xM_finding, ar (ad 1) cA 60 gMtext, ar (ad 2) cA 20 u.2.2.1, ar (ad 3) cA 20 u.2.2.2.1, ar (ad 4) cA 20 u.2.2.2.2.1, ar (ad 5) cA 20 u.2.2.2.2.2.1, ar (ad 6) cA 20 u.2.2.2.2.2.2.1, ar (ad 7) cA 20 u.2.2.2.2.2.2.2.1, ar (ad 8) cA 4 u.2.2.2.2.2.2.2.2.1, ar (ad 9) cA 4 u.2.2.2.2.2.2.2.2.2.1, ar (ad 10) cA 4 u.2.2.2.2.2.2.2.2.2.2.1, ar (ad 11) cA 3 gMsetting, ar (ad 13) cA 8020 u.2.2.2.2.2.2.2.2.2.2.2.1, ar (ad 14) cA 20 u.2.2.2.2.2.2.2.2.2.2.2.2.1, ar (ad 15) cA 20 u.2.2.2.2.2.2.2.2.2.2.2.2.2.1, ar (ad 16) cA 8020 u.2.2.2.2.2.2.2.2.2.2.2.2.2.2.1, ar (ad 17) cA 8020 u.2.2.2.2.2.2.2.2.2.2.2.2.2.2.2, ar (ad 22) cA 12 gMheardWho, ar (ad 23) cA 12 gMheardTime]) (va_A [oM ad xM_typed xM_people xM_posted xM_hears xM_censuses xM_finding, ar (ad 1) cA 60 gMtext, ar (ad 2) cA 20 gMkinds, ar (ad 3) cA 20 gMlates, ar (ad 4) cA 20 gMscarfs, ar (ad 5) cA 20 gMhands, ar (ad 6) cA 20 gMrings, ar (ad 7) cA 20 gMmains, ar (ad 8) cA 4 gMaheadOf, ar (ad 9) cA 4 gMlastIn, ar (ad 10) cA 4 gMmanyIn, ar (ad 11) cA 3 gMsetting, ar (ad 13) cA 8020 gMcomes, ar (ad 14) cA 20 gMbusyTo, ar (ad 15) cA 20 gMfeltMany, ar (ad 16) cA 8020 gMfeltBits, ar (ad 17) cA 8020 gMlostBits, ar (ad 22) cA 12 gMheardWho, ar (ad 23) cA 12 gMheardTime] sz)) 0 0 (va_A [oM ad xM_typed xM_people xM_posted xM_hears xM_censuses xM_finding, ar (ad 1) cA 60 gMtext, ar (ad 2) cA 20 gMkinds, ar (ad 3) cA 20 gMlates, ar (ad 4) cA 20 gMscarfs, ar (ad 5) cA 20 gMhands, ar (ad 6) cA 20 gMrings, ar (ad 7) cA 20 gMmains, ar (ad 8) cA 4 gMaheadOf, ar (ad 9) cA 4 gMlastIn, ar (ad 10) cA 4 gMmanyIn, ar (ad 11) cA 3 gMsetting, ar (ad 13) cA 8020 gMcomes, ar (ad 14) cA 20 gMbusyTo, ar (ad 15) cA 20 gMfeltMany, ar (ad 16) cA 8020 gMfeltBits, ar (ad 17) cA 8020 gMlostBits, ar (ad 22) cA 12 gMheardWho, ar (ad 23) cA 12 gMheardTime] sz) := by
  refine Met.ofW (cc := cX10_unlike) (maxL := 1) (ret := (some .int)) (by decide) rfl ?_
  intro p e s m args below meth c s₁ B hml hv
  obtain ⟨rfl, hsz, hP, hK, hD0⟩ := hv
  have hx := B.exec
  have hb := B.bytes
  have hr := B.returns
  have hts := atoms_spec (ws := wsX10_unlike) B.pre
  have hown : s.vm.findClass RX10 = some m.cls := findClass_of_methodNamed B.named
  have hlocks := B.notSynchronized
  subst hsz
  have hD := hD0.self (sz := s.heap.size)
  generalize hAe : va_A [oM ad xM_typed xM_people xM_posted xM_hears xM_censuses xM_finding, ar (ad 1) cA 60 gMtext, ar (ad 2) cA 20 gMkinds, ar (ad 3) cA 20 gMlates, ar (ad 4) cA 20 gMscarfs, ar (ad 5) cA 20 gMhands, ar (ad 6) cA 20 gMrings, ar (ad 7) cA 20 gMmains, ar (ad 8) cA 4 gMaheadOf, ar (ad 9) cA 4 gMlastIn, ar (ad 10) cA 4 gMmanyIn, ar (ad 11) cA 3 gMsetting, ar (ad 13) cA 8020 gMcomes, ar (ad 14) cA 20 gMbusyTo, ar (ad 15) cA 20 gMfeltMany, ar (ad 16) cA 8020 gMfeltBits, ar (ad 17) cA 8020 gMlostBits, ar (ad 22) cA 12 gMheardWho, ar (ad 23) cA 12 gMheardTime] s.heap.size = A at hD ⊢
  have hA : ∀ q : Nat, s.heap.size ≤ q → A q := fun q h => by rw [← hAe]; exact Or.inr h
  have hS : va_S A s.heap s.heap [] := va_S.rf
  have hl := lv_entry ([.ref (ad 0)]) (n := 1) (Nat.le_of_ble_eq_true rfl)
  rw [lg_entry_eq]
  generalize (lg_sl ([.ref (ad 0)]) ++ List.replicate (1 - (lg_sl ([.ref (ad 0)])).length) Slot.unset).toArray = ls at hl ⊢
  have hl : lv_has ls 1 [(0, .ref (ad 0))] := hl
  refine wk_Q (fun QQ hQ => ?_)
  unfold fM_unlike at hm
  refine lv_aload_n hx hb dX10_unlike_0 rfl (lv_at hl 0 rfl) ?_
  have hPc := hP.sub (ws' := [oM ad xM_typed xM_people xM_posted xM_hears xM_censuses xM_finding, ar (ad 1) cA 60 gMtext, ar (ad 2) cA 20 gMkinds, ar (ad 3) cA 20 gMlates, ar (ad 4) cA 20 gMscarfs, ar (ad 5) cA 20 gMhands, ar (ad 6) cA 20 gMrings, ar (ad 7) cA 20 gMmains, ar (ad 8) cA 4 gMaheadOf, ar (ad 9) cA 4 gMlastIn, ar (ad 10) cA 4 gMmanyIn, ar (ad 11) cA 3 gMsetting, ar (ad 13) cA 8020 gMcomes, ar (ad 14) cA 20 gMbusyTo, ar (ad 15) cA 20 gMfeltMany, ar (ad 16) cA 8020 gMfeltBits, ar (ad 17) cA 8020 gMlostBits, ar (ad 22) cA 12 gMheardWho, ar (ad 23) cA 12 gMheardTime]) [0, 1, 2, 3, 4, 5, 6, 7, 8, 9, 10, 11, 12, 13, 14, 15, 16, 17, 18] rfl
  have hDc := hD.sub (ws' := [oM ad xM_typed xM_people xM_posted xM_hears xM_censuses xM_finding, ar (ad 1) cA 60 gMtext, ar (ad 2) cA 20 gMkinds, ar (ad 3) cA 20 gMlates, ar (ad 4) cA 20 gMscarfs, ar (ad 5) cA 20 gMhands, ar (ad 6) cA 20 gMrings, ar (ad 7) cA 20 gMmains, ar (ad 8) cA 4 gMaheadOf, ar (ad 9) cA 4 gMlastIn, ar (ad 10) cA 4 gMmanyIn, ar (ad 11) cA 3 gMsetting, ar (ad 13) cA 8020 gMcomes, ar (ad 14) cA 20 gMbusyTo, ar (ad 15) cA 20 gMfeltMany, ar (ad 16) cA 8020 gMfeltBits, ar (ad 17) cA 8020 gMlostBits, ar (ad 22) cA 12 gMheardWho, ar (ad 23) cA 12 gMheardTime]) [0, 1, 2, 3, 4, 5, 6, 7, 8, 9, 10, 11, 12, 13, 14, 15, 16, 17, 18] (by decide) rfl
  have hFc := va_free (wc := [oM ad xM_typed xM_people xM_posted xM_hears xM_censuses xM_finding, ar (ad 1) cA 60 gMtext, ar (ad 2) cA 20 gMkinds, ar (ad 3) cA 20 gMlates, ar (ad 4) cA 20 gMscarfs, ar (ad 5) cA 20 gMhands, ar (ad 6) cA 20 gMrings, ar (ad 7) cA 20 gMmains, ar (ad 8) cA 4 gMaheadOf, ar (ad 9) cA 4 gMlastIn, ar (ad 10) cA 4 gMmanyIn, ar (ad 11) cA 3 gMsetting, ar (ad 13) cA 8020 gMcomes, ar (ad 14) cA 20 gMbusyTo, ar (ad 15) cA 20 gMfeltMany, ar (ad 16) cA 8020 gMfeltBits, ar (ad 17) cA 8020 gMlostBits, ar (ad 22) cA 12 gMheardWho, ar (ad 23) cA 12 gMheardTime]) hD hS hA [0, 1, 2, 3, 4, 5, 6, 7, 8, 9, 10, 11, 12, 13, 14, 15, 16, 17, 18] rfl
  obtain ⟨u_1, hc_1, hm⟩ := bd_ok hm
  refine va_calli (va_runV (As := []) (rest := []) ⟨hx, hb, hml, hown, hts⟩ (kM_unlikeNow l dC dI cA cB ad s.heap.size xM_typed xM_people xM_posted xM_hears xM_censuses xM_finding gMtext gMkinds gMlates gMscarfs gMhands gMrings gMmains gMaheadOf gMlastIn gMmanyIn gMsetting gMcomes gMbusyTo gMfeltMany gMfeltBits gMlostBits gMheardWho gMheardTime u_1 hc_1) (cwV 0 hts gX10_unlike_X10_unlikeNow rfl rfl rfl (by decide +kernel) ⟨Nat.le_of_ble_eq_true rfl, Nat.le_of_ble_eq_true rfl⟩) ⟨fun a U g mk q => by obtain ⟨q0, q1, qP, qK, qD⟩ := q; exact ⟨q0, q1, qP, va_K.moved (u := U) (U := U.calling g mk a) (Vm.Alike.refl U.vm) qK, qD⟩, va_recv hK hPc (ci := 10) (q0 := 0) rfl rfl, fun U hU hW => ⟨rfl, by rw [hU], by rw [hU]; exact hPc, va_K.moved hW.alike hK, hDc.weaken (fun _ _ _ _ => trivial)⟩⟩ rfl rfl hl.1 rfl (lv_room (Nat.le_of_ble_eq_true rfl)) dX10_unlike_1 ⟨Nat.le_of_ble_eq_true rfl, Nat.le_of_ble_eq_true rfl⟩) hS (fun q _ h => hFc q h) hFc (fun r_1 _ t H1 locs ht hvm hw hB hz1 hk1 hS => ?_)
  obtain ⟨hP1, hK1, hD1⟩ := hB
  rw [ht] at hP1
  obtain ⟨hP, hD⟩ := va_join (wr := []) (w1 := [oM ad xM_typed u_1.2.1 xM_posted xM_hears xM_censuses xM_finding, ar (ad 1) cA 60 gMtext, ar (ad 2) cA 20 u_1.2.2.1, ar (ad 3) cA 20 u_1.2.2.2.1, ar (ad 4) cA 20 u_1.2.2.2.2.1, ar (ad 5) cA 20 u_1.2.2.2.2.2.1, ar (ad 6) cA 20 u_1.2.2.2.2.2.2.1, ar (ad 7) cA 20 u_1.2.2.2.2.2.2.2.1, ar (ad 8) cA 4 u_1.2.2.2.2.2.2.2.2.1, ar (ad 9) cA 4 u_1.2.2.2.2.2.2.2.2.2.1, ar (ad 10) cA 4 u_1.2.2.2.2.2.2.2.2.2.2.1, ar (ad 11) cA 3 gMsetting, ar (ad 13) cA 8020 u_1.2.2.2.2.2.2.2.2.2.2.2.1, ar (ad 14) cA 20 u_1.2.2.2.2.2.2.2.2.2.2.2.2.1, ar (ad 15) cA 20 u_1.2.2.2.2.2.2.2.2.2.2.2.2.2.1, ar (ad 16) cA 8020 u_1.2.2.2.2.2.2.2.2.2.2.2.2.2.2.1, ar (ad 17) cA 8020 u_1.2.2.2.2.2.2.2.2.2.2.2.2.2.2.2, ar (ad 22) cA 12 gMheardWho, ar (ad 23) cA 12 gMheardTime]) hP hD [0, 1, 2, 3, 4, 5, 6, 7, 8, 9, 10, 11, 12, 13, 14, 15, 16, 17, 18] [] rfl rfl (by decide) (by decide) hk1 hFc hP1 hD1
  clear hPc hDc hFc hP1 hK1 hD1 hk1 hz1 hvm ht
  generalize H1 = H at hP hS ⊢
  have hP : va_P (dC, dI) vwCl [oM ad xM_typed u_1.2.1 xM_posted xM_hears xM_censuses xM_finding, ar (ad 1) cA 60 gMtext, ar (ad 2) cA 20 u_1.2.2.1, ar (ad 3) cA 20 u_1.2.2.2.1, ar (ad 4) cA 20 u_1.2.2.2.2.1, ar (ad 5) cA 20 u_1.2.2.2.2.2.1, ar (ad 6) cA 20 u_1.2.2.2.2.2.2.1, ar (ad 7) cA 20 u_1.2.2.2.2.2.2.2.1, ar (ad 8) cA 4 u_1.2.2.2.2.2.2.2.2.1, ar (ad 9) cA 4 u_1.2.2.2.2.2.2.2.2.2.1, ar (ad 10) cA 4 u_1.2.2.2.2.2.2.2.2.2.2.1, ar (ad 11) cA 3 gMsetting, ar (ad 13) cA 8020 u_1.2.2.2.2.2.2.2.2.2.2.2.1, ar (ad 14) cA 20 u_1.2.2.2.2.2.2.2.2.2.2.2.2.1, ar (ad 15) cA 20 u_1.2.2.2.2.2.2.2.2.2.2.2.2.2.1, ar (ad 16) cA 8020 u_1.2.2.2.2.2.2.2.2.2.2.2.2.2.2.1, ar (ad 17) cA 8020 u_1.2.2.2.2.2.2.2.2.2.2.2.2.2.2.2, ar (ad 22) cA 12 gMheardWho, ar (ad 23) cA 12 gMheardTime] H := hP
  have hD : va_D A [oM ad xM_typed u_1.2.1 xM_posted xM_hears xM_censuses xM_finding, ar (ad 1) cA 60 gMtext, ar (ad 2) cA 20 u_1.2.2.1, ar (ad 3) cA 20 u_1.2.2.2.1, ar (ad 4) cA 20 u_1.2.2.2.2.1, ar (ad 5) cA 20 u_1.2.2.2.2.2.1, ar (ad 6) cA 20 u_1.2.2.2.2.2.2.1, ar (ad 7) cA 20 u_1.2.2.2.2.2.2.2.1, ar (ad 8) cA 4 u_1.2.2.2.2.2.2.2.2.1, ar (ad 9) cA 4 u_1.2.2.2.2.2.2.2.2.2.1, ar (ad 10) cA 4 u_1.2.2.2.2.2.2.2.2.2.2.1, ar (ad 11) cA 3 gMsetting, ar (ad 13) cA 8020 u_1.2.2.2.2.2.2.2.2.2.2.2.1, ar (ad 14) cA 20 u_1.2.2.2.2.2.2.2.2.2.2.2.2.1, ar (ad 15) cA 20 u_1.2.2.2.2.2.2.2.2.2.2.2.2.2.1, ar (ad 16) cA 8020 u_1.2.2.2.2.2.2.2.2.2.2.2.2.2.2.1, ar (ad 17) cA 8020 u_1.2.2.2.2.2.2.2.2.2.2.2.2.2.2.2, ar (ad 22) cA 12 gMheardWho, ar (ad 23) cA 12 gMheardTime] := hD
  have hw := hw.symm
  subst hw
  obtain rfl := Option.some.inj hm
  subst hQ
  exact W.iret (v := u_1.1) hx hb hr (fun t ht hW => ⟨⟨_, (), rfl, rfl, by rw [ht]; exact hP, va_K.moved hW.alike hK, hAe ▸ hD⟩, hS.F ht⟩) hS.2.2 dX10_unlike_4

set_option maxHeartbeats 4000000 in
set_option maxRecDepth 100000 in
theorem kM_asleepOf (l : Launch) (dC : Nat → ClassId) (dI : Nat → Nat → Nat) (cA : ClassId) (cB : ClassId) (ad : Nat → Nat) (sz : Nat) (a1 : Int32) (xM_typed : Int32) (xM_people : Int32) (xM_posted : Int32) (xM_hears : Int32) (xM_censuses : Int32) (xM_finding : Int32) (gMtext : Nat → Int32) (gMkinds : Nat → Int32) (gMlates : Nat → Int32) (gMscarfs : Nat → Int32) (gMhands : Nat → Int32) (gMrings : Nat → Int32) (gMmains : Nat → Int32) (gMaheadOf : Nat → Int32) (gMlastIn : Nat → Int32) (gMmanyIn : Nat → Int32) (gMsetting : Nat → Int32) (gMcomes : Nat → Int32) (gMbusyTo : Nat → Int32) (gMfeltMany : Nat → Int32) (gMfeltBits : Nat → Int32) (gMlostBits : Nat → Int32) (gMheardWho : Nat → Int32) (gMheardTime : Nat → Int32) (u : Int32 × Int32 × (Nat → Int32) × (Nat → Int32) × (Nat → Int32) × (Nat → Int32) × (Nat → Int32) × (Nat → Int32) × (Nat → Int32) × (Nat → Int32) × (Nat → Int32) × (Nat → Int32) × (Nat → Int32) × (Nat → Int32) × (Nat → Int32) × (Nat → Int32)) (hm : fM_asleepOf a1 xM_typed xM_people xM_hears gMtext gMkinds gMlates gMscarfs gMhands gMrings gMmains gMaheadOf gMlastIn gMmanyIn gMsetting gMcomes gMbusyTo gMfeltMany gMfeltBits gMlostBits gMheardWho gMheardTime = some u) : Met l yX10_asleepOf wsX10_asleepOf ({ frames := 6, cells := 0, slots := 0, locals := 144 }) (va_Pc [.ref (ad 0), .int a1] (fun U => U.heap.size = sz ∧ va_P (dC, dI) vwCl [oM ad xM_typed xM_people xM_posted xM_hears xM_censuses xM_finding, ar (ad 1) cA 60 gMtext, ar (ad 2) cA 20 gMkinds, ar (ad 3) cA 20 gMlates, ar (ad 4) cA 20 gMscarfs, ar (ad 5) cA 20 gMhands, ar (ad 6) cA 20 gMrings, ar (ad 7) cA 20 gMmains, ar (ad 8) cA 4 gMaheadOf, ar (ad 9) cA 4 gMlastIn, ar (ad 10) cA 4 gMmanyIn, ar (ad 11) cA 3 gMsetting, ar (ad 13) cA 8020 gMcomes, ar (ad 14) cA 20 gMbusyTo, ar (ad 15) cA 20 gMfeltMany, ar (ad 16) cA 8020 gMfeltBits, ar (ad 17) cA 8020 gMlostBits, ar (ad 22) cA 12 gMheardWho, ar (ad 23) cA 12 gMheardTime] U.heap ∧ va_K (dC, dI) vwCl [(cA, .int), (cB, .boolean)] U ∧ va_D (fun _ => True) [oM ad xM_typed xM_people xM_posted xM_hears xM_censuses xM_finding, ar (ad 1) cA 60 gMtext, ar (ad 2) cA 20 gMkinds, ar (ad 3) cA 20 gMlates, ar (ad 4) cA 20 gMscarfs, ar (ad 5) cA 20 gMhands, ar (ad 6) cA 20 gMrings, ar (ad 7) cA 20 gMmains, ar (ad 8) cA 4 gMaheadOf, ar (ad 9) cA 4 gMlastIn, ar (ad 10) cA 4 gMmanyIn, ar (ad 11) cA 3 gMsetting, ar (ad 13) cA 8020 gMcomes, ar (ad 14) cA 20 gMbusyTo, ar (ad 15) cA 20 gMfeltMany, ar (ad 16) cA 8020 gMfeltBits, ar (ad 17) cA 8020 gMlostBits, ar (ad 22) cA 12 gMheardWho, ar (ad 23) cA 12 gMheardTime])) (va_Qi (fun (r : Int32) (_ : Unit) => r = u.1) (fun (_ : Unit) t => va_P (dC, dI) vwCl [oM ad xM_typed u.2.1 xM_posted xM_hears xM_censuses xM_finding, ar (ad 1) cA 60 gMtext, ar (ad 2) cA 20 u.2.2.1, ar (ad 3) cA 20 u.2.2.2.1, ar (ad 4) cA 20 u.2.2.2.2.1, ar (ad 5) cA 20 u.2.2.2.2.2.1, ar (ad 6) cA 20 u.2.2.2.2.2.2.1, ar (ad 7) cA 20 u.2.2.2.2.2.2.2.1, ar (ad 8) cA 4 u.2.2.2.2.2.2.2.2.1, ar (ad 9) cA 4 u.2.2.2.2.2.2.2.2.2.1, ar (ad 10) cA 4 u.2.2.2.2.2.2.2.2.2.2.1, ar (ad 11) cA 3 gMsetting, ar (ad 13) cA 8020 u.2.2.2.2.2.2.2.2.2.2.2.1, ar (ad 14) cA 20 u.2.2.2.2.2.2.2.2.2.2.2.2.1, ar (ad 15) cA 20 u.2.2.2.2.2.2.2.2.2.2.2.2.2.1, ar (ad 16) cA 8020 u.2.2.2.2.2.2.2.2.2.2.2.2.2.2.1, ar (ad 17) cA 8020 u.2.2.2.2.2.2.2.2.2.2.2.2.2.2.2, ar (ad 22) cA 12 gMheardWho, ar (ad 23) cA 12 gMheardTime] t.heap ∧ va_K (dC, dI) vwCl [(cA, .int), (cB, .boolean)] t ∧ va_D (va_A [oM ad xM_typed xM_people xM_posted xM_hears xM_censuses xM_finding, ar (ad 1) cA 60 gMtext, ar (ad 2) cA 20 gMkinds, ar (ad 3) cA 20 gMlates, ar (ad 4) cA 20 gMscarfs, ar (ad 5) cA 20 gMhands, ar (ad 6) cA 20 gMrings, ar (ad 7) cA 20 gMmains, ar (ad 8) cA 4 gMaheadOf, ar (ad 9) cA 4 gMlastIn, ar (ad 10) cA 4 gMmanyIn, ar (ad 11) cA 3 gMsetting, ar (ad 13) cA 8020 gMcomes, ar (ad 14) cA 20 gMbusyTo, ar (ad 15) cA 20 gMfeltMany, ar (ad 16) cA 8020 gMfeltBits, ar (ad 17) cA 8020 gMlostBits, ar (ad 22) cA 12 gMheardWho, ar (ad 23) cA 12 gMheardTime] sz) [oM ad xM_typed u.2.1 xM_posted xM_hears xM_censuses xM_finding, ar (ad 1) cA 60 gMtext, ar (ad 2) cA 20 u.2.2.1, ar (ad 3) cA 20 u.2.2.2.1, ar (ad 4) cA 20 u.2.2.2.2.1, ar (ad 5) cA 20 u.2.2.2.2.2.1, ar (ad 6) cA 20 u.2.2.2.2.2.2.1, ar (ad 7) cA 20 u.2.2.2.2.2.2.2.1, ar (ad 8) cA 4 u.2.2.2.2.2.2.2.2.1, ar (ad 9) cA 4 u.2.2.2.2.2.2.2.2.2.1, ar (ad 10) cA 4 u.2.2.2.2.2.2.2.2.2.2.1, ar (ad 11) cA 3 gMsetting, ar (ad 13) cA 8020 u.2.2.2.2.2.2.2.2.2.2.2.1, ar (ad 14) cA 20 u.2.2.2.2.2.2.2.2.2.2.2.2.1, ar (ad 15) cA 20 u.2.2.2.2.2.2.2.2.2.2.2.2.2.1, ar (ad 16) cA 8020 u.2.2.2.2.2.2.2.2.2.2.2.2.2.2.1, ar (ad 17) cA 8020 u.2.2.2.2.2.2.2.2.2.2.2.2.2.2.2, ar (ad 22) cA 12 gMheardWho, ar (ad 23) cA 12 gMheardTime]) (va_A [oM ad xM_typed xM_people xM_posted xM_hears xM_censuses xM_finding, ar (ad 1) cA 60 gMtext, ar (ad 2) cA 20 gMkinds, ar (ad 3) cA 20 gMlates, ar (ad 4) cA 20 gMscarfs, ar (ad 5) cA 20 gMhands, ar (ad 6) cA 20 gMrings, ar (ad 7) cA 20 gMmains, ar (ad 8) cA 4 gMaheadOf, ar (ad 9) cA 4 gMlastIn, ar (ad 10) cA 4 gMmanyIn, ar (ad 11) cA 3 gMsetting, ar (ad 13) cA 8020 gMcomes, ar (ad 14) cA 20 gMbusyTo, ar (ad 15) cA 20 gMfeltMany, ar (ad 16) cA 8020 gMfeltBits, ar (ad 17) cA 8020 gMlostBits, ar (ad 22) cA 12 gMheardWho, ar (ad 23) cA 12 gMheardTime] sz)) 0 0 (va_A [oM ad xM_typed xM_people xM_posted xM_hears xM_censuses xM_finding, ar (ad 1) cA 60 gMtext, ar (ad 2) cA 20 gMkinds, ar (ad 3) cA 20 gMlates, ar (ad 4) cA 20 gMscarfs, ar (ad 5) cA 20 gMhands, ar (ad 6) cA 20 gMrings, ar (ad 7) cA 20 gMmains, ar (ad 8) cA 4 gMaheadOf, ar (ad 9) cA 4 gMlastIn, ar (ad 10) cA 4 gMmanyIn, ar (ad 11) cA 3 gMsetting, ar (ad 13) cA 8020 gMcomes, ar (ad 14) cA 20 gMbusyTo, ar (ad 15) cA 20 gMfeltMany, ar (ad 16) cA 8020 gMfeltBits, ar (ad 17) cA 8020 gMlostBits, ar (ad 22) cA 12 gMheardWho, ar (ad 23) cA 12 gMheardTime] sz) := by
  refine Met.ofW (cc := cX10_asleepOf) (maxL := 5) (ret := (some .int)) (by decide) rfl ?_
  intro p e s m args below meth c s₁ B hml hv
  obtain ⟨rfl, hsz, hP, hK, hD0⟩ := hv
  have hx := B.exec
  have hb := B.bytes
  have hr := B.returns
  have hts := atoms_spec (ws := wsX10_asleepOf) B.pre
  have hown : s.vm.findClass RX10 = some m.cls := findClass_of_methodNamed B.named
  have hlocks := B.notSynchronized
  subst hsz
  have hD := hD0.self (sz := s.heap.size)
  generalize hAe : va_A [oM ad xM_typed xM_people xM_posted xM_hears xM_censuses xM_finding, ar (ad 1) cA 60 gMtext, ar (ad 2) cA 20 gMkinds, ar (ad 3) cA 20 gMlates, ar (ad 4) cA 20 gMscarfs, ar (ad 5) cA 20 gMhands, ar (ad 6) cA 20 gMrings, ar (ad 7) cA 20 gMmains, ar (ad 8) cA 4 gMaheadOf, ar (ad 9) cA 4 gMlastIn, ar (ad 10) cA 4 gMmanyIn, ar (ad 11) cA 3 gMsetting, ar (ad 13) cA 8020 gMcomes, ar (ad 14) cA 20 gMbusyTo, ar (ad 15) cA 20 gMfeltMany, ar (ad 16) cA 8020 gMfeltBits, ar (ad 17) cA 8020 gMlostBits, ar (ad 22) cA 12 gMheardWho, ar (ad 23) cA 12 gMheardTime] s.heap.size = A at hD ⊢
  have hA : ∀ q : Nat, s.heap.size ≤ q → A q := fun q h => by rw [← hAe]; exact Or.inr h
  have hS : va_S A s.heap s.heap [] := va_S.rf
  have hl := lv_entry ([.ref (ad 0), .int a1]) (n := 5) (Nat.le_of_ble_eq_true rfl)
  rw [lg_entry_eq]
  generalize (lg_sl ([.ref (ad 0), .int a1]) ++ List.replicate (5 - (lg_sl ([.ref (ad 0), .int a1])).length) Slot.unset).toArray = ls at hl ⊢
  have hl : lv_has ls 5 [(0, .ref (ad 0)), (1, .int a1)] := hl
  refine wk_Q (fun QQ hQ => ?_)
  have hinX10 : ∀ w ∈ wsX100, w ∈ wsX10_asleepOf := fun w h => List.mem_cons_of_mem _ (inlX10 w h)
  have hl_112 := hts (.fieldLink RX10 112 "HandCensusModel" "people" "I") (List.mem_cons_of_mem _ (in_r12 _ (List.mem_of_getElem? (i := 4) rfl)))
  have hl_40 := hts (.fieldLink RX10 40 "HandCensusModel" "setting" "[I") (List.mem_cons_of_mem _ (in_r7 _ (List.mem_of_getElem? (i := 5) rfl)))
  have h_28 : ∀ (xM_people_28 : Int32) (gMkinds_28 : Nat → Int32) (gMlates_28 : Nat → Int32) (gMscarfs_28 : Nat → Int32) (gMhands_28 : Nat → Int32) (gMrings_28 : Nat → Int32) (gMmains_28 : Nat → Int32) (gMaheadOf_28 : Nat → Int32) (gMlastIn_28 : Nat → Int32) (gMmanyIn_28 : Nat → Int32), ∀ (n_28 : Nat), ∀ (v3_28 : Int32) (v4_28 : Int32) (gMcomes_28 : Nat → Int32) (gMbusyTo_28 : Nat → Int32) (gMfeltMany_28 : Nat → Int32) (gMfeltBits_28 : Nat → Int32) (gMlostBits_28 : Nat → Int32), fM_asleepOf_28 xM_people_28 xM_hears gMkinds_28 gMlates_28 gMscarfs_28 gMhands_28 gMrings_28 gMmains_28 gMaheadOf_28 gMlastIn_28 gMmanyIn_28 gMsetting gMheardWho gMheardTime n_28 v3_28 v4_28 gMcomes_28 gMbusyTo_28 gMfeltMany_28 gMfeltBits_28 gMlostBits_28 = some u → ∀ (H : Heap) (locs : List Loc), va_P (dC, dI) vwCl [oM ad xM_typed xM_people_28 xM_posted xM_hears xM_censuses xM_finding, ar (ad 1) cA 60 gMtext, ar (ad 2) cA 20 gMkinds_28, ar (ad 3) cA 20 gMlates_28, ar (ad 4) cA 20 gMscarfs_28, ar (ad 5) cA 20 gMhands_28, ar (ad 6) cA 20 gMrings_28, ar (ad 7) cA 20 gMmains_28, ar (ad 8) cA 4 gMaheadOf_28, ar (ad 9) cA 4 gMlastIn_28, ar (ad 10) cA 4 gMmanyIn_28, ar (ad 11) cA 3 gMsetting, ar (ad 13) cA 8020 gMcomes_28, ar (ad 14) cA 20 gMbusyTo_28, ar (ad 15) cA 20 gMfeltMany_28, ar (ad 16) cA 8020 gMfeltBits_28, ar (ad 17) cA 8020 gMlostBits_28, ar (ad 22) cA 12 gMheardWho, ar (ad 23) cA 12 gMheardTime] H → va_D A [oM ad xM_typed xM_people_28 xM_posted xM_hears xM_censuses xM_finding, ar (ad 1) cA 60 gMtext, ar (ad 2) cA 20 gMkinds_28, ar (ad 3) cA 20 gMlates_28, ar (ad 4) cA 20 gMscarfs_28, ar (ad 5) cA 20 gMhands_28, ar (ad 6) cA 20 gMrings_28, ar (ad 7) cA 20 gMmains_28, ar (ad 8) cA 4 gMaheadOf_28, ar (ad 9) cA 4 gMlastIn_28, ar (ad 10) cA 4 gMmanyIn_28, ar (ad 11) cA 3 gMsetting, ar (ad 13) cA 8020 gMcomes_28, ar (ad 14) cA 20 gMbusyTo_28, ar (ad 15) cA 20 gMfeltMany_28, ar (ad 16) cA 8020 gMfeltBits_28, ar (ad 17) cA 8020 gMlostBits_28, ar (ad 22) cA 12 gMheardWho, ar (ad 23) cA 12 gMheardTime] → va_S A s.heap H locs → ∀ ls : Array Slot, lv_has ls 5 [(0, .ref (ad 0)), (3, .int v3_28), (4, .int v4_28)] → W p l e (headSpec wsX10_asleepOf ({ frames := 6, cells := 0, slots := 0, locals := 144 })).room s m ([.ref (ad 0), .int a1] : List Value).toArray below meth c H locs 0 0 QQ (F0 m 28 ls []) := by
    intro xM_people_28 gMkinds_28 gMlates_28 gMscarfs_28 gMhands_28 gMrings_28 gMmains_28 gMaheadOf_28 gMlastIn_28 gMmanyIn_28
    intro n_28
    induction n_28 with
    | zero => intro v3_28 v4_28 gMcomes_28 gMbusyTo_28 gMfeltMany_28 gMfeltBits_28 gMlostBits_28 hm; have hm : (none : Option (Int32 × Int32 × (Nat → Int32) × (Nat → Int32) × (Nat → Int32) × (Nat → Int32) × (Nat → Int32) × (Nat → Int32) × (Nat → Int32) × (Nat → Int32) × (Nat → Int32) × (Nat → Int32) × (Nat → Int32) × (Nat → Int32) × (Nat → Int32) × (Nat → Int32))) = some u := hm; cases hm
    | succ n_28 ih_28 =>
      have b_77 : ∀ (v4_77 : Int32) (s0_77 : Int32) (s1_77 : Int32) (gMcomes_77 : Nat → Int32) (gMbusyTo_77 : Nat → Int32) (gMfeltMany_77 : Nat → Int32) (gMfeltBits_77 : Nat → Int32) (gMlostBits_77 : Nat → Int32), fM_asleepOf_77 (fM_asleepOf_28  xM_people_28 xM_hears gMkinds_28 gMlates_28 gMscarfs_28 gMhands_28 gMrings_28 gMmains_28 gMaheadOf_28 gMlastIn_28 gMmanyIn_28 gMsetting gMheardWho gMheardTime n_28) v4_77 s0_77 s1_77 xM_people_28 xM_hears gMkinds_28 gMlates_28 gMscarfs_28 gMhands_28 gMrings_28 gMmains_28 gMaheadOf_28 gMlastIn_28 gMmanyIn_28 gMsetting gMcomes_77 gMbusyTo_77 gMfeltMany_77 gMfeltBits_77 gMlostBits_77 gMheardWho gMheardTime = some u → ∀ (H : Heap) (locs : List Loc), va_P (dC, dI) vwCl [oM ad xM_typed xM_people_28 xM_posted xM_hears xM_censuses xM_finding, ar (ad 1) cA 60 gMtext, ar (ad 2) cA 20 gMkinds_28, ar (ad 3) cA 20 gMlates_28, ar (ad 4) cA 20 gMscarfs_28, ar (ad 5) cA 20 gMhands_28, ar (ad 6) cA 20 gMrings_28, ar (ad 7) cA 20 gMmains_28, ar (ad 8) cA 4 gMaheadOf_28, ar (ad 9) cA 4 gMlastIn_28, ar (ad 10) cA 4 gMmanyIn_28, ar (ad 11) cA 3 gMsetting, ar (ad 13) cA 8020 gMcomes_77, ar (ad 14) cA 20 gMbusyTo_77, ar (ad 15) cA 20 gMfeltMany_77, ar (ad 16) cA 8020 gMfeltBits_77, ar (ad 17) cA 8020 gMlostBits_77, ar (ad 22) cA 12 gMheardWho, ar (ad 23) cA 12 gMheardTime] H → va_D A [oM ad xM_typed xM_people_28 xM_posted xM_hears xM_censuses xM_finding, ar (ad 1) cA 60 gMtext, ar (ad 2) cA 20 gMkinds_28, ar (ad 3) cA 20 gMlates_28, ar (ad 4) cA 20 gMscarfs_28, ar (ad 5) cA 20 gMhands_28, ar (ad 6) cA 20 gMrings_28, ar (ad 7) cA 20 gMmains_28, ar (ad 8) cA 4 gMaheadOf_28, ar (ad 9) cA 4 gMlastIn_28, ar (ad 10) cA 4 gMmanyIn_28, ar (ad 11) cA 3 gMsetting, ar (ad 13) cA 8020 gMcomes_77, ar (ad 14) cA 20 gMbusyTo_77, ar (ad 15) cA 20 gMfeltMany_77, ar (ad 16) cA 8020 gMfeltBits_77, ar (ad 17) cA 8020 gMlostBits_77, ar (ad 22) cA 12 gMheardWho, ar (ad 23) cA 12 gMheardTime] → va_S A s.heap H locs → ∀ ls : Array Slot, lv_has ls 5 [(0, .ref (ad 0)), (4, .int v4_77)] → W p l e (headSpec wsX10_asleepOf ({ frames := 6, cells := 0, slots := 0, locals := 144 })).room s m ([.ref (ad 0), .int a1] : List Value).toArray below meth c H locs 0 0 QQ (F0 m 77 ls [.int s1_77, .int s0_77]) := by
        intro v4_77 s0_77 s1_77 gMcomes_77 gMbusyTo_77 gMfeltMany_77 gMfeltBits_77 gMlostBits_77 hm H locs hP hD hS ls hl
        unfold fM_asleepOf_77 at hm
        refine lv_ior hx hb dX10_asleepOf_77 ?_
        refine lv_istore_n (lv' := [(3, .int (s0_77 ||| s1_77)), (0, .ref (ad 0)), (4, .int v4_77)]) hx hb dX10_asleepOf_78 rfl hl (by decide) rfl (fun ls hl => ?_)
        refine lv_iinc (v := (v4_77 + 1)) (lv' := [(4, .int (v4_77 + 1)), (3, .int (s0_77 ||| s1_77)), (0, .ref (ad 0))]) hx hb dX10_asleepOf_79 hl (k := 2) rfl rfl (by decide) rfl (fun ls hl => ?_)
        refine lv_goto (tgt := 28) hx hb dX10_asleepOf_82 (by decide) ?_
        exact ih_28 _ _ _ _ _ _ _ hm _ _ hP hD hS _ (lv_sub hl [2, 1, 0] rfl)
      intro v3_28 v4_28 gMcomes_28 gMbusyTo_28 gMfeltMany_28 gMfeltBits_28 gMlostBits_28 hm H locs hP hD hS ls hl
      have hm : fM_asleepOf_28_b  (fM_asleepOf_28  xM_people_28 xM_hears gMkinds_28 gMlates_28 gMscarfs_28 gMhands_28 gMrings_28 gMmains_28 gMaheadOf_28 gMlastIn_28 gMmanyIn_28 gMsetting gMheardWho gMheardTime n_28) xM_people_28 xM_hears gMkinds_28 gMlates_28 gMscarfs_28 gMhands_28 gMrings_28 gMmains_28 gMaheadOf_28 gMlastIn_28 gMmanyIn_28 gMsetting gMheardWho gMheardTime v3_28 v4_28 gMcomes_28 gMbusyTo_28 gMfeltMany_28 gMfeltBits_28 gMlostBits_28 = some u := hm
      unfold fM_asleepOf_28_b at hm
      refine lv_iload hx hb dX10_asleepOf_28 (lv_at hl 2 rfl) ?_
      refine lv_aload_n hx hb dX10_asleepOf_30 rfl (lv_at hl 0 rfl) ?_
      refine va_get (D := (dC, dI)) (ci := 10) (v := .int xM_people_28) (C := RX10) (T := TX10) (N := 37) hx hb hts hinX10 hown hK hP 0 rfl rfl 2 (by decide) hl_112 (fun _ h9 => h9) rfl dX10_asleepOf_31 ?_
      refine lv_icmp_ge (tgt := 85) hx hb dX10_asleepOf_34 (by decide) (fun c_1 => ?_) (fun c_1 => ?_)
      · have hm := it_pos c_1 hm
        refine lv_iload_n hx hb dX10_asleepOf_85 rfl (lv_at hl 1 rfl) ?_
        obtain rfl := Option.some.inj hm
        subst hQ
        exact W.iret (v := v3_28) hx hb hr (fun t ht hW => ⟨⟨_, (), rfl, rfl, by rw [ht]; exact hP, va_K.moved hW.alike hK, hAe ▸ hD⟩, hS.F ht⟩) hS.2.2 dX10_asleepOf_86
      · have hm := it_neg c_1 hm
        refine lv_aload_n hx hb dX10_asleepOf_37 rfl (lv_at hl 0 rfl) ?_
        refine lv_aload_n hx hb dX10_asleepOf_38 rfl (lv_at hl 0 rfl) ?_
        refine va_get (D := (dC, dI)) (ci := 10) (v := .ref (ad 11)) (C := RX10) (T := TX10) (N := 37) hx hb hts hinX10 hown hK hP 0 rfl rfl 12 (by decide) hl_40 (fun _ h9 => h9) rfl dX10_asleepOf_39 ?_
        refine lv_iconst (v := 0) hx hb dX10_asleepOf_42 (by decide) ?_
        obtain ⟨i_2, hm⟩ := ck_ok hm
        refine va_iald hx hb hK hP 11 0 rfl rfl i_2 dX10_asleepOf_43 ?_
        refine lv_aload_n hx hb dX10_asleepOf_44 rfl (lv_at hl 0 rfl) ?_
        refine va_get (D := (dC, dI)) (ci := 10) (v := .ref (ad 11)) (C := RX10) (T := TX10) (N := 37) hx hb hts hinX10 hown hK hP 0 rfl rfl 12 (by decide) hl_40 (fun _ h9 => h9) rfl dX10_asleepOf_45 ?_
        refine lv_iconst (v := 1) hx hb dX10_asleepOf_48 (by decide) ?_
        obtain ⟨i_3, hm⟩ := ck_ok hm
        refine va_iald hx hb hK hP 11 0 rfl rfl i_3 dX10_asleepOf_49 ?_
        refine lv_aload_n hx hb dX10_asleepOf_50 rfl (lv_at hl 0 rfl) ?_
        refine va_get (D := (dC, dI)) (ci := 10) (v := .ref (ad 11)) (C := RX10) (T := TX10) (N := 37) hx hb hts hinX10 hown hK hP 0 rfl rfl 12 (by decide) hl_40 (fun _ h9 => h9) rfl dX10_asleepOf_51 ?_
        refine lv_iconst (v := 2) hx hb dX10_asleepOf_54 (by decide) ?_
        obtain ⟨i_4, hm⟩ := ck_ok hm
        refine va_iald hx hb hK hP 11 0 rfl rfl i_4 dX10_asleepOf_55 ?_
        refine lv_iload hx hb dX10_asleepOf_56 (lv_at hl 2 rfl) ?_
        have hPc := hP.sub (ws' := [oM ad xM_typed xM_people_28 xM_posted xM_hears xM_censuses xM_finding, ar (ad 2) cA 20 gMkinds_28, ar (ad 3) cA 20 gMlates_28, ar (ad 4) cA 20 gMscarfs_28, ar (ad 5) cA 20 gMhands_28, ar (ad 6) cA 20 gMrings_28, ar (ad 13) cA 8020 gMcomes_28, ar (ad 14) cA 20 gMbusyTo_28, ar (ad 15) cA 20 gMfeltMany_28, ar (ad 16) cA 8020 gMfeltBits_28, ar (ad 17) cA 8020 gMlostBits_28]) [0, 2, 3, 4, 5, 6, 12, 13, 14, 15, 16] rfl
        have hDc := hD.sub (ws' := [oM ad xM_typed xM_people_28 xM_posted xM_hears xM_censuses xM_finding, ar (ad 2) cA 20 gMkinds_28, ar (ad 3) cA 20 gMlates_28, ar (ad 4) cA 20 gMscarfs_28, ar (ad 5) cA 20 gMhands_28, ar (ad 6) cA 20 gMrings_28, ar (ad 13) cA 8020 gMcomes_28, ar (ad 14) cA 20 gMbusyTo_28, ar (ad 15) cA 20 gMfeltMany_28, ar (ad 16) cA 8020 gMfeltBits_28, ar (ad 17) cA 8020 gMlostBits_28]) [0, 2, 3, 4, 5, 6, 12, 13, 14, 15, 16] (by decide) rfl
        have hFc := va_free (wc := [oM ad xM_typed xM_people_28 xM_posted xM_hears xM_censuses xM_finding, ar (ad 2) cA 20 gMkinds_28, ar (ad 3) cA 20 gMlates_28, ar (ad 4) cA 20 gMscarfs_28, ar (ad 5) cA 20 gMhands_28, ar (ad 6) cA 20 gMrings_28, ar (ad 13) cA 8020 gMcomes_28, ar (ad 14) cA 20 gMbusyTo_28, ar (ad 15) cA 20 gMfeltMany_28, ar (ad 16) cA 8020 gMfeltBits_28, ar (ad 17) cA 8020 gMlostBits_28]) hD hS hA [0, 2, 3, 4, 5, 6, 12, 13, 14, 15, 16] rfl
        obtain ⟨u_5, hc_5, hm⟩ := bd_ok hm
        refine va_callv (va_runV (As := [.int (gMsetting (0 : Int32).toNatClampNeg), .int (gMsetting (1 : Int32).toNatClampNeg), .int (gMsetting (2 : Int32).toNatClampNeg), .int v4_28]) (rest := []) ⟨hx, hb, hml, hown, hts⟩ (kM_runs l dC dI cA cB ad H.size (gMsetting (0 : Int32).toNatClampNeg) (gMsetting (1 : Int32).toNatClampNeg) (gMsetting (2 : Int32).toNatClampNeg) v4_28 xM_typed xM_people_28 xM_posted xM_hears xM_censuses xM_finding gMkinds_28 gMlates_28 gMscarfs_28 gMhands_28 gMrings_28 gMcomes_28 gMbusyTo_28 gMfeltMany_28 gMfeltBits_28 gMlostBits_28 u_5 hc_5) (cwV 4 hts gX10_asleepOf_X10_runs rfl rfl rfl (by decide +kernel) ⟨Nat.le_of_ble_eq_true rfl, Nat.le_of_ble_eq_true rfl⟩) ⟨fun a U g mk q => by obtain ⟨q0, q1, qP, qK, qD⟩ := q; exact ⟨q0, q1, qP, va_K.moved (u := U) (U := U.calling g mk a) (Vm.Alike.refl U.vm) qK, qD⟩, va_recv hK hPc (ci := 10) (q0 := 0) rfl rfl, fun U hU hW => ⟨rfl, by rw [hU], by rw [hU]; exact hPc, va_K.moved hW.alike hK, hDc.weaken (fun _ _ _ _ => trivial)⟩⟩ rfl rfl hl.1 rfl (lv_room (Nat.le_of_ble_eq_true rfl)) dX10_asleepOf_58 ⟨Nat.le_of_ble_eq_true rfl, Nat.le_of_ble_eq_true rfl⟩) hS (fun q _ h => hFc q h) hFc (fun _ t H1 locs ht hvm hw hB hz1 hk1 hS => ?_)
        obtain ⟨hP1, hK1, hD1⟩ := hB
        rw [ht] at hP1
        obtain ⟨hP, hD⟩ := va_join (wr := [ar (ad 1) cA 60 gMtext, ar (ad 7) cA 20 gMmains_28, ar (ad 8) cA 4 gMaheadOf_28, ar (ad 9) cA 4 gMlastIn_28, ar (ad 10) cA 4 gMmanyIn_28, ar (ad 11) cA 3 gMsetting, ar (ad 22) cA 12 gMheardWho, ar (ad 23) cA 12 gMheardTime]) (w1 := [oM ad xM_typed xM_people_28 xM_posted xM_hears xM_censuses xM_finding, ar (ad 2) cA 20 gMkinds_28, ar (ad 3) cA 20 gMlates_28, ar (ad 4) cA 20 gMscarfs_28, ar (ad 5) cA 20 gMhands_28, ar (ad 6) cA 20 gMrings_28, ar (ad 13) cA 8020 u_5.1, ar (ad 14) cA 20 u_5.2.1, ar (ad 15) cA 20 u_5.2.2.1, ar (ad 16) cA 8020 u_5.2.2.2.1, ar (ad 17) cA 8020 u_5.2.2.2.2]) hP hD [0, 2, 3, 4, 5, 6, 12, 13, 14, 15, 16] [1, 7, 8, 9, 10, 11, 17, 18] rfl rfl (by decide) (by decide) hk1 hFc hP1 hD1
        clear hPc hDc hFc hP1 hK1 hD1 hk1 hz1 hvm ht
        generalize H1 = H at hP hS ⊢
        have hP : va_P (dC, dI) vwCl [oM ad xM_typed xM_people_28 xM_posted xM_hears xM_censuses xM_finding, ar (ad 1) cA 60 gMtext, ar (ad 2) cA 20 gMkinds_28, ar (ad 3) cA 20 gMlates_28, ar (ad 4) cA 20 gMscarfs_28, ar (ad 5) cA 20 gMhands_28, ar (ad 6) cA 20 gMrings_28, ar (ad 7) cA 20 gMmains_28, ar (ad 8) cA 4 gMaheadOf_28, ar (ad 9) cA 4 gMlastIn_28, ar (ad 10) cA 4 gMmanyIn_28, ar (ad 11) cA 3 gMsetting, ar (ad 13) cA 8020 u_5.1, ar (ad 14) cA 20 u_5.2.1, ar (ad 15) cA 20 u_5.2.2.1, ar (ad 16) cA 8020 u_5.2.2.2.1, ar (ad 17) cA 8020 u_5.2.2.2.2, ar (ad 22) cA 12 gMheardWho, ar (ad 23) cA 12 gMheardTime] H := hP.sub [8, 0, 9, 10, 11, 12, 13, 1, 2, 3, 4, 5, 14, 15, 16, 17, 18, 6, 7] rfl
        have hD : va_D A [oM ad xM_typed xM_people_28 xM_posted xM_hears xM_censuses xM_finding, ar (ad 1) cA 60 gMtext, ar (ad 2) cA 20 gMkinds_28, ar (ad 3) cA 20 gMlates_28, ar (ad 4) cA 20 gMscarfs_28, ar (ad 5) cA 20 gMhands_28, ar (ad 6) cA 20 gMrings_28, ar (ad 7) cA 20 gMmains_28, ar (ad 8) cA 4 gMaheadOf_28, ar (ad 9) cA 4 gMlastIn_28, ar (ad 10) cA 4 gMmanyIn_28, ar (ad 11) cA 3 gMsetting, ar (ad 13) cA 8020 u_5.1, ar (ad 14) cA 20 u_5.2.1, ar (ad 15) cA 20 u_5.2.2.1, ar (ad 16) cA 8020 u_5.2.2.2.1, ar (ad 17) cA 8020 u_5.2.2.2.2, ar (ad 22) cA 12 gMheardWho, ar (ad 23) cA 12 gMheardTime] := hD.sub [8, 0, 9, 10, 11, 12, 13, 1, 2, 3, 4, 5, 14, 15, 16, 17, 18, 6, 7] (by decide) rfl
        refine lv_iload_n hx hb dX10_asleepOf_61 rfl (lv_at hl 1 rfl) ?_
        refine lv_aload_n hx hb dX10_asleepOf_62 rfl (lv_at hl 0 rfl) ?_
        have hPc := hP.sub (ws' := [oM ad xM_typed xM_people_28 xM_posted xM_hears xM_censuses xM_finding, ar (ad 15) cA 20 u_5.2.2.1, ar (ad 16) cA 8020 u_5.2.2.2.1, ar (ad 22) cA 12 gMheardWho, ar (ad 23) cA 12 gMheardTime]) [0, 14, 15, 17, 18] rfl
        have hDc := hD.sub (ws' := [oM ad xM_typed xM_people_28 xM_posted xM_hears xM_censuses xM_finding, ar (ad 15) cA 20 u_5.2.2.1, ar (ad 16) cA 8020 u_5.2.2.2.1, ar (ad 22) cA 12 gMheardWho, ar (ad 23) cA 12 gMheardTime]) [0, 14, 15, 17, 18] (by decide) rfl
        have hFc := va_free (wc := [oM ad xM_typed xM_people_28 xM_posted xM_hears xM_censuses xM_finding, ar (ad 15) cA 20 u_5.2.2.1, ar (ad 16) cA 8020 u_5.2.2.2.1, ar (ad 22) cA 12 gMheardWho, ar (ad 23) cA 12 gMheardTime]) hD hS hA [0, 14, 15, 17, 18] rfl
        obtain ⟨u_6, hc_6, hm⟩ := bd_ok hm
        refine va_calli (va_runV (As := []) (rest := [.int v3_28]) ⟨hx, hb, hml, hown, hts⟩ (kM_unlikeBy l dC dI cA cB ad H.size xM_typed xM_people_28 xM_posted xM_hears xM_censuses xM_finding u_5.2.2.1 u_5.2.2.2.1 gMheardWho gMheardTime u_6 hc_6) (cwV 0 hts gX10_asleepOf_X10_unlikeBy rfl rfl rfl (by decide +kernel) ⟨Nat.le_of_ble_eq_true rfl, Nat.le_of_ble_eq_true rfl⟩) ⟨fun a U g mk q => by obtain ⟨q0, q1, qP, qK, qD⟩ := q; exact ⟨q0, q1, qP, va_K.moved (u := U) (U := U.calling g mk a) (Vm.Alike.refl U.vm) qK, qD⟩, va_recv hK hPc (ci := 10) (q0 := 0) rfl rfl, fun U hU hW => ⟨rfl, by rw [hU], by rw [hU]; exact hPc, va_K.moved hW.alike hK, hDc.weaken (fun _ _ _ _ => trivial)⟩⟩ rfl rfl hl.1 rfl (lv_room (Nat.le_of_ble_eq_true rfl)) dX10_asleepOf_63 ⟨Nat.le_of_ble_eq_true rfl, Nat.le_of_ble_eq_true rfl⟩) hS (fun q _ h => hFc q h) hFc (fun r_6 _ t H1 locs ht hvm hw hB hz1 hk1 hS => ?_)
        obtain ⟨hP1, hK1, hD1⟩ := hB
        rw [ht] at hP1
        obtain ⟨hP, hD⟩ := va_join (wr := [ar (ad 1) cA 60 gMtext, ar (ad 2) cA 20 gMkinds_28, ar (ad 3) cA 20 gMlates_28, ar (ad 4) cA 20 gMscarfs_28, ar (ad 5) cA 20 gMhands_28, ar (ad 6) cA 20 gMrings_28, ar (ad 7) cA 20 gMmains_28, ar (ad 8) cA 4 gMaheadOf_28, ar (ad 9) cA 4 gMlastIn_28, ar (ad 10) cA 4 gMmanyIn_28, ar (ad 11) cA 3 gMsetting, ar (ad 13) cA 8020 u_5.1, ar (ad 14) cA 20 u_5.2.1, ar (ad 17) cA 8020 u_5.2.2.2.2]) (w1 := [oM ad xM_typed xM_people_28 xM_posted xM_hears xM_censuses xM_finding, ar (ad 15) cA 20 u_5.2.2.1, ar (ad 16) cA 8020 u_5.2.2.2.1, ar (ad 22) cA 12 gMheardWho, ar (ad 23) cA 12 gMheardTime]) hP hD [0, 14, 15, 17, 18] [1, 2, 3, 4, 5, 6, 7, 8, 9, 10, 11, 12, 13, 16] rfl rfl (by decide) (by decide) hk1 hFc hP1 hD1
        clear hPc hDc hFc hP1 hK1 hD1 hk1 hz1 hvm ht
        generalize H1 = H at hP hS ⊢
        have hP : va_P (dC, dI) vwCl [oM ad xM_typed xM_people_28 xM_posted xM_hears xM_censuses xM_finding, ar (ad 1) cA 60 gMtext, ar (ad 2) cA 20 gMkinds_28, ar (ad 3) cA 20 gMlates_28, ar (ad 4) cA 20 gMscarfs_28, ar (ad 5) cA 20 gMhands_28, ar (ad 6) cA 20 gMrings_28, ar (ad 7) cA 20 gMmains_28, ar (ad 8) cA 4 gMaheadOf_28, ar (ad 9) cA 4 gMlastIn_28, ar (ad 10) cA 4 gMmanyIn_28, ar (ad 11) cA 3 gMsetting, ar (ad 13) cA 8020 u_5.1, ar (ad 14) cA 20 u_5.2.1, ar (ad 15) cA 20 u_5.2.2.1, ar (ad 16) cA 8020 u_5.2.2.2.1, ar (ad 17) cA 8020 u_5.2.2.2.2, ar (ad 22) cA 12 gMheardWho, ar (ad 23) cA 12 gMheardTime] H := hP.sub [14, 0, 1, 2, 3, 4, 5, 6, 7, 8, 9, 10, 11, 12, 15, 16, 13, 17, 18] rfl
        have hD : va_D A [oM ad xM_typed xM_people_28 xM_posted xM_hears xM_censuses xM_finding, ar (ad 1) cA 60 gMtext, ar (ad 2) cA 20 gMkinds_28, ar (ad 3) cA 20 gMlates_28, ar (ad 4) cA 20 gMscarfs_28, ar (ad 5) cA 20 gMhands_28, ar (ad 6) cA 20 gMrings_28, ar (ad 7) cA 20 gMmains_28, ar (ad 8) cA 4 gMaheadOf_28, ar (ad 9) cA 4 gMlastIn_28, ar (ad 10) cA 4 gMmanyIn_28, ar (ad 11) cA 3 gMsetting, ar (ad 13) cA 8020 u_5.1, ar (ad 14) cA 20 u_5.2.1, ar (ad 15) cA 20 u_5.2.2.1, ar (ad 16) cA 8020 u_5.2.2.2.1, ar (ad 17) cA 8020 u_5.2.2.2.2, ar (ad 22) cA 12 gMheardWho, ar (ad 23) cA 12 gMheardTime] := hD.sub [14, 0, 1, 2, 3, 4, 5, 6, 7, 8, 9, 10, 11, 12, 15, 16, 13, 17, 18] (by decide) rfl
        have hw := hw.symm
        subst hw
        refine lv_if_ne (tgt := 76) hx hb dX10_asleepOf_66 (by decide) (fun c_7 => ?_) (fun c_7 => ?_)
        · have hm := it_neg c_7 hm
          refine lv_iconst (v := 0) hx hb dX10_asleepOf_76 (by decide) ?_
          exact b_77 _ _ _ _ _ _ _ _ hm _ _ hP hD hS _ (lv_sub hl [0, 2] rfl)
        · have hm := it_pos c_7 hm
          refine lv_iconst (v := 1) hx hb dX10_asleepOf_69 (by decide) ?_
          refine lv_iload hx hb dX10_asleepOf_70 (lv_at hl 2 rfl) ?_
          refine lv_ishl hx hb dX10_asleepOf_72 ?_
          refine lv_goto (tgt := 77) hx hb dX10_asleepOf_73 (by decide) ?_
          exact b_77 _ _ _ _ _ _ _ _ hm _ _ hP hD hS _ (lv_sub hl [0, 2] rfl)
  unfold fM_asleepOf at hm
  refine lv_iload_n hx hb dX10_asleepOf_0 rfl (lv_at hl 1 rfl) ?_
  refine lv_iconst (v := 1) hx hb dX10_asleepOf_1 (by decide) ?_
  refine lv_icmp_ne (tgt := 18) hx hb dX10_asleepOf_2 (by decide) (fun c_8 => ?_) (fun c_8 => ?_)
  · have hm := it_neg c_8 hm
    refine lv_aload_n hx hb dX10_asleepOf_18 rfl (lv_at hl 0 rfl) ?_
    have hPc := hP.sub (ws' := [oM ad xM_typed xM_people xM_posted xM_hears xM_censuses xM_finding, ar (ad 1) cA 60 gMtext, ar (ad 2) cA 20 gMkinds, ar (ad 3) cA 20 gMlates, ar (ad 4) cA 20 gMscarfs, ar (ad 5) cA 20 gMhands, ar (ad 6) cA 20 gMrings, ar (ad 7) cA 20 gMmains, ar (ad 8) cA 4 gMaheadOf, ar (ad 9) cA 4 gMlastIn, ar (ad 10) cA 4 gMmanyIn]) [0, 1, 2, 3, 4, 5, 6, 7, 8, 9, 10] rfl
    have hDc := hD.sub (ws' := [oM ad xM_typed xM_people xM_posted xM_hears xM_censuses xM_finding, ar (ad 1) cA 60 gMtext, ar (ad 2) cA 20 gMkinds, ar (ad 3) cA 20 gMlates, ar (ad 4) cA 20 gMscarfs, ar (ad 5) cA 20 gMhands, ar (ad 6) cA 20 gMrings, ar (ad 7) cA 20 gMmains, ar (ad 8) cA 4 gMaheadOf, ar (ad 9) cA 4 gMlastIn, ar (ad 10) cA 4 gMmanyIn]) [0, 1, 2, 3, 4, 5, 6, 7, 8, 9, 10] (by decide) rfl
    have hFc := va_free (wc := [oM ad xM_typed xM_people xM_posted xM_hears xM_censuses xM_finding, ar (ad 1) cA 60 gMtext, ar (ad 2) cA 20 gMkinds, ar (ad 3) cA 20 gMlates, ar (ad 4) cA 20 gMscarfs, ar (ad 5) cA 20 gMhands, ar (ad 6) cA 20 gMrings, ar (ad 7) cA 20 gMmains, ar (ad 8) cA 4 gMaheadOf, ar (ad 9) cA 4 gMlastIn, ar (ad 10) cA 4 gMmanyIn]) hD hS hA [0, 1, 2, 3, 4, 5, 6, 7, 8, 9, 10] rfl
    obtain ⟨u_9, hc_9, hm⟩ := bd_ok hm
    refine va_calli (va_runV (As := []) (rest := []) ⟨hx, hb, hml, hown, hts⟩ (kM_faultNow l dC dI cA cB ad s.heap.size xM_typed xM_people xM_posted xM_hears xM_censuses xM_finding gMtext gMkinds gMlates gMscarfs gMhands gMrings gMmains gMaheadOf gMlastIn gMmanyIn u_9 hc_9) (cwV 0 hts gX10_asleepOf_X10_faultNow rfl rfl rfl (by decide +kernel) ⟨Nat.le_of_ble_eq_true rfl, Nat.le_of_ble_eq_true rfl⟩) ⟨fun a U g mk q => by obtain ⟨q0, q1, qP, qK, qD⟩ := q; exact ⟨q0, q1, qP, va_K.moved (u := U) (U := U.calling g mk a) (Vm.Alike.refl U.vm) qK, qD⟩, va_recv hK hPc (ci := 10) (q0 := 0) rfl rfl, fun U hU hW => ⟨rfl, by rw [hU], by rw [hU]; exact hPc, va_K.moved hW.alike hK, hDc.weaken (fun _ _ _ _ => trivial)⟩⟩ rfl rfl hl.1 rfl (lv_room (Nat.le_of_ble_eq_true rfl)) dX10_asleepOf_19 ⟨Nat.le_of_ble_eq_true rfl, Nat.le_of_ble_eq_true rfl⟩) hS (fun q _ h => hFc q h) hFc (fun r_9 _ t H1 locs ht hvm hw hB hz1 hk1 hS => ?_)
    obtain ⟨hP1, hK1, hD1⟩ := hB
    rw [ht] at hP1
    obtain ⟨hP, hD⟩ := va_join (wr := [ar (ad 11) cA 3 gMsetting, ar (ad 13) cA 8020 gMcomes, ar (ad 14) cA 20 gMbusyTo, ar (ad 15) cA 20 gMfeltMany, ar (ad 16) cA 8020 gMfeltBits, ar (ad 17) cA 8020 gMlostBits, ar (ad 22) cA 12 gMheardWho, ar (ad 23) cA 12 gMheardTime]) (w1 := [oM ad xM_typed u_9.2.1 xM_posted xM_hears xM_censuses xM_finding, ar (ad 1) cA 60 gMtext, ar (ad 2) cA 20 u_9.2.2.1, ar (ad 3) cA 20 u_9.2.2.2.1, ar (ad 4) cA 20 u_9.2.2.2.2.1, ar (ad 5) cA 20 u_9.2.2.2.2.2.1, ar (ad 6) cA 20 u_9.2.2.2.2.2.2.1, ar (ad 7) cA 20 u_9.2.2.2.2.2.2.2.1, ar (ad 8) cA 4 u_9.2.2.2.2.2.2.2.2.1, ar (ad 9) cA 4 u_9.2.2.2.2.2.2.2.2.2.1, ar (ad 10) cA 4 u_9.2.2.2.2.2.2.2.2.2.2]) hP hD [0, 1, 2, 3, 4, 5, 6, 7, 8, 9, 10] [11, 12, 13, 14, 15, 16, 17, 18] rfl rfl (by decide) (by decide) hk1 hFc hP1 hD1
    clear hPc hDc hFc hP1 hK1 hD1 hk1 hz1 hvm ht
    generalize H1 = H at hP hS ⊢
    have hP : va_P (dC, dI) vwCl [oM ad xM_typed u_9.2.1 xM_posted xM_hears xM_censuses xM_finding, ar (ad 1) cA 60 gMtext, ar (ad 2) cA 20 u_9.2.2.1, ar (ad 3) cA 20 u_9.2.2.2.1, ar (ad 4) cA 20 u_9.2.2.2.2.1, ar (ad 5) cA 20 u_9.2.2.2.2.2.1, ar (ad 6) cA 20 u_9.2.2.2.2.2.2.1, ar (ad 7) cA 20 u_9.2.2.2.2.2.2.2.1, ar (ad 8) cA 4 u_9.2.2.2.2.2.2.2.2.1, ar (ad 9) cA 4 u_9.2.2.2.2.2.2.2.2.2.1, ar (ad 10) cA 4 u_9.2.2.2.2.2.2.2.2.2.2, ar (ad 11) cA 3 gMsetting, ar (ad 13) cA 8020 gMcomes, ar (ad 14) cA 20 gMbusyTo, ar (ad 15) cA 20 gMfeltMany, ar (ad 16) cA 8020 gMfeltBits, ar (ad 17) cA 8020 gMlostBits, ar (ad 22) cA 12 gMheardWho, ar (ad 23) cA 12 gMheardTime] H := hP.sub [8, 9, 10, 11, 12, 13, 14, 15, 16, 17, 18, 0, 1, 2, 3, 4, 5, 6, 7] rfl
    have hD : va_D A [oM ad xM_typed u_9.2.1 xM_posted xM_hears xM_censuses xM_finding, ar (ad 1) cA 60 gMtext, ar (ad 2) cA 20 u_9.2.2.1, ar (ad 3) cA 20 u_9.2.2.2.1, ar (ad 4) cA 20 u_9.2.2.2.2.1, ar (ad 5) cA 20 u_9.2.2.2.2.2.1, ar (ad 6) cA 20 u_9.2.2.2.2.2.2.1, ar (ad 7) cA 20 u_9.2.2.2.2.2.2.2.1, ar (ad 8) cA 4 u_9.2.2.2.2.2.2.2.2.1, ar (ad 9) cA 4 u_9.2.2.2.2.2.2.2.2.2.1, ar (ad 10) cA 4 u_9.2.2.2.2.2.2.2.2.2.2, ar (ad 11) cA 3 gMsetting, ar (ad 13) cA 8020 gMcomes, ar (ad 14) cA 20 gMbusyTo, ar (ad 15) cA 20 gMfeltMany, ar (ad 16) cA 8020 gMfeltBits, ar (ad 17) cA 8020 gMlostBits, ar (ad 22) cA 12 gMheardWho, ar (ad 23) cA 12 gMheardTime] := hD.sub [8, 9, 10, 11, 12, 13, 14, 15, 16, 17, 18, 0, 1, 2, 3, 4, 5, 6, 7] (by decide) rfl
    have hw := hw.symm
    subst hw
    refine lv_istore_n (lv' := [(2, .int u_9.1), (0, .ref (ad 0)), (1, .int a1)]) hx hb dX10_asleepOf_22 rfl hl (by decide) rfl (fun ls hl => ?_)
    refine lv_iconst (v := 0) hx hb dX10_asleepOf_23 (by decide) ?_
    refine lv_istore_n (lv' := [(3, .int 0), (2, .int u_9.1), (0, .ref (ad 0)), (1, .int a1)]) hx hb dX10_asleepOf_24 rfl hl (by decide) rfl (fun ls hl => ?_)
    refine lv_iconst (v := 0) hx hb dX10_asleepOf_25 (by decide) ?_
    refine lv_istore (lv' := [(4, .int 0), (3, .int 0), (2, .int u_9.1), (0, .ref (ad 0)), (1, .int a1)]) hx hb dX10_asleepOf_26 hl (by decide) rfl (fun ls hl => ?_)
    exact h_28 _ _ _ _ _ _ _ _ _ _ _ _ _ _ _ _ _ _ hm _ _ hP hD hS _ (lv_sub hl [3, 1, 0] rfl)
  · have hm := it_pos c_8 hm
    refine lv_aload_n hx hb dX10_asleepOf_5 rfl (lv_at hl 0 rfl) ?_
    have hPc := hP.sub (ws' := [oM ad xM_typed xM_people xM_posted xM_hears xM_censuses xM_finding, ar (ad 1) cA 60 gMtext, ar (ad 2) cA 20 gMkinds, ar (ad 3) cA 20 gMlates, ar (ad 4) cA 20 gMscarfs, ar (ad 5) cA 20 gMhands, ar (ad 6) cA 20 gMrings, ar (ad 7) cA 20 gMmains, ar (ad 8) cA 4 gMaheadOf, ar (ad 9) cA 4 gMlastIn, ar (ad 10) cA 4 gMmanyIn, ar (ad 11) cA 3 gMsetting, ar (ad 13) cA 8020 gMcomes, ar (ad 14) cA 20 gMbusyTo, ar (ad 15) cA 20 gMfeltMany, ar (ad 16) cA 8020 gMfeltBits, ar (ad 17) cA 8020 gMlostBits, ar (ad 22) cA 12 gMheardWho, ar (ad 23) cA 12 gMheardTime]) [0, 1, 2, 3, 4, 5, 6, 7, 8, 9, 10, 11, 12, 13, 14, 15, 16, 17, 18] rfl
    have hDc := hD.sub (ws' := [oM ad xM_typed xM_people xM_posted xM_hears xM_censuses xM_finding, ar (ad 1) cA 60 gMtext, ar (ad 2) cA 20 gMkinds, ar (ad 3) cA 20 gMlates, ar (ad 4) cA 20 gMscarfs, ar (ad 5) cA 20 gMhands, ar (ad 6) cA 20 gMrings, ar (ad 7) cA 20 gMmains, ar (ad 8) cA 4 gMaheadOf, ar (ad 9) cA 4 gMlastIn, ar (ad 10) cA 4 gMmanyIn, ar (ad 11) cA 3 gMsetting, ar (ad 13) cA 8020 gMcomes, ar (ad 14) cA 20 gMbusyTo, ar (ad 15) cA 20 gMfeltMany, ar (ad 16) cA 8020 gMfeltBits, ar (ad 17) cA 8020 gMlostBits, ar (ad 22) cA 12 gMheardWho, ar (ad 23) cA 12 gMheardTime]) [0, 1, 2, 3, 4, 5, 6, 7, 8, 9, 10, 11, 12, 13, 14, 15, 16, 17, 18] (by decide) rfl
    have hFc := va_free (wc := [oM ad xM_typed xM_people xM_posted xM_hears xM_censuses xM_finding, ar (ad 1) cA 60 gMtext, ar (ad 2) cA 20 gMkinds, ar (ad 3) cA 20 gMlates, ar (ad 4) cA 20 gMscarfs, ar (ad 5) cA 20 gMhands, ar (ad 6) cA 20 gMrings, ar (ad 7) cA 20 gMmains, ar (ad 8) cA 4 gMaheadOf, ar (ad 9) cA 4 gMlastIn, ar (ad 10) cA 4 gMmanyIn, ar (ad 11) cA 3 gMsetting, ar (ad 13) cA 8020 gMcomes, ar (ad 14) cA 20 gMbusyTo, ar (ad 15) cA 20 gMfeltMany, ar (ad 16) cA 8020 gMfeltBits, ar (ad 17) cA 8020 gMlostBits, ar (ad 22) cA 12 gMheardWho, ar (ad 23) cA 12 gMheardTime]) hD hS hA [0, 1, 2, 3, 4, 5, 6, 7, 8, 9, 10, 11, 12, 13, 14, 15, 16, 17, 18] rfl
    obtain ⟨u_10, hc_10, hm⟩ := bd_ok hm
    refine va_calli (va_runV (As := []) (rest := []) ⟨hx, hb, hml, hown, hts⟩ (kM_unlikeNow l dC dI cA cB ad s.heap.size xM_typed xM_people xM_posted xM_hears xM_censuses xM_finding gMtext gMkinds gMlates gMscarfs gMhands gMrings gMmains gMaheadOf gMlastIn gMmanyIn gMsetting gMcomes gMbusyTo gMfeltMany gMfeltBits gMlostBits gMheardWho gMheardTime u_10 hc_10) (cwV 0 hts gX10_asleepOf_X10_unlikeNow rfl rfl rfl (by decide +kernel) ⟨Nat.le_of_ble_eq_true rfl, Nat.le_of_ble_eq_true rfl⟩) ⟨fun a U g mk q => by obtain ⟨q0, q1, qP, qK, qD⟩ := q; exact ⟨q0, q1, qP, va_K.moved (u := U) (U := U.calling g mk a) (Vm.Alike.refl U.vm) qK, qD⟩, va_recv hK hPc (ci := 10) (q0 := 0) rfl rfl, fun U hU hW => ⟨rfl, by rw [hU], by rw [hU]; exact hPc, va_K.moved hW.alike hK, hDc.weaken (fun _ _ _ _ => trivial)⟩⟩ rfl rfl hl.1 rfl (lv_room (Nat.le_of_ble_eq_true rfl)) dX10_asleepOf_6 ⟨Nat.le_of_ble_eq_true rfl, Nat.le_of_ble_eq_true rfl⟩) hS (fun q _ h => hFc q h) hFc (fun r_10 _ t H1 locs ht hvm hw hB hz1 hk1 hS => ?_)
    obtain ⟨hP1, hK1, hD1⟩ := hB
    rw [ht] at hP1
    obtain ⟨hP, hD⟩ := va_join (wr := []) (w1 := [oM ad xM_typed u_10.2.1 xM_posted xM_hears xM_censuses xM_finding, ar (ad 1) cA 60 gMtext, ar (ad 2) cA 20 u_10.2.2.1, ar (ad 3) cA 20 u_10.2.2.2.1, ar (ad 4) cA 20 u_10.2.2.2.2.1, ar (ad 5) cA 20 u_10.2.2.2.2.2.1, ar (ad 6) cA 20 u_10.2.2.2.2.2.2.1, ar (ad 7) cA 20 u_10.2.2.2.2.2.2.2.1, ar (ad 8) cA 4 u_10.2.2.2.2.2.2.2.2.1, ar (ad 9) cA 4 u_10.2.2.2.2.2.2.2.2.2.1, ar (ad 10) cA 4 u_10.2.2.2.2.2.2.2.2.2.2.1, ar (ad 11) cA 3 gMsetting, ar (ad 13) cA 8020 u_10.2.2.2.2.2.2.2.2.2.2.2.1, ar (ad 14) cA 20 u_10.2.2.2.2.2.2.2.2.2.2.2.2.1, ar (ad 15) cA 20 u_10.2.2.2.2.2.2.2.2.2.2.2.2.2.1, ar (ad 16) cA 8020 u_10.2.2.2.2.2.2.2.2.2.2.2.2.2.2.1, ar (ad 17) cA 8020 u_10.2.2.2.2.2.2.2.2.2.2.2.2.2.2.2, ar (ad 22) cA 12 gMheardWho, ar (ad 23) cA 12 gMheardTime]) hP hD [0, 1, 2, 3, 4, 5, 6, 7, 8, 9, 10, 11, 12, 13, 14, 15, 16, 17, 18] [] rfl rfl (by decide) (by decide) hk1 hFc hP1 hD1
    clear hPc hDc hFc hP1 hK1 hD1 hk1 hz1 hvm ht
    generalize H1 = H at hP hS ⊢
    have hP : va_P (dC, dI) vwCl [oM ad xM_typed u_10.2.1 xM_posted xM_hears xM_censuses xM_finding, ar (ad 1) cA 60 gMtext, ar (ad 2) cA 20 u_10.2.2.1, ar (ad 3) cA 20 u_10.2.2.2.1, ar (ad 4) cA 20 u_10.2.2.2.2.1, ar (ad 5) cA 20 u_10.2.2.2.2.2.1, ar (ad 6) cA 20 u_10.2.2.2.2.2.2.1, ar (ad 7) cA 20 u_10.2.2.2.2.2.2.2.1, ar (ad 8) cA 4 u_10.2.2.2.2.2.2.2.2.1, ar (ad 9) cA 4 u_10.2.2.2.2.2.2.2.2.2.1, ar (ad 10) cA 4 u_10.2.2.2.2.2.2.2.2.2.2.1, ar (ad 11) cA 3 gMsetting, ar (ad 13) cA 8020 u_10.2.2.2.2.2.2.2.2.2.2.2.1, ar (ad 14) cA 20 u_10.2.2.2.2.2.2.2.2.2.2.2.2.1, ar (ad 15) cA 20 u_10.2.2.2.2.2.2.2.2.2.2.2.2.2.1, ar (ad 16) cA 8020 u_10.2.2.2.2.2.2.2.2.2.2.2.2.2.2.1, ar (ad 17) cA 8020 u_10.2.2.2.2.2.2.2.2.2.2.2.2.2.2.2, ar (ad 22) cA 12 gMheardWho, ar (ad 23) cA 12 gMheardTime] H := hP
    have hD : va_D A [oM ad xM_typed u_10.2.1 xM_posted xM_hears xM_censuses xM_finding, ar (ad 1) cA 60 gMtext, ar (ad 2) cA 20 u_10.2.2.1, ar (ad 3) cA 20 u_10.2.2.2.1, ar (ad 4) cA 20 u_10.2.2.2.2.1, ar (ad 5) cA 20 u_10.2.2.2.2.2.1, ar (ad 6) cA 20 u_10.2.2.2.2.2.2.1, ar (ad 7) cA 20 u_10.2.2.2.2.2.2.2.1, ar (ad 8) cA 4 u_10.2.2.2.2.2.2.2.2.1, ar (ad 9) cA 4 u_10.2.2.2.2.2.2.2.2.2.1, ar (ad 10) cA 4 u_10.2.2.2.2.2.2.2.2.2.2.1, ar (ad 11) cA 3 gMsetting, ar (ad 13) cA 8020 u_10.2.2.2.2.2.2.2.2.2.2.2.1, ar (ad 14) cA 20 u_10.2.2.2.2.2.2.2.2.2.2.2.2.1, ar (ad 15) cA 20 u_10.2.2.2.2.2.2.2.2.2.2.2.2.2.1, ar (ad 16) cA 8020 u_10.2.2.2.2.2.2.2.2.2.2.2.2.2.2.1, ar (ad 17) cA 8020 u_10.2.2.2.2.2.2.2.2.2.2.2.2.2.2.2, ar (ad 22) cA 12 gMheardWho, ar (ad 23) cA 12 gMheardTime] := hD
    have hw := hw.symm
    subst hw
    refine lv_if_ne (tgt := 16) hx hb dX10_asleepOf_9 (by decide) (fun c_11 => ?_) (fun c_11 => ?_)
    · have hm := it_neg c_11 hm
      refine lv_iconst (v := 0) hx hb dX10_asleepOf_16 (by decide) ?_
      obtain rfl := Option.some.inj hm
      subst hQ
      exact W.iret (v := 0) hx hb hr (fun t ht hW => ⟨⟨_, (), rfl, rfl, by rw [ht]; exact hP, va_K.moved hW.alike hK, hAe ▸ hD⟩, hS.F ht⟩) hS.2.2 dX10_asleepOf_17
    · have hm := it_pos c_11 hm
      refine lv_iconst (v := 1) hx hb dX10_asleepOf_12 (by decide) ?_
      refine lv_goto (tgt := 17) hx hb dX10_asleepOf_13 (by decide) ?_
      obtain rfl := Option.some.inj hm
      subst hQ
      exact W.iret (v := 1) hx hb hr (fun t ht hW => ⟨⟨_, (), rfl, rfl, by rw [ht]; exact hP, va_K.moved hW.alike hK, hAe ▸ hD⟩, hS.F ht⟩) hS.2.2 dX10_asleepOf_17

set_option maxHeartbeats 4000000 in
set_option maxRecDepth 100000 in
theorem kM_asleep (l : Launch) (dC : Nat → ClassId) (dI : Nat → Nat → Nat) (cA : ClassId) (cB : ClassId) (ad : Nat → Nat) (sz : Nat) (a1 : Int32) (xM_typed : Int32) (xM_people : Int32) (xM_posted : Int32) (xM_hears : Int32) (xM_censuses : Int32) (xM_finding : Int32) (gMtext : Nat → Int32) (gMkinds : Nat → Int32) (gMlates : Nat → Int32) (gMscarfs : Nat → Int32) (gMhands : Nat → Int32) (gMrings : Nat → Int32) (gMmains : Nat → Int32) (gMaheadOf : Nat → Int32) (gMlastIn : Nat → Int32) (gMmanyIn : Nat → Int32) (gMsetting : Nat → Int32) (gMcomes : Nat → Int32) (gMbusyTo : Nat → Int32) (gMfeltMany : Nat → Int32) (gMfeltBits : Nat → Int32) (gMlostBits : Nat → Int32) (gMheardWho : Nat → Int32) (gMheardTime : Nat → Int32) (u : Int32 × Int32 × (Nat → Int32) × (Nat → Int32) × (Nat → Int32) × (Nat → Int32) × (Nat → Int32) × (Nat → Int32) × (Nat → Int32) × (Nat → Int32) × (Nat → Int32) × (Nat → Int32) × (Nat → Int32) × (Nat → Int32) × (Nat → Int32) × (Nat → Int32)) (hm : fM_asleep a1 xM_typed xM_people xM_hears gMtext gMkinds gMlates gMscarfs gMhands gMrings gMmains gMaheadOf gMlastIn gMmanyIn gMsetting gMcomes gMbusyTo gMfeltMany gMfeltBits gMlostBits gMheardWho gMheardTime = some u) : Met l yX10_asleep wsX10_asleep ({ frames := 7, cells := 0, slots := 0, locals := 168 }) (va_Pc [.ref (ad 0), .int a1] (fun U => U.heap.size = sz ∧ va_P (dC, dI) vwCl [oM ad xM_typed xM_people xM_posted xM_hears xM_censuses xM_finding, ar (ad 1) cA 60 gMtext, ar (ad 2) cA 20 gMkinds, ar (ad 3) cA 20 gMlates, ar (ad 4) cA 20 gMscarfs, ar (ad 5) cA 20 gMhands, ar (ad 6) cA 20 gMrings, ar (ad 7) cA 20 gMmains, ar (ad 8) cA 4 gMaheadOf, ar (ad 9) cA 4 gMlastIn, ar (ad 10) cA 4 gMmanyIn, ar (ad 11) cA 3 gMsetting, ar (ad 13) cA 8020 gMcomes, ar (ad 14) cA 20 gMbusyTo, ar (ad 15) cA 20 gMfeltMany, ar (ad 16) cA 8020 gMfeltBits, ar (ad 17) cA 8020 gMlostBits, ar (ad 22) cA 12 gMheardWho, ar (ad 23) cA 12 gMheardTime] U.heap ∧ va_K (dC, dI) vwCl [(cA, .int), (cB, .boolean)] U ∧ va_D (fun _ => True) [oM ad xM_typed xM_people xM_posted xM_hears xM_censuses xM_finding, ar (ad 1) cA 60 gMtext, ar (ad 2) cA 20 gMkinds, ar (ad 3) cA 20 gMlates, ar (ad 4) cA 20 gMscarfs, ar (ad 5) cA 20 gMhands, ar (ad 6) cA 20 gMrings, ar (ad 7) cA 20 gMmains, ar (ad 8) cA 4 gMaheadOf, ar (ad 9) cA 4 gMlastIn, ar (ad 10) cA 4 gMmanyIn, ar (ad 11) cA 3 gMsetting, ar (ad 13) cA 8020 gMcomes, ar (ad 14) cA 20 gMbusyTo, ar (ad 15) cA 20 gMfeltMany, ar (ad 16) cA 8020 gMfeltBits, ar (ad 17) cA 8020 gMlostBits, ar (ad 22) cA 12 gMheardWho, ar (ad 23) cA 12 gMheardTime])) (va_Qi (fun (r : Int32) (_ : Unit) => r = u.1) (fun (_ : Unit) t => va_P (dC, dI) vwCl [oM ad xM_typed u.2.1 xM_posted xM_hears xM_censuses xM_finding, ar (ad 1) cA 60 gMtext, ar (ad 2) cA 20 u.2.2.1, ar (ad 3) cA 20 u.2.2.2.1, ar (ad 4) cA 20 u.2.2.2.2.1, ar (ad 5) cA 20 u.2.2.2.2.2.1, ar (ad 6) cA 20 u.2.2.2.2.2.2.1, ar (ad 7) cA 20 u.2.2.2.2.2.2.2.1, ar (ad 8) cA 4 u.2.2.2.2.2.2.2.2.1, ar (ad 9) cA 4 u.2.2.2.2.2.2.2.2.2.1, ar (ad 10) cA 4 u.2.2.2.2.2.2.2.2.2.2.1, ar (ad 11) cA 3 gMsetting, ar (ad 13) cA 8020 u.2.2.2.2.2.2.2.2.2.2.2.1, ar (ad 14) cA 20 u.2.2.2.2.2.2.2.2.2.2.2.2.1, ar (ad 15) cA 20 u.2.2.2.2.2.2.2.2.2.2.2.2.2.1, ar (ad 16) cA 8020 u.2.2.2.2.2.2.2.2.2.2.2.2.2.2.1, ar (ad 17) cA 8020 u.2.2.2.2.2.2.2.2.2.2.2.2.2.2.2, ar (ad 22) cA 12 gMheardWho, ar (ad 23) cA 12 gMheardTime] t.heap ∧ va_K (dC, dI) vwCl [(cA, .int), (cB, .boolean)] t ∧ va_D (va_A [oM ad xM_typed xM_people xM_posted xM_hears xM_censuses xM_finding, ar (ad 1) cA 60 gMtext, ar (ad 2) cA 20 gMkinds, ar (ad 3) cA 20 gMlates, ar (ad 4) cA 20 gMscarfs, ar (ad 5) cA 20 gMhands, ar (ad 6) cA 20 gMrings, ar (ad 7) cA 20 gMmains, ar (ad 8) cA 4 gMaheadOf, ar (ad 9) cA 4 gMlastIn, ar (ad 10) cA 4 gMmanyIn, ar (ad 11) cA 3 gMsetting, ar (ad 13) cA 8020 gMcomes, ar (ad 14) cA 20 gMbusyTo, ar (ad 15) cA 20 gMfeltMany, ar (ad 16) cA 8020 gMfeltBits, ar (ad 17) cA 8020 gMlostBits, ar (ad 22) cA 12 gMheardWho, ar (ad 23) cA 12 gMheardTime] sz) [oM ad xM_typed u.2.1 xM_posted xM_hears xM_censuses xM_finding, ar (ad 1) cA 60 gMtext, ar (ad 2) cA 20 u.2.2.1, ar (ad 3) cA 20 u.2.2.2.1, ar (ad 4) cA 20 u.2.2.2.2.1, ar (ad 5) cA 20 u.2.2.2.2.2.1, ar (ad 6) cA 20 u.2.2.2.2.2.2.1, ar (ad 7) cA 20 u.2.2.2.2.2.2.2.1, ar (ad 8) cA 4 u.2.2.2.2.2.2.2.2.1, ar (ad 9) cA 4 u.2.2.2.2.2.2.2.2.2.1, ar (ad 10) cA 4 u.2.2.2.2.2.2.2.2.2.2.1, ar (ad 11) cA 3 gMsetting, ar (ad 13) cA 8020 u.2.2.2.2.2.2.2.2.2.2.2.1, ar (ad 14) cA 20 u.2.2.2.2.2.2.2.2.2.2.2.2.1, ar (ad 15) cA 20 u.2.2.2.2.2.2.2.2.2.2.2.2.2.1, ar (ad 16) cA 8020 u.2.2.2.2.2.2.2.2.2.2.2.2.2.2.1, ar (ad 17) cA 8020 u.2.2.2.2.2.2.2.2.2.2.2.2.2.2.2, ar (ad 22) cA 12 gMheardWho, ar (ad 23) cA 12 gMheardTime]) (va_A [oM ad xM_typed xM_people xM_posted xM_hears xM_censuses xM_finding, ar (ad 1) cA 60 gMtext, ar (ad 2) cA 20 gMkinds, ar (ad 3) cA 20 gMlates, ar (ad 4) cA 20 gMscarfs, ar (ad 5) cA 20 gMhands, ar (ad 6) cA 20 gMrings, ar (ad 7) cA 20 gMmains, ar (ad 8) cA 4 gMaheadOf, ar (ad 9) cA 4 gMlastIn, ar (ad 10) cA 4 gMmanyIn, ar (ad 11) cA 3 gMsetting, ar (ad 13) cA 8020 gMcomes, ar (ad 14) cA 20 gMbusyTo, ar (ad 15) cA 20 gMfeltMany, ar (ad 16) cA 8020 gMfeltBits, ar (ad 17) cA 8020 gMlostBits, ar (ad 22) cA 12 gMheardWho, ar (ad 23) cA 12 gMheardTime] sz)) 0 0 (va_A [oM ad xM_typed xM_people xM_posted xM_hears xM_censuses xM_finding, ar (ad 1) cA 60 gMtext, ar (ad 2) cA 20 gMkinds, ar (ad 3) cA 20 gMlates, ar (ad 4) cA 20 gMscarfs, ar (ad 5) cA 20 gMhands, ar (ad 6) cA 20 gMrings, ar (ad 7) cA 20 gMmains, ar (ad 8) cA 4 gMaheadOf, ar (ad 9) cA 4 gMlastIn, ar (ad 10) cA 4 gMmanyIn, ar (ad 11) cA 3 gMsetting, ar (ad 13) cA 8020 gMcomes, ar (ad 14) cA 20 gMbusyTo, ar (ad 15) cA 20 gMfeltMany, ar (ad 16) cA 8020 gMfeltBits, ar (ad 17) cA 8020 gMlostBits, ar (ad 22) cA 12 gMheardWho, ar (ad 23) cA 12 gMheardTime] sz) := by
  refine Met.ofW (cc := cX10_asleep) (maxL := 2) (ret := (some .int)) (by decide) rfl ?_
  intro p e s m args below meth c s₁ B hml hv
  obtain ⟨rfl, hsz, hP, hK, hD0⟩ := hv
  have hx := B.exec
  have hb := B.bytes
  have hr := B.returns
  have hts := atoms_spec (ws := wsX10_asleep) B.pre
  have hown : s.vm.findClass RX10 = some m.cls := findClass_of_methodNamed B.named
  have hlocks := B.notSynchronized
  subst hsz
  have hD := hD0.self (sz := s.heap.size)
  generalize hAe : va_A [oM ad xM_typed xM_people xM_posted xM_hears xM_censuses xM_finding, ar (ad 1) cA 60 gMtext, ar (ad 2) cA 20 gMkinds, ar (ad 3) cA 20 gMlates, ar (ad 4) cA 20 gMscarfs, ar (ad 5) cA 20 gMhands, ar (ad 6) cA 20 gMrings, ar (ad 7) cA 20 gMmains, ar (ad 8) cA 4 gMaheadOf, ar (ad 9) cA 4 gMlastIn, ar (ad 10) cA 4 gMmanyIn, ar (ad 11) cA 3 gMsetting, ar (ad 13) cA 8020 gMcomes, ar (ad 14) cA 20 gMbusyTo, ar (ad 15) cA 20 gMfeltMany, ar (ad 16) cA 8020 gMfeltBits, ar (ad 17) cA 8020 gMlostBits, ar (ad 22) cA 12 gMheardWho, ar (ad 23) cA 12 gMheardTime] s.heap.size = A at hD ⊢
  have hA : ∀ q : Nat, s.heap.size ≤ q → A q := fun q h => by rw [← hAe]; exact Or.inr h
  have hS : va_S A s.heap s.heap [] := va_S.rf
  have hl := lv_entry ([.ref (ad 0), .int a1]) (n := 2) (Nat.le_of_ble_eq_true rfl)
  rw [lg_entry_eq]
  generalize (lg_sl ([.ref (ad 0), .int a1]) ++ List.replicate (2 - (lg_sl ([.ref (ad 0), .int a1])).length) Slot.unset).toArray = ls at hl ⊢
  have hl : lv_has ls 2 [(0, .ref (ad 0)), (1, .int a1)] := hl
  refine wk_Q (fun QQ hQ => ?_)
  unfold fM_asleep at hm
  refine lv_iload_n hx hb dX10_asleep_0 rfl (lv_at hl 1 rfl) ?_
  refine lv_iconst (v := 0) hx hb dX10_asleep_1 (by decide) ?_
  refine lv_iconst (v := 1) hx hb dX10_asleep_2 (by decide) ?_
  have hPc := hP.sub (ws' := []) [] rfl
  have hDc := hD.sub (ws' := []) [] (by decide) rfl
  have hFc := va_free (wc := []) hD hS hA [] rfl
  obtain ⟨u_1, hc_1, hm⟩ := bd_ok hm
  refine va_calli (va_runS (As := [.int a1, .int 0, .int 1]) (rest := []) ⟨hx, hb, hml, hown, hts⟩ (kM_in l dC dI cA cB ad s.heap.size a1 0 1 u_1 hc_1) (va_cwS 3 hts gX10_asleep_X10_in rfl rfl rfl (by decide +kernel) ⟨Nat.le_of_ble_eq_true rfl, Nat.le_of_ble_eq_true rfl⟩) ⟨fun a U g mk q => by obtain ⟨q0, q1, qP, qK, qD⟩ := q; exact ⟨q0, q1, qP, va_K.moved (u := U) (U := U.calling g mk a) (Vm.Alike.refl U.vm) qK, qD⟩, fun U hU hW => ⟨rfl, by rw [hU], by rw [hU]; exact hPc, va_K.moved hW.alike hK, hDc.weaken (fun _ _ _ _ => trivial)⟩⟩ rfl rfl hl.1 rfl (lv_room (Nat.le_of_ble_eq_true rfl)) dX10_asleep_3 ⟨Nat.le_of_ble_eq_true rfl, Nat.le_of_ble_eq_true rfl⟩) hS (fun q _ h => hFc q h) hFc (fun r_1 _ t H1 locs ht hvm hw hB hz1 hk1 hS => ?_)
  obtain ⟨hP1, hK1, hD1⟩ := hB
  rw [ht] at hP1
  obtain ⟨hP, hD⟩ := va_join (wr := [oM ad xM_typed xM_people xM_posted xM_hears xM_censuses xM_finding, ar (ad 1) cA 60 gMtext, ar (ad 2) cA 20 gMkinds, ar (ad 3) cA 20 gMlates, ar (ad 4) cA 20 gMscarfs, ar (ad 5) cA 20 gMhands, ar (ad 6) cA 20 gMrings, ar (ad 7) cA 20 gMmains, ar (ad 8) cA 4 gMaheadOf, ar (ad 9) cA 4 gMlastIn, ar (ad 10) cA 4 gMmanyIn, ar (ad 11) cA 3 gMsetting, ar (ad 13) cA 8020 gMcomes, ar (ad 14) cA 20 gMbusyTo, ar (ad 15) cA 20 gMfeltMany, ar (ad 16) cA 8020 gMfeltBits, ar (ad 17) cA 8020 gMlostBits, ar (ad 22) cA 12 gMheardWho, ar (ad 23) cA 12 gMheardTime]) (w1 := []) hP hD [] [0, 1, 2, 3, 4, 5, 6, 7, 8, 9, 10, 11, 12, 13, 14, 15, 16, 17, 18] rfl rfl (by decide) (by decide) hk1 hFc hP1 hD1
  clear hPc hDc hFc hP1 hK1 hD1 hk1 hz1 hvm ht
  generalize H1 = H at hP hS ⊢
  have hP : va_P (dC, dI) vwCl [oM ad xM_typed xM_people xM_posted xM_hears xM_censuses xM_finding, ar (ad 1) cA 60 gMtext, ar (ad 2) cA 20 gMkinds, ar (ad 3) cA 20 gMlates, ar (ad 4) cA 20 gMscarfs, ar (ad 5) cA 20 gMhands, ar (ad 6) cA 20 gMrings, ar (ad 7) cA 20 gMmains, ar (ad 8) cA 4 gMaheadOf, ar (ad 9) cA 4 gMlastIn, ar (ad 10) cA 4 gMmanyIn, ar (ad 11) cA 3 gMsetting, ar (ad 13) cA 8020 gMcomes, ar (ad 14) cA 20 gMbusyTo, ar (ad 15) cA 20 gMfeltMany, ar (ad 16) cA 8020 gMfeltBits, ar (ad 17) cA 8020 gMlostBits, ar (ad 22) cA 12 gMheardWho, ar (ad 23) cA 12 gMheardTime] H := hP
  have hD : va_D A [oM ad xM_typed xM_people xM_posted xM_hears xM_censuses xM_finding, ar (ad 1) cA 60 gMtext, ar (ad 2) cA 20 gMkinds, ar (ad 3) cA 20 gMlates, ar (ad 4) cA 20 gMscarfs, ar (ad 5) cA 20 gMhands, ar (ad 6) cA 20 gMrings, ar (ad 7) cA 20 gMmains, ar (ad 8) cA 4 gMaheadOf, ar (ad 9) cA 4 gMlastIn, ar (ad 10) cA 4 gMmanyIn, ar (ad 11) cA 3 gMsetting, ar (ad 13) cA 8020 gMcomes, ar (ad 14) cA 20 gMbusyTo, ar (ad 15) cA 20 gMfeltMany, ar (ad 16) cA 8020 gMfeltBits, ar (ad 17) cA 8020 gMlostBits, ar (ad 22) cA 12 gMheardWho, ar (ad 23) cA 12 gMheardTime] := hD
  have hw := hw.symm
  subst hw
  refine lv_if_eq (tgt := 17) hx hb dX10_asleep_6 (by decide) (fun c_2 => ?_) (fun c_2 => ?_)
  · have hm := it_pos c_2 hm
    refine lv_bipush (v := (-2)) hx hb dX10_asleep_17 (by decide) ?_
    obtain rfl := Option.some.inj hm
    subst hQ
    exact W.iret (v := (-2)) hx hb hr (fun t ht hW => ⟨⟨_, (), rfl, rfl, by rw [ht]; exact hP, va_K.moved hW.alike hK, hAe ▸ hD⟩, hS.F ht⟩) hS.2.2 dX10_asleep_19
  · have hm := it_neg c_2 hm
    refine lv_aload_n hx hb dX10_asleep_9 rfl (lv_at hl 0 rfl) ?_
    refine lv_iload_n hx hb dX10_asleep_10 rfl (lv_at hl 1 rfl) ?_
    have hPc := hP.sub (ws' := [oM ad xM_typed xM_people xM_posted xM_hears xM_censuses xM_finding, ar (ad 1) cA 60 gMtext, ar (ad 2) cA 20 gMkinds, ar (ad 3) cA 20 gMlates, ar (ad 4) cA 20 gMscarfs, ar (ad 5) cA 20 gMhands, ar (ad 6) cA 20 gMrings, ar (ad 7) cA 20 gMmains, ar (ad 8) cA 4 gMaheadOf, ar (ad 9) cA 4 gMlastIn, ar (ad 10) cA 4 gMmanyIn, ar (ad 11) cA 3 gMsetting, ar (ad 13) cA 8020 gMcomes, ar (ad 14) cA 20 gMbusyTo, ar (ad 15) cA 20 gMfeltMany, ar (ad 16) cA 8020 gMfeltBits, ar (ad 17) cA 8020 gMlostBits, ar (ad 22) cA 12 gMheardWho, ar (ad 23) cA 12 gMheardTime]) [0, 1, 2, 3, 4, 5, 6, 7, 8, 9, 10, 11, 12, 13, 14, 15, 16, 17, 18] rfl
    have hDc := hD.sub (ws' := [oM ad xM_typed xM_people xM_posted xM_hears xM_censuses xM_finding, ar (ad 1) cA 60 gMtext, ar (ad 2) cA 20 gMkinds, ar (ad 3) cA 20 gMlates, ar (ad 4) cA 20 gMscarfs, ar (ad 5) cA 20 gMhands, ar (ad 6) cA 20 gMrings, ar (ad 7) cA 20 gMmains, ar (ad 8) cA 4 gMaheadOf, ar (ad 9) cA 4 gMlastIn, ar (ad 10) cA 4 gMmanyIn, ar (ad 11) cA 3 gMsetting, ar (ad 13) cA 8020 gMcomes, ar (ad 14) cA 20 gMbusyTo, ar (ad 15) cA 20 gMfeltMany, ar (ad 16) cA 8020 gMfeltBits, ar (ad 17) cA 8020 gMlostBits, ar (ad 22) cA 12 gMheardWho, ar (ad 23) cA 12 gMheardTime]) [0, 1, 2, 3, 4, 5, 6, 7, 8, 9, 10, 11, 12, 13, 14, 15, 16, 17, 18] (by decide) rfl
    have hFc := va_free (wc := [oM ad xM_typed xM_people xM_posted xM_hears xM_censuses xM_finding, ar (ad 1) cA 60 gMtext, ar (ad 2) cA 20 gMkinds, ar (ad 3) cA 20 gMlates, ar (ad 4) cA 20 gMscarfs, ar (ad 5) cA 20 gMhands, ar (ad 6) cA 20 gMrings, ar (ad 7) cA 20 gMmains, ar (ad 8) cA 4 gMaheadOf, ar (ad 9) cA 4 gMlastIn, ar (ad 10) cA 4 gMmanyIn, ar (ad 11) cA 3 gMsetting, ar (ad 13) cA 8020 gMcomes, ar (ad 14) cA 20 gMbusyTo, ar (ad 15) cA 20 gMfeltMany, ar (ad 16) cA 8020 gMfeltBits, ar (ad 17) cA 8020 gMlostBits, ar (ad 22) cA 12 gMheardWho, ar (ad 23) cA 12 gMheardTime]) hD hS hA [0, 1, 2, 3, 4, 5, 6, 7, 8, 9, 10, 11, 12, 13, 14, 15, 16, 17, 18] rfl
    obtain ⟨u_3, hc_3, hm⟩ := bd_ok hm
    refine va_calli (va_runV (As := [.int a1]) (rest := []) ⟨hx, hb, hml, hown, hts⟩ (kM_asleepOf l dC dI cA cB ad H.size a1 xM_typed xM_people xM_posted xM_hears xM_censuses xM_finding gMtext gMkinds gMlates gMscarfs gMhands gMrings gMmains gMaheadOf gMlastIn gMmanyIn gMsetting gMcomes gMbusyTo gMfeltMany gMfeltBits gMlostBits gMheardWho gMheardTime u_3 hc_3) (cwV 1 hts gX10_asleep_X10_asleepOf rfl rfl rfl (by decide +kernel) ⟨Nat.le_of_ble_eq_true rfl, Nat.le_of_ble_eq_true rfl⟩) ⟨fun a U g mk q => by obtain ⟨q0, q1, qP, qK, qD⟩ := q; exact ⟨q0, q1, qP, va_K.moved (u := U) (U := U.calling g mk a) (Vm.Alike.refl U.vm) qK, qD⟩, va_recv hK hPc (ci := 10) (q0 := 0) rfl rfl, fun U hU hW => ⟨rfl, by rw [hU], by rw [hU]; exact hPc, va_K.moved hW.alike hK, hDc.weaken (fun _ _ _ _ => trivial)⟩⟩ rfl rfl hl.1 rfl (lv_room (Nat.le_of_ble_eq_true rfl)) dX10_asleep_11 ⟨Nat.le_of_ble_eq_true rfl, Nat.le_of_ble_eq_true rfl⟩) hS (fun q _ h => hFc q h) hFc (fun r_3 _ t H1 locs ht hvm hw hB hz1 hk1 hS => ?_)
    obtain ⟨hP1, hK1, hD1⟩ := hB
    rw [ht] at hP1
    obtain ⟨hP, hD⟩ := va_join (wr := []) (w1 := [oM ad xM_typed u_3.2.1 xM_posted xM_hears xM_censuses xM_finding, ar (ad 1) cA 60 gMtext, ar (ad 2) cA 20 u_3.2.2.1, ar (ad 3) cA 20 u_3.2.2.2.1, ar (ad 4) cA 20 u_3.2.2.2.2.1, ar (ad 5) cA 20 u_3.2.2.2.2.2.1, ar (ad 6) cA 20 u_3.2.2.2.2.2.2.1, ar (ad 7) cA 20 u_3.2.2.2.2.2.2.2.1, ar (ad 8) cA 4 u_3.2.2.2.2.2.2.2.2.1, ar (ad 9) cA 4 u_3.2.2.2.2.2.2.2.2.2.1, ar (ad 10) cA 4 u_3.2.2.2.2.2.2.2.2.2.2.1, ar (ad 11) cA 3 gMsetting, ar (ad 13) cA 8020 u_3.2.2.2.2.2.2.2.2.2.2.2.1, ar (ad 14) cA 20 u_3.2.2.2.2.2.2.2.2.2.2.2.2.1, ar (ad 15) cA 20 u_3.2.2.2.2.2.2.2.2.2.2.2.2.2.1, ar (ad 16) cA 8020 u_3.2.2.2.2.2.2.2.2.2.2.2.2.2.2.1, ar (ad 17) cA 8020 u_3.2.2.2.2.2.2.2.2.2.2.2.2.2.2.2, ar (ad 22) cA 12 gMheardWho, ar (ad 23) cA 12 gMheardTime]) hP hD [0, 1, 2, 3, 4, 5, 6, 7, 8, 9, 10, 11, 12, 13, 14, 15, 16, 17, 18] [] rfl rfl (by decide) (by decide) hk1 hFc hP1 hD1
    clear hPc hDc hFc hP1 hK1 hD1 hk1 hz1 hvm ht
    generalize H1 = H at hP hS ⊢
    have hP : va_P (dC, dI) vwCl [oM ad xM_typed u_3.2.1 xM_posted xM_hears xM_censuses xM_finding, ar (ad 1) cA 60 gMtext, ar (ad 2) cA 20 u_3.2.2.1, ar (ad 3) cA 20 u_3.2.2.2.1, ar (ad 4) cA 20 u_3.2.2.2.2.1, ar (ad 5) cA 20 u_3.2.2.2.2.2.1, ar (ad 6) cA 20 u_3.2.2.2.2.2.2.1, ar (ad 7) cA 20 u_3.2.2.2.2.2.2.2.1, ar (ad 8) cA 4 u_3.2.2.2.2.2.2.2.2.1, ar (ad 9) cA 4 u_3.2.2.2.2.2.2.2.2.2.1, ar (ad 10) cA 4 u_3.2.2.2.2.2.2.2.2.2.2.1, ar (ad 11) cA 3 gMsetting, ar (ad 13) cA 8020 u_3.2.2.2.2.2.2.2.2.2.2.2.1, ar (ad 14) cA 20 u_3.2.2.2.2.2.2.2.2.2.2.2.2.1, ar (ad 15) cA 20 u_3.2.2.2.2.2.2.2.2.2.2.2.2.2.1, ar (ad 16) cA 8020 u_3.2.2.2.2.2.2.2.2.2.2.2.2.2.2.1, ar (ad 17) cA 8020 u_3.2.2.2.2.2.2.2.2.2.2.2.2.2.2.2, ar (ad 22) cA 12 gMheardWho, ar (ad 23) cA 12 gMheardTime] H := hP
    have hD : va_D A [oM ad xM_typed u_3.2.1 xM_posted xM_hears xM_censuses xM_finding, ar (ad 1) cA 60 gMtext, ar (ad 2) cA 20 u_3.2.2.1, ar (ad 3) cA 20 u_3.2.2.2.1, ar (ad 4) cA 20 u_3.2.2.2.2.1, ar (ad 5) cA 20 u_3.2.2.2.2.2.1, ar (ad 6) cA 20 u_3.2.2.2.2.2.2.1, ar (ad 7) cA 20 u_3.2.2.2.2.2.2.2.1, ar (ad 8) cA 4 u_3.2.2.2.2.2.2.2.2.1, ar (ad 9) cA 4 u_3.2.2.2.2.2.2.2.2.2.1, ar (ad 10) cA 4 u_3.2.2.2.2.2.2.2.2.2.2.1, ar (ad 11) cA 3 gMsetting, ar (ad 13) cA 8020 u_3.2.2.2.2.2.2.2.2.2.2.2.1, ar (ad 14) cA 20 u_3.2.2.2.2.2.2.2.2.2.2.2.2.1, ar (ad 15) cA 20 u_3.2.2.2.2.2.2.2.2.2.2.2.2.2.1, ar (ad 16) cA 8020 u_3.2.2.2.2.2.2.2.2.2.2.2.2.2.2.1, ar (ad 17) cA 8020 u_3.2.2.2.2.2.2.2.2.2.2.2.2.2.2.2, ar (ad 22) cA 12 gMheardWho, ar (ad 23) cA 12 gMheardTime] := hD
    have hw := hw.symm
    subst hw
    refine lv_goto (tgt := 19) hx hb dX10_asleep_14 (by decide) ?_
    obtain rfl := Option.some.inj hm
    subst hQ
    exact W.iret (v := u_3.1) hx hb hr (fun t ht hW => ⟨⟨_, (), rfl, rfl, by rw [ht]; exact hP, va_K.moved hW.alike hK, hAe ▸ hD⟩, hS.F ht⟩) hS.2.2 dX10_asleep_19

set_option maxHeartbeats 4000000 in
set_option maxRecDepth 100000 in
theorem kM_census (l : Launch) (dC : Nat → ClassId) (dI : Nat → Nat → Nat) (cA : ClassId) (cB : ClassId) (ad : Nat → Nat) (sz : Nat) (a1 : Int32) (a2 : Int32) (xM_typed : Int32) (xM_people : Int32) (xM_posted : Int32) (xM_hears : Int32) (xM_censuses : Int32) (xM_finding : Int32) (gMcensusYear : Nat → Int32) (gMcensusMany : Nat → Int32) (u : Int32 × Int32 × (Nat → Int32) × (Nat → Int32)) (hm : fM_census a1 a2 xM_censuses gMcensusYear gMcensusMany = some u) : Met l yX10_census wsX10_census ({ frames := 1, cells := 0, slots := 0, locals := 22 }) (va_Pc [.ref (ad 0), .int a1, .int a2] (fun U => U.heap.size = sz ∧ va_P (dC, dI) vwCl [oM ad xM_typed xM_people xM_posted xM_hears xM_censuses xM_finding, ar (ad 24) cA 8 gMcensusYear, ar (ad 25) cA 8 gMcensusMany] U.heap ∧ va_K (dC, dI) vwCl [(cA, .int), (cB, .boolean)] U ∧ va_D (fun _ => True) [oM ad xM_typed xM_people xM_posted xM_hears xM_censuses xM_finding, ar (ad 24) cA 8 gMcensusYear, ar (ad 25) cA 8 gMcensusMany])) (va_Qi (fun (r : Int32) (_ : Unit) => r = u.1) (fun (_ : Unit) t => va_P (dC, dI) vwCl [oM ad xM_typed xM_people xM_posted xM_hears u.2.1 xM_finding, ar (ad 24) cA 8 u.2.2.1, ar (ad 25) cA 8 u.2.2.2] t.heap ∧ va_K (dC, dI) vwCl [(cA, .int), (cB, .boolean)] t ∧ va_D (va_A [oM ad xM_typed xM_people xM_posted xM_hears xM_censuses xM_finding, ar (ad 24) cA 8 gMcensusYear, ar (ad 25) cA 8 gMcensusMany] sz) [oM ad xM_typed xM_people xM_posted xM_hears u.2.1 xM_finding, ar (ad 24) cA 8 u.2.2.1, ar (ad 25) cA 8 u.2.2.2]) (va_A [oM ad xM_typed xM_people xM_posted xM_hears xM_censuses xM_finding, ar (ad 24) cA 8 gMcensusYear, ar (ad 25) cA 8 gMcensusMany] sz)) 0 0 (va_A [oM ad xM_typed xM_people xM_posted xM_hears xM_censuses xM_finding, ar (ad 24) cA 8 gMcensusYear, ar (ad 25) cA 8 gMcensusMany] sz) := by
  refine Met.ofW (cc := cX10_census) (maxL := 3) (ret := (some .int)) (by decide) rfl ?_
  intro p e s m args below meth c s₁ B hml hv
  obtain ⟨rfl, hsz, hP, hK, hD0⟩ := hv
  have hx := B.exec
  have hb := B.bytes
  have hr := B.returns
  have hts := atoms_spec (ws := wsX10_census) B.pre
  have hown : s.vm.findClass RX10 = some m.cls := findClass_of_methodNamed B.named
  have hlocks := B.notSynchronized
  subst hsz
  have hD := hD0.self (sz := s.heap.size)
  generalize hAe : va_A [oM ad xM_typed xM_people xM_posted xM_hears xM_censuses xM_finding, ar (ad 24) cA 8 gMcensusYear, ar (ad 25) cA 8 gMcensusMany] s.heap.size = A at hD ⊢
  have hA : ∀ q : Nat, s.heap.size ≤ q → A q := fun q h => by rw [← hAe]; exact Or.inr h
  have hS : va_S A s.heap s.heap [] := va_S.rf
  have hl := lv_entry ([.ref (ad 0), .int a1, .int a2]) (n := 3) (Nat.le_of_ble_eq_true rfl)
  rw [lg_entry_eq]
  generalize (lg_sl ([.ref (ad 0), .int a1, .int a2]) ++ List.replicate (3 - (lg_sl ([.ref (ad 0), .int a1, .int a2])).length) Slot.unset).toArray = ls at hl ⊢
  have hl : lv_has ls 3 [(0, .ref (ad 0)), (1, .int a1), (2, .int a2)] := hl
  refine wk_Q (fun QQ hQ => ?_)
  have hinX10 : ∀ w ∈ wsX100, w ∈ wsX10_census := fun w h => List.mem_cons_of_mem _ (inlX10 w h)
  have hl_252 := hts (.fieldLink RX10 252 "HandCensusModel" "censuses" "I") (List.mem_cons_of_mem _ (in_r36 _ (List.mem_of_getElem? (i := 22) rfl)))
  have hl_79 := hts (.fieldLink RX10 79 "HandCensusModel" "censusYear" "[I") (List.mem_cons_of_mem _ (in_r7 _ (List.mem_of_getElem? (i := 18) rfl)))
  have hl_82 := hts (.fieldLink RX10 82 "HandCensusModel" "censusMany" "[I") (List.mem_cons_of_mem _ (in_r7 _ (List.mem_of_getElem? (i := 19) rfl)))
  unfold fM_census at hm
  refine lv_iload_n hx hb dX10_census_0 rfl (lv_at hl 1 rfl) ?_
  refine lv_iconst (v := 0) hx hb dX10_census_1 (by decide) ?_
  refine lv_bipush (v := 99) hx hb dX10_census_2 (by decide) ?_
  have hPc := hP.sub (ws' := []) [] rfl
  have hDc := hD.sub (ws' := []) [] (by decide) rfl
  have hFc := va_free (wc := []) hD hS hA [] rfl
  obtain ⟨u_1, hc_1, hm⟩ := bd_ok hm
  refine va_calli (va_runS (As := [.int a1, .int 0, .int 99]) (rest := []) ⟨hx, hb, hml, hown, hts⟩ (kM_in l dC dI cA cB ad s.heap.size a1 0 99 u_1 hc_1) (va_cwS 3 hts gX10_census_X10_in rfl rfl rfl (by decide +kernel) ⟨Nat.le_of_ble_eq_true rfl, Nat.le_of_ble_eq_true rfl⟩) ⟨fun a U g mk q => by obtain ⟨q0, q1, qP, qK, qD⟩ := q; exact ⟨q0, q1, qP, va_K.moved (u := U) (U := U.calling g mk a) (Vm.Alike.refl U.vm) qK, qD⟩, fun U hU hW => ⟨rfl, by rw [hU], by rw [hU]; exact hPc, va_K.moved hW.alike hK, hDc.weaken (fun _ _ _ _ => trivial)⟩⟩ rfl rfl hl.1 rfl (lv_room (Nat.le_of_ble_eq_true rfl)) dX10_census_4 ⟨Nat.le_of_ble_eq_true rfl, Nat.le_of_ble_eq_true rfl⟩) hS (fun q _ h => hFc q h) hFc (fun r_1 _ t H1 locs ht hvm hw hB hz1 hk1 hS => ?_)
  obtain ⟨hP1, hK1, hD1⟩ := hB
  rw [ht] at hP1
  obtain ⟨hP, hD⟩ := va_join (wr := [oM ad xM_typed xM_people xM_posted xM_hears xM_censuses xM_finding, ar (ad 24) cA 8 gMcensusYear, ar (ad 25) cA 8 gMcensusMany]) (w1 := []) hP hD [] [0, 1, 2] rfl rfl (by decide) (by decide) hk1 hFc hP1 hD1
  clear hPc hDc hFc hP1 hK1 hD1 hk1 hz1 hvm ht
  generalize H1 = H at hP hS ⊢
  have hP : va_P (dC, dI) vwCl [oM ad xM_typed xM_people xM_posted xM_hears xM_censuses xM_finding, ar (ad 24) cA 8 gMcensusYear, ar (ad 25) cA 8 gMcensusMany] H := hP
  have hD : va_D A [oM ad xM_typed xM_people xM_posted xM_hears xM_censuses xM_finding, ar (ad 24) cA 8 gMcensusYear, ar (ad 25) cA 8 gMcensusMany] := hD
  have hw := hw.symm
  subst hw
  refine lv_if_eq (tgt := 21) hx hb dX10_census_7 (by decide) (fun c_2 => ?_) (fun c_2 => ?_)
  · have hm := it_pos c_2 hm
    refine lv_bipush (v := (-2)) hx hb dX10_census_21 (by decide) ?_
    obtain rfl := Option.some.inj hm
    subst hQ
    exact W.iret (v := (-2)) hx hb hr (fun t ht hW => ⟨⟨_, (), rfl, rfl, by rw [ht]; exact hP, va_K.moved hW.alike hK, hAe ▸ hD⟩, hS.F ht⟩) hS.2.2 dX10_census_23
  · have hm := it_neg c_2 hm
    refine lv_iload_n hx hb dX10_census_10 rfl (lv_at hl 2 rfl) ?_
    refine lv_iconst (v := 0) hx hb dX10_census_11 (by decide) ?_
    refine lv_sipush (v := 9999) hx hb dX10_census_12 (by decide) ?_
    have hPc := hP.sub (ws' := []) [] rfl
    have hDc := hD.sub (ws' := []) [] (by decide) rfl
    have hFc := va_free (wc := []) hD hS hA [] rfl
    obtain ⟨u_3, hc_3, hm⟩ := bd_ok hm
    refine va_calli (va_runS (As := [.int a2, .int 0, .int 9999]) (rest := []) ⟨hx, hb, hml, hown, hts⟩ (kM_in l dC dI cA cB ad H.size a2 0 9999 u_3 hc_3) (va_cwS 3 hts gX10_census_X10_in rfl rfl rfl (by decide +kernel) ⟨Nat.le_of_ble_eq_true rfl, Nat.le_of_ble_eq_true rfl⟩) ⟨fun a U g mk q => by obtain ⟨q0, q1, qP, qK, qD⟩ := q; exact ⟨q0, q1, qP, va_K.moved (u := U) (U := U.calling g mk a) (Vm.Alike.refl U.vm) qK, qD⟩, fun U hU hW => ⟨rfl, by rw [hU], by rw [hU]; exact hPc, va_K.moved hW.alike hK, hDc.weaken (fun _ _ _ _ => trivial)⟩⟩ rfl rfl hl.1 rfl (lv_room (Nat.le_of_ble_eq_true rfl)) dX10_census_15 ⟨Nat.le_of_ble_eq_true rfl, Nat.le_of_ble_eq_true rfl⟩) hS (fun q _ h => hFc q h) hFc (fun r_3 _ t H1 locs ht hvm hw hB hz1 hk1 hS => ?_)
    obtain ⟨hP1, hK1, hD1⟩ := hB
    rw [ht] at hP1
    obtain ⟨hP, hD⟩ := va_join (wr := [oM ad xM_typed xM_people xM_posted xM_hears xM_censuses xM_finding, ar (ad 24) cA 8 gMcensusYear, ar (ad 25) cA 8 gMcensusMany]) (w1 := []) hP hD [] [0, 1, 2] rfl rfl (by decide) (by decide) hk1 hFc hP1 hD1
    clear hPc hDc hFc hP1 hK1 hD1 hk1 hz1 hvm ht
    generalize H1 = H at hP hS ⊢
    have hP : va_P (dC, dI) vwCl [oM ad xM_typed xM_people xM_posted xM_hears xM_censuses xM_finding, ar (ad 24) cA 8 gMcensusYear, ar (ad 25) cA 8 gMcensusMany] H := hP
    have hD : va_D A [oM ad xM_typed xM_people xM_posted xM_hears xM_censuses xM_finding, ar (ad 24) cA 8 gMcensusYear, ar (ad 25) cA 8 gMcensusMany] := hD
    have hw := hw.symm
    subst hw
    refine lv_if_ne (tgt := 24) hx hb dX10_census_18 (by decide) (fun c_4 => ?_) (fun c_4 => ?_)
    · have hm := it_neg c_4 hm
      refine lv_aload_n hx hb dX10_census_24 rfl (lv_at hl 0 rfl) ?_
      refine va_get (D := (dC, dI)) (ci := 10) (v := .int xM_censuses) (C := RX10) (T := TX10) (N := 37) hx hb hts hinX10 hown hK hP 0 rfl rfl 27 (by decide) hl_252 (fun _ h9 => h9) rfl dX10_census_25 ?_
      refine lv_bipush (v := 8) hx hb dX10_census_28 (by decide) ?_
      refine lv_icmp_ne (tgt := 36) hx hb dX10_census_30 (by decide) (fun c_5 => ?_) (fun c_5 => ?_)
      · have hm := it_neg c_5 hm
        refine lv_aload_n hx hb dX10_census_36 rfl (lv_at hl 0 rfl) ?_
        refine va_get (D := (dC, dI)) (ci := 10) (v := .ref (ad 24)) (C := RX10) (T := TX10) (N := 37) hx hb hts hinX10 hown hK hP 0 rfl rfl 28 (by decide) hl_79 (fun _ h9 => h9) rfl dX10_census_37 ?_
        refine lv_aload_n hx hb dX10_census_40 rfl (lv_at hl 0 rfl) ?_
        refine va_get (D := (dC, dI)) (ci := 10) (v := .int xM_censuses) (C := RX10) (T := TX10) (N := 37) hx hb hts hinX10 hown hK hP 0 rfl rfl 27 (by decide) hl_252 (fun _ h9 => h9) rfl dX10_census_41 ?_
        refine lv_iload_n hx hb dX10_census_44 rfl (lv_at hl 1 rfl) ?_
        obtain ⟨i_6, hm⟩ := ck_ok hm
        refine va_iast hx hb hK hP hD hS 1 0 rfl rfl i_6 dX10_census_45 (fun H locs hP hD hS => ?_)
        have hP : va_P (dC, dI) vwCl [oM ad xM_typed xM_people xM_posted xM_hears xM_censuses xM_finding, ar (ad 24) cA 8 (upd gMcensusYear xM_censuses.toNatClampNeg a1), ar (ad 25) cA 8 gMcensusMany] H := hP
        have hD : va_D A [oM ad xM_typed xM_people xM_posted xM_hears xM_censuses xM_finding, ar (ad 24) cA 8 (upd gMcensusYear xM_censuses.toNatClampNeg a1), ar (ad 25) cA 8 gMcensusMany] := hD
        refine lv_aload_n hx hb dX10_census_46 rfl (lv_at hl 0 rfl) ?_
        refine va_get (D := (dC, dI)) (ci := 10) (v := .ref (ad 25)) (C := RX10) (T := TX10) (N := 37) hx hb hts hinX10 hown hK hP 0 rfl rfl 29 (by decide) hl_82 (fun _ h9 => h9) rfl dX10_census_47 ?_
        refine lv_aload_n hx hb dX10_census_50 rfl (lv_at hl 0 rfl) ?_
        refine va_get (D := (dC, dI)) (ci := 10) (v := .int xM_censuses) (C := RX10) (T := TX10) (N := 37) hx hb hts hinX10 hown hK hP 0 rfl rfl 27 (by decide) hl_252 (fun _ h9 => h9) rfl dX10_census_51 ?_
        refine lv_iload_n hx hb dX10_census_54 rfl (lv_at hl 2 rfl) ?_
        obtain ⟨i_7, hm⟩ := ck_ok hm
        refine va_iast hx hb hK hP hD hS 2 0 rfl rfl i_7 dX10_census_55 (fun H locs hP hD hS => ?_)
        have hP : va_P (dC, dI) vwCl [oM ad xM_typed xM_people xM_posted xM_hears xM_censuses xM_finding, ar (ad 24) cA 8 (upd gMcensusYear xM_censuses.toNatClampNeg a1), ar (ad 25) cA 8 (upd gMcensusMany xM_censuses.toNatClampNeg a2)] H := hP
        have hD : va_D A [oM ad xM_typed xM_people xM_posted xM_hears xM_censuses xM_finding, ar (ad 24) cA 8 (upd gMcensusYear xM_censuses.toNatClampNeg a1), ar (ad 25) cA 8 (upd gMcensusMany xM_censuses.toNatClampNeg a2)] := hD
        refine lv_aload_n hx hb dX10_census_56 rfl (lv_at hl 0 rfl) ?_
        refine lv_dup hx hb dX10_census_57 rfl ?_
        refine va_get (D := (dC, dI)) (ci := 10) (v := .int xM_censuses) (C := RX10) (T := TX10) (N := 37) hx hb hts hinX10 hown hK hP 0 rfl rfl 27 (by decide) hl_252 (fun _ h9 => h9) rfl dX10_census_58 ?_
        refine lv_iconst (v := 1) hx hb dX10_census_61 (by decide) ?_
        refine lv_iadd hx hb dX10_census_62 ?_
        refine va_put (D := (dC, dI)) (ci := 10) (v := .int (xM_censuses + 1)) (ty := .int) (C := RX10) (T := TX10) (N := 37) hx hb hts hinX10 tyX10 tyX10_ok nmX10 hown hK hP hD hS 0 rfl rfl 27 (by decide) hl_252 (fun _ h9 => h9) rfl (by decide +kernel) rfl rfl (Nat.le_of_ble_eq_true rfl) dX10_census_63 (fun H locs hP hD hS => ?_)
        have hP : va_P (dC, dI) vwCl [oM ad xM_typed xM_people xM_posted xM_hears (xM_censuses + 1) xM_finding, ar (ad 24) cA 8 (upd gMcensusYear xM_censuses.toNatClampNeg a1), ar (ad 25) cA 8 (upd gMcensusMany xM_censuses.toNatClampNeg a2)] H := hP
        have hD : va_D A [oM ad xM_typed xM_people xM_posted xM_hears (xM_censuses + 1) xM_finding, ar (ad 24) cA 8 (upd gMcensusYear xM_censuses.toNatClampNeg a1), ar (ad 25) cA 8 (upd gMcensusMany xM_censuses.toNatClampNeg a2)] := hD
        refine lv_aload_n hx hb dX10_census_66 rfl (lv_at hl 0 rfl) ?_
        refine va_get (D := (dC, dI)) (ci := 10) (v := .int (xM_censuses + 1)) (C := RX10) (T := TX10) (N := 37) hx hb hts hinX10 hown hK hP 0 rfl rfl 27 (by decide) hl_252 (fun _ h9 => h9) rfl dX10_census_67 ?_
        refine lv_iconst (v := 1) hx hb dX10_census_70 (by decide) ?_
        refine lv_isub hx hb dX10_census_71 ?_
        obtain rfl := Option.some.inj hm
        subst hQ
        exact W.iret (v := ((xM_censuses + 1) - 1)) hx hb hr (fun t ht hW => ⟨⟨_, (), rfl, rfl, by rw [ht]; exact hP, va_K.moved hW.alike hK, hAe ▸ hD⟩, hS.F ht⟩) hS.2.2 dX10_census_72
      · have hm := it_pos c_5 hm
        refine lv_bipush (v := (-4)) hx hb dX10_census_33 (by decide) ?_
        obtain rfl := Option.some.inj hm
        subst hQ
        exact W.iret (v := (-4)) hx hb hr (fun t ht hW => ⟨⟨_, (), rfl, rfl, by rw [ht]; exact hP, va_K.moved hW.alike hK, hAe ▸ hD⟩, hS.F ht⟩) hS.2.2 dX10_census_35
    · have hm := it_pos c_4 hm
      refine lv_bipush (v := (-2)) hx hb dX10_census_21 (by decide) ?_
      obtain rfl := Option.some.inj hm
      subst hQ
      exact W.iret (v := (-2)) hx hb hr (fun t ht hW => ⟨⟨_, (), rfl, rfl, by rw [ht]; exact hP, va_K.moved hW.alike hK, hAe ▸ hD⟩, hS.F ht⟩) hS.2.2 dX10_census_23

set_option maxHeartbeats 4000000 in
set_option maxRecDepth 100000 in
theorem kM_births (l : Launch) (dC : Nat → ClassId) (dI : Nat → Nat → Nat) (cA : ClassId) (cB : ClassId) (ad : Nat → Nat) (sz : Nat) (a1 : Int32) (a2 : Int32) (xM_typed : Int32) (xM_people : Int32) (xM_posted : Int32) (xM_hears : Int32) (xM_censuses : Int32) (xM_finding : Int32) (gMborn : Nat → Int32) (u : Int32 × (Nat → Int32)) (hm : fM_births a1 a2 gMborn = some u) : Met l yX10_births wsX10_births ({ frames := 1, cells := 0, slots := 0, locals := 22 }) (va_Pc [.ref (ad 0), .int a1, .int a2] (fun U => U.heap.size = sz ∧ va_P (dC, dI) vwCl [oM ad xM_typed xM_people xM_posted xM_hears xM_censuses xM_finding, ar (ad 26) cA 100 gMborn] U.heap ∧ va_K (dC, dI) vwCl [(cA, .int), (cB, .boolean)] U ∧ va_D (fun _ => True) [oM ad xM_typed xM_people xM_posted xM_hears xM_censuses xM_finding, ar (ad 26) cA 100 gMborn])) (va_Qi (fun (r : Int32) (_ : Unit) => r = u.1) (fun (_ : Unit) t => va_P (dC, dI) vwCl [oM ad xM_typed xM_people xM_posted xM_hears xM_censuses xM_finding, ar (ad 26) cA 100 u.2] t.heap ∧ va_K (dC, dI) vwCl [(cA, .int), (cB, .boolean)] t ∧ va_D (va_A [oM ad xM_typed xM_people xM_posted xM_hears xM_censuses xM_finding, ar (ad 26) cA 100 gMborn] sz) [oM ad xM_typed xM_people xM_posted xM_hears xM_censuses xM_finding, ar (ad 26) cA 100 u.2]) (va_A [oM ad xM_typed xM_people xM_posted xM_hears xM_censuses xM_finding, ar (ad 26) cA 100 gMborn] sz)) 0 0 (va_A [oM ad xM_typed xM_people xM_posted xM_hears xM_censuses xM_finding, ar (ad 26) cA 100 gMborn] sz) := by
  refine Met.ofW (cc := cX10_births) (maxL := 4) (ret := (some .int)) (by decide) rfl ?_
  intro p e s m args below meth c s₁ B hml hv
  obtain ⟨rfl, hsz, hP, hK, hD0⟩ := hv
  have hx := B.exec
  have hb := B.bytes
  have hr := B.returns
  have hts := atoms_spec (ws := wsX10_births) B.pre
  have hown : s.vm.findClass RX10 = some m.cls := findClass_of_methodNamed B.named
  have hlocks := B.notSynchronized
  subst hsz
  have hD := hD0.self (sz := s.heap.size)
  generalize hAe : va_A [oM ad xM_typed xM_people xM_posted xM_hears xM_censuses xM_finding, ar (ad 26) cA 100 gMborn] s.heap.size = A at hD ⊢
  have hA : ∀ q : Nat, s.heap.size ≤ q → A q := fun q h => by rw [← hAe]; exact Or.inr h
  have hS : va_S A s.heap s.heap [] := va_S.rf
  have hl := lv_entry ([.ref (ad 0), .int a1, .int a2]) (n := 4) (Nat.le_of_ble_eq_true rfl)
  rw [lg_entry_eq]
  generalize (lg_sl ([.ref (ad 0), .int a1, .int a2]) ++ List.replicate (4 - (lg_sl ([.ref (ad 0), .int a1, .int a2])).length) Slot.unset).toArray = ls at hl ⊢
  have hl : lv_has ls 4 [(0, .ref (ad 0)), (1, .int a1), (2, .int a2)] := hl
  refine wk_Q (fun QQ hQ => ?_)
  have hinX10 : ∀ w ∈ wsX100, w ∈ wsX10_births := fun w h => List.mem_cons_of_mem _ (inlX10 w h)
  have hl_85 := hts (.fieldLink RX10 85 "HandCensusModel" "born" "[I") (List.mem_cons_of_mem _ (in_r7 _ (List.mem_of_getElem? (i := 20) rfl)))
  unfold fM_births at hm
  refine lv_iload_n hx hb dX10_births_0 rfl (lv_at hl 1 rfl) ?_
  refine lv_iconst (v := 0) hx hb dX10_births_1 (by decide) ?_
  refine lv_bipush (v := 99) hx hb dX10_births_2 (by decide) ?_
  have hPc := hP.sub (ws' := []) [] rfl
  have hDc := hD.sub (ws' := []) [] (by decide) rfl
  have hFc := va_free (wc := []) hD hS hA [] rfl
  obtain ⟨u_1, hc_1, hm⟩ := bd_ok hm
  refine va_calli (va_runS (As := [.int a1, .int 0, .int 99]) (rest := []) ⟨hx, hb, hml, hown, hts⟩ (kM_in l dC dI cA cB ad s.heap.size a1 0 99 u_1 hc_1) (va_cwS 3 hts gX10_births_X10_in rfl rfl rfl (by decide +kernel) ⟨Nat.le_of_ble_eq_true rfl, Nat.le_of_ble_eq_true rfl⟩) ⟨fun a U g mk q => by obtain ⟨q0, q1, qP, qK, qD⟩ := q; exact ⟨q0, q1, qP, va_K.moved (u := U) (U := U.calling g mk a) (Vm.Alike.refl U.vm) qK, qD⟩, fun U hU hW => ⟨rfl, by rw [hU], by rw [hU]; exact hPc, va_K.moved hW.alike hK, hDc.weaken (fun _ _ _ _ => trivial)⟩⟩ rfl rfl hl.1 rfl (lv_room (Nat.le_of_ble_eq_true rfl)) dX10_births_4 ⟨Nat.le_of_ble_eq_true rfl, Nat.le_of_ble_eq_true rfl⟩) hS (fun q _ h => hFc q h) hFc (fun r_1 _ t H1 locs ht hvm hw hB hz1 hk1 hS => ?_)
  obtain ⟨hP1, hK1, hD1⟩ := hB
  rw [ht] at hP1
  obtain ⟨hP, hD⟩ := va_join (wr := [oM ad xM_typed xM_people xM_posted xM_hears xM_censuses xM_finding, ar (ad 26) cA 100 gMborn]) (w1 := []) hP hD [] [0, 1] rfl rfl (by decide) (by decide) hk1 hFc hP1 hD1
  clear hPc hDc hFc hP1 hK1 hD1 hk1 hz1 hvm ht
  generalize H1 = H at hP hS ⊢
  have hP : va_P (dC, dI) vwCl [oM ad xM_typed xM_people xM_posted xM_hears xM_censuses xM_finding, ar (ad 26) cA 100 gMborn] H := hP
  have hD : va_D A [oM ad xM_typed xM_people xM_posted xM_hears xM_censuses xM_finding, ar (ad 26) cA 100 gMborn] := hD
  have hw := hw.symm
  subst hw
  refine lv_if_eq (tgt := 21) hx hb dX10_births_7 (by decide) (fun c_2 => ?_) (fun c_2 => ?_)
  · have hm := it_pos c_2 hm
    refine lv_bipush (v := (-2)) hx hb dX10_births_21 (by decide) ?_
    obtain rfl := Option.some.inj hm
    subst hQ
    exact W.iret (v := (-2)) hx hb hr (fun t ht hW => ⟨⟨_, (), rfl, rfl, by rw [ht]; exact hP, va_K.moved hW.alike hK, hAe ▸ hD⟩, hS.F ht⟩) hS.2.2 dX10_births_23
  · have hm := it_neg c_2 hm
    refine lv_iload_n hx hb dX10_births_10 rfl (lv_at hl 2 rfl) ?_
    refine lv_iconst (v := 0) hx hb dX10_births_11 (by decide) ?_
    refine lv_sipush (v := 999) hx hb dX10_births_12 (by decide) ?_
    have hPc := hP.sub (ws' := []) [] rfl
    have hDc := hD.sub (ws' := []) [] (by decide) rfl
    have hFc := va_free (wc := []) hD hS hA [] rfl
    obtain ⟨u_3, hc_3, hm⟩ := bd_ok hm
    refine va_calli (va_runS (As := [.int a2, .int 0, .int 999]) (rest := []) ⟨hx, hb, hml, hown, hts⟩ (kM_in l dC dI cA cB ad H.size a2 0 999 u_3 hc_3) (va_cwS 3 hts gX10_births_X10_in rfl rfl rfl (by decide +kernel) ⟨Nat.le_of_ble_eq_true rfl, Nat.le_of_ble_eq_true rfl⟩) ⟨fun a U g mk q => by obtain ⟨q0, q1, qP, qK, qD⟩ := q; exact ⟨q0, q1, qP, va_K.moved (u := U) (U := U.calling g mk a) (Vm.Alike.refl U.vm) qK, qD⟩, fun U hU hW => ⟨rfl, by rw [hU], by rw [hU]; exact hPc, va_K.moved hW.alike hK, hDc.weaken (fun _ _ _ _ => trivial)⟩⟩ rfl rfl hl.1 rfl (lv_room (Nat.le_of_ble_eq_true rfl)) dX10_births_15 ⟨Nat.le_of_ble_eq_true rfl, Nat.le_of_ble_eq_true rfl⟩) hS (fun q _ h => hFc q h) hFc (fun r_3 _ t H1 locs ht hvm hw hB hz1 hk1 hS => ?_)
    obtain ⟨hP1, hK1, hD1⟩ := hB
    rw [ht] at hP1
    obtain ⟨hP, hD⟩ := va_join (wr := [oM ad xM_typed xM_people xM_posted xM_hears xM_censuses xM_finding, ar (ad 26) cA 100 gMborn]) (w1 := []) hP hD [] [0, 1] rfl rfl (by decide) (by decide) hk1 hFc hP1 hD1
    clear hPc hDc hFc hP1 hK1 hD1 hk1 hz1 hvm ht
    generalize H1 = H at hP hS ⊢
    have hP : va_P (dC, dI) vwCl [oM ad xM_typed xM_people xM_posted xM_hears xM_censuses xM_finding, ar (ad 26) cA 100 gMborn] H := hP
    have hD : va_D A [oM ad xM_typed xM_people xM_posted xM_hears xM_censuses xM_finding, ar (ad 26) cA 100 gMborn] := hD
    have hw := hw.symm
    subst hw
    refine lv_if_ne (tgt := 24) hx hb dX10_births_18 (by decide) (fun c_4 => ?_) (fun c_4 => ?_)
    · have hm := it_neg c_4 hm
      refine lv_aload_n hx hb dX10_births_24 rfl (lv_at hl 0 rfl) ?_
      refine va_get (D := (dC, dI)) (ci := 10) (v := .ref (ad 26)) (C := RX10) (T := TX10) (N := 37) hx hb hts hinX10 hown hK hP 0 rfl rfl 30 (by decide) hl_85 (fun _ h9 => h9) rfl dX10_births_25 ?_
      refine lv_iload_n hx hb dX10_births_28 rfl (lv_at hl 1 rfl) ?_
      obtain ⟨i_5, hm⟩ := ck_ok hm
      refine va_iald hx hb hK hP 1 0 rfl rfl i_5 dX10_births_29 ?_
      refine lv_istore_n (lv' := [(3, .int (gMborn a1.toNatClampNeg)), (0, .ref (ad 0)), (1, .int a1), (2, .int a2)]) hx hb dX10_births_30 rfl hl (by decide) rfl (fun ls hl => ?_)
      refine lv_aload_n hx hb dX10_births_31 rfl (lv_at hl 1 rfl) ?_
      refine va_get (D := (dC, dI)) (ci := 10) (v := .ref (ad 26)) (C := RX10) (T := TX10) (N := 37) hx hb hts hinX10 hown hK hP 0 rfl rfl 30 (by decide) hl_85 (fun _ h9 => h9) rfl dX10_births_32 ?_
      refine lv_iload_n hx hb dX10_births_35 rfl (lv_at hl 2 rfl) ?_
      refine lv_iload_n hx hb dX10_births_36 rfl (lv_at hl 3 rfl) ?_
      obtain ⟨i_6, hm⟩ := ck_ok hm
      refine va_iast hx hb hK hP hD hS 1 0 rfl rfl i_6 dX10_births_37 (fun H locs hP hD hS => ?_)
      have hP : va_P (dC, dI) vwCl [oM ad xM_typed xM_people xM_posted xM_hears xM_censuses xM_finding, ar (ad 26) cA 100 (upd gMborn a1.toNatClampNeg a2)] H := hP
      have hD : va_D A [oM ad xM_typed xM_people xM_posted xM_hears xM_censuses xM_finding, ar (ad 26) cA 100 (upd gMborn a1.toNatClampNeg a2)] := hD
      refine lv_iload_n hx hb dX10_births_38 rfl (lv_at hl 0 rfl) ?_
      obtain rfl := Option.some.inj hm
      subst hQ
      exact W.iret (v := (gMborn a1.toNatClampNeg)) hx hb hr (fun t ht hW => ⟨⟨_, (), rfl, rfl, by rw [ht]; exact hP, va_K.moved hW.alike hK, hAe ▸ hD⟩, hS.F ht⟩) hS.2.2 dX10_births_39
    · have hm := it_pos c_4 hm
      refine lv_bipush (v := (-2)) hx hb dX10_births_21 (by decide) ?_
      obtain rfl := Option.some.inj hm
      subst hQ
      exact W.iret (v := (-2)) hx hb hr (fun t ht hW => ⟨⟨_, (), rfl, rfl, by rw [ht]; exact hP, va_K.moved hW.alike hK, hAe ▸ hD⟩, hS.F ht⟩) hS.2.2 dX10_births_23

set_option maxHeartbeats 4000000 in
set_option maxRecDepth 100000 in
theorem kM_isCannot (l : Launch) (dC : Nat → ClassId) (dI : Nat → Nat → Nat) (cA : ClassId) (cB : ClassId) (ad : Nat → Nat) (sz : Nat) (a1 : Int32) (a2 : Int32) (xM_typed : Int32) (xM_people : Int32) (xM_posted : Int32) (xM_hears : Int32) (xM_censuses : Int32) (xM_finding : Int32) (gMcensusYear : Nat → Int32) (gMcensusMany : Nat → Int32) (gMborn : Nat → Int32) (u : Int32) (hm : fM_isCannot a1 a2 gMcensusYear gMcensusMany gMborn = some u) : Met l yX10_isCannot wsX10_isCannot ({ frames := 0, cells := 0, slots := 0, locals := 0 }) (va_Pc [.ref (ad 0), .int a1, .int a2] (fun U => U.heap.size = sz ∧ va_P (dC, dI) vwCl [oM ad xM_typed xM_people xM_posted xM_hears xM_censuses xM_finding, ar (ad 24) cA 8 gMcensusYear, ar (ad 25) cA 8 gMcensusMany, ar (ad 26) cA 100 gMborn] U.heap ∧ va_K (dC, dI) vwCl [(cA, .int), (cB, .boolean)] U ∧ va_D (fun _ => True) [oM ad xM_typed xM_people xM_posted xM_hears xM_censuses xM_finding, ar (ad 24) cA 8 gMcensusYear, ar (ad 25) cA 8 gMcensusMany, ar (ad 26) cA 100 gMborn])) (va_Qi (fun (r : Int32) (_ : Unit) => r = u) (fun (_ : Unit) t => va_P (dC, dI) vwCl [oM ad xM_typed xM_people xM_posted xM_hears xM_censuses xM_finding, ar (ad 24) cA 8 gMcensusYear, ar (ad 25) cA 8 gMcensusMany, ar (ad 26) cA 100 gMborn] t.heap ∧ va_K (dC, dI) vwCl [(cA, .int), (cB, .boolean)] t ∧ va_D (va_A [oM ad xM_typed xM_people xM_posted xM_hears xM_censuses xM_finding, ar (ad 24) cA 8 gMcensusYear, ar (ad 25) cA 8 gMcensusMany, ar (ad 26) cA 100 gMborn] sz) [oM ad xM_typed xM_people xM_posted xM_hears xM_censuses xM_finding, ar (ad 24) cA 8 gMcensusYear, ar (ad 25) cA 8 gMcensusMany, ar (ad 26) cA 100 gMborn]) (va_A [oM ad xM_typed xM_people xM_posted xM_hears xM_censuses xM_finding, ar (ad 24) cA 8 gMcensusYear, ar (ad 25) cA 8 gMcensusMany, ar (ad 26) cA 100 gMborn] sz)) 0 0 (va_A [oM ad xM_typed xM_people xM_posted xM_hears xM_censuses xM_finding, ar (ad 24) cA 8 gMcensusYear, ar (ad 25) cA 8 gMcensusMany, ar (ad 26) cA 100 gMborn] sz) := by
  refine Met.ofW (cc := cX10_isCannot) (maxL := 7) (ret := (some .boolean)) (by decide) rfl ?_
  intro p e s m args below meth c s₁ B hml hv
  obtain ⟨rfl, hsz, hP, hK, hD0⟩ := hv
  have hx := B.exec
  have hb := B.bytes
  have hr := B.returns
  have hts := atoms_spec (ws := wsX10_isCannot) B.pre
  have hown : s.vm.findClass RX10 = some m.cls := findClass_of_methodNamed B.named
  have hlocks := B.notSynchronized
  subst hsz
  have hD := hD0.self (sz := s.heap.size)
  generalize hAe : va_A [oM ad xM_typed xM_people xM_posted xM_hears xM_censuses xM_finding, ar (ad 24) cA 8 gMcensusYear, ar (ad 25) cA 8 gMcensusMany, ar (ad 26) cA 100 gMborn] s.heap.size = A at hD ⊢
  have hA : ∀ q : Nat, s.heap.size ≤ q → A q := fun q h => by rw [← hAe]; exact Or.inr h
  have hS : va_S A s.heap s.heap [] := va_S.rf
  have hl := lv_entry ([.ref (ad 0), .int a1, .int a2]) (n := 7) (Nat.le_of_ble_eq_true rfl)
  rw [lg_entry_eq]
  generalize (lg_sl ([.ref (ad 0), .int a1, .int a2]) ++ List.replicate (7 - (lg_sl ([.ref (ad 0), .int a1, .int a2])).length) Slot.unset).toArray = ls at hl ⊢
  have hl : lv_has ls 7 [(0, .ref (ad 0)), (1, .int a1), (2, .int a2)] := hl
  refine wk_Q (fun QQ hQ => ?_)
  have hinX10 : ∀ w ∈ wsX100, w ∈ wsX10_isCannot := fun w h => List.mem_cons_of_mem _ (inlX10 w h)
  have hl_79 := hts (.fieldLink RX10 79 "HandCensusModel" "censusYear" "[I") (List.mem_cons_of_mem _ (in_r7 _ (List.mem_of_getElem? (i := 18) rfl)))
  have hl_82 := hts (.fieldLink RX10 82 "HandCensusModel" "censusMany" "[I") (List.mem_cons_of_mem _ (in_r7 _ (List.mem_of_getElem? (i := 19) rfl)))
  have hl_85 := hts (.fieldLink RX10 85 "HandCensusModel" "born" "[I") (List.mem_cons_of_mem _ (in_r7 _ (List.mem_of_getElem? (i := 20) rfl)))
  have b_121 : fM_isCannot_121 = some u → ∀ (H : Heap) (locs : List Loc), va_P (dC, dI) vwCl [oM ad xM_typed xM_people xM_posted xM_hears xM_censuses xM_finding, ar (ad 24) cA 8 gMcensusYear, ar (ad 25) cA 8 gMcensusMany, ar (ad 26) cA 100 gMborn] H → va_D A [oM ad xM_typed xM_people xM_posted xM_hears xM_censuses xM_finding, ar (ad 24) cA 8 gMcensusYear, ar (ad 25) cA 8 gMcensusMany, ar (ad 26) cA 100 gMborn] → va_S A s.heap H locs → ∀ ls : Array Slot, lv_has ls 7 [] → W p l e (headSpec wsX10_isCannot ({ frames := 0, cells := 0, slots := 0, locals := 0 })).room s m ([.ref (ad 0), .int a1, .int a2] : List Value).toArray below meth c H locs 0 0 QQ (F0 m 121 ls []) := by
    intro  hm H locs hP hD hS ls hl
    unfold fM_isCannot_121 at hm
    refine lv_iconst (v := 1) hx hb dX10_isCannot_121 (by decide) ?_
    refine lv_goto (tgt := 126) hx hb dX10_isCannot_122 (by decide) ?_
    obtain rfl := Option.some.inj hm
    subst hQ
    exact W.zret (v := 1) hx hb hr rfl (fun t ht hW => ⟨⟨_, (), rfl, rfl, by rw [ht]; exact hP, va_K.moved hW.alike hK, hAe ▸ hD⟩, hS.F ht⟩) hS.2.2 dX10_isCannot_126
  have h_49 : ∀ (v1_49 : Int32) (v2_49 : Int32) (v4_49 : Int32), ∀ (n_49 : Nat), ∀ (v5_49 : Int32) (v6_49 : Int32), fM_isCannot_49 v1_49 v2_49 v4_49 gMcensusYear gMcensusMany gMborn n_49 v5_49 v6_49 = some u → ∀ (H : Heap) (locs : List Loc), va_P (dC, dI) vwCl [oM ad xM_typed xM_people xM_posted xM_hears xM_censuses xM_finding, ar (ad 24) cA 8 gMcensusYear, ar (ad 25) cA 8 gMcensusMany, ar (ad 26) cA 100 gMborn] H → va_D A [oM ad xM_typed xM_people xM_posted xM_hears xM_censuses xM_finding, ar (ad 24) cA 8 gMcensusYear, ar (ad 25) cA 8 gMcensusMany, ar (ad 26) cA 100 gMborn] → va_S A s.heap H locs → ∀ ls : Array Slot, lv_has ls 7 [(0, .ref (ad 0)), (1, .int v1_49), (2, .int v2_49), (4, .int v4_49), (5, .int v5_49), (6, .int v6_49)] → W p l e (headSpec wsX10_isCannot ({ frames := 0, cells := 0, slots := 0, locals := 0 })).room s m ([.ref (ad 0), .int a1, .int a2] : List Value).toArray below meth c H locs 0 0 QQ (F0 m 49 ls []) := by
    intro v1_49 v2_49 v4_49
    intro n_49
    induction n_49 with
    | zero => intro v5_49 v6_49 hm; have hm : (none : Option (Int32)) = some u := hm; cases hm
    | succ n_49 ih_49 =>
      intro v5_49 v6_49 hm H locs hP hD hS ls hl
      have hm : fM_isCannot_49_b  (fM_isCannot_49  v1_49 v2_49 v4_49 gMcensusYear gMcensusMany gMborn n_49) v1_49 v2_49 v4_49 gMcensusYear gMcensusMany gMborn v5_49 v6_49 = some u := hm
      unfold fM_isCannot_49_b at hm
      refine lv_iload hx hb dX10_isCannot_49 (lv_at hl 5 rfl) ?_
      refine lv_aload_n hx hb dX10_isCannot_51 rfl (lv_at hl 0 rfl) ?_
      refine va_get (D := (dC, dI)) (ci := 10) (v := .ref (ad 24)) (C := RX10) (T := TX10) (N := 37) hx hb hts hinX10 hown hK hP 0 rfl rfl 28 (by decide) hl_79 (fun _ h9 => h9) rfl dX10_isCannot_52 ?_
      refine lv_iload hx hb dX10_isCannot_55 (lv_at hl 3 rfl) ?_
      obtain ⟨i_1, hm⟩ := ck_ok hm
      refine va_iald hx hb hK hP 1 0 rfl rfl i_1 dX10_isCannot_57 ?_
      refine lv_icmp_ge (tgt := 79) hx hb dX10_isCannot_58 (by decide) (fun c_2 => ?_) (fun c_2 => ?_)
      · have hm := it_pos c_2 hm
        refine lv_aload_n hx hb dX10_isCannot_79 rfl (lv_at hl 0 rfl) ?_
        refine va_get (D := (dC, dI)) (ci := 10) (v := .ref (ad 25)) (C := RX10) (T := TX10) (N := 37) hx hb hts hinX10 hown hK hP 0 rfl rfl 29 (by decide) hl_82 (fun _ h9 => h9) rfl dX10_isCannot_80 ?_
        refine lv_iload hx hb dX10_isCannot_83 (lv_at hl 3 rfl) ?_
        obtain ⟨i_3, hm⟩ := ck_ok hm
        refine va_iald hx hb hK hP 2 0 rfl rfl i_3 dX10_isCannot_85 ?_
        refine lv_iload hx hb dX10_isCannot_86 (lv_at hl 4 rfl) ?_
        refine lv_icmp_gt (tgt := 121) hx hb dX10_isCannot_88 (by decide) (fun c_4 => ?_) (fun c_4 => ?_)
        · have hm := it_pos c_4 hm
          exact b_121 hm _ _ hP hD hS _ (lv_sub hl [] rfl)
        · have hm := it_neg c_4 hm
          refine lv_aload_n hx hb dX10_isCannot_91 rfl (lv_at hl 0 rfl) ?_
          refine va_get (D := (dC, dI)) (ci := 10) (v := .ref (ad 24)) (C := RX10) (T := TX10) (N := 37) hx hb hts hinX10 hown hK hP 0 rfl rfl 28 (by decide) hl_79 (fun _ h9 => h9) rfl dX10_isCannot_92 ?_
          refine lv_iload_n hx hb dX10_isCannot_95 rfl (lv_at hl 1 rfl) ?_
          obtain ⟨i_5, hm⟩ := ck_ok hm
          refine va_iald hx hb hK hP 1 0 rfl rfl i_5 dX10_isCannot_96 ?_
          refine lv_aload_n hx hb dX10_isCannot_97 rfl (lv_at hl 0 rfl) ?_
          refine va_get (D := (dC, dI)) (ci := 10) (v := .ref (ad 24)) (C := RX10) (T := TX10) (N := 37) hx hb hts hinX10 hown hK hP 0 rfl rfl 28 (by decide) hl_79 (fun _ h9 => h9) rfl dX10_isCannot_98 ?_
          refine lv_iload_n hx hb dX10_isCannot_101 rfl (lv_at hl 2 rfl) ?_
          obtain ⟨i_6, hm⟩ := ck_ok hm
          refine va_iald hx hb hK hP 1 0 rfl rfl i_6 dX10_isCannot_102 ?_
          refine lv_icmp_ne (tgt := 125) hx hb dX10_isCannot_103 (by decide) (fun c_7 => ?_) (fun c_7 => ?_)
          · have hm := it_neg c_7 hm
            refine lv_iconst (v := 0) hx hb dX10_isCannot_125 (by decide) ?_
            obtain rfl := Option.some.inj hm
            subst hQ
            exact W.zret (v := 0) hx hb hr rfl (fun t ht hW => ⟨⟨_, (), rfl, rfl, by rw [ht]; exact hP, va_K.moved hW.alike hK, hAe ▸ hD⟩, hS.F ht⟩) hS.2.2 dX10_isCannot_126
          · have hm := it_pos c_7 hm
            refine lv_aload_n hx hb dX10_isCannot_106 rfl (lv_at hl 0 rfl) ?_
            refine va_get (D := (dC, dI)) (ci := 10) (v := .ref (ad 25)) (C := RX10) (T := TX10) (N := 37) hx hb hts hinX10 hown hK hP 0 rfl rfl 29 (by decide) hl_82 (fun _ h9 => h9) rfl dX10_isCannot_107 ?_
            refine lv_iload_n hx hb dX10_isCannot_110 rfl (lv_at hl 1 rfl) ?_
            obtain ⟨i_8, hm⟩ := ck_ok hm
            refine va_iald hx hb hK hP 2 0 rfl rfl i_8 dX10_isCannot_111 ?_
            refine lv_aload_n hx hb dX10_isCannot_112 rfl (lv_at hl 0 rfl) ?_
            refine va_get (D := (dC, dI)) (ci := 10) (v := .ref (ad 25)) (C := RX10) (T := TX10) (N := 37) hx hb hts hinX10 hown hK hP 0 rfl rfl 29 (by decide) hl_82 (fun _ h9 => h9) rfl dX10_isCannot_113 ?_
            refine lv_iload_n hx hb dX10_isCannot_116 rfl (lv_at hl 2 rfl) ?_
            obtain ⟨i_9, hm⟩ := ck_ok hm
            refine va_iald hx hb hK hP 2 0 rfl rfl i_9 dX10_isCannot_117 ?_
            refine lv_icmp_eq (tgt := 125) hx hb dX10_isCannot_118 (by decide) (fun c_10 => ?_) (fun c_10 => ?_)
            · have hm := it_pos c_10 hm
              refine lv_iconst (v := 0) hx hb dX10_isCannot_125 (by decide) ?_
              obtain rfl := Option.some.inj hm
              subst hQ
              exact W.zret (v := 0) hx hb hr rfl (fun t ht hW => ⟨⟨_, (), rfl, rfl, by rw [ht]; exact hP, va_K.moved hW.alike hK, hAe ▸ hD⟩, hS.F ht⟩) hS.2.2 dX10_isCannot_126
            · have hm := it_neg c_10 hm
              exact b_121 hm _ _ hP hD hS _ (lv_sub hl [] rfl)
      · have hm := it_neg c_2 hm
        refine lv_iload hx hb dX10_isCannot_61 (lv_at hl 4 rfl) ?_
        refine lv_aload_n hx hb dX10_isCannot_63 rfl (lv_at hl 0 rfl) ?_
        refine va_get (D := (dC, dI)) (ci := 10) (v := .ref (ad 26)) (C := RX10) (T := TX10) (N := 37) hx hb hts hinX10 hown hK hP 0 rfl rfl 30 (by decide) hl_85 (fun _ h9 => h9) rfl dX10_isCannot_64 ?_
        refine lv_iload hx hb dX10_isCannot_67 (lv_at hl 5 rfl) ?_
        obtain ⟨i_11, hm⟩ := ck_ok hm
        refine va_iald hx hb hK hP 3 0 rfl rfl i_11 dX10_isCannot_69 ?_
        refine lv_iadd hx hb dX10_isCannot_70 ?_
        refine lv_istore (lv' := [(5, .int (v5_49 + (gMborn v6_49.toNatClampNeg))), (0, .ref (ad 0)), (1, .int v1_49), (2, .int v2_49), (4, .int v4_49), (6, .int v6_49)]) hx hb dX10_isCannot_71 hl (by decide) rfl (fun ls hl => ?_)
        refine lv_iinc (v := (v6_49 + 1)) (lv' := [(6, .int (v6_49 + 1)), (5, .int (v5_49 + (gMborn v6_49.toNatClampNeg))), (0, .ref (ad 0)), (1, .int v1_49), (2, .int v2_49), (4, .int v4_49)]) hx hb dX10_isCannot_73 hl (k := 5) rfl rfl (by decide) rfl (fun ls hl => ?_)
        refine lv_goto (tgt := 49) hx hb dX10_isCannot_76 (by decide) ?_
        exact ih_49 _ _ hm _ _ hP hD hS _ (lv_sub hl [2, 3, 4, 5, 1, 0] rfl)
  have b_31 : ∀ (v1_31 : Int32) (v2_31 : Int32) (v3_31 : Int32) (s0_31 : Int32), fM_isCannot_31 v1_31 v2_31 v3_31 s0_31 gMcensusYear gMcensusMany gMborn = some u → ∀ (H : Heap) (locs : List Loc), va_P (dC, dI) vwCl [oM ad xM_typed xM_people xM_posted xM_hears xM_censuses xM_finding, ar (ad 24) cA 8 gMcensusYear, ar (ad 25) cA 8 gMcensusMany, ar (ad 26) cA 100 gMborn] H → va_D A [oM ad xM_typed xM_people xM_posted xM_hears xM_censuses xM_finding, ar (ad 24) cA 8 gMcensusYear, ar (ad 25) cA 8 gMcensusMany, ar (ad 26) cA 100 gMborn] → va_S A s.heap H locs → ∀ ls : Array Slot, lv_has ls 7 [(0, .ref (ad 0)), (1, .int v1_31), (2, .int v2_31), (3, .int v3_31)] → W p l e (headSpec wsX10_isCannot ({ frames := 0, cells := 0, slots := 0, locals := 0 })).room s m ([.ref (ad 0), .int a1, .int a2] : List Value).toArray below meth c H locs 0 0 QQ (F0 m 31 ls [.int s0_31]) := by
    intro v1_31 v2_31 v3_31 s0_31 hm H locs hP hD hS ls hl
    unfold fM_isCannot_31 at hm
    refine lv_istore (lv' := [(4, .int s0_31), (0, .ref (ad 0)), (1, .int v1_31), (2, .int v2_31), (3, .int v3_31)]) hx hb dX10_isCannot_31 hl (by decide) rfl (fun ls hl => ?_)
    refine lv_aload_n hx hb dX10_isCannot_33 rfl (lv_at hl 1 rfl) ?_
    refine va_get (D := (dC, dI)) (ci := 10) (v := .ref (ad 25)) (C := RX10) (T := TX10) (N := 37) hx hb hts hinX10 hown hK hP 0 rfl rfl 29 (by decide) hl_82 (fun _ h9 => h9) rfl dX10_isCannot_34 ?_
    refine lv_iload_n hx hb dX10_isCannot_37 rfl (lv_at hl 4 rfl) ?_
    obtain ⟨i_12, hm⟩ := ck_ok hm
    refine va_iald hx hb hK hP 2 0 rfl rfl i_12 dX10_isCannot_38 ?_
    refine lv_istore (lv' := [(5, .int (gMcensusMany v3_31.toNatClampNeg)), (4, .int s0_31), (0, .ref (ad 0)), (1, .int v1_31), (2, .int v2_31), (3, .int v3_31)]) hx hb dX10_isCannot_39 hl (by decide) rfl (fun ls hl => ?_)
    refine lv_aload_n hx hb dX10_isCannot_41 rfl (lv_at hl 2 rfl) ?_
    refine va_get (D := (dC, dI)) (ci := 10) (v := .ref (ad 24)) (C := RX10) (T := TX10) (N := 37) hx hb hts hinX10 hown hK hP 0 rfl rfl 28 (by decide) hl_79 (fun _ h9 => h9) rfl dX10_isCannot_42 ?_
    refine lv_iload_n hx hb dX10_isCannot_45 rfl (lv_at hl 5 rfl) ?_
    obtain ⟨i_13, hm⟩ := ck_ok hm
    refine va_iald hx hb hK hP 1 0 rfl rfl i_13 dX10_isCannot_46 ?_
    refine lv_istore (lv' := [(6, .int (gMcensusYear v3_31.toNatClampNeg)), (5, .int (gMcensusMany v3_31.toNatClampNeg)), (4, .int s0_31), (0, .ref (ad 0)), (1, .int v1_31), (2, .int v2_31), (3, .int v3_31)]) hx hb dX10_isCannot_47 hl (by decide) rfl (fun ls hl => ?_)
    exact h_49 _ _ _ _ _ _ hm _ _ hP hD hS _ (lv_sub hl [3, 4, 5, 2, 1, 0] rfl)
  have b_20 : ∀ (v1_20 : Int32) (v2_20 : Int32) (s0_20 : Int32), fM_isCannot_20 v1_20 v2_20 s0_20 gMcensusYear gMcensusMany gMborn = some u → ∀ (H : Heap) (locs : List Loc), va_P (dC, dI) vwCl [oM ad xM_typed xM_people xM_posted xM_hears xM_censuses xM_finding, ar (ad 24) cA 8 gMcensusYear, ar (ad 25) cA 8 gMcensusMany, ar (ad 26) cA 100 gMborn] H → va_D A [oM ad xM_typed xM_people xM_posted xM_hears xM_censuses xM_finding, ar (ad 24) cA 8 gMcensusYear, ar (ad 25) cA 8 gMcensusMany, ar (ad 26) cA 100 gMborn] → va_S A s.heap H locs → ∀ ls : Array Slot, lv_has ls 7 [(0, .ref (ad 0)), (1, .int v1_20), (2, .int v2_20)] → W p l e (headSpec wsX10_isCannot ({ frames := 0, cells := 0, slots := 0, locals := 0 })).room s m ([.ref (ad 0), .int a1, .int a2] : List Value).toArray below meth c H locs 0 0 QQ (F0 m 20 ls [.int s0_20]) := by
    intro v1_20 v2_20 s0_20 hm H locs hP hD hS ls hl
    unfold fM_isCannot_20 at hm
    refine lv_istore_n (lv' := [(3, .int s0_20), (0, .ref (ad 0)), (1, .int v1_20), (2, .int v2_20)]) hx hb dX10_isCannot_20 rfl hl (by decide) rfl (fun ls hl => ?_)
    refine lv_iload_n hx hb dX10_isCannot_21 rfl (lv_at hl 0 rfl) ?_
    refine lv_iload_n hx hb dX10_isCannot_22 rfl (lv_at hl 2 rfl) ?_
    refine lv_icmp_ne (tgt := 30) hx hb dX10_isCannot_23 (by decide) (fun c_14 => ?_) (fun c_14 => ?_)
    · have hm := it_neg c_14 hm
      refine lv_iload_n hx hb dX10_isCannot_30 rfl (lv_at hl 2 rfl) ?_
      exact b_31 _ _ _ _ hm _ _ hP hD hS _ (lv_sub hl [1, 2, 3, 0] rfl)
    · have hm := it_pos c_14 hm
      refine lv_iload_n hx hb dX10_isCannot_26 rfl (lv_at hl 3 rfl) ?_
      refine lv_goto (tgt := 31) hx hb dX10_isCannot_27 (by decide) ?_
      exact b_31 _ _ _ _ hm _ _ hP hD hS _ (lv_sub hl [1, 2, 3, 0] rfl)
  unfold fM_isCannot at hm
  refine lv_aload_n hx hb dX10_isCannot_0 rfl (lv_at hl 0 rfl) ?_
  refine va_get (D := (dC, dI)) (ci := 10) (v := .ref (ad 24)) (C := RX10) (T := TX10) (N := 37) hx hb hts hinX10 hown hK hP 0 rfl rfl 28 (by decide) hl_79 (fun _ h9 => h9) rfl dX10_isCannot_1 ?_
  refine lv_iload_n hx hb dX10_isCannot_4 rfl (lv_at hl 1 rfl) ?_
  obtain ⟨i_15, hm⟩ := ck_ok hm
  refine va_iald hx hb hK hP 1 0 rfl rfl i_15 dX10_isCannot_5 ?_
  refine lv_aload_n hx hb dX10_isCannot_6 rfl (lv_at hl 0 rfl) ?_
  refine va_get (D := (dC, dI)) (ci := 10) (v := .ref (ad 24)) (C := RX10) (T := TX10) (N := 37) hx hb hts hinX10 hown hK hP 0 rfl rfl 28 (by decide) hl_79 (fun _ h9 => h9) rfl dX10_isCannot_7 ?_
  refine lv_iload_n hx hb dX10_isCannot_10 rfl (lv_at hl 2 rfl) ?_
  obtain ⟨i_16, hm⟩ := ck_ok hm
  refine va_iald hx hb hK hP 1 0 rfl rfl i_16 dX10_isCannot_11 ?_
  refine lv_icmp_gt (tgt := 19) hx hb dX10_isCannot_12 (by decide) (fun c_17 => ?_) (fun c_17 => ?_)
  · have hm := it_pos c_17 hm
    refine lv_iload_n hx hb dX10_isCannot_19 rfl (lv_at hl 2 rfl) ?_
    exact b_20 _ _ _ hm _ _ hP hD hS _ (lv_sub hl [0, 1, 2] rfl)
  · have hm := it_neg c_17 hm
    refine lv_iload_n hx hb dX10_isCannot_15 rfl (lv_at hl 1 rfl) ?_
    refine lv_goto (tgt := 20) hx hb dX10_isCannot_16 (by decide) ?_
    exact b_20 _ _ _ hm _ _ hP hD hS _ (lv_sub hl [0, 1, 2] rfl)

set_option maxHeartbeats 4000000 in
set_option maxRecDepth 100000 in
theorem kM_isCensus (l : Launch) (dC : Nat → ClassId) (dI : Nat → Nat → Nat) (cA : ClassId) (cB : ClassId) (ad : Nat → Nat) (sz : Nat) (a1 : Int32) (xM_typed : Int32) (xM_people : Int32) (xM_posted : Int32) (xM_hears : Int32) (xM_censuses : Int32) (xM_finding : Int32) (u : Int32) (hm : fM_isCensus a1 xM_censuses = some u) : Met l yX10_isCensus wsX10_isCensus ({ frames := 1, cells := 0, slots := 0, locals := 22 }) (va_Pc [.ref (ad 0), .int a1] (fun U => U.heap.size = sz ∧ va_P (dC, dI) vwCl [oM ad xM_typed xM_people xM_posted xM_hears xM_censuses xM_finding] U.heap ∧ va_K (dC, dI) vwCl [(cA, .int), (cB, .boolean)] U ∧ va_D (fun _ => True) [oM ad xM_typed xM_people xM_posted xM_hears xM_censuses xM_finding])) (va_Qi (fun (r : Int32) (_ : Unit) => r = u) (fun (_ : Unit) t => va_P (dC, dI) vwCl [oM ad xM_typed xM_people xM_posted xM_hears xM_censuses xM_finding] t.heap ∧ va_K (dC, dI) vwCl [(cA, .int), (cB, .boolean)] t ∧ va_D (va_A [oM ad xM_typed xM_people xM_posted xM_hears xM_censuses xM_finding] sz) [oM ad xM_typed xM_people xM_posted xM_hears xM_censuses xM_finding]) (va_A [oM ad xM_typed xM_people xM_posted xM_hears xM_censuses xM_finding] sz)) 0 0 (va_A [oM ad xM_typed xM_people xM_posted xM_hears xM_censuses xM_finding] sz) := by
  refine Met.ofW (cc := cX10_isCensus) (maxL := 2) (ret := (some .boolean)) (by decide) rfl ?_
  intro p e s m args below meth c s₁ B hml hv
  obtain ⟨rfl, hsz, hP, hK, hD0⟩ := hv
  have hx := B.exec
  have hb := B.bytes
  have hr := B.returns
  have hts := atoms_spec (ws := wsX10_isCensus) B.pre
  have hown : s.vm.findClass RX10 = some m.cls := findClass_of_methodNamed B.named
  have hlocks := B.notSynchronized
  subst hsz
  have hD := hD0.self (sz := s.heap.size)
  generalize hAe : va_A [oM ad xM_typed xM_people xM_posted xM_hears xM_censuses xM_finding] s.heap.size = A at hD ⊢
  have hA : ∀ q : Nat, s.heap.size ≤ q → A q := fun q h => by rw [← hAe]; exact Or.inr h
  have hS : va_S A s.heap s.heap [] := va_S.rf
  have hl := lv_entry ([.ref (ad 0), .int a1]) (n := 2) (Nat.le_of_ble_eq_true rfl)
  rw [lg_entry_eq]
  generalize (lg_sl ([.ref (ad 0), .int a1]) ++ List.replicate (2 - (lg_sl ([.ref (ad 0), .int a1])).length) Slot.unset).toArray = ls at hl ⊢
  have hl : lv_has ls 2 [(0, .ref (ad 0)), (1, .int a1)] := hl
  refine wk_Q (fun QQ hQ => ?_)
  have hinX10 : ∀ w ∈ wsX100, w ∈ wsX10_isCensus := fun w h => List.mem_cons_of_mem _ (inlX10 w h)
  have hl_252 := hts (.fieldLink RX10 252 "HandCensusModel" "censuses" "I") (List.mem_cons_of_mem _ (in_r36 _ (List.mem_of_getElem? (i := 22) rfl)))
  unfold fM_isCensus at hm
  refine lv_iload_n hx hb dX10_isCensus_0 rfl (lv_at hl 1 rfl) ?_
  refine lv_iconst (v := 0) hx hb dX10_isCensus_1 (by decide) ?_
  refine lv_aload_n hx hb dX10_isCensus_2 rfl (lv_at hl 0 rfl) ?_
  refine va_get (D := (dC, dI)) (ci := 10) (v := .int xM_censuses) (C := RX10) (T := TX10) (N := 37) hx hb hts hinX10 hown hK hP 0 rfl rfl 27 (by decide) hl_252 (fun _ h9 => h9) rfl dX10_isCensus_3 ?_
  refine lv_iconst (v := 1) hx hb dX10_isCensus_6 (by decide) ?_
  refine lv_isub hx hb dX10_isCensus_7 ?_
  have hPc := hP.sub (ws' := []) [] rfl
  have hDc := hD.sub (ws' := []) [] (by decide) rfl
  have hFc := va_free (wc := []) hD hS hA [] rfl
  obtain ⟨u_1, hc_1, hm⟩ := bd_ok hm
  refine va_calli (va_runS (As := [.int a1, .int 0, .int (xM_censuses - 1)]) (rest := []) ⟨hx, hb, hml, hown, hts⟩ (kM_in l dC dI cA cB ad s.heap.size a1 0 (xM_censuses - 1) u_1 hc_1) (va_cwS 3 hts gX10_isCensus_X10_in rfl rfl rfl (by decide +kernel) ⟨Nat.le_of_ble_eq_true rfl, Nat.le_of_ble_eq_true rfl⟩) ⟨fun a U g mk q => by obtain ⟨q0, q1, qP, qK, qD⟩ := q; exact ⟨q0, q1, qP, va_K.moved (u := U) (U := U.calling g mk a) (Vm.Alike.refl U.vm) qK, qD⟩, fun U hU hW => ⟨rfl, by rw [hU], by rw [hU]; exact hPc, va_K.moved hW.alike hK, hDc.weaken (fun _ _ _ _ => trivial)⟩⟩ rfl rfl hl.1 rfl (lv_room (Nat.le_of_ble_eq_true rfl)) dX10_isCensus_8 ⟨Nat.le_of_ble_eq_true rfl, Nat.le_of_ble_eq_true rfl⟩) hS (fun q _ h => hFc q h) hFc (fun r_1 _ t H1 locs ht hvm hw hB hz1 hk1 hS => ?_)
  obtain ⟨hP1, hK1, hD1⟩ := hB
  rw [ht] at hP1
  obtain ⟨hP, hD⟩ := va_join (wr := [oM ad xM_typed xM_people xM_posted xM_hears xM_censuses xM_finding]) (w1 := []) hP hD [] [0] rfl rfl (by decide) (by decide) hk1 hFc hP1 hD1
  clear hPc hDc hFc hP1 hK1 hD1 hk1 hz1 hvm ht
  generalize H1 = H at hP hS ⊢
  have hP : va_P (dC, dI) vwCl [oM ad xM_typed xM_people xM_posted xM_hears xM_censuses xM_finding] H := hP
  have hD : va_D A [oM ad xM_typed xM_people xM_posted xM_hears xM_censuses xM_finding] := hD
  have hw := hw.symm
  subst hw
  obtain ⟨z_b, hm⟩ := bz_ok hm
  obtain rfl := Option.some.inj hm
  subst hQ
  exact W.zret (v := u_1) hx hb hr (nar_bz z_b) (fun t ht hW => ⟨⟨_, (), rfl, rfl, by rw [ht]; exact hP, va_K.moved hW.alike hK, hAe ▸ hD⟩, hS.F ht⟩) hS.2.2 dX10_isCensus_11

set_option maxHeartbeats 4000000 in
set_option maxRecDepth 100000 in
theorem kM_cannot (l : Launch) (dC : Nat → ClassId) (dI : Nat → Nat → Nat) (cA : ClassId) (cB : ClassId) (ad : Nat → Nat) (sz : Nat) (a1 : Int32) (a2 : Int32) (xM_typed : Int32) (xM_people : Int32) (xM_posted : Int32) (xM_hears : Int32) (xM_censuses : Int32) (xM_finding : Int32) (gMcensusYear : Nat → Int32) (gMcensusMany : Nat → Int32) (gMborn : Nat → Int32) (u : Int32) (hm : fM_cannot a1 a2 xM_censuses gMcensusYear gMcensusMany gMborn = some u) : Met l yX10_cannot wsX10_cannot ({ frames := 2, cells := 0, slots := 0, locals := 43 }) (va_Pc [.ref (ad 0), .int a1, .int a2] (fun U => U.heap.size = sz ∧ va_P (dC, dI) vwCl [oM ad xM_typed xM_people xM_posted xM_hears xM_censuses xM_finding, ar (ad 24) cA 8 gMcensusYear, ar (ad 25) cA 8 gMcensusMany, ar (ad 26) cA 100 gMborn] U.heap ∧ va_K (dC, dI) vwCl [(cA, .int), (cB, .boolean)] U ∧ va_D (fun _ => True) [oM ad xM_typed xM_people xM_posted xM_hears xM_censuses xM_finding, ar (ad 24) cA 8 gMcensusYear, ar (ad 25) cA 8 gMcensusMany, ar (ad 26) cA 100 gMborn])) (va_Qi (fun (r : Int32) (_ : Unit) => r = u) (fun (_ : Unit) t => va_P (dC, dI) vwCl [oM ad xM_typed xM_people xM_posted xM_hears xM_censuses xM_finding, ar (ad 24) cA 8 gMcensusYear, ar (ad 25) cA 8 gMcensusMany, ar (ad 26) cA 100 gMborn] t.heap ∧ va_K (dC, dI) vwCl [(cA, .int), (cB, .boolean)] t ∧ va_D (va_A [oM ad xM_typed xM_people xM_posted xM_hears xM_censuses xM_finding, ar (ad 24) cA 8 gMcensusYear, ar (ad 25) cA 8 gMcensusMany, ar (ad 26) cA 100 gMborn] sz) [oM ad xM_typed xM_people xM_posted xM_hears xM_censuses xM_finding, ar (ad 24) cA 8 gMcensusYear, ar (ad 25) cA 8 gMcensusMany, ar (ad 26) cA 100 gMborn]) (va_A [oM ad xM_typed xM_people xM_posted xM_hears xM_censuses xM_finding, ar (ad 24) cA 8 gMcensusYear, ar (ad 25) cA 8 gMcensusMany, ar (ad 26) cA 100 gMborn] sz)) 0 0 (va_A [oM ad xM_typed xM_people xM_posted xM_hears xM_censuses xM_finding, ar (ad 24) cA 8 gMcensusYear, ar (ad 25) cA 8 gMcensusMany, ar (ad 26) cA 100 gMborn] sz) := by
  refine Met.ofW (cc := cX10_cannot) (maxL := 3) (ret := (some .int)) (by decide) rfl ?_
  intro p e s m args below meth c s₁ B hml hv
  obtain ⟨rfl, hsz, hP, hK, hD0⟩ := hv
  have hx := B.exec
  have hb := B.bytes
  have hr := B.returns
  have hts := atoms_spec (ws := wsX10_cannot) B.pre
  have hown : s.vm.findClass RX10 = some m.cls := findClass_of_methodNamed B.named
  have hlocks := B.notSynchronized
  subst hsz
  have hD := hD0.self (sz := s.heap.size)
  generalize hAe : va_A [oM ad xM_typed xM_people xM_posted xM_hears xM_censuses xM_finding, ar (ad 24) cA 8 gMcensusYear, ar (ad 25) cA 8 gMcensusMany, ar (ad 26) cA 100 gMborn] s.heap.size = A at hD ⊢
  have hA : ∀ q : Nat, s.heap.size ≤ q → A q := fun q h => by rw [← hAe]; exact Or.inr h
  have hS : va_S A s.heap s.heap [] := va_S.rf
  have hl := lv_entry ([.ref (ad 0), .int a1, .int a2]) (n := 3) (Nat.le_of_ble_eq_true rfl)
  rw [lg_entry_eq]
  generalize (lg_sl ([.ref (ad 0), .int a1, .int a2]) ++ List.replicate (3 - (lg_sl ([.ref (ad 0), .int a1, .int a2])).length) Slot.unset).toArray = ls at hl ⊢
  have hl : lv_has ls 3 [(0, .ref (ad 0)), (1, .int a1), (2, .int a2)] := hl
  refine wk_Q (fun QQ hQ => ?_)
  have b_21 : fM_cannot_21 = some u → ∀ (H : Heap) (locs : List Loc), va_P (dC, dI) vwCl [oM ad xM_typed xM_people xM_posted xM_hears xM_censuses xM_finding, ar (ad 24) cA 8 gMcensusYear, ar (ad 25) cA 8 gMcensusMany, ar (ad 26) cA 100 gMborn] H → va_D A [oM ad xM_typed xM_people xM_posted xM_hears xM_censuses xM_finding, ar (ad 24) cA 8 gMcensusYear, ar (ad 25) cA 8 gMcensusMany, ar (ad 26) cA 100 gMborn] → va_S A s.heap H locs → ∀ ls : Array Slot, lv_has ls 3 [] → W p l e (headSpec wsX10_cannot ({ frames := 2, cells := 0, slots := 0, locals := 43 })).room s m ([.ref (ad 0), .int a1, .int a2] : List Value).toArray below meth c H locs 0 0 QQ (F0 m 21 ls []) := by
    intro  hm H locs hP hD hS ls hl
    unfold fM_cannot_21 at hm
    refine lv_bipush (v := (-2)) hx hb dX10_cannot_21 (by decide) ?_
    refine lv_goto (tgt := 40) hx hb dX10_cannot_23 (by decide) ?_
    obtain rfl := Option.some.inj hm
    subst hQ
    exact W.iret (v := (-2)) hx hb hr (fun t ht hW => ⟨⟨_, (), rfl, rfl, by rw [ht]; exact hP, va_K.moved hW.alike hK, hAe ▸ hD⟩, hS.F ht⟩) hS.2.2 dX10_cannot_40
  unfold fM_cannot at hm
  refine lv_aload_n hx hb dX10_cannot_0 rfl (lv_at hl 0 rfl) ?_
  refine lv_iload_n hx hb dX10_cannot_1 rfl (lv_at hl 1 rfl) ?_
  have hPc := hP.sub (ws' := [oM ad xM_typed xM_people xM_posted xM_hears xM_censuses xM_finding]) [0] rfl
  have hDc := hD.sub (ws' := [oM ad xM_typed xM_people xM_posted xM_hears xM_censuses xM_finding]) [0] (by decide) rfl
  have hFc := va_free (wc := [oM ad xM_typed xM_people xM_posted xM_hears xM_censuses xM_finding]) hD hS hA [0] rfl
  obtain ⟨u_1, hc_1, hm⟩ := bd_ok hm
  refine va_calli (va_runV (As := [.int a1]) (rest := []) ⟨hx, hb, hml, hown, hts⟩ (kM_isCensus l dC dI cA cB ad s.heap.size a1 xM_typed xM_people xM_posted xM_hears xM_censuses xM_finding u_1 hc_1) (cwV 1 hts gX10_cannot_X10_isCensus rfl rfl rfl (by decide +kernel) ⟨Nat.le_of_ble_eq_true rfl, Nat.le_of_ble_eq_true rfl⟩) ⟨fun a U g mk q => by obtain ⟨q0, q1, qP, qK, qD⟩ := q; exact ⟨q0, q1, qP, va_K.moved (u := U) (U := U.calling g mk a) (Vm.Alike.refl U.vm) qK, qD⟩, va_recv hK hPc (ci := 10) (q0 := 0) rfl rfl, fun U hU hW => ⟨rfl, by rw [hU], by rw [hU]; exact hPc, va_K.moved hW.alike hK, hDc.weaken (fun _ _ _ _ => trivial)⟩⟩ rfl rfl hl.1 rfl (lv_room (Nat.le_of_ble_eq_true rfl)) dX10_cannot_2 ⟨Nat.le_of_ble_eq_true rfl, Nat.le_of_ble_eq_true rfl⟩) hS (fun q _ h => hFc q h) hFc (fun r_1 _ t H1 locs ht hvm hw hB hz1 hk1 hS => ?_)
  obtain ⟨hP1, hK1, hD1⟩ := hB
  rw [ht] at hP1
  obtain ⟨hP, hD⟩ := va_join (wr := [ar (ad 24) cA 8 gMcensusYear, ar (ad 25) cA 8 gMcensusMany, ar (ad 26) cA 100 gMborn]) (w1 := [oM ad xM_typed xM_people xM_posted xM_hears xM_censuses xM_finding]) hP hD [0] [1, 2, 3] rfl rfl (by decide) (by decide) hk1 hFc hP1 hD1
  clear hPc hDc hFc hP1 hK1 hD1 hk1 hz1 hvm ht
  generalize H1 = H at hP hS ⊢
  have hP : va_P (dC, dI) vwCl [oM ad xM_typed xM_people xM_posted xM_hears xM_censuses xM_finding, ar (ad 24) cA 8 gMcensusYear, ar (ad 25) cA 8 gMcensusMany, ar (ad 26) cA 100 gMborn] H := hP.sub [3, 0, 1, 2] rfl
  have hD : va_D A [oM ad xM_typed xM_people xM_posted xM_hears xM_censuses xM_finding, ar (ad 24) cA 8 gMcensusYear, ar (ad 25) cA 8 gMcensusMany, ar (ad 26) cA 100 gMborn] := hD.sub [3, 0, 1, 2] (by decide) rfl
  have hw := hw.symm
  subst hw
  refine lv_if_eq (tgt := 21) hx hb dX10_cannot_5 (by decide) (fun c_2 => ?_) (fun c_2 => ?_)
  · have hm := it_pos c_2 hm
    exact b_21 hm _ _ hP hD hS _ (lv_sub hl [] rfl)
  · have hm := it_neg c_2 hm
    refine lv_aload_n hx hb dX10_cannot_8 rfl (lv_at hl 0 rfl) ?_
    refine lv_iload_n hx hb dX10_cannot_9 rfl (lv_at hl 2 rfl) ?_
    have hPc := hP.sub (ws' := [oM ad xM_typed xM_people xM_posted xM_hears xM_censuses xM_finding]) [0] rfl
    have hDc := hD.sub (ws' := [oM ad xM_typed xM_people xM_posted xM_hears xM_censuses xM_finding]) [0] (by decide) rfl
    have hFc := va_free (wc := [oM ad xM_typed xM_people xM_posted xM_hears xM_censuses xM_finding]) hD hS hA [0] rfl
    obtain ⟨u_3, hc_3, hm⟩ := bd_ok hm
    refine va_calli (va_runV (As := [.int a2]) (rest := []) ⟨hx, hb, hml, hown, hts⟩ (kM_isCensus l dC dI cA cB ad H.size a2 xM_typed xM_people xM_posted xM_hears xM_censuses xM_finding u_3 hc_3) (cwV 1 hts gX10_cannot_X10_isCensus rfl rfl rfl (by decide +kernel) ⟨Nat.le_of_ble_eq_true rfl, Nat.le_of_ble_eq_true rfl⟩) ⟨fun a U g mk q => by obtain ⟨q0, q1, qP, qK, qD⟩ := q; exact ⟨q0, q1, qP, va_K.moved (u := U) (U := U.calling g mk a) (Vm.Alike.refl U.vm) qK, qD⟩, va_recv hK hPc (ci := 10) (q0 := 0) rfl rfl, fun U hU hW => ⟨rfl, by rw [hU], by rw [hU]; exact hPc, va_K.moved hW.alike hK, hDc.weaken (fun _ _ _ _ => trivial)⟩⟩ rfl rfl hl.1 rfl (lv_room (Nat.le_of_ble_eq_true rfl)) dX10_cannot_10 ⟨Nat.le_of_ble_eq_true rfl, Nat.le_of_ble_eq_true rfl⟩) hS (fun q _ h => hFc q h) hFc (fun r_3 _ t H1 locs ht hvm hw hB hz1 hk1 hS => ?_)
    obtain ⟨hP1, hK1, hD1⟩ := hB
    rw [ht] at hP1
    obtain ⟨hP, hD⟩ := va_join (wr := [ar (ad 24) cA 8 gMcensusYear, ar (ad 25) cA 8 gMcensusMany, ar (ad 26) cA 100 gMborn]) (w1 := [oM ad xM_typed xM_people xM_posted xM_hears xM_censuses xM_finding]) hP hD [0] [1, 2, 3] rfl rfl (by decide) (by decide) hk1 hFc hP1 hD1
    clear hPc hDc hFc hP1 hK1 hD1 hk1 hz1 hvm ht
    generalize H1 = H at hP hS ⊢
    have hP : va_P (dC, dI) vwCl [oM ad xM_typed xM_people xM_posted xM_hears xM_censuses xM_finding, ar (ad 24) cA 8 gMcensusYear, ar (ad 25) cA 8 gMcensusMany, ar (ad 26) cA 100 gMborn] H := hP.sub [3, 0, 1, 2] rfl
    have hD : va_D A [oM ad xM_typed xM_people xM_posted xM_hears xM_censuses xM_finding, ar (ad 24) cA 8 gMcensusYear, ar (ad 25) cA 8 gMcensusMany, ar (ad 26) cA 100 gMborn] := hD.sub [3, 0, 1, 2] (by decide) rfl
    have hw := hw.symm
    subst hw
    refine lv_if_eq (tgt := 21) hx hb dX10_cannot_13 (by decide) (fun c_4 => ?_) (fun c_4 => ?_)
    · have hm := it_pos c_4 hm
      exact b_21 hm _ _ hP hD hS _ (lv_sub hl [] rfl)
    · have hm := it_neg c_4 hm
      refine lv_iload_n hx hb dX10_cannot_16 rfl (lv_at hl 1 rfl) ?_
      refine lv_iload_n hx hb dX10_cannot_17 rfl (lv_at hl 2 rfl) ?_
      refine lv_icmp_ne (tgt := 26) hx hb dX10_cannot_18 (by decide) (fun c_5 => ?_) (fun c_5 => ?_)
      · have hm := it_neg c_5 hm
        refine lv_aload_n hx hb dX10_cannot_26 rfl (lv_at hl 0 rfl) ?_
        refine lv_iload_n hx hb dX10_cannot_27 rfl (lv_at hl 1 rfl) ?_
        refine lv_iload_n hx hb dX10_cannot_28 rfl (lv_at hl 2 rfl) ?_
        have hPc := hP.sub (ws' := [oM ad xM_typed xM_people xM_posted xM_hears xM_censuses xM_finding, ar (ad 24) cA 8 gMcensusYear, ar (ad 25) cA 8 gMcensusMany, ar (ad 26) cA 100 gMborn]) [0, 1, 2, 3] rfl
        have hDc := hD.sub (ws' := [oM ad xM_typed xM_people xM_posted xM_hears xM_censuses xM_finding, ar (ad 24) cA 8 gMcensusYear, ar (ad 25) cA 8 gMcensusMany, ar (ad 26) cA 100 gMborn]) [0, 1, 2, 3] (by decide) rfl
        have hFc := va_free (wc := [oM ad xM_typed xM_people xM_posted xM_hears xM_censuses xM_finding, ar (ad 24) cA 8 gMcensusYear, ar (ad 25) cA 8 gMcensusMany, ar (ad 26) cA 100 gMborn]) hD hS hA [0, 1, 2, 3] rfl
        obtain ⟨u_6, hc_6, hm⟩ := bd_ok hm
        refine va_calli (va_runV (As := [.int a1, .int a2]) (rest := []) ⟨hx, hb, hml, hown, hts⟩ (kM_isCannot l dC dI cA cB ad H.size a1 a2 xM_typed xM_people xM_posted xM_hears xM_censuses xM_finding gMcensusYear gMcensusMany gMborn u_6 hc_6) (cwV 2 hts gX10_cannot_X10_isCannot rfl rfl rfl (by decide +kernel) ⟨Nat.le_of_ble_eq_true rfl, Nat.le_of_ble_eq_true rfl⟩) ⟨fun a U g mk q => by obtain ⟨q0, q1, qP, qK, qD⟩ := q; exact ⟨q0, q1, qP, va_K.moved (u := U) (U := U.calling g mk a) (Vm.Alike.refl U.vm) qK, qD⟩, va_recv hK hPc (ci := 10) (q0 := 0) rfl rfl, fun U hU hW => ⟨rfl, by rw [hU], by rw [hU]; exact hPc, va_K.moved hW.alike hK, hDc.weaken (fun _ _ _ _ => trivial)⟩⟩ rfl rfl hl.1 rfl (lv_room (Nat.le_of_ble_eq_true rfl)) dX10_cannot_29 ⟨Nat.le_of_ble_eq_true rfl, Nat.le_of_ble_eq_true rfl⟩) hS (fun q _ h => hFc q h) hFc (fun r_6 _ t H1 locs ht hvm hw hB hz1 hk1 hS => ?_)
        obtain ⟨hP1, hK1, hD1⟩ := hB
        rw [ht] at hP1
        obtain ⟨hP, hD⟩ := va_join (wr := []) (w1 := [oM ad xM_typed xM_people xM_posted xM_hears xM_censuses xM_finding, ar (ad 24) cA 8 gMcensusYear, ar (ad 25) cA 8 gMcensusMany, ar (ad 26) cA 100 gMborn]) hP hD [0, 1, 2, 3] [] rfl rfl (by decide) (by decide) hk1 hFc hP1 hD1
        clear hPc hDc hFc hP1 hK1 hD1 hk1 hz1 hvm ht
        generalize H1 = H at hP hS ⊢
        have hP : va_P (dC, dI) vwCl [oM ad xM_typed xM_people xM_posted xM_hears xM_censuses xM_finding, ar (ad 24) cA 8 gMcensusYear, ar (ad 25) cA 8 gMcensusMany, ar (ad 26) cA 100 gMborn] H := hP
        have hD : va_D A [oM ad xM_typed xM_people xM_posted xM_hears xM_censuses xM_finding, ar (ad 24) cA 8 gMcensusYear, ar (ad 25) cA 8 gMcensusMany, ar (ad 26) cA 100 gMborn] := hD
        have hw := hw.symm
        subst hw
        refine lv_if_eq (tgt := 39) hx hb dX10_cannot_32 (by decide) (fun c_7 => ?_) (fun c_7 => ?_)
        · have hm := it_pos c_7 hm
          refine lv_iconst (v := 0) hx hb dX10_cannot_39 (by decide) ?_
          obtain rfl := Option.some.inj hm
          subst hQ
          exact W.iret (v := 0) hx hb hr (fun t ht hW => ⟨⟨_, (), rfl, rfl, by rw [ht]; exact hP, va_K.moved hW.alike hK, hAe ▸ hD⟩, hS.F ht⟩) hS.2.2 dX10_cannot_40
        · have hm := it_neg c_7 hm
          refine lv_iconst (v := 1) hx hb dX10_cannot_35 (by decide) ?_
          refine lv_goto (tgt := 40) hx hb dX10_cannot_36 (by decide) ?_
          obtain rfl := Option.some.inj hm
          subst hQ
          exact W.iret (v := 1) hx hb hr (fun t ht hW => ⟨⟨_, (), rfl, rfl, by rw [ht]; exact hP, va_K.moved hW.alike hK, hAe ▸ hD⟩, hS.F ht⟩) hS.2.2 dX10_cannot_40
      · have hm := it_pos c_5 hm
        exact b_21 hm _ _ hP hD hS _ (lv_sub hl [] rfl)

set_option maxHeartbeats 4000000 in
set_option maxRecDepth 100000 in
theorem kM_pairsBy (l : Launch) (dC : Nat → ClassId) (dI : Nat → Nat → Nat) (cA : ClassId) (cB : ClassId) (ad : Nat → Nat) (sz : Nat) (a1 : Int32) (xM_typed : Int32) (xM_people : Int32) (xM_posted : Int32) (xM_hears : Int32) (xM_censuses : Int32) (xM_finding : Int32) (gMcensusYear : Nat → Int32) (gMcensusMany : Nat → Int32) (gMborn : Nat → Int32) (u : Int32) (hm : fM_pairsBy a1 xM_censuses gMcensusYear gMcensusMany gMborn = some u) : Met l yX10_pairsBy wsX10_pairsBy ({ frames := 1, cells := 0, slots := 0, locals := 26 }) (va_Pc [.ref (ad 0), .int a1] (fun U => U.heap.size = sz ∧ va_P (dC, dI) vwCl [oM ad xM_typed xM_people xM_posted xM_hears xM_censuses xM_finding, ar (ad 24) cA 8 gMcensusYear, ar (ad 25) cA 8 gMcensusMany, ar (ad 26) cA 100 gMborn] U.heap ∧ va_K (dC, dI) vwCl [(cA, .int), (cB, .boolean)] U ∧ va_D (fun _ => True) [oM ad xM_typed xM_people xM_posted xM_hears xM_censuses xM_finding, ar (ad 24) cA 8 gMcensusYear, ar (ad 25) cA 8 gMcensusMany, ar (ad 26) cA 100 gMborn])) (va_Qi (fun (r : Int32) (_ : Unit) => r = u) (fun (_ : Unit) t => va_P (dC, dI) vwCl [oM ad xM_typed xM_people xM_posted xM_hears xM_censuses xM_finding, ar (ad 24) cA 8 gMcensusYear, ar (ad 25) cA 8 gMcensusMany, ar (ad 26) cA 100 gMborn] t.heap ∧ va_K (dC, dI) vwCl [(cA, .int), (cB, .boolean)] t ∧ va_D (va_A [oM ad xM_typed xM_people xM_posted xM_hears xM_censuses xM_finding, ar (ad 24) cA 8 gMcensusYear, ar (ad 25) cA 8 gMcensusMany, ar (ad 26) cA 100 gMborn] sz) [oM ad xM_typed xM_people xM_posted xM_hears xM_censuses xM_finding, ar (ad 24) cA 8 gMcensusYear, ar (ad 25) cA 8 gMcensusMany, ar (ad 26) cA 100 gMborn]) (va_A [oM ad xM_typed xM_people xM_posted xM_hears xM_censuses xM_finding, ar (ad 24) cA 8 gMcensusYear, ar (ad 25) cA 8 gMcensusMany, ar (ad 26) cA 100 gMborn] sz)) 0 0 (va_A [oM ad xM_typed xM_people xM_posted xM_hears xM_censuses xM_finding, ar (ad 24) cA 8 gMcensusYear, ar (ad 25) cA 8 gMcensusMany, ar (ad 26) cA 100 gMborn] sz) := by
  refine Met.ofW (cc := cX10_pairsBy) (maxL := 5) (ret := (some .int)) (by decide) rfl ?_
  intro p e s m args below meth c s₁ B hml hv
  obtain ⟨rfl, hsz, hP, hK, hD0⟩ := hv
  have hx := B.exec
  have hb := B.bytes
  have hr := B.returns
  have hts := atoms_spec (ws := wsX10_pairsBy) B.pre
  have hown : s.vm.findClass RX10 = some m.cls := findClass_of_methodNamed B.named
  have hlocks := B.notSynchronized
  subst hsz
  have hD := hD0.self (sz := s.heap.size)
  generalize hAe : va_A [oM ad xM_typed xM_people xM_posted xM_hears xM_censuses xM_finding, ar (ad 24) cA 8 gMcensusYear, ar (ad 25) cA 8 gMcensusMany, ar (ad 26) cA 100 gMborn] s.heap.size = A at hD ⊢
  have hA : ∀ q : Nat, s.heap.size ≤ q → A q := fun q h => by rw [← hAe]; exact Or.inr h
  have hS : va_S A s.heap s.heap [] := va_S.rf
  have hl := lv_entry ([.ref (ad 0), .int a1]) (n := 5) (Nat.le_of_ble_eq_true rfl)
  rw [lg_entry_eq]
  generalize (lg_sl ([.ref (ad 0), .int a1]) ++ List.replicate (5 - (lg_sl ([.ref (ad 0), .int a1])).length) Slot.unset).toArray = ls at hl ⊢
  have hl : lv_has ls 5 [(0, .ref (ad 0)), (1, .int a1)] := hl
  refine wk_Q (fun QQ hQ => ?_)
  have hinX10 : ∀ w ∈ wsX100, w ∈ wsX10_pairsBy := fun w h => List.mem_cons_of_mem _ (inlX10 w h)
  have hl_252 := hts (.fieldLink RX10 252 "HandCensusModel" "censuses" "I") (List.mem_cons_of_mem _ (in_r36 _ (List.mem_of_getElem? (i := 22) rfl)))
  have h_4 : ∀ (v1_4 : Int32), ∀ (n_4 : Nat), ∀ (v2_4 : Int32) (v3_4 : Int32), fM_pairsBy_4 v1_4 xM_censuses gMcensusYear gMcensusMany gMborn n_4 v2_4 v3_4 = some u → ∀ (H : Heap) (locs : List Loc), va_P (dC, dI) vwCl [oM ad xM_typed xM_people xM_posted xM_hears xM_censuses xM_finding, ar (ad 24) cA 8 gMcensusYear, ar (ad 25) cA 8 gMcensusMany, ar (ad 26) cA 100 gMborn] H → va_D A [oM ad xM_typed xM_people xM_posted xM_hears xM_censuses xM_finding, ar (ad 24) cA 8 gMcensusYear, ar (ad 25) cA 8 gMcensusMany, ar (ad 26) cA 100 gMborn] → va_S A s.heap H locs → ∀ ls : Array Slot, lv_has ls 5 [(0, .ref (ad 0)), (1, .int v1_4), (2, .int v2_4), (3, .int v3_4)] → W p l e (headSpec wsX10_pairsBy ({ frames := 1, cells := 0, slots := 0, locals := 26 })).room s m ([.ref (ad 0), .int a1] : List Value).toArray below meth c H locs 0 0 QQ (F0 m 4 ls []) := by
    intro v1_4
    intro n_4
    induction n_4 with
    | zero => intro v2_4 v3_4 hm; have hm : (none : Option (Int32)) = some u := hm; cases hm
    | succ n_4 ih_4 =>
      have h_15 : ∀ (v3_15 : Int32), ∀ (n_15 : Nat), ∀ (v2_15 : Int32) (v4_15 : Int32), fM_pairsBy_15 (fM_pairsBy_4  v1_4 xM_censuses gMcensusYear gMcensusMany gMborn n_4) v1_4 v3_15 xM_censuses gMcensusYear gMcensusMany gMborn n_15 v2_15 v4_15 = some u → ∀ (H : Heap) (locs : List Loc), va_P (dC, dI) vwCl [oM ad xM_typed xM_people xM_posted xM_hears xM_censuses xM_finding, ar (ad 24) cA 8 gMcensusYear, ar (ad 25) cA 8 gMcensusMany, ar (ad 26) cA 100 gMborn] H → va_D A [oM ad xM_typed xM_people xM_posted xM_hears xM_censuses xM_finding, ar (ad 24) cA 8 gMcensusYear, ar (ad 25) cA 8 gMcensusMany, ar (ad 26) cA 100 gMborn] → va_S A s.heap H locs → ∀ ls : Array Slot, lv_has ls 5 [(0, .ref (ad 0)), (1, .int v1_4), (2, .int v2_15), (3, .int v3_15), (4, .int v4_15)] → W p l e (headSpec wsX10_pairsBy ({ frames := 1, cells := 0, slots := 0, locals := 26 })).room s m ([.ref (ad 0), .int a1] : List Value).toArray below meth c H locs 0 0 QQ (F0 m 15 ls []) := by
        intro v3_15
        intro n_15
        induction n_15 with
        | zero => intro v2_15 v4_15 hm; have hm : (none : Option (Int32)) = some u := hm; cases hm
        | succ n_15 ih_15 =>
          have b_54 : ∀ (v4_54 : Int32) (s0_54 : Int32) (s1_54 : Int32), fM_pairsBy_54 (fM_pairsBy_4  v1_4 xM_censuses gMcensusYear gMcensusMany gMborn n_4) (fM_pairsBy_15 (fM_pairsBy_4  v1_4 xM_censuses gMcensusYear gMcensusMany gMborn n_4) v1_4 v3_15 xM_censuses gMcensusYear gMcensusMany gMborn n_15) v1_4 v3_15 v4_54 s0_54 s1_54 xM_censuses gMcensusYear gMcensusMany gMborn = some u → ∀ (H : Heap) (locs : List Loc), va_P (dC, dI) vwCl [oM ad xM_typed xM_people xM_posted xM_hears xM_censuses xM_finding, ar (ad 24) cA 8 gMcensusYear, ar (ad 25) cA 8 gMcensusMany, ar (ad 26) cA 100 gMborn] H → va_D A [oM ad xM_typed xM_people xM_posted xM_hears xM_censuses xM_finding, ar (ad 24) cA 8 gMcensusYear, ar (ad 25) cA 8 gMcensusMany, ar (ad 26) cA 100 gMborn] → va_S A s.heap H locs → ∀ ls : Array Slot, lv_has ls 5 [(0, .ref (ad 0)), (1, .int v1_4), (3, .int v3_15), (4, .int v4_54)] → W p l e (headSpec wsX10_pairsBy ({ frames := 1, cells := 0, slots := 0, locals := 26 })).room s m ([.ref (ad 0), .int a1] : List Value).toArray below meth c H locs 0 0 QQ (F0 m 54 ls [.int s1_54, .int s0_54]) := by
            intro v4_54 s0_54 s1_54 hm H locs hP hD hS ls hl
            unfold fM_pairsBy_54 at hm
            refine lv_iadd hx hb dX10_pairsBy_54 ?_
            refine lv_istore_n (lv' := [(2, .int (s0_54 + s1_54)), (0, .ref (ad 0)), (1, .int v1_4), (3, .int v3_15), (4, .int v4_54)]) hx hb dX10_pairsBy_55 rfl hl (by decide) rfl (fun ls hl => ?_)
            refine lv_iinc (v := (v4_54 + 1)) (lv' := [(4, .int (v4_54 + 1)), (2, .int (s0_54 + s1_54)), (0, .ref (ad 0)), (1, .int v1_4), (3, .int v3_15)]) hx hb dX10_pairsBy_56 hl (k := 4) rfl rfl (by decide) rfl (fun ls hl => ?_)
            refine lv_goto (tgt := 15) hx hb dX10_pairsBy_59 (by decide) ?_
            exact ih_15 _ _ hm _ _ hP hD hS _ (lv_sub hl [2, 3, 1, 4, 0] rfl)
          have b_53 : ∀ (v4_53 : Int32) (s0_53 : Int32), fM_pairsBy_53 (fM_pairsBy_4  v1_4 xM_censuses gMcensusYear gMcensusMany gMborn n_4) (fM_pairsBy_15 (fM_pairsBy_4  v1_4 xM_censuses gMcensusYear gMcensusMany gMborn n_4) v1_4 v3_15 xM_censuses gMcensusYear gMcensusMany gMborn n_15) v1_4 v3_15 v4_53 s0_53 xM_censuses gMcensusYear gMcensusMany gMborn = some u → ∀ (H : Heap) (locs : List Loc), va_P (dC, dI) vwCl [oM ad xM_typed xM_people xM_posted xM_hears xM_censuses xM_finding, ar (ad 24) cA 8 gMcensusYear, ar (ad 25) cA 8 gMcensusMany, ar (ad 26) cA 100 gMborn] H → va_D A [oM ad xM_typed xM_people xM_posted xM_hears xM_censuses xM_finding, ar (ad 24) cA 8 gMcensusYear, ar (ad 25) cA 8 gMcensusMany, ar (ad 26) cA 100 gMborn] → va_S A s.heap H locs → ∀ ls : Array Slot, lv_has ls 5 [(0, .ref (ad 0)), (1, .int v1_4), (3, .int v3_15), (4, .int v4_53)] → W p l e (headSpec wsX10_pairsBy ({ frames := 1, cells := 0, slots := 0, locals := 26 })).room s m ([.ref (ad 0), .int a1] : List Value).toArray below meth c H locs 0 0 QQ (F0 m 53 ls [.int s0_53]) := by
            intro v4_53 s0_53 hm H locs hP hD hS ls hl
            unfold fM_pairsBy_53 at hm
            refine lv_iconst (v := 0) hx hb dX10_pairsBy_53 (by decide) ?_
            exact b_54 _ _ _ hm _ _ hP hD hS _ (lv_sub hl [0, 1, 2, 3] rfl)
          intro v2_15 v4_15 hm H locs hP hD hS ls hl
          have hm : fM_pairsBy_15_b (fM_pairsBy_4  v1_4 xM_censuses gMcensusYear gMcensusMany gMborn n_4) (fM_pairsBy_15 (fM_pairsBy_4  v1_4 xM_censuses gMcensusYear gMcensusMany gMborn n_4) v1_4 v3_15 xM_censuses gMcensusYear gMcensusMany gMborn n_15) v1_4 v3_15 xM_censuses gMcensusYear gMcensusMany gMborn v2_15 v4_15 = some u := hm
          unfold fM_pairsBy_15_b at hm
          refine lv_iload hx hb dX10_pairsBy_15 (lv_at hl 4 rfl) ?_
          refine lv_iload_n hx hb dX10_pairsBy_17 rfl (lv_at hl 3 rfl) ?_
          refine lv_icmp_ge (tgt := 62) hx hb dX10_pairsBy_18 (by decide) (fun c_1 => ?_) (fun c_1 => ?_)
          · have hm := it_pos c_1 hm
            refine lv_iinc (v := (v3_15 + 1)) (lv' := [(3, .int (v3_15 + 1)), (0, .ref (ad 0)), (1, .int v1_4), (2, .int v2_15), (4, .int v4_15)]) hx hb dX10_pairsBy_62 hl (k := 3) rfl rfl (by decide) rfl (fun ls hl => ?_)
            refine lv_goto (tgt := 4) hx hb dX10_pairsBy_65 (by decide) ?_
            exact ih_4 _ _ hm _ _ hP hD hS _ (lv_sub hl [1, 2, 3, 0] rfl)
          · have hm := it_neg c_1 hm
            refine lv_iload_n hx hb dX10_pairsBy_21 rfl (lv_at hl 2 rfl) ?_
            refine lv_iload_n hx hb dX10_pairsBy_22 rfl (lv_at hl 1 rfl) ?_
            refine lv_iload_n hx hb dX10_pairsBy_23 rfl (lv_at hl 3 rfl) ?_
            have hPc := hP.sub (ws' := []) [] rfl
            have hDc := hD.sub (ws' := []) [] (by decide) rfl
            have hFc := va_free (wc := []) hD hS hA [] rfl
            obtain ⟨u_2, hc_2, hm⟩ := bd_ok hm
            refine va_calli (va_runS (As := [.int v1_4, .int v3_15]) (rest := [.int v2_15]) ⟨hx, hb, hml, hown, hts⟩ (kM_isIn l dC dI cA cB ad H.size v1_4 v3_15 u_2 hc_2) (va_cwS 2 hts gX10_pairsBy_X10_isIn rfl rfl rfl (by decide +kernel) ⟨Nat.le_of_ble_eq_true rfl, Nat.le_of_ble_eq_true rfl⟩) ⟨fun a U g mk q => by obtain ⟨q0, q1, qP, qK, qD⟩ := q; exact ⟨q0, q1, qP, va_K.moved (u := U) (U := U.calling g mk a) (Vm.Alike.refl U.vm) qK, qD⟩, fun U hU hW => ⟨rfl, by rw [hU], by rw [hU]; exact hPc, va_K.moved hW.alike hK, hDc.weaken (fun _ _ _ _ => trivial)⟩⟩ rfl rfl hl.1 rfl (lv_room (Nat.le_of_ble_eq_true rfl)) dX10_pairsBy_24 ⟨Nat.le_of_ble_eq_true rfl, Nat.le_of_ble_eq_true rfl⟩) hS (fun q _ h => hFc q h) hFc (fun r_2 _ t H1 locs ht hvm hw hB hz1 hk1 hS => ?_)
            obtain ⟨hP1, hK1, hD1⟩ := hB
            rw [ht] at hP1
            obtain ⟨hP, hD⟩ := va_join (wr := [oM ad xM_typed xM_people xM_posted xM_hears xM_censuses xM_finding, ar (ad 24) cA 8 gMcensusYear, ar (ad 25) cA 8 gMcensusMany, ar (ad 26) cA 100 gMborn]) (w1 := []) hP hD [] [0, 1, 2, 3] rfl rfl (by decide) (by decide) hk1 hFc hP1 hD1
            clear hPc hDc hFc hP1 hK1 hD1 hk1 hz1 hvm ht
            generalize H1 = H at hP hS ⊢
            have hP : va_P (dC, dI) vwCl [oM ad xM_typed xM_people xM_posted xM_hears xM_censuses xM_finding, ar (ad 24) cA 8 gMcensusYear, ar (ad 25) cA 8 gMcensusMany, ar (ad 26) cA 100 gMborn] H := hP
            have hD : va_D A [oM ad xM_typed xM_people xM_posted xM_hears xM_censuses xM_finding, ar (ad 24) cA 8 gMcensusYear, ar (ad 25) cA 8 gMcensusMany, ar (ad 26) cA 100 gMborn] := hD
            have hw := hw.symm
            subst hw
            refine lv_if_ne (tgt := 53) hx hb dX10_pairsBy_27 (by decide) (fun c_3 => ?_) (fun c_3 => ?_)
            · have hm := it_neg c_3 hm
              exact b_53 _ _ hm _ _ hP hD hS _ (lv_sub hl [0, 1, 3, 4] rfl)
            · have hm := it_pos c_3 hm
              refine lv_iload_n hx hb dX10_pairsBy_30 rfl (lv_at hl 1 rfl) ?_
              refine lv_iload hx hb dX10_pairsBy_31 (lv_at hl 4 rfl) ?_
              have hPc := hP.sub (ws' := []) [] rfl
              have hDc := hD.sub (ws' := []) [] (by decide) rfl
              have hFc := va_free (wc := []) hD hS hA [] rfl
              obtain ⟨u_4, hc_4, hm⟩ := bd_ok hm
              refine va_calli (va_runS (As := [.int v1_4, .int v4_15]) (rest := [.int v2_15]) ⟨hx, hb, hml, hown, hts⟩ (kM_isIn l dC dI cA cB ad H.size v1_4 v4_15 u_4 hc_4) (va_cwS 2 hts gX10_pairsBy_X10_isIn rfl rfl rfl (by decide +kernel) ⟨Nat.le_of_ble_eq_true rfl, Nat.le_of_ble_eq_true rfl⟩) ⟨fun a U g mk q => by obtain ⟨q0, q1, qP, qK, qD⟩ := q; exact ⟨q0, q1, qP, va_K.moved (u := U) (U := U.calling g mk a) (Vm.Alike.refl U.vm) qK, qD⟩, fun U hU hW => ⟨rfl, by rw [hU], by rw [hU]; exact hPc, va_K.moved hW.alike hK, hDc.weaken (fun _ _ _ _ => trivial)⟩⟩ rfl rfl hl.1 rfl (lv_room (Nat.le_of_ble_eq_true rfl)) dX10_pairsBy_33 ⟨Nat.le_of_ble_eq_true rfl, Nat.le_of_ble_eq_true rfl⟩) hS (fun q _ h => hFc q h) hFc (fun r_4 _ t H1 locs ht hvm hw hB hz1 hk1 hS => ?_)
              obtain ⟨hP1, hK1, hD1⟩ := hB
              rw [ht] at hP1
              obtain ⟨hP, hD⟩ := va_join (wr := [oM ad xM_typed xM_people xM_posted xM_hears xM_censuses xM_finding, ar (ad 24) cA 8 gMcensusYear, ar (ad 25) cA 8 gMcensusMany, ar (ad 26) cA 100 gMborn]) (w1 := []) hP hD [] [0, 1, 2, 3] rfl rfl (by decide) (by decide) hk1 hFc hP1 hD1
              clear hPc hDc hFc hP1 hK1 hD1 hk1 hz1 hvm ht
              generalize H1 = H at hP hS ⊢
              have hP : va_P (dC, dI) vwCl [oM ad xM_typed xM_people xM_posted xM_hears xM_censuses xM_finding, ar (ad 24) cA 8 gMcensusYear, ar (ad 25) cA 8 gMcensusMany, ar (ad 26) cA 100 gMborn] H := hP
              have hD : va_D A [oM ad xM_typed xM_people xM_posted xM_hears xM_censuses xM_finding, ar (ad 24) cA 8 gMcensusYear, ar (ad 25) cA 8 gMcensusMany, ar (ad 26) cA 100 gMborn] := hD
              have hw := hw.symm
              subst hw
              refine lv_if_ne (tgt := 53) hx hb dX10_pairsBy_36 (by decide) (fun c_5 => ?_) (fun c_5 => ?_)
              · have hm := it_neg c_5 hm
                exact b_53 _ _ hm _ _ hP hD hS _ (lv_sub hl [0, 1, 3, 4] rfl)
              · have hm := it_pos c_5 hm
                refine lv_aload_n hx hb dX10_pairsBy_39 rfl (lv_at hl 0 rfl) ?_
                refine lv_iload_n hx hb dX10_pairsBy_40 rfl (lv_at hl 3 rfl) ?_
                refine lv_iload hx hb dX10_pairsBy_41 (lv_at hl 4 rfl) ?_
                have hPc := hP.sub (ws' := [oM ad xM_typed xM_people xM_posted xM_hears xM_censuses xM_finding, ar (ad 24) cA 8 gMcensusYear, ar (ad 25) cA 8 gMcensusMany, ar (ad 26) cA 100 gMborn]) [0, 1, 2, 3] rfl
                have hDc := hD.sub (ws' := [oM ad xM_typed xM_people xM_posted xM_hears xM_censuses xM_finding, ar (ad 24) cA 8 gMcensusYear, ar (ad 25) cA 8 gMcensusMany, ar (ad 26) cA 100 gMborn]) [0, 1, 2, 3] (by decide) rfl
                have hFc := va_free (wc := [oM ad xM_typed xM_people xM_posted xM_hears xM_censuses xM_finding, ar (ad 24) cA 8 gMcensusYear, ar (ad 25) cA 8 gMcensusMany, ar (ad 26) cA 100 gMborn]) hD hS hA [0, 1, 2, 3] rfl
                obtain ⟨u_6, hc_6, hm⟩ := bd_ok hm
                refine va_calli (va_runV (As := [.int v3_15, .int v4_15]) (rest := [.int v2_15]) ⟨hx, hb, hml, hown, hts⟩ (kM_isCannot l dC dI cA cB ad H.size v3_15 v4_15 xM_typed xM_people xM_posted xM_hears xM_censuses xM_finding gMcensusYear gMcensusMany gMborn u_6 hc_6) (cwV 2 hts gX10_pairsBy_X10_isCannot rfl rfl rfl (by decide +kernel) ⟨Nat.le_of_ble_eq_true rfl, Nat.le_of_ble_eq_true rfl⟩) ⟨fun a U g mk q => by obtain ⟨q0, q1, qP, qK, qD⟩ := q; exact ⟨q0, q1, qP, va_K.moved (u := U) (U := U.calling g mk a) (Vm.Alike.refl U.vm) qK, qD⟩, va_recv hK hPc (ci := 10) (q0 := 0) rfl rfl, fun U hU hW => ⟨rfl, by rw [hU], by rw [hU]; exact hPc, va_K.moved hW.alike hK, hDc.weaken (fun _ _ _ _ => trivial)⟩⟩ rfl rfl hl.1 rfl (lv_room (Nat.le_of_ble_eq_true rfl)) dX10_pairsBy_43 ⟨Nat.le_of_ble_eq_true rfl, Nat.le_of_ble_eq_true rfl⟩) hS (fun q _ h => hFc q h) hFc (fun r_6 _ t H1 locs ht hvm hw hB hz1 hk1 hS => ?_)
                obtain ⟨hP1, hK1, hD1⟩ := hB
                rw [ht] at hP1
                obtain ⟨hP, hD⟩ := va_join (wr := []) (w1 := [oM ad xM_typed xM_people xM_posted xM_hears xM_censuses xM_finding, ar (ad 24) cA 8 gMcensusYear, ar (ad 25) cA 8 gMcensusMany, ar (ad 26) cA 100 gMborn]) hP hD [0, 1, 2, 3] [] rfl rfl (by decide) (by decide) hk1 hFc hP1 hD1
                clear hPc hDc hFc hP1 hK1 hD1 hk1 hz1 hvm ht
                generalize H1 = H at hP hS ⊢
                have hP : va_P (dC, dI) vwCl [oM ad xM_typed xM_people xM_posted xM_hears xM_censuses xM_finding, ar (ad 24) cA 8 gMcensusYear, ar (ad 25) cA 8 gMcensusMany, ar (ad 26) cA 100 gMborn] H := hP
                have hD : va_D A [oM ad xM_typed xM_people xM_posted xM_hears xM_censuses xM_finding, ar (ad 24) cA 8 gMcensusYear, ar (ad 25) cA 8 gMcensusMany, ar (ad 26) cA 100 gMborn] := hD
                have hw := hw.symm
                subst hw
                refine lv_if_eq (tgt := 53) hx hb dX10_pairsBy_46 (by decide) (fun c_7 => ?_) (fun c_7 => ?_)
                · have hm := it_pos c_7 hm
                  exact b_53 _ _ hm _ _ hP hD hS _ (lv_sub hl [0, 1, 3, 4] rfl)
                · have hm := it_neg c_7 hm
                  refine lv_iconst (v := 1) hx hb dX10_pairsBy_49 (by decide) ?_
                  refine lv_goto (tgt := 54) hx hb dX10_pairsBy_50 (by decide) ?_
                  exact b_54 _ _ _ hm _ _ hP hD hS _ (lv_sub hl [0, 1, 3, 4] rfl)
      intro v2_4 v3_4 hm H locs hP hD hS ls hl
      have hm : fM_pairsBy_4_b  (fM_pairsBy_4  v1_4 xM_censuses gMcensusYear gMcensusMany gMborn n_4) v1_4 xM_censuses gMcensusYear gMcensusMany gMborn v2_4 v3_4 = some u := hm
      unfold fM_pairsBy_4_b at hm
      refine lv_iload_n hx hb dX10_pairsBy_4 rfl (lv_at hl 3 rfl) ?_
      refine lv_aload_n hx hb dX10_pairsBy_5 rfl (lv_at hl 0 rfl) ?_
      refine va_get (D := (dC, dI)) (ci := 10) (v := .int xM_censuses) (C := RX10) (T := TX10) (N := 37) hx hb hts hinX10 hown hK hP 0 rfl rfl 27 (by decide) hl_252 (fun _ h9 => h9) rfl dX10_pairsBy_6 ?_
      refine lv_icmp_ge (tgt := 68) hx hb dX10_pairsBy_9 (by decide) (fun c_8 => ?_) (fun c_8 => ?_)
      · have hm := it_pos c_8 hm
        refine lv_iload_n hx hb dX10_pairsBy_68 rfl (lv_at hl 2 rfl) ?_
        obtain rfl := Option.some.inj hm
        subst hQ
        exact W.iret (v := v2_4) hx hb hr (fun t ht hW => ⟨⟨_, (), rfl, rfl, by rw [ht]; exact hP, va_K.moved hW.alike hK, hAe ▸ hD⟩, hS.F ht⟩) hS.2.2 dX10_pairsBy_69
      · have hm := it_neg c_8 hm
        refine lv_iconst (v := 0) hx hb dX10_pairsBy_12 (by decide) ?_
        refine lv_istore (lv' := [(4, .int 0), (0, .ref (ad 0)), (1, .int v1_4), (2, .int v2_4), (3, .int v3_4)]) hx hb dX10_pairsBy_13 hl (by decide) rfl (fun ls hl => ?_)
        exact h_15 _ _ _ _ hm _ _ hP hD hS _ (lv_sub hl [1, 2, 3, 4, 0] rfl)
  unfold fM_pairsBy at hm
  refine lv_iconst (v := 0) hx hb dX10_pairsBy_0 (by decide) ?_
  refine lv_istore_n (lv' := [(2, .int 0), (0, .ref (ad 0)), (1, .int a1)]) hx hb dX10_pairsBy_1 rfl hl (by decide) rfl (fun ls hl => ?_)
  refine lv_iconst (v := 0) hx hb dX10_pairsBy_2 (by decide) ?_
  refine lv_istore_n (lv' := [(3, .int 0), (2, .int 0), (0, .ref (ad 0)), (1, .int a1)]) hx hb dX10_pairsBy_3 rfl hl (by decide) rfl (fun ls hl => ?_)
  exact h_4 _ _ _ _ hm _ _ hP hD hS _ (lv_sub hl [2, 3, 1, 0] rfl)
