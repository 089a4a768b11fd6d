set_option maxHeartbeats 4000000 in
set_option maxRecDepth 100000 in
theorem kM_in (l : Launch) (dC : Nat → ClassId) (dI : Nat → Nat → Nat) (cA : ClassId) (cB : ClassId) (ad : Nat → Nat) (sz : Nat) (a0 : Int32) (a1 : Int32) (a2 : Int32) (u : Int32) (hm : fM_in a0 a1 a2 = some u) : Met l yX10_in wsX10_in ({ frames := 0, cells := 0, slots := 0, locals := 0 }) (va_Pc [.int a0, .int a1, .int a2] (fun U => U.heap.size = sz ∧ va_P (dC, dI) vwCl [] U.heap ∧ va_K (dC, dI) vwCl [(cA, .int), (cB, .boolean)] U ∧ va_D (fun _ => True) [])) (va_Qi (fun (r : Int32) (_ : Unit) => r = u) (fun (_ : Unit) t => va_P (dC, dI) vwCl [] t.heap ∧ va_K (dC, dI) vwCl [(cA, .int), (cB, .boolean)] t ∧ va_D (va_A [] sz) []) (va_A [] sz)) 0 0 (va_A [] sz) := by
  refine Met.ofW (cc := cX10_in) (maxL := 3) (ret := (some .boolean)) (by decide) rfl ?_
  intro p e s m args below meth c s₁ B hml hv
  obtain ⟨rfl, hsz, hP, hK, hD0⟩ := hv
  have hx := B.exec
  have hb := B.bytes
  have hr := B.returns
  have hts := atoms_spec (ws := wsX10_in) B.pre
  have hown : s.vm.findClass RX10 = some m.cls := findClass_of_methodNamed B.named
  have hlocks := B.notSynchronized
  subst hsz
  have hD := hD0.self (sz := s.heap.size)
  generalize hAe : va_A [] s.heap.size = A at hD ⊢
  have hA : ∀ q : Nat, s.heap.size ≤ q → A q := fun q h => by rw [← hAe]; exact Or.inr h
  have hS : va_S A s.heap s.heap [] := va_S.rf
  have hl := lv_entry ([.int a0, .int a1, .int a2]) (n := 3) (Nat.le_of_ble_eq_true rfl)
  rw [lg_entry_eq]
  generalize (lg_sl ([.int a0, .int a1, .int a2]) ++ List.replicate (3 - (lg_sl ([.int a0, .int a1, .int a2])).length) Slot.unset).toArray = ls at hl ⊢
  have hl : lv_has ls 3 [(0, .int a0), (1, .int a1), (2, .int a2)] := hl
  refine wk_Q (fun QQ hQ => ?_)
  unfold fM_in at hm
  refine lv_iload_n hx hb dX10_in_0 rfl (lv_at hl 0 rfl) ?_
  refine lv_iload_n hx hb dX10_in_1 rfl (lv_at hl 1 rfl) ?_
  refine lv_icmp_lt (tgt := 14) hx hb dX10_in_2 (by decide) (fun c_1 => ?_) (fun c_1 => ?_)
  · have hm := it_pos c_1 hm
    refine lv_iconst (v := 0) hx hb dX10_in_14 (by decide) ?_
    obtain rfl := Option.some.inj hm
    subst hQ
    exact W.zret (v := 0) hx hb hr rfl (fun t ht hW => ⟨⟨_, (), rfl, rfl, by rw [ht]; exact hP, va_K.moved hW.alike hK, hAe ▸ hD⟩, hS.F ht⟩) hS.2.2 dX10_in_15
  · have hm := it_neg c_1 hm
    refine lv_iload_n hx hb dX10_in_5 rfl (lv_at hl 0 rfl) ?_
    refine lv_iload_n hx hb dX10_in_6 rfl (lv_at hl 2 rfl) ?_
    refine lv_icmp_gt (tgt := 14) hx hb dX10_in_7 (by decide) (fun c_2 => ?_) (fun c_2 => ?_)
    · have hm := it_pos c_2 hm
      refine lv_iconst (v := 0) hx hb dX10_in_14 (by decide) ?_
      obtain rfl := Option.some.inj hm
      subst hQ
      exact W.zret (v := 0) hx hb hr rfl (fun t ht hW => ⟨⟨_, (), rfl, rfl, by rw [ht]; exact hP, va_K.moved hW.alike hK, hAe ▸ hD⟩, hS.F ht⟩) hS.2.2 dX10_in_15
    · have hm := it_neg c_2 hm
      refine lv_iconst (v := 1) hx hb dX10_in_10 (by decide) ?_
      refine lv_goto (tgt := 15) hx hb dX10_in_11 (by decide) ?_
      obtain rfl := Option.some.inj hm
      subst hQ
      exact W.zret (v := 1) hx hb hr rfl (fun t ht hW => ⟨⟨_, (), rfl, rfl, by rw [ht]; exact hP, va_K.moved hW.alike hK, hAe ▸ hD⟩, hS.F ht⟩) hS.2.2 dX10_in_15

set_option maxHeartbeats 4000000 in
set_option maxRecDepth 100000 in
theorem kM_isIn (l : Launch) (dC : Nat → ClassId) (dI : Nat → Nat → Nat) (cA : ClassId) (cB : ClassId) (ad : Nat → Nat) (sz : Nat) (a0 : Int32) (a1 : Int32) (u : Int32) (hm : fM_isIn a0 a1 = some u) : Met l yX10_isIn wsX10_isIn ({ frames := 0, cells := 0, slots := 0, locals := 0 }) (va_Pc [.int a0, .int a1] (fun U => U.heap.size = sz ∧ va_P (dC, dI) vwCl [] U.heap ∧ va_K (dC, dI) vwCl [(cA, .int), (cB, .boolean)] U ∧ va_D (fun _ => True) [])) (va_Qi (fun (r : Int32) (_ : Unit) => r = u) (fun (_ : Unit) t => va_P (dC, dI) vwCl [] t.heap ∧ va_K (dC, dI) vwCl [(cA, .int), (cB, .boolean)] t ∧ va_D (va_A [] sz) []) (va_A [] sz)) 0 0 (va_A [] sz) := by
  refine Met.ofW (cc := cX10_isIn) (maxL := 2) (ret := (some .boolean)) (by decide) rfl ?_
  intro p e s m args below meth c s₁ B hml hv
  obtain ⟨rfl, hsz, hP, hK, hD0⟩ := hv
  have hx := B.exec
  have hb := B.bytes
  have hr := B.returns
  have hts := atoms_spec (ws := wsX10_isIn) B.pre
  have hown : s.vm.findClass RX10 = some m.cls := findClass_of_methodNamed B.named
  have hlocks := B.notSynchronized
  subst hsz
  have hD := hD0.self (sz := s.heap.size)
  generalize hAe : va_A [] s.heap.size = A at hD ⊢
  have hA : ∀ q : Nat, s.heap.size ≤ q → A q := fun q h => by rw [← hAe]; exact Or.inr h
  have hS : va_S A s.heap s.heap [] := va_S.rf
  have hl := lv_entry ([.int a0, .int a1]) (n := 2) (Nat.le_of_ble_eq_true rfl)
  rw [lg_entry_eq]
  generalize (lg_sl ([.int a0, .int a1]) ++ List.replicate (2 - (lg_sl ([.int a0, .int a1])).length) Slot.unset).toArray = ls at hl ⊢
  have hl : lv_has ls 2 [(0, .int a0), (1, .int a1)] := hl
  refine wk_Q (fun QQ hQ => ?_)
  unfold fM_isIn at hm
  refine lv_iload_n hx hb dX10_isIn_0 rfl (lv_at hl 0 rfl) ?_
  refine lv_iload_n hx hb dX10_isIn_1 rfl (lv_at hl 1 rfl) ?_
  refine lv_ishr hx hb dX10_isIn_2 ?_
  refine lv_iconst (v := 1) hx hb dX10_isIn_3 (by decide) ?_
  refine lv_iand hx hb dX10_isIn_4 ?_
  refine lv_iconst (v := 1) hx hb dX10_isIn_5 (by decide) ?_
  refine lv_icmp_ne (tgt := 13) hx hb dX10_isIn_6 (by decide) (fun c_1 => ?_) (fun c_1 => ?_)
  · have hm := it_neg c_1 hm
    refine lv_iconst (v := 0) hx hb dX10_isIn_13 (by decide) ?_
    obtain rfl := Option.some.inj hm
    subst hQ
    exact W.zret (v := 0) hx hb hr rfl (fun t ht hW => ⟨⟨_, (), rfl, rfl, by rw [ht]; exact hP, va_K.moved hW.alike hK, hAe ▸ hD⟩, hS.F ht⟩) hS.2.2 dX10_isIn_14
  · have hm := it_pos c_1 hm
    refine lv_iconst (v := 1) hx hb dX10_isIn_9 (by decide) ?_
    refine lv_goto (tgt := 14) hx hb dX10_isIn_10 (by decide) ?_
    obtain rfl := Option.some.inj hm
    subst hQ
    exact W.zret (v := 1) hx hb hr rfl (fun t ht hW => ⟨⟨_, (), rfl, rfl, by rw [ht]; exact hP, va_K.moved hW.alike hK, hAe ▸ hD⟩, hS.F ht⟩) hS.2.2 dX10_isIn_14

set_option maxHeartbeats 4000000 in
set_option maxRecDepth 100000 in
theorem kM_ones (l : Launch) (dC : Nat → ClassId) (dI : Nat → Nat → Nat) (cA : ClassId) (cB : ClassId) (ad : Nat → Nat) (sz : Nat) (a0 : Int32) (u : Int32) (hm : fM_ones a0 = some u) : Met l yX10_ones wsX10_ones ({ frames := 0, cells := 0, slots := 0, locals := 0 }) (va_Pc [.int a0] (fun U => U.heap.size = sz ∧ va_P (dC, dI) vwCl [] U.heap ∧ va_K (dC, dI) vwCl [(cA, .int), (cB, .boolean)] U ∧ va_D (fun _ => True) [])) (va_Qi (fun (r : Int32) (_ : Unit) => r = u) (fun (_ : Unit) t => va_P (dC, dI) vwCl [] t.heap ∧ va_K (dC, dI) vwCl [(cA, .int), (cB, .boolean)] t ∧ va_D (va_A [] sz) []) (va_A [] sz)) 0 0 (va_A [] sz) := by
  refine Met.ofW (cc := cX10_ones) (maxL := 3) (ret := (some .int)) (by decide) rfl ?_
  intro p e s m args below meth c s₁ B hml hv
  obtain ⟨rfl, hsz, hP, hK, hD0⟩ := hv
  have hx := B.exec
  have hb := B.bytes
  have hr := B.returns
  have hts := atoms_spec (ws := wsX10_ones) B.pre
  have hown : s.vm.findClass RX10 = some m.cls := findClass_of_methodNamed B.named
  have hlocks := B.notSynchronized
  subst hsz
  have hD := hD0.self (sz := s.heap.size)
  generalize hAe : va_A [] s.heap.size = A at hD ⊢
  have hA : ∀ q : Nat, s.heap.size ≤ q → A q := fun q h => by rw [← hAe]; exact Or.inr h
  have hS : va_S A s.heap s.heap [] := va_S.rf
  have hl := lv_entry ([.int a0]) (n := 3) (Nat.le_of_ble_eq_true rfl)
  rw [lg_entry_eq]
  generalize (lg_sl ([.int a0]) ++ List.replicate (3 - (lg_sl ([.int a0])).length) Slot.unset).toArray = ls at hl ⊢
  have hl : lv_has ls 3 [(0, .int a0)] := hl
  refine wk_Q (fun QQ hQ => ?_)
  have h_4 : ∀ (v0_4 : Int32), ∀ (n_4 : Nat), ∀ (v1_4 : Int32) (v2_4 : Int32), fM_ones_4 v0_4 n_4 v1_4 v2_4 = some u → ∀ (H : Heap) (locs : List Loc), va_P (dC, dI) vwCl [] H → va_D A [] → va_S A s.heap H locs → ∀ ls : Array Slot, lv_has ls 3 [(0, .int v0_4), (1, .int v1_4), (2, .int v2_4)] → W p l e (headSpec wsX10_ones ({ frames := 0, cells := 0, slots := 0, locals := 0 })).room s m ([.int a0] : List Value).toArray below meth c H locs 0 0 QQ (F0 m 4 ls []) := by
    intro v0_4
    intro n_4
    induction n_4 with
    | zero => intro v1_4 v2_4 hm; have hm : (none : Option (Int32)) = some u := hm; cases hm
    | succ n_4 ih_4 =>
      intro v1_4 v2_4 hm H locs hP hD hS ls hl
      have hm : fM_ones_4_b  (fM_ones_4  v0_4 n_4) v0_4 v1_4 v2_4 = some u := hm
      unfold fM_ones_4_b at hm
      refine lv_iload_n hx hb dX10_ones_4 rfl (lv_at hl 2 rfl) ?_
      refine lv_bipush (v := 22) hx hb dX10_ones_5 (by decide) ?_
      refine lv_icmp_ge (tgt := 24) hx hb dX10_ones_7 (by decide) (fun c_1 => ?_) (fun c_1 => ?_)
      · have hm := it_pos c_1 hm
        refine lv_iload_n hx hb dX10_ones_24 rfl (lv_at hl 1 rfl) ?_
        obtain rfl := Option.some.inj hm
        subst hQ
        exact W.iret (v := v1_4) hx hb hr (fun t ht hW => ⟨⟨_, (), rfl, rfl, by rw [ht]; exact hP, va_K.moved hW.alike hK, hAe ▸ hD⟩, hS.F ht⟩) hS.2.2 dX10_ones_25
      · have hm := it_neg c_1 hm
        refine lv_iload_n hx hb dX10_ones_10 rfl (lv_at hl 1 rfl) ?_
        refine lv_iload_n hx hb dX10_ones_11 rfl (lv_at hl 0 rfl) ?_
        refine lv_iload_n hx hb dX10_ones_12 rfl (lv_at hl 2 rfl) ?_
        refine lv_ishr hx hb dX10_ones_13 ?_
        refine lv_iconst (v := 1) hx hb dX10_ones_14 (by decide) ?_
        refine lv_iand hx hb dX10_ones_15 ?_
        refine lv_iadd hx hb dX10_ones_16 ?_
        refine lv_topi (fun y2 ey2 => ?_)
        have hm := nm_in ey2 hm
        refine lv_istore_n (lv' := [(1, .int y2), (0, .int v0_4), (2, .int v2_4)]) hx hb dX10_ones_17 rfl hl (by decide) rfl (fun ls hl => ?_)
        refine lv_iinc (v := (v2_4 + 1)) (lv' := [(2, .int (v2_4 + 1)), (1, .int y2), (0, .int v0_4)]) hx hb dX10_ones_18 hl (k := 2) rfl rfl (by decide) rfl (fun ls hl => ?_)
        refine lv_goto (tgt := 4) hx hb dX10_ones_21 (by decide) ?_
        exact ih_4 _ _ hm _ _ hP hD hS _ (lv_sub hl [2, 1, 0] rfl)
  unfold fM_ones at hm
  refine lv_iconst (v := 0) hx hb dX10_ones_0 (by decide) ?_
  refine lv_istore_n (lv' := [(1, .int 0), (0, .int a0)]) hx hb dX10_ones_1 rfl hl (by decide) rfl (fun ls hl => ?_)
  refine lv_iconst (v := 0) hx hb dX10_ones_2 (by decide) ?_
  refine lv_istore_n (lv' := [(2, .int 0), (1, .int 0), (0, .int a0)]) hx hb dX10_ones_3 rfl hl (by decide) rfl (fun ls hl => ?_)
  exact h_4 _ _ _ _ hm _ _ hP hD hS _ (lv_sub hl [2, 1, 0] rfl)

set_option maxHeartbeats 4000000 in
set_option maxRecDepth 100000 in
theorem kM_type (l : Launch) (dC : Nat → ClassId) (dI : Nat → Nat → Nat) (cA : ClassId) (cB : ClassId) (ad : Nat → Nat) (sz : Nat) (a1 : Int32) (xM_typed : Int32) (xM_people : Int32) (xM_posted : Int32) (xM_hears : Int32) (xM_censuses : Int32) (xM_finding : Int32) (gMtext : Nat → Int32) (u : Int32 × Int32 × (Nat → Int32)) (hm : fM_type a1 xM_typed gMtext = some u) : Met l yX10_type wsX10_type ({ frames := 1, cells := 0, slots := 0, locals := 22 }) (va_Pc [.ref (ad 0), .int a1] (fun U => U.heap.size = sz ∧ va_P (dC, dI) vwCl [oM ad xM_typed xM_people xM_posted xM_hears xM_censuses xM_finding, ar (ad 1) cA 60 gMtext] U.heap ∧ va_K (dC, dI) vwCl [(cA, .int), (cB, .boolean)] U ∧ va_D (fun _ => True) [oM ad xM_typed xM_people xM_posted xM_hears xM_censuses xM_finding, ar (ad 1) cA 60 gMtext])) (va_Qi (fun (r : Int32) (_ : Unit) => r = u.1) (fun (_ : Unit) t => va_P (dC, dI) vwCl [oM ad u.2.1 xM_people xM_posted xM_hears xM_censuses xM_finding, ar (ad 1) cA 60 u.2.2] t.heap ∧ va_K (dC, dI) vwCl [(cA, .int), (cB, .boolean)] t ∧ va_D (va_A [oM ad xM_typed xM_people xM_posted xM_hears xM_censuses xM_finding, ar (ad 1) cA 60 gMtext] sz) [oM ad u.2.1 xM_people xM_posted xM_hears xM_censuses xM_finding, ar (ad 1) cA 60 u.2.2]) (va_A [oM ad xM_typed xM_people xM_posted xM_hears xM_censuses xM_finding, ar (ad 1) cA 60 gMtext] sz)) 0 0 (va_A [oM ad xM_typed xM_people xM_posted xM_hears xM_censuses xM_finding, ar (ad 1) cA 60 gMtext] sz) := by
  refine Met.ofW (cc := cX10_type) (maxL := 2) (ret := (some .int)) (by decide) rfl ?_
  intro p e s m args below meth c s₁ B hml hv
  obtain ⟨rfl, hsz, hP, hK, hD0⟩ := hv
  have hx := B.exec
  have hb := B.bytes
  have hr := B.returns
  have hts := atoms_spec (ws := wsX10_type) B.pre
  have hown : s.vm.findClass RX10 = some m.cls := findClass_of_methodNamed B.named
  have hlocks := B.notSynchronized
  subst hsz
  have hD := hD0.self (sz := s.heap.size)
  generalize hAe : va_A [oM ad xM_typed xM_people xM_posted xM_hears xM_censuses xM_finding, ar (ad 1) cA 60 gMtext] s.heap.size = A at hD ⊢
  have hA : ∀ q : Nat, s.heap.size ≤ q → A q := fun q h => by rw [← hAe]; exact Or.inr h
  have hS : va_S A s.heap s.heap [] := va_S.rf
  have hl := lv_entry ([.ref (ad 0), .int a1]) (n := 2) (Nat.le_of_ble_eq_true rfl)
  rw [lg_entry_eq]
  generalize (lg_sl ([.ref (ad 0), .int a1]) ++ List.replicate (2 - (lg_sl ([.ref (ad 0), .int a1])).length) Slot.unset).toArray = ls at hl ⊢
  have hl : lv_has ls 2 [(0, .ref (ad 0)), (1, .int a1)] := hl
  refine wk_Q (fun QQ hQ => ?_)
  have hinX10 : ∀ w ∈ wsX100, w ∈ wsX10_type := fun w h => List.mem_cons_of_mem _ (inlX10 w h)
  have hl_108 := hts (.fieldLink RX10 108 "HandCensusModel" "typed" "I") (List.mem_cons_of_mem _ (in_r10 _ (List.mem_of_getElem? (i := 23) rfl)))
  have hl_7 := hts (.fieldLink RX10 7 "HandCensusModel" "text" "[I") (List.mem_cons_of_mem _ (in_r6 _ (List.mem_of_getElem? (i := 19) rfl)))
  unfold fM_type at hm
  refine lv_iload_n hx hb dX10_type_0 rfl (lv_at hl 1 rfl) ?_
  refine lv_iconst (v := 0) hx hb dX10_type_1 (by decide) ?_
  refine lv_sipush (v := 255) hx hb dX10_type_2 (by decide) ?_
  have hPc := hP.sub (ws' := []) [] rfl
  have hDc := hD.sub (ws' := []) [] (by decide) rfl
  have hFc := va_free (wc := []) hD hS hA [] rfl
  obtain ⟨u_1, hc_1, hm⟩ := bd_ok hm
  refine va_calli (va_runS (As := [.int a1, .int 0, .int 255]) (rest := []) ⟨hx, hb, hml, hown, hts⟩ (kM_in l dC dI cA cB ad s.heap.size a1 0 255 u_1 hc_1) (va_cwS 3 hts gX10_type_X10_in rfl rfl rfl (by decide +kernel) ⟨Nat.le_of_ble_eq_true rfl, Nat.le_of_ble_eq_true rfl⟩) ⟨fun a U g mk q => by obtain ⟨q0, q1, qP, qK, qD⟩ := q; exact ⟨q0, q1, qP, va_K.moved (u := U) (U := U.calling g mk a) (Vm.Alike.refl U.vm) qK, qD⟩, fun U hU hW => ⟨rfl, by rw [hU], by rw [hU]; exact hPc, va_K.moved hW.alike hK, hDc.weaken (fun _ _ _ _ => trivial)⟩⟩ rfl rfl hl.1 rfl (lv_room (Nat.le_of_ble_eq_true rfl)) dX10_type_5 ⟨Nat.le_of_ble_eq_true rfl, Nat.le_of_ble_eq_true rfl⟩) hS (fun q _ h => hFc q h) hFc (fun r_1 _ t H1 locs ht hvm hw hB hz1 hk1 hS => ?_)
  obtain ⟨hP1, hK1, hD1⟩ := hB
  rw [ht] at hP1
  obtain ⟨hP, hD⟩ := va_join (wr := [oM ad xM_typed xM_people xM_posted xM_hears xM_censuses xM_finding, ar (ad 1) cA 60 gMtext]) (w1 := []) hP hD [] [0, 1] rfl rfl (by decide) (by decide) hk1 hFc hP1 hD1
  clear hPc hDc hFc hP1 hK1 hD1 hk1 hz1 hvm ht
  generalize H1 = H at hP hS ⊢
  have hP : va_P (dC, dI) vwCl [oM ad xM_typed xM_people xM_posted xM_hears xM_censuses xM_finding, ar (ad 1) cA 60 gMtext] H := hP
  have hD : va_D A [oM ad xM_typed xM_people xM_posted xM_hears xM_censuses xM_finding, ar (ad 1) cA 60 gMtext] := hD
  have hw := hw.symm
  subst hw
  refine lv_if_ne (tgt := 14) hx hb dX10_type_8 (by decide) (fun c_2 => ?_) (fun c_2 => ?_)
  · have hm := it_neg c_2 hm
    refine lv_aload_n hx hb dX10_type_14 rfl (lv_at hl 0 rfl) ?_
    refine va_get (D := (dC, dI)) (ci := 10) (v := .int xM_typed) (C := RX10) (T := TX10) (N := 37) hx hb hts hinX10 hown hK hP 0 rfl rfl 0 (by decide) hl_108 (fun _ h9 => h9) rfl dX10_type_15 ?_
    refine lv_bipush (v := 60) hx hb dX10_type_18 (by decide) ?_
    refine lv_icmp_ne (tgt := 26) hx hb dX10_type_20 (by decide) (fun c_3 => ?_) (fun c_3 => ?_)
    · have hm := it_neg c_3 hm
      refine lv_aload_n hx hb dX10_type_26 rfl (lv_at hl 0 rfl) ?_
      refine va_get (D := (dC, dI)) (ci := 10) (v := .ref (ad 1)) (C := RX10) (T := TX10) (N := 37) hx hb hts hinX10 hown hK hP 0 rfl rfl 1 (by decide) hl_7 (fun _ h9 => h9) rfl dX10_type_27 ?_
      refine lv_aload_n hx hb dX10_type_30 rfl (lv_at hl 0 rfl) ?_
      refine va_get (D := (dC, dI)) (ci := 10) (v := .int xM_typed) (C := RX10) (T := TX10) (N := 37) hx hb hts hinX10 hown hK hP 0 rfl rfl 0 (by decide) hl_108 (fun _ h9 => h9) rfl dX10_type_31 ?_
      refine lv_iload_n hx hb dX10_type_34 rfl (lv_at hl 1 rfl) ?_
      obtain ⟨i_4, hm⟩ := ck_ok hm
      refine va_iast hx hb hK hP hD hS 1 0 rfl rfl i_4 dX10_type_35 (fun H locs hP hD hS => ?_)
      have hP : va_P (dC, dI) vwCl [oM ad xM_typed xM_people xM_posted xM_hears xM_censuses xM_finding, ar (ad 1) cA 60 (upd gMtext xM_typed.toNatClampNeg a1)] H := hP
      have hD : va_D A [oM ad xM_typed xM_people xM_posted xM_hears xM_censuses xM_finding, ar (ad 1) cA 60 (upd gMtext xM_typed.toNatClampNeg a1)] := hD
      refine lv_aload_n hx hb dX10_type_36 rfl (lv_at hl 0 rfl) ?_
      refine lv_dup hx hb dX10_type_37 rfl ?_
      refine va_get (D := (dC, dI)) (ci := 10) (v := .int xM_typed) (C := RX10) (T := TX10) (N := 37) hx hb hts hinX10 hown hK hP 0 rfl rfl 0 (by decide) hl_108 (fun _ h9 => h9) rfl dX10_type_38 ?_
      refine lv_iconst (v := 1) hx hb dX10_type_41 (by decide) ?_
      refine lv_iadd hx hb dX10_type_42 ?_
      refine va_put (D := (dC, dI)) (ci := 10) (v := .int (xM_typed + 1)) (ty := .int) (C := RX10) (T := TX10) (N := 37) hx hb hts hinX10 tyX10 tyX10_ok nmX10 hown hK hP hD hS 0 rfl rfl 0 (by decide) hl_108 (fun _ h9 => h9) rfl (by decide +kernel) rfl rfl (Nat.le_of_ble_eq_true rfl) dX10_type_43 (fun H locs hP hD hS => ?_)
      have hP : va_P (dC, dI) vwCl [oM ad (xM_typed + 1) xM_people xM_posted xM_hears xM_censuses xM_finding, ar (ad 1) cA 60 (upd gMtext xM_typed.toNatClampNeg a1)] H := hP
      have hD : va_D A [oM ad (xM_typed + 1) xM_people xM_posted xM_hears xM_censuses xM_finding, ar (ad 1) cA 60 (upd gMtext xM_typed.toNatClampNeg a1)] := hD
      refine lv_aload_n hx hb dX10_type_46 rfl (lv_at hl 0 rfl) ?_
      refine va_get (D := (dC, dI)) (ci := 10) (v := .int (xM_typed + 1)) (C := RX10) (T := TX10) (N := 37) hx hb hts hinX10 hown hK hP 0 rfl rfl 0 (by decide) hl_108 (fun _ h9 => h9) rfl dX10_type_47 ?_
      obtain rfl := Option.some.inj hm
      subst hQ
      exact W.iret (v := (xM_typed + 1)) hx hb hr (fun t ht hW => ⟨⟨_, (), rfl, rfl, by rw [ht]; exact hP, va_K.moved hW.alike hK, hAe ▸ hD⟩, hS.F ht⟩) hS.2.2 dX10_type_50
    · have hm := it_pos c_3 hm
      refine lv_bipush (v := (-4)) hx hb dX10_type_23 (by decide) ?_
      obtain rfl := Option.some.inj hm
      subst hQ
      exact W.iret (v := (-4)) hx hb hr (fun t ht hW => ⟨⟨_, (), rfl, rfl, by rw [ht]; exact hP, va_K.moved hW.alike hK, hAe ▸ hD⟩, hS.F ht⟩) hS.2.2 dX10_type_25
  · have hm := it_pos c_2 hm
    refine lv_bipush (v := (-2)) hx hb dX10_type_11 (by decide) ?_
    obtain rfl := Option.some.inj hm
    subst hQ
    exact W.iret (v := (-2)) hx hb hr (fun t ht hW => ⟨⟨_, (), rfl, rfl, by rw [ht]; exact hP, va_K.moved hW.alike hK, hAe ▸ hD⟩, hS.F ht⟩) hS.2.2 dX10_type_13

set_option maxHeartbeats 4000000 in
set_option maxRecDepth 100000 in
theorem kM_wipe (l : Launch) (dC : Nat → ClassId) (dI : Nat → Nat → Nat) (cA : ClassId) (cB : ClassId) (ad : Nat → Nat) (sz : Nat) (xM_typed : Int32) (xM_people : Int32) (xM_posted : Int32) (xM_hears : Int32) (xM_censuses : Int32) (xM_finding : Int32) (u : Int32 × Int32) (hm : fM_wipe xM_typed = some u) : Met l yX10_wipe wsX10_wipe ({ frames := 0, cells := 0, slots := 0, locals := 0 }) (va_Pc [.ref (ad 0)] (fun U => U.heap.size = sz ∧ va_P (dC, dI) vwCl [oM ad xM_typed xM_people xM_posted xM_hears xM_censuses xM_finding] U.heap ∧ va_K (dC, dI) vwCl [(cA, .int), (cB, .boolean)] U ∧ va_D (fun _ => True) [oM ad xM_typed xM_people xM_posted xM_hears xM_censuses xM_finding])) (va_Qi (fun (r : Int32) (_ : Unit) => r = u.1) (fun (_ : Unit) t => va_P (dC, dI) vwCl [oM ad u.2 xM_people xM_posted xM_hears xM_censuses xM_finding] t.heap ∧ va_K (dC, dI) vwCl [(cA, .int), (cB, .boolean)] t ∧ va_D (va_A [oM ad xM_typed xM_people xM_posted xM_hears xM_censuses xM_finding] sz) [oM ad u.2 xM_people xM_posted xM_hears xM_censuses xM_finding]) (va_A [oM ad xM_typed xM_people xM_posted xM_hears xM_censuses xM_finding] sz)) 0 0 (va_A [oM ad xM_typed xM_people xM_posted xM_hears xM_censuses xM_finding] sz) := by
  refine Met.ofW (cc := cX10_wipe) (maxL := 2) (ret := (some .int)) (by decide) rfl ?_
  intro p e s m args below meth c s₁ B hml hv
  obtain ⟨rfl, hsz, hP, hK, hD0⟩ := hv
  have hx := B.exec
  have hb := B.bytes
  have hr := B.returns
  have hts := atoms_spec (ws := wsX10_wipe) B.pre
  have hown : s.vm.findClass RX10 = some m.cls := findClass_of_methodNamed B.named
  have hlocks := B.notSynchronized
  subst hsz
  have hD := hD0.self (sz := s.heap.size)
  generalize hAe : va_A [oM ad xM_typed xM_people xM_posted xM_hears xM_censuses xM_finding] s.heap.size = A at hD ⊢
  have hA : ∀ q : Nat, s.heap.size ≤ q → A q := fun q h => by rw [← hAe]; exact Or.inr h
  have hS : va_S A s.heap s.heap [] := va_S.rf
  have hl := lv_entry ([.ref (ad 0)]) (n := 2) (Nat.le_of_ble_eq_true rfl)
  rw [lg_entry_eq]
  generalize (lg_sl ([.ref (ad 0)]) ++ List.replicate (2 - (lg_sl ([.ref (ad 0)])).length) Slot.unset).toArray = ls at hl ⊢
  have hl : lv_has ls 2 [(0, .ref (ad 0))] := hl
  refine wk_Q (fun QQ hQ => ?_)
  have hinX10 : ∀ w ∈ wsX100, w ∈ wsX10_wipe := fun w h => List.mem_cons_of_mem _ (inlX10 w h)
  have hl_108 := hts (.fieldLink RX10 108 "HandCensusModel" "typed" "I") (List.mem_cons_of_mem _ (in_r10 _ (List.mem_of_getElem? (i := 23) rfl)))
  unfold fM_wipe at hm
  refine lv_aload_n hx hb dX10_wipe_0 rfl (lv_at hl 0 rfl) ?_
  refine va_get (D := (dC, dI)) (ci := 10) (v := .int xM_typed) (C := RX10) (T := TX10) (N := 37) hx hb hts hinX10 hown hK hP 0 rfl rfl 0 (by decide) hl_108 (fun _ h9 => h9) rfl dX10_wipe_1 ?_
  refine lv_istore_n (lv' := [(1, .int xM_typed), (0, .ref (ad 0))]) hx hb dX10_wipe_4 rfl hl (by decide) rfl (fun ls hl => ?_)
  refine lv_aload_n hx hb dX10_wipe_5 rfl (lv_at hl 1 rfl) ?_
  refine lv_iconst (v := 0) hx hb dX10_wipe_6 (by decide) ?_
  refine va_put (D := (dC, dI)) (ci := 10) (v := .int 0) (ty := .int) (C := RX10) (T := TX10) (N := 37) hx hb hts hinX10 tyX10 tyX10_ok nmX10 hown hK hP hD hS 0 rfl rfl 0 (by decide) hl_108 (fun _ h9 => h9) rfl (by decide +kernel) rfl rfl (Nat.le_of_ble_eq_true rfl) dX10_wipe_7 (fun H locs hP hD hS => ?_)
  have hP : va_P (dC, dI) vwCl [oM ad 0 xM_people xM_posted xM_hears xM_censuses xM_finding] H := hP
  have hD : va_D A [oM ad 0 xM_people xM_posted xM_hears xM_censuses xM_finding] := hD
  refine lv_iload_n hx hb dX10_wipe_10 rfl (lv_at hl 0 rfl) ?_
  obtain rfl := Option.some.inj hm
  subst hQ
  exact W.iret (v := xM_typed) hx hb hr (fun t ht hW => ⟨⟨_, (), rfl, rfl, by rw [ht]; exact hP, va_K.moved hW.alike hK, hAe ▸ hD⟩, hS.F ht⟩) hS.2.2 dX10_wipe_11

set_option maxHeartbeats 4000000 in
set_option maxRecDepth 100000 in
theorem kM_byteAt (l : Launch) (dC : Nat → ClassId) (dI : Nat → Nat → Nat) (cA : ClassId) (cB : ClassId) (ad : Nat → Nat) (sz : Nat) (a1 : Int32) (xM_typed : Int32) (xM_people : Int32) (xM_posted : Int32) (xM_hears : Int32) (xM_censuses : Int32) (xM_finding : Int32) (gMtext : Nat → Int32) (u : Int32) (hm : fM_byteAt a1 xM_typed gMtext = some u) : Met l yX10_byteAt wsX10_byteAt ({ frames := 0, cells := 0, slots := 0, locals := 0 }) (va_Pc [.ref (ad 0), .int a1] (fun U => U.heap.size = sz ∧ va_P (dC, dI) vwCl [oM ad xM_typed xM_people xM_posted xM_hears xM_censuses xM_finding, ar (ad 1) cA 60 gMtext] U.heap ∧ va_K (dC, dI) vwCl [(cA, .int), (cB, .boolean)] U ∧ va_D (fun _ => True) [oM ad xM_typed xM_people xM_posted xM_hears xM_censuses xM_finding, ar (ad 1) cA 60 gMtext])) (va_Qi (fun (r : Int32) (_ : Unit) => r = u) (fun (_ : Unit) t => va_P (dC, dI) vwCl [oM ad xM_typed xM_people xM_posted xM_hears xM_censuses xM_finding, ar (ad 1) cA 60 gMtext] t.heap ∧ va_K (dC, dI) vwCl [(cA, .int), (cB, .boolean)] t ∧ va_D (va_A [oM ad xM_typed xM_people xM_posted xM_hears xM_censuses xM_finding, ar (ad 1) cA 60 gMtext] sz) [oM ad xM_typed xM_people xM_posted xM_hears xM_censuses xM_finding, ar (ad 1) cA 60 gMtext]) (va_A [oM ad xM_typed xM_people xM_posted xM_hears xM_censuses xM_finding, ar (ad 1) cA 60 gMtext] sz)) 0 0 (va_A [oM ad xM_typed xM_people xM_posted xM_hears xM_censuses xM_finding, ar (ad 1) cA 60 gMtext] sz) := by
  refine Met.ofW (cc := cX10_byteAt) (maxL := 2) (ret := (some .int)) (by decide) rfl ?_
  intro p e s m args below meth c s₁ B hml hv
  obtain ⟨rfl, hsz, hP, hK, hD0⟩ := hv
  have hx := B.exec
  have hb := B.bytes
  have hr := B.returns
  have hts := atoms_spec (ws := wsX10_byteAt) B.pre
  have hown : s.vm.findClass RX10 = some m.cls := findClass_of_methodNamed B.named
  have hlocks := B.notSynchronized
  subst hsz
  have hD := hD0.self (sz := s.heap.size)
  generalize hAe : va_A [oM ad xM_typed xM_people xM_posted xM_hears xM_censuses xM_finding, ar (ad 1) cA 60 gMtext] s.heap.size = A at hD ⊢
  have hA : ∀ q : Nat, s.heap.size ≤ q → A q := fun q h => by rw [← hAe]; exact Or.inr h
  have hS : va_S A s.heap s.heap [] := va_S.rf
  have hl := lv_entry ([.ref (ad 0), .int a1]) (n := 2) (Nat.le_of_ble_eq_true rfl)
  rw [lg_entry_eq]
  generalize (lg_sl ([.ref (ad 0), .int a1]) ++ List.replicate (2 - (lg_sl ([.ref (ad 0), .int a1])).length) Slot.unset).toArray = ls at hl ⊢
  have hl : lv_has ls 2 [(0, .ref (ad 0)), (1, .int a1)] := hl
  refine wk_Q (fun QQ hQ => ?_)
  have hinX10 : ∀ w ∈ wsX100, w ∈ wsX10_byteAt := fun w h => List.mem_cons_of_mem _ (inlX10 w h)
  have hl_108 := hts (.fieldLink RX10 108 "HandCensusModel" "typed" "I") (List.mem_cons_of_mem _ (in_r10 _ (List.mem_of_getElem? (i := 23) rfl)))
  have hl_7 := hts (.fieldLink RX10 7 "HandCensusModel" "text" "[I") (List.mem_cons_of_mem _ (in_r6 _ (List.mem_of_getElem? (i := 19) rfl)))
  unfold fM_byteAt at hm
  refine lv_iload_n hx hb dX10_byteAt_0 rfl (lv_at hl 1 rfl) ?_
  refine lv_aload_n hx hb dX10_byteAt_1 rfl (lv_at hl 0 rfl) ?_
  refine va_get (D := (dC, dI)) (ci := 10) (v := .int xM_typed) (C := RX10) (T := TX10) (N := 37) hx hb hts hinX10 hown hK hP 0 rfl rfl 0 (by decide) hl_108 (fun _ h9 => h9) rfl dX10_byteAt_2 ?_
  refine lv_icmp_ge (tgt := 17) hx hb dX10_byteAt_5 (by decide) (fun c_1 => ?_) (fun c_1 => ?_)
  · have hm := it_pos c_1 hm
    refine lv_iconst (v := (-1)) hx hb dX10_byteAt_17 (by decide) ?_
    obtain rfl := Option.some.inj hm
    subst hQ
    exact W.iret (v := (-1)) hx hb hr (fun t ht hW => ⟨⟨_, (), rfl, rfl, by rw [ht]; exact hP, va_K.moved hW.alike hK, hAe ▸ hD⟩, hS.F ht⟩) hS.2.2 dX10_byteAt_18
  · have hm := it_neg c_1 hm
    refine lv_aload_n hx hb dX10_byteAt_8 rfl (lv_at hl 0 rfl) ?_
    refine va_get (D := (dC, dI)) (ci := 10) (v := .ref (ad 1)) (C := RX10) (T := TX10) (N := 37) hx hb hts hinX10 hown hK hP 0 rfl rfl 1 (by decide) hl_7 (fun _ h9 => h9) rfl dX10_byteAt_9 ?_
    refine lv_iload_n hx hb dX10_byteAt_12 rfl (lv_at hl 1 rfl) ?_
    obtain ⟨i_2, hm⟩ := ck_ok hm
    refine va_iald hx hb hK hP 1 0 rfl rfl i_2 dX10_byteAt_13 ?_
    refine lv_goto (tgt := 18) hx hb dX10_byteAt_14 (by decide) ?_
    obtain rfl := Option.some.inj hm
    subst hQ
    exact W.iret (v := (gMtext a1.toNatClampNeg)) hx hb hr (fun t ht hW => ⟨⟨_, (), rfl, rfl, by rw [ht]; exact hP, va_K.moved hW.alike hK, hAe ▸ hD⟩, hS.F ht⟩) hS.2.2 dX10_byteAt_18

set_option maxHeartbeats 4000000 in
set_option maxRecDepth 100000 in
theorem kM_kindOf (l : Launch) (dC : Nat → ClassId) (dI : Nat → Nat → Nat) (cA : ClassId) (cB : ClassId) (ad : Nat → Nat) (sz : Nat) (a0 : Int32) (u : Int32) (hm : fM_kindOf a0 = some u) : Met l yX10_kindOf wsX10_kindOf ({ frames := 0, cells := 0, slots := 0, locals := 0 }) (va_Pc [.int a0] (fun U => U.heap.size = sz ∧ va_P (dC, dI) vwCl [] U.heap ∧ va_K (dC, dI) vwCl [(cA, .int), (cB, .boolean)] U ∧ va_D (fun _ => True) [])) (va_Qi (fun (r : Int32) (_ : Unit) => r = u) (fun (_ : Unit) t => va_P (dC, dI) vwCl [] t.heap ∧ va_K (dC, dI) vwCl [(cA, .int), (cB, .boolean)] t ∧ va_D (va_A [] sz) []) (va_A [] sz)) 0 0 (va_A [] sz) := by
  refine Met.ofW (cc := cX10_kindOf) (maxL := 1) (ret := (some .int)) (by decide) rfl ?_
  intro p e s m args below meth c s₁ B hml hv
  obtain ⟨rfl, hsz, hP, hK, hD0⟩ := hv
  have hx := B.exec
  have hb := B.bytes
  have hr := B.returns
  have hts := atoms_spec (ws := wsX10_kindOf) B.pre
  have hown : s.vm.findClass RX10 = some m.cls := findClass_of_methodNamed B.named
  have hlocks := B.notSynchronized
  subst hsz
  have hD := hD0.self (sz := s.heap.size)
  generalize hAe : va_A [] s.heap.size = A at hD ⊢
  have hA : ∀ q : Nat, s.heap.size ≤ q → A q := fun q h => by rw [← hAe]; exact Or.inr h
  have hS : va_S A s.heap s.heap [] := va_S.rf
  have hl := lv_entry ([.int a0]) (n := 1) (Nat.le_of_ble_eq_true rfl)
  rw [lg_entry_eq]
  generalize (lg_sl ([.int a0]) ++ List.replicate (1 - (lg_sl ([.int a0])).length) Slot.unset).toArray = ls at hl ⊢
  have hl : lv_has ls 1 [(0, .int a0)] := hl
  refine wk_Q (fun QQ hQ => ?_)
  unfold fM_kindOf at hm
  refine lv_iload_n hx hb dX10_kindOf_0 rfl (lv_at hl 0 rfl) ?_
  refine lv_bipush (v := 112) hx hb dX10_kindOf_1 (by decide) ?_
  refine lv_icmp_ne (tgt := 10) hx hb dX10_kindOf_3 (by decide) (fun c_1 => ?_) (fun c_1 => ?_)
  · have hm := it_neg c_1 hm
    refine lv_iload_n hx hb dX10_kindOf_10 rfl (lv_at hl 0 rfl) ?_
    refine lv_bipush (v := 116) hx hb dX10_kindOf_11 (by decide) ?_
    refine lv_icmp_ne (tgt := 20) hx hb dX10_kindOf_13 (by decide) (fun c_2 => ?_) (fun c_2 => ?_)
    · have hm := it_neg c_2 hm
      refine lv_iload_n hx hb dX10_kindOf_20 rfl (lv_at hl 0 rfl) ?_
      refine lv_bipush (v := 99) hx hb dX10_kindOf_21 (by decide) ?_
      refine lv_icmp_ne (tgt := 30) hx hb dX10_kindOf_23 (by decide) (fun c_3 => ?_) (fun c_3 => ?_)
      · have hm := it_neg c_3 hm
        refine lv_iload_n hx hb dX10_kindOf_30 rfl (lv_at hl 0 rfl) ?_
        refine lv_bipush (v := 100) hx hb dX10_kindOf_31 (by decide) ?_
        refine lv_icmp_ne (tgt := 40) hx hb dX10_kindOf_33 (by decide) (fun c_4 => ?_) (fun c_4 => ?_)
        · have hm := it_neg c_4 hm
          refine lv_iconst (v := (-1)) hx hb dX10_kindOf_40 (by decide) ?_
          obtain rfl := Option.some.inj hm
          subst hQ
          exact W.iret (v := (-1)) hx hb hr (fun t ht hW => ⟨⟨_, (), rfl, rfl, by rw [ht]; exact hP, va_K.moved hW.alike hK, hAe ▸ hD⟩, hS.F ht⟩) hS.2.2 dX10_kindOf_41
        · have hm := it_pos c_4 hm
          refine lv_iconst (v := 3) hx hb dX10_kindOf_36 (by decide) ?_
          refine lv_goto (tgt := 41) hx hb dX10_kindOf_37 (by decide) ?_
          obtain rfl := Option.some.inj hm
          subst hQ
          exact W.iret (v := 3) hx hb hr (fun t ht hW => ⟨⟨_, (), rfl, rfl, by rw [ht]; exact hP, va_K.moved hW.alike hK, hAe ▸ hD⟩, hS.F ht⟩) hS.2.2 dX10_kindOf_41
      · have hm := it_pos c_3 hm
        refine lv_iconst (v := 2) hx hb dX10_kindOf_26 (by decide) ?_
        refine lv_goto (tgt := 41) hx hb dX10_kindOf_27 (by decide) ?_
        obtain rfl := Option.some.inj hm
        subst hQ
        exact W.iret (v := 2) hx hb hr (fun t ht hW => ⟨⟨_, (), rfl, rfl, by rw [ht]; exact hP, va_K.moved hW.alike hK, hAe ▸ hD⟩, hS.F ht⟩) hS.2.2 dX10_kindOf_41
    · have hm := it_pos c_2 hm
      refine lv_iconst (v := 1) hx hb dX10_kindOf_16 (by decide) ?_
      refine lv_goto (tgt := 41) hx hb dX10_kindOf_17 (by decide) ?_
      obtain rfl := Option.some.inj hm
      subst hQ
      exact W.iret (v := 1) hx hb hr (fun t ht hW => ⟨⟨_, (), rfl, rfl, by rw [ht]; exact hP, va_K.moved hW.alike hK, hAe ▸ hD⟩, hS.F ht⟩) hS.2.2 dX10_kindOf_41
  · have hm := it_pos c_1 hm
    refine lv_iconst (v := 0) hx hb dX10_kindOf_6 (by decide) ?_
    refine lv_goto (tgt := 41) hx hb dX10_kindOf_7 (by decide) ?_
    obtain rfl := Option.some.inj hm
    subst hQ
    exact W.iret (v := 0) hx hb hr (fun t ht hW => ⟨⟨_, (), rfl, rfl, by rw [ht]; exact hP, va_K.moved hW.alike hK, hAe ▸ hD⟩, hS.F ht⟩) hS.2.2 dX10_kindOf_41

set_option maxHeartbeats 4000000 in
set_option maxRecDepth 100000 in
theorem kM_holds (l : Launch) (dC : Nat → ClassId) (dI : Nat → Nat → Nat) (cA : ClassId) (cB : ClassId) (ad : Nat → Nat) (sz : Nat) (a1 : Int32) (a2 : Int32) (xM_typed : Int32) (xM_people : Int32) (xM_posted : Int32) (xM_hears : Int32) (xM_censuses : Int32) (xM_finding : Int32) (gMhands : Nat → Int32) (u : (Nat → Int32)) (hm : fM_holds a1 a2 gMhands = some u) : Met l yX10_holds wsX10_holds ({ frames := 0, cells := 0, slots := 0, locals := 0 }) (va_Pc [.ref (ad 0), .int a1, .int a2] (fun U => U.heap.size = sz ∧ va_P (dC, dI) vwCl [oM ad xM_typed xM_people xM_posted xM_hears xM_censuses xM_finding, ar (ad 5) cA 20 gMhands] U.heap ∧ va_K (dC, dI) vwCl [(cA, .int), (cB, .boolean)] U ∧ va_D (fun _ => True) [oM ad xM_typed xM_people xM_posted xM_hears xM_censuses xM_finding, ar (ad 5) cA 20 gMhands])) (va_Qv (fun (_ : Unit) => True) (fun (_ : Unit) t => va_P (dC, dI) vwCl [oM ad xM_typed xM_people xM_posted xM_hears xM_censuses xM_finding, ar (ad 5) cA 20 u] t.heap ∧ va_K (dC, dI) vwCl [(cA, .int), (cB, .boolean)] t ∧ va_D (va_A [oM ad xM_typed xM_people xM_posted xM_hears xM_censuses xM_finding, ar (ad 5) cA 20 gMhands] sz) [oM ad xM_typed xM_people xM_posted xM_hears xM_censuses xM_finding, ar (ad 5) cA 20 u]) (va_A [oM ad xM_typed xM_people xM_posted xM_hears xM_censuses xM_finding, ar (ad 5) cA 20 gMhands] sz)) 0 0 (va_A [oM ad xM_typed xM_people xM_posted xM_hears xM_censuses xM_finding, ar (ad 5) cA 20 gMhands] sz) := by
  refine Met.ofW (cc := cX10_holds) (maxL := 3) (ret := none) (by decide) rfl ?_
  intro p e s m args below meth c s₁ B hml hv
  obtain ⟨rfl, hsz, hP, hK, hD0⟩ := hv
  have hx := B.exec
  have hb := B.bytes
  have hr := B.returns
  have hts := atoms_spec (ws := wsX10_holds) B.pre
  have hown : s.vm.findClass RX10 = some m.cls := findClass_of_methodNamed B.named
  have hlocks := B.notSynchronized
  subst hsz
  have hD := hD0.self (sz := s.heap.size)
  generalize hAe : va_A [oM ad xM_typed xM_people xM_posted xM_hears xM_censuses xM_finding, ar (ad 5) cA 20 gMhands] s.heap.size = A at hD ⊢
  have hA : ∀ q : Nat, s.heap.size ≤ q → A q := fun q h => by rw [← hAe]; exact Or.inr h
  have hS : va_S A s.heap s.heap [] := va_S.rf
  have hl := lv_entry ([.ref (ad 0), .int a1, .int a2]) (n := 3) (Nat.le_of_ble_eq_true rfl)
  rw [lg_entry_eq]
  generalize (lg_sl ([.ref (ad 0), .int a1, .int a2]) ++ List.replicate (3 - (lg_sl ([.ref (ad 0), .int a1, .int a2])).length) Slot.unset).toArray = ls at hl ⊢
  have hl : lv_has ls 3 [(0, .ref (ad 0)), (1, .int a1), (2, .int a2)] := hl
  refine wk_Q (fun QQ hQ => ?_)
  have hinX10 : ∀ w ∈ wsX100, w ∈ wsX10_holds := fun w h => List.mem_cons_of_mem _ (inlX10 w h)
  have hl_22 := hts (.fieldLink RX10 22 "HandCensusModel" "hands" "[I") (List.mem_cons_of_mem _ (in_r6 _ (List.mem_of_getElem? (i := 23) rfl)))
  unfold fM_holds at hm
  refine lv_aload_n hx hb dX10_holds_0 rfl (lv_at hl 0 rfl) ?_
  refine va_get (D := (dC, dI)) (ci := 10) (v := .ref (ad 5)) (C := RX10) (T := TX10) (N := 37) hx hb hts hinX10 hown hK hP 0 rfl rfl 6 (by decide) hl_22 (fun _ h9 => h9) rfl dX10_holds_1 ?_
  refine lv_iload_n hx hb dX10_holds_4 rfl (lv_at hl 1 rfl) ?_
  refine lv_dup2_11 hx hb dX10_holds_5 rfl rfl ?_
  obtain ⟨i_1, hm⟩ := ck_ok hm
  refine va_iald hx hb hK hP 1 0 rfl rfl i_1 dX10_holds_6 ?_
  refine lv_iconst (v := 1) hx hb dX10_holds_7 (by decide) ?_
  refine lv_iload_n hx hb dX10_holds_8 rfl (lv_at hl 2 rfl) ?_
  refine lv_ishl hx hb dX10_holds_9 ?_
  refine lv_ior hx hb dX10_holds_10 ?_
  obtain ⟨i_2, hm⟩ := ck_ok hm
  refine va_iast hx hb hK hP hD hS 1 0 rfl rfl i_2 dX10_holds_11 (fun H locs hP hD hS => ?_)
  have hP : va_P (dC, dI) vwCl [oM ad xM_typed xM_people xM_posted xM_hears xM_censuses xM_finding, ar (ad 5) cA 20 (upd gMhands a1.toNatClampNeg ((gMhands a1.toNatClampNeg) ||| (1 <<< (a2 &&& 31))))] H := hP
  have hD : va_D A [oM ad xM_typed xM_people xM_posted xM_hears xM_censuses xM_finding, ar (ad 5) cA 20 (upd gMhands a1.toNatClampNeg ((gMhands a1.toNatClampNeg) ||| (1 <<< (a2 &&& 31))))] := hD
  refine lv_aload_n hx hb dX10_holds_12 rfl (lv_at hl 0 rfl) ?_
  refine va_get (D := (dC, dI)) (ci := 10) (v := .ref (ad 5)) (C := RX10) (T := TX10) (N := 37) hx hb hts hinX10 hown hK hP 0 rfl rfl 6 (by decide) hl_22 (fun _ h9 => h9) rfl dX10_holds_13 ?_
  refine lv_iload_n hx hb dX10_holds_16 rfl (lv_at hl 2 rfl) ?_
  refine lv_dup2_11 hx hb dX10_holds_17 rfl rfl ?_
  obtain ⟨i_3, hm⟩ := ck_ok hm
  refine va_iald hx hb hK hP 1 0 rfl rfl i_3 dX10_holds_18 ?_
  refine lv_iconst (v := 1) hx hb dX10_holds_19 (by decide) ?_
  refine lv_iload_n hx hb dX10_holds_20 rfl (lv_at hl 1 rfl) ?_
  refine lv_ishl hx hb dX10_holds_21 ?_
  refine lv_ior hx hb dX10_holds_22 ?_
  obtain ⟨i_4, hm⟩ := ck_ok hm
  refine va_iast hx hb hK hP hD hS 1 0 rfl rfl i_4 dX10_holds_23 (fun H locs hP hD hS => ?_)
  have hP : va_P (dC, dI) vwCl [oM ad xM_typed xM_people xM_posted xM_hears xM_censuses xM_finding, ar (ad 5) cA 20 (upd (upd gMhands a1.toNatClampNeg ((gMhands a1.toNatClampNeg) ||| (1 <<< (a2 &&& 31)))) a2.toNatClampNeg (((upd gMhands a1.toNatClampNeg ((gMhands a1.toNatClampNeg) ||| (1 <<< (a2 &&& 31)))) a2.toNatClampNeg) ||| (1 <<< (a1 &&& 31))))] H := hP
  have hD : va_D A [oM ad xM_typed xM_people xM_posted xM_hears xM_censuses xM_finding, ar (ad 5) cA 20 (upd (upd gMhands a1.toNatClampNeg ((gMhands a1.toNatClampNeg) ||| (1 <<< (a2 &&& 31)))) a2.toNatClampNeg (((upd gMhands a1.toNatClampNeg ((gMhands a1.toNatClampNeg) ||| (1 <<< (a2 &&& 31)))) a2.toNatClampNeg) ||| (1 <<< (a1 &&& 31))))] := hD
  obtain rfl := Option.some.inj hm
  subst hQ
  exact W.vret hx hb hr (fun t ht hW => ⟨⟨(), rfl, trivial, by rw [ht]; exact hP, va_K.moved hW.alike hK, hAe ▸ hD⟩, hS.F ht⟩) hS.2.2 dX10_holds_24

set_option maxHeartbeats 4000000 in
set_option maxRecDepth 100000 in
theorem kM_reads (l : Launch) (dC : Nat → ClassId) (dI : Nat → Nat → Nat) (cA : ClassId) (cB : ClassId) (ad : Nat → Nat) (sz : Nat) (xM_typed : Int32) (xM_people : Int32) (xM_posted : Int32) (xM_hears : Int32) (xM_censuses : Int32) (xM_finding : Int32) (gMtext : Nat → Int32) (gMkinds : Nat → Int32) (gMlates : Nat → Int32) (gMscarfs : Nat → Int32) (gMhands : Nat → Int32) (gMrings : Nat → Int32) (gMmains : Nat → Int32) (gMaheadOf : Nat → Int32) (gMlastIn : Nat → Int32) (gMmanyIn : Nat → Int32) (u : Int32 × Int32 × (Nat → Int32) × (Nat → Int32) × (Nat → Int32) × (Nat → Int32) × (Nat → Int32) × (Nat → Int32) × (Nat → Int32) × (Nat → Int32) × (Nat → Int32)) (hm : fM_reads xM_typed xM_people gMtext gMkinds gMlates gMscarfs gMhands gMrings gMmains gMaheadOf gMlastIn gMmanyIn = some u) : Met l yX10_reads wsX10_reads ({ frames := 1, cells := 0, slots := 0, locals := 22 }) (va_Pc [.ref (ad 0)] (fun U => U.heap.size = sz ∧ va_P (dC, dI) vwCl [oM ad xM_typed xM_people xM_posted xM_hears xM_censuses xM_finding, ar (ad 1) cA 60 gMtext, ar (ad 2) cA 20 gMkinds, ar (ad 3) cA 20 gMlates, ar (ad 4) cA 20 gMscarfs, ar (ad 5) cA 20 gMhands, ar (ad 6) cA 20 gMrings, ar (ad 7) cA 20 gMmains, ar (ad 8) cA 4 gMaheadOf, ar (ad 9) cA 4 gMlastIn, ar (ad 10) cA 4 gMmanyIn] U.heap ∧ va_K (dC, dI) vwCl [(cA, .int), (cB, .boolean)] U ∧ va_D (fun _ => True) [oM ad xM_typed xM_people xM_posted xM_hears xM_censuses xM_finding, ar (ad 1) cA 60 gMtext, ar (ad 2) cA 20 gMkinds, ar (ad 3) cA 20 gMlates, ar (ad 4) cA 20 gMscarfs, ar (ad 5) cA 20 gMhands, ar (ad 6) cA 20 gMrings, ar (ad 7) cA 20 gMmains, ar (ad 8) cA 4 gMaheadOf, ar (ad 9) cA 4 gMlastIn, ar (ad 10) cA 4 gMmanyIn])) (va_Qi (fun (r : Int32) (_ : Unit) => r = u.1) (fun (_ : Unit) t => va_P (dC, dI) vwCl [oM ad xM_typed u.2.1 xM_posted xM_hears xM_censuses xM_finding, ar (ad 1) cA 60 gMtext, ar (ad 2) cA 20 u.2.2.1, ar (ad 3) cA 20 u.2.2.2.1, ar (ad 4) cA 20 u.2.2.2.2.1, ar (ad 5) cA 20 u.2.2.2.2.2.1, ar (ad 6) cA 20 u.2.2.2.2.2.2.1, ar (ad 7) cA 20 u.2.2.2.2.2.2.2.1, ar (ad 8) cA 4 u.2.2.2.2.2.2.2.2.1, ar (ad 9) cA 4 u.2.2.2.2.2.2.2.2.2.1, ar (ad 10) cA 4 u.2.2.2.2.2.2.2.2.2.2] t.heap ∧ va_K (dC, dI) vwCl [(cA, .int), (cB, .boolean)] t ∧ va_D (va_A [oM ad xM_typed xM_people xM_posted xM_hears xM_censuses xM_finding, ar (ad 1) cA 60 gMtext, ar (ad 2) cA 20 gMkinds, ar (ad 3) cA 20 gMlates, ar (ad 4) cA 20 gMscarfs, ar (ad 5) cA 20 gMhands, ar (ad 6) cA 20 gMrings, ar (ad 7) cA 20 gMmains, ar (ad 8) cA 4 gMaheadOf, ar (ad 9) cA 4 gMlastIn, ar (ad 10) cA 4 gMmanyIn] sz) [oM ad xM_typed u.2.1 xM_posted xM_hears xM_censuses xM_finding, ar (ad 1) cA 60 gMtext, ar (ad 2) cA 20 u.2.2.1, ar (ad 3) cA 20 u.2.2.2.1, ar (ad 4) cA 20 u.2.2.2.2.1, ar (ad 5) cA 20 u.2.2.2.2.2.1, ar (ad 6) cA 20 u.2.2.2.2.2.2.1, ar (ad 7) cA 20 u.2.2.2.2.2.2.2.1, ar (ad 8) cA 4 u.2.2.2.2.2.2.2.2.1, ar (ad 9) cA 4 u.2.2.2.2.2.2.2.2.2.1, ar (ad 10) cA 4 u.2.2.2.2.2.2.2.2.2.2]) (va_A [oM ad xM_typed xM_people xM_posted xM_hears xM_censuses xM_finding, ar (ad 1) cA 60 gMtext, ar (ad 2) cA 20 gMkinds, ar (ad 3) cA 20 gMlates, ar (ad 4) cA 20 gMscarfs, ar (ad 5) cA 20 gMhands, ar (ad 6) cA 20 gMrings, ar (ad 7) cA 20 gMmains, ar (ad 8) cA 4 gMaheadOf, ar (ad 9) cA 4 gMlastIn, ar (ad 10) cA 4 gMmanyIn] sz)) 0 0 (va_A [oM ad xM_typed xM_people xM_posted xM_hears xM_censuses xM_finding, ar (ad 1) cA 60 gMtext, ar (ad 2) cA 20 gMkinds, ar (ad 3) cA 20 gMlates, ar (ad 4) cA 20 gMscarfs, ar (ad 5) cA 20 gMhands, ar (ad 6) cA 20 gMrings, ar (ad 7) cA 20 gMmains, ar (ad 8) cA 4 gMaheadOf, ar (ad 9) cA 4 gMlastIn, ar (ad 10) cA 4 gMmanyIn] sz) := by
  refine Met.ofW (cc := cX10_reads) (maxL := 7) (ret := (some .int)) (by decide) rfl ?_
  intro p e s m args below meth c s₁ B hml hv
  obtain ⟨rfl, hsz, hP, hK, hD0⟩ := hv
  have hx := B.exec
  have hb := B.bytes
  have hr := B.returns
  have hts := atoms_spec (ws := wsX10_reads) B.pre
  have hown : s.vm.findClass RX10 = some m.cls := findClass_of_methodNamed B.named
  have hlocks := B.notSynchronized
  subst hsz
  have hD := hD0.self (sz := s.heap.size)
  generalize hAe : va_A [oM ad xM_typed xM_people xM_posted xM_hears xM_censuses xM_finding, ar (ad 1) cA 60 gMtext, ar (ad 2) cA 20 gMkinds, ar (ad 3) cA 20 gMlates, ar (ad 4) cA 20 gMscarfs, ar (ad 5) cA 20 gMhands, ar (ad 6) cA 20 gMrings, ar (ad 7) cA 20 gMmains, ar (ad 8) cA 4 gMaheadOf, ar (ad 9) cA 4 gMlastIn, ar (ad 10) cA 4 gMmanyIn] s.heap.size = A at hD ⊢
  have hA : ∀ q : Nat, s.heap.size ≤ q → A q := fun q h => by rw [← hAe]; exact Or.inr h
  have hS : va_S A s.heap s.heap [] := va_S.rf
  have hl := lv_entry ([.ref (ad 0)]) (n := 7) (Nat.le_of_ble_eq_true rfl)
  rw [lg_entry_eq]
  generalize (lg_sl ([.ref (ad 0)]) ++ List.replicate (7 - (lg_sl ([.ref (ad 0)])).length) Slot.unset).toArray = ls at hl ⊢
  have hl : lv_has ls 7 [(0, .ref (ad 0))] := hl
  refine wk_Q (fun QQ hQ => ?_)
  have hinX10 : ∀ w ∈ wsX100, w ∈ wsX10_reads := fun w h => List.mem_cons_of_mem _ (inlX10 w h)
  have hl_34 := hts (.fieldLink RX10 34 "HandCensusModel" "lastIn" "[I") (List.mem_cons_of_mem _ (in_r7 _ (List.mem_of_getElem? (i := 3) rfl)))
  have hl_37 := hts (.fieldLink RX10 37 "HandCensusModel" "manyIn" "[I") (List.mem_cons_of_mem _ (in_r7 _ (List.mem_of_getElem? (i := 4) rfl)))
  have hl_112 := hts (.fieldLink RX10 112 "HandCensusModel" "people" "I") (List.mem_cons_of_mem _ (in_r12 _ (List.mem_of_getElem? (i := 4) rfl)))
  have hl_31 := hts (.fieldLink RX10 31 "HandCensusModel" "aheadOf" "[I") (List.mem_cons_of_mem _ (in_r7 _ (List.mem_of_getElem? (i := 2) rfl)))
  have hl_13 := hts (.fieldLink RX10 13 "HandCensusModel" "kinds" "[I") (List.mem_cons_of_mem _ (in_r6 _ (List.mem_of_getElem? (i := 20) rfl)))
  have hl_16 := hts (.fieldLink RX10 16 "HandCensusModel" "lates" "[I") (List.mem_cons_of_mem _ (in_r6 _ (List.mem_of_getElem? (i := 21) rfl)))
  have hl_19 := hts (.fieldLink RX10 19 "HandCensusModel" "scarfs" "[I") (List.mem_cons_of_mem _ (in_r6 _ (List.mem_of_getElem? (i := 22) rfl)))
  have hl_22 := hts (.fieldLink RX10 22 "HandCensusModel" "hands" "[I") (List.mem_cons_of_mem _ (in_r6 _ (List.mem_of_getElem? (i := 23) rfl)))
  have hl_25 := hts (.fieldLink RX10 25 "HandCensusModel" "rings" "[I") (List.mem_cons_of_mem _ (in_r7 _ (List.mem_of_getElem? (i := 0) rfl)))
  have hl_28 := hts (.fieldLink RX10 28 "HandCensusModel" "mains" "[I") (List.mem_cons_of_mem _ (in_r7 _ (List.mem_of_getElem? (i := 1) rfl)))
  have hl_108 := hts (.fieldLink RX10 108 "HandCensusModel" "typed" "I") (List.mem_cons_of_mem _ (in_r10 _ (List.mem_of_getElem? (i := 23) rfl)))
  have hl_7 := hts (.fieldLink RX10 7 "HandCensusModel" "text" "[I") (List.mem_cons_of_mem _ (in_r6 _ (List.mem_of_getElem? (i := 19) rfl)))
  have h_30 : ∀ (n_30 : Nat), ∀ (v1_30 : Int32) (v2_30 : Int32) (xM_people_30 : Int32) (gMkinds_30 : Nat → Int32) (gMlates_30 : Nat → Int32) (gMscarfs_30 : Nat → Int32) (gMhands_30 : Nat → Int32) (gMrings_30 : Nat → Int32) (gMmains_30 : Nat → Int32) (gMaheadOf_30 : Nat → Int32) (gMlastIn_30 : Nat → Int32) (gMmanyIn_30 : Nat → Int32), fM_reads_30 xM_typed gMtext n_30 v1_30 v2_30 xM_people_30 gMkinds_30 gMlates_30 gMscarfs_30 gMhands_30 gMrings_30 gMmains_30 gMaheadOf_30 gMlastIn_30 gMmanyIn_30 = some u → ∀ (H : Heap) (locs : List Loc), va_P (dC, dI) vwCl [oM ad xM_typed xM_people_30 xM_posted xM_hears xM_censuses xM_finding, ar (ad 1) cA 60 gMtext, ar (ad 2) cA 20 gMkinds_30, ar (ad 3) cA 20 gMlates_30, ar (ad 4) cA 20 gMscarfs_30, ar (ad 5) cA 20 gMhands_30, ar (ad 6) cA 20 gMrings_30, ar (ad 7) cA 20 gMmains_30, ar (ad 8) cA 4 gMaheadOf_30, ar (ad 9) cA 4 gMlastIn_30, ar (ad 10) cA 4 gMmanyIn_30] H → va_D A [oM ad xM_typed xM_people_30 xM_posted xM_hears xM_censuses xM_finding, ar (ad 1) cA 60 gMtext, ar (ad 2) cA 20 gMkinds_30, ar (ad 3) cA 20 gMlates_30, ar (ad 4) cA 20 gMscarfs_30, ar (ad 5) cA 20 gMhands_30, ar (ad 6) cA 20 gMrings_30, ar (ad 7) cA 20 gMmains_30, ar (ad 8) cA 4 gMaheadOf_30, ar (ad 9) cA 4 gMlastIn_30, ar (ad 10) cA 4 gMmanyIn_30] → va_S A s.heap H locs → ∀ ls : Array Slot, lv_has ls 7 [(0, .ref (ad 0)), (1, .int v1_30), (2, .int v2_30)] → W p l e (headSpec wsX10_reads ({ frames := 1, cells := 0, slots := 0, locals := 22 })).room s m ([.ref (ad 0)] : List Value).toArray below meth c H locs 0 0 QQ (F0 m 30 ls []) := by
    intro n_30
    induction n_30 with
    | zero => intro v1_30 v2_30 xM_people_30 gMkinds_30 gMlates_30 gMscarfs_30 gMhands_30 gMrings_30 gMmains_30 gMaheadOf_30 gMlastIn_30 gMmanyIn_30 hm; have hm : (none : Option (Int32 × Int32 × (Nat → Int32) × (Nat → Int32) × (Nat → Int32) × (Nat → Int32) × (Nat → Int32) × (Nat → Int32) × (Nat → Int32) × (Nat → Int32) × (Nat → Int32))) = some u := hm; cases hm
    | succ n_30 ih_30 =>
      have b_447 : ∀ (v1_447 : Int32) (v2_447 : Int32) (xM_people_447 : Int32) (gMkinds_447 : Nat → Int32) (gMlates_447 : Nat → Int32) (gMscarfs_447 : Nat → Int32) (gMhands_447 : Nat → Int32) (gMrings_447 : Nat → Int32) (gMmains_447 : Nat → Int32) (gMaheadOf_447 : Nat → Int32) (gMlastIn_447 : Nat → Int32) (gMmanyIn_447 : Nat → Int32), fM_reads_447 (fM_reads_30  xM_typed gMtext n_30) v1_447 v2_447 xM_typed xM_people_447 gMtext gMkinds_447 gMlates_447 gMscarfs_447 gMhands_447 gMrings_447 gMmains_447 gMaheadOf_447 gMlastIn_447 gMmanyIn_447 = some u → ∀ (H : Heap) (locs : List Loc), va_P (dC, dI) vwCl [oM ad xM_typed xM_people_447 xM_posted xM_hears xM_censuses xM_finding, ar (ad 1) cA 60 gMtext, ar (ad 2) cA 20 gMkinds_447, ar (ad 3) cA 20 gMlates_447, ar (ad 4) cA 20 gMscarfs_447, ar (ad 5) cA 20 gMhands_447, ar (ad 6) cA 20 gMrings_447, ar (ad 7) cA 20 gMmains_447, ar (ad 8) cA 4 gMaheadOf_447, ar (ad 9) cA 4 gMlastIn_447, ar (ad 10) cA 4 gMmanyIn_447] H → va_D A [oM ad xM_typed xM_people_447 xM_posted xM_hears xM_censuses xM_finding, ar (ad 1) cA 60 gMtext, ar (ad 2) cA 20 gMkinds_447, ar (ad 3) cA 20 gMlates_447, ar (ad 4) cA 20 gMscarfs_447, ar (ad 5) cA 20 gMhands_447, ar (ad 6) cA 20 gMrings_447, ar (ad 7) cA 20 gMmains_447, ar (ad 8) cA 4 gMaheadOf_447, ar (ad 9) cA 4 gMlastIn_447, ar (ad 10) cA 4 gMmanyIn_447] → va_S A s.heap H locs → ∀ ls : Array Slot, lv_has ls 7 [(0, .ref (ad 0)), (1, .int v1_447), (2, .int v2_447)] → W p l e (headSpec wsX10_reads ({ frames := 1, cells := 0, slots := 0, locals := 22 })).room s m ([.ref (ad 0)] : List Value).toArray below meth c H locs 0 0 QQ (F0 m 447 ls []) := by
        intro v1_447 v2_447 xM_people_447 gMkinds_447 gMlates_447 gMscarfs_447 gMhands_447 gMrings_447 gMmains_447 gMaheadOf_447 gMlastIn_447 gMmanyIn_447 hm H locs hP hD hS ls hl
        unfold fM_reads_447 at hm
        refine lv_goto (tgt := 30) hx hb dX10_reads_447 (by decide) ?_
        exact ih_30 _ _ _ _ _ _ _ _ _ _ _ _ hm _ _ hP hD hS _ (lv_sub hl [0, 1, 2] rfl)
      have b_416 : ∀ (v1_416 : Int32) (v2_416 : Int32) (v5_416 : Int32) (xM_people_416 : Int32) (gMkinds_416 : Nat → Int32) (gMlates_416 : Nat → Int32) (gMscarfs_416 : Nat → Int32) (gMhands_416 : Nat → Int32) (gMrings_416 : Nat → Int32) (gMmains_416 : Nat → Int32) (gMaheadOf_416 : Nat → Int32) (gMlastIn_416 : Nat → Int32) (gMmanyIn_416 : Nat → Int32), fM_reads_416 (fM_reads_30  xM_typed gMtext n_30) v1_416 v2_416 v5_416 xM_typed xM_people_416 gMtext gMkinds_416 gMlates_416 gMscarfs_416 gMhands_416 gMrings_416 gMmains_416 gMaheadOf_416 gMlastIn_416 gMmanyIn_416 = some u → ∀ (H : Heap) (locs : List Loc), va_P (dC, dI) vwCl [oM ad xM_typed xM_people_416 xM_posted xM_hears xM_censuses xM_finding, ar (ad 1) cA 60 gMtext, ar (ad 2) cA 20 gMkinds_416, ar (ad 3) cA 20 gMlates_416, ar (ad 4) cA 20 gMscarfs_416, ar (ad 5) cA 20 gMhands_416, ar (ad 6) cA 20 gMrings_416, ar (ad 7) cA 20 gMmains_416, ar (ad 8) cA 4 gMaheadOf_416, ar (ad 9) cA 4 gMlastIn_416, ar (ad 10) cA 4 gMmanyIn_416] H → va_D A [oM ad xM_typed xM_people_416 xM_posted xM_hears xM_censuses xM_finding, ar (ad 1) cA 60 gMtext, ar (ad 2) cA 20 gMkinds_416, ar (ad 3) cA 20 gMlates_416, ar (ad 4) cA 20 gMscarfs_416, ar (ad 5) cA 20 gMhands_416, ar (ad 6) cA 20 gMrings_416, ar (ad 7) cA 20 gMmains_416, ar (ad 8) cA 4 gMaheadOf_416, ar (ad 9) cA 4 gMlastIn_416, ar (ad 10) cA 4 gMmanyIn_416] → va_S A s.heap H locs → ∀ ls : Array Slot, lv_has ls 7 [(0, .ref (ad 0)), (1, .int v1_416), (2, .int v2_416), (5, .int v5_416)] → W p l e (headSpec wsX10_reads ({ frames := 1, cells := 0, slots := 0, locals := 22 })).room s m ([.ref (ad 0)] : List Value).toArray below meth c H locs 0 0 QQ (F0 m 416 ls []) := by
        intro v1_416 v2_416 v5_416 xM_people_416 gMkinds_416 gMlates_416 gMscarfs_416 gMhands_416 gMrings_416 gMmains_416 gMaheadOf_416 gMlastIn_416 gMmanyIn_416 hm H locs hP hD hS ls hl
        unfold fM_reads_416 at hm
        refine lv_aload_n hx hb dX10_reads_416 rfl (lv_at hl 0 rfl) ?_
        refine va_get (D := (dC, dI)) (ci := 10) (v := .ref (ad 9)) (C := RX10) (T := TX10) (N := 37) hx hb hts hinX10 hown hK hP 0 rfl rfl 10 (by decide) hl_34 (fun _ h9 => h9) rfl dX10_reads_417 ?_
        refine lv_iload_n hx hb dX10_reads_420 rfl (lv_at hl 1 rfl) ?_
        refine lv_iload hx hb dX10_reads_421 (lv_at hl 3 rfl) ?_
        obtain ⟨i_1, hm⟩ := ck_ok hm
        refine va_iast hx hb hK hP hD hS 9 0 rfl rfl i_1 dX10_reads_423 (fun H locs hP hD hS => ?_)
        have hP : va_P (dC, dI) vwCl [oM ad xM_typed xM_people_416 xM_posted xM_hears xM_censuses xM_finding, ar (ad 1) cA 60 gMtext, ar (ad 2) cA 20 gMkinds_416, ar (ad 3) cA 20 gMlates_416, ar (ad 4) cA 20 gMscarfs_416, ar (ad 5) cA 20 gMhands_416, ar (ad 6) cA 20 gMrings_416, ar (ad 7) cA 20 gMmains_416, ar (ad 8) cA 4 gMaheadOf_416, ar (ad 9) cA 4 (upd gMlastIn_416 v1_416.toNatClampNeg v5_416), ar (ad 10) cA 4 gMmanyIn_416] H := hP
        have hD : va_D A [oM ad xM_typed xM_people_416 xM_posted xM_hears xM_censuses xM_finding, ar (ad 1) cA 60 gMtext, ar (ad 2) cA 20 gMkinds_416, ar (ad 3) cA 20 gMlates_416, ar (ad 4) cA 20 gMscarfs_416, ar (ad 5) cA 20 gMhands_416, ar (ad 6) cA 20 gMrings_416, ar (ad 7) cA 20 gMmains_416, ar (ad 8) cA 4 gMaheadOf_416, ar (ad 9) cA 4 (upd gMlastIn_416 v1_416.toNatClampNeg v5_416), ar (ad 10) cA 4 gMmanyIn_416] := hD
        refine lv_aload_n hx hb dX10_reads_424 rfl (lv_at hl 0 rfl) ?_
        refine va_get (D := (dC, dI)) (ci := 10) (v := .ref (ad 10)) (C := RX10) (T := TX10) (N := 37) hx hb hts hinX10 hown hK hP 0 rfl rfl 11 (by decide) hl_37 (fun _ h9 => h9) rfl dX10_reads_425 ?_
        refine lv_iload_n hx hb dX10_reads_428 rfl (lv_at hl 1 rfl) ?_
        refine lv_dup2_11 hx hb dX10_reads_429 rfl rfl ?_
        obtain ⟨i_2, hm⟩ := ck_ok hm
        refine va_iald hx hb hK hP 10 0 rfl rfl i_2 dX10_reads_430 ?_
        refine lv_iconst (v := 1) hx hb dX10_reads_431 (by decide) ?_
        refine lv_iadd hx hb dX10_reads_432 ?_
        obtain ⟨i_3, hm⟩ := ck_ok hm
        refine va_iast hx hb hK hP hD hS 10 0 rfl rfl i_3 dX10_reads_433 (fun H locs hP hD hS => ?_)
        have hP : va_P (dC, dI) vwCl [oM ad xM_typed xM_people_416 xM_posted xM_hears xM_censuses xM_finding, ar (ad 1) cA 60 gMtext, ar (ad 2) cA 20 gMkinds_416, ar (ad 3) cA 20 gMlates_416, ar (ad 4) cA 20 gMscarfs_416, ar (ad 5) cA 20 gMhands_416, ar (ad 6) cA 20 gMrings_416, ar (ad 7) cA 20 gMmains_416, ar (ad 8) cA 4 gMaheadOf_416, ar (ad 9) cA 4 (upd gMlastIn_416 v1_416.toNatClampNeg v5_416), ar (ad 10) cA 4 (upd gMmanyIn_416 v1_416.toNatClampNeg ((gMmanyIn_416 v1_416.toNatClampNeg) + 1))] H := hP
        have hD : va_D A [oM ad xM_typed xM_people_416 xM_posted xM_hears xM_censuses xM_finding, ar (ad 1) cA 60 gMtext, ar (ad 2) cA 20 gMkinds_416, ar (ad 3) cA 20 gMlates_416, ar (ad 4) cA 20 gMscarfs_416, ar (ad 5) cA 20 gMhands_416, ar (ad 6) cA 20 gMrings_416, ar (ad 7) cA 20 gMmains_416, ar (ad 8) cA 4 gMaheadOf_416, ar (ad 9) cA 4 (upd gMlastIn_416 v1_416.toNatClampNeg v5_416), ar (ad 10) cA 4 (upd gMmanyIn_416 v1_416.toNatClampNeg ((gMmanyIn_416 v1_416.toNatClampNeg) + 1))] := hD
        refine lv_aload_n hx hb dX10_reads_434 rfl (lv_at hl 0 rfl) ?_
        refine lv_dup hx hb dX10_reads_435 rfl ?_
        refine va_get (D := (dC, dI)) (ci := 10) (v := .int xM_people_416) (C := RX10) (T := TX10) (N := 37) hx hb hts hinX10 hown hK hP 0 rfl rfl 2 (by decide) hl_112 (fun _ h9 => h9) rfl dX10_reads_436 ?_
        refine lv_iconst (v := 1) hx hb dX10_reads_439 (by decide) ?_
        refine lv_iadd hx hb dX10_reads_440 ?_
        refine va_put (D := (dC, dI)) (ci := 10) (v := .int (xM_people_416 + 1)) (ty := .int) (C := RX10) (T := TX10) (N := 37) hx hb hts hinX10 tyX10 tyX10_ok nmX10 hown hK hP hD hS 0 rfl rfl 2 (by decide) hl_112 (fun _ h9 => h9) rfl (by decide +kernel) rfl rfl (Nat.le_of_ble_eq_true rfl) dX10_reads_441 (fun H locs hP hD hS => ?_)
        have hP : va_P (dC, dI) vwCl [oM ad xM_typed (xM_people_416 + 1) xM_posted xM_hears xM_censuses xM_finding, ar (ad 1) cA 60 gMtext, ar (ad 2) cA 20 gMkinds_416, ar (ad 3) cA 20 gMlates_416, ar (ad 4) cA 20 gMscarfs_416, ar (ad 5) cA 20 gMhands_416, ar (ad 6) cA 20 gMrings_416, ar (ad 7) cA 20 gMmains_416, ar (ad 8) cA 4 gMaheadOf_416, ar (ad 9) cA 4 (upd gMlastIn_416 v1_416.toNatClampNeg v5_416), ar (ad 10) cA 4 (upd gMmanyIn_416 v1_416.toNatClampNeg ((gMmanyIn_416 v1_416.toNatClampNeg) + 1))] H := hP
        have hD : va_D A [oM ad xM_typed (xM_people_416 + 1) xM_posted xM_hears xM_censuses xM_finding, ar (ad 1) cA 60 gMtext, ar (ad 2) cA 20 gMkinds_416, ar (ad 3) cA 20 gMlates_416, ar (ad 4) cA 20 gMscarfs_416, ar (ad 5) cA 20 gMhands_416, ar (ad 6) cA 20 gMrings_416, ar (ad 7) cA 20 gMmains_416, ar (ad 8) cA 4 gMaheadOf_416, ar (ad 9) cA 4 (upd gMlastIn_416 v1_416.toNatClampNeg v5_416), ar (ad 10) cA 4 (upd gMmanyIn_416 v1_416.toNatClampNeg ((gMmanyIn_416 v1_416.toNatClampNeg) + 1))] := hD
        refine lv_iinc (v := (v2_416 + 2)) (lv' := [(2, .int (v2_416 + 2)), (0, .ref (ad 0)), (1, .int v1_416), (5, .int v5_416)]) hx hb dX10_reads_444 hl (k := 2) rfl rfl (by decide) rfl (fun ls hl => ?_)
        exact b_447 _ _ _ _ _ _ _ _ _ _ _ _ hm _ _ hP hD hS _ (lv_sub hl [1, 2, 0] rfl)
      have b_400 : ∀ (v1_400 : Int32) (v2_400 : Int32) (v5_400 : Int32) (s0_400 : Int32) (xM_people_400 : Int32) (gMkinds_400 : Nat → Int32) (gMlates_400 : Nat → Int32) (gMscarfs_400 : Nat → Int32) (gMhands_400 : Nat → Int32) (gMrings_400 : Nat → Int32) (gMmains_400 : Nat → Int32) (gMaheadOf_400 : Nat → Int32) (gMlastIn_400 : Nat → Int32) (gMmanyIn_400 : Nat → Int32), fM_reads_400 (fM_reads_30  xM_typed gMtext n_30) v1_400 v2_400 v5_400 s0_400 xM_typed xM_people_400 gMtext gMkinds_400 gMlates_400 gMscarfs_400 gMhands_400 gMrings_400 gMmains_400 gMaheadOf_400 gMlastIn_400 gMmanyIn_400 = some u → ∀ (H : Heap) (locs : List Loc), va_P (dC, dI) vwCl [oM ad xM_typed xM_people_400 xM_posted xM_hears xM_censuses xM_finding, ar (ad 1) cA 60 gMtext, ar (ad 2) cA 20 gMkinds_400, ar (ad 3) cA 20 gMlates_400, ar (ad 4) cA 20 gMscarfs_400, ar (ad 5) cA 20 gMhands_400, ar (ad 6) cA 20 gMrings_400, ar (ad 7) cA 20 gMmains_400, ar (ad 8) cA 4 gMaheadOf_400, ar (ad 9) cA 4 gMlastIn_400, ar (ad 10) cA 4 gMmanyIn_400] H → va_D A [oM ad xM_typed xM_people_400 xM_posted xM_hears xM_censuses xM_finding, ar (ad 1) cA 60 gMtext, ar (ad 2) cA 20 gMkinds_400, ar (ad 3) cA 20 gMlates_400, ar (ad 4) cA 20 gMscarfs_400, ar (ad 5) cA 20 gMhands_400, ar (ad 6) cA 20 gMrings_400, ar (ad 7) cA 20 gMmains_400, ar (ad 8) cA 4 gMaheadOf_400, ar (ad 9) cA 4 gMlastIn_400, ar (ad 10) cA 4 gMmanyIn_400] → va_S A s.heap H locs → ∀ ls : Array Slot, lv_has ls 7 [(0, .ref (ad 0)), (1, .int v1_400), (2, .int v2_400), (5, .int v5_400)] → W p l e (headSpec wsX10_reads ({ frames := 1, cells := 0, slots := 0, locals := 22 })).room s m ([.ref (ad 0)] : List Value).toArray below meth c H locs 0 0 QQ (F0 m 400 ls [.int s0_400]) := by
        intro v1_400 v2_400 v5_400 s0_400 xM_people_400 gMkinds_400 gMlates_400 gMscarfs_400 gMhands_400 gMrings_400 gMmains_400 gMaheadOf_400 gMlastIn_400 gMmanyIn_400 hm H locs hP hD hS ls hl
        unfold fM_reads_400 at hm
        refine lv_istore (lv' := [(6, .int s0_400), (0, .ref (ad 0)), (1, .int v1_400), (2, .int v2_400), (5, .int v5_400)]) hx hb dX10_reads_400 hl (by decide) rfl (fun ls hl => ?_)
        refine lv_iload hx hb dX10_reads_402 (lv_at hl 0 rfl) ?_
        refine lv_iconst (v := (-1)) hx hb dX10_reads_404 (by decide) ?_
        refine lv_icmp_eq (tgt := 416) hx hb dX10_reads_405 (by decide) (fun c_4 => ?_) (fun c_4 => ?_)
        · have hm := it_pos c_4 hm
          exact b_416 _ _ _ _ _ _ _ _ _ _ _ _ _ hm _ _ hP hD hS _ (lv_sub hl [1, 2, 3, 4] rfl)
        · have hm := it_neg c_4 hm
          refine lv_aload_n hx hb dX10_reads_408 rfl (lv_at hl 1 rfl) ?_
          refine lv_iload hx hb dX10_reads_409 (lv_at hl 4 rfl) ?_
          refine lv_iload hx hb dX10_reads_411 (lv_at hl 0 rfl) ?_
          have hPc := hP.sub (ws' := [oM ad xM_typed xM_people_400 xM_posted xM_hears xM_censuses xM_finding, ar (ad 5) cA 20 gMhands_400]) [0, 5] rfl
          have hDc := hD.sub (ws' := [oM ad xM_typed xM_people_400 xM_posted xM_hears xM_censuses xM_finding, ar (ad 5) cA 20 gMhands_400]) [0, 5] (by decide) rfl
          have hFc := va_free (wc := [oM ad xM_typed xM_people_400 xM_posted xM_hears xM_censuses xM_finding, ar (ad 5) cA 20 gMhands_400]) hD hS hA [0, 5] rfl
          obtain ⟨u_5, hc_5, hm⟩ := bd_ok hm
          refine va_callv (va_runV (As := [.int v5_400, .int s0_400]) (rest := []) ⟨hx, hb, hml, hown, hts⟩ (kM_holds l dC dI cA cB ad H.size v5_400 s0_400 xM_typed xM_people_400 xM_posted xM_hears xM_censuses xM_finding gMhands_400 u_5 hc_5) (cwV 2 hts gX10_reads_X10_holds rfl rfl rfl (by decide +kernel) ⟨Nat.le_of_ble_eq_true rfl, Nat.le_of_ble_eq_true rfl⟩) ⟨fun a U g mk q => by obtain ⟨q0, q1, qP, qK, qD⟩ := q; exact ⟨q0, q1, qP, va_K.moved (u := U) (U := U.calling g mk a) (Vm.Alike.refl U.vm) qK, qD⟩, va_recv hK hPc (ci := 10) (q0 := 0) rfl rfl, fun U hU hW => ⟨rfl, by rw [hU], by rw [hU]; exact hPc, va_K.moved hW.alike hK, hDc.weaken (fun _ _ _ _ => trivial)⟩⟩ rfl rfl hl.1 rfl (lv_room (Nat.le_of_ble_eq_true rfl)) dX10_reads_413 ⟨Nat.le_of_ble_eq_true rfl, Nat.le_of_ble_eq_true rfl⟩) hS (fun q _ h => hFc q h) hFc (fun _ t H1 locs ht hvm hw hB hz1 hk1 hS => ?_)
          obtain ⟨hP1, hK1, hD1⟩ := hB
          rw [ht] at hP1
          obtain ⟨hP, hD⟩ := va_join (wr := [ar (ad 1) cA 60 gMtext, ar (ad 2) cA 20 gMkinds_400, ar (ad 3) cA 20 gMlates_400, ar (ad 4) cA 20 gMscarfs_400, ar (ad 6) cA 20 gMrings_400, ar (ad 7) cA 20 gMmains_400, ar (ad 8) cA 4 gMaheadOf_400, ar (ad 9) cA 4 gMlastIn_400, ar (ad 10) cA 4 gMmanyIn_400]) (w1 := [oM ad xM_typed xM_people_400 xM_posted xM_hears xM_censuses xM_finding, ar (ad 5) cA 20 u_5]) hP hD [0, 5] [1, 2, 3, 4, 6, 7, 8, 9, 10] rfl rfl (by decide) (by decide) hk1 hFc hP1 hD1
          clear hPc hDc hFc hP1 hK1 hD1 hk1 hz1 hvm ht
          generalize H1 = H at hP hS ⊢
          have hP : va_P (dC, dI) vwCl [oM ad xM_typed xM_people_400 xM_posted xM_hears xM_censuses xM_finding, ar (ad 1) cA 60 gMtext, ar (ad 2) cA 20 gMkinds_400, ar (ad 3) cA 20 gMlates_400, ar (ad 4) cA 20 gMscarfs_400, ar (ad 5) cA 20 u_5, ar (ad 6) cA 20 gMrings_400, ar (ad 7) cA 20 gMmains_400, ar (ad 8) cA 4 gMaheadOf_400, ar (ad 9) cA 4 gMlastIn_400, ar (ad 10) cA 4 gMmanyIn_400] H := hP.sub [9, 0, 1, 2, 3, 10, 4, 5, 6, 7, 8] rfl
          have hD : va_D A [oM ad xM_typed xM_people_400 xM_posted xM_hears xM_censuses xM_finding, ar (ad 1) cA 60 gMtext, ar (ad 2) cA 20 gMkinds_400, ar (ad 3) cA 20 gMlates_400, ar (ad 4) cA 20 gMscarfs_400, ar (ad 5) cA 20 u_5, ar (ad 6) cA 20 gMrings_400, ar (ad 7) cA 20 gMmains_400, ar (ad 8) cA 4 gMaheadOf_400, ar (ad 9) cA 4 gMlastIn_400, ar (ad 10) cA 4 gMmanyIn_400] := hD.sub [9, 0, 1, 2, 3, 10, 4, 5, 6, 7, 8] (by decide) rfl
          exact b_416 _ _ _ _ _ _ _ _ _ _ _ _ _ hm _ _ hP hD hS _ (lv_sub hl [1, 2, 3, 4] rfl)
      have b_374 : ∀ (v1_374 : Int32) (v2_374 : Int32) (v5_374 : Int32) (s1_374 : Int32) (s2_374 : Int32) (xM_people_374 : Int32) (gMkinds_374 : Nat → Int32) (gMlates_374 : Nat → Int32) (gMscarfs_374 : Nat → Int32) (gMhands_374 : Nat → Int32) (gMrings_374 : Nat → Int32) (gMmains_374 : Nat → Int32) (gMaheadOf_374 : Nat → Int32) (gMlastIn_374 : Nat → Int32) (gMmanyIn_374 : Nat → Int32), fM_reads_374 (fM_reads_30  xM_typed gMtext n_30) v1_374 v2_374 v5_374 s1_374 s2_374 xM_typed xM_people_374 gMtext gMkinds_374 gMlates_374 gMscarfs_374 gMhands_374 gMrings_374 gMmains_374 gMaheadOf_374 gMlastIn_374 gMmanyIn_374 = some u → ∀ (H : Heap) (locs : List Loc), va_P (dC, dI) vwCl [oM ad xM_typed xM_people_374 xM_posted xM_hears xM_censuses xM_finding, ar (ad 1) cA 60 gMtext, ar (ad 2) cA 20 gMkinds_374, ar (ad 3) cA 20 gMlates_374, ar (ad 4) cA 20 gMscarfs_374, ar (ad 5) cA 20 gMhands_374, ar (ad 6) cA 20 gMrings_374, ar (ad 7) cA 20 gMmains_374, ar (ad 8) cA 4 gMaheadOf_374, ar (ad 9) cA 4 gMlastIn_374, ar (ad 10) cA 4 gMmanyIn_374] H → va_D A [oM ad xM_typed xM_people_374 xM_posted xM_hears xM_censuses xM_finding, ar (ad 1) cA 60 gMtext, ar (ad 2) cA 20 gMkinds_374, ar (ad 3) cA 20 gMlates_374, ar (ad 4) cA 20 gMscarfs_374, ar (ad 5) cA 20 gMhands_374, ar (ad 6) cA 20 gMrings_374, ar (ad 7) cA 20 gMmains_374, ar (ad 8) cA 4 gMaheadOf_374, ar (ad 9) cA 4 gMlastIn_374, ar (ad 10) cA 4 gMmanyIn_374] → va_S A s.heap H locs → ∀ ls : Array Slot, lv_has ls 7 [(0, .ref (ad 0)), (1, .int v1_374), (2, .int v2_374), (5, .int v5_374)] → W p l e (headSpec wsX10_reads ({ frames := 1, cells := 0, slots := 0, locals := 22 })).room s m ([.ref (ad 0)] : List Value).toArray below meth c H locs 0 0 QQ (F0 m 374 ls [.int s2_374, .int s1_374, .ref (ad 7)]) := by
        intro v1_374 v2_374 v5_374 s1_374 s2_374 xM_people_374 gMkinds_374 gMlates_374 gMscarfs_374 gMhands_374 gMrings_374 gMmains_374 gMaheadOf_374 gMlastIn_374 gMmanyIn_374 hm H locs hP hD hS ls hl
        unfold fM_reads_374 at hm
        obtain ⟨i_6, hm⟩ := ck_ok hm
        refine va_iast hx hb hK hP hD hS 7 0 rfl rfl i_6 dX10_reads_374 (fun H locs hP hD hS => ?_)
        have hP : va_P (dC, dI) vwCl [oM ad xM_typed xM_people_374 xM_posted xM_hears xM_censuses xM_finding, ar (ad 1) cA 60 gMtext, ar (ad 2) cA 20 gMkinds_374, ar (ad 3) cA 20 gMlates_374, ar (ad 4) cA 20 gMscarfs_374, ar (ad 5) cA 20 gMhands_374, ar (ad 6) cA 20 gMrings_374, ar (ad 7) cA 20 (upd gMmains_374 s1_374.toNatClampNeg s2_374), ar (ad 8) cA 4 gMaheadOf_374, ar (ad 9) cA 4 gMlastIn_374, ar (ad 10) cA 4 gMmanyIn_374] H := hP
        have hD : va_D A [oM ad xM_typed xM_people_374 xM_posted xM_hears xM_censuses xM_finding, ar (ad 1) cA 60 gMtext, ar (ad 2) cA 20 gMkinds_374, ar (ad 3) cA 20 gMlates_374, ar (ad 4) cA 20 gMscarfs_374, ar (ad 5) cA 20 gMhands_374, ar (ad 6) cA 20 gMrings_374, ar (ad 7) cA 20 (upd gMmains_374 s1_374.toNatClampNeg s2_374), ar (ad 8) cA 4 gMaheadOf_374, ar (ad 9) cA 4 gMlastIn_374, ar (ad 10) cA 4 gMmanyIn_374] := hD
        refine lv_aload_n hx hb dX10_reads_375 rfl (lv_at hl 0 rfl) ?_
        refine va_get (D := (dC, dI)) (ci := 10) (v := .ref (ad 9)) (C := RX10) (T := TX10) (N := 37) hx hb hts hinX10 hown hK hP 0 rfl rfl 10 (by decide) hl_34 (fun _ h9 => h9) rfl dX10_reads_376 ?_
        refine lv_iload_n hx hb dX10_reads_379 rfl (lv_at hl 1 rfl) ?_
        obtain ⟨i_7, hm⟩ := ck_ok hm
        refine va_iald hx hb hK hP 9 0 rfl rfl i_7 dX10_reads_380 ?_
        refine lv_iconst (v := (-1)) hx hb dX10_reads_381 (by decide) ?_
        refine lv_icmp_eq (tgt := 394) hx hb dX10_reads_382 (by decide) (fun c_8 => ?_) (fun c_8 => ?_)
        · have hm := it_pos c_8 hm
          refine lv_aload_n hx hb dX10_reads_394 rfl (lv_at hl 0 rfl) ?_
          refine va_get (D := (dC, dI)) (ci := 10) (v := .ref (ad 8)) (C := RX10) (T := TX10) (N := 37) hx hb hts hinX10 hown hK hP 0 rfl rfl 9 (by decide) hl_31 (fun _ h9 => h9) rfl dX10_reads_395 ?_
          refine lv_iload_n hx hb dX10_reads_398 rfl (lv_at hl 1 rfl) ?_
          obtain ⟨i_9, hm⟩ := ck_ok hm
          refine va_iald hx hb hK hP 8 0 rfl rfl i_9 dX10_reads_399 ?_
          exact b_400 _ _ _ _ _ _ _ _ _ _ _ _ _ _ hm _ _ hP hD hS _ (lv_sub hl [0, 1, 2, 3] rfl)
        · have hm := it_neg c_8 hm
          refine lv_aload_n hx hb dX10_reads_385 rfl (lv_at hl 0 rfl) ?_
          refine va_get (D := (dC, dI)) (ci := 10) (v := .ref (ad 9)) (C := RX10) (T := TX10) (N := 37) hx hb hts hinX10 hown hK hP 0 rfl rfl 10 (by decide) hl_34 (fun _ h9 => h9) rfl dX10_reads_386 ?_
          refine lv_iload_n hx hb dX10_reads_389 rfl (lv_at hl 1 rfl) ?_
          obtain ⟨i_10, hm⟩ := ck_ok hm
          refine va_iald hx hb hK hP 9 0 rfl rfl i_10 dX10_reads_390 ?_
          refine lv_goto (tgt := 400) hx hb dX10_reads_391 (by decide) ?_
          exact b_400 _ _ _ _ _ _ _ _ _ _ _ _ _ _ hm _ _ hP hD hS _ (lv_sub hl [0, 1, 2, 3] rfl)
      have b_256 : ∀ (v1_256 : Int32) (v2_256 : Int32) (v4_256 : Int32) (xM_people_256 : Int32) (gMkinds_256 : Nat → Int32) (gMlates_256 : Nat → Int32) (gMscarfs_256 : Nat → Int32) (gMhands_256 : Nat → Int32) (gMrings_256 : Nat → Int32) (gMmains_256 : Nat → Int32) (gMaheadOf_256 : Nat → Int32) (gMlastIn_256 : Nat → Int32) (gMmanyIn_256 : Nat → Int32), fM_reads_256 (fM_reads_30  xM_typed gMtext n_30) v1_256 v2_256 v4_256 xM_typed xM_people_256 gMtext gMkinds_256 gMlates_256 gMscarfs_256 gMhands_256 gMrings_256 gMmains_256 gMaheadOf_256 gMlastIn_256 gMmanyIn_256 = some u → ∀ (H : Heap) (locs : List Loc), va_P (dC, dI) vwCl [oM ad xM_typed xM_people_256 xM_posted xM_hears xM_censuses xM_finding, ar (ad 1) cA 60 gMtext, ar (ad 2) cA 20 gMkinds_256, ar (ad 3) cA 20 gMlates_256, ar (ad 4) cA 20 gMscarfs_256, ar (ad 5) cA 20 gMhands_256, ar (ad 6) cA 20 gMrings_256, ar (ad 7) cA 20 gMmains_256, ar (ad 8) cA 4 gMaheadOf_256, ar (ad 9) cA 4 gMlastIn_256, ar (ad 10) cA 4 gMmanyIn_256] H → va_D A [oM ad xM_typed xM_people_256 xM_posted xM_hears xM_censuses xM_finding, ar (ad 1) cA 60 gMtext, ar (ad 2) cA 20 gMkinds_256, ar (ad 3) cA 20 gMlates_256, ar (ad 4) cA 20 gMscarfs_256, ar (ad 5) cA 20 gMhands_256, ar (ad 6) cA 20 gMrings_256, ar (ad 7) cA 20 gMmains_256, ar (ad 8) cA 4 gMaheadOf_256, ar (ad 9) cA 4 gMlastIn_256, ar (ad 10) cA 4 gMmanyIn_256] → va_S A s.heap H locs → ∀ ls : Array Slot, lv_has ls 7 [(0, .ref (ad 0)), (1, .int v1_256), (2, .int v2_256), (4, .int v4_256)] → W p l e (headSpec wsX10_reads ({ frames := 1, cells := 0, slots := 0, locals := 22 })).room s m ([.ref (ad 0)] : List Value).toArray below meth c H locs 0 0 QQ (F0 m 256 ls []) := by
        intro v1_256 v2_256 v4_256 xM_people_256 gMkinds_256 gMlates_256 gMscarfs_256 gMhands_256 gMrings_256 gMmains_256 gMaheadOf_256 gMlastIn_256 gMmanyIn_256 hm H locs hP hD hS ls hl
        unfold fM_reads_256 at hm
        refine lv_iload_n hx hb dX10_reads_256 rfl (lv_at hl 2 rfl) ?_
        refine lv_iload hx hb dX10_reads_257 (lv_at hl 3 rfl) ?_
        refine lv_iadd hx hb dX10_reads_259 ?_
        refine lv_istore_n (lv' := [(2, .int (v2_256 + v4_256)), (0, .ref (ad 0)), (1, .int v1_256), (4, .int v4_256)]) hx hb dX10_reads_260 rfl hl (by decide) rfl (fun ls hl => ?_)
        refine lv_aload_n hx hb dX10_reads_261 rfl (lv_at hl 1 rfl) ?_
        refine lv_iload_n hx hb dX10_reads_262 rfl (lv_at hl 0 rfl) ?_
        have hPc := hP.sub (ws' := [oM ad xM_typed xM_people_256 xM_posted xM_hears xM_censuses xM_finding, ar (ad 1) cA 60 gMtext]) [0, 1] rfl
        have hDc := hD.sub (ws' := [oM ad xM_typed xM_people_256 xM_posted xM_hears xM_censuses xM_finding, ar (ad 1) cA 60 gMtext]) [0, 1] (by decide) rfl
        have hFc := va_free (wc := [oM ad xM_typed xM_people_256 xM_posted xM_hears xM_censuses xM_finding, ar (ad 1) cA 60 gMtext]) hD hS hA [0, 1] rfl
        obtain ⟨u_11, hc_11, hm⟩ := bd_ok hm
        refine va_calli (va_runV (As := [.int (v2_256 + v4_256)]) (rest := []) ⟨hx, hb, hml, hown, hts⟩ (kM_byteAt l dC dI cA cB ad H.size (v2_256 + v4_256) xM_typed xM_people_256 xM_posted xM_hears xM_censuses xM_finding gMtext u_11 hc_11) (cwV 1 hts gX10_reads_X10_byteAt rfl rfl rfl (by decide +kernel) ⟨Nat.le_of_ble_eq_true rfl, Nat.le_of_ble_eq_true rfl⟩) ⟨fun a U g mk q => by obtain ⟨q0, q1, qP, qK, qD⟩ := q; exact ⟨q0, q1, qP, va_K.moved (u := U) (U := U.calling g mk a) (Vm.Alike.refl U.vm) qK, qD⟩, va_recv hK hPc (ci := 10) (q0 := 0) rfl rfl, fun U hU hW => ⟨rfl, by rw [hU], by rw [hU]; exact hPc, va_K.moved hW.alike hK, hDc.weaken (fun _ _ _ _ => trivial)⟩⟩ rfl rfl hl.1 rfl (lv_room (Nat.le_of_ble_eq_true rfl)) dX10_reads_263 ⟨Nat.le_of_ble_eq_true rfl, Nat.le_of_ble_eq_true rfl⟩) hS (fun q _ h => hFc q h) hFc (fun r_11 _ t H1 locs ht hvm hw hB hz1 hk1 hS => ?_)
        obtain ⟨hP1, hK1, hD1⟩ := hB
        rw [ht] at hP1
        obtain ⟨hP, hD⟩ := va_join (wr := [ar (ad 2) cA 20 gMkinds_256, ar (ad 3) cA 20 gMlates_256, ar (ad 4) cA 20 gMscarfs_256, ar (ad 5) cA 20 gMhands_256, ar (ad 6) cA 20 gMrings_256, ar (ad 7) cA 20 gMmains_256, ar (ad 8) cA 4 gMaheadOf_256, ar (ad 9) cA 4 gMlastIn_256, ar (ad 10) cA 4 gMmanyIn_256]) (w1 := [oM ad xM_typed xM_people_256 xM_posted xM_hears xM_censuses xM_finding, ar (ad 1) cA 60 gMtext]) hP hD [0, 1] [2, 3, 4, 5, 6, 7, 8, 9, 10] rfl rfl (by decide) (by decide) hk1 hFc hP1 hD1
        clear hPc hDc hFc hP1 hK1 hD1 hk1 hz1 hvm ht
        generalize H1 = H at hP hS ⊢
        have hP : va_P (dC, dI) vwCl [oM ad xM_typed xM_people_256 xM_posted xM_hears xM_censuses xM_finding, ar (ad 1) cA 60 gMtext, ar (ad 2) cA 20 gMkinds_256, ar (ad 3) cA 20 gMlates_256, ar (ad 4) cA 20 gMscarfs_256, ar (ad 5) cA 20 gMhands_256, ar (ad 6) cA 20 gMrings_256, ar (ad 7) cA 20 gMmains_256, ar (ad 8) cA 4 gMaheadOf_256, ar (ad 9) cA 4 gMlastIn_256, ar (ad 10) cA 4 gMmanyIn_256] H := hP.sub [9, 10, 0, 1, 2, 3, 4, 5, 6, 7, 8] rfl
        have hD : va_D A [oM ad xM_typed xM_people_256 xM_posted xM_hears xM_censuses xM_finding, ar (ad 1) cA 60 gMtext, ar (ad 2) cA 20 gMkinds_256, ar (ad 3) cA 20 gMlates_256, ar (ad 4) cA 20 gMscarfs_256, ar (ad 5) cA 20 gMhands_256, ar (ad 6) cA 20 gMrings_256, ar (ad 7) cA 20 gMmains_256, ar (ad 8) cA 4 gMaheadOf_256, ar (ad 9) cA 4 gMlastIn_256, ar (ad 10) cA 4 gMmanyIn_256] := hD.sub [9, 10, 0, 1, 2, 3, 4, 5, 6, 7, 8] (by decide) rfl
        have hw := hw.symm
        subst hw
        have hPc := hP.sub (ws' := []) [] rfl
        have hDc := hD.sub (ws' := []) [] (by decide) rfl
        have hFc := va_free (wc := []) hD hS hA [] rfl
        obtain ⟨u_12, hc_12, hm⟩ := bd_ok hm
        refine va_calli (va_runS (As := [.int u_11]) (rest := []) ⟨hx, hb, hml, hown, hts⟩ (kM_kindOf l dC dI cA cB ad H.size u_11 u_12 hc_12) (va_cwS 1 hts gX10_reads_X10_kindOf rfl rfl rfl (by decide +kernel) ⟨Nat.le_of_ble_eq_true rfl, Nat.le_of_ble_eq_true rfl⟩) ⟨fun a U g mk q => by obtain ⟨q0, q1, qP, qK, qD⟩ := q; exact ⟨q0, q1, qP, va_K.moved (u := U) (U := U.calling g mk a) (Vm.Alike.refl U.vm) qK, qD⟩, fun U hU hW => ⟨rfl, by rw [hU], by rw [hU]; exact hPc, va_K.moved hW.alike hK, hDc.weaken (fun _ _ _ _ => trivial)⟩⟩ rfl rfl hl.1 rfl (lv_room (Nat.le_of_ble_eq_true rfl)) dX10_reads_266 ⟨Nat.le_of_ble_eq_true rfl, Nat.le_of_ble_eq_true rfl⟩) hS (fun q _ h => hFc q h) hFc (fun r_12 _ t H1 locs ht hvm hw hB hz1 hk1 hS => ?_)
        obtain ⟨hP1, hK1, hD1⟩ := hB
        rw [ht] at hP1
        obtain ⟨hP, hD⟩ := va_join (wr := [oM ad xM_typed xM_people_256 xM_posted xM_hears xM_censuses xM_finding, ar (ad 1) cA 60 gMtext, ar (ad 2) cA 20 gMkinds_256, ar (ad 3) cA 20 gMlates_256, ar (ad 4) cA 20 gMscarfs_256, ar (ad 5) cA 20 gMhands_256, ar (ad 6) cA 20 gMrings_256, ar (ad 7) cA 20 gMmains_256, ar (ad 8) cA 4 gMaheadOf_256, ar (ad 9) cA 4 gMlastIn_256, ar (ad 10) cA 4 gMmanyIn_256]) (w1 := []) hP hD [] [0, 1, 2, 3, 4, 5, 6, 7, 8, 9, 10] rfl rfl (by decide) (by decide) hk1 hFc hP1 hD1
        clear hPc hDc hFc hP1 hK1 hD1 hk1 hz1 hvm ht
        generalize H1 = H at hP hS ⊢
        have hP : va_P (dC, dI) vwCl [oM ad xM_typed xM_people_256 xM_posted xM_hears xM_censuses xM_finding, ar (ad 1) cA 60 gMtext, ar (ad 2) cA 20 gMkinds_256, ar (ad 3) cA 20 gMlates_256, ar (ad 4) cA 20 gMscarfs_256, ar (ad 5) cA 20 gMhands_256, ar (ad 6) cA 20 gMrings_256, ar (ad 7) cA 20 gMmains_256, ar (ad 8) cA 4 gMaheadOf_256, ar (ad 9) cA 4 gMlastIn_256, ar (ad 10) cA 4 gMmanyIn_256] H := hP
        have hD : va_D A [oM ad xM_typed xM_people_256 xM_posted xM_hears xM_censuses xM_finding, ar (ad 1) cA 60 gMtext, ar (ad 2) cA 20 gMkinds_256, ar (ad 3) cA 20 gMlates_256, ar (ad 4) cA 20 gMscarfs_256, ar (ad 5) cA 20 gMhands_256, ar (ad 6) cA 20 gMrings_256, ar (ad 7) cA 20 gMmains_256, ar (ad 8) cA 4 gMaheadOf_256, ar (ad 9) cA 4 gMlastIn_256, ar (ad 10) cA 4 gMmanyIn_256] := hD
        have hw := hw.symm
        subst hw
        refine lv_iconst (v := (-1)) hx hb dX10_reads_269 (by decide) ?_
        refine lv_icmp_ne (tgt := 275) hx hb dX10_reads_270 (by decide) (fun c_13 => ?_) (fun c_13 => ?_)
        · have hm := it_neg c_13 hm
          refine lv_aload_n hx hb dX10_reads_275 rfl (lv_at hl 1 rfl) ?_
          refine lv_iload_n hx hb dX10_reads_276 rfl (lv_at hl 0 rfl) ?_
          refine lv_iconst (v := 1) hx hb dX10_reads_277 (by decide) ?_
          refine lv_iadd hx hb dX10_reads_278 ?_
          have hPc := hP.sub (ws' := [oM ad xM_typed xM_people_256 xM_posted xM_hears xM_censuses xM_finding, ar (ad 1) cA 60 gMtext]) [0, 1] rfl
          have hDc := hD.sub (ws' := [oM ad xM_typed xM_people_256 xM_posted xM_hears xM_censuses xM_finding, ar (ad 1) cA 60 gMtext]) [0, 1] (by decide) rfl
          have hFc := va_free (wc := [oM ad xM_typed xM_people_256 xM_posted xM_hears xM_censuses xM_finding, ar (ad 1) cA 60 gMtext]) hD hS hA [0, 1] rfl
          obtain ⟨u_14, hc_14, hm⟩ := bd_ok hm
          refine va_calli (va_runV (As := [.int ((v2_256 + v4_256) + 1)]) (rest := []) ⟨hx, hb, hml, hown, hts⟩ (kM_byteAt l dC dI cA cB ad H.size ((v2_256 + v4_256) + 1) xM_typed xM_people_256 xM_posted xM_hears xM_censuses xM_finding gMtext u_14 hc_14) (cwV 1 hts gX10_reads_X10_byteAt rfl rfl rfl (by decide +kernel) ⟨Nat.le_of_ble_eq_true rfl, Nat.le_of_ble_eq_true rfl⟩) ⟨fun a U g mk q => by obtain ⟨q0, q1, qP, qK, qD⟩ := q; exact ⟨q0, q1, qP, va_K.moved (u := U) (U := U.calling g mk a) (Vm.Alike.refl U.vm) qK, qD⟩, va_recv hK hPc (ci := 10) (q0 := 0) rfl rfl, fun U hU hW => ⟨rfl, by rw [hU], by rw [hU]; exact hPc, va_K.moved hW.alike hK, hDc.weaken (fun _ _ _ _ => trivial)⟩⟩ rfl rfl hl.1 rfl (lv_room (Nat.le_of_ble_eq_true rfl)) dX10_reads_279 ⟨Nat.le_of_ble_eq_true rfl, Nat.le_of_ble_eq_true rfl⟩) hS (fun q _ h => hFc q h) hFc (fun r_14 _ t H1 locs ht hvm hw hB hz1 hk1 hS => ?_)
          obtain ⟨hP1, hK1, hD1⟩ := hB
          rw [ht] at hP1
          obtain ⟨hP, hD⟩ := va_join (wr := [ar (ad 2) cA 20 gMkinds_256, ar (ad 3) cA 20 gMlates_256, ar (ad 4) cA 20 gMscarfs_256, ar (ad 5) cA 20 gMhands_256, ar (ad 6) cA 20 gMrings_256, ar (ad 7) cA 20 gMmains_256, ar (ad 8) cA 4 gMaheadOf_256, ar (ad 9) cA 4 gMlastIn_256, ar (ad 10) cA 4 gMmanyIn_256]) (w1 := [oM ad xM_typed xM_people_256 xM_posted xM_hears xM_censuses xM_finding, ar (ad 1) cA 60 gMtext]) hP hD [0, 1] [2, 3, 4, 5, 6, 7, 8, 9, 10] rfl rfl (by decide) (by decide) hk1 hFc hP1 hD1
          clear hPc hDc hFc hP1 hK1 hD1 hk1 hz1 hvm ht
          generalize H1 = H at hP hS ⊢
          have hP : va_P (dC, dI) vwCl [oM ad xM_typed xM_people_256 xM_posted xM_hears xM_censuses xM_finding, ar (ad 1) cA 60 gMtext, ar (ad 2) cA 20 gMkinds_256, ar (ad 3) cA 20 gMlates_256, ar (ad 4) cA 20 gMscarfs_256, ar (ad 5) cA 20 gMhands_256, ar (ad 6) cA 20 gMrings_256, ar (ad 7) cA 20 gMmains_256, ar (ad 8) cA 4 gMaheadOf_256, ar (ad 9) cA 4 gMlastIn_256, ar (ad 10) cA 4 gMmanyIn_256] H := hP.sub [9, 10, 0, 1, 2, 3, 4, 5, 6, 7, 8] rfl
          have hD : va_D A [oM ad xM_typed xM_people_256 xM_posted xM_hears xM_censuses xM_finding, ar (ad 1) cA 60 gMtext, ar (ad 2) cA 20 gMkinds_256, ar (ad 3) cA 20 gMlates_256, ar (ad 4) cA 20 gMscarfs_256, ar (ad 5) cA 20 gMhands_256, ar (ad 6) cA 20 gMrings_256, ar (ad 7) cA 20 gMmains_256, ar (ad 8) cA 4 gMaheadOf_256, ar (ad 9) cA 4 gMlastIn_256, ar (ad 10) cA 4 gMmanyIn_256] := hD.sub [9, 10, 0, 1, 2, 3, 4, 5, 6, 7, 8] (by decide) rfl
          have hw := hw.symm
          subst hw
          refine lv_bipush (v := 49) hx hb dX10_reads_282 (by decide) ?_
          refine lv_bipush (v := 57) hx hb dX10_reads_284 (by decide) ?_
          have hPc := hP.sub (ws' := []) [] rfl
          have hDc := hD.sub (ws' := []) [] (by decide) rfl
          have hFc := va_free (wc := []) hD hS hA [] rfl
          obtain ⟨u_15, hc_15, hm⟩ := bd_ok hm
          refine va_calli (va_runS (As := [.int u_14, .int 49, .int 57]) (rest := []) ⟨hx, hb, hml, hown, hts⟩ (kM_in l dC dI cA cB ad H.size u_14 49 57 u_15 hc_15) (va_cwS 3 hts gX10_reads_X10_in rfl rfl rfl (by decide +kernel) ⟨Nat.le_of_ble_eq_true rfl, Nat.le_of_ble_eq_true rfl⟩) ⟨fun a U g mk q => by obtain ⟨q0, q1, qP, qK, qD⟩ := q; exact ⟨q0, q1, qP, va_K.moved (u := U) (U := U.calling g mk a) (Vm.Alike.refl U.vm) qK, qD⟩, fun U hU hW => ⟨rfl, by rw [hU], by rw [hU]; exact hPc, va_K.moved hW.alike hK, hDc.weaken (fun _ _ _ _ => trivial)⟩⟩ rfl rfl hl.1 rfl (lv_room (Nat.le_of_ble_eq_true rfl)) dX10_reads_286 ⟨Nat.le_of_ble_eq_true rfl, Nat.le_of_ble_eq_true rfl⟩) hS (fun q _ h => hFc q h) hFc (fun r_15 _ t H1 locs ht hvm hw hB hz1 hk1 hS => ?_)
          obtain ⟨hP1, hK1, hD1⟩ := hB
          rw [ht] at hP1
          obtain ⟨hP, hD⟩ := va_join (wr := [oM ad xM_typed xM_people_256 xM_posted xM_hears xM_censuses xM_finding, ar (ad 1) cA 60 gMtext, ar (ad 2) cA 20 gMkinds_256, ar (ad 3) cA 20 gMlates_256, ar (ad 4) cA 20 gMscarfs_256, ar (ad 5) cA 20 gMhands_256, ar (ad 6) cA 20 gMrings_256, ar (ad 7) cA 20 gMmains_256, ar (ad 8) cA 4 gMaheadOf_256, ar (ad 9) cA 4 gMlastIn_256, ar (ad 10) cA 4 gMmanyIn_256]) (w1 := []) hP hD [] [0, 1, 2, 3, 4, 5, 6, 7, 8, 9, 10] rfl rfl (by decide) (by decide) hk1 hFc hP1 hD1
          clear hPc hDc hFc hP1 hK1 hD1 hk1 hz1 hvm ht
          generalize H1 = H at hP hS ⊢
          have hP : va_P (dC, dI) vwCl [oM ad xM_typed xM_people_256 xM_posted xM_hears xM_censuses xM_finding, ar (ad 1) cA 60 gMtext, ar (ad 2) cA 20 gMkinds_256, ar (ad 3) cA 20 gMlates_256, ar (ad 4) cA 20 gMscarfs_256, ar (ad 5) cA 20 gMhands_256, ar (ad 6) cA 20 gMrings_256, ar (ad 7) cA 20 gMmains_256, ar (ad 8) cA 4 gMaheadOf_256, ar (ad 9) cA 4 gMlastIn_256, ar (ad 10) cA 4 gMmanyIn_256] H := hP
          have hD : va_D A [oM ad xM_typed xM_people_256 xM_posted xM_hears xM_censuses xM_finding, ar (ad 1) cA 60 gMtext, ar (ad 2) cA 20 gMkinds_256, ar (ad 3) cA 20 gMlates_256, ar (ad 4) cA 20 gMscarfs_256, ar (ad 5) cA 20 gMhands_256, ar (ad 6) cA 20 gMrings_256, ar (ad 7) cA 20 gMmains_256, ar (ad 8) cA 4 gMaheadOf_256, ar (ad 9) cA 4 gMlastIn_256, ar (ad 10) cA 4 gMmanyIn_256] := hD
          have hw := hw.symm
          subst hw
          refine lv_if_ne (tgt := 296) hx hb dX10_reads_289 (by decide) (fun c_16 => ?_) (fun c_16 => ?_)
          · have hm := it_neg c_16 hm
            refine lv_aload_n hx hb dX10_reads_296 rfl (lv_at hl 1 rfl) ?_
            refine va_get (D := (dC, dI)) (ci := 10) (v := .int xM_people_256) (C := RX10) (T := TX10) (N := 37) hx hb hts hinX10 hown hK hP 0 rfl rfl 2 (by decide) hl_112 (fun _ h9 => h9) rfl dX10_reads_297 ?_
            refine lv_istore (lv' := [(5, .int xM_people_256), (2, .int (v2_256 + v4_256)), (0, .ref (ad 0)), (1, .int v1_256), (4, .int v4_256)]) hx hb dX10_reads_300 hl (by decide) rfl (fun ls hl => ?_)
            refine lv_aload_n hx hb dX10_reads_302 rfl (lv_at hl 2 rfl) ?_
            refine va_get (D := (dC, dI)) (ci := 10) (v := .ref (ad 2)) (C := RX10) (T := TX10) (N := 37) hx hb hts hinX10 hown hK hP 0 rfl rfl 3 (by decide) hl_13 (fun _ h9 => h9) rfl dX10_reads_303 ?_
            refine lv_iload hx hb dX10_reads_306 (lv_at hl 0 rfl) ?_
            refine lv_aload_n hx hb dX10_reads_308 rfl (lv_at hl 2 rfl) ?_
            refine lv_iload_n hx hb dX10_reads_309 rfl (lv_at hl 1 rfl) ?_
            have hPc := hP.sub (ws' := [oM ad xM_typed xM_people_256 xM_posted xM_hears xM_censuses xM_finding, ar (ad 1) cA 60 gMtext]) [0, 1] rfl
            have hDc := hD.sub (ws' := [oM ad xM_typed xM_people_256 xM_posted xM_hears xM_censuses xM_finding, ar (ad 1) cA 60 gMtext]) [0, 1] (by decide) rfl
            have hFc := va_free (wc := [oM ad xM_typed xM_people_256 xM_posted xM_hears xM_censuses xM_finding, ar (ad 1) cA 60 gMtext]) hD hS hA [0, 1] rfl
            obtain ⟨u_17, hc_17, hm⟩ := bd_ok hm
            refine va_calli (va_runV (As := [.int (v2_256 + v4_256)]) (rest := [.int xM_people_256, .ref (ad 2)]) ⟨hx, hb, hml, hown, hts⟩ (kM_byteAt l dC dI cA cB ad H.size (v2_256 + v4_256) xM_typed xM_people_256 xM_posted xM_hears xM_censuses xM_finding gMtext u_17 hc_17) (cwV 1 hts gX10_reads_X10_byteAt rfl rfl rfl (by decide +kernel) ⟨Nat.le_of_ble_eq_true rfl, Nat.le_of_ble_eq_true rfl⟩) ⟨fun a U g mk q => by obtain ⟨q0, q1, qP, qK, qD⟩ := q; exact ⟨q0, q1, qP, va_K.moved (u := U) (U := U.calling g mk a) (Vm.Alike.refl U.vm) qK, qD⟩, va_recv hK hPc (ci := 10) (q0 := 0) rfl rfl, fun U hU hW => ⟨rfl, by rw [hU], by rw [hU]; exact hPc, va_K.moved hW.alike hK, hDc.weaken (fun _ _ _ _ => trivial)⟩⟩ rfl rfl hl.1 rfl (lv_room (Nat.le_of_ble_eq_true rfl)) dX10_reads_310 ⟨Nat.le_of_ble_eq_true rfl, Nat.le_of_ble_eq_true rfl⟩) hS (fun q _ h => hFc q h) hFc (fun r_17 _ t H1 locs ht hvm hw hB hz1 hk1 hS => ?_)
            obtain ⟨hP1, hK1, hD1⟩ := hB
            rw [ht] at hP1
            obtain ⟨hP, hD⟩ := va_join (wr := [ar (ad 2) cA 20 gMkinds_256, ar (ad 3) cA 20 gMlates_256, ar (ad 4) cA 20 gMscarfs_256, ar (ad 5) cA 20 gMhands_256, ar (ad 6) cA 20 gMrings_256, ar (ad 7) cA 20 gMmains_256, ar (ad 8) cA 4 gMaheadOf_256, ar (ad 9) cA 4 gMlastIn_256, ar (ad 10) cA 4 gMmanyIn_256]) (w1 := [oM ad xM_typed xM_people_256 xM_posted xM_hears xM_censuses xM_finding, ar (ad 1) cA 60 gMtext]) hP hD [0, 1] [2, 3, 4, 5, 6, 7, 8, 9, 10] rfl rfl (by decide) (by decide) hk1 hFc hP1 hD1
            clear hPc hDc hFc hP1 hK1 hD1 hk1 hz1 hvm ht
            generalize H1 = H at hP hS ⊢
            have hP : va_P (dC, dI) vwCl [oM ad xM_typed xM_people_256 xM_posted xM_hears xM_censuses xM_finding, ar (ad 1) cA 60 gMtext, ar (ad 2) cA 20 gMkinds_256, ar (ad 3) cA 20 gMlates_256, ar (ad 4) cA 20 gMscarfs_256, ar (ad 5) cA 20 gMhands_256, ar (ad 6) cA 20 gMrings_256, ar (ad 7) cA 20 gMmains_256, ar (ad 8) cA 4 gMaheadOf_256, ar (ad 9) cA 4 gMlastIn_256, ar (ad 10) cA 4 gMmanyIn_256] H := hP.sub [9, 10, 0, 1, 2, 3, 4, 5, 6, 7, 8] rfl
            have hD : va_D A [oM ad xM_typed xM_people_256 xM_posted xM_hears xM_censuses xM_finding, ar (ad 1) cA 60 gMtext, ar (ad 2) cA 20 gMkinds_256, ar (ad 3) cA 20 gMlates_256, ar (ad 4) cA 20 gMscarfs_256, ar (ad 5) cA 20 gMhands_256, ar (ad 6) cA 20 gMrings_256, ar (ad 7) cA 20 gMmains_256, ar (ad 8) cA 4 gMaheadOf_256, ar (ad 9) cA 4 gMlastIn_256, ar (ad 10) cA 4 gMmanyIn_256] := hD.sub [9, 10, 0, 1, 2, 3, 4, 5, 6, 7, 8] (by decide) rfl
            have hw := hw.symm
            subst hw
            have hPc := hP.sub (ws' := []) [] rfl
            have hDc := hD.sub (ws' := []) [] (by decide) rfl
            have hFc := va_free (wc := []) hD hS hA [] rfl
            obtain ⟨u_18, hc_18, hm⟩ := bd_ok hm
            refine va_calli (va_runS (As := [.int u_17]) (rest := [.int xM_people_256, .ref (ad 2)]) ⟨hx, hb, hml, hown, hts⟩ (kM_kindOf l dC dI cA cB ad H.size u_17 u_18 hc_18) (va_cwS 1 hts gX10_reads_X10_kindOf rfl rfl rfl (by decide +kernel) ⟨Nat.le_of_ble_eq_true rfl, Nat.le_of_ble_eq_true rfl⟩) ⟨fun a U g mk q => by obtain ⟨q0, q1, qP, qK, qD⟩ := q; exact ⟨q0, q1, qP, va_K.moved (u := U) (U := U.calling g mk a) (Vm.Alike.refl U.vm) qK, qD⟩, fun U hU hW => ⟨rfl, by rw [hU], by rw [hU]; exact hPc, va_K.moved hW.alike hK, hDc.weaken (fun _ _ _ _ => trivial)⟩⟩ rfl rfl hl.1 rfl (lv_room (Nat.le_of_ble_eq_true rfl)) dX10_reads_313 ⟨Nat.le_of_ble_eq_true rfl, Nat.le_of_ble_eq_true rfl⟩) hS (fun q _ h => hFc q h) hFc (fun r_18 _ t H1 locs ht hvm hw hB hz1 hk1 hS => ?_)
            obtain ⟨hP1, hK1, hD1⟩ := hB
            rw [ht] at hP1
            obtain ⟨hP, hD⟩ := va_join (wr := [oM ad xM_typed xM_people_256 xM_posted xM_hears xM_censuses xM_finding, ar (ad 1) cA 60 gMtext, ar (ad 2) cA 20 gMkinds_256, ar (ad 3) cA 20 gMlates_256, ar (ad 4) cA 20 gMscarfs_256, ar (ad 5) cA 20 gMhands_256, ar (ad 6) cA 20 gMrings_256, ar (ad 7) cA 20 gMmains_256, ar (ad 8) cA 4 gMaheadOf_256, ar (ad 9) cA 4 gMlastIn_256, ar (ad 10) cA 4 gMmanyIn_256]) (w1 := []) hP hD [] [0, 1, 2, 3, 4, 5, 6, 7, 8, 9, 10] rfl rfl (by decide) (by decide) hk1 hFc hP1 hD1
            clear hPc hDc hFc hP1 hK1 hD1 hk1 hz1 hvm ht
            generalize H1 = H at hP hS ⊢
            have hP : va_P (dC, dI) vwCl [oM ad xM_typed xM_people_256 xM_posted xM_hears xM_censuses xM_finding, ar (ad 1) cA 60 gMtext, ar (ad 2) cA 20 gMkinds_256, ar (ad 3) cA 20 gMlates_256, ar (ad 4) cA 20 gMscarfs_256, ar (ad 5) cA 20 gMhands_256, ar (ad 6) cA 20 gMrings_256, ar (ad 7) cA 20 gMmains_256, ar (ad 8) cA 4 gMaheadOf_256, ar (ad 9) cA 4 gMlastIn_256, ar (ad 10) cA 4 gMmanyIn_256] H := hP
            have hD : va_D A [oM ad xM_typed xM_people_256 xM_posted xM_hears xM_censuses xM_finding, ar (ad 1) cA 60 gMtext, ar (ad 2) cA 20 gMkinds_256, ar (ad 3) cA 20 gMlates_256, ar (ad 4) cA 20 gMscarfs_256, ar (ad 5) cA 20 gMhands_256, ar (ad 6) cA 20 gMrings_256, ar (ad 7) cA 20 gMmains_256, ar (ad 8) cA 4 gMaheadOf_256, ar (ad 9) cA 4 gMlastIn_256, ar (ad 10) cA 4 gMmanyIn_256] := hD
            have hw := hw.symm
            subst hw
            obtain ⟨i_19, hm⟩ := ck_ok hm
            refine va_iast hx hb hK hP hD hS 2 0 rfl rfl i_19 dX10_reads_316 (fun H locs hP hD hS => ?_)
            have hP : va_P (dC, dI) vwCl [oM ad xM_typed xM_people_256 xM_posted xM_hears xM_censuses xM_finding, ar (ad 1) cA 60 gMtext, ar (ad 2) cA 20 (upd gMkinds_256 xM_people_256.toNatClampNeg u_18), ar (ad 3) cA 20 gMlates_256, ar (ad 4) cA 20 gMscarfs_256, ar (ad 5) cA 20 gMhands_256, ar (ad 6) cA 20 gMrings_256, ar (ad 7) cA 20 gMmains_256, ar (ad 8) cA 4 gMaheadOf_256, ar (ad 9) cA 4 gMlastIn_256, ar (ad 10) cA 4 gMmanyIn_256] H := hP
            have hD : va_D A [oM ad xM_typed xM_people_256 xM_posted xM_hears xM_censuses xM_finding, ar (ad 1) cA 60 gMtext, ar (ad 2) cA 20 (upd gMkinds_256 xM_people_256.toNatClampNeg u_18), ar (ad 3) cA 20 gMlates_256, ar (ad 4) cA 20 gMscarfs_256, ar (ad 5) cA 20 gMhands_256, ar (ad 6) cA 20 gMrings_256, ar (ad 7) cA 20 gMmains_256, ar (ad 8) cA 4 gMaheadOf_256, ar (ad 9) cA 4 gMlastIn_256, ar (ad 10) cA 4 gMmanyIn_256] := hD
            refine lv_aload_n hx hb dX10_reads_317 rfl (lv_at hl 2 rfl) ?_
            refine va_get (D := (dC, dI)) (ci := 10) (v := .ref (ad 3)) (C := RX10) (T := TX10) (N := 37) hx hb hts hinX10 hown hK hP 0 rfl rfl 4 (by decide) hl_16 (fun _ h9 => h9) rfl dX10_reads_318 ?_
            refine lv_iload hx hb dX10_reads_321 (lv_at hl 0 rfl) ?_
            refine lv_aload_n hx hb dX10_reads_323 rfl (lv_at hl 2 rfl) ?_
            refine lv_iload_n hx hb dX10_reads_324 rfl (lv_at hl 1 rfl) ?_
            refine lv_iconst (v := 1) hx hb dX10_reads_325 (by decide) ?_
            refine lv_iadd hx hb dX10_reads_326 ?_
            have hPc := hP.sub (ws' := [oM ad xM_typed xM_people_256 xM_posted xM_hears xM_censuses xM_finding, ar (ad 1) cA 60 gMtext]) [0, 1] rfl
            have hDc := hD.sub (ws' := [oM ad xM_typed xM_people_256 xM_posted xM_hears xM_censuses xM_finding, ar (ad 1) cA 60 gMtext]) [0, 1] (by decide) rfl
            have hFc := va_free (wc := [oM ad xM_typed xM_people_256 xM_posted xM_hears xM_censuses xM_finding, ar (ad 1) cA 60 gMtext]) hD hS hA [0, 1] rfl
            obtain ⟨u_20, hc_20, hm⟩ := bd_ok hm
            refine va_calli (va_runV (As := [.int ((v2_256 + v4_256) + 1)]) (rest := [.int xM_people_256, .ref (ad 3)]) ⟨hx, hb, hml, hown, hts⟩ (kM_byteAt l dC dI cA cB ad H.size ((v2_256 + v4_256) + 1) xM_typed xM_people_256 xM_posted xM_hears xM_censuses xM_finding gMtext u_20 hc_20) (cwV 1 hts gX10_reads_X10_byteAt rfl rfl rfl (by decide +kernel) ⟨Nat.le_of_ble_eq_true rfl, Nat.le_of_ble_eq_true rfl⟩) ⟨fun a U g mk q => by obtain ⟨q0, q1, qP, qK, qD⟩ := q; exact ⟨q0, q1, qP, va_K.moved (u := U) (U := U.calling g mk a) (Vm.Alike.refl U.vm) qK, qD⟩, va_recv hK hPc (ci := 10) (q0 := 0) rfl rfl, fun U hU hW => ⟨rfl, by rw [hU], by rw [hU]; exact hPc, va_K.moved hW.alike hK, hDc.weaken (fun _ _ _ _ => trivial)⟩⟩ rfl rfl hl.1 rfl (lv_room (Nat.le_of_ble_eq_true rfl)) dX10_reads_327 ⟨Nat.le_of_ble_eq_true rfl, Nat.le_of_ble_eq_true rfl⟩) hS (fun q _ h => hFc q h) hFc (fun r_20 _ t H1 locs ht hvm hw hB hz1 hk1 hS => ?_)
            obtain ⟨hP1, hK1, hD1⟩ := hB
            rw [ht] at hP1
            obtain ⟨hP, hD⟩ := va_join (wr := [ar (ad 2) cA 20 (upd gMkinds_256 xM_people_256.toNatClampNeg u_18), ar (ad 3) cA 20 gMlates_256, ar (ad 4) cA 20 gMscarfs_256, ar (ad 5) cA 20 gMhands_256, ar (ad 6) cA 20 gMrings_256, ar (ad 7) cA 20 gMmains_256, ar (ad 8) cA 4 gMaheadOf_256, ar (ad 9) cA 4 gMlastIn_256, ar (ad 10) cA 4 gMmanyIn_256]) (w1 := [oM ad xM_typed xM_people_256 xM_posted xM_hears xM_censuses xM_finding, ar (ad 1) cA 60 gMtext]) hP hD [0, 1] [2, 3, 4, 5, 6, 7, 8, 9, 10] rfl rfl (by decide) (by decide) hk1 hFc hP1 hD1
            clear hPc hDc hFc hP1 hK1 hD1 hk1 hz1 hvm ht
            generalize H1 = H at hP hS ⊢
            have hP : va_P (dC, dI) vwCl [oM ad xM_typed xM_people_256 xM_posted xM_hears xM_censuses xM_finding, ar (ad 1) cA 60 gMtext, ar (ad 2) cA 20 (upd gMkinds_256 xM_people_256.toNatClampNeg u_18), ar (ad 3) cA 20 gMlates_256, ar (ad 4) cA 20 gMscarfs_256, ar (ad 5) cA 20 gMhands_256, ar (ad 6) cA 20 gMrings_256, ar (ad 7) cA 20 gMmains_256, ar (ad 8) cA 4 gMaheadOf_256, ar (ad 9) cA 4 gMlastIn_256, ar (ad 10) cA 4 gMmanyIn_256] H := hP.sub [9, 10, 0, 1, 2, 3, 4, 5, 6, 7, 8] rfl
            have hD : va_D A [oM ad xM_typed xM_people_256 xM_posted xM_hears xM_censuses xM_finding, ar (ad 1) cA 60 gMtext, ar (ad 2) cA 20 (upd gMkinds_256 xM_people_256.toNatClampNeg u_18), ar (ad 3) cA 20 gMlates_256, ar (ad 4) cA 20 gMscarfs_256, ar (ad 5) cA 20 gMhands_256, ar (ad 6) cA 20 gMrings_256, ar (ad 7) cA 20 gMmains_256, ar (ad 8) cA 4 gMaheadOf_256, ar (ad 9) cA 4 gMlastIn_256, ar (ad 10) cA 4 gMmanyIn_256] := hD.sub [9, 10, 0, 1, 2, 3, 4, 5, 6, 7, 8] (by decide) rfl
            have hw := hw.symm
            subst hw
            refine lv_bipush (v := 48) hx hb dX10_reads_330 (by decide) ?_
            refine lv_isub hx hb dX10_reads_332 ?_
            obtain ⟨i_21, hm⟩ := ck_ok hm
            refine va_iast hx hb hK hP hD hS 3 0 rfl rfl i_21 dX10_reads_333 (fun H locs hP hD hS => ?_)
            have hP : va_P (dC, dI) vwCl [oM ad xM_typed xM_people_256 xM_posted xM_hears xM_censuses xM_finding, ar (ad 1) cA 60 gMtext, ar (ad 2) cA 20 (upd gMkinds_256 xM_people_256.toNatClampNeg u_18), ar (ad 3) cA 20 (upd gMlates_256 xM_people_256.toNatClampNeg (u_20 - 48)), ar (ad 4) cA 20 gMscarfs_256, ar (ad 5) cA 20 gMhands_256, ar (ad 6) cA 20 gMrings_256, ar (ad 7) cA 20 gMmains_256, ar (ad 8) cA 4 gMaheadOf_256, ar (ad 9) cA 4 gMlastIn_256, ar (ad 10) cA 4 gMmanyIn_256] H := hP
            have hD : va_D A [oM ad xM_typed xM_people_256 xM_posted xM_hears xM_censuses xM_finding, ar (ad 1) cA 60 gMtext, ar (ad 2) cA 20 (upd gMkinds_256 xM_people_256.toNatClampNeg u_18), ar (ad 3) cA 20 (upd gMlates_256 xM_people_256.toNatClampNeg (u_20 - 48)), ar (ad 4) cA 20 gMscarfs_256, ar (ad 5) cA 20 gMhands_256, ar (ad 6) cA 20 gMrings_256, ar (ad 7) cA 20 gMmains_256, ar (ad 8) cA 4 gMaheadOf_256, ar (ad 9) cA 4 gMlastIn_256, ar (ad 10) cA 4 gMmanyIn_256] := hD
            refine lv_aload_n hx hb dX10_reads_334 rfl (lv_at hl 2 rfl) ?_
            refine va_get (D := (dC, dI)) (ci := 10) (v := .ref (ad 4)) (C := RX10) (T := TX10) (N := 37) hx hb hts hinX10 hown hK hP 0 rfl rfl 5 (by decide) hl_19 (fun _ h9 => h9) rfl dX10_reads_335 ?_
            refine lv_iload hx hb dX10_reads_338 (lv_at hl 0 rfl) ?_
            refine lv_iload hx hb dX10_reads_340 (lv_at hl 4 rfl) ?_
            obtain ⟨i_22, hm⟩ := ck_ok hm
            refine va_iast hx hb hK hP hD hS 4 0 rfl rfl i_22 dX10_reads_342 (fun H locs hP hD hS => ?_)
            have hP : va_P (dC, dI) vwCl [oM ad xM_typed xM_people_256 xM_posted xM_hears xM_censuses xM_finding, ar (ad 1) cA 60 gMtext, ar (ad 2) cA 20 (upd gMkinds_256 xM_people_256.toNatClampNeg u_18), ar (ad 3) cA 20 (upd gMlates_256 xM_people_256.toNatClampNeg (u_20 - 48)), ar (ad 4) cA 20 (upd gMscarfs_256 xM_people_256.toNatClampNeg v4_256), ar (ad 5) cA 20 gMhands_256, ar (ad 6) cA 20 gMrings_256, ar (ad 7) cA 20 gMmains_256, ar (ad 8) cA 4 gMaheadOf_256, ar (ad 9) cA 4 gMlastIn_256, ar (ad 10) cA 4 gMmanyIn_256] H := hP
            have hD : va_D A [oM ad xM_typed xM_people_256 xM_posted xM_hears xM_censuses xM_finding, ar (ad 1) cA 60 gMtext, ar (ad 2) cA 20 (upd gMkinds_256 xM_people_256.toNatClampNeg u_18), ar (ad 3) cA 20 (upd gMlates_256 xM_people_256.toNatClampNeg (u_20 - 48)), ar (ad 4) cA 20 (upd gMscarfs_256 xM_people_256.toNatClampNeg v4_256), ar (ad 5) cA 20 gMhands_256, ar (ad 6) cA 20 gMrings_256, ar (ad 7) cA 20 gMmains_256, ar (ad 8) cA 4 gMaheadOf_256, ar (ad 9) cA 4 gMlastIn_256, ar (ad 10) cA 4 gMmanyIn_256] := hD
            refine lv_aload_n hx hb dX10_reads_343 rfl (lv_at hl 2 rfl) ?_
            refine va_get (D := (dC, dI)) (ci := 10) (v := .ref (ad 5)) (C := RX10) (T := TX10) (N := 37) hx hb hts hinX10 hown hK hP 0 rfl rfl 6 (by decide) hl_22 (fun _ h9 => h9) rfl dX10_reads_344 ?_
            refine lv_iload hx hb dX10_reads_347 (lv_at hl 0 rfl) ?_
            refine lv_iconst (v := 0) hx hb dX10_reads_349 (by decide) ?_
            obtain ⟨i_23, hm⟩ := ck_ok hm
            refine va_iast hx hb hK hP hD hS 5 0 rfl rfl i_23 dX10_reads_350 (fun H locs hP hD hS => ?_)
            have hP : va_P (dC, dI) vwCl [oM ad xM_typed xM_people_256 xM_posted xM_hears xM_censuses xM_finding, ar (ad 1) cA 60 gMtext, ar (ad 2) cA 20 (upd gMkinds_256 xM_people_256.toNatClampNeg u_18), ar (ad 3) cA 20 (upd gMlates_256 xM_people_256.toNatClampNeg (u_20 - 48)), ar (ad 4) cA 20 (upd gMscarfs_256 xM_people_256.toNatClampNeg v4_256), ar (ad 5) cA 20 (upd gMhands_256 xM_people_256.toNatClampNeg 0), ar (ad 6) cA 20 gMrings_256, ar (ad 7) cA 20 gMmains_256, ar (ad 8) cA 4 gMaheadOf_256, ar (ad 9) cA 4 gMlastIn_256, ar (ad 10) cA 4 gMmanyIn_256] H := hP
            have hD : va_D A [oM ad xM_typed xM_people_256 xM_posted xM_hears xM_censuses xM_finding, ar (ad 1) cA 60 gMtext, ar (ad 2) cA 20 (upd gMkinds_256 xM_people_256.toNatClampNeg u_18), ar (ad 3) cA 20 (upd gMlates_256 xM_people_256.toNatClampNeg (u_20 - 48)), ar (ad 4) cA 20 (upd gMscarfs_256 xM_people_256.toNatClampNeg v4_256), ar (ad 5) cA 20 (upd gMhands_256 xM_people_256.toNatClampNeg 0), ar (ad 6) cA 20 gMrings_256, ar (ad 7) cA 20 gMmains_256, ar (ad 8) cA 4 gMaheadOf_256, ar (ad 9) cA 4 gMlastIn_256, ar (ad 10) cA 4 gMmanyIn_256] := hD
            refine lv_aload_n hx hb dX10_reads_351 rfl (lv_at hl 2 rfl) ?_
            refine va_get (D := (dC, dI)) (ci := 10) (v := .ref (ad 6)) (C := RX10) (T := TX10) (N := 37) hx hb hts hinX10 hown hK hP 0 rfl rfl 7 (by decide) hl_25 (fun _ h9 => h9) rfl dX10_reads_352 ?_
            refine lv_iload hx hb dX10_reads_355 (lv_at hl 0 rfl) ?_
            refine lv_iconst (v := 0) hx hb dX10_reads_357 (by decide) ?_
            obtain ⟨i_24, hm⟩ := ck_ok hm
            refine va_iast hx hb hK hP hD hS 6 0 rfl rfl i_24 dX10_reads_358 (fun H locs hP hD hS => ?_)
            have hP : va_P (dC, dI) vwCl [oM ad xM_typed xM_people_256 xM_posted xM_hears xM_censuses xM_finding, ar (ad 1) cA 60 gMtext, ar (ad 2) cA 20 (upd gMkinds_256 xM_people_256.toNatClampNeg u_18), ar (ad 3) cA 20 (upd gMlates_256 xM_people_256.toNatClampNeg (u_20 - 48)), ar (ad 4) cA 20 (upd gMscarfs_256 xM_people_256.toNatClampNeg v4_256), ar (ad 5) cA 20 (upd gMhands_256 xM_people_256.toNatClampNeg 0), ar (ad 6) cA 20 (upd gMrings_256 xM_people_256.toNatClampNeg 0), ar (ad 7) cA 20 gMmains_256, ar (ad 8) cA 4 gMaheadOf_256, ar (ad 9) cA 4 gMlastIn_256, ar (ad 10) cA 4 gMmanyIn_256] H := hP
            have hD : va_D A [oM ad xM_typed xM_people_256 xM_posted xM_hears xM_censuses xM_finding, ar (ad 1) cA 60 gMtext, ar (ad 2) cA 20 (upd gMkinds_256 xM_people_256.toNatClampNeg u_18), ar (ad 3) cA 20 (upd gMlates_256 xM_people_256.toNatClampNeg (u_20 - 48)), ar (ad 4) cA 20 (upd gMscarfs_256 xM_people_256.toNatClampNeg v4_256), ar (ad 5) cA 20 (upd gMhands_256 xM_people_256.toNatClampNeg 0), ar (ad 6) cA 20 (upd gMrings_256 xM_people_256.toNatClampNeg 0), ar (ad 7) cA 20 gMmains_256, ar (ad 8) cA 4 gMaheadOf_256, ar (ad 9) cA 4 gMlastIn_256, ar (ad 10) cA 4 gMmanyIn_256] := hD
            refine lv_aload_n hx hb dX10_reads_359 rfl (lv_at hl 2 rfl) ?_
            refine va_get (D := (dC, dI)) (ci := 10) (v := .ref (ad 7)) (C := RX10) (T := TX10) (N := 37) hx hb hts hinX10 hown hK hP 0 rfl rfl 8 (by decide) hl_28 (fun _ h9 => h9) rfl dX10_reads_360 ?_
            refine lv_iload hx hb dX10_reads_363 (lv_at hl 0 rfl) ?_
            refine lv_iload_n hx hb dX10_reads_365 rfl (lv_at hl 3 rfl) ?_
            refine lv_if_ne (tgt := 373) hx hb dX10_reads_366 (by decide) (fun c_25 => ?_) (fun c_25 => ?_)
            · have hm := it_neg c_25 hm
              refine lv_iconst (v := 0) hx hb dX10_reads_373 (by decide) ?_
              exact b_374 _ _ _ _ _ _ _ _ _ _ _ _ _ _ _ hm _ _ hP hD hS _ (lv_sub hl [2, 3, 1, 0] rfl)
            · have hm := it_pos c_25 hm
              refine lv_iconst (v := 1) hx hb dX10_reads_369 (by decide) ?_
              refine lv_goto (tgt := 374) hx hb dX10_reads_370 (by decide) ?_
              exact b_374 _ _ _ _ _ _ _ _ _ _ _ _ _ _ _ hm _ _ hP hD hS _ (lv_sub hl [2, 3, 1, 0] rfl)
          · have hm := it_pos c_16 hm
            refine lv_iload_n hx hb dX10_reads_292 rfl (lv_at hl 0 rfl) ?_
            refine lv_iconst (v := 1) hx hb dX10_reads_293 (by decide) ?_
            refine lv_iadd hx hb dX10_reads_294 ?_
            obtain rfl := Option.some.inj hm
            subst hQ
            exact W.iret (v := ((v2_256 + v4_256) + 1)) hx hb hr (fun t ht hW => ⟨⟨_, (), rfl, rfl, by rw [ht]; exact hP, va_K.moved hW.alike hK, hAe ▸ hD⟩, hS.F ht⟩) hS.2.2 dX10_reads_295
        · have hm := it_pos c_13 hm
          refine lv_iload_n hx hb dX10_reads_273 rfl (lv_at hl 0 rfl) ?_
          obtain rfl := Option.some.inj hm
          subst hQ
          exact W.iret (v := (v2_256 + v4_256)) hx hb hr (fun t ht hW => ⟨⟨_, (), rfl, rfl, by rw [ht]; exact hP, va_K.moved hW.alike hK, hAe ▸ hD⟩, hS.F ht⟩) hS.2.2 dX10_reads_274
      have b_229 : ∀ (v1_229 : Int32) (v2_229 : Int32) (v3_229 : Int32) (s0_229 : Int32) (xM_people_229 : Int32) (gMkinds_229 : Nat → Int32) (gMlates_229 : Nat → Int32) (gMscarfs_229 : Nat → Int32) (gMhands_229 : Nat → Int32) (gMrings_229 : Nat → Int32) (gMmains_229 : Nat → Int32) (gMaheadOf_229 : Nat → Int32) (gMlastIn_229 : Nat → Int32) (gMmanyIn_229 : Nat → Int32), fM_reads_229 (fM_reads_30  xM_typed gMtext n_30) v1_229 v2_229 v3_229 s0_229 xM_typed xM_people_229 gMtext gMkinds_229 gMlates_229 gMscarfs_229 gMhands_229 gMrings_229 gMmains_229 gMaheadOf_229 gMlastIn_229 gMmanyIn_229 = some u → ∀ (H : Heap) (locs : List Loc), va_P (dC, dI) vwCl [oM ad xM_typed xM_people_229 xM_posted xM_hears xM_censuses xM_finding, ar (ad 1) cA 60 gMtext, ar (ad 2) cA 20 gMkinds_229, ar (ad 3) cA 20 gMlates_229, ar (ad 4) cA 20 gMscarfs_229, ar (ad 5) cA 20 gMhands_229, ar (ad 6) cA 20 gMrings_229, ar (ad 7) cA 20 gMmains_229, ar (ad 8) cA 4 gMaheadOf_229, ar (ad 9) cA 4 gMlastIn_229, ar (ad 10) cA 4 gMmanyIn_229] H → va_D A [oM ad xM_typed xM_people_229 xM_posted xM_hears xM_censuses xM_finding, ar (ad 1) cA 60 gMtext, ar (ad 2) cA 20 gMkinds_229, ar (ad 3) cA 20 gMlates_229, ar (ad 4) cA 20 gMscarfs_229, ar (ad 5) cA 20 gMhands_229, ar (ad 6) cA 20 gMrings_229, ar (ad 7) cA 20 gMmains_229, ar (ad 8) cA 4 gMaheadOf_229, ar (ad 9) cA 4 gMlastIn_229, ar (ad 10) cA 4 gMmanyIn_229] → va_S A s.heap H locs → ∀ ls : Array Slot, lv_has ls 7 [(0, .ref (ad 0)), (1, .int v1_229), (2, .int v2_229), (3, .int v3_229)] → W p l e (headSpec wsX10_reads ({ frames := 1, cells := 0, slots := 0, locals := 22 })).room s m ([.ref (ad 0)] : List Value).toArray below meth c H locs 0 0 QQ (F0 m 229 ls [.int s0_229]) := by
        intro v1_229 v2_229 v3_229 s0_229 xM_people_229 gMkinds_229 gMlates_229 gMscarfs_229 gMhands_229 gMrings_229 gMmains_229 gMaheadOf_229 gMlastIn_229 gMmanyIn_229 hm H locs hP hD hS ls hl
        unfold fM_reads_229 at hm
        refine lv_istore (lv' := [(4, .int s0_229), (0, .ref (ad 0)), (1, .int v1_229), (2, .int v2_229), (3, .int v3_229)]) hx hb dX10_reads_229 hl (by decide) rfl (fun ls hl => ?_)
        refine lv_aload_n hx hb dX10_reads_231 rfl (lv_at hl 1 rfl) ?_
        refine va_get (D := (dC, dI)) (ci := 10) (v := .int xM_people_229) (C := RX10) (T := TX10) (N := 37) hx hb hts hinX10 hown hK hP 0 rfl rfl 2 (by decide) hl_112 (fun _ h9 => h9) rfl dX10_reads_232 ?_
        refine lv_bipush (v := 20) hx hb dX10_reads_235 (by decide) ?_
        refine lv_icmp_ne (tgt := 256) hx hb dX10_reads_237 (by decide) (fun c_26 => ?_) (fun c_26 => ?_)
        · have hm := it_neg c_26 hm
          exact b_256 _ _ _ _ _ _ _ _ _ _ _ _ _ hm _ _ hP hD hS _ (lv_sub hl [1, 2, 3, 0] rfl)
        · have hm := it_pos c_26 hm
          refine lv_iload hx hb dX10_reads_240 (lv_at hl 0 rfl) ?_
          refine lv_iconst (v := 1) hx hb dX10_reads_242 (by decide) ?_
          refine lv_icmp_eq (tgt := 254) hx hb dX10_reads_243 (by decide) (fun c_27 => ?_) (fun c_27 => ?_)
          · have hm := it_pos c_27 hm
            refine lv_iload_n hx hb dX10_reads_254 rfl (lv_at hl 3 rfl) ?_
            obtain rfl := Option.some.inj hm
            subst hQ
            exact W.iret (v := v2_229) hx hb hr (fun t ht hW => ⟨⟨_, (), rfl, rfl, by rw [ht]; exact hP, va_K.moved hW.alike hK, hAe ▸ hD⟩, hS.F ht⟩) hS.2.2 dX10_reads_255
          · have hm := it_neg c_27 hm
            refine lv_iload_n hx hb dX10_reads_246 rfl (lv_at hl 4 rfl) ?_
            have hPc := hP.sub (ws' := []) [] rfl
            have hDc := hD.sub (ws' := []) [] (by decide) rfl
            have hFc := va_free (wc := []) hD hS hA [] rfl
            obtain ⟨u_28, hc_28, hm⟩ := bd_ok hm
            refine va_calli (va_runS (As := [.int v3_229]) (rest := []) ⟨hx, hb, hml, hown, hts⟩ (kM_kindOf l dC dI cA cB ad H.size v3_229 u_28 hc_28) (va_cwS 1 hts gX10_reads_X10_kindOf rfl rfl rfl (by decide +kernel) ⟨Nat.le_of_ble_eq_true rfl, Nat.le_of_ble_eq_true rfl⟩) ⟨fun a U g mk q => by obtain ⟨q0, q1, qP, qK, qD⟩ := q; exact ⟨q0, q1, qP, va_K.moved (u := U) (U := U.calling g mk a) (Vm.Alike.refl U.vm) qK, qD⟩, fun U hU hW => ⟨rfl, by rw [hU], by rw [hU]; exact hPc, va_K.moved hW.alike hK, hDc.weaken (fun _ _ _ _ => trivial)⟩⟩ rfl rfl hl.1 rfl (lv_room (Nat.le_of_ble_eq_true rfl)) dX10_reads_247 ⟨Nat.le_of_ble_eq_true rfl, Nat.le_of_ble_eq_true rfl⟩) hS (fun q _ h => hFc q h) hFc (fun r_28 _ t H1 locs ht hvm hw hB hz1 hk1 hS => ?_)
            obtain ⟨hP1, hK1, hD1⟩ := hB
            rw [ht] at hP1
            obtain ⟨hP, hD⟩ := va_join (wr := [oM ad xM_typed xM_people_229 xM_posted xM_hears xM_censuses xM_finding, ar (ad 1) cA 60 gMtext, ar (ad 2) cA 20 gMkinds_229, ar (ad 3) cA 20 gMlates_229, ar (ad 4) cA 20 gMscarfs_229, ar (ad 5) cA 20 gMhands_229, ar (ad 6) cA 20 gMrings_229, ar (ad 7) cA 20 gMmains_229, ar (ad 8) cA 4 gMaheadOf_229, ar (ad 9) cA 4 gMlastIn_229, ar (ad 10) cA 4 gMmanyIn_229]) (w1 := []) hP hD [] [0, 1, 2, 3, 4, 5, 6, 7, 8, 9, 10] rfl rfl (by decide) (by decide) hk1 hFc hP1 hD1
            clear hPc hDc hFc hP1 hK1 hD1 hk1 hz1 hvm ht
            generalize H1 = H at hP hS ⊢
            have hP : va_P (dC, dI) vwCl [oM ad xM_typed xM_people_229 xM_posted xM_hears xM_censuses xM_finding, ar (ad 1) cA 60 gMtext, ar (ad 2) cA 20 gMkinds_229, ar (ad 3) cA 20 gMlates_229, ar (ad 4) cA 20 gMscarfs_229, ar (ad 5) cA 20 gMhands_229, ar (ad 6) cA 20 gMrings_229, ar (ad 7) cA 20 gMmains_229, ar (ad 8) cA 4 gMaheadOf_229, ar (ad 9) cA 4 gMlastIn_229, ar (ad 10) cA 4 gMmanyIn_229] H := hP
            have hD : va_D A [oM ad xM_typed xM_people_229 xM_posted xM_hears xM_censuses xM_finding, ar (ad 1) cA 60 gMtext, ar (ad 2) cA 20 gMkinds_229, ar (ad 3) cA 20 gMlates_229, ar (ad 4) cA 20 gMscarfs_229, ar (ad 5) cA 20 gMhands_229, ar (ad 6) cA 20 gMrings_229, ar (ad 7) cA 20 gMmains_229, ar (ad 8) cA 4 gMaheadOf_229, ar (ad 9) cA 4 gMlastIn_229, ar (ad 10) cA 4 gMmanyIn_229] := hD
            have hw := hw.symm
            subst hw
            refine lv_iconst (v := (-1)) hx hb dX10_reads_250 (by decide) ?_
            refine lv_icmp_eq (tgt := 256) hx hb dX10_reads_251 (by decide) (fun c_29 => ?_) (fun c_29 => ?_)
            · have hm := it_pos c_29 hm
              exact b_256 _ _ _ _ _ _ _ _ _ _ _ _ _ hm _ _ hP hD hS _ (lv_sub hl [1, 2, 3, 0] rfl)
            · have hm := it_neg c_29 hm
              refine lv_iload_n hx hb dX10_reads_254 rfl (lv_at hl 3 rfl) ?_
              obtain rfl := Option.some.inj hm
              subst hQ
              exact W.iret (v := v2_229) hx hb hr (fun t ht hW => ⟨⟨_, (), rfl, rfl, by rw [ht]; exact hP, va_K.moved hW.alike hK, hAe ▸ hD⟩, hS.F ht⟩) hS.2.2 dX10_reads_255
      have b_209 : ∀ (v1_209 : Int32) (v2_209 : Int32) (xM_people_209 : Int32) (gMkinds_209 : Nat → Int32) (gMlates_209 : Nat → Int32) (gMscarfs_209 : Nat → Int32) (gMhands_209 : Nat → Int32) (gMrings_209 : Nat → Int32) (gMmains_209 : Nat → Int32) (gMaheadOf_209 : Nat → Int32) (gMlastIn_209 : Nat → Int32) (gMmanyIn_209 : Nat → Int32), fM_reads_209 (fM_reads_30  xM_typed gMtext n_30) v1_209 v2_209 xM_typed xM_people_209 gMtext gMkinds_209 gMlates_209 gMscarfs_209 gMhands_209 gMrings_209 gMmains_209 gMaheadOf_209 gMlastIn_209 gMmanyIn_209 = some u → ∀ (H : Heap) (locs : List Loc), va_P (dC, dI) vwCl [oM ad xM_typed xM_people_209 xM_posted xM_hears xM_censuses xM_finding, ar (ad 1) cA 60 gMtext, ar (ad 2) cA 20 gMkinds_209, ar (ad 3) cA 20 gMlates_209, ar (ad 4) cA 20 gMscarfs_209, ar (ad 5) cA 20 gMhands_209, ar (ad 6) cA 20 gMrings_209, ar (ad 7) cA 20 gMmains_209, ar (ad 8) cA 4 gMaheadOf_209, ar (ad 9) cA 4 gMlastIn_209, ar (ad 10) cA 4 gMmanyIn_209] H → va_D A [oM ad xM_typed xM_people_209 xM_posted xM_hears xM_censuses xM_finding, ar (ad 1) cA 60 gMtext, ar (ad 2) cA 20 gMkinds_209, ar (ad 3) cA 20 gMlates_209, ar (ad 4) cA 20 gMscarfs_209, ar (ad 5) cA 20 gMhands_209, ar (ad 6) cA 20 gMrings_209, ar (ad 7) cA 20 gMmains_209, ar (ad 8) cA 4 gMaheadOf_209, ar (ad 9) cA 4 gMlastIn_209, ar (ad 10) cA 4 gMmanyIn_209] → va_S A s.heap H locs → ∀ ls : Array Slot, lv_has ls 7 [(0, .ref (ad 0)), (1, .int v1_209), (2, .int v2_209)] → W p l e (headSpec wsX10_reads ({ frames := 1, cells := 0, slots := 0, locals := 22 })).room s m ([.ref (ad 0)] : List Value).toArray below meth c H locs 0 0 QQ (F0 m 209 ls []) := by
        intro v1_209 v2_209 xM_people_209 gMkinds_209 gMlates_209 gMscarfs_209 gMhands_209 gMrings_209 gMmains_209 gMaheadOf_209 gMlastIn_209 gMmanyIn_209 hm H locs hP hD hS ls hl
        unfold fM_reads_209 at hm
        refine lv_iinc (v := (v1_209 + (-1))) (lv' := [(1, .int (v1_209 + (-1))), (0, .ref (ad 0)), (2, .int v2_209)]) hx hb dX10_reads_209 hl (k := 1) rfl rfl (by decide) rfl (fun ls hl => ?_)
        refine lv_iinc (v := (v2_209 + 1)) (lv' := [(2, .int (v2_209 + 1)), (1, .int (v1_209 + (-1))), (0, .ref (ad 0))]) hx hb dX10_reads_212 hl (k := 2) rfl rfl (by decide) rfl (fun ls hl => ?_)
        refine lv_goto (tgt := 447) hx hb dX10_reads_215 (by decide) ?_
        exact b_447 _ _ _ _ _ _ _ _ _ _ _ _ hm _ _ hP hD hS _ (lv_sub hl [2, 1, 0] rfl)
      have b_138 : ∀ (v1_138 : Int32) (v2_138 : Int32) (v3_138 : Int32) (s0_138 : Int32) (s1_138 : Int32) (xM_people_138 : Int32) (gMkinds_138 : Nat → Int32) (gMlates_138 : Nat → Int32) (gMscarfs_138 : Nat → Int32) (gMhands_138 : Nat → Int32) (gMrings_138 : Nat → Int32) (gMmains_138 : Nat → Int32) (gMaheadOf_138 : Nat → Int32) (gMlastIn_138 : Nat → Int32) (gMmanyIn_138 : Nat → Int32), fM_reads_138 (fM_reads_30  xM_typed gMtext n_30) v1_138 v2_138 v3_138 s0_138 s1_138 xM_typed xM_people_138 gMtext gMkinds_138 gMlates_138 gMscarfs_138 gMhands_138 gMrings_138 gMmains_138 gMaheadOf_138 gMlastIn_138 gMmanyIn_138 = some u → ∀ (H : Heap) (locs : List Loc), va_P (dC, dI) vwCl [oM ad xM_typed xM_people_138 xM_posted xM_hears xM_censuses xM_finding, ar (ad 1) cA 60 gMtext, ar (ad 2) cA 20 gMkinds_138, ar (ad 3) cA 20 gMlates_138, ar (ad 4) cA 20 gMscarfs_138, ar (ad 5) cA 20 gMhands_138, ar (ad 6) cA 20 gMrings_138, ar (ad 7) cA 20 gMmains_138, ar (ad 8) cA 4 gMaheadOf_138, ar (ad 9) cA 4 gMlastIn_138, ar (ad 10) cA 4 gMmanyIn_138] H → va_D A [oM ad xM_typed xM_people_138 xM_posted xM_hears xM_censuses xM_finding, ar (ad 1) cA 60 gMtext, ar (ad 2) cA 20 gMkinds_138, ar (ad 3) cA 20 gMlates_138, ar (ad 4) cA 20 gMscarfs_138, ar (ad 5) cA 20 gMhands_138, ar (ad 6) cA 20 gMrings_138, ar (ad 7) cA 20 gMmains_138, ar (ad 8) cA 4 gMaheadOf_138, ar (ad 9) cA 4 gMlastIn_138, ar (ad 10) cA 4 gMmanyIn_138] → va_S A s.heap H locs → ∀ ls : Array Slot, lv_has ls 7 [(0, .ref (ad 0)), (1, .int v1_138), (2, .int v2_138), (3, .int v3_138)] → W p l e (headSpec wsX10_reads ({ frames := 1, cells := 0, slots := 0, locals := 22 })).room s m ([.ref (ad 0)] : List Value).toArray below meth c H locs 0 0 QQ (F0 m 138 ls [.int s1_138, .int s0_138]) := by
        intro v1_138 v2_138 v3_138 s0_138 s1_138 xM_people_138 gMkinds_138 gMlates_138 gMscarfs_138 gMhands_138 gMrings_138 gMmains_138 gMaheadOf_138 gMlastIn_138 gMmanyIn_138 hm H locs hP hD hS ls hl
        unfold fM_reads_138 at hm
        refine lv_icmp_ge (tgt := 143) hx hb dX10_reads_138 (by decide) (fun c_30 => ?_) (fun c_30 => ?_)
        · have hm := it_pos c_30 hm
          refine lv_iload_n hx hb dX10_reads_143 rfl (lv_at hl 3 rfl) ?_
          refine lv_bipush (v := 111) hx hb dX10_reads_144 (by decide) ?_
          refine lv_icmp_ne (tgt := 209) hx hb dX10_reads_146 (by decide) (fun c_31 => ?_) (fun c_31 => ?_)
          · have hm := it_neg c_31 hm
            exact b_209 _ _ _ _ _ _ _ _ _ _ _ _ hm _ _ hP hD hS _ (lv_sub hl [0, 1, 2] rfl)
          · have hm := it_pos c_31 hm
            refine lv_aload_n hx hb dX10_reads_149 rfl (lv_at hl 0 rfl) ?_
            refine lv_aload_n hx hb dX10_reads_150 rfl (lv_at hl 0 rfl) ?_
            refine va_get (D := (dC, dI)) (ci := 10) (v := .ref (ad 9)) (C := RX10) (T := TX10) (N := 37) hx hb hts hinX10 hown hK hP 0 rfl rfl 10 (by decide) hl_34 (fun _ h9 => h9) rfl dX10_reads_151 ?_
            refine lv_iload_n hx hb dX10_reads_154 rfl (lv_at hl 1 rfl) ?_
            obtain ⟨i_32, hm⟩ := ck_ok hm
            refine va_iald hx hb hK hP 9 0 rfl rfl i_32 dX10_reads_155 ?_
            refine lv_aload_n hx hb dX10_reads_156 rfl (lv_at hl 0 rfl) ?_
            refine va_get (D := (dC, dI)) (ci := 10) (v := .ref (ad 8)) (C := RX10) (T := TX10) (N := 37) hx hb hts hinX10 hown hK hP 0 rfl rfl 9 (by decide) hl_31 (fun _ h9 => h9) rfl dX10_reads_157 ?_
            refine lv_iload_n hx hb dX10_reads_160 rfl (lv_at hl 1 rfl) ?_
            obtain ⟨i_33, hm⟩ := ck_ok hm
            refine va_iald hx hb hK hP 8 0 rfl rfl i_33 dX10_reads_161 ?_
            have hPc := hP.sub (ws' := [oM ad xM_typed xM_people_138 xM_posted xM_hears xM_censuses xM_finding, ar (ad 5) cA 20 gMhands_138]) [0, 5] rfl
            have hDc := hD.sub (ws' := [oM ad xM_typed xM_people_138 xM_posted xM_hears xM_censuses xM_finding, ar (ad 5) cA 20 gMhands_138]) [0, 5] (by decide) rfl
            have hFc := va_free (wc := [oM ad xM_typed xM_people_138 xM_posted xM_hears xM_censuses xM_finding, ar (ad 5) cA 20 gMhands_138]) hD hS hA [0, 5] rfl
            obtain ⟨u_34, hc_34, hm⟩ := bd_ok hm
            refine va_callv (va_runV (As := [.int (gMlastIn_138 v1_138.toNatClampNeg), .int (gMaheadOf_138 v1_138.toNatClampNeg)]) (rest := []) ⟨hx, hb, hml, hown, hts⟩ (kM_holds l dC dI cA cB ad H.size (gMlastIn_138 v1_138.toNatClampNeg) (gMaheadOf_138 v1_138.toNatClampNeg) xM_typed xM_people_138 xM_posted xM_hears xM_censuses xM_finding gMhands_138 u_34 hc_34) (cwV 2 hts gX10_reads_X10_holds rfl rfl rfl (by decide +kernel) ⟨Nat.le_of_ble_eq_true rfl, Nat.le_of_ble_eq_true rfl⟩) ⟨fun a U g mk q => by obtain ⟨q0, q1, qP, qK, qD⟩ := q; exact ⟨q0, q1, qP, va_K.moved (u := U) (U := U.calling g mk a) (Vm.Alike.refl U.vm) qK, qD⟩, va_recv hK hPc (ci := 10) (q0 := 0) rfl rfl, fun U hU hW => ⟨rfl, by rw [hU], by rw [hU]; exact hPc, va_K.moved hW.alike hK, hDc.weaken (fun _ _ _ _ => trivial)⟩⟩ rfl rfl hl.1 rfl (lv_room (Nat.le_of_ble_eq_true rfl)) dX10_reads_162 ⟨Nat.le_of_ble_eq_true rfl, Nat.le_of_ble_eq_true rfl⟩) hS (fun q _ h => hFc q h) hFc (fun _ t H1 locs ht hvm hw hB hz1 hk1 hS => ?_)
            obtain ⟨hP1, hK1, hD1⟩ := hB
            rw [ht] at hP1
            obtain ⟨hP, hD⟩ := va_join (wr := [ar (ad 1) cA 60 gMtext, ar (ad 2) cA 20 gMkinds_138, ar (ad 3) cA 20 gMlates_138, ar (ad 4) cA 20 gMscarfs_138, ar (ad 6) cA 20 gMrings_138, ar (ad 7) cA 20 gMmains_138, ar (ad 8) cA 4 gMaheadOf_138, ar (ad 9) cA 4 gMlastIn_138, ar (ad 10) cA 4 gMmanyIn_138]) (w1 := [oM ad xM_typed xM_people_138 xM_posted xM_hears xM_censuses xM_finding, ar (ad 5) cA 20 u_34]) hP hD [0, 5] [1, 2, 3, 4, 6, 7, 8, 9, 10] rfl rfl (by decide) (by decide) hk1 hFc hP1 hD1
            clear hPc hDc hFc hP1 hK1 hD1 hk1 hz1 hvm ht
            generalize H1 = H at hP hS ⊢
            have hP : va_P (dC, dI) vwCl [oM ad xM_typed xM_people_138 xM_posted xM_hears xM_censuses xM_finding, ar (ad 1) cA 60 gMtext, ar (ad 2) cA 20 gMkinds_138, ar (ad 3) cA 20 gMlates_138, ar (ad 4) cA 20 gMscarfs_138, ar (ad 5) cA 20 u_34, ar (ad 6) cA 20 gMrings_138, ar (ad 7) cA 20 gMmains_138, ar (ad 8) cA 4 gMaheadOf_138, ar (ad 9) cA 4 gMlastIn_138, ar (ad 10) cA 4 gMmanyIn_138] H := hP.sub [9, 0, 1, 2, 3, 10, 4, 5, 6, 7, 8] rfl
            have hD : va_D A [oM ad xM_typed xM_people_138 xM_posted xM_hears xM_censuses xM_finding, ar (ad 1) cA 60 gMtext, ar (ad 2) cA 20 gMkinds_138, ar (ad 3) cA 20 gMlates_138, ar (ad 4) cA 20 gMscarfs_138, ar (ad 5) cA 20 u_34, ar (ad 6) cA 20 gMrings_138, ar (ad 7) cA 20 gMmains_138, ar (ad 8) cA 4 gMaheadOf_138, ar (ad 9) cA 4 gMlastIn_138, ar (ad 10) cA 4 gMmanyIn_138] := hD.sub [9, 0, 1, 2, 3, 10, 4, 5, 6, 7, 8] (by decide) rfl
            refine lv_aload_n hx hb dX10_reads_165 rfl (lv_at hl 0 rfl) ?_
            refine va_get (D := (dC, dI)) (ci := 10) (v := .ref (ad 6)) (C := RX10) (T := TX10) (N := 37) hx hb hts hinX10 hown hK hP 0 rfl rfl 7 (by decide) hl_25 (fun _ h9 => h9) rfl dX10_reads_166 ?_
            refine lv_aload_n hx hb dX10_reads_169 rfl (lv_at hl 0 rfl) ?_
            refine va_get (D := (dC, dI)) (ci := 10) (v := .ref (ad 9)) (C := RX10) (T := TX10) (N := 37) hx hb hts hinX10 hown hK hP 0 rfl rfl 10 (by decide) hl_34 (fun _ h9 => h9) rfl dX10_reads_170 ?_
            refine lv_iload_n hx hb dX10_reads_173 rfl (lv_at hl 1 rfl) ?_
            obtain ⟨i_35, hm⟩ := ck_ok hm
            refine va_iald hx hb hK hP 9 0 rfl rfl i_35 dX10_reads_174 ?_
            refine lv_dup2_11 hx hb dX10_reads_175 rfl rfl ?_
            obtain ⟨i_36, hm⟩ := ck_ok hm
            refine va_iald hx hb hK hP 6 0 rfl rfl i_36 dX10_reads_176 ?_
            refine lv_iconst (v := 1) hx hb dX10_reads_177 (by decide) ?_
            refine lv_aload_n hx hb dX10_reads_178 rfl (lv_at hl 0 rfl) ?_
            refine va_get (D := (dC, dI)) (ci := 10) (v := .ref (ad 8)) (C := RX10) (T := TX10) (N := 37) hx hb hts hinX10 hown hK hP 0 rfl rfl 9 (by decide) hl_31 (fun _ h9 => h9) rfl dX10_reads_179 ?_
            refine lv_iload_n hx hb dX10_reads_182 rfl (lv_at hl 1 rfl) ?_
            obtain ⟨i_37, hm⟩ := ck_ok hm
            refine va_iald hx hb hK hP 8 0 rfl rfl i_37 dX10_reads_183 ?_
            refine lv_ishl hx hb dX10_reads_184 ?_
            refine lv_ior hx hb dX10_reads_185 ?_
            obtain ⟨i_38, hm⟩ := ck_ok hm
            refine va_iast hx hb hK hP hD hS 6 0 rfl rfl i_38 dX10_reads_186 (fun H locs hP hD hS => ?_)
            have hP : va_P (dC, dI) vwCl [oM ad xM_typed xM_people_138 xM_posted xM_hears xM_censuses xM_finding, ar (ad 1) cA 60 gMtext, ar (ad 2) cA 20 gMkinds_138, ar (ad 3) cA 20 gMlates_138, ar (ad 4) cA 20 gMscarfs_138, ar (ad 5) cA 20 u_34, ar (ad 6) cA 20 (upd gMrings_138 (gMlastIn_138 v1_138.toNatClampNeg).toNatClampNeg ((gMrings_138 (gMlastIn_138 v1_138.toNatClampNeg).toNatClampNeg) ||| (1 <<< ((gMaheadOf_138 v1_138.toNatClampNeg) &&& 31)))), ar (ad 7) cA 20 gMmains_138, ar (ad 8) cA 4 gMaheadOf_138, ar (ad 9) cA 4 gMlastIn_138, ar (ad 10) cA 4 gMmanyIn_138] H := hP
            have hD : va_D A [oM ad xM_typed xM_people_138 xM_posted xM_hears xM_censuses xM_finding, ar (ad 1) cA 60 gMtext, ar (ad 2) cA 20 gMkinds_138, ar (ad 3) cA 20 gMlates_138, ar (ad 4) cA 20 gMscarfs_138, ar (ad 5) cA 20 u_34, ar (ad 6) cA 20 (upd gMrings_138 (gMlastIn_138 v1_138.toNatClampNeg).toNatClampNeg ((gMrings_138 (gMlastIn_138 v1_138.toNatClampNeg).toNatClampNeg) ||| (1 <<< ((gMaheadOf_138 v1_138.toNatClampNeg) &&& 31)))), ar (ad 7) cA 20 gMmains_138, ar (ad 8) cA 4 gMaheadOf_138, ar (ad 9) cA 4 gMlastIn_138, ar (ad 10) cA 4 gMmanyIn_138] := hD
            refine lv_aload_n hx hb dX10_reads_187 rfl (lv_at hl 0 rfl) ?_
            refine va_get (D := (dC, dI)) (ci := 10) (v := .ref (ad 6)) (C := RX10) (T := TX10) (N := 37) hx hb hts hinX10 hown hK hP 0 rfl rfl 7 (by decide) hl_25 (fun _ h9 => h9) rfl dX10_reads_188 ?_
            refine lv_aload_n hx hb dX10_reads_191 rfl (lv_at hl 0 rfl) ?_
            refine va_get (D := (dC, dI)) (ci := 10) (v := .ref (ad 8)) (C := RX10) (T := TX10) (N := 37) hx hb hts hinX10 hown hK hP 0 rfl rfl 9 (by decide) hl_31 (fun _ h9 => h9) rfl dX10_reads_192 ?_
            refine lv_iload_n hx hb dX10_reads_195 rfl (lv_at hl 1 rfl) ?_
            obtain ⟨i_39, hm⟩ := ck_ok hm
            refine va_iald hx hb hK hP 8 0 rfl rfl i_39 dX10_reads_196 ?_
            refine lv_dup2_11 hx hb dX10_reads_197 rfl rfl ?_
            obtain ⟨i_40, hm⟩ := ck_ok hm
            refine va_iald hx hb hK hP 6 0 rfl rfl i_40 dX10_reads_198 ?_
            refine lv_iconst (v := 1) hx hb dX10_reads_199 (by decide) ?_
            refine lv_aload_n hx hb dX10_reads_200 rfl (lv_at hl 0 rfl) ?_
            refine va_get (D := (dC, dI)) (ci := 10) (v := .ref (ad 9)) (C := RX10) (T := TX10) (N := 37) hx hb hts hinX10 hown hK hP 0 rfl rfl 10 (by decide) hl_34 (fun _ h9 => h9) rfl dX10_reads_201 ?_
            refine lv_iload_n hx hb dX10_reads_204 rfl (lv_at hl 1 rfl) ?_
            obtain ⟨i_41, hm⟩ := ck_ok hm
            refine va_iald hx hb hK hP 9 0 rfl rfl i_41 dX10_reads_205 ?_
            refine lv_ishl hx hb dX10_reads_206 ?_
            refine lv_ior hx hb dX10_reads_207 ?_
            obtain ⟨i_42, hm⟩ := ck_ok hm
            refine va_iast hx hb hK hP hD hS 6 0 rfl rfl i_42 dX10_reads_208 (fun H locs hP hD hS => ?_)
            have hP : va_P (dC, dI) vwCl [oM ad xM_typed xM_people_138 xM_posted xM_hears xM_censuses xM_finding, ar (ad 1) cA 60 gMtext, ar (ad 2) cA 20 gMkinds_138, ar (ad 3) cA 20 gMlates_138, ar (ad 4) cA 20 gMscarfs_138, ar (ad 5) cA 20 u_34, ar (ad 6) cA 20 (upd (upd gMrings_138 (gMlastIn_138 v1_138.toNatClampNeg).toNatClampNeg ((gMrings_138 (gMlastIn_138 v1_138.toNatClampNeg).toNatClampNeg) ||| (1 <<< ((gMaheadOf_138 v1_138.toNatClampNeg) &&& 31)))) (gMaheadOf_138 v1_138.toNatClampNeg).toNatClampNeg (((upd gMrings_138 (gMlastIn_138 v1_138.toNatClampNeg).toNatClampNeg ((gMrings_138 (gMlastIn_138 v1_138.toNatClampNeg).toNatClampNeg) ||| (1 <<< ((gMaheadOf_138 v1_138.toNatClampNeg) &&& 31)))) (gMaheadOf_138 v1_138.toNatClampNeg).toNatClampNeg) ||| (1 <<< ((gMlastIn_138 v1_138.toNatClampNeg) &&& 31)))), ar (ad 7) cA 20 gMmains_138, ar (ad 8) cA 4 gMaheadOf_138, ar (ad 9) cA 4 gMlastIn_138, ar (ad 10) cA 4 gMmanyIn_138] H := hP
            have hD : va_D A [oM ad xM_typed xM_people_138 xM_posted xM_hears xM_censuses xM_finding, ar (ad 1) cA 60 gMtext, ar (ad 2) cA 20 gMkinds_138, ar (ad 3) cA 20 gMlates_138, ar (ad 4) cA 20 gMscarfs_138, ar (ad 5) cA 20 u_34, ar (ad 6) cA 20 (upd (upd gMrings_138 (gMlastIn_138 v1_138.toNatClampNeg).toNatClampNeg ((gMrings_138 (gMlastIn_138 v1_138.toNatClampNeg).toNatClampNeg) ||| (1 <<< ((gMaheadOf_138 v1_138.toNatClampNeg) &&& 31)))) (gMaheadOf_138 v1_138.toNatClampNeg).toNatClampNeg (((upd gMrings_138 (gMlastIn_138 v1_138.toNatClampNeg).toNatClampNeg ((gMrings_138 (gMlastIn_138 v1_138.toNatClampNeg).toNatClampNeg) ||| (1 <<< ((gMaheadOf_138 v1_138.toNatClampNeg) &&& 31)))) (gMaheadOf_138 v1_138.toNatClampNeg).toNatClampNeg) ||| (1 <<< ((gMlastIn_138 v1_138.toNatClampNeg) &&& 31)))), ar (ad 7) cA 20 gMmains_138, ar (ad 8) cA 4 gMaheadOf_138, ar (ad 9) cA 4 gMlastIn_138, ar (ad 10) cA 4 gMmanyIn_138] := hD
            exact b_209 _ _ _ _ _ _ _ _ _ _ _ _ hm _ _ hP hD hS _ (lv_sub hl [0, 1, 2] rfl)
        · have hm := it_neg c_30 hm
          refine lv_iload_n hx hb dX10_reads_141 rfl (lv_at hl 2 rfl) ?_
          obtain rfl := Option.some.inj hm
          subst hQ
          exact W.iret (v := v2_138) hx hb hr (fun t ht hW => ⟨⟨_, (), rfl, rfl, by rw [ht]; exact hP, va_K.moved hW.alike hK, hAe ▸ hD⟩, hS.F ht⟩) hS.2.2 dX10_reads_142
      have b_117 : ∀ (v1_117 : Int32) (v2_117 : Int32) (v3_117 : Int32) (xM_people_117 : Int32) (gMkinds_117 : Nat → Int32) (gMlates_117 : Nat → Int32) (gMscarfs_117 : Nat → Int32) (gMhands_117 : Nat → Int32) (gMrings_117 : Nat → Int32) (gMmains_117 : Nat → Int32) (gMaheadOf_117 : Nat → Int32) (gMlastIn_117 : Nat → Int32) (gMmanyIn_117 : Nat → Int32), fM_reads_117 (fM_reads_30  xM_typed gMtext n_30) v1_117 v2_117 v3_117 xM_typed xM_people_117 gMtext gMkinds_117 gMlates_117 gMscarfs_117 gMhands_117 gMrings_117 gMmains_117 gMaheadOf_117 gMlastIn_117 gMmanyIn_117 = some u → ∀ (H : Heap) (locs : List Loc), va_P (dC, dI) vwCl [oM ad xM_typed xM_people_117 xM_posted xM_hears xM_censuses xM_finding, ar (ad 1) cA 60 gMtext, ar (ad 2) cA 20 gMkinds_117, ar (ad 3) cA 20 gMlates_117, ar (ad 4) cA 20 gMscarfs_117, ar (ad 5) cA 20 gMhands_117, ar (ad 6) cA 20 gMrings_117, ar (ad 7) cA 20 gMmains_117, ar (ad 8) cA 4 gMaheadOf_117, ar (ad 9) cA 4 gMlastIn_117, ar (ad 10) cA 4 gMmanyIn_117] H → va_D A [oM ad xM_typed xM_people_117 xM_posted xM_hears xM_censuses xM_finding, ar (ad 1) cA 60 gMtext, ar (ad 2) cA 20 gMkinds_117, ar (ad 3) cA 20 gMlates_117, ar (ad 4) cA 20 gMscarfs_117, ar (ad 5) cA 20 gMhands_117, ar (ad 6) cA 20 gMrings_117, ar (ad 7) cA 20 gMmains_117, ar (ad 8) cA 4 gMaheadOf_117, ar (ad 9) cA 4 gMlastIn_117, ar (ad 10) cA 4 gMmanyIn_117] → va_S A s.heap H locs → ∀ ls : Array Slot, lv_has ls 7 [(0, .ref (ad 0)), (1, .int v1_117), (2, .int v2_117), (3, .int v3_117)] → W p l e (headSpec wsX10_reads ({ frames := 1, cells := 0, slots := 0, locals := 22 })).room s m ([.ref (ad 0)] : List Value).toArray below meth c H locs 0 0 QQ (F0 m 117 ls []) := by
        intro v1_117 v2_117 v3_117 xM_people_117 gMkinds_117 gMlates_117 gMscarfs_117 gMhands_117 gMrings_117 gMmains_117 gMaheadOf_117 gMlastIn_117 gMmanyIn_117 hm H locs hP hD hS ls hl
        unfold fM_reads_117 at hm
        refine lv_iload_n hx hb dX10_reads_117 rfl (lv_at hl 1 rfl) ?_
        refine lv_if_eq (tgt := 141) hx hb dX10_reads_118 (by decide) (fun c_43 => ?_) (fun c_43 => ?_)
        · have hm := it_pos c_43 hm
          refine lv_iload_n hx hb dX10_reads_141 rfl (lv_at hl 2 rfl) ?_
          obtain rfl := Option.some.inj hm
          subst hQ
          exact W.iret (v := v2_117) hx hb hr (fun t ht hW => ⟨⟨_, (), rfl, rfl, by rw [ht]; exact hP, va_K.moved hW.alike hK, hAe ▸ hD⟩, hS.F ht⟩) hS.2.2 dX10_reads_142
        · have hm := it_neg c_43 hm
          refine lv_aload_n hx hb dX10_reads_121 rfl (lv_at hl 0 rfl) ?_
          refine va_get (D := (dC, dI)) (ci := 10) (v := .ref (ad 10)) (C := RX10) (T := TX10) (N := 37) hx hb hts hinX10 hown hK hP 0 rfl rfl 11 (by decide) hl_37 (fun _ h9 => h9) rfl dX10_reads_122 ?_
          refine lv_iload_n hx hb dX10_reads_125 rfl (lv_at hl 1 rfl) ?_
          obtain ⟨i_44, hm⟩ := ck_ok hm
          refine va_iald hx hb hK hP 10 0 rfl rfl i_44 dX10_reads_126 ?_
          refine lv_iload_n hx hb dX10_reads_127 rfl (lv_at hl 3 rfl) ?_
          refine lv_bipush (v := 111) hx hb dX10_reads_128 (by decide) ?_
          refine lv_icmp_ne (tgt := 137) hx hb dX10_reads_130 (by decide) (fun c_45 => ?_) (fun c_45 => ?_)
          · have hm := it_neg c_45 hm
            refine lv_iconst (v := 1) hx hb dX10_reads_137 (by decide) ?_
            exact b_138 _ _ _ _ _ _ _ _ _ _ _ _ _ _ _ hm _ _ hP hD hS _ (lv_sub hl [0, 1, 2, 3] rfl)
          · have hm := it_pos c_45 hm
            refine lv_iconst (v := 2) hx hb dX10_reads_133 (by decide) ?_
            refine lv_goto (tgt := 138) hx hb dX10_reads_134 (by decide) ?_
            exact b_138 _ _ _ _ _ _ _ _ _ _ _ _ _ _ _ hm _ _ hP hD hS _ (lv_sub hl [0, 1, 2, 3] rfl)
      intro v1_30 v2_30 xM_people_30 gMkinds_30 gMlates_30 gMscarfs_30 gMhands_30 gMrings_30 gMmains_30 gMaheadOf_30 gMlastIn_30 gMmanyIn_30 hm H locs hP hD hS ls hl
      have hm : fM_reads_30_b  (fM_reads_30  xM_typed gMtext n_30) xM_typed gMtext v1_30 v2_30 xM_people_30 gMkinds_30 gMlates_30 gMscarfs_30 gMhands_30 gMrings_30 gMmains_30 gMaheadOf_30 gMlastIn_30 gMmanyIn_30 = some u := hm
      unfold fM_reads_30_b at hm
      refine lv_iload_n hx hb dX10_reads_30 rfl (lv_at hl 2 rfl) ?_
      refine lv_aload_n hx hb dX10_reads_31 rfl (lv_at hl 0 rfl) ?_
      refine va_get (D := (dC, dI)) (ci := 10) (v := .int xM_typed) (C := RX10) (T := TX10) (N := 37) hx hb hts hinX10 hown hK hP 0 rfl rfl 0 (by decide) hl_108 (fun _ h9 => h9) rfl dX10_reads_32 ?_
      refine lv_icmp_ge (tgt := 450) hx hb dX10_reads_35 (by decide) (fun c_46 => ?_) (fun c_46 => ?_)
      · have hm := it_pos c_46 hm
        refine lv_iload_n hx hb dX10_reads_450 rfl (lv_at hl 1 rfl) ?_
        refine lv_if_le (tgt := 461) hx hb dX10_reads_451 (by decide) (fun c_47 => ?_) (fun c_47 => ?_)
        · have hm := it_pos c_47 hm
          refine lv_iconst (v := (-1)) hx hb dX10_reads_461 (by decide) ?_
          obtain rfl := Option.some.inj hm
          subst hQ
          exact W.iret (v := (-1)) hx hb hr (fun t ht hW => ⟨⟨_, (), rfl, rfl, by rw [ht]; exact hP, va_K.moved hW.alike hK, hAe ▸ hD⟩, hS.F ht⟩) hS.2.2 dX10_reads_462
        · have hm := it_neg c_47 hm
          refine lv_aload_n hx hb dX10_reads_454 rfl (lv_at hl 0 rfl) ?_
          refine va_get (D := (dC, dI)) (ci := 10) (v := .int xM_typed) (C := RX10) (T := TX10) (N := 37) hx hb hts hinX10 hown hK hP 0 rfl rfl 0 (by decide) hl_108 (fun _ h9 => h9) rfl dX10_reads_455 ?_
          refine lv_goto (tgt := 462) hx hb dX10_reads_458 (by decide) ?_
          obtain rfl := Option.some.inj hm
          subst hQ
          exact W.iret (v := xM_typed) hx hb hr (fun t ht hW => ⟨⟨_, (), rfl, rfl, by rw [ht]; exact hP, va_K.moved hW.alike hK, hAe ▸ hD⟩, hS.F ht⟩) hS.2.2 dX10_reads_462
      · have hm := it_neg c_46 hm
        refine lv_aload_n hx hb dX10_reads_38 rfl (lv_at hl 0 rfl) ?_
        refine va_get (D := (dC, dI)) (ci := 10) (v := .ref (ad 1)) (C := RX10) (T := TX10) (N := 37) hx hb hts hinX10 hown hK hP 0 rfl rfl 1 (by decide) hl_7 (fun _ h9 => h9) rfl dX10_reads_39 ?_
        refine lv_iload_n hx hb dX10_reads_42 rfl (lv_at hl 2 rfl) ?_
        obtain ⟨i_48, hm⟩ := ck_ok hm
        refine va_iald hx hb hK hP 1 0 rfl rfl i_48 dX10_reads_43 ?_
        refine lv_istore_n (lv' := [(3, .int (gMtext v2_30.toNatClampNeg)), (0, .ref (ad 0)), (1, .int v1_30), (2, .int v2_30)]) hx hb dX10_reads_44 rfl hl (by decide) rfl (fun ls hl => ?_)
        refine lv_iload_n hx hb dX10_reads_45 rfl (lv_at hl 0 rfl) ?_
        refine lv_bipush (v := 40) hx hb dX10_reads_46 (by decide) ?_
        refine lv_icmp_ne (tgt := 105) hx hb dX10_reads_48 (by decide) (fun c_49 => ?_) (fun c_49 => ?_)
        · have hm := it_neg c_49 hm
          refine lv_iload_n hx hb dX10_reads_105 rfl (lv_at hl 0 rfl) ?_
          refine lv_bipush (v := 41) hx hb dX10_reads_106 (by decide) ?_
          refine lv_icmp_eq (tgt := 117) hx hb dX10_reads_108 (by decide) (fun c_50 => ?_) (fun c_50 => ?_)
          · have hm := it_pos c_50 hm
            exact b_117 _ _ _ _ _ _ _ _ _ _ _ _ _ hm _ _ hP hD hS _ (lv_sub hl [1, 2, 3, 0] rfl)
          · have hm := it_neg c_50 hm
            refine lv_iload_n hx hb dX10_reads_111 rfl (lv_at hl 0 rfl) ?_
            refine lv_bipush (v := 111) hx hb dX10_reads_112 (by decide) ?_
            refine lv_icmp_ne (tgt := 218) hx hb dX10_reads_114 (by decide) (fun c_51 => ?_) (fun c_51 => ?_)
            · have hm := it_neg c_51 hm
              refine lv_iload_n hx hb dX10_reads_218 rfl (lv_at hl 0 rfl) ?_
              refine lv_bipush (v := 115) hx hb dX10_reads_219 (by decide) ?_
              refine lv_icmp_ne (tgt := 228) hx hb dX10_reads_221 (by decide) (fun c_52 => ?_) (fun c_52 => ?_)
              · have hm := it_neg c_52 hm
                refine lv_iconst (v := 0) hx hb dX10_reads_228 (by decide) ?_
                exact b_229 _ _ _ _ _ _ _ _ _ _ _ _ _ _ hm _ _ hP hD hS _ (lv_sub hl [1, 2, 3, 0] rfl)
              · have hm := it_pos c_52 hm
                refine lv_iconst (v := 1) hx hb dX10_reads_224 (by decide) ?_
                refine lv_goto (tgt := 229) hx hb dX10_reads_225 (by decide) ?_
                exact b_229 _ _ _ _ _ _ _ _ _ _ _ _ _ _ hm _ _ hP hD hS _ (lv_sub hl [1, 2, 3, 0] rfl)
            · have hm := it_pos c_51 hm
              exact b_117 _ _ _ _ _ _ _ _ _ _ _ _ _ hm _ _ hP hD hS _ (lv_sub hl [1, 2, 3, 0] rfl)
        · have hm := it_pos c_49 hm
          refine lv_iload_n hx hb dX10_reads_51 rfl (lv_at hl 2 rfl) ?_
          refine lv_iconst (v := 3) hx hb dX10_reads_52 (by decide) ?_
          refine lv_icmp_eq (tgt := 66) hx hb dX10_reads_53 (by decide) (fun c_53 => ?_) (fun c_53 => ?_)
          · have hm := it_pos c_53 hm
            refine lv_iload_n hx hb dX10_reads_66 rfl (lv_at hl 3 rfl) ?_
            obtain rfl := Option.some.inj hm
            subst hQ
            exact W.iret (v := v2_30) hx hb hr (fun t ht hW => ⟨⟨_, (), rfl, rfl, by rw [ht]; exact hP, va_K.moved hW.alike hK, hAe ▸ hD⟩, hS.F ht⟩) hS.2.2 dX10_reads_67
          · have hm := it_neg c_53 hm
            refine lv_aload_n hx hb dX10_reads_56 rfl (lv_at hl 1 rfl) ?_
            refine va_get (D := (dC, dI)) (ci := 10) (v := .ref (ad 9)) (C := RX10) (T := TX10) (N := 37) hx hb hts hinX10 hown hK hP 0 rfl rfl 10 (by decide) hl_34 (fun _ h9 => h9) rfl dX10_reads_57 ?_
            refine lv_iload_n hx hb dX10_reads_60 rfl (lv_at hl 2 rfl) ?_
            obtain ⟨i_54, hm⟩ := ck_ok hm
            refine va_iald hx hb hK hP 9 0 rfl rfl i_54 dX10_reads_61 ?_
            refine lv_iconst (v := (-1)) hx hb dX10_reads_62 (by decide) ?_
            refine lv_icmp_ne (tgt := 68) hx hb dX10_reads_63 (by decide) (fun c_55 => ?_) (fun c_55 => ?_)
            · have hm := it_neg c_55 hm
              refine lv_aload_n hx hb dX10_reads_68 rfl (lv_at hl 1 rfl) ?_
              refine va_get (D := (dC, dI)) (ci := 10) (v := .ref (ad 8)) (C := RX10) (T := TX10) (N := 37) hx hb hts hinX10 hown hK hP 0 rfl rfl 9 (by decide) hl_31 (fun _ h9 => h9) rfl dX10_reads_69 ?_
              refine lv_iload_n hx hb dX10_reads_72 rfl (lv_at hl 2 rfl) ?_
              refine lv_iconst (v := 1) hx hb dX10_reads_73 (by decide) ?_
              refine lv_iadd hx hb dX10_reads_74 ?_
              refine lv_aload_n hx hb dX10_reads_75 rfl (lv_at hl 1 rfl) ?_
              refine va_get (D := (dC, dI)) (ci := 10) (v := .ref (ad 9)) (C := RX10) (T := TX10) (N := 37) hx hb hts hinX10 hown hK hP 0 rfl rfl 10 (by decide) hl_34 (fun _ h9 => h9) rfl dX10_reads_76 ?_
              refine lv_iload_n hx hb dX10_reads_79 rfl (lv_at hl 2 rfl) ?_
              obtain ⟨i_56, hm⟩ := ck_ok hm
              refine va_iald hx hb hK hP 9 0 rfl rfl i_56 dX10_reads_80 ?_
              obtain ⟨i_57, hm⟩ := ck_ok hm
              refine va_iast hx hb hK hP hD hS 8 0 rfl rfl i_57 dX10_reads_81 (fun H locs hP hD hS => ?_)
              have hP : va_P (dC, dI) vwCl [oM ad xM_typed xM_people_30 xM_posted xM_hears xM_censuses xM_finding, ar (ad 1) cA 60 gMtext, ar (ad 2) cA 20 gMkinds_30, ar (ad 3) cA 20 gMlates_30, ar (ad 4) cA 20 gMscarfs_30, ar (ad 5) cA 20 gMhands_30, ar (ad 6) cA 20 gMrings_30, ar (ad 7) cA 20 gMmains_30, ar (ad 8) cA 4 (upd gMaheadOf_30 (v1_30 + 1).toNatClampNeg (gMlastIn_30 v1_30.toNatClampNeg)), ar (ad 9) cA 4 gMlastIn_30, ar (ad 10) cA 4 gMmanyIn_30] H := hP
              have hD : va_D A [oM ad xM_typed xM_people_30 xM_posted xM_hears xM_censuses xM_finding, ar (ad 1) cA 60 gMtext, ar (ad 2) cA 20 gMkinds_30, ar (ad 3) cA 20 gMlates_30, ar (ad 4) cA 20 gMscarfs_30, ar (ad 5) cA 20 gMhands_30, ar (ad 6) cA 20 gMrings_30, ar (ad 7) cA 20 gMmains_30, ar (ad 8) cA 4 (upd gMaheadOf_30 (v1_30 + 1).toNatClampNeg (gMlastIn_30 v1_30.toNatClampNeg)), ar (ad 9) cA 4 gMlastIn_30, ar (ad 10) cA 4 gMmanyIn_30] := hD
              refine lv_iinc (v := (v1_30 + 1)) (lv' := [(1, .int (v1_30 + 1)), (3, .int (gMtext v2_30.toNatClampNeg)), (0, .ref (ad 0)), (2, .int v2_30)]) hx hb dX10_reads_82 hl (k := 2) rfl rfl (by decide) rfl (fun ls hl => ?_)
              refine lv_aload_n hx hb dX10_reads_85 rfl (lv_at hl 2 rfl) ?_
              refine va_get (D := (dC, dI)) (ci := 10) (v := .ref (ad 9)) (C := RX10) (T := TX10) (N := 37) hx hb hts hinX10 hown hK hP 0 rfl rfl 10 (by decide) hl_34 (fun _ h9 => h9) rfl dX10_reads_86 ?_
              refine lv_iload_n hx hb dX10_reads_89 rfl (lv_at hl 0 rfl) ?_
              refine lv_iconst (v := (-1)) hx hb dX10_reads_90 (by decide) ?_
              obtain ⟨i_58, hm⟩ := ck_ok hm
              refine va_iast hx hb hK hP hD hS 9 0 rfl rfl i_58 dX10_reads_91 (fun H locs hP hD hS => ?_)
              have hP : va_P (dC, dI) vwCl [oM ad xM_typed xM_people_30 xM_posted xM_hears xM_censuses xM_finding, ar (ad 1) cA 60 gMtext, ar (ad 2) cA 20 gMkinds_30, ar (ad 3) cA 20 gMlates_30, ar (ad 4) cA 20 gMscarfs_30, ar (ad 5) cA 20 gMhands_30, ar (ad 6) cA 20 gMrings_30, ar (ad 7) cA 20 gMmains_30, ar (ad 8) cA 4 (upd gMaheadOf_30 (v1_30 + 1).toNatClampNeg (gMlastIn_30 v1_30.toNatClampNeg)), ar (ad 9) cA 4 (upd gMlastIn_30 (v1_30 + 1).toNatClampNeg (-1)), ar (ad 10) cA 4 gMmanyIn_30] H := hP
              have hD : va_D A [oM ad xM_typed xM_people_30 xM_posted xM_hears xM_censuses xM_finding, ar (ad 1) cA 60 gMtext, ar (ad 2) cA 20 gMkinds_30, ar (ad 3) cA 20 gMlates_30, ar (ad 4) cA 20 gMscarfs_30, ar (ad 5) cA 20 gMhands_30, ar (ad 6) cA 20 gMrings_30, ar (ad 7) cA 20 gMmains_30, ar (ad 8) cA 4 (upd gMaheadOf_30 (v1_30 + 1).toNatClampNeg (gMlastIn_30 v1_30.toNatClampNeg)), ar (ad 9) cA 4 (upd gMlastIn_30 (v1_30 + 1).toNatClampNeg (-1)), ar (ad 10) cA 4 gMmanyIn_30] := hD
              refine lv_aload_n hx hb dX10_reads_92 rfl (lv_at hl 2 rfl) ?_
              refine va_get (D := (dC, dI)) (ci := 10) (v := .ref (ad 10)) (C := RX10) (T := TX10) (N := 37) hx hb hts hinX10 hown hK hP 0 rfl rfl 11 (by decide) hl_37 (fun _ h9 => h9) rfl dX10_reads_93 ?_
              refine lv_iload_n hx hb dX10_reads_96 rfl (lv_at hl 0 rfl) ?_
              refine lv_iconst (v := 0) hx hb dX10_reads_97 (by decide) ?_
              obtain ⟨i_59, hm⟩ := ck_ok hm
              refine va_iast hx hb hK hP hD hS 10 0 rfl rfl i_59 dX10_reads_98 (fun H locs hP hD hS => ?_)
              have hP : va_P (dC, dI) vwCl [oM ad xM_typed xM_people_30 xM_posted xM_hears xM_censuses xM_finding, ar (ad 1) cA 60 gMtext, ar (ad 2) cA 20 gMkinds_30, ar (ad 3) cA 20 gMlates_30, ar (ad 4) cA 20 gMscarfs_30, ar (ad 5) cA 20 gMhands_30, ar (ad 6) cA 20 gMrings_30, ar (ad 7) cA 20 gMmains_30, ar (ad 8) cA 4 (upd gMaheadOf_30 (v1_30 + 1).toNatClampNeg (gMlastIn_30 v1_30.toNatClampNeg)), ar (ad 9) cA 4 (upd gMlastIn_30 (v1_30 + 1).toNatClampNeg (-1)), ar (ad 10) cA 4 (upd gMmanyIn_30 (v1_30 + 1).toNatClampNeg 0)] H := hP
              have hD : va_D A [oM ad xM_typed xM_people_30 xM_posted xM_hears xM_censuses xM_finding, ar (ad 1) cA 60 gMtext, ar (ad 2) cA 20 gMkinds_30, ar (ad 3) cA 20 gMlates_30, ar (ad 4) cA 20 gMscarfs_30, ar (ad 5) cA 20 gMhands_30, ar (ad 6) cA 20 gMrings_30, ar (ad 7) cA 20 gMmains_30, ar (ad 8) cA 4 (upd gMaheadOf_30 (v1_30 + 1).toNatClampNeg (gMlastIn_30 v1_30.toNatClampNeg)), ar (ad 9) cA 4 (upd gMlastIn_30 (v1_30 + 1).toNatClampNeg (-1)), ar (ad 10) cA 4 (upd gMmanyIn_30 (v1_30 + 1).toNatClampNeg 0)] := hD
              refine lv_iinc (v := (v2_30 + 1)) (lv' := [(2, .int (v2_30 + 1)), (1, .int (v1_30 + 1)), (3, .int (gMtext v2_30.toNatClampNeg)), (0, .ref (ad 0))]) hx hb dX10_reads_99 hl (k := 3) rfl rfl (by decide) rfl (fun ls hl => ?_)
              refine lv_goto (tgt := 447) hx hb dX10_reads_102 (by decide) ?_
              exact b_447 _ _ _ _ _ _ _ _ _ _ _ _ hm _ _ hP hD hS _ (lv_sub hl [3, 1, 0] rfl)
            · have hm := it_pos c_55 hm
              refine lv_iload_n hx hb dX10_reads_66 rfl (lv_at hl 3 rfl) ?_
              obtain rfl := Option.some.inj hm
              subst hQ
              exact W.iret (v := v2_30) hx hb hr (fun t ht hW => ⟨⟨_, (), rfl, rfl, by rw [ht]; exact hP, va_K.moved hW.alike hK, hAe ▸ hD⟩, hS.F ht⟩) hS.2.2 dX10_reads_67
  unfold fM_reads at hm
  refine lv_aload_n hx hb dX10_reads_0 rfl (lv_at hl 0 rfl) ?_
  refine lv_iconst (v := 0) hx hb dX10_reads_1 (by decide) ?_
  refine va_put (D := (dC, dI)) (ci := 10) (v := .int 0) (ty := .int) (C := RX10) (T := TX10) (N := 37) hx hb hts hinX10 tyX10 tyX10_ok nmX10 hown hK hP hD hS 0 rfl rfl 2 (by decide) hl_112 (fun _ h9 => h9) rfl (by decide +kernel) rfl rfl (Nat.le_of_ble_eq_true rfl) dX10_reads_2 (fun H locs hP hD hS => ?_)
  have hP : va_P (dC, dI) vwCl [oM ad xM_typed 0 xM_posted xM_hears xM_censuses xM_finding, ar (ad 1) cA 60 gMtext, ar (ad 2) cA 20 gMkinds, ar (ad 3) cA 20 gMlates, ar (ad 4) cA 20 gMscarfs, ar (ad 5) cA 20 gMhands, ar (ad 6) cA 20 gMrings, ar (ad 7) cA 20 gMmains, ar (ad 8) cA 4 gMaheadOf, ar (ad 9) cA 4 gMlastIn, ar (ad 10) cA 4 gMmanyIn] H := hP
  have hD : va_D A [oM ad xM_typed 0 xM_posted xM_hears xM_censuses xM_finding, ar (ad 1) cA 60 gMtext, ar (ad 2) cA 20 gMkinds, ar (ad 3) cA 20 gMlates, ar (ad 4) cA 20 gMscarfs, ar (ad 5) cA 20 gMhands, ar (ad 6) cA 20 gMrings, ar (ad 7) cA 20 gMmains, ar (ad 8) cA 4 gMaheadOf, ar (ad 9) cA 4 gMlastIn, ar (ad 10) cA 4 gMmanyIn] := hD
  refine lv_iconst (v := 0) hx hb dX10_reads_5 (by decide) ?_
  refine lv_istore_n (lv' := [(1, .int 0), (0, .ref (ad 0))]) hx hb dX10_reads_6 rfl hl (by decide) rfl (fun ls hl => ?_)
  refine lv_aload_n hx hb dX10_reads_7 rfl (lv_at hl 1 rfl) ?_
  refine va_get (D := (dC, dI)) (ci := 10) (v := .ref (ad 8)) (C := RX10) (T := TX10) (N := 37) hx hb hts hinX10 hown hK hP 0 rfl rfl 9 (by decide) hl_31 (fun _ h9 => h9) rfl dX10_reads_8 ?_
  refine lv_iconst (v := 0) hx hb dX10_reads_11 (by decide) ?_
  refine lv_iconst (v := (-1)) hx hb dX10_reads_12 (by decide) ?_
  obtain ⟨i_60, hm⟩ := ck_ok hm
  refine va_iast hx hb hK hP hD hS 8 0 rfl rfl i_60 dX10_reads_13 (fun H locs hP hD hS => ?_)
  have hP : va_P (dC, dI) vwCl [oM ad xM_typed 0 xM_posted xM_hears xM_censuses xM_finding, ar (ad 1) cA 60 gMtext, ar (ad 2) cA 20 gMkinds, ar (ad 3) cA 20 gMlates, ar (ad 4) cA 20 gMscarfs, ar (ad 5) cA 20 gMhands, ar (ad 6) cA 20 gMrings, ar (ad 7) cA 20 gMmains, ar (ad 8) cA 4 (upd gMaheadOf (0 : Int32).toNatClampNeg (-1)), ar (ad 9) cA 4 gMlastIn, ar (ad 10) cA 4 gMmanyIn] H := hP
  have hD : va_D A [oM ad xM_typed 0 xM_posted xM_hears xM_censuses xM_finding, ar (ad 1) cA 60 gMtext, ar (ad 2) cA 20 gMkinds, ar (ad 3) cA 20 gMlates, ar (ad 4) cA 20 gMscarfs, ar (ad 5) cA 20 gMhands, ar (ad 6) cA 20 gMrings, ar (ad 7) cA 20 gMmains, ar (ad 8) cA 4 (upd gMaheadOf (0 : Int32).toNatClampNeg (-1)), ar (ad 9) cA 4 gMlastIn, ar (ad 10) cA 4 gMmanyIn] := hD
  refine lv_aload_n hx hb dX10_reads_14 rfl (lv_at hl 1 rfl) ?_
  refine va_get (D := (dC, dI)) (ci := 10) (v := .ref (ad 9)) (C := RX10) (T := TX10) (N := 37) hx hb hts hinX10 hown hK hP 0 rfl rfl 10 (by decide) hl_34 (fun _ h9 => h9) rfl dX10_reads_15 ?_
  refine lv_iconst (v := 0) hx hb dX10_reads_18 (by decide) ?_
  refine lv_iconst (v := (-1)) hx hb dX10_reads_19 (by decide) ?_
  obtain ⟨i_61, hm⟩ := ck_ok hm
  refine va_iast hx hb hK hP hD hS 9 0 rfl rfl i_61 dX10_reads_20 (fun H locs hP hD hS => ?_)
  have hP : va_P (dC, dI) vwCl [oM ad xM_typed 0 xM_posted xM_hears xM_censuses xM_finding, ar (ad 1) cA 60 gMtext, ar (ad 2) cA 20 gMkinds, ar (ad 3) cA 20 gMlates, ar (ad 4) cA 20 gMscarfs, ar (ad 5) cA 20 gMhands, ar (ad 6) cA 20 gMrings, ar (ad 7) cA 20 gMmains, ar (ad 8) cA 4 (upd gMaheadOf (0 : Int32).toNatClampNeg (-1)), ar (ad 9) cA 4 (upd gMlastIn (0 : Int32).toNatClampNeg (-1)), ar (ad 10) cA 4 gMmanyIn] H := hP
  have hD : va_D A [oM ad xM_typed 0 xM_posted xM_hears xM_censuses xM_finding, ar (ad 1) cA 60 gMtext, ar (ad 2) cA 20 gMkinds, ar (ad 3) cA 20 gMlates, ar (ad 4) cA 20 gMscarfs, ar (ad 5) cA 20 gMhands, ar (ad 6) cA 20 gMrings, ar (ad 7) cA 20 gMmains, ar (ad 8) cA 4 (upd gMaheadOf (0 : Int32).toNatClampNeg (-1)), ar (ad 9) cA 4 (upd gMlastIn (0 : Int32).toNatClampNeg (-1)), ar (ad 10) cA 4 gMmanyIn] := hD
  refine lv_aload_n hx hb dX10_reads_21 rfl (lv_at hl 1 rfl) ?_
  refine va_get (D := (dC, dI)) (ci := 10) (v := .ref (ad 10)) (C := RX10) (T := TX10) (N := 37) hx hb hts hinX10 hown hK hP 0 rfl rfl 11 (by decide) hl_37 (fun _ h9 => h9) rfl dX10_reads_22 ?_
  refine lv_iconst (v := 0) hx hb dX10_reads_25 (by decide) ?_
  refine lv_iconst (v := 0) hx hb dX10_reads_26 (by decide) ?_
  obtain ⟨i_62, hm⟩ := ck_ok hm
  refine va_iast hx hb hK hP hD hS 10 0 rfl rfl i_62 dX10_reads_27 (fun H locs hP hD hS => ?_)
  have hP : va_P (dC, dI) vwCl [oM ad xM_typed 0 xM_posted xM_hears xM_censuses xM_finding, ar (ad 1) cA 60 gMtext, ar (ad 2) cA 20 gMkinds, ar (ad 3) cA 20 gMlates, ar (ad 4) cA 20 gMscarfs, ar (ad 5) cA 20 gMhands, ar (ad 6) cA 20 gMrings, ar (ad 7) cA 20 gMmains, ar (ad 8) cA 4 (upd gMaheadOf (0 : Int32).toNatClampNeg (-1)), ar (ad 9) cA 4 (upd gMlastIn (0 : Int32).toNatClampNeg (-1)), ar (ad 10) cA 4 (upd gMmanyIn (0 : Int32).toNatClampNeg 0)] H := hP
  have hD : va_D A [oM ad xM_typed 0 xM_posted xM_hears xM_censuses xM_finding, ar (ad 1) cA 60 gMtext, ar (ad 2) cA 20 gMkinds, ar (ad 3) cA 20 gMlates, ar (ad 4) cA 20 gMscarfs, ar (ad 5) cA 20 gMhands, ar (ad 6) cA 20 gMrings, ar (ad 7) cA 20 gMmains, ar (ad 8) cA 4 (upd gMaheadOf (0 : Int32).toNatClampNeg (-1)), ar (ad 9) cA 4 (upd gMlastIn (0 : Int32).toNatClampNeg (-1)), ar (ad 10) cA 4 (upd gMmanyIn (0 : Int32).toNatClampNeg 0)] := hD
  refine lv_iconst (v := 0) hx hb dX10_reads_28 (by decide) ?_
  refine lv_istore_n (lv' := [(2, .int 0), (1, .int 0), (0, .ref (ad 0))]) hx hb dX10_reads_29 rfl hl (by decide) rfl (fun ls hl => ?_)
  exact h_30 _ _ _ _ _ _ _ _ _ _ _ _ _ hm _ _ hP hD hS _ (lv_sub hl [2, 1, 0] rfl)

set_option maxHeartbeats 4000000 in
set_option maxRecDepth 100000 in
theorem kM_faultNow (l : Launch) (dC : Nat → ClassId) (dI : Nat → Nat → Nat) (cA : ClassId) (cB : ClassId) (ad : Nat → Nat) (sz : Nat) (xM_typed : Int32) (xM_people : Int32) (xM_posted : Int32) (xM_hears : Int32) (xM_censuses : Int32) (xM_finding : Int32) (gMtext : Nat → Int32) (gMkinds : Nat → Int32) (gMlates : Nat → Int32) (gMscarfs : Nat → Int32) (gMhands : Nat → Int32) (gMrings : Nat → Int32) (gMmains : Nat → Int32) (gMaheadOf : Nat → Int32) (gMlastIn : Nat → Int32) (gMmanyIn : Nat → Int32) (u : Int32 × Int32 × (Nat → Int32) × (Nat → Int32) × (Nat → Int32) × (Nat → Int32) × (Nat → Int32) × (Nat → Int32) × (Nat → Int32) × (Nat → Int32) × (Nat → Int32)) (hm : fM_faultNow xM_typed xM_people gMtext gMkinds gMlates gMscarfs gMhands gMrings gMmains gMaheadOf gMlastIn gMmanyIn = some u) : Met l yX10_faultNow wsX10_faultNow ({ frames := 2, cells := 0, slots := 0, locals := 48 }) (va_Pc [.ref (ad 0)] (fun U => U.heap.size = sz ∧ va_P (dC, dI) vwCl [oM ad xM_typed xM_people xM_posted xM_hears xM_censuses xM_finding, ar (ad 1) cA 60 gMtext, ar (ad 2) cA 20 gMkinds, ar (ad 3) cA 20 gMlates, ar (ad 4) cA 20 gMscarfs, ar (ad 5) cA 20 gMhands, ar (ad 6) cA 20 gMrings, ar (ad 7) cA 20 gMmains, ar (ad 8) cA 4 gMaheadOf, ar (ad 9) cA 4 gMlastIn, ar (ad 10) cA 4 gMmanyIn] U.heap ∧ va_K (dC, dI) vwCl [(cA, .int), (cB, .boolean)] U ∧ va_D (fun _ => True) [oM ad xM_typed xM_people xM_posted xM_hears xM_censuses xM_finding, ar (ad 1) cA 60 gMtext, ar (ad 2) cA 20 gMkinds, ar (ad 3) cA 20 gMlates, ar (ad 4) cA 20 gMscarfs, ar (ad 5) cA 20 gMhands, ar (ad 6) cA 20 gMrings, ar (ad 7) cA 20 gMmains, ar (ad 8) cA 4 gMaheadOf, ar (ad 9) cA 4 gMlastIn, ar (ad 10) cA 4 gMmanyIn])) (va_Qi (fun (r : Int32) (_ : Unit) => r = u.1) (fun (_ : Unit) t => va_P (dC, dI) vwCl [oM ad xM_typed u.2.1 xM_posted xM_hears xM_censuses xM_finding, ar (ad 1) cA 60 gMtext, ar (ad 2) cA 20 u.2.2.1, ar (ad 3) cA 20 u.2.2.2.1, ar (ad 4) cA 20 u.2.2.2.2.1, ar (ad 5) cA 20 u.2.2.2.2.2.1, ar (ad 6) cA 20 u.2.2.2.2.2.2.1, ar (ad 7) cA 20 u.2.2.2.2.2.2.2.1, ar (ad 8) cA 4 u.2.2.2.2.2.2.2.2.1, ar (ad 9) cA 4 u.2.2.2.2.2.2.2.2.2.1, ar (ad 10) cA 4 u.2.2.2.2.2.2.2.2.2.2] t.heap ∧ va_K (dC, dI) vwCl [(cA, .int), (cB, .boolean)] t ∧ va_D (va_A [oM ad xM_typed xM_people xM_posted xM_hears xM_censuses xM_finding, ar (ad 1) cA 60 gMtext, ar (ad 2) cA 20 gMkinds, ar (ad 3) cA 20 gMlates, ar (ad 4) cA 20 gMscarfs, ar (ad 5) cA 20 gMhands, ar (ad 6) cA 20 gMrings, ar (ad 7) cA 20 gMmains, ar (ad 8) cA 4 gMaheadOf, ar (ad 9) cA 4 gMlastIn, ar (ad 10) cA 4 gMmanyIn] sz) [oM ad xM_typed u.2.1 xM_posted xM_hears xM_censuses xM_finding, ar (ad 1) cA 60 gMtext, ar (ad 2) cA 20 u.2.2.1, ar (ad 3) cA 20 u.2.2.2.1, ar (ad 4) cA 20 u.2.2.2.2.1, ar (ad 5) cA 20 u.2.2.2.2.2.1, ar (ad 6) cA 20 u.2.2.2.2.2.2.1, ar (ad 7) cA 20 u.2.2.2.2.2.2.2.1, ar (ad 8) cA 4 u.2.2.2.2.2.2.2.2.1, ar (ad 9) cA 4 u.2.2.2.2.2.2.2.2.2.1, ar (ad 10) cA 4 u.2.2.2.2.2.2.2.2.2.2]) (va_A [oM ad xM_typed xM_people xM_posted xM_hears xM_censuses xM_finding, ar (ad 1) cA 60 gMtext, ar (ad 2) cA 20 gMkinds, ar (ad 3) cA 20 gMlates, ar (ad 4) cA 20 gMscarfs, ar (ad 5) cA 20 gMhands, ar (ad 6) cA 20 gMrings, ar (ad 7) cA 20 gMmains, ar (ad 8) cA 4 gMaheadOf, ar (ad 9) cA 4 gMlastIn, ar (ad 10) cA 4 gMmanyIn] sz)) 0 0 (va_A [oM ad xM_typed xM_people xM_posted xM_hears xM_censuses xM_finding, ar (ad 1) cA 60 gMtext, ar (ad 2) cA 20 gMkinds, ar (ad 3) cA 20 gMlates, ar (ad 4) cA 20 gMscarfs, ar (ad 5) cA 20 gMhands, ar (ad 6) cA 20 gMrings, ar (ad 7) cA 20 gMmains, ar (ad 8) cA 4 gMaheadOf, ar (ad 9) cA 4 gMlastIn, ar (ad 10) cA 4 gMmanyIn] sz) := by
  refine Met.ofW (cc := cX10_faultNow) (maxL := 2) (ret := (some .int)) (by decide) rfl ?_
  intro p e s m args below meth c s₁ B hml hv
  obtain ⟨rfl, hsz, hP, hK, hD0⟩ := hv
  have hx := B.exec
  have hb := B.bytes
  have hr := B.returns
  have hts := atoms_spec (ws := wsX10_faultNow) B.pre
  have hown : s.vm.findClass RX10 = some m.cls := findClass_of_methodNamed B.named
  have hlocks := B.notSynchronized
  subst hsz
  have hD := hD0.self (sz := s.heap.size)
  generalize hAe : va_A [oM ad xM_typed xM_people xM_posted xM_hears xM_censuses xM_finding, ar (ad 1) cA 60 gMtext, ar (ad 2) cA 20 gMkinds, ar (ad 3) cA 20 gMlates, ar (ad 4) cA 20 gMscarfs, ar (ad 5) cA 20 gMhands, ar (ad 6) cA 20 gMrings, ar (ad 7) cA 20 gMmains, ar (ad 8) cA 4 gMaheadOf, ar (ad 9) cA 4 gMlastIn, ar (ad 10) cA 4 gMmanyIn] s.heap.size = A at hD ⊢
  have hA : ∀ q : Nat, s.heap.size ≤ q → A q := fun q h => by rw [← hAe]; exact Or.inr h
  have hS : va_S A s.heap s.heap [] := va_S.rf
  have hl := lv_entry ([.ref (ad 0)]) (n := 2) (Nat.le_of_ble_eq_true rfl)
  rw [lg_entry_eq]
  generalize (lg_sl ([.ref (ad 0)]) ++ List.replicate (2 - (lg_sl ([.ref (ad 0)])).length) Slot.unset).toArray = ls at hl ⊢
  have hl : lv_has ls 2 [(0, .ref (ad 0))] := hl
  refine wk_Q (fun QQ hQ => ?_)
  have hinX10 : ∀ w ∈ wsX100, w ∈ wsX10_faultNow := fun w h => List.mem_cons_of_mem _ (inlX10 w h)
  have hl_112 := hts (.fieldLink RX10 112 "HandCensusModel" "people" "I") (List.mem_cons_of_mem _ (in_r12 _ (List.mem_of_getElem? (i := 4) rfl)))
  have b_19 : ∀ (v1_19 : Int32) (s1_19 : Int32) (xM_people_19 : Int32) (gMkinds_19 : Nat → Int32) (gMlates_19 : Nat → Int32) (gMscarfs_19 : Nat → Int32) (gMhands_19 : Nat → Int32) (gMrings_19 : Nat → Int32) (gMmains_19 : Nat → Int32) (gMaheadOf_19 : Nat → Int32) (gMlastIn_19 : Nat → Int32) (gMmanyIn_19 : Nat → Int32), fM_faultNow_19 v1_19 s1_19 xM_people_19 gMkinds_19 gMlates_19 gMscarfs_19 gMhands_19 gMrings_19 gMmains_19 gMaheadOf_19 gMlastIn_19 gMmanyIn_19 = some u → ∀ (H : Heap) (locs : List Loc), va_P (dC, dI) vwCl [oM ad xM_typed xM_people_19 xM_posted xM_hears xM_censuses xM_finding, ar (ad 1) cA 60 gMtext, ar (ad 2) cA 20 gMkinds_19, ar (ad 3) cA 20 gMlates_19, ar (ad 4) cA 20 gMscarfs_19, ar (ad 5) cA 20 gMhands_19, ar (ad 6) cA 20 gMrings_19, ar (ad 7) cA 20 gMmains_19, ar (ad 8) cA 4 gMaheadOf_19, ar (ad 9) cA 4 gMlastIn_19, ar (ad 10) cA 4 gMmanyIn_19] H → va_D A [oM ad xM_typed xM_people_19 xM_posted xM_hears xM_censuses xM_finding, ar (ad 1) cA 60 gMtext, ar (ad 2) cA 20 gMkinds_19, ar (ad 3) cA 20 gMlates_19, ar (ad 4) cA 20 gMscarfs_19, ar (ad 5) cA 20 gMhands_19, ar (ad 6) cA 20 gMrings_19, ar (ad 7) cA 20 gMmains_19, ar (ad 8) cA 4 gMaheadOf_19, ar (ad 9) cA 4 gMlastIn_19, ar (ad 10) cA 4 gMmanyIn_19] → va_S A s.heap H locs → ∀ ls : Array Slot, lv_has ls 2 [(1, .int v1_19)] → W p l e (headSpec wsX10_faultNow ({ frames := 2, cells := 0, slots := 0, locals := 48 })).room s m ([.ref (ad 0)] : List Value).toArray below meth c H locs 0 0 QQ (F0 m 19 ls [.int s1_19, .ref (ad 0)]) := by
    intro v1_19 s1_19 xM_people_19 gMkinds_19 gMlates_19 gMscarfs_19 gMhands_19 gMrings_19 gMmains_19 gMaheadOf_19 gMlastIn_19 gMmanyIn_19 hm H locs hP hD hS ls hl
    unfold fM_faultNow_19 at hm
    refine va_put (D := (dC, dI)) (ci := 10) (v := .int s1_19) (ty := .int) (C := RX10) (T := TX10) (N := 37) hx hb hts hinX10 tyX10 tyX10_ok nmX10 hown hK hP hD hS 0 rfl rfl 2 (by decide) hl_112 (fun _ h9 => h9) rfl (by decide +kernel) rfl rfl (Nat.le_of_ble_eq_true rfl) dX10_faultNow_19 (fun H locs hP hD hS => ?_)
    have hP : va_P (dC, dI) vwCl [oM ad xM_typed s1_19 xM_posted xM_hears xM_censuses xM_finding, ar (ad 1) cA 60 gMtext, ar (ad 2) cA 20 gMkinds_19, ar (ad 3) cA 20 gMlates_19, ar (ad 4) cA 20 gMscarfs_19, ar (ad 5) cA 20 gMhands_19, ar (ad 6) cA 20 gMrings_19, ar (ad 7) cA 20 gMmains_19, ar (ad 8) cA 4 gMaheadOf_19, ar (ad 9) cA 4 gMlastIn_19, ar (ad 10) cA 4 gMmanyIn_19] H := hP
    have hD : va_D A [oM ad xM_typed s1_19 xM_posted xM_hears xM_censuses xM_finding, ar (ad 1) cA 60 gMtext, ar (ad 2) cA 20 gMkinds_19, ar (ad 3) cA 20 gMlates_19, ar (ad 4) cA 20 gMscarfs_19, ar (ad 5) cA 20 gMhands_19, ar (ad 6) cA 20 gMrings_19, ar (ad 7) cA 20 gMmains_19, ar (ad 8) cA 4 gMaheadOf_19, ar (ad 9) cA 4 gMlastIn_19, ar (ad 10) cA 4 gMmanyIn_19] := hD
    refine lv_iload_n hx hb dX10_faultNow_22 rfl (lv_at hl 0 rfl) ?_
    obtain rfl := Option.some.inj hm
    subst hQ
    exact W.iret (v := v1_19) hx hb hr (fun t ht hW => ⟨⟨_, (), rfl, rfl, by rw [ht]; exact hP, va_K.moved hW.alike hK, hAe ▸ hD⟩, hS.F ht⟩) hS.2.2 dX10_faultNow_23
  unfold fM_faultNow at hm
  refine lv_aload_n hx hb dX10_faultNow_0 rfl (lv_at hl 0 rfl) ?_
  have hPc := hP.sub (ws' := [oM ad xM_typed xM_people xM_posted xM_hears xM_censuses xM_finding, ar (ad 1) cA 60 gMtext, ar (ad 2) cA 20 gMkinds, ar (ad 3) cA 20 gMlates, ar (ad 4) cA 20 gMscarfs, ar (ad 5) cA 20 gMhands, ar (ad 6) cA 20 gMrings, ar (ad 7) cA 20 gMmains, ar (ad 8) cA 4 gMaheadOf, ar (ad 9) cA 4 gMlastIn, ar (ad 10) cA 4 gMmanyIn]) [0, 1, 2, 3, 4, 5, 6, 7, 8, 9, 10] rfl
  have hDc := hD.sub (ws' := [oM ad xM_typed xM_people xM_posted xM_hears xM_censuses xM_finding, ar (ad 1) cA 60 gMtext, ar (ad 2) cA 20 gMkinds, ar (ad 3) cA 20 gMlates, ar (ad 4) cA 20 gMscarfs, ar (ad 5) cA 20 gMhands, ar (ad 6) cA 20 gMrings, ar (ad 7) cA 20 gMmains, ar (ad 8) cA 4 gMaheadOf, ar (ad 9) cA 4 gMlastIn, ar (ad 10) cA 4 gMmanyIn]) [0, 1, 2, 3, 4, 5, 6, 7, 8, 9, 10] (by decide) rfl
  have hFc := va_free (wc := [oM ad xM_typed xM_people xM_posted xM_hears xM_censuses xM_finding, ar (ad 1) cA 60 gMtext, ar (ad 2) cA 20 gMkinds, ar (ad 3) cA 20 gMlates, ar (ad 4) cA 20 gMscarfs, ar (ad 5) cA 20 gMhands, ar (ad 6) cA 20 gMrings, ar (ad 7) cA 20 gMmains, ar (ad 8) cA 4 gMaheadOf, ar (ad 9) cA 4 gMlastIn, ar (ad 10) cA 4 gMmanyIn]) hD hS hA [0, 1, 2, 3, 4, 5, 6, 7, 8, 9, 10] rfl
  obtain ⟨u_1, hc_1, hm⟩ := bd_ok hm
  refine va_calli (va_runV (As := []) (rest := []) ⟨hx, hb, hml, hown, hts⟩ (kM_reads l dC dI cA cB ad s.heap.size xM_typed xM_people xM_posted xM_hears xM_censuses xM_finding gMtext gMkinds gMlates gMscarfs gMhands gMrings gMmains gMaheadOf gMlastIn gMmanyIn u_1 hc_1) (cwV 0 hts gX10_faultNow_X10_reads rfl rfl rfl (by decide +kernel) ⟨Nat.le_of_ble_eq_true rfl, Nat.le_of_ble_eq_true rfl⟩) ⟨fun a U g mk q => by obtain ⟨q0, q1, qP, qK, qD⟩ := q; exact ⟨q0, q1, qP, va_K.moved (u := U) (U := U.calling g mk a) (Vm.Alike.refl U.vm) qK, qD⟩, va_recv hK hPc (ci := 10) (q0 := 0) rfl rfl, fun U hU hW => ⟨rfl, by rw [hU], by rw [hU]; exact hPc, va_K.moved hW.alike hK, hDc.weaken (fun _ _ _ _ => trivial)⟩⟩ rfl rfl hl.1 rfl (lv_room (Nat.le_of_ble_eq_true rfl)) dX10_faultNow_1 ⟨Nat.le_of_ble_eq_true rfl, Nat.le_of_ble_eq_true rfl⟩) hS (fun q _ h => hFc q h) hFc (fun r_1 _ t H1 locs ht hvm hw hB hz1 hk1 hS => ?_)
  obtain ⟨hP1, hK1, hD1⟩ := hB
  rw [ht] at hP1
  obtain ⟨hP, hD⟩ := va_join (wr := []) (w1 := [oM ad xM_typed u_1.2.1 xM_posted xM_hears xM_censuses xM_finding, ar (ad 1) cA 60 gMtext, ar (ad 2) cA 20 u_1.2.2.1, ar (ad 3) cA 20 u_1.2.2.2.1, ar (ad 4) cA 20 u_1.2.2.2.2.1, ar (ad 5) cA 20 u_1.2.2.2.2.2.1, ar (ad 6) cA 20 u_1.2.2.2.2.2.2.1, ar (ad 7) cA 20 u_1.2.2.2.2.2.2.2.1, ar (ad 8) cA 4 u_1.2.2.2.2.2.2.2.2.1, ar (ad 9) cA 4 u_1.2.2.2.2.2.2.2.2.2.1, ar (ad 10) cA 4 u_1.2.2.2.2.2.2.2.2.2.2]) hP hD [0, 1, 2, 3, 4, 5, 6, 7, 8, 9, 10] [] rfl rfl (by decide) (by decide) hk1 hFc hP1 hD1
  clear hPc hDc hFc hP1 hK1 hD1 hk1 hz1 hvm ht
  generalize H1 = H at hP hS ⊢
  have hP : va_P (dC, dI) vwCl [oM ad xM_typed u_1.2.1 xM_posted xM_hears xM_censuses xM_finding, ar (ad 1) cA 60 gMtext, ar (ad 2) cA 20 u_1.2.2.1, ar (ad 3) cA 20 u_1.2.2.2.1, ar (ad 4) cA 20 u_1.2.2.2.2.1, ar (ad 5) cA 20 u_1.2.2.2.2.2.1, ar (ad 6) cA 20 u_1.2.2.2.2.2.2.1, ar (ad 7) cA 20 u_1.2.2.2.2.2.2.2.1, ar (ad 8) cA 4 u_1.2.2.2.2.2.2.2.2.1, ar (ad 9) cA 4 u_1.2.2.2.2.2.2.2.2.2.1, ar (ad 10) cA 4 u_1.2.2.2.2.2.2.2.2.2.2] H := hP
  have hD : va_D A [oM ad xM_typed u_1.2.1 xM_posted xM_hears xM_censuses xM_finding, ar (ad 1) cA 60 gMtext, ar (ad 2) cA 20 u_1.2.2.1, ar (ad 3) cA 20 u_1.2.2.2.1, ar (ad 4) cA 20 u_1.2.2.2.2.1, ar (ad 5) cA 20 u_1.2.2.2.2.2.1, ar (ad 6) cA 20 u_1.2.2.2.2.2.2.1, ar (ad 7) cA 20 u_1.2.2.2.2.2.2.2.1, ar (ad 8) cA 4 u_1.2.2.2.2.2.2.2.2.1, ar (ad 9) cA 4 u_1.2.2.2.2.2.2.2.2.2.1, ar (ad 10) cA 4 u_1.2.2.2.2.2.2.2.2.2.2] := hD
  have hw := hw.symm
  subst hw
  refine lv_istore_n (lv' := [(1, .int u_1.1), (0, .ref (ad 0))]) hx hb dX10_faultNow_4 rfl hl (by decide) rfl (fun ls hl => ?_)
  refine lv_aload_n hx hb dX10_faultNow_5 rfl (lv_at hl 1 rfl) ?_
  refine lv_iload_n hx hb dX10_faultNow_6 rfl (lv_at hl 0 rfl) ?_
  refine lv_iconst (v := (-1)) hx hb dX10_faultNow_7 (by decide) ?_
  refine lv_icmp_ne (tgt := 18) hx hb dX10_faultNow_8 (by decide) (fun c_2 => ?_) (fun c_2 => ?_)
  · have hm := it_neg c_2 hm
    refine lv_iconst (v := 0) hx hb dX10_faultNow_18 (by decide) ?_
    exact b_19 _ _ _ _ _ _ _ _ _ _ _ _ hm _ _ hP hD hS _ (lv_sub hl [0] rfl)
  · have hm := it_pos c_2 hm
    refine lv_aload_n hx hb dX10_faultNow_11 rfl (lv_at hl 1 rfl) ?_
    refine va_get (D := (dC, dI)) (ci := 10) (v := .int u_1.2.1) (C := RX10) (T := TX10) (N := 37) hx hb hts hinX10 hown hK hP 0 rfl rfl 2 (by decide) hl_112 (fun _ h9 => h9) rfl dX10_faultNow_12 ?_
    refine lv_goto (tgt := 19) hx hb dX10_faultNow_15 (by decide) ?_
    exact b_19 _ _ _ _ _ _ _ _ _ _ _ _ hm _ _ hP hD hS _ (lv_sub hl [0] rfl)

set_option maxHeartbeats 4000000 in
set_option maxRecDepth 100000 in
theorem kM_fault (l : Launch) (dC : Nat → ClassId) (dI : Nat → Nat → Nat) (cA : ClassId) (cB : ClassId) (ad : Nat → Nat) (sz : Nat) (xM_typed : Int32) (xM_people : Int32) (xM_posted : Int32) (xM_hears : Int32) (xM_censuses : Int32) (xM_finding : Int32) (gMtext : Nat → Int32) (gMkinds : Nat → Int32) (gMlates : Nat → Int32) (gMscarfs : Nat → Int32) (gMhands : Nat → Int32) (gMrings : Nat → Int32) (gMmains : Nat → Int32) (gMaheadOf : Nat → Int32) (gMlastIn : Nat → Int32) (gMmanyIn : Nat → Int32) (u : Int32 × Int32 × (Nat → Int32) × (Nat → Int32) × (Nat → Int32) × (Nat → Int32) × (Nat → Int32) × (Nat → Int32) × (Nat → Int32) × (Nat → Int32) × (Nat → Int32)) (hm : fM_fault xM_typed xM_people gMtext gMkinds gMlates gMscarfs gMhands gMrings gMmains gMaheadOf gMlastIn gMmanyIn = some u) : Met l yX10_fault wsX10_fault ({ frames := 3, cells := 0, slots := 0, locals := 69 }) (va_Pc [.ref (ad 0)] (fun U => U.heap.size = sz ∧ va_P (dC, dI) vwCl [oM ad xM_typed xM_people xM_posted xM_hears xM_censuses xM_finding, ar (ad 1) cA 60 gMtext, ar (ad 2) cA 20 gMkinds, ar (ad 3) cA 20 gMlates, ar (ad 4) cA 20 gMscarfs, ar (ad 5) cA 20 gMhands, ar (ad 6) cA 20 gMrings, ar (ad 7) cA 20 gMmains, ar (ad 8) cA 4 gMaheadOf, ar (ad 9) cA 4 gMlastIn, ar (ad 10) cA 4 gMmanyIn] U.heap ∧ va_K (dC, dI) vwCl [(cA, .int), (cB, .boolean)] U ∧ va_D (fun _ => True) [oM ad xM_typed xM_people xM_posted xM_hears xM_censuses xM_finding, ar (ad 1) cA 60 gMtext, ar (ad 2) cA 20 gMkinds, ar (ad 3) cA 20 gMlates, ar (ad 4) cA 20 gMscarfs, ar (ad 5) cA 20 gMhands, ar (ad 6) cA 20 gMrings, ar (ad 7) cA 20 gMmains, ar (ad 8) cA 4 gMaheadOf, ar (ad 9) cA 4 gMlastIn, ar (ad 10) cA 4 gMmanyIn])) (va_Qi (fun (r : Int32) (_ : Unit) => r = u.1) (fun (_ : Unit) t => va_P (dC, dI) vwCl [oM ad xM_typed u.2.1 xM_posted xM_hears xM_censuses xM_finding, ar (ad 1) cA 60 gMtext, ar (ad 2) cA 20 u.2.2.1, ar (ad 3) cA 20 u.2.2.2.1, ar (ad 4) cA 20 u.2.2.2.2.1, ar (ad 5) cA 20 u.2.2.2.2.2.1, ar (ad 6) cA 20 u.2.2.2.2.2.2.1, ar (ad 7) cA 20 u.2.2.2.2.2.2.2.1, ar (ad 8) cA 4 u.2.2.2.2.2.2.2.2.1, ar (ad 9) cA 4 u.2.2.2.2.2.2.2.2.2.1, ar (ad 10) cA 4 u.2.2.2.2.2.2.2.2.2.2] t.heap ∧ va_K (dC, dI) vwCl [(cA, .int), (cB, .boolean)] t ∧ va_D (va_A [oM ad xM_typed xM_people xM_posted xM_hears xM_censuses xM_finding, ar (ad 1) cA 60 gMtext, ar (ad 2) cA 20 gMkinds, ar (ad 3) cA 20 gMlates, ar (ad 4) cA 20 gMscarfs, ar (ad 5) cA 20 gMhands, ar (ad 6) cA 20 gMrings, ar (ad 7) cA 20 gMmains, ar (ad 8) cA 4 gMaheadOf, ar (ad 9) cA 4 gMlastIn, ar (ad 10) cA 4 gMmanyIn] sz) [oM ad xM_typed u.2.1 xM_posted xM_hears xM_censuses xM_finding, ar (ad 1) cA 60 gMtext, ar (ad 2) cA 20 u.2.2.1, ar (ad 3) cA 20 u.2.2.2.1, ar (ad 4) cA 20 u.2.2.2.2.1, ar (ad 5) cA 20 u.2.2.2.2.2.1, ar (ad 6) cA 20 u.2.2.2.2.2.2.1, ar (ad 7) cA 20 u.2.2.2.2.2.2.2.1, ar (ad 8) cA 4 u.2.2.2.2.2.2.2.2.1, ar (ad 9) cA 4 u.2.2.2.2.2.2.2.2.2.1, ar (ad 10) cA 4 u.2.2.2.2.2.2.2.2.2.2]) (va_A [oM ad xM_typed xM_people xM_posted xM_hears xM_censuses xM_finding, ar (ad 1) cA 60 gMtext, ar (ad 2) cA 20 gMkinds, ar (ad 3) cA 20 gMlates, ar (ad 4) cA 20 gMscarfs, ar (ad 5) cA 20 gMhands, ar (ad 6) cA 20 gMrings, ar (ad 7) cA 20 gMmains, ar (ad 8) cA 4 gMaheadOf, ar (ad 9) cA 4 gMlastIn, ar (ad 10) cA 4 gMmanyIn] sz)) 0 0 (va_A [oM ad xM_typed xM_people xM_posted xM_hears xM_censuses xM_finding, ar (ad 1) cA 60 gMtext, ar (ad 2) cA 20 gMkinds, ar (ad 3) cA 20 gMlates, ar (ad 4) cA 20 gMscarfs, ar (ad 5) cA 20 gMhands, ar (ad 6) cA 20 gMrings, ar (ad 7) cA 20 gMmains, ar (ad 8) cA 4 gMaheadOf, ar (ad 9) cA 4 gMlastIn, ar (ad 10) cA 4 gMmanyIn] sz) := by
  refine Met.ofW (cc := cX10_fault) (maxL := 1) (ret := (some .int)) (by decide) rfl ?_
  intro p e s m args below meth c s₁ B hml hv
  obtain ⟨rfl, hsz, hP, hK, hD0⟩ := hv
  have hx := B.exec
  have hb := B.bytes
  have hr := B.returns
  have hts := atoms_spec (ws := wsX10_fault) B.pre
  have hown : s.vm.findClass RX10 = some m.cls := findClass_of_methodNamed B.named
  have hlocks := B.notSynchronized
  subst hsz
  have hD := hD0.self (sz := s.heap.size)
  generalize hAe : va_A [oM ad xM_typed xM_people xM_posted xM_hears xM_censuses xM_finding, ar (ad 1) cA 60 gMtext, ar (ad 2) cA 20 gMkinds, ar (ad 3) cA 20 gMlates, ar (ad 4) cA 20 gMscarfs, ar (ad 5) cA 20 gMhands, ar (ad 6) cA 20 gMrings, ar (ad 7) cA 20 gMmains, ar (ad 8) cA 4 gMaheadOf, ar (ad 9) cA 4 gMlastIn, ar (ad 10) cA 4 gMmanyIn] s.heap.size = A at hD ⊢
  have hA : ∀ q : Nat, s.heap.size ≤ q → A q := fun q h => by rw [← hAe]; exact Or.inr h
  have hS : va_S A s.heap s.heap [] := va_S.rf
  have hl := lv_entry ([.ref (ad 0)]) (n := 1) (Nat.le_of_ble_eq_true rfl)
  rw [lg_entry_eq]
  generalize (lg_sl ([.ref (ad 0)]) ++ List.replicate (1 - (lg_sl ([.ref (ad 0)])).length) Slot.unset).toArray = ls at hl ⊢
  have hl : lv_has ls 1 [(0, .ref (ad 0))] := hl
  refine wk_Q (fun QQ hQ => ?_)
  unfold fM_fault at hm
  refine lv_aload_n hx hb dX10_fault_0 rfl (lv_at hl 0 rfl) ?_
  have hPc := hP.sub (ws' := [oM ad xM_typed xM_people xM_posted xM_hears xM_censuses xM_finding, ar (ad 1) cA 60 gMtext, ar (ad 2) cA 20 gMkinds, ar (ad 3) cA 20 gMlates, ar (ad 4) cA 20 gMscarfs, ar (ad 5) cA 20 gMhands, ar (ad 6) cA 20 gMrings, ar (ad 7) cA 20 gMmains, ar (ad 8) cA 4 gMaheadOf, ar (ad 9) cA 4 gMlastIn, ar (ad 10) cA 4 gMmanyIn]) [0, 1, 2, 3, 4, 5, 6, 7, 8, 9, 10] rfl
  have hDc := hD.sub (ws' := [oM ad xM_typed xM_people xM_posted xM_hears xM_censuses xM_finding, ar (ad 1) cA 60 gMtext, ar (ad 2) cA 20 gMkinds, ar (ad 3) cA 20 gMlates, ar (ad 4) cA 20 gMscarfs, ar (ad 5) cA 20 gMhands, ar (ad 6) cA 20 gMrings, ar (ad 7) cA 20 gMmains, ar (ad 8) cA 4 gMaheadOf, ar (ad 9) cA 4 gMlastIn, ar (ad 10) cA 4 gMmanyIn]) [0, 1, 2, 3, 4, 5, 6, 7, 8, 9, 10] (by decide) rfl
  have hFc := va_free (wc := [oM ad xM_typed xM_people xM_posted xM_hears xM_censuses xM_finding, ar (ad 1) cA 60 gMtext, ar (ad 2) cA 20 gMkinds, ar (ad 3) cA 20 gMlates, ar (ad 4) cA 20 gMscarfs, ar (ad 5) cA 20 gMhands, ar (ad 6) cA 20 gMrings, ar (ad 7) cA 20 gMmains, ar (ad 8) cA 4 gMaheadOf, ar (ad 9) cA 4 gMlastIn, ar (ad 10) cA 4 gMmanyIn]) hD hS hA [0, 1, 2, 3, 4, 5, 6, 7, 8, 9, 10] rfl
  obtain ⟨u_1, hc_1, hm⟩ := bd_ok hm
  refine va_calli (va_runV (As := []) (rest := []) ⟨hx, hb, hml, hown, hts⟩ (kM_faultNow l dC dI cA cB ad s.heap.size xM_typed xM_people xM_posted xM_hears xM_censuses xM_finding gMtext gMkinds gMlates gMscarfs gMhands gMrings gMmains gMaheadOf gMlastIn gMmanyIn u_1 hc_1) (cwV 0 hts gX10_fault_X10_faultNow rfl rfl rfl (by decide +kernel) ⟨Nat.le_of_ble_eq_true rfl, Nat.le_of_ble_eq_true rfl⟩) ⟨fun a U g mk q => by obtain ⟨q0, q1, qP, qK, qD⟩ := q; exact ⟨q0, q1, qP, va_K.moved (u := U) (U := U.calling g mk a) (Vm.Alike.refl U.vm) qK, qD⟩, va_recv hK hPc (ci := 10) (q0 := 0) rfl rfl, fun U hU hW => ⟨rfl, by rw [hU], by rw [hU]; exact hPc, va_K.moved hW.alike hK, hDc.weaken (fun _ _ _ _ => trivial)⟩⟩ rfl rfl hl.1 rfl (lv_room (Nat.le_of_ble_eq_true rfl)) dX10_fault_1 ⟨Nat.le_of_ble_eq_true rfl, Nat.le_of_ble_eq_true rfl⟩) hS (fun q _ h => hFc q h) hFc (fun r_1 _ t H1 locs ht hvm hw hB hz1 hk1 hS => ?_)
  obtain ⟨hP1, hK1, hD1⟩ := hB
  rw [ht] at hP1
  obtain ⟨hP, hD⟩ := va_join (wr := []) (w1 := [oM ad xM_typed u_1.2.1 xM_posted xM_hears xM_censuses xM_finding, ar (ad 1) cA 60 gMtext, ar (ad 2) cA 20 u_1.2.2.1, ar (ad 3) cA 20 u_1.2.2.2.1, ar (ad 4) cA 20 u_1.2.2.2.2.1, ar (ad 5) cA 20 u_1.2.2.2.2.2.1, ar (ad 6) cA 20 u_1.2.2.2.2.2.2.1, ar (ad 7) cA 20 u_1.2.2.2.2.2.2.2.1, ar (ad 8) cA 4 u_1.2.2.2.2.2.2.2.2.1, ar (ad 9) cA 4 u_1.2.2.2.2.2.2.2.2.2.1, ar (ad 10) cA 4 u_1.2.2.2.2.2.2.2.2.2.2]) hP hD [0, 1, 2, 3, 4, 5, 6, 7, 8, 9, 10] [] rfl rfl (by decide) (by decide) hk1 hFc hP1 hD1
  clear hPc hDc hFc hP1 hK1 hD1 hk1 hz1 hvm ht
  generalize H1 = H at hP hS ⊢
  have hP : va_P (dC, dI) vwCl [oM ad xM_typed u_1.2.1 xM_posted xM_hears xM_censuses xM_finding, ar (ad 1) cA 60 gMtext, ar (ad 2) cA 20 u_1.2.2.1, ar (ad 3) cA 20 u_1.2.2.2.1, ar (ad 4) cA 20 u_1.2.2.2.2.1, ar (ad 5) cA 20 u_1.2.2.2.2.2.1, ar (ad 6) cA 20 u_1.2.2.2.2.2.2.1, ar (ad 7) cA 20 u_1.2.2.2.2.2.2.2.1, ar (ad 8) cA 4 u_1.2.2.2.2.2.2.2.2.1, ar (ad 9) cA 4 u_1.2.2.2.2.2.2.2.2.2.1, ar (ad 10) cA 4 u_1.2.2.2.2.2.2.2.2.2.2] H := hP
  have hD : va_D A [oM ad xM_typed u_1.2.1 xM_posted xM_hears xM_censuses xM_finding, ar (ad 1) cA 60 gMtext, ar (ad 2) cA 20 u_1.2.2.1, ar (ad 3) cA 20 u_1.2.2.2.1, ar (ad 4) cA 20 u_1.2.2.2.2.1, ar (ad 5) cA 20 u_1.2.2.2.2.2.1, ar (ad 6) cA 20 u_1.2.2.2.2.2.2.1, ar (ad 7) cA 20 u_1.2.2.2.2.2.2.2.1, ar (ad 8) cA 4 u_1.2.2.2.2.2.2.2.2.1, ar (ad 9) cA 4 u_1.2.2.2.2.2.2.2.2.2.1, ar (ad 10) cA 4 u_1.2.2.2.2.2.2.2.2.2.2] := hD
  have hw := hw.symm
  subst hw
  obtain rfl := Option.some.inj hm
  subst hQ
  exact W.iret (v := u_1.1) hx hb hr (fun t ht hW => ⟨⟨_, (), rfl, rfl, by rw [ht]; exact hP, va_K.moved hW.alike hK, hAe ▸ hD⟩, hS.F ht⟩) hS.2.2 dX10_fault_4

set_option maxHeartbeats 4000000 in
set_option maxRecDepth 100000 in
theorem kM_isPerson (l : Launch) (dC : Nat → ClassId) (dI : Nat → Nat → Nat) (cA : ClassId) (cB : ClassId) (ad : Nat → Nat) (sz : Nat) (a1 : Int32) (xM_typed : Int32) (xM_people : Int32) (xM_posted : Int32) (xM_hears : Int32) (xM_censuses : Int32) (xM_finding : Int32) (gMtext : Nat → Int32) (gMkinds : Nat → Int32) (gMlates : Nat → Int32) (gMscarfs : Nat → Int32) (gMhands : Nat → Int32) (gMrings : Nat → Int32) (gMmains : Nat → Int32) (gMaheadOf : Nat → Int32) (gMlastIn : Nat → Int32) (gMmanyIn : Nat → Int32) (u : Int32 × Int32 × (Nat → Int32) × (Nat → Int32) × (Nat → Int32) × (Nat → Int32) × (Nat → Int32) × (Nat → Int32) × (Nat → Int32) × (Nat → Int32) × (Nat → Int32)) (hm : fM_isPerson a1 xM_typed xM_people gMtext gMkinds gMlates gMscarfs gMhands gMrings gMmains gMaheadOf gMlastIn gMmanyIn = some u) : Met l yX10_isPerson wsX10_isPerson ({ frames := 3, cells := 0, slots := 0, locals := 69 }) (va_Pc [.ref (ad 0), .int a1] (fun U => U.heap.size = sz ∧ va_P (dC, dI) vwCl [oM ad xM_typed xM_people xM_posted xM_hears xM_censuses xM_finding, ar (ad 1) cA 60 gMtext, ar (ad 2) cA 20 gMkinds, ar (ad 3) cA 20 gMlates, ar (ad 4) cA 20 gMscarfs, ar (ad 5) cA 20 gMhands, ar (ad 6) cA 20 gMrings, ar (ad 7) cA 20 gMmains, ar (ad 8) cA 4 gMaheadOf, ar (ad 9) cA 4 gMlastIn, ar (ad 10) cA 4 gMmanyIn] U.heap ∧ va_K (dC, dI) vwCl [(cA, .int), (cB, .boolean)] U ∧ va_D (fun _ => True) [oM ad xM_typed xM_people xM_posted xM_hears xM_censuses xM_finding, ar (ad 1) cA 60 gMtext, ar (ad 2) cA 20 gMkinds, ar (ad 3) cA 20 gMlates, ar (ad 4) cA 20 gMscarfs, ar (ad 5) cA 20 gMhands, ar (ad 6) cA 20 gMrings, ar (ad 7) cA 20 gMmains, ar (ad 8) cA 4 gMaheadOf, ar (ad 9) cA 4 gMlastIn, ar (ad 10) cA 4 gMmanyIn])) (va_Qi (fun (r : Int32) (_ : Unit) => r = u.1) (fun (_ : Unit) t => va_P (dC, dI) vwCl [oM ad xM_typed u.2.1 xM_posted xM_hears xM_censuses xM_finding, ar (ad 1) cA 60 gMtext, ar (ad 2) cA 20 u.2.2.1, ar (ad 3) cA 20 u.2.2.2.1, ar (ad 4) cA 20 u.2.2.2.2.1, ar (ad 5) cA 20 u.2.2.2.2.2.1, ar (ad 6) cA 20 u.2.2.2.2.2.2.1, ar (ad 7) cA 20 u.2.2.2.2.2.2.2.1, ar (ad 8) cA 4 u.2.2.2.2.2.2.2.2.1, ar (ad 9) cA 4 u.2.2.2.2.2.2.2.2.2.1, ar (ad 10) cA 4 u.2.2.2.2.2.2.2.2.2.2] t.heap ∧ va_K (dC, dI) vwCl [(cA, .int), (cB, .boolean)] t ∧ va_D (va_A [oM ad xM_typed xM_people xM_posted xM_hears xM_censuses xM_finding, ar (ad 1) cA 60 gMtext, ar (ad 2) cA 20 gMkinds, ar (ad 3) cA 20 gMlates, ar (ad 4) cA 20 gMscarfs, ar (ad 5) cA 20 gMhands, ar (ad 6) cA 20 gMrings, ar (ad 7) cA 20 gMmains, ar (ad 8) cA 4 gMaheadOf, ar (ad 9) cA 4 gMlastIn, ar (ad 10) cA 4 gMmanyIn] sz) [oM ad xM_typed u.2.1 xM_posted xM_hears xM_censuses xM_finding, ar (ad 1) cA 60 gMtext, ar (ad 2) cA 20 u.2.2.1, ar (ad 3) cA 20 u.2.2.2.1, ar (ad 4) cA 20 u.2.2.2.2.1, ar (ad 5) cA 20 u.2.2.2.2.2.1, ar (ad 6) cA 20 u.2.2.2.2.2.2.1, ar (ad 7) cA 20 u.2.2.2.2.2.2.2.1, ar (ad 8) cA 4 u.2.2.2.2.2.2.2.2.1, ar (ad 9) cA 4 u.2.2.2.2.2.2.2.2.2.1, ar (ad 10) cA 4 u.2.2.2.2.2.2.2.2.2.2]) (va_A [oM ad xM_typed xM_people xM_posted xM_hears xM_censuses xM_finding, ar (ad 1) cA 60 gMtext, ar (ad 2) cA 20 gMkinds, ar (ad 3) cA 20 gMlates, ar (ad 4) cA 20 gMscarfs, ar (ad 5) cA 20 gMhands, ar (ad 6) cA 20 gMrings, ar (ad 7) cA 20 gMmains, ar (ad 8) cA 4 gMaheadOf, ar (ad 9) cA 4 gMlastIn, ar (ad 10) cA 4 gMmanyIn] sz)) 0 0 (va_A [oM ad xM_typed xM_people xM_posted xM_hears xM_censuses xM_finding, ar (ad 1) cA 60 gMtext, ar (ad 2) cA 20 gMkinds, ar (ad 3) cA 20 gMlates, ar (ad 4) cA 20 gMscarfs, ar (ad 5) cA 20 gMhands, ar (ad 6) cA 20 gMrings, ar (ad 7) cA 20 gMmains, ar (ad 8) cA 4 gMaheadOf, ar (ad 9) cA 4 gMlastIn, ar (ad 10) cA 4 gMmanyIn] sz) := by
  refine Met.ofW (cc := cX10_isPerson) (maxL := 3) (ret := (some .boolean)) (by decide) rfl ?_
  intro p e s m args below meth c s₁ B hml hv
  obtain ⟨rfl, hsz, hP, hK, hD0⟩ := hv
  have hx := B.exec
  have hb := B.bytes
  have hr := B.returns
  have hts := atoms_spec (ws := wsX10_isPerson) B.pre
  have hown : s.vm.findClass RX10 = some m.cls := findClass_of_methodNamed B.named
  have hlocks := B.notSynchronized
  subst hsz
  have hD := hD0.self (sz := s.heap.size)
  generalize hAe : va_A [oM ad xM_typed xM_people xM_posted xM_hears xM_censuses xM_finding, ar (ad 1) cA 60 gMtext, ar (ad 2) cA 20 gMkinds, ar (ad 3) cA 20 gMlates, ar (ad 4) cA 20 gMscarfs, ar (ad 5) cA 20 gMhands, ar (ad 6) cA 20 gMrings, ar (ad 7) cA 20 gMmains, ar (ad 8) cA 4 gMaheadOf, ar (ad 9) cA 4 gMlastIn, ar (ad 10) cA 4 gMmanyIn] s.heap.size = A at hD ⊢
  have hA : ∀ q : Nat, s.heap.size ≤ q → A q := fun q h => by rw [← hAe]; exact Or.inr h
  have hS : va_S A s.heap s.heap [] := va_S.rf
  have hl := lv_entry ([.ref (ad 0), .int a1]) (n := 3) (Nat.le_of_ble_eq_true rfl)
  rw [lg_entry_eq]
  generalize (lg_sl ([.ref (ad 0), .int a1]) ++ List.replicate (3 - (lg_sl ([.ref (ad 0), .int a1])).length) Slot.unset).toArray = ls at hl ⊢
  have hl : lv_has ls 3 [(0, .ref (ad 0)), (1, .int a1)] := hl
  refine wk_Q (fun QQ hQ => ?_)
  have hinX10 : ∀ w ∈ wsX100, w ∈ wsX10_isPerson := fun w h => List.mem_cons_of_mem _ (inlX10 w h)
  have hl_112 := hts (.fieldLink RX10 112 "HandCensusModel" "people" "I") (List.mem_cons_of_mem _ (in_r12 _ (List.mem_of_getElem? (i := 4) rfl)))
  unfold fM_isPerson at hm
  refine lv_aload_n hx hb dX10_isPerson_0 rfl (lv_at hl 0 rfl) ?_
  have hPc := hP.sub (ws' := [oM ad xM_typed xM_people xM_posted xM_hears xM_censuses xM_finding, ar (ad 1) cA 60 gMtext, ar (ad 2) cA 20 gMkinds, ar (ad 3) cA 20 gMlates, ar (ad 4) cA 20 gMscarfs, ar (ad 5) cA 20 gMhands, ar (ad 6) cA 20 gMrings, ar (ad 7) cA 20 gMmains, ar (ad 8) cA 4 gMaheadOf, ar (ad 9) cA 4 gMlastIn, ar (ad 10) cA 4 gMmanyIn]) [0, 1, 2, 3, 4, 5, 6, 7, 8, 9, 10] rfl
  have hDc := hD.sub (ws' := [oM ad xM_typed xM_people xM_posted xM_hears xM_censuses xM_finding, ar (ad 1) cA 60 gMtext, ar (ad 2) cA 20 gMkinds, ar (ad 3) cA 20 gMlates, ar (ad 4) cA 20 gMscarfs, ar (ad 5) cA 20 gMhands, ar (ad 6) cA 20 gMrings, ar (ad 7) cA 20 gMmains, ar (ad 8) cA 4 gMaheadOf, ar (ad 9) cA 4 gMlastIn, ar (ad 10) cA 4 gMmanyIn]) [0, 1, 2, 3, 4, 5, 6, 7, 8, 9, 10] (by decide) rfl
  have hFc := va_free (wc := [oM ad xM_typed xM_people xM_posted xM_hears xM_censuses xM_finding, ar (ad 1) cA 60 gMtext, ar (ad 2) cA 20 gMkinds, ar (ad 3) cA 20 gMlates, ar (ad 4) cA 20 gMscarfs, ar (ad 5) cA 20 gMhands, ar (ad 6) cA 20 gMrings, ar (ad 7) cA 20 gMmains, ar (ad 8) cA 4 gMaheadOf, ar (ad 9) cA 4 gMlastIn, ar (ad 10) cA 4 gMmanyIn]) hD hS hA [0, 1, 2, 3, 4, 5, 6, 7, 8, 9, 10] rfl
  obtain ⟨u_1, hc_1, hm⟩ := bd_ok hm
  refine va_calli (va_runV (As := []) (rest := []) ⟨hx, hb, hml, hown, hts⟩ (kM_faultNow l dC dI cA cB ad s.heap.size xM_typed xM_people xM_posted xM_hears xM_censuses xM_finding gMtext gMkinds gMlates gMscarfs gMhands gMrings gMmains gMaheadOf gMlastIn gMmanyIn u_1 hc_1) (cwV 0 hts gX10_isPerson_X10_faultNow rfl rfl rfl (by decide +kernel) ⟨Nat.le_of_ble_eq_true rfl, Nat.le_of_ble_eq_true rfl⟩) ⟨fun a U g mk q => by obtain ⟨q0, q1, qP, qK, qD⟩ := q; exact ⟨q0, q1, qP, va_K.moved (u := U) (U := U.calling g mk a) (Vm.Alike.refl U.vm) qK, qD⟩, va_recv hK hPc (ci := 10) (q0 := 0) rfl rfl, fun U hU hW => ⟨rfl, by rw [hU], by rw [hU]; exact hPc, va_K.moved hW.alike hK, hDc.weaken (fun _ _ _ _ => trivial)⟩⟩ rfl rfl hl.1 rfl (lv_room (Nat.le_of_ble_eq_true rfl)) dX10_isPerson_1 ⟨Nat.le_of_ble_eq_true rfl, Nat.le_of_ble_eq_true rfl⟩) hS (fun q _ h => hFc q h) hFc (fun r_1 _ t H1 locs ht hvm hw hB hz1 hk1 hS => ?_)
  obtain ⟨hP1, hK1, hD1⟩ := hB
  rw [ht] at hP1
  obtain ⟨hP, hD⟩ := va_join (wr := []) (w1 := [oM ad xM_typed u_1.2.1 xM_posted xM_hears xM_censuses xM_finding, ar (ad 1) cA 60 gMtext, ar (ad 2) cA 20 u_1.2.2.1, ar (ad 3) cA 20 u_1.2.2.2.1, ar (ad 4) cA 20 u_1.2.2.2.2.1, ar (ad 5) cA 20 u_1.2.2.2.2.2.1, ar (ad 6) cA 20 u_1.2.2.2.2.2.2.1, ar (ad 7) cA 20 u_1.2.2.2.2.2.2.2.1, ar (ad 8) cA 4 u_1.2.2.2.2.2.2.2.2.1, ar (ad 9) cA 4 u_1.2.2.2.2.2.2.2.2.2.1, ar (ad 10) cA 4 u_1.2.2.2.2.2.2.2.2.2.2]) hP hD [0, 1, 2, 3, 4, 5, 6, 7, 8, 9, 10] [] rfl rfl (by decide) (by decide) hk1 hFc hP1 hD1
  clear hPc hDc hFc hP1 hK1 hD1 hk1 hz1 hvm ht
  generalize H1 = H at hP hS ⊢
  have hP : va_P (dC, dI) vwCl [oM ad xM_typed u_1.2.1 xM_posted xM_hears xM_censuses xM_finding, ar (ad 1) cA 60 gMtext, ar (ad 2) cA 20 u_1.2.2.1, ar (ad 3) cA 20 u_1.2.2.2.1, ar (ad 4) cA 20 u_1.2.2.2.2.1, ar (ad 5) cA 20 u_1.2.2.2.2.2.1, ar (ad 6) cA 20 u_1.2.2.2.2.2.2.1, ar (ad 7) cA 20 u_1.2.2.2.2.2.2.2.1, ar (ad 8) cA 4 u_1.2.2.2.2.2.2.2.2.1, ar (ad 9) cA 4 u_1.2.2.2.2.2.2.2.2.2.1, ar (ad 10) cA 4 u_1.2.2.2.2.2.2.2.2.2.2] H := hP
  have hD : va_D A [oM ad xM_typed u_1.2.1 xM_posted xM_hears xM_censuses xM_finding, ar (ad 1) cA 60 gMtext, ar (ad 2) cA 20 u_1.2.2.1, ar (ad 3) cA 20 u_1.2.2.2.1, ar (ad 4) cA 20 u_1.2.2.2.2.1, ar (ad 5) cA 20 u_1.2.2.2.2.2.1, ar (ad 6) cA 20 u_1.2.2.2.2.2.2.1, ar (ad 7) cA 20 u_1.2.2.2.2.2.2.2.1, ar (ad 8) cA 4 u_1.2.2.2.2.2.2.2.2.1, ar (ad 9) cA 4 u_1.2.2.2.2.2.2.2.2.2.1, ar (ad 10) cA 4 u_1.2.2.2.2.2.2.2.2.2.2] := hD
  have hw := hw.symm
  subst hw
  refine lv_istore_n (lv' := [(2, .int u_1.1), (0, .ref (ad 0)), (1, .int a1)]) hx hb dX10_isPerson_4 rfl hl (by decide) rfl (fun ls hl => ?_)
  refine lv_iload_n hx hb dX10_isPerson_5 rfl (lv_at hl 2 rfl) ?_
  refine lv_iconst (v := 0) hx hb dX10_isPerson_6 (by decide) ?_
  refine lv_aload_n hx hb dX10_isPerson_7 rfl (lv_at hl 1 rfl) ?_
  refine va_get (D := (dC, dI)) (ci := 10) (v := .int u_1.2.1) (C := RX10) (T := TX10) (N := 37) hx hb hts hinX10 hown hK hP 0 rfl rfl 2 (by decide) hl_112 (fun _ h9 => h9) rfl dX10_isPerson_8 ?_
  refine lv_iconst (v := 1) hx hb dX10_isPerson_11 (by decide) ?_
  refine lv_isub hx hb dX10_isPerson_12 ?_
  have hPc := hP.sub (ws' := []) [] rfl
  have hDc := hD.sub (ws' := []) [] (by decide) rfl
  have hFc := va_free (wc := []) hD hS hA [] rfl
  obtain ⟨u_2, hc_2, hm⟩ := bd_ok hm
  refine va_calli (va_runS (As := [.int a1, .int 0, .int (u_1.2.1 - 1)]) (rest := []) ⟨hx, hb, hml, hown, hts⟩ (kM_in l dC dI cA cB ad H.size a1 0 (u_1.2.1 - 1) u_2 hc_2) (va_cwS 3 hts gX10_isPerson_X10_in rfl rfl rfl (by decide +kernel) ⟨Nat.le_of_ble_eq_true rfl, Nat.le_of_ble_eq_true rfl⟩) ⟨fun a U g mk q => by obtain ⟨q0, q1, qP, qK, qD⟩ := q; exact ⟨q0, q1, qP, va_K.moved (u := U) (U := U.calling g mk a) (Vm.Alike.refl U.vm) qK, qD⟩, fun U hU hW => ⟨rfl, by rw [hU], by rw [hU]; exact hPc, va_K.moved hW.alike hK, hDc.weaken (fun _ _ _ _ => trivial)⟩⟩ rfl rfl hl.1 rfl (lv_room (Nat.le_of_ble_eq_true rfl)) dX10_isPerson_13 ⟨Nat.le_of_ble_eq_true rfl, Nat.le_of_ble_eq_true rfl⟩) hS (fun q _ h => hFc q h) hFc (fun r_2 _ t H1 locs ht hvm hw hB hz1 hk1 hS => ?_)
  obtain ⟨hP1, hK1, hD1⟩ := hB
  rw [ht] at hP1
  obtain ⟨hP, hD⟩ := va_join (wr := [oM ad xM_typed u_1.2.1 xM_posted xM_hears xM_censuses xM_finding, ar (ad 1) cA 60 gMtext, ar (ad 2) cA 20 u_1.2.2.1, ar (ad 3) cA 20 u_1.2.2.2.1, ar (ad 4) cA 20 u_1.2.2.2.2.1, ar (ad 5) cA 20 u_1.2.2.2.2.2.1, ar (ad 6) cA 20 u_1.2.2.2.2.2.2.1, ar (ad 7) cA 20 u_1.2.2.2.2.2.2.2.1, ar (ad 8) cA 4 u_1.2.2.2.2.2.2.2.2.1, ar (ad 9) cA 4 u_1.2.2.2.2.2.2.2.2.2.1, ar (ad 10) cA 4 u_1.2.2.2.2.2.2.2.2.2.2]) (w1 := []) hP hD [] [0, 1, 2, 3, 4, 5, 6, 7, 8, 9, 10] rfl rfl (by decide) (by decide) hk1 hFc hP1 hD1
  clear hPc hDc hFc hP1 hK1 hD1 hk1 hz1 hvm ht
  generalize H1 = H at hP hS ⊢
  have hP : va_P (dC, dI) vwCl [oM ad xM_typed u_1.2.1 xM_posted xM_hears xM_censuses xM_finding, ar (ad 1) cA 60 gMtext, ar (ad 2) cA 20 u_1.2.2.1, ar (ad 3) cA 20 u_1.2.2.2.1, ar (ad 4) cA 20 u_1.2.2.2.2.1, ar (ad 5) cA 20 u_1.2.2.2.2.2.1, ar (ad 6) cA 20 u_1.2.2.2.2.2.2.1, ar (ad 7) cA 20 u_1.2.2.2.2.2.2.2.1, ar (ad 8) cA 4 u_1.2.2.2.2.2.2.2.2.1, ar (ad 9) cA 4 u_1.2.2.2.2.2.2.2.2.2.1, ar (ad 10) cA 4 u_1.2.2.2.2.2.2.2.2.2.2] H := hP
  have hD : va_D A [oM ad xM_typed u_1.2.1 xM_posted xM_hears xM_censuses xM_finding, ar (ad 1) cA 60 gMtext, ar (ad 2) cA 20 u_1.2.2.1, ar (ad 3) cA 20 u_1.2.2.2.1, ar (ad 4) cA 20 u_1.2.2.2.2.1, ar (ad 5) cA 20 u_1.2.2.2.2.2.1, ar (ad 6) cA 20 u_1.2.2.2.2.2.2.1, ar (ad 7) cA 20 u_1.2.2.2.2.2.2.2.1, ar (ad 8) cA 4 u_1.2.2.2.2.2.2.2.2.1, ar (ad 9) cA 4 u_1.2.2.2.2.2.2.2.2.2.1, ar (ad 10) cA 4 u_1.2.2.2.2.2.2.2.2.2.2] := hD
  have hw := hw.symm
  subst hw
  obtain ⟨z_b, hm⟩ := bz_ok hm
  obtain rfl := Option.some.inj hm
  subst hQ
  exact W.zret (v := u_2) hx hb hr (nar_bz z_b) (fun t ht hW => ⟨⟨_, (), rfl, rfl, by rw [ht]; exact hP, va_K.moved hW.alike hK, hAe ▸ hD⟩, hS.F ht⟩) hS.2.2 dX10_isPerson_16

set_option maxHeartbeats 4000000 in
set_option maxRecDepth 100000 in
theorem kM_personOf (l : Launch) (dC : Nat → ClassId) (dI : Nat → Nat → Nat) (cA : ClassId) (cB : ClassId) (ad : Nat → Nat) (sz : Nat) (a1 : Int32) (a2 : Int32) (xM_typed : Int32) (xM_people : Int32) (xM_posted : Int32) (xM_hears : Int32) (xM_censuses : Int32) (xM_finding : Int32) (gMkinds : Nat → Int32) (gMlates : Nat → Int32) (gMscarfs : Nat → Int32) (gMhands : Nat → Int32) (gMmains : Nat → Int32) (u : Int32) (hm : fM_personOf a1 a2 gMkinds gMlates gMscarfs gMhands gMmains = some u) : Met l yX10_personOf wsX10_personOf ({ frames := 0, cells := 0, slots := 0, locals := 0 }) (va_Pc [.ref (ad 0), .int a1, .int a2] (fun U => U.heap.size = sz ∧ va_P (dC, dI) vwCl [oM ad xM_typed xM_people xM_posted xM_hears xM_censuses xM_finding, ar (ad 2) cA 20 gMkinds, ar (ad 3) cA 20 gMlates, ar (ad 4) cA 20 gMscarfs, ar (ad 5) cA 20 gMhands, ar (ad 7) cA 20 gMmains] U.heap ∧ va_K (dC, dI) vwCl [(cA, .int), (cB, .boolean)] U ∧ va_D (fun _ => True) [oM ad xM_typed xM_people xM_posted xM_hears xM_censuses xM_finding, ar (ad 2) cA 20 gMkinds, ar (ad 3) cA 20 gMlates, ar (ad 4) cA 20 gMscarfs, ar (ad 5) cA 20 gMhands, ar (ad 7) cA 20 gMmains])) (va_Qi (fun (r : Int32) (_ : Unit) => r = u) (fun (_ : Unit) t => va_P (dC, dI) vwCl [oM ad xM_typed xM_people xM_posted xM_hears xM_censuses xM_finding, ar (ad 2) cA 20 gMkinds, ar (ad 3) cA 20 gMlates, ar (ad 4) cA 20 gMscarfs, ar (ad 5) cA 20 gMhands, ar (ad 7) cA 20 gMmains] t.heap ∧ va_K (dC, dI) vwCl [(cA, .int), (cB, .boolean)] t ∧ va_D (va_A [oM ad xM_typed xM_people xM_posted xM_hears xM_censuses xM_finding, ar (ad 2) cA 20 gMkinds, ar (ad 3) cA 20 gMlates, ar (ad 4) cA 20 gMscarfs, ar (ad 5) cA 20 gMhands, ar (ad 7) cA 20 gMmains] sz) [oM ad xM_typed xM_people xM_posted xM_hears xM_censuses xM_finding, ar (ad 2) cA 20 gMkinds, ar (ad 3) cA 20 gMlates, ar (ad 4) cA 20 gMscarfs, ar (ad 5) cA 20 gMhands, ar (ad 7) cA 20 gMmains]) (va_A [oM ad xM_typed xM_people xM_posted xM_hears xM_censuses xM_finding, ar (ad 2) cA 20 gMkinds, ar (ad 3) cA 20 gMlates, ar (ad 4) cA 20 gMscarfs, ar (ad 5) cA 20 gMhands, ar (ad 7) cA 20 gMmains] sz)) 0 0 (va_A [oM ad xM_typed xM_people xM_posted xM_hears xM_censuses xM_finding, ar (ad 2) cA 20 gMkinds, ar (ad 3) cA 20 gMlates, ar (ad 4) cA 20 gMscarfs, ar (ad 5) cA 20 gMhands, ar (ad 7) cA 20 gMmains] sz) := by
  refine Met.ofW (cc := cX10_personOf) (maxL := 3) (ret := (some .int)) (by decide) rfl ?_
  intro p e s m args below meth c s₁ B hml hv
  obtain ⟨rfl, hsz, hP, hK, hD0⟩ := hv
  have hx := B.exec
  have hb := B.bytes
  have hr := B.returns
  have hts := atoms_spec (ws := wsX10_personOf) B.pre
  have hown : s.vm.findClass RX10 = some m.cls := findClass_of_methodNamed B.named
  have hlocks := B.notSynchronized
  subst hsz
  have hD := hD0.self (sz := s.heap.size)
  generalize hAe : va_A [oM ad xM_typed xM_people xM_posted xM_hears xM_censuses xM_finding, ar (ad 2) cA 20 gMkinds, ar (ad 3) cA 20 gMlates, ar (ad 4) cA 20 gMscarfs, ar (ad 5) cA 20 gMhands, ar (ad 7) cA 20 gMmains] s.heap.size = A at hD ⊢
  have hA : ∀ q : Nat, s.heap.size ≤ q → A q := fun q h => by rw [← hAe]; exact Or.inr h
  have hS : va_S A s.heap s.heap [] := va_S.rf
  have hl := lv_entry ([.ref (ad 0), .int a1, .int a2]) (n := 3) (Nat.le_of_ble_eq_true rfl)
  rw [lg_entry_eq]
  generalize (lg_sl ([.ref (ad 0), .int a1, .int a2]) ++ List.replicate (3 - (lg_sl ([.ref (ad 0), .int a1, .int a2])).length) Slot.unset).toArray = ls at hl ⊢
  have hl : lv_has ls 3 [(0, .ref (ad 0)), (1, .int a1), (2, .int a2)] := hl
  refine wk_Q (fun QQ hQ => ?_)
  have hinX10 : ∀ w ∈ wsX100, w ∈ wsX10_personOf := fun w h => List.mem_cons_of_mem _ (inlX10 w h)
  have hl_28 := hts (.fieldLink RX10 28 "HandCensusModel" "mains" "[I") (List.mem_cons_of_mem _ (in_r7 _ (List.mem_of_getElem? (i := 1) rfl)))
  have hl_22 := hts (.fieldLink RX10 22 "HandCensusModel" "hands" "[I") (List.mem_cons_of_mem _ (in_r6 _ (List.mem_of_getElem? (i := 23) rfl)))
  have hl_19 := hts (.fieldLink RX10 19 "HandCensusModel" "scarfs" "[I") (List.mem_cons_of_mem _ (in_r6 _ (List.mem_of_getElem? (i := 22) rfl)))
  have hl_16 := hts (.fieldLink RX10 16 "HandCensusModel" "lates" "[I") (List.mem_cons_of_mem _ (in_r6 _ (List.mem_of_getElem? (i := 21) rfl)))
  have hl_13 := hts (.fieldLink RX10 13 "HandCensusModel" "kinds" "[I") (List.mem_cons_of_mem _ (in_r6 _ (List.mem_of_getElem? (i := 20) rfl)))
  unfold fM_personOf at hm
  refine lv_iload_n hx hb dX10_personOf_0 rfl (lv_at hl 2 rfl) ?_
  refine lv_if_ne (tgt := 13) hx hb dX10_personOf_1 (by decide) (fun c_1 => ?_) (fun c_1 => ?_)
  · have hm := it_neg c_1 hm
    refine lv_iload_n hx hb dX10_personOf_13 rfl (lv_at hl 2 rfl) ?_
    refine lv_iconst (v := 1) hx hb dX10_personOf_14 (by decide) ?_
    refine lv_icmp_ne (tgt := 27) hx hb dX10_personOf_15 (by decide) (fun c_2 => ?_) (fun c_2 => ?_)
    · have hm := it_neg c_2 hm
      refine lv_iload_n hx hb dX10_personOf_27 rfl (lv_at hl 2 rfl) ?_
      refine lv_iconst (v := 2) hx hb dX10_personOf_28 (by decide) ?_
      refine lv_icmp_ne (tgt := 41) hx hb dX10_personOf_29 (by decide) (fun c_3 => ?_) (fun c_3 => ?_)
      · have hm := it_neg c_3 hm
        refine lv_iload_n hx hb dX10_personOf_41 rfl (lv_at hl 2 rfl) ?_
        refine lv_iconst (v := 3) hx hb dX10_personOf_42 (by decide) ?_
        refine lv_icmp_ne (tgt := 55) hx hb dX10_personOf_43 (by decide) (fun c_4 => ?_) (fun c_4 => ?_)
        · have hm := it_neg c_4 hm
          refine lv_aload_n hx hb dX10_personOf_55 rfl (lv_at hl 0 rfl) ?_
          refine va_get (D := (dC, dI)) (ci := 10) (v := .ref (ad 7)) (C := RX10) (T := TX10) (N := 37) hx hb hts hinX10 hown hK hP 0 rfl rfl 8 (by decide) hl_28 (fun _ h9 => h9) rfl dX10_personOf_56 ?_
          refine lv_iload_n hx hb dX10_personOf_59 rfl (lv_at hl 1 rfl) ?_
          obtain ⟨i_5, hm⟩ := ck_ok hm
          refine va_iald hx hb hK hP 5 0 rfl rfl i_5 dX10_personOf_60 ?_
          obtain rfl := Option.some.inj hm
          subst hQ
          exact W.iret (v := (gMmains a1.toNatClampNeg)) hx hb hr (fun t ht hW => ⟨⟨_, (), rfl, rfl, by rw [ht]; exact hP, va_K.moved hW.alike hK, hAe ▸ hD⟩, hS.F ht⟩) hS.2.2 dX10_personOf_61
        · have hm := it_pos c_4 hm
          refine lv_aload_n hx hb dX10_personOf_46 rfl (lv_at hl 0 rfl) ?_
          refine va_get (D := (dC, dI)) (ci := 10) (v := .ref (ad 5)) (C := RX10) (T := TX10) (N := 37) hx hb hts hinX10 hown hK hP 0 rfl rfl 6 (by decide) hl_22 (fun _ h9 => h9) rfl dX10_personOf_47 ?_
          refine lv_iload_n hx hb dX10_personOf_50 rfl (lv_at hl 1 rfl) ?_
          obtain ⟨i_6, hm⟩ := ck_ok hm
          refine va_iald hx hb hK hP 4 0 rfl rfl i_6 dX10_personOf_51 ?_
          refine lv_goto (tgt := 61) hx hb dX10_personOf_52 (by decide) ?_
          obtain rfl := Option.some.inj hm
          subst hQ
          exact W.iret (v := (gMhands a1.toNatClampNeg)) hx hb hr (fun t ht hW => ⟨⟨_, (), rfl, rfl, by rw [ht]; exact hP, va_K.moved hW.alike hK, hAe ▸ hD⟩, hS.F ht⟩) hS.2.2 dX10_personOf_61
      · have hm := it_pos c_3 hm
        refine lv_aload_n hx hb dX10_personOf_32 rfl (lv_at hl 0 rfl) ?_
        refine va_get (D := (dC, dI)) (ci := 10) (v := .ref (ad 4)) (C := RX10) (T := TX10) (N := 37) hx hb hts hinX10 hown hK hP 0 rfl rfl 5 (by decide) hl_19 (fun _ h9 => h9) rfl dX10_personOf_33 ?_
        refine lv_iload_n hx hb dX10_personOf_36 rfl (lv_at hl 1 rfl) ?_
        obtain ⟨i_7, hm⟩ := ck_ok hm
        refine va_iald hx hb hK hP 3 0 rfl rfl i_7 dX10_personOf_37 ?_
        refine lv_goto (tgt := 61) hx hb dX10_personOf_38 (by decide) ?_
        obtain rfl := Option.some.inj hm
        subst hQ
        exact W.iret (v := (gMscarfs a1.toNatClampNeg)) hx hb hr (fun t ht hW => ⟨⟨_, (), rfl, rfl, by rw [ht]; exact hP, va_K.moved hW.alike hK, hAe ▸ hD⟩, hS.F ht⟩) hS.2.2 dX10_personOf_61
    · have hm := it_pos c_2 hm
      refine lv_aload_n hx hb dX10_personOf_18 rfl (lv_at hl 0 rfl) ?_
      refine va_get (D := (dC, dI)) (ci := 10) (v := .ref (ad 3)) (C := RX10) (T := TX10) (N := 37) hx hb hts hinX10 hown hK hP 0 rfl rfl 4 (by decide) hl_16 (fun _ h9 => h9) rfl dX10_personOf_19 ?_
      refine lv_iload_n hx hb dX10_personOf_22 rfl (lv_at hl 1 rfl) ?_
      obtain ⟨i_8, hm⟩ := ck_ok hm
      refine va_iald hx hb hK hP 2 0 rfl rfl i_8 dX10_personOf_23 ?_
      refine lv_goto (tgt := 61) hx hb dX10_personOf_24 (by decide) ?_
      obtain rfl := Option.some.inj hm
      subst hQ
      exact W.iret (v := (gMlates a1.toNatClampNeg)) hx hb hr (fun t ht hW => ⟨⟨_, (), rfl, rfl, by rw [ht]; exact hP, va_K.moved hW.alike hK, hAe ▸ hD⟩, hS.F ht⟩) hS.2.2 dX10_personOf_61
  · have hm := it_pos c_1 hm
    refine lv_aload_n hx hb dX10_personOf_4 rfl (lv_at hl 0 rfl) ?_
    refine va_get (D := (dC, dI)) (ci := 10) (v := .ref (ad 2)) (C := RX10) (T := TX10) (N := 37) hx hb hts hinX10 hown hK hP 0 rfl rfl 3 (by decide) hl_13 (fun _ h9 => h9) rfl dX10_personOf_5 ?_
    refine lv_iload_n hx hb dX10_personOf_8 rfl (lv_at hl 1 rfl) ?_
    obtain ⟨i_9, hm⟩ := ck_ok hm
    refine va_iald hx hb hK hP 1 0 rfl rfl i_9 dX10_personOf_9 ?_
    refine lv_goto (tgt := 61) hx hb dX10_personOf_10 (by decide) ?_
    obtain rfl := Option.some.inj hm
    subst hQ
    exact W.iret (v := (gMkinds a1.toNatClampNeg)) hx hb hr (fun t ht hW => ⟨⟨_, (), rfl, rfl, by rw [ht]; exact hP, va_K.moved hW.alike hK, hAe ▸ hD⟩, hS.F ht⟩) hS.2.2 dX10_personOf_61

set_option maxHeartbeats 4000000 in
set_option maxRecDepth 100000 in
theorem kM_person (l : Launch) (dC : Nat → ClassId) (dI : Nat → Nat → Nat) (cA : ClassId) (cB : ClassId) (ad : Nat → Nat) (sz : Nat) (a1 : Int32) (a2 : Int32) (xM_typed : Int32) (xM_people : Int32) (xM_posted : Int32) (xM_hears : Int32) (xM_censuses : Int32) (xM_finding : Int32) (gMtext : Nat → Int32) (gMkinds : Nat → Int32) (gMlates : Nat → Int32) (gMscarfs : Nat → Int32) (gMhands : Nat → Int32) (gMrings : Nat → Int32) (gMmains : Nat → Int32) (gMaheadOf : Nat → Int32) (gMlastIn : Nat → Int32) (gMmanyIn : Nat → Int32) (u : Int32 × Int32 × (Nat → Int32) × (Nat → Int32) × (Nat → Int32) × (Nat → Int32) × (Nat → Int32) × (Nat → Int32) × (Nat → Int32) × (Nat → Int32) × (Nat → Int32)) (hm : fM_person a1 a2 xM_typed xM_people gMtext gMkinds gMlates gMscarfs gMhands gMrings gMmains gMaheadOf gMlastIn gMmanyIn = some u) : Met l yX10_person wsX10_person ({ frames := 4, cells := 0, slots := 0, locals := 91 }) (va_Pc [.ref (ad 0), .int a1, .int a2] (fun U => U.heap.size = sz ∧ va_P (dC, dI) vwCl [oM ad xM_typed xM_people xM_posted xM_hears xM_censuses xM_finding, ar (ad 1) cA 60 gMtext, ar (ad 2) cA 20 gMkinds, ar (ad 3) cA 20 gMlates, ar (ad 4) cA 20 gMscarfs, ar (ad 5) cA 20 gMhands, ar (ad 6) cA 20 gMrings, ar (ad 7) cA 20 gMmains, ar (ad 8) cA 4 gMaheadOf, ar (ad 9) cA 4 gMlastIn, ar (ad 10) cA 4 gMmanyIn] U.heap ∧ va_K (dC, dI) vwCl [(cA, .int), (cB, .boolean)] U ∧ va_D (fun _ => True) [oM ad xM_typed xM_people xM_posted xM_hears xM_censuses xM_finding, ar (ad 1) cA 60 gMtext, ar (ad 2) cA 20 gMkinds, ar (ad 3) cA 20 gMlates, ar (ad 4) cA 20 gMscarfs, ar (ad 5) cA 20 gMhands, ar (ad 6) cA 20 gMrings, ar (ad 7) cA 20 gMmains, ar (ad 8) cA 4 gMaheadOf, ar (ad 9) cA 4 gMlastIn, ar (ad 10) cA 4 gMmanyIn])) (va_Qi (fun (r : Int32) (_ : Unit) => r = u.1) (fun (_ : Unit) t => va_P (dC, dI) vwCl [oM ad xM_typed u.2.1 xM_posted xM_hears xM_censuses xM_finding, ar (ad 1) cA 60 gMtext, ar (ad 2) cA 20 u.2.2.1, ar (ad 3) cA 20 u.2.2.2.1, ar (ad 4) cA 20 u.2.2.2.2.1, ar (ad 5) cA 20 u.2.2.2.2.2.1, ar (ad 6) cA 20 u.2.2.2.2.2.2.1, ar (ad 7) cA 20 u.2.2.2.2.2.2.2.1, ar (ad 8) cA 4 u.2.2.2.2.2.2.2.2.1, ar (ad 9) cA 4 u.2.2.2.2.2.2.2.2.2.1, ar (ad 10) cA 4 u.2.2.2.2.2.2.2.2.2.2] t.heap ∧ va_K (dC, dI) vwCl [(cA, .int), (cB, .boolean)] t ∧ va_D (va_A [oM ad xM_typed xM_people xM_posted xM_hears xM_censuses xM_finding, ar (ad 1) cA 60 gMtext, ar (ad 2) cA 20 gMkinds, ar (ad 3) cA 20 gMlates, ar (ad 4) cA 20 gMscarfs, ar (ad 5) cA 20 gMhands, ar (ad 6) cA 20 gMrings, ar (ad 7) cA 20 gMmains, ar (ad 8) cA 4 gMaheadOf, ar (ad 9) cA 4 gMlastIn, ar (ad 10) cA 4 gMmanyIn] sz) [oM ad xM_typed u.2.1 xM_posted xM_hears xM_censuses xM_finding, ar (ad 1) cA 60 gMtext, ar (ad 2) cA 20 u.2.2.1, ar (ad 3) cA 20 u.2.2.2.1, ar (ad 4) cA 20 u.2.2.2.2.1, ar (ad 5) cA 20 u.2.2.2.2.2.1, ar (ad 6) cA 20 u.2.2.2.2.2.2.1, ar (ad 7) cA 20 u.2.2.2.2.2.2.2.1, ar (ad 8) cA 4 u.2.2.2.2.2.2.2.2.1, ar (ad 9) cA 4 u.2.2.2.2.2.2.2.2.2.1, ar (ad 10) cA 4 u.2.2.2.2.2.2.2.2.2.2]) (va_A [oM ad xM_typed xM_people xM_posted xM_hears xM_censuses xM_finding, ar (ad 1) cA 60 gMtext, ar (ad 2) cA 20 gMkinds, ar (ad 3) cA 20 gMlates, ar (ad 4) cA 20 gMscarfs, ar (ad 5) cA 20 gMhands, ar (ad 6) cA 20 gMrings, ar (ad 7) cA 20 gMmains, ar (ad 8) cA 4 gMaheadOf, ar (ad 9) cA 4 gMlastIn, ar (ad 10) cA 4 gMmanyIn] sz)) 0 0 (va_A [oM ad xM_typed xM_people xM_posted xM_hears xM_censuses xM_finding, ar (ad 1) cA 60 gMtext, ar (ad 2) cA 20 gMkinds, ar (ad 3) cA 20 gMlates, ar (ad 4) cA 20 gMscarfs, ar (ad 5) cA 20 gMhands, ar (ad 6) cA 20 gMrings, ar (ad 7) cA 20 gMmains, ar (ad 8) cA 4 gMaheadOf, ar (ad 9) cA 4 gMlastIn, ar (ad 10) cA 4 gMmanyIn] sz) := by
  refine Met.ofW (cc := cX10_person) (maxL := 3) (ret := (some .int)) (by decide) rfl ?_
  intro p e s m args below meth c s₁ B hml hv
  obtain ⟨rfl, hsz, hP, hK, hD0⟩ := hv
  have hx := B.exec
  have hb := B.bytes
  have hr := B.returns
  have hts := atoms_spec (ws := wsX10_person) B.pre
  have hown : s.vm.findClass RX10 = some m.cls := findClass_of_methodNamed B.named
  have hlocks := B.notSynchronized
  subst hsz
  have hD := hD0.self (sz := s.heap.size)
  generalize hAe : va_A [oM ad xM_typed xM_people xM_posted xM_hears xM_censuses xM_finding, ar (ad 1) cA 60 gMtext, ar (ad 2) cA 20 gMkinds, ar (ad 3) cA 20 gMlates, ar (ad 4) cA 20 gMscarfs, ar (ad 5) cA 20 gMhands, ar (ad 6) cA 20 gMrings, ar (ad 7) cA 20 gMmains, ar (ad 8) cA 4 gMaheadOf, ar (ad 9) cA 4 gMlastIn, ar (ad 10) cA 4 gMmanyIn] s.heap.size = A at hD ⊢
  have hA : ∀ q : Nat, s.heap.size ≤ q → A q := fun q h => by rw [← hAe]; exact Or.inr h
  have hS : va_S A s.heap s.heap [] := va_S.rf
  have hl := lv_entry ([.ref (ad 0), .int a1, .int a2]) (n := 3) (Nat.le_of_ble_eq_true rfl)
  rw [lg_entry_eq]
  generalize (lg_sl ([.ref (ad 0), .int a1, .int a2]) ++ List.replicate (3 - (lg_sl ([.ref (ad 0), .int a1, .int a2])).length) Slot.unset).toArray = ls at hl ⊢
  have hl : lv_has ls 3 [(0, .ref (ad 0)), (1, .int a1), (2, .int a2)] := hl
  refine wk_Q (fun QQ hQ => ?_)
  unfold fM_person at hm
  refine lv_aload_n hx hb dX10_person_0 rfl (lv_at hl 0 rfl) ?_
  refine lv_iload_n hx hb dX10_person_1 rfl (lv_at hl 1 rfl) ?_
  have hPc := hP.sub (ws' := [oM ad xM_typed xM_people xM_posted xM_hears xM_censuses xM_finding, ar (ad 1) cA 60 gMtext, ar (ad 2) cA 20 gMkinds, ar (ad 3) cA 20 gMlates, ar (ad 4) cA 20 gMscarfs, ar (ad 5) cA 20 gMhands, ar (ad 6) cA 20 gMrings, ar (ad 7) cA 20 gMmains, ar (ad 8) cA 4 gMaheadOf, ar (ad 9) cA 4 gMlastIn, ar (ad 10) cA 4 gMmanyIn]) [0, 1, 2, 3, 4, 5, 6, 7, 8, 9, 10] rfl
  have hDc := hD.sub (ws' := [oM ad xM_typed xM_people xM_posted xM_hears xM_censuses xM_finding, ar (ad 1) cA 60 gMtext, ar (ad 2) cA 20 gMkinds, ar (ad 3) cA 20 gMlates, ar (ad 4) cA 20 gMscarfs, ar (ad 5) cA 20 gMhands, ar (ad 6) cA 20 gMrings, ar (ad 7) cA 20 gMmains, ar (ad 8) cA 4 gMaheadOf, ar (ad 9) cA 4 gMlastIn, ar (ad 10) cA 4 gMmanyIn]) [0, 1, 2, 3, 4, 5, 6, 7, 8, 9, 10] (by decide) rfl
  have hFc := va_free (wc := [oM ad xM_typed xM_people xM_posted xM_hears xM_censuses xM_finding, ar (ad 1) cA 60 gMtext, ar (ad 2) cA 20 gMkinds, ar (ad 3) cA 20 gMlates, ar (ad 4) cA 20 gMscarfs, ar (ad 5) cA 20 gMhands, ar (ad 6) cA 20 gMrings, ar (ad 7) cA 20 gMmains, ar (ad 8) cA 4 gMaheadOf, ar (ad 9) cA 4 gMlastIn, ar (ad 10) cA 4 gMmanyIn]) hD hS hA [0, 1, 2, 3, 4, 5, 6, 7, 8, 9, 10] rfl
  obtain ⟨u_1, hc_1, hm⟩ := bd_ok hm
  refine va_calli (va_runV (As := [.int a1]) (rest := []) ⟨hx, hb, hml, hown, hts⟩ (kM_isPerson l dC dI cA cB ad s.heap.size a1 xM_typed xM_people xM_posted xM_hears xM_censuses xM_finding gMtext gMkinds gMlates gMscarfs gMhands gMrings gMmains gMaheadOf gMlastIn gMmanyIn u_1 hc_1) (cwV 1 hts gX10_person_X10_isPerson rfl rfl rfl (by decide +kernel) ⟨Nat.le_of_ble_eq_true rfl, Nat.le_of_ble_eq_true rfl⟩) ⟨fun a U g mk q => by obtain ⟨q0, q1, qP, qK, qD⟩ := q; exact ⟨q0, q1, qP, va_K.moved (u := U) (U := U.calling g mk a) (Vm.Alike.refl U.vm) qK, qD⟩, va_recv hK hPc (ci := 10) (q0 := 0) rfl rfl, fun U hU hW => ⟨rfl, by rw [hU], by rw [hU]; exact hPc, va_K.moved hW.alike hK, hDc.weaken (fun _ _ _ _ => trivial)⟩⟩ rfl rfl hl.1 rfl (lv_room (Nat.le_of_ble_eq_true rfl)) dX10_person_2 ⟨Nat.le_of_ble_eq_true rfl, Nat.le_of_ble_eq_true rfl⟩) hS (fun q _ h => hFc q h) hFc (fun r_1 _ t H1 locs ht hvm hw hB hz1 hk1 hS => ?_)
  obtain ⟨hP1, hK1, hD1⟩ := hB
  rw [ht] at hP1
  obtain ⟨hP, hD⟩ := va_join (wr := []) (w1 := [oM ad xM_typed u_1.2.1 xM_posted xM_hears xM_censuses xM_finding, ar (ad 1) cA 60 gMtext, ar (ad 2) cA 20 u_1.2.2.1, ar (ad 3) cA 20 u_1.2.2.2.1, ar (ad 4) cA 20 u_1.2.2.2.2.1, ar (ad 5) cA 20 u_1.2.2.2.2.2.1, ar (ad 6) cA 20 u_1.2.2.2.2.2.2.1, ar (ad 7) cA 20 u_1.2.2.2.2.2.2.2.1, ar (ad 8) cA 4 u_1.2.2.2.2.2.2.2.2.1, ar (ad 9) cA 4 u_1.2.2.2.2.2.2.2.2.2.1, ar (ad 10) cA 4 u_1.2.2.2.2.2.2.2.2.2.2]) hP hD [0, 1, 2, 3, 4, 5, 6, 7, 8, 9, 10] [] rfl rfl (by decide) (by decide) hk1 hFc hP1 hD1
  clear hPc hDc hFc hP1 hK1 hD1 hk1 hz1 hvm ht
  generalize H1 = H at hP hS ⊢
  have hP : va_P (dC, dI) vwCl [oM ad xM_typed u_1.2.1 xM_posted xM_hears xM_censuses xM_finding, ar (ad 1) cA 60 gMtext, ar (ad 2) cA 20 u_1.2.2.1, ar (ad 3) cA 20 u_1.2.2.2.1, ar (ad 4) cA 20 u_1.2.2.2.2.1, ar (ad 5) cA 20 u_1.2.2.2.2.2.1, ar (ad 6) cA 20 u_1.2.2.2.2.2.2.1, ar (ad 7) cA 20 u_1.2.2.2.2.2.2.2.1, ar (ad 8) cA 4 u_1.2.2.2.2.2.2.2.2.1, ar (ad 9) cA 4 u_1.2.2.2.2.2.2.2.2.2.1, ar (ad 10) cA 4 u_1.2.2.2.2.2.2.2.2.2.2] H := hP
  have hD : va_D A [oM ad xM_typed u_1.2.1 xM_posted xM_hears xM_censuses xM_finding, ar (ad 1) cA 60 gMtext, ar (ad 2) cA 20 u_1.2.2.1, ar (ad 3) cA 20 u_1.2.2.2.1, ar (ad 4) cA 20 u_1.2.2.2.2.1, ar (ad 5) cA 20 u_1.2.2.2.2.2.1, ar (ad 6) cA 20 u_1.2.2.2.2.2.2.1, ar (ad 7) cA 20 u_1.2.2.2.2.2.2.2.1, ar (ad 8) cA 4 u_1.2.2.2.2.2.2.2.2.1, ar (ad 9) cA 4 u_1.2.2.2.2.2.2.2.2.2.1, ar (ad 10) cA 4 u_1.2.2.2.2.2.2.2.2.2.2] := hD
  have hw := hw.symm
  subst hw
  refine lv_if_eq (tgt := 26) hx hb dX10_person_5 (by decide) (fun c_2 => ?_) (fun c_2 => ?_)
  · have hm := it_pos c_2 hm
    refine lv_bipush (v := (-2)) hx hb dX10_person_26 (by decide) ?_
    obtain rfl := Option.some.inj hm
    subst hQ
    exact W.iret (v := (-2)) hx hb hr (fun t ht hW => ⟨⟨_, (), rfl, rfl, by rw [ht]; exact hP, va_K.moved hW.alike hK, hAe ▸ hD⟩, hS.F ht⟩) hS.2.2 dX10_person_28
  · have hm := it_neg c_2 hm
    refine lv_iload_n hx hb dX10_person_8 rfl (lv_at hl 2 rfl) ?_
    refine lv_iconst (v := 0) hx hb dX10_person_9 (by decide) ?_
    refine lv_iconst (v := 4) hx hb dX10_person_10 (by decide) ?_
    have hPc := hP.sub (ws' := []) [] rfl
    have hDc := hD.sub (ws' := []) [] (by decide) rfl
    have hFc := va_free (wc := []) hD hS hA [] rfl
    obtain ⟨u_3, hc_3, hm⟩ := bd_ok hm
    refine va_calli (va_runS (As := [.int a2, .int 0, .int 4]) (rest := []) ⟨hx, hb, hml, hown, hts⟩ (kM_in l dC dI cA cB ad H.size a2 0 4 u_3 hc_3) (va_cwS 3 hts gX10_person_X10_in rfl rfl rfl (by decide +kernel) ⟨Nat.le_of_ble_eq_true rfl, Nat.le_of_ble_eq_true rfl⟩) ⟨fun a U g mk q => by obtain ⟨q0, q1, qP, qK, qD⟩ := q; exact ⟨q0, q1, qP, va_K.moved (u := U) (U := U.calling g mk a) (Vm.Alike.refl U.vm) qK, qD⟩, fun U hU hW => ⟨rfl, by rw [hU], by rw [hU]; exact hPc, va_K.moved hW.alike hK, hDc.weaken (fun _ _ _ _ => trivial)⟩⟩ rfl rfl hl.1 rfl (lv_room (Nat.le_of_ble_eq_true rfl)) dX10_person_11 ⟨Nat.le_of_ble_eq_true rfl, Nat.le_of_ble_eq_true rfl⟩) hS (fun q _ h => hFc q h) hFc (fun r_3 _ t H1 locs ht hvm hw hB hz1 hk1 hS => ?_)
    obtain ⟨hP1, hK1, hD1⟩ := hB
    rw [ht] at hP1
    obtain ⟨hP, hD⟩ := va_join (wr := [oM ad xM_typed u_1.2.1 xM_posted xM_hears xM_censuses xM_finding, ar (ad 1) cA 60 gMtext, ar (ad 2) cA 20 u_1.2.2.1, ar (ad 3) cA 20 u_1.2.2.2.1, ar (ad 4) cA 20 u_1.2.2.2.2.1, ar (ad 5) cA 20 u_1.2.2.2.2.2.1, ar (ad 6) cA 20 u_1.2.2.2.2.2.2.1, ar (ad 7) cA 20 u_1.2.2.2.2.2.2.2.1, ar (ad 8) cA 4 u_1.2.2.2.2.2.2.2.2.1, ar (ad 9) cA 4 u_1.2.2.2.2.2.2.2.2.2.1, ar (ad 10) cA 4 u_1.2.2.2.2.2.2.2.2.2.2]) (w1 := []) hP hD [] [0, 1, 2, 3, 4, 5, 6, 7, 8, 9, 10] rfl rfl (by decide) (by decide) hk1 hFc hP1 hD1
    clear hPc hDc hFc hP1 hK1 hD1 hk1 hz1 hvm ht
    generalize H1 = H at hP hS ⊢
    have hP : va_P (dC, dI) vwCl [oM ad xM_typed u_1.2.1 xM_posted xM_hears xM_censuses xM_finding, ar (ad 1) cA 60 gMtext, ar (ad 2) cA 20 u_1.2.2.1, ar (ad 3) cA 20 u_1.2.2.2.1, ar (ad 4) cA 20 u_1.2.2.2.2.1, ar (ad 5) cA 20 u_1.2.2.2.2.2.1, ar (ad 6) cA 20 u_1.2.2.2.2.2.2.1, ar (ad 7) cA 20 u_1.2.2.2.2.2.2.2.1, ar (ad 8) cA 4 u_1.2.2.2.2.2.2.2.2.1, ar (ad 9) cA 4 u_1.2.2.2.2.2.2.2.2.2.1, ar (ad 10) cA 4 u_1.2.2.2.2.2.2.2.2.2.2] H := hP
    have hD : va_D A [oM ad xM_typed u_1.2.1 xM_posted xM_hears xM_censuses xM_finding, ar (ad 1) cA 60 gMtext, ar (ad 2) cA 20 u_1.2.2.1, ar (ad 3) cA 20 u_1.2.2.2.1, ar (ad 4) cA 20 u_1.2.2.2.2.1, ar (ad 5) cA 20 u_1.2.2.2.2.2.1, ar (ad 6) cA 20 u_1.2.2.2.2.2.2.1, ar (ad 7) cA 20 u_1.2.2.2.2.2.2.2.1, ar (ad 8) cA 4 u_1.2.2.2.2.2.2.2.2.1, ar (ad 9) cA 4 u_1.2.2.2.2.2.2.2.2.2.1, ar (ad 10) cA 4 u_1.2.2.2.2.2.2.2.2.2.2] := hD
    have hw := hw.symm
    subst hw
    refine lv_if_eq (tgt := 26) hx hb dX10_person_14 (by decide) (fun c_4 => ?_) (fun c_4 => ?_)
    · have hm := it_pos c_4 hm
      refine lv_bipush (v := (-2)) hx hb dX10_person_26 (by decide) ?_
      obtain rfl := Option.some.inj hm
      subst hQ
      exact W.iret (v := (-2)) hx hb hr (fun t ht hW => ⟨⟨_, (), rfl, rfl, by rw [ht]; exact hP, va_K.moved hW.alike hK, hAe ▸ hD⟩, hS.F ht⟩) hS.2.2 dX10_person_28
    · have hm := it_neg c_4 hm
      refine lv_aload_n hx hb dX10_person_17 rfl (lv_at hl 0 rfl) ?_
      refine lv_iload_n hx hb dX10_person_18 rfl (lv_at hl 1 rfl) ?_
      refine lv_iload_n hx hb dX10_person_19 rfl (lv_at hl 2 rfl) ?_
      have hPc := hP.sub (ws' := [oM ad xM_typed u_1.2.1 xM_posted xM_hears xM_censuses xM_finding, ar (ad 2) cA 20 u_1.2.2.1, ar (ad 3) cA 20 u_1.2.2.2.1, ar (ad 4) cA 20 u_1.2.2.2.2.1, ar (ad 5) cA 20 u_1.2.2.2.2.2.1, ar (ad 7) cA 20 u_1.2.2.2.2.2.2.2.1]) [0, 2, 3, 4, 5, 7] rfl
      have hDc := hD.sub (ws' := [oM ad xM_typed u_1.2.1 xM_posted xM_hears xM_censuses xM_finding, ar (ad 2) cA 20 u_1.2.2.1, ar (ad 3) cA 20 u_1.2.2.2.1, ar (ad 4) cA 20 u_1.2.2.2.2.1, ar (ad 5) cA 20 u_1.2.2.2.2.2.1, ar (ad 7) cA 20 u_1.2.2.2.2.2.2.2.1]) [0, 2, 3, 4, 5, 7] (by decide) rfl
      have hFc := va_free (wc := [oM ad xM_typed u_1.2.1 xM_posted xM_hears xM_censuses xM_finding, ar (ad 2) cA 20 u_1.2.2.1, ar (ad 3) cA 20 u_1.2.2.2.1, ar (ad 4) cA 20 u_1.2.2.2.2.1, ar (ad 5) cA 20 u_1.2.2.2.2.2.1, ar (ad 7) cA 20 u_1.2.2.2.2.2.2.2.1]) hD hS hA [0, 2, 3, 4, 5, 7] rfl
      obtain ⟨u_5, hc_5, hm⟩ := bd_ok hm
      refine va_calli (va_runV (As := [.int a1, .int a2]) (rest := []) ⟨hx, hb, hml, hown, hts⟩ (kM_personOf l dC dI cA cB ad H.size a1 a2 xM_typed u_1.2.1 xM_posted xM_hears xM_censuses xM_finding u_1.2.2.1 u_1.2.2.2.1 u_1.2.2.2.2.1 u_1.2.2.2.2.2.1 u_1.2.2.2.2.2.2.2.1 u_5 hc_5) (cwV 2 hts gX10_person_X10_personOf rfl rfl rfl (by decide +kernel) ⟨Nat.le_of_ble_eq_true rfl, Nat.le_of_ble_eq_true rfl⟩) ⟨fun a U g mk q => by obtain ⟨q0, q1, qP, qK, qD⟩ := q; exact ⟨q0, q1, qP, va_K.moved (u := U) (U := U.calling g mk a) (Vm.Alike.refl U.vm) qK, qD⟩, va_recv hK hPc (ci := 10) (q0 := 0) rfl rfl, fun U hU hW => ⟨rfl, by rw [hU], by rw [hU]; exact hPc, va_K.moved hW.alike hK, hDc.weaken (fun _ _ _ _ => trivial)⟩⟩ rfl rfl hl.1 rfl (lv_room (Nat.le_of_ble_eq_true rfl)) dX10_person_20 ⟨Nat.le_of_ble_eq_true rfl, Nat.le_of_ble_eq_true rfl⟩) hS (fun q _ h => hFc q h) hFc (fun r_5 _ t H1 locs ht hvm hw hB hz1 hk1 hS => ?_)
      obtain ⟨hP1, hK1, hD1⟩ := hB
      rw [ht] at hP1
      obtain ⟨hP, hD⟩ := va_join (wr := [ar (ad 1) cA 60 gMtext, ar (ad 6) cA 20 u_1.2.2.2.2.2.2.1, ar (ad 8) cA 4 u_1.2.2.2.2.2.2.2.2.1, ar (ad 9) cA 4 u_1.2.2.2.2.2.2.2.2.2.1, ar (ad 10) cA 4 u_1.2.2.2.2.2.2.2.2.2.2]) (w1 := [oM ad xM_typed u_1.2.1 xM_posted xM_hears xM_censuses xM_finding, ar (ad 2) cA 20 u_1.2.2.1, ar (ad 3) cA 20 u_1.2.2.2.1, ar (ad 4) cA 20 u_1.2.2.2.2.1, ar (ad 5) cA 20 u_1.2.2.2.2.2.1, ar (ad 7) cA 20 u_1.2.2.2.2.2.2.2.1]) hP hD [0, 2, 3, 4, 5, 7] [1, 6, 8, 9, 10] rfl rfl (by decide) (by decide) hk1 hFc hP1 hD1
      clear hPc hDc hFc hP1 hK1 hD1 hk1 hz1 hvm ht
      generalize H1 = H at hP hS ⊢
      have hP : va_P (dC, dI) vwCl [oM ad xM_typed u_1.2.1 xM_posted xM_hears xM_censuses xM_finding, ar (ad 1) cA 60 gMtext, ar (ad 2) cA 20 u_1.2.2.1, ar (ad 3) cA 20 u_1.2.2.2.1, ar (ad 4) cA 20 u_1.2.2.2.2.1, ar (ad 5) cA 20 u_1.2.2.2.2.2.1, ar (ad 6) cA 20 u_1.2.2.2.2.2.2.1, ar (ad 7) cA 20 u_1.2.2.2.2.2.2.2.1, ar (ad 8) cA 4 u_1.2.2.2.2.2.2.2.2.1, ar (ad 9) cA 4 u_1.2.2.2.2.2.2.2.2.2.1, ar (ad 10) cA 4 u_1.2.2.2.2.2.2.2.2.2.2] H := hP.sub [5, 0, 6, 7, 8, 9, 1, 10, 2, 3, 4] rfl
      have hD : va_D A [oM ad xM_typed u_1.2.1 xM_posted xM_hears xM_censuses xM_finding, ar (ad 1) cA 60 gMtext, ar (ad 2) cA 20 u_1.2.2.1, ar (ad 3) cA 20 u_1.2.2.2.1, ar (ad 4) cA 20 u_1.2.2.2.2.1, ar (ad 5) cA 20 u_1.2.2.2.2.2.1, ar (ad 6) cA 20 u_1.2.2.2.2.2.2.1, ar (ad 7) cA 20 u_1.2.2.2.2.2.2.2.1, ar (ad 8) cA 4 u_1.2.2.2.2.2.2.2.2.1, ar (ad 9) cA 4 u_1.2.2.2.2.2.2.2.2.2.1, ar (ad 10) cA 4 u_1.2.2.2.2.2.2.2.2.2.2] := hD.sub [5, 0, 6, 7, 8, 9, 1, 10, 2, 3, 4] (by decide) rfl
      have hw := hw.symm
      subst hw
      refine lv_goto (tgt := 28) hx hb dX10_person_23 (by decide) ?_
      obtain rfl := Option.some.inj hm
      subst hQ
      exact W.iret (v := u_5) hx hb hr (fun t ht hW => ⟨⟨_, (), rfl, rfl, by rw [ht]; exact hP, va_K.moved hW.alike hK, hAe ▸ hD⟩, hS.F ht⟩) hS.2.2 dX10_person_28

set_option maxHeartbeats 4000000 in
set_option maxRecDepth 100000 in
theorem kM_set (l : Launch) (dC : Nat → ClassId) (dI : Nat → Nat → Nat) (cA : ClassId) (cB : ClassId) (ad : Nat → Nat) (sz : Nat) (a1 : Int32) (a2 : Int32) (xM_typed : Int32) (xM_people : Int32) (xM_posted : Int32) (xM_hears : Int32) (xM_censuses : Int32) (xM_finding : Int32) (gMsetting : Nat → Int32) (u : Int32 × (Nat → Int32)) (hm : fM_set a1 a2 gMsetting = some u) : Met l yX10_set wsX10_set ({ frames := 1, cells := 0, slots := 0, locals := 22 }) (va_Pc [.ref (ad 0), .int a1, .int a2] (fun U => U.heap.size = sz ∧ va_P (dC, dI) vwCl [oM ad xM_typed xM_people xM_posted xM_hears xM_censuses xM_finding, ar (ad 11) cA 3 gMsetting] U.heap ∧ va_K (dC, dI) vwCl [(cA, .int), (cB, .boolean)] U ∧ va_D (fun _ => True) [oM ad xM_typed xM_people xM_posted xM_hears xM_censuses xM_finding, ar (ad 11) cA 3 gMsetting])) (va_Qi (fun (r : Int32) (_ : Unit) => r = u.1) (fun (_ : Unit) t => va_P (dC, dI) vwCl [oM ad xM_typed xM_people xM_posted xM_hears xM_censuses xM_finding, ar (ad 11) cA 3 u.2] t.heap ∧ va_K (dC, dI) vwCl [(cA, .int), (cB, .boolean)] t ∧ va_D (va_A [oM ad xM_typed xM_people xM_posted xM_hears xM_censuses xM_finding, ar (ad 11) cA 3 gMsetting] sz) [oM ad xM_typed xM_people xM_posted xM_hears xM_censuses xM_finding, ar (ad 11) cA 3 u.2]) (va_A [oM ad xM_typed xM_people xM_posted xM_hears xM_censuses xM_finding, ar (ad 11) cA 3 gMsetting] sz)) 0 0 (va_A [oM ad xM_typed xM_people xM_posted xM_hears xM_censuses xM_finding, ar (ad 11) cA 3 gMsetting] sz) := by
  refine Met.ofW (cc := cX10_set) (maxL := 4) (ret := (some .int)) (by decide) rfl ?_
  intro p e s m args below meth c s₁ B hml hv
  obtain ⟨rfl, hsz, hP, hK, hD0⟩ := hv
  have hx := B.exec
  have hb := B.bytes
  have hr := B.returns
  have hts := atoms_spec (ws := wsX10_set) B.pre
  have hown : s.vm.findClass RX10 = some m.cls := findClass_of_methodNamed B.named
  have hlocks := B.notSynchronized
  subst hsz
  have hD := hD0.self (sz := s.heap.size)
  generalize hAe : va_A [oM ad xM_typed xM_people xM_posted xM_hears xM_censuses xM_finding, ar (ad 11) cA 3 gMsetting] s.heap.size = A at hD ⊢
  have hA : ∀ q : Nat, s.heap.size ≤ q → A q := fun q h => by rw [← hAe]; exact Or.inr h
  have hS : va_S A s.heap s.heap [] := va_S.rf
  have hl := lv_entry ([.ref (ad 0), .int a1, .int a2]) (n := 4) (Nat.le_of_ble_eq_true rfl)
  rw [lg_entry_eq]
  generalize (lg_sl ([.ref (ad 0), .int a1, .int a2]) ++ List.replicate (4 - (lg_sl ([.ref (ad 0), .int a1, .int a2])).length) Slot.unset).toArray = ls at hl ⊢
  have hl : lv_has ls 4 [(0, .ref (ad 0)), (1, .int a1), (2, .int a2)] := hl
  refine wk_Q (fun QQ hQ => ?_)
  have hinX10 : ∀ w ∈ wsX100, w ∈ wsX10_set := fun w h => List.mem_cons_of_mem _ (inlX10 w h)
  have hl_40 := hts (.fieldLink RX10 40 "HandCensusModel" "setting" "[I") (List.mem_cons_of_mem _ (in_r7 _ (List.mem_of_getElem? (i := 5) rfl)))
  have b_32 : ∀ (v1_32 : Int32) (v2_32 : Int32) (s0_32 : Int32) (s1_32 : Int32) (s2_32 : Int32) (gMsetting_32 : Nat → Int32), fM_set_32 v1_32 v2_32 s0_32 s1_32 s2_32 gMsetting_32 = some u → ∀ (H : Heap) (locs : List Loc), va_P (dC, dI) vwCl [oM ad xM_typed xM_people xM_posted xM_hears xM_censuses xM_finding, ar (ad 11) cA 3 gMsetting_32] H → va_D A [oM ad xM_typed xM_people xM_posted xM_hears xM_censuses xM_finding, ar (ad 11) cA 3 gMsetting_32] → va_S A s.heap H locs → ∀ ls : Array Slot, lv_has ls 4 [(0, .ref (ad 0)), (1, .int v1_32), (2, .int v2_32)] → W p l e (headSpec wsX10_set ({ frames := 1, cells := 0, slots := 0, locals := 22 })).room s m ([.ref (ad 0), .int a1, .int a2] : List Value).toArray below meth c H locs 0 0 QQ (F0 m 32 ls [.int s2_32, .int s1_32, .int s0_32]) := by
    intro v1_32 v2_32 s0_32 s1_32 s2_32 gMsetting_32 hm H locs hP hD hS ls hl
    unfold fM_set_32 at hm
    have hPc := hP.sub (ws' := []) [] rfl
    have hDc := hD.sub (ws' := []) [] (by decide) rfl
    have hFc := va_free (wc := []) hD hS hA [] rfl
    obtain ⟨u_1, hc_1, hm⟩ := bd_ok hm
    refine va_calli (va_runS (As := [.int s0_32, .int s1_32, .int s2_32]) (rest := []) ⟨hx, hb, hml, hown, hts⟩ (kM_in l dC dI cA cB ad H.size s0_32 s1_32 s2_32 u_1 hc_1) (va_cwS 3 hts gX10_set_X10_in rfl rfl rfl (by decide +kernel) ⟨Nat.le_of_ble_eq_true rfl, Nat.le_of_ble_eq_true rfl⟩) ⟨fun a U g mk q => by obtain ⟨q0, q1, qP, qK, qD⟩ := q; exact ⟨q0, q1, qP, va_K.moved (u := U) (U := U.calling g mk a) (Vm.Alike.refl U.vm) qK, qD⟩, fun U hU hW => ⟨rfl, by rw [hU], by rw [hU]; exact hPc, va_K.moved hW.alike hK, hDc.weaken (fun _ _ _ _ => trivial)⟩⟩ rfl rfl hl.1 rfl (lv_room (Nat.le_of_ble_eq_true rfl)) dX10_set_32 ⟨Nat.le_of_ble_eq_true rfl, Nat.le_of_ble_eq_true rfl⟩) hS (fun q _ h => hFc q h) hFc (fun r_1 _ t H1 locs ht hvm hw hB hz1 hk1 hS => ?_)
    obtain ⟨hP1, hK1, hD1⟩ := hB
    rw [ht] at hP1
    obtain ⟨hP, hD⟩ := va_join (wr := [oM ad xM_typed xM_people xM_posted xM_hears xM_censuses xM_finding, ar (ad 11) cA 3 gMsetting_32]) (w1 := []) hP hD [] [0, 1] rfl rfl (by decide) (by decide) hk1 hFc hP1 hD1
    clear hPc hDc hFc hP1 hK1 hD1 hk1 hz1 hvm ht
    generalize H1 = H at hP hS ⊢
    have hP : va_P (dC, dI) vwCl [oM ad xM_typed xM_people xM_posted xM_hears xM_censuses xM_finding, ar (ad 11) cA 3 gMsetting_32] H := hP
    have hD : va_D A [oM ad xM_typed xM_people xM_posted xM_hears xM_censuses xM_finding, ar (ad 11) cA 3 gMsetting_32] := hD
    have hw := hw.symm
    subst hw
    refine lv_if_ne (tgt := 41) hx hb dX10_set_35 (by decide) (fun c_2 => ?_) (fun c_2 => ?_)
    · have hm := it_neg c_2 hm
      refine lv_aload_n hx hb dX10_set_41 rfl (lv_at hl 0 rfl) ?_
      refine va_get (D := (dC, dI)) (ci := 10) (v := .ref (ad 11)) (C := RX10) (T := TX10) (N := 37) hx hb hts hinX10 hown hK hP 0 rfl rfl 12 (by decide) hl_40 (fun _ h9 => h9) rfl dX10_set_42 ?_
      refine lv_iload_n hx hb dX10_set_45 rfl (lv_at hl 1 rfl) ?_
      obtain ⟨i_3, hm⟩ := ck_ok hm
      refine va_iald hx hb hK hP 1 0 rfl rfl i_3 dX10_set_46 ?_
      refine lv_istore_n (lv' := [(3, .int (gMsetting_32 v1_32.toNatClampNeg)), (0, .ref (ad 0)), (1, .int v1_32), (2, .int v2_32)]) hx hb dX10_set_47 rfl hl (by decide) rfl (fun ls hl => ?_)
      refine lv_aload_n hx hb dX10_set_48 rfl (lv_at hl 1 rfl) ?_
      refine va_get (D := (dC, dI)) (ci := 10) (v := .ref (ad 11)) (C := RX10) (T := TX10) (N := 37) hx hb hts hinX10 hown hK hP 0 rfl rfl 12 (by decide) hl_40 (fun _ h9 => h9) rfl dX10_set_49 ?_
      refine lv_iload_n hx hb dX10_set_52 rfl (lv_at hl 2 rfl) ?_
      refine lv_iload_n hx hb dX10_set_53 rfl (lv_at hl 3 rfl) ?_
      obtain ⟨i_4, hm⟩ := ck_ok hm
      refine va_iast hx hb hK hP hD hS 1 0 rfl rfl i_4 dX10_set_54 (fun H locs hP hD hS => ?_)
      have hP : va_P (dC, dI) vwCl [oM ad xM_typed xM_people xM_posted xM_hears xM_censuses xM_finding, ar (ad 11) cA 3 (upd gMsetting_32 v1_32.toNatClampNeg v2_32)] H := hP
      have hD : va_D A [oM ad xM_typed xM_people xM_posted xM_hears xM_censuses xM_finding, ar (ad 11) cA 3 (upd gMsetting_32 v1_32.toNatClampNeg v2_32)] := hD
      refine lv_iload_n hx hb dX10_set_55 rfl (lv_at hl 0 rfl) ?_
      obtain rfl := Option.some.inj hm
      subst hQ
      exact W.iret (v := (gMsetting_32 v1_32.toNatClampNeg)) hx hb hr (fun t ht hW => ⟨⟨_, (), rfl, rfl, by rw [ht]; exact hP, va_K.moved hW.alike hK, hAe ▸ hD⟩, hS.F ht⟩) hS.2.2 dX10_set_56
    · have hm := it_pos c_2 hm
      refine lv_bipush (v := (-5)) hx hb dX10_set_38 (by decide) ?_
      obtain rfl := Option.some.inj hm
      subst hQ
      exact W.iret (v := (-5)) hx hb hr (fun t ht hW => ⟨⟨_, (), rfl, rfl, by rw [ht]; exact hP, va_K.moved hW.alike hK, hAe ▸ hD⟩, hS.F ht⟩) hS.2.2 dX10_set_40
  have b_20 : ∀ (v1_20 : Int32) (v2_20 : Int32) (s0_20 : Int32) (s1_20 : Int32) (gMsetting_20 : Nat → Int32), fM_set_20 v1_20 v2_20 s0_20 s1_20 gMsetting_20 = some u → ∀ (H : Heap) (locs : List Loc), va_P (dC, dI) vwCl [oM ad xM_typed xM_people xM_posted xM_hears xM_censuses xM_finding, ar (ad 11) cA 3 gMsetting_20] H → va_D A [oM ad xM_typed xM_people xM_posted xM_hears xM_censuses xM_finding, ar (ad 11) cA 3 gMsetting_20] → va_S A s.heap H locs → ∀ ls : Array Slot, lv_has ls 4 [(0, .ref (ad 0)), (1, .int v1_20), (2, .int v2_20)] → W p l e (headSpec wsX10_set ({ frames := 1, cells := 0, slots := 0, locals := 22 })).room s m ([.ref (ad 0), .int a1, .int a2] : List Value).toArray below meth c H locs 0 0 QQ (F0 m 20 ls [.int s1_20, .int s0_20]) := by
    intro v1_20 v2_20 s0_20 s1_20 gMsetting_20 hm H locs hP hD hS ls hl
    unfold fM_set_20 at hm
    refine lv_iload_n hx hb dX10_set_20 rfl (lv_at hl 1 rfl) ?_
    refine lv_iconst (v := 2) hx hb dX10_set_21 (by decide) ?_
    refine lv_icmp_ne (tgt := 30) hx hb dX10_set_22 (by decide) (fun c_5 => ?_) (fun c_5 => ?_)
    · have hm := it_neg c_5 hm
      refine lv_bipush (v := 19) hx hb dX10_set_30 (by decide) ?_
      exact b_32 _ _ _ _ _ _ hm _ _ hP hD hS _ (lv_sub hl [0, 1, 2] rfl)
    · have hm := it_pos c_5 hm
      refine lv_bipush (v := 99) hx hb dX10_set_25 (by decide) ?_
      refine lv_goto (tgt := 32) hx hb dX10_set_27 (by decide) ?_
      exact b_32 _ _ _ _ _ _ hm _ _ hP hD hS _ (lv_sub hl [0, 1, 2] rfl)
  unfold fM_set at hm
  refine lv_iload_n hx hb dX10_set_0 rfl (lv_at hl 1 rfl) ?_
  refine lv_iconst (v := 0) hx hb dX10_set_1 (by decide) ?_
  refine lv_iconst (v := 2) hx hb dX10_set_2 (by decide) ?_
  have hPc := hP.sub (ws' := []) [] rfl
  have hDc := hD.sub (ws' := []) [] (by decide) rfl
  have hFc := va_free (wc := []) hD hS hA [] rfl
  obtain ⟨u_6, hc_6, hm⟩ := bd_ok hm
  refine va_calli (va_runS (As := [.int a1, .int 0, .int 2]) (rest := []) ⟨hx, hb, hml, hown, hts⟩ (kM_in l dC dI cA cB ad s.heap.size a1 0 2 u_6 hc_6) (va_cwS 3 hts gX10_set_X10_in rfl rfl rfl (by decide +kernel) ⟨Nat.le_of_ble_eq_true rfl, Nat.le_of_ble_eq_true rfl⟩) ⟨fun a U g mk q => by obtain ⟨q0, q1, qP, qK, qD⟩ := q; exact ⟨q0, q1, qP, va_K.moved (u := U) (U := U.calling g mk a) (Vm.Alike.refl U.vm) qK, qD⟩, fun U hU hW => ⟨rfl, by rw [hU], by rw [hU]; exact hPc, va_K.moved hW.alike hK, hDc.weaken (fun _ _ _ _ => trivial)⟩⟩ rfl rfl hl.1 rfl (lv_room (Nat.le_of_ble_eq_true rfl)) dX10_set_3 ⟨Nat.le_of_ble_eq_true rfl, Nat.le_of_ble_eq_true rfl⟩) hS (fun q _ h => hFc q h) hFc (fun r_6 _ t H1 locs ht hvm hw hB hz1 hk1 hS => ?_)
  obtain ⟨hP1, hK1, hD1⟩ := hB
  rw [ht] at hP1
  obtain ⟨hP, hD⟩ := va_join (wr := [oM ad xM_typed xM_people xM_posted xM_hears xM_censuses xM_finding, ar (ad 11) cA 3 gMsetting]) (w1 := []) hP hD [] [0, 1] rfl rfl (by decide) (by decide) hk1 hFc hP1 hD1
  clear hPc hDc hFc hP1 hK1 hD1 hk1 hz1 hvm ht
  generalize H1 = H at hP hS ⊢
  have hP : va_P (dC, dI) vwCl [oM ad xM_typed xM_people xM_posted xM_hears xM_censuses xM_finding, ar (ad 11) cA 3 gMsetting] H := hP
  have hD : va_D A [oM ad xM_typed xM_people xM_posted xM_hears xM_censuses xM_finding, ar (ad 11) cA 3 gMsetting] := hD
  have hw := hw.symm
  subst hw
  refine lv_if_eq (tgt := 38) hx hb dX10_set_6 (by decide) (fun c_7 => ?_) (fun c_7 => ?_)
  · have hm := it_pos c_7 hm
    refine lv_bipush (v := (-5)) hx hb dX10_set_38 (by decide) ?_
    obtain rfl := Option.some.inj hm
    subst hQ
    exact W.iret (v := (-5)) hx hb hr (fun t ht hW => ⟨⟨_, (), rfl, rfl, by rw [ht]; exact hP, va_K.moved hW.alike hK, hAe ▸ hD⟩, hS.F ht⟩) hS.2.2 dX10_set_40
  · have hm := it_neg c_7 hm
    refine lv_iload_n hx hb dX10_set_9 rfl (lv_at hl 2 rfl) ?_
    refine lv_iload_n hx hb dX10_set_10 rfl (lv_at hl 1 rfl) ?_
    refine lv_iconst (v := 1) hx hb dX10_set_11 (by decide) ?_
    refine lv_icmp_ne (tgt := 19) hx hb dX10_set_12 (by decide) (fun c_8 => ?_) (fun c_8 => ?_)
    · have hm := it_neg c_8 hm
      refine lv_iconst (v := 0) hx hb dX10_set_19 (by decide) ?_
      exact b_20 _ _ _ _ _ hm _ _ hP hD hS _ (lv_sub hl [0, 1, 2] rfl)
    · have hm := it_pos c_8 hm
      refine lv_iconst (v := (-1)) hx hb dX10_set_15 (by decide) ?_
      refine lv_goto (tgt := 20) hx hb dX10_set_16 (by decide) ?_
      exact b_20 _ _ _ _ _ hm _ _ hP hD hS _ (lv_sub hl [0, 1, 2] rfl)

set_option maxHeartbeats 4000000 in
set_option maxRecDepth 100000 in
theorem kM_passes (l : Launch) (dC : Nat → ClassId) (dI : Nat → Nat → Nat) (cA : ClassId) (cB : ClassId) (ad : Nat → Nat) (sz : Nat) (a1 : Int32) (a2 : Int32) (a3 : Int32) (xM_typed : Int32) (xM_people : Int32) (xM_posted : Int32) (xM_hears : Int32) (xM_censuses : Int32) (xM_finding : Int32) (gMscarfs : Nat → Int32) (gMhands : Nat → Int32) (gMrings : Nat → Int32) (gMcomes : Nat → Int32) (u : (Nat → Int32)) (hm : fM_passes a1 a2 a3 xM_people gMscarfs gMhands gMrings gMcomes = some u) : Met l yX10_passes wsX10_passes ({ frames := 1, cells := 0, slots := 0, locals := 21 }) (va_Pc [.ref (ad 0), .int a1, .int a2, .int a3] (fun U => U.heap.size = sz ∧ va_P (dC, dI) vwCl [oM ad xM_typed xM_people xM_posted xM_hears xM_censuses xM_finding, ar (ad 4) cA 20 gMscarfs, ar (ad 5) cA 20 gMhands, ar (ad 6) cA 20 gMrings, ar (ad 13) cA 8020 gMcomes] U.heap ∧ va_K (dC, dI) vwCl [(cA, .int), (cB, .boolean)] U ∧ va_D (fun _ => True) [oM ad xM_typed xM_people xM_posted xM_hears xM_censuses xM_finding, ar (ad 4) cA 20 gMscarfs, ar (ad 5) cA 20 gMhands, ar (ad 6) cA 20 gMrings, ar (ad 13) cA 8020 gMcomes])) (va_Qv (fun (_ : Unit) => True) (fun (_ : Unit) t => va_P (dC, dI) vwCl [oM ad xM_typed xM_people xM_posted xM_hears xM_censuses xM_finding, ar (ad 4) cA 20 gMscarfs, ar (ad 5) cA 20 gMhands, ar (ad 6) cA 20 gMrings, ar (ad 13) cA 8020 u] t.heap ∧ va_K (dC, dI) vwCl [(cA, .int), (cB, .boolean)] t ∧ va_D (va_A [oM ad xM_typed xM_people xM_posted xM_hears xM_censuses xM_finding, ar (ad 4) cA 20 gMscarfs, ar (ad 5) cA 20 gMhands, ar (ad 6) cA 20 gMrings, ar (ad 13) cA 8020 gMcomes] sz) [oM ad xM_typed xM_people xM_posted xM_hears xM_censuses xM_finding, ar (ad 4) cA 20 gMscarfs, ar (ad 5) cA 20 gMhands, ar (ad 6) cA 20 gMrings, ar (ad 13) cA 8020 u]) (va_A [oM ad xM_typed xM_people xM_posted xM_hears xM_censuses xM_finding, ar (ad 4) cA 20 gMscarfs, ar (ad 5) cA 20 gMhands, ar (ad 6) cA 20 gMrings, ar (ad 13) cA 8020 gMcomes] sz)) 0 0 (va_A [oM ad xM_typed xM_people xM_posted xM_hears xM_censuses xM_finding, ar (ad 4) cA 20 gMscarfs, ar (ad 5) cA 20 gMhands, ar (ad 6) cA 20 gMrings, ar (ad 13) cA 8020 gMcomes] sz) := by
  refine Met.ofW (cc := cX10_passes) (maxL := 7) (ret := none) (by decide) rfl ?_
  intro p e s m args below meth c s₁ B hml hv
  obtain ⟨rfl, hsz, hP, hK, hD0⟩ := hv
  have hx := B.exec
  have hb := B.bytes
  have hr := B.returns
  have hts := atoms_spec (ws := wsX10_passes) B.pre
  have hown : s.vm.findClass RX10 = some m.cls := findClass_of_methodNamed B.named
  have hlocks := B.notSynchronized
  subst hsz
  have hD := hD0.self (sz := s.heap.size)
  generalize hAe : va_A [oM ad xM_typed xM_people xM_posted xM_hears xM_censuses xM_finding, ar (ad 4) cA 20 gMscarfs, ar (ad 5) cA 20 gMhands, ar (ad 6) cA 20 gMrings, ar (ad 13) cA 8020 gMcomes] s.heap.size = A at hD ⊢
  have hA : ∀ q : Nat, s.heap.size ≤ q → A q := fun q h => by rw [← hAe]; exact Or.inr h
  have hS : va_S A s.heap s.heap [] := va_S.rf
  have hl := lv_entry ([.ref (ad 0), .int a1, .int a2, .int a3]) (n := 7) (Nat.le_of_ble_eq_true rfl)
  rw [lg_entry_eq]
  generalize (lg_sl ([.ref (ad 0), .int a1, .int a2, .int a3]) ++ List.replicate (7 - (lg_sl ([.ref (ad 0), .int a1, .int a2, .int a3])).length) Slot.unset).toArray = ls at hl ⊢
  have hl : lv_has ls 7 [(0, .ref (ad 0)), (1, .int a1), (2, .int a2), (3, .int a3)] := hl
  refine wk_Q (fun QQ hQ => ?_)
  have hinX10 : ∀ w ∈ wsX100, w ∈ wsX10_passes := fun w h => List.mem_cons_of_mem _ (inlX10 w h)
  have hl_46 := hts (.fieldLink RX10 46 "HandCensusModel" "comes" "[I") (List.mem_cons_of_mem _ (in_r7 _ (List.mem_of_getElem? (i := 7) rfl)))
  have hl_19 := hts (.fieldLink RX10 19 "HandCensusModel" "scarfs" "[I") (List.mem_cons_of_mem _ (in_r6 _ (List.mem_of_getElem? (i := 22) rfl)))
  have hl_25 := hts (.fieldLink RX10 25 "HandCensusModel" "rings" "[I") (List.mem_cons_of_mem _ (in_r7 _ (List.mem_of_getElem? (i := 0) rfl)))
  have hl_112 := hts (.fieldLink RX10 112 "HandCensusModel" "people" "I") (List.mem_cons_of_mem _ (in_r12 _ (List.mem_of_getElem? (i := 4) rfl)))
  have hl_22 := hts (.fieldLink RX10 22 "HandCensusModel" "hands" "[I") (List.mem_cons_of_mem _ (in_r6 _ (List.mem_of_getElem? (i := 23) rfl)))
  have h_3 : ∀ (v1_3 : Int32) (v2_3 : Int32) (v3_3 : Int32), ∀ (n_3 : Nat), ∀ (v4_3 : Int32) (gMcomes_3 : Nat → Int32), fM_passes_3 v1_3 v2_3 v3_3 xM_people gMscarfs gMhands gMrings n_3 v4_3 gMcomes_3 = some u → ∀ (H : Heap) (locs : List Loc), va_P (dC, dI) vwCl [oM ad xM_typed xM_people xM_posted xM_hears xM_censuses xM_finding, ar (ad 4) cA 20 gMscarfs, ar (ad 5) cA 20 gMhands, ar (ad 6) cA 20 gMrings, ar (ad 13) cA 8020 gMcomes_3] H → va_D A [oM ad xM_typed xM_people xM_posted xM_hears xM_censuses xM_finding, ar (ad 4) cA 20 gMscarfs, ar (ad 5) cA 20 gMhands, ar (ad 6) cA 20 gMrings, ar (ad 13) cA 8020 gMcomes_3] → va_S A s.heap H locs → ∀ ls : Array Slot, lv_has ls 7 [(0, .ref (ad 0)), (1, .int v1_3), (2, .int v2_3), (3, .int v3_3), (4, .int v4_3)] → W p l e (headSpec wsX10_passes ({ frames := 1, cells := 0, slots := 0, locals := 21 })).room s m ([.ref (ad 0), .int a1, .int a2, .int a3] : List Value).toArray below meth c H locs 0 0 QQ (F0 m 3 ls []) := by
    intro v1_3 v2_3 v3_3
    intro n_3
    induction n_3 with
    | zero => intro v4_3 gMcomes_3 hm; have hm : (none : Option ((Nat → Int32))) = some u := hm; cases hm
    | succ n_3 ih_3 =>
      have b_107 : ∀ (v4_107 : Int32) (gMcomes_107 : Nat → Int32), fM_passes_107 (fM_passes_3  v1_3 v2_3 v3_3 xM_people gMscarfs gMhands gMrings n_3) v1_3 v2_3 v3_3 v4_107 xM_people gMscarfs gMhands gMrings gMcomes_107 = some u → ∀ (H : Heap) (locs : List Loc), va_P (dC, dI) vwCl [oM ad xM_typed xM_people xM_posted xM_hears xM_censuses xM_finding, ar (ad 4) cA 20 gMscarfs, ar (ad 5) cA 20 gMhands, ar (ad 6) cA 20 gMrings, ar (ad 13) cA 8020 gMcomes_107] H → va_D A [oM ad xM_typed xM_people xM_posted xM_hears xM_censuses xM_finding, ar (ad 4) cA 20 gMscarfs, ar (ad 5) cA 20 gMhands, ar (ad 6) cA 20 gMrings, ar (ad 13) cA 8020 gMcomes_107] → va_S A s.heap H locs → ∀ ls : Array Slot, lv_has ls 7 [(0, .ref (ad 0)), (1, .int v1_3), (2, .int v2_3), (3, .int v3_3), (4, .int v4_107)] → W p l e (headSpec wsX10_passes ({ frames := 1, cells := 0, slots := 0, locals := 21 })).room s m ([.ref (ad 0), .int a1, .int a2, .int a3] : List Value).toArray below meth c H locs 0 0 QQ (F0 m 107 ls []) := by
        intro v4_107 gMcomes_107 hm H locs hP hD hS ls hl
        unfold fM_passes_107 at hm
        refine lv_iinc (v := (v4_107 + 1)) (lv' := [(4, .int (v4_107 + 1)), (0, .ref (ad 0)), (1, .int v1_3), (2, .int v2_3), (3, .int v3_3)]) hx hb dX10_passes_107 hl (k := 4) rfl rfl (by decide) rfl (fun ls hl => ?_)
        refine lv_goto (tgt := 3) hx hb dX10_passes_110 (by decide) ?_
        exact ih_3 _ _ hm _ _ hP hD hS _ (lv_sub hl [1, 2, 3, 4, 0] rfl)
      have b_77 : ∀ (v4_77 : Int32) (s0_77 : Int32) (s1_77 : Int32) (gMcomes_77 : Nat → Int32), fM_passes_77 (fM_passes_3  v1_3 v2_3 v3_3 xM_people gMscarfs gMhands gMrings n_3) v1_3 v2_3 v3_3 v4_77 s0_77 s1_77 xM_people gMscarfs gMhands gMrings gMcomes_77 = some u → ∀ (H : Heap) (locs : List Loc), va_P (dC, dI) vwCl [oM ad xM_typed xM_people xM_posted xM_hears xM_censuses xM_finding, ar (ad 4) cA 20 gMscarfs, ar (ad 5) cA 20 gMhands, ar (ad 6) cA 20 gMrings, ar (ad 13) cA 8020 gMcomes_77] H → va_D A [oM ad xM_typed xM_people xM_posted xM_hears xM_censuses xM_finding, ar (ad 4) cA 20 gMscarfs, ar (ad 5) cA 20 gMhands, ar (ad 6) cA 20 gMrings, ar (ad 13) cA 8020 gMcomes_77] → va_S A s.heap H locs → ∀ ls : Array Slot, lv_has ls 7 [(0, .ref (ad 0)), (1, .int v1_3), (2, .int v2_3), (3, .int v3_3), (4, .int v4_77)] → W p l e (headSpec wsX10_passes ({ frames := 1, cells := 0, slots := 0, locals := 21 })).room s m ([.ref (ad 0), .int a1, .int a2, .int a3] : List Value).toArray below meth c H locs 0 0 QQ (F0 m 77 ls [.int s1_77, .int s0_77]) := by
        intro v4_77 s0_77 s1_77 gMcomes_77 hm H locs hP hD hS ls hl
        unfold fM_passes_77 at hm
        refine lv_iadd hx hb dX10_passes_77 ?_
        refine lv_istore (lv' := [(6, .int (s0_77 + s1_77)), (0, .ref (ad 0)), (1, .int v1_3), (2, .int v2_3), (3, .int v3_3), (4, .int v4_77)]) hx hb dX10_passes_78 hl (by decide) rfl (fun ls hl => ?_)
        refine lv_iload hx hb dX10_passes_80 (lv_at hl 0 rfl) ?_
        refine lv_sipush (v := 400) hx hb dX10_passes_82 (by decide) ?_
        refine lv_icmp_gt (tgt := 107) hx hb dX10_passes_85 (by decide) (fun c_1 => ?_) (fun c_1 => ?_)
        · have hm := it_pos c_1 hm
          exact b_107 _ _ hm _ _ hP hD hS _ (lv_sub hl [1, 2, 3, 4, 5] rfl)
        · have hm := it_neg c_1 hm
          refine lv_aload_n hx hb dX10_passes_88 rfl (lv_at hl 1 rfl) ?_
          refine va_get (D := (dC, dI)) (ci := 10) (v := .ref (ad 13)) (C := RX10) (T := TX10) (N := 37) hx hb hts hinX10 hown hK hP 0 rfl rfl 14 (by decide) hl_46 (fun _ h9 => h9) rfl dX10_passes_89 ?_
          refine lv_bipush (v := 20) hx hb dX10_passes_92 (by decide) ?_
          refine lv_iload hx hb dX10_passes_94 (lv_at hl 0 rfl) ?_
          refine lv_imul hx hb dX10_passes_96 ?_
          refine lv_iload hx hb dX10_passes_97 (lv_at hl 5 rfl) ?_
          refine lv_iadd hx hb dX10_passes_99 ?_
          refine lv_dup2_11 hx hb dX10_passes_100 rfl rfl ?_
          obtain ⟨i_2, hm⟩ := ck_ok hm
          refine va_iald hx hb hK hP 4 0 rfl rfl i_2 dX10_passes_101 ?_
          refine lv_iconst (v := 1) hx hb dX10_passes_102 (by decide) ?_
          refine lv_iload_n hx hb dX10_passes_103 rfl (lv_at hl 2 rfl) ?_
          refine lv_ishl hx hb dX10_passes_104 ?_
          refine lv_ior hx hb dX10_passes_105 ?_
          obtain ⟨i_3, hm⟩ := ck_ok hm
          refine va_iast hx hb hK hP hD hS 4 0 rfl rfl i_3 dX10_passes_106 (fun H locs hP hD hS => ?_)
          have hP : va_P (dC, dI) vwCl [oM ad xM_typed xM_people xM_posted xM_hears xM_censuses xM_finding, ar (ad 4) cA 20 gMscarfs, ar (ad 5) cA 20 gMhands, ar (ad 6) cA 20 gMrings, ar (ad 13) cA 8020 (upd gMcomes_77 ((20 * (s0_77 + s1_77)) + v4_77).toNatClampNeg ((gMcomes_77 ((20 * (s0_77 + s1_77)) + v4_77).toNatClampNeg) ||| (1 <<< (v1_3 &&& 31))))] H := hP
          have hD : va_D A [oM ad xM_typed xM_people xM_posted xM_hears xM_censuses xM_finding, ar (ad 4) cA 20 gMscarfs, ar (ad 5) cA 20 gMhands, ar (ad 6) cA 20 gMrings, ar (ad 13) cA 8020 (upd gMcomes_77 ((20 * (s0_77 + s1_77)) + v4_77).toNatClampNeg ((gMcomes_77 ((20 * (s0_77 + s1_77)) + v4_77).toNatClampNeg) ||| (1 <<< (v1_3 &&& 31))))] := hD
          exact b_107 _ _ hm _ _ hP hD hS _ (lv_sub hl [1, 2, 3, 4, 5] rfl)
      have b_76 : ∀ (v4_76 : Int32) (s0_76 : Int32) (gMcomes_76 : Nat → Int32), fM_passes_76 (fM_passes_3  v1_3 v2_3 v3_3 xM_people gMscarfs gMhands gMrings n_3) v1_3 v2_3 v3_3 v4_76 s0_76 xM_people gMscarfs gMhands gMrings gMcomes_76 = some u → ∀ (H : Heap) (locs : List Loc), va_P (dC, dI) vwCl [oM ad xM_typed xM_people xM_posted xM_hears xM_censuses xM_finding, ar (ad 4) cA 20 gMscarfs, ar (ad 5) cA 20 gMhands, ar (ad 6) cA 20 gMrings, ar (ad 13) cA 8020 gMcomes_76] H → va_D A [oM ad xM_typed xM_people xM_posted xM_hears xM_censuses xM_finding, ar (ad 4) cA 20 gMscarfs, ar (ad 5) cA 20 gMhands, ar (ad 6) cA 20 gMrings, ar (ad 13) cA 8020 gMcomes_76] → va_S A s.heap H locs → ∀ ls : Array Slot, lv_has ls 7 [(0, .ref (ad 0)), (1, .int v1_3), (2, .int v2_3), (3, .int v3_3), (4, .int v4_76)] → W p l e (headSpec wsX10_passes ({ frames := 1, cells := 0, slots := 0, locals := 21 })).room s m ([.ref (ad 0), .int a1, .int a2, .int a3] : List Value).toArray below meth c H locs 0 0 QQ (F0 m 76 ls [.int s0_76]) := by
        intro v4_76 s0_76 gMcomes_76 hm H locs hP hD hS ls hl
        unfold fM_passes_76 at hm
        refine lv_iconst (v := 0) hx hb dX10_passes_76 (by decide) ?_
        exact b_77 _ _ _ _ hm _ _ hP hD hS _ (lv_sub hl [0, 1, 2, 3, 4] rfl)
      have b_44 : ∀ (v4_44 : Int32) (s0_44 : Int32) (gMcomes_44 : Nat → Int32), fM_passes_44 (fM_passes_3  v1_3 v2_3 v3_3 xM_people gMscarfs gMhands gMrings n_3) v1_3 v2_3 v3_3 v4_44 s0_44 xM_people gMscarfs gMhands gMrings gMcomes_44 = some u → ∀ (H : Heap) (locs : List Loc), va_P (dC, dI) vwCl [oM ad xM_typed xM_people xM_posted xM_hears xM_censuses xM_finding, ar (ad 4) cA 20 gMscarfs, ar (ad 5) cA 20 gMhands, ar (ad 6) cA 20 gMrings, ar (ad 13) cA 8020 gMcomes_44] H → va_D A [oM ad xM_typed xM_people xM_posted xM_hears xM_censuses xM_finding, ar (ad 4) cA 20 gMscarfs, ar (ad 5) cA 20 gMhands, ar (ad 6) cA 20 gMrings, ar (ad 13) cA 8020 gMcomes_44] → va_S A s.heap H locs → ∀ ls : Array Slot, lv_has ls 7 [(0, .ref (ad 0)), (1, .int v1_3), (2, .int v2_3), (3, .int v3_3), (4, .int v4_44)] → W p l e (headSpec wsX10_passes ({ frames := 1, cells := 0, slots := 0, locals := 21 })).room s m ([.ref (ad 0), .int a1, .int a2, .int a3] : List Value).toArray below meth c H locs 0 0 QQ (F0 m 44 ls [.int s0_44]) := by
        intro v4_44 s0_44 gMcomes_44 hm H locs hP hD hS ls hl
        unfold fM_passes_44 at hm
        refine lv_istore (lv' := [(5, .int s0_44), (0, .ref (ad 0)), (1, .int v1_3), (2, .int v2_3), (3, .int v3_3), (4, .int v4_44)]) hx hb dX10_passes_44 hl (by decide) rfl (fun ls hl => ?_)
        refine lv_iload_n hx hb dX10_passes_46 rfl (lv_at hl 3 rfl) ?_
        refine lv_aload_n hx hb dX10_passes_47 rfl (lv_at hl 1 rfl) ?_
        refine va_get (D := (dC, dI)) (ci := 10) (v := .ref (ad 4)) (C := RX10) (T := TX10) (N := 37) hx hb hts hinX10 hown hK hP 0 rfl rfl 5 (by decide) hl_19 (fun _ h9 => h9) rfl dX10_passes_48 ?_
        refine lv_iload hx hb dX10_passes_51 (lv_at hl 0 rfl) ?_
        obtain ⟨i_4, hm⟩ := ck_ok hm
        refine va_iald hx hb hK hP 1 0 rfl rfl i_4 dX10_passes_53 ?_
        refine lv_iconst (v := 1) hx hb dX10_passes_54 (by decide) ?_
        refine lv_icmp_ne (tgt := 76) hx hb dX10_passes_55 (by decide) (fun c_5 => ?_) (fun c_5 => ?_)
        · have hm := it_neg c_5 hm
          exact b_76 _ _ _ hm _ _ hP hD hS _ (lv_sub hl [1, 2, 3, 4, 5] rfl)
        · have hm := it_pos c_5 hm
          refine lv_aload_n hx hb dX10_passes_58 rfl (lv_at hl 1 rfl) ?_
          refine va_get (D := (dC, dI)) (ci := 10) (v := .ref (ad 6)) (C := RX10) (T := TX10) (N := 37) hx hb hts hinX10 hown hK hP 0 rfl rfl 7 (by decide) hl_25 (fun _ h9 => h9) rfl dX10_passes_59 ?_
          refine lv_iload_n hx hb dX10_passes_62 rfl (lv_at hl 2 rfl) ?_
          obtain ⟨i_6, hm⟩ := ck_ok hm
          refine va_iald hx hb hK hP 3 0 rfl rfl i_6 dX10_passes_63 ?_
          refine lv_iload hx hb dX10_passes_64 (lv_at hl 5 rfl) ?_
          have hPc := hP.sub (ws' := []) [] rfl
          have hDc := hD.sub (ws' := []) [] (by decide) rfl
          have hFc := va_free (wc := []) hD hS hA [] rfl
          obtain ⟨u_7, hc_7, hm⟩ := bd_ok hm
          refine va_calli (va_runS (As := [.int (gMrings v1_3.toNatClampNeg), .int v4_44]) (rest := [.int v2_3]) ⟨hx, hb, hml, hown, hts⟩ (kM_isIn l dC dI cA cB ad H.size (gMrings v1_3.toNatClampNeg) v4_44 u_7 hc_7) (va_cwS 2 hts gX10_passes_X10_isIn rfl rfl rfl (by decide +kernel) ⟨Nat.le_of_ble_eq_true rfl, Nat.le_of_ble_eq_true rfl⟩) ⟨fun a U g mk q => by obtain ⟨q0, q1, qP, qK, qD⟩ := q; exact ⟨q0, q1, qP, va_K.moved (u := U) (U := U.calling g mk a) (Vm.Alike.refl U.vm) qK, qD⟩, fun U hU hW => ⟨rfl, by rw [hU], by rw [hU]; exact hPc, va_K.moved hW.alike hK, hDc.weaken (fun _ _ _ _ => trivial)⟩⟩ rfl rfl hl.1 rfl (lv_room (Nat.le_of_ble_eq_true rfl)) dX10_passes_66 ⟨Nat.le_of_ble_eq_true rfl, Nat.le_of_ble_eq_true rfl⟩) hS (fun q _ h => hFc q h) hFc (fun r_7 _ t H1 locs ht hvm hw hB hz1 hk1 hS => ?_)
          obtain ⟨hP1, hK1, hD1⟩ := hB
          rw [ht] at hP1
          obtain ⟨hP, hD⟩ := va_join (wr := [oM ad xM_typed xM_people xM_posted xM_hears xM_censuses xM_finding, ar (ad 4) cA 20 gMscarfs, ar (ad 5) cA 20 gMhands, ar (ad 6) cA 20 gMrings, ar (ad 13) cA 8020 gMcomes_44]) (w1 := []) hP hD [] [0, 1, 2, 3, 4] rfl rfl (by decide) (by decide) hk1 hFc hP1 hD1
          clear hPc hDc hFc hP1 hK1 hD1 hk1 hz1 hvm ht
          generalize H1 = H at hP hS ⊢
          have hP : va_P (dC, dI) vwCl [oM ad xM_typed xM_people xM_posted xM_hears xM_censuses xM_finding, ar (ad 4) cA 20 gMscarfs, ar (ad 5) cA 20 gMhands, ar (ad 6) cA 20 gMrings, ar (ad 13) cA 8020 gMcomes_44] H := hP
          have hD : va_D A [oM ad xM_typed xM_people xM_posted xM_hears xM_censuses xM_finding, ar (ad 4) cA 20 gMscarfs, ar (ad 5) cA 20 gMhands, ar (ad 6) cA 20 gMrings, ar (ad 13) cA 8020 gMcomes_44] := hD
          have hw := hw.symm
          subst hw
          refine lv_if_ne (tgt := 76) hx hb dX10_passes_69 (by decide) (fun c_8 => ?_) (fun c_8 => ?_)
          · have hm := it_neg c_8 hm
            exact b_76 _ _ _ hm _ _ hP hD hS _ (lv_sub hl [1, 2, 3, 4, 5] rfl)
          · have hm := it_pos c_8 hm
            refine lv_iconst (v := 3) hx hb dX10_passes_72 (by decide) ?_
            refine lv_goto (tgt := 77) hx hb dX10_passes_73 (by decide) ?_
            exact b_77 _ _ _ _ hm _ _ hP hD hS _ (lv_sub hl [1, 2, 3, 4, 5] rfl)
      intro v4_3 gMcomes_3 hm H locs hP hD hS ls hl
      have hm : fM_passes_3_b  (fM_passes_3  v1_3 v2_3 v3_3 xM_people gMscarfs gMhands gMrings n_3) v1_3 v2_3 v3_3 xM_people gMscarfs gMhands gMrings v4_3 gMcomes_3 = some u := hm
      unfold fM_passes_3_b at hm
      refine lv_iload hx hb dX10_passes_3 (lv_at hl 4 rfl) ?_
      refine lv_aload_n hx hb dX10_passes_5 rfl (lv_at hl 0 rfl) ?_
      refine va_get (D := (dC, dI)) (ci := 10) (v := .int xM_people) (C := RX10) (T := TX10) (N := 37) hx hb hts hinX10 hown hK hP 0 rfl rfl 2 (by decide) hl_112 (fun _ h9 => h9) rfl dX10_passes_6 ?_
      refine lv_icmp_ge (tgt := 113) hx hb dX10_passes_9 (by decide) (fun c_9 => ?_) (fun c_9 => ?_)
      · have hm := it_pos c_9 hm
        obtain rfl := Option.some.inj hm
        subst hQ
        exact W.vret hx hb hr (fun t ht hW => ⟨⟨(), rfl, trivial, by rw [ht]; exact hP, va_K.moved hW.alike hK, hAe ▸ hD⟩, hS.F ht⟩) hS.2.2 dX10_passes_113
      · have hm := it_neg c_9 hm
        refine lv_aload_n hx hb dX10_passes_12 rfl (lv_at hl 0 rfl) ?_
        refine va_get (D := (dC, dI)) (ci := 10) (v := .ref (ad 5)) (C := RX10) (T := TX10) (N := 37) hx hb hts hinX10 hown hK hP 0 rfl rfl 6 (by decide) hl_22 (fun _ h9 => h9) rfl dX10_passes_13 ?_
        refine lv_iload_n hx hb dX10_passes_16 rfl (lv_at hl 1 rfl) ?_
        obtain ⟨i_10, hm⟩ := ck_ok hm
        refine va_iald hx hb hK hP 2 0 rfl rfl i_10 dX10_passes_17 ?_
        refine lv_iload hx hb dX10_passes_18 (lv_at hl 4 rfl) ?_
        have hPc := hP.sub (ws' := []) [] rfl
        have hDc := hD.sub (ws' := []) [] (by decide) rfl
        have hFc := va_free (wc := []) hD hS hA [] rfl
        obtain ⟨u_11, hc_11, hm⟩ := bd_ok hm
        refine va_calli (va_runS (As := [.int (gMhands v1_3.toNatClampNeg), .int v4_3]) (rest := []) ⟨hx, hb, hml, hown, hts⟩ (kM_isIn l dC dI cA cB ad H.size (gMhands v1_3.toNatClampNeg) v4_3 u_11 hc_11) (va_cwS 2 hts gX10_passes_X10_isIn rfl rfl rfl (by decide +kernel) ⟨Nat.le_of_ble_eq_true rfl, Nat.le_of_ble_eq_true rfl⟩) ⟨fun a U g mk q => by obtain ⟨q0, q1, qP, qK, qD⟩ := q; exact ⟨q0, q1, qP, va_K.moved (u := U) (U := U.calling g mk a) (Vm.Alike.refl U.vm) qK, qD⟩, fun U hU hW => ⟨rfl, by rw [hU], by rw [hU]; exact hPc, va_K.moved hW.alike hK, hDc.weaken (fun _ _ _ _ => trivial)⟩⟩ rfl rfl hl.1 rfl (lv_room (Nat.le_of_ble_eq_true rfl)) dX10_passes_20 ⟨Nat.le_of_ble_eq_true rfl, Nat.le_of_ble_eq_true rfl⟩) hS (fun q _ h => hFc q h) hFc (fun r_11 _ t H1 locs ht hvm hw hB hz1 hk1 hS => ?_)
        obtain ⟨hP1, hK1, hD1⟩ := hB
        rw [ht] at hP1
        obtain ⟨hP, hD⟩ := va_join (wr := [oM ad xM_typed xM_people xM_posted xM_hears xM_censuses xM_finding, ar (ad 4) cA 20 gMscarfs, ar (ad 5) cA 20 gMhands, ar (ad 6) cA 20 gMrings, ar (ad 13) cA 8020 gMcomes_3]) (w1 := []) hP hD [] [0, 1, 2, 3, 4] rfl rfl (by decide) (by decide) hk1 hFc hP1 hD1
        clear hPc hDc hFc hP1 hK1 hD1 hk1 hz1 hvm ht
        generalize H1 = H at hP hS ⊢
        have hP : va_P (dC, dI) vwCl [oM ad xM_typed xM_people xM_posted xM_hears xM_censuses xM_finding, ar (ad 4) cA 20 gMscarfs, ar (ad 5) cA 20 gMhands, ar (ad 6) cA 20 gMrings, ar (ad 13) cA 8020 gMcomes_3] H := hP
        have hD : va_D A [oM ad xM_typed xM_people xM_posted xM_hears xM_censuses xM_finding, ar (ad 4) cA 20 gMscarfs, ar (ad 5) cA 20 gMhands, ar (ad 6) cA 20 gMrings, ar (ad 13) cA 8020 gMcomes_3] := hD
        have hw := hw.symm
        subst hw
        refine lv_if_eq (tgt := 107) hx hb dX10_passes_23 (by decide) (fun c_12 => ?_) (fun c_12 => ?_)
        · have hm := it_pos c_12 hm
          exact b_107 _ _ hm _ _ hP hD hS _ (lv_sub hl [0, 1, 2, 3, 4] rfl)
        · have hm := it_neg c_12 hm
          refine lv_iload hx hb dX10_passes_26 (lv_at hl 4 rfl) ?_
          refine lv_iload_n hx hb dX10_passes_28 rfl (lv_at hl 3 rfl) ?_
          refine lv_icmp_eq (tgt := 107) hx hb dX10_passes_29 (by decide) (fun c_13 => ?_) (fun c_13 => ?_)
          · have hm := it_pos c_13 hm
            exact b_107 _ _ hm _ _ hP hD hS _ (lv_sub hl [0, 1, 2, 3, 4] rfl)
          · have hm := it_neg c_13 hm
            refine lv_iload_n hx hb dX10_passes_32 rfl (lv_at hl 1 rfl) ?_
            refine lv_iload hx hb dX10_passes_33 (lv_at hl 4 rfl) ?_
            refine lv_icmp_le (tgt := 42) hx hb dX10_passes_35 (by decide) (fun c_14 => ?_) (fun c_14 => ?_)
            · have hm := it_pos c_14 hm
              refine lv_iload hx hb dX10_passes_42 (lv_at hl 4 rfl) ?_
              exact b_44 _ _ _ hm _ _ hP hD hS _ (lv_sub hl [0, 1, 2, 3, 4] rfl)
            · have hm := it_neg c_14 hm
              refine lv_iload_n hx hb dX10_passes_38 rfl (lv_at hl 1 rfl) ?_
              refine lv_goto (tgt := 44) hx hb dX10_passes_39 (by decide) ?_
              exact b_44 _ _ _ hm _ _ hP hD hS _ (lv_sub hl [0, 1, 2, 3, 4] rfl)
  unfold fM_passes at hm
  refine lv_iconst (v := 0) hx hb dX10_passes_0 (by decide) ?_
  refine lv_istore (lv' := [(4, .int 0), (0, .ref (ad 0)), (1, .int a1), (2, .int a2), (3, .int a3)]) hx hb dX10_passes_1 hl (by decide) rfl (fun ls hl => ?_)
  exact h_3 _ _ _ _ _ _ hm _ _ hP hD hS _ (lv_sub hl [1, 2, 3, 4, 0] rfl)
