def fM_in (a0 : Int32) (a1 : Int32) (a2 : Int32)  : Option (Int32) :=
  (if a0 < a1 then some 0 else (if a2 < a0 then some 0 else some 1))

set_option maxHeartbeats 4000000 in
set_option maxRecDepth 100000 in
theorem kM_in (l : Launch) (dC : Nat → ClassId) (dI : Nat → Nat → Nat) (cA : ClassId) (cB : ClassId) (ad : Nat → Nat) (sz : Nat) (a0 : Int32) (a1 : Int32) (a2 : Int32) (u : Int32) (hm : fM_in a0 a1 a2 = some u) : Met l yX10_in wsX10_in ({ frames := 0, cells := 0, slots := 0, locals := 0 }) (va_Pc [.int a0, .int a1, .int a2] (fun U => U.heap.size = sz ∧ va_P (dC, dI) vwCl [] U.heap ∧ va_K (dC, dI) vwCl [(cA, .int), (cB, .boolean)] U ∧ va_D (fun _ => True) [])) (va_Qi (fun (r : Int32) (_ : Unit) => r = u) (fun (_ : Unit) t => va_P (dC, dI) vwCl [] t.heap ∧ va_K (dC, dI) vwCl [(cA, .int), (cB, .boolean)] t ∧ va_D (va_A [] sz) []) (va_A [] sz)) 0 0 (va_A [] sz) := by
  refine Met.ofW (cc := cX10_in) (maxL := 3) (ret := (some .boolean)) (by decide) rfl ?_
  intro p e s m args below meth c s₁ B hml hv
  obtain ⟨rfl, hsz, hP, hK, hD0⟩ := hv
  have hx := B.exec
  have hb := B.bytes
  have hr := B.returns
  have hts := atoms_spec (ws := wsX10_in) B.pre
  have hown : s.vm.findClass RX10 = some m.cls := findClass_of_methodNamed B.named
  have hlocks := B.notSynchronized
  subst hsz
  have hD := hD0.self (sz := s.heap.size)
  generalize hAe : va_A [] s.heap.size = A at hD ⊢
  have hA : ∀ q : Nat, s.heap.size ≤ q → A q := fun q h => by rw [← hAe]; exact Or.inr h
  have hS : va_S A s.heap s.heap [] := va_S.rf
  have hl := lv_entry ([.int a0, .int a1, .int a2]) (n := 3) (Nat.le_of_ble_eq_true rfl)
  rw [lg_entry_eq]
  generalize (lg_sl ([.int a0, .int a1, .int a2]) ++ List.replicate (3 - (lg_sl ([.int a0, .int a1, .int a2])).length) Slot.unset).toArray = ls at hl ⊢
  have hl : lv_has ls 3 [(0, .int a0), (1, .int a1), (2, .int a2)] := hl
  refine wk_Q (fun QQ hQ => ?_)
  unfold fM_in at hm
  refine lv_iload_n hx hb dX10_in_0 rfl (lv_at hl 0 rfl) ?_
  refine lv_iload_n hx hb dX10_in_1 rfl (lv_at hl 1 rfl) ?_
  refine lv_icmp_lt (tgt := 14) hx hb dX10_in_2 (by decide) (fun c_1 => ?_) (fun c_1 => ?_)
  · have hm := it_pos c_1 hm
    refine lv_iconst (v := 0) hx hb dX10_in_14 (by decide) ?_
    obtain rfl := Option.some.inj hm
    subst hQ
    exact W.zret (v := 0) hx hb hr rfl (fun t ht hW => ⟨⟨_, (), rfl, rfl, by rw [ht]; exact hP, va_K.moved hW.alike hK, hAe ▸ hD⟩, hS.F ht⟩) hS.2.2 dX10_in_15
  · have hm := it_neg c_1 hm
    refine lv_iload_n hx hb dX10_in_5 rfl (lv_at hl 0 rfl) ?_
    refine lv_iload_n hx hb dX10_in_6 rfl (lv_at hl 2 rfl) ?_
    refine lv_icmp_gt (tgt := 14) hx hb dX10_in_7 (by decide) (fun c_2 => ?_) (fun c_2 => ?_)
    · have hm := it_pos c_2 hm
      refine lv_iconst (v := 0) hx hb dX10_in_14 (by decide) ?_
      obtain rfl := Option.some.inj hm
      subst hQ
      exact W.zret (v := 0) hx hb hr rfl (fun t ht hW => ⟨⟨_, (), rfl, rfl, by rw [ht]; exact hP, va_K.moved hW.alike hK, hAe ▸ hD⟩, hS.F ht⟩) hS.2.2 dX10_in_15
    · have hm := it_neg c_2 hm
      refine lv_iconst (v := 1) hx hb dX10_in_10 (by decide) ?_
      refine lv_goto (tgt := 15) hx hb dX10_in_11 (by decide) ?_
      obtain rfl := Option.some.inj hm
      subst hQ
      exact W.zret (v := 1) hx hb hr rfl (fun t ht hW => ⟨⟨_, (), rfl, rfl, by rw [ht]; exact hP, va_K.moved hW.alike hK, hAe ▸ hD⟩, hS.F ht⟩) hS.2.2 dX10_in_15

def fM_isIn (a0 : Int32) (a1 : Int32)  : Option (Int32) :=
  (if ((a0 >>> (a1 &&& 31)) &&& 1) = 1 then some 1 else some 0)

set_option maxHeartbeats 4000000 in
set_option maxRecDepth 100000 in
theorem kM_isIn (l : Launch) (dC : Nat → ClassId) (dI : Nat → Nat → Nat) (cA : ClassId) (cB : ClassId) (ad : Nat → Nat) (sz : Nat) (a0 : Int32) (a1 : Int32) (u : Int32) (hm : fM_isIn a0 a1 = some u) : Met l yX10_isIn wsX10_isIn ({ frames := 0, cells := 0, slots := 0, locals := 0 }) (va_Pc [.int a0, .int a1] (fun U => U.heap.size = sz ∧ va_P (dC, dI) vwCl [] U.heap ∧ va_K (dC, dI) vwCl [(cA, .int), (cB, .boolean)] U ∧ va_D (fun _ => True) [])) (va_Qi (fun (r : Int32) (_ : Unit) => r = u) (fun (_ : Unit) t => va_P (dC, dI) vwCl [] t.heap ∧ va_K (dC, dI) vwCl [(cA, .int), (cB, .boolean)] t ∧ va_D (va_A [] sz) []) (va_A [] sz)) 0 0 (va_A [] sz) := by
  refine Met.ofW (cc := cX10_isIn) (maxL := 2) (ret := (some .boolean)) (by decide) rfl ?_
  intro p e s m args below meth c s₁ B hml hv
  obtain ⟨rfl, hsz, hP, hK, hD0⟩ := hv
  have hx := B.exec
  have hb := B.bytes
  have hr := B.returns
  have hts := atoms_spec (ws := wsX10_isIn) B.pre
  have hown : s.vm.findClass RX10 = some m.cls := findClass_of_methodNamed B.named
  have hlocks := B.notSynchronized
  subst hsz
  have hD := hD0.self (sz := s.heap.size)
  generalize hAe : va_A [] s.heap.size = A at hD ⊢
  have hA : ∀ q : Nat, s.heap.size ≤ q → A q := fun q h => by rw [← hAe]; exact Or.inr h
  have hS : va_S A s.heap s.heap [] := va_S.rf
  have hl := lv_entry ([.int a0, .int a1]) (n := 2) (Nat.le_of_ble_eq_true rfl)
  rw [lg_entry_eq]
  generalize (lg_sl ([.int a0, .int a1]) ++ List.replicate (2 - (lg_sl ([.int a0, .int a1])).length) Slot.unset).toArray = ls at hl ⊢
  have hl : lv_has ls 2 [(0, .int a0), (1, .int a1)] := hl
  refine wk_Q (fun QQ hQ => ?_)
  unfold fM_isIn at hm
  refine lv_iload_n hx hb dX10_isIn_0 rfl (lv_at hl 0 rfl) ?_
  refine lv_iload_n hx hb dX10_isIn_1 rfl (lv_at hl 1 rfl) ?_
  refine lv_ishr hx hb dX10_isIn_2 ?_
  refine lv_iconst (v := 1) hx hb dX10_isIn_3 (by decide) ?_
  refine lv_iand hx hb dX10_isIn_4 ?_
  refine lv_iconst (v := 1) hx hb dX10_isIn_5 (by decide) ?_
  refine lv_icmp_ne (tgt := 13) hx hb dX10_isIn_6 (by decide) (fun c_1 => ?_) (fun c_1 => ?_)
  · have hm := it_neg c_1 hm
    refine lv_iconst (v := 0) hx hb dX10_isIn_13 (by decide) ?_
    obtain rfl := Option.some.inj hm
    subst hQ
    exact W.zret (v := 0) hx hb hr rfl (fun t ht hW => ⟨⟨_, (), rfl, rfl, by rw [ht]; exact hP, va_K.moved hW.alike hK, hAe ▸ hD⟩, hS.F ht⟩) hS.2.2 dX10_isIn_14
  · have hm := it_pos c_1 hm
    refine lv_iconst (v := 1) hx hb dX10_isIn_9 (by decide) ?_
    refine lv_goto (tgt := 14) hx hb dX10_isIn_10 (by decide) ?_
    obtain rfl := Option.some.inj hm
    subst hQ
    exact W.zret (v := 1) hx hb hr rfl (fun t ht hW => ⟨⟨_, (), rfl, rfl, by rw [ht]; exact hP, va_K.moved hW.alike hK, hAe ▸ hD⟩, hS.F ht⟩) hS.2.2 dX10_isIn_14

def fM_ones_4_b  (k_4 : Int32 → Int32 → Option (Int32)) (v0_4 : Int32) (v1_4 : Int32) (v2_4 : Int32) : Option (Int32) :=
  (if 22 ≤ v2_4 then some v1_4 else nm (v1_4 + ((v0_4 >>> (v2_4 &&& 31)) &&& 1)) (fun y2 => k_4 y2 (v2_4 + 1)))
def fM_ones_4  (v0_4 : Int32) : Nat → Int32 → Int32 → Option (Int32)
  | 0 => fun _ _ => none
  | n + 1 => fun v1_4 v2_4 => fM_ones_4_b  (fM_ones_4  v0_4 n) v0_4 v1_4 v2_4
def fM_ones (a0 : Int32)  : Option (Int32) :=
  fM_ones_4 a0 FU 0 0

set_option maxHeartbeats 4000000 in
set_option maxRecDepth 100000 in
theorem kM_ones (l : Launch) (dC : Nat → ClassId) (dI : Nat → Nat → Nat) (cA : ClassId) (cB : ClassId) (ad : Nat → Nat) (sz : Nat) (a0 : Int32) (u : Int32) (hm : fM_ones a0 = some u) : Met l yX10_ones wsX10_ones ({ frames := 0, cells := 0, slots := 0, locals := 0 }) (va_Pc [.int a0] (fun U => U.heap.size = sz ∧ va_P (dC, dI) vwCl [] U.heap ∧ va_K (dC, dI) vwCl [(cA, .int), (cB, .boolean)] U ∧ va_D (fun _ => True) [])) (va_Qi (fun (r : Int32) (_ : Unit) => r = u) (fun (_ : Unit) t => va_P (dC, dI) vwCl [] t.heap ∧ va_K (dC, dI) vwCl [(cA, .int), (cB, .boolean)] t ∧ va_D (va_A [] sz) []) (va_A [] sz)) 0 0 (va_A [] sz) := by
  refine Met.ofW (cc := cX10_ones) (maxL := 3) (ret := (some .int)) (by decide) rfl ?_
  intro p e s m args below meth c s₁ B hml hv
  obtain ⟨rfl, hsz, hP, hK, hD0⟩ := hv
  have hx := B.exec
  have hb := B.bytes
  have hr := B.returns
  have hts := atoms_spec (ws := wsX10_ones) B.pre
  have hown : s.vm.findClass RX10 = some m.cls := findClass_of_methodNamed B.named
  have hlocks := B.notSynchronized
  subst hsz
  have hD := hD0.self (sz := s.heap.size)
  generalize hAe : va_A [] s.heap.size = A at hD ⊢
  have hA : ∀ q : Nat, s.heap.size ≤ q → A q := fun q h => by rw [← hAe]; exact Or.inr h
  have hS : va_S A s.heap s.heap [] := va_S.rf
  have hl := lv_entry ([.int a0]) (n := 3) (Nat.le_of_ble_eq_true rfl)
  rw [lg_entry_eq]
  generalize (lg_sl ([.int a0]) ++ List.replicate (3 - (lg_sl ([.int a0])).length) Slot.unset).toArray = ls at hl ⊢
  have hl : lv_has ls 3 [(0, .int a0)] := hl
  refine wk_Q (fun QQ hQ => ?_)
  have h_4 : ∀ (v0_4 : Int32), ∀ (n_4 : Nat), ∀ (v1_4 : Int32) (v2_4 : Int32), fM_ones_4 v0_4 n_4 v1_4 v2_4 = some u → ∀ (H : Heap) (locs : List Loc), va_P (dC, dI) vwCl [] H → va_D A [] → va_S A s.heap H locs → ∀ ls : Array Slot, lv_has ls 3 [(0, .int v0_4), (1, .int v1_4), (2, .int v2_4)] → W p l e (headSpec wsX10_ones ({ frames := 0, cells := 0, slots := 0, locals := 0 })).room s m ([.int a0] : List Value).toArray below meth c H locs 0 0 QQ (F0 m 4 ls []) := by
    intro v0_4
    intro n_4
    induction n_4 with
    | zero => intro v1_4 v2_4 hm; have hm : (none : Option (Int32)) = some u := hm; cases hm
    | succ n_4 ih_4 =>
      intro v1_4 v2_4 hm H locs hP hD hS ls hl
      have hm : fM_ones_4_b  (fM_ones_4  v0_4 n_4) v0_4 v1_4 v2_4 = some u := hm
      unfold fM_ones_4_b at hm
      refine lv_iload_n hx hb dX10_ones_4 rfl (lv_at hl 2 rfl) ?_
      refine lv_bipush (v := 22) hx hb dX10_ones_5 (by decide) ?_
      refine lv_icmp_ge (tgt := 24) hx hb dX10_ones_7 (by decide) (fun c_1 => ?_) (fun c_1 => ?_)
      · have hm := it_pos c_1 hm
        refine lv_iload_n hx hb dX10_ones_24 rfl (lv_at hl 1 rfl) ?_
        obtain rfl := Option.some.inj hm
        subst hQ
        exact W.iret (v := v1_4) hx hb hr (fun t ht hW => ⟨⟨_, (), rfl, rfl, by rw [ht]; exact hP, va_K.moved hW.alike hK, hAe ▸ hD⟩, hS.F ht⟩) hS.2.2 dX10_ones_25
      · have hm := it_neg c_1 hm
        refine lv_iload_n hx hb dX10_ones_10 rfl (lv_at hl 1 rfl) ?_
        refine lv_iload_n hx hb dX10_ones_11 rfl (lv_at hl 0 rfl) ?_
        refine lv_iload_n hx hb dX10_ones_12 rfl (lv_at hl 2 rfl) ?_
        refine lv_ishr hx hb dX10_ones_13 ?_
        refine lv_iconst (v := 1) hx hb dX10_ones_14 (by decide) ?_
        refine lv_iand hx hb dX10_ones_15 ?_
        refine lv_iadd hx hb dX10_ones_16 ?_
        refine lv_topi (fun y2 ey2 => ?_)
        have hm := nm_in ey2 hm
        refine lv_istore_n (lv' := [(1, .int y2), (0, .int v0_4), (2, .int v2_4)]) hx hb dX10_ones_17 rfl hl (by decide) rfl (fun ls hl => ?_)
        refine lv_iinc (v := (v2_4 + 1)) (lv' := [(2, .int (v2_4 + 1)), (1, .int y2), (0, .int v0_4)]) hx hb dX10_ones_18 hl (k := 2) rfl rfl (by decide) rfl (fun ls hl => ?_)
        refine lv_goto (tgt := 4) hx hb dX10_ones_21 (by decide) ?_
        exact ih_4 _ _ hm _ _ hP hD hS _ (lv_sub hl [2, 1, 0] rfl)
  unfold fM_ones at hm
  refine lv_iconst (v := 0) hx hb dX10_ones_0 (by decide) ?_
  refine lv_istore_n (lv' := [(1, .int 0), (0, .int a0)]) hx hb dX10_ones_1 rfl hl (by decide) rfl (fun ls hl => ?_)
  refine lv_iconst (v := 0) hx hb dX10_ones_2 (by decide) ?_
  refine lv_istore_n (lv' := [(2, .int 0), (1, .int 0), (0, .int a0)]) hx hb dX10_ones_3 rfl hl (by decide) rfl (fun ls hl => ?_)
  exact h_4 _ _ _ _ hm _ _ hP hD hS _ (lv_sub hl [2, 1, 0] rfl)

def fM_type (a1 : Int32) (xM_typed : Int32) (gMtext : Nat → Int32) : Option (Int32 × Int32 × (Nat → Int32)) :=
  bd (fM_in a1 0 255) (fun u_1 => (if u_1 = 0 then some ((-2), xM_typed, gMtext) else (if xM_typed = 60 then some ((-4), xM_typed, gMtext) else ck 60 xM_typed (some ((xM_typed + 1), (xM_typed + 1), (upd gMtext xM_typed.toNatClampNeg a1))))))

set_option maxHeartbeats 4000000 in
set_option maxRecDepth 100000 in
theorem kM_type (l : Launch) (dC : Nat → ClassId) (dI : Nat → Nat → Nat) (cA : ClassId) (cB : ClassId) (ad : Nat → Nat) (sz : Nat) (a1 : Int32) (xM_typed : Int32) (xM_people : Int32) (xM_posted : Int32) (xM_hears : Int32) (xM_censuses : Int32) (xM_finding : Int32) (gMtext : Nat → Int32) (u : Int32 × Int32 × (Nat → Int32)) (hm : fM_type a1 xM_typed gMtext = some u) : Met l yX10_type wsX10_type ({ frames := 1, cells := 0, slots := 0, locals := 22 }) (va_Pc [.ref (ad 0), .int a1] (fun U => U.heap.size = sz ∧ va_P (dC, dI) vwCl [oM ad xM_typed xM_people xM_posted xM_hears xM_censuses xM_finding, ar (ad 1) cA 60 gMtext] U.heap ∧ va_K (dC, dI) vwCl [(cA, .int), (cB, .boolean)] U ∧ va_D (fun _ => True) [oM ad xM_typed xM_people xM_posted xM_hears xM_censuses xM_finding, ar (ad 1) cA 60 gMtext])) (va_Qi (fun (r : Int32) (_ : Unit) => r = u.1) (fun (_ : Unit) t => va_P (dC, dI) vwCl [oM ad u.2.1 xM_people xM_posted xM_hears xM_censuses xM_finding, ar (ad 1) cA 60 u.2.2] t.heap ∧ va_K (dC, dI) vwCl [(cA, .int), (cB, .boolean)] t ∧ va_D (va_A [oM ad xM_typed xM_people xM_posted xM_hears xM_censuses xM_finding, ar (ad 1) cA 60 gMtext] sz) [oM ad u.2.1 xM_people xM_posted xM_hears xM_censuses xM_finding, ar (ad 1) cA 60 u.2.2]) (va_A [oM ad xM_typed xM_people xM_posted xM_hears xM_censuses xM_finding, ar (ad 1) cA 60 gMtext] sz)) 0 0 (va_A [oM ad xM_typed xM_people xM_posted xM_hears xM_censuses xM_finding, ar (ad 1) cA 60 gMtext] sz) := by
  refine Met.ofW (cc := cX10_type) (maxL := 2) (ret := (some .int)) (by decide) rfl ?_
  intro p e s m args below meth c s₁ B hml hv
  obtain ⟨rfl, hsz, hP, hK, hD0⟩ := hv
  have hx := B.exec
  have hb := B.bytes
  have hr := B.returns
  have hts := atoms_spec (ws := wsX10_type) B.pre
  have hown : s.vm.findClass RX10 = some m.cls := findClass_of_methodNamed B.named
  have hlocks := B.notSynchronized
  subst hsz
  have hD := hD0.self (sz := s.heap.size)
  generalize hAe : va_A [oM ad xM_typed xM_people xM_posted xM_hears xM_censuses xM_finding, ar (ad 1) cA 60 gMtext] s.heap.size = A at hD ⊢
  have hA : ∀ q : Nat, s.heap.size ≤ q → A q := fun q h => by rw [← hAe]; exact Or.inr h
  have hS : va_S A s.heap s.heap [] := va_S.rf
  have hl := lv_entry ([.ref (ad 0), .int a1]) (n := 2) (Nat.le_of_ble_eq_true rfl)
  rw [lg_entry_eq]
  generalize (lg_sl ([.ref (ad 0), .int a1]) ++ List.replicate (2 - (lg_sl ([.ref (ad 0), .int a1])).length) Slot.unset).toArray = ls at hl ⊢
  have hl : lv_has ls 2 [(0, .ref (ad 0)), (1, .int a1)] := hl
  refine wk_Q (fun QQ hQ => ?_)
  have hinX10 : ∀ w ∈ wsX100, w ∈ wsX10_type := by decide +kernel
  have hl_108 := hts (.fieldLink RX10 108 "HandCensusModel" "typed" "I") (by decide +kernel)
  have hl_7 := hts (.fieldLink RX10 7 "HandCensusModel" "text" "[I") (by decide +kernel)
  unfold fM_type at hm
  refine lv_iload_n hx hb dX10_type_0 rfl (lv_at hl 1 rfl) ?_
  refine lv_iconst (v := 0) hx hb dX10_type_1 (by decide) ?_
  refine lv_sipush (v := 255) hx hb dX10_type_2 (by decide) ?_
  have hPc := hP.sub (ws' := []) [] rfl
  have hDc := hD.sub (ws' := []) [] (by decide) rfl
  have hFc := va_free (wc := []) hD hS hA [] rfl
  obtain ⟨u_1, hc_1, hm⟩ := bd_ok hm
  refine va_calli (va_runS (As := [.int a1, .int 0, .int 255]) (rest := []) ⟨hx, hb, hml, hown, hts⟩ (kM_in l dC dI cA cB ad s.heap.size a1 0 255 u_1 hc_1) (va_cwS 3 hts gX10_type_X10_in rfl rfl rfl (by decide +kernel) ⟨Nat.le_of_ble_eq_true rfl, Nat.le_of_ble_eq_true rfl⟩) ⟨fun a U g mk q => by obtain ⟨q0, q1, qP, qK, qD⟩ := q; exact ⟨q0, q1, qP, va_K.moved (u := U) (U := U.calling g mk a) (Vm.Alike.refl U.vm) qK, qD⟩, fun U hU hW => ⟨rfl, by rw [hU], by rw [hU]; exact hPc, va_K.moved hW.alike hK, hDc.weaken (fun _ _ _ _ => trivial)⟩⟩ rfl rfl hl.1 rfl (lv_room (Nat.le_of_ble_eq_true rfl)) dX10_type_5 ⟨Nat.le_of_ble_eq_true rfl, Nat.le_of_ble_eq_true rfl⟩) hS (fun q _ h => hFc q h) hFc (fun r_1 _ t H1 locs ht hvm hw hB hz1 hk1 hS => ?_)
  obtain ⟨hP1, hK1, hD1⟩ := hB
  rw [ht] at hP1
  obtain ⟨hP, hD⟩ := va_join (wr := [oM ad xM_typed xM_people xM_posted xM_hears xM_censuses xM_finding, ar (ad 1) cA 60 gMtext]) (w1 := []) hP hD [] [0, 1] rfl rfl (by decide) (by decide) hk1 hFc hP1 hD1
  clear hPc hDc hFc hP1 hK1 hD1 hk1 hz1 hvm ht
  generalize H1 = H at hP hS ⊢
  have hP : va_P (dC, dI) vwCl [oM ad xM_typed xM_people xM_posted xM_hears xM_censuses xM_finding, ar (ad 1) cA 60 gMtext] H := hP
  have hD : va_D A [oM ad xM_typed xM_people xM_posted xM_hears xM_censuses xM_finding, ar (ad 1) cA 60 gMtext] := hD
  subst hw
  refine lv_if_ne (tgt := 14) hx hb dX10_type_8 (by decide) (fun c_2 => ?_) (fun c_2 => ?_)
  · have hm := it_neg c_2 hm
    refine lv_aload_n hx hb dX10_type_14 rfl (lv_at hl 0 rfl) ?_
    refine va_get (D := (dC, dI)) (ci := 10) (v := .int xM_typed) (C := RX10) (T := TX10) (N := 37) hx hb hts hinX10 hown hK hP 0 rfl rfl 0 (by decide) hl_108 (fun _ h9 => h9) rfl dX10_type_15 ?_
    refine lv_bipush (v := 60) hx hb dX10_type_18 (by decide) ?_
    refine lv_icmp_ne (tgt := 26) hx hb dX10_type_20 (by decide) (fun c_3 => ?_) (fun c_3 => ?_)
    · have hm := it_neg c_3 hm
      refine lv_aload_n hx hb dX10_type_26 rfl (lv_at hl 0 rfl) ?_
      refine va_get (D := (dC, dI)) (ci := 10) (v := .ref (ad 1)) (C := RX10) (T := TX10) (N := 37) hx hb hts hinX10 hown hK hP 0 rfl rfl 1 (by decide) hl_7 (fun _ h9 => h9) rfl dX10_type_27 ?_
      refine lv_aload_n hx hb dX10_type_30 rfl (lv_at hl 0 rfl) ?_
      refine va_get (D := (dC, dI)) (ci := 10) (v := .int xM_typed) (C := RX10) (T := TX10) (N := 37) hx hb hts hinX10 hown hK hP 0 rfl rfl 0 (by decide) hl_108 (fun _ h9 => h9) rfl dX10_type_31 ?_
      refine lv_iload_n hx hb dX10_type_34 rfl (lv_at hl 1 rfl) ?_
      obtain ⟨i_4, hm⟩ := ck_ok hm
      refine va_iast hx hb hK hP hD hS 1 0 rfl rfl i_4 dX10_type_35 (fun H locs hP hD hS => ?_)
      have hP : va_P (dC, dI) vwCl [oM ad xM_typed xM_people xM_posted xM_hears xM_censuses xM_finding, ar (ad 1) cA 60 (upd gMtext xM_typed.toNatClampNeg a1)] H := hP
      have hD : va_D A [oM ad xM_typed xM_people xM_posted xM_hears xM_censuses xM_finding, ar (ad 1) cA 60 (upd gMtext xM_typed.toNatClampNeg a1)] := hD
      refine lv_aload_n hx hb dX10_type_36 rfl (lv_at hl 0 rfl) ?_
      refine lv_dup hx hb dX10_type_37 rfl ?_
      refine va_get (D := (dC, dI)) (ci := 10) (v := .int xM_typed) (C := RX10) (T := TX10) (N := 37) hx hb hts hinX10 hown hK hP 0 rfl rfl 0 (by decide) hl_108 (fun _ h9 => h9) rfl dX10_type_38 ?_
      refine lv_iconst (v := 1) hx hb dX10_type_41 (by decide) ?_
      refine lv_iadd hx hb dX10_type_42 ?_
      refine va_put (D := (dC, dI)) (ci := 10) (v := .int (xM_typed + 1)) (ty := .int) (C := RX10) (T := TX10) (N := 37) hx hb hts hinX10 tyX10 tyX10_ok nmX10 hown hK hP hD hS 0 rfl rfl 0 (by decide) hl_108 (fun _ h9 => h9) rfl (by decide +kernel) rfl rfl (Nat.le_of_ble_eq_true rfl) dX10_type_43 (fun H locs hP hD hS => ?_)
      have hP : va_P (dC, dI) vwCl [oM ad (xM_typed + 1) xM_people xM_posted xM_hears xM_censuses xM_finding, ar (ad 1) cA 60 (upd gMtext xM_typed.toNatClampNeg a1)] H := hP
      have hD : va_D A [oM ad (xM_typed + 1) xM_people xM_posted xM_hears xM_censuses xM_finding, ar (ad 1) cA 60 (upd gMtext xM_typed.toNatClampNeg a1)] := hD
      refine lv_aload_n hx hb dX10_type_46 rfl (lv_at hl 0 rfl) ?_
      refine va_get (D := (dC, dI)) (ci := 10) (v := .int (xM_typed + 1)) (C := RX10) (T := TX10) (N := 37) hx hb hts hinX10 hown hK hP 0 rfl rfl 0 (by decide) hl_108 (fun _ h9 => h9) rfl dX10_type_47 ?_
      obtain rfl := Option.some.inj hm
      subst hQ
      exact W.iret (v := (xM_typed + 1)) hx hb hr (fun t ht hW => ⟨⟨_, (), rfl, rfl, by rw [ht]; exact hP, va_K.moved hW.alike hK, hAe ▸ hD⟩, hS.F ht⟩) hS.2.2 dX10_type_50
    · have hm := it_pos c_3 hm
      refine lv_bipush (v := (-4)) hx hb dX10_type_23 (by decide) ?_
      obtain rfl := Option.some.inj hm
      subst hQ
      exact W.iret (v := (-4)) hx hb hr (fun t ht hW => ⟨⟨_, (), rfl, rfl, by rw [ht]; exact hP, va_K.moved hW.alike hK, hAe ▸ hD⟩, hS.F ht⟩) hS.2.2 dX10_type_25
  · have hm := it_pos c_2 hm
    refine lv_bipush (v := (-2)) hx hb dX10_type_11 (by decide) ?_
    obtain rfl := Option.some.inj hm
    subst hQ
    exact W.iret (v := (-2)) hx hb hr (fun t ht hW => ⟨⟨_, (), rfl, rfl, by rw [ht]; exact hP, va_K.moved hW.alike hK, hAe ▸ hD⟩, hS.F ht⟩) hS.2.2 dX10_type_13

def fM_wipe  (xM_typed : Int32) : Option (Int32 × Int32) :=
  some (xM_typed, 0)

set_option maxHeartbeats 4000000 in
set_option maxRecDepth 100000 in
theorem kM_wipe (l : Launch) (dC : Nat → ClassId) (dI : Nat → Nat → Nat) (cA : ClassId) (cB : ClassId) (ad : Nat → Nat) (sz : Nat) (xM_typed : Int32) (xM_people : Int32) (xM_posted : Int32) (xM_hears : Int32) (xM_censuses : Int32) (xM_finding : Int32) (u : Int32 × Int32) (hm : fM_wipe xM_typed = some u) : Met l yX10_wipe wsX10_wipe ({ frames := 0, cells := 0, slots := 0, locals := 0 }) (va_Pc [.ref (ad 0)] (fun U => U.heap.size = sz ∧ va_P (dC, dI) vwCl [oM ad xM_typed xM_people xM_posted xM_hears xM_censuses xM_finding] U.heap ∧ va_K (dC, dI) vwCl [(cA, .int), (cB, .boolean)] U ∧ va_D (fun _ => True) [oM ad xM_typed xM_people xM_posted xM_hears xM_censuses xM_finding])) (va_Qi (fun (r : Int32) (_ : Unit) => r = u.1) (fun (_ : Unit) t => va_P (dC, dI) vwCl [oM ad u.2 xM_people xM_posted xM_hears xM_censuses xM_finding] t.heap ∧ va_K (dC, dI) vwCl [(cA, .int), (cB, .boolean)] t ∧ va_D (va_A [oM ad xM_typed xM_people xM_posted xM_hears xM_censuses xM_finding] sz) [oM ad u.2 xM_people xM_posted xM_hears xM_censuses xM_finding]) (va_A [oM ad xM_typed xM_people xM_posted xM_hears xM_censuses xM_finding] sz)) 0 0 (va_A [oM ad xM_typed xM_people xM_posted xM_hears xM_censuses xM_finding] sz) := by
  refine Met.ofW (cc := cX10_wipe) (maxL := 2) (ret := (some .int)) (by decide) rfl ?_
  intro p e s m args below meth c s₁ B hml hv
  obtain ⟨rfl, hsz, hP, hK, hD0⟩ := hv
  have hx := B.exec
  have hb := B.bytes
  have hr := B.returns
  have hts := atoms_spec (ws := wsX10_wipe) B.pre
  have hown : s.vm.findClass RX10 = some m.cls := findClass_of_methodNamed B.named
  have hlocks := B.notSynchronized
  subst hsz
  have hD := hD0.self (sz := s.heap.size)
  generalize hAe : va_A [oM ad xM_typed xM_people xM_posted xM_hears xM_censuses xM_finding] s.heap.size = A at hD ⊢
  have hA : ∀ q : Nat, s.heap.size ≤ q → A q := fun q h => by rw [← hAe]; exact Or.inr h
  have hS : va_S A s.heap s.heap [] := va_S.rf
  have hl := lv_entry ([.ref (ad 0)]) (n := 2) (Nat.le_of_ble_eq_true rfl)
  rw [lg_entry_eq]
  generalize (lg_sl ([.ref (ad 0)]) ++ List.replicate (2 - (lg_sl ([.ref (ad 0)])).length) Slot.unset).toArray = ls at hl ⊢
  have hl : lv_has ls 2 [(0, .ref (ad 0))] := hl
  refine wk_Q (fun QQ hQ => ?_)
  have hinX10 : ∀ w ∈ wsX100, w ∈ wsX10_wipe := by decide +kernel
  have hl_108 := hts (.fieldLink RX10 108 "HandCensusModel" "typed" "I") (by decide +kernel)
  unfold fM_wipe at hm
  refine lv_aload_n hx hb dX10_wipe_0 rfl (lv_at hl 0 rfl) ?_
  refine va_get (D := (dC, dI)) (ci := 10) (v := .int xM_typed) (C := RX10) (T := TX10) (N := 37) hx hb hts hinX10 hown hK hP 0 rfl rfl 0 (by decide) hl_108 (fun _ h9 => h9) rfl dX10_wipe_1 ?_
  refine lv_istore_n (lv' := [(1, .int xM_typed), (0, .ref (ad 0))]) hx hb dX10_wipe_4 rfl hl (by decide) rfl (fun ls hl => ?_)
  refine lv_aload_n hx hb dX10_wipe_5 rfl (lv_at hl 1 rfl) ?_
  refine lv_iconst (v := 0) hx hb dX10_wipe_6 (by decide) ?_
  refine va_put (D := (dC, dI)) (ci := 10) (v := .int 0) (ty := .int) (C := RX10) (T := TX10) (N := 37) hx hb hts hinX10 tyX10 tyX10_ok nmX10 hown hK hP hD hS 0 rfl rfl 0 (by decide) hl_108 (fun _ h9 => h9) rfl (by decide +kernel) rfl rfl (Nat.le_of_ble_eq_true rfl) dX10_wipe_7 (fun H locs hP hD hS => ?_)
  have hP : va_P (dC, dI) vwCl [oM ad 0 xM_people xM_posted xM_hears xM_censuses xM_finding] H := hP
  have hD : va_D A [oM ad 0 xM_people xM_posted xM_hears xM_censuses xM_finding] := hD
  refine lv_iload_n hx hb dX10_wipe_10 rfl (lv_at hl 0 rfl) ?_
  obtain rfl := Option.some.inj hm
  subst hQ
  exact W.iret (v := xM_typed) hx hb hr (fun t ht hW => ⟨⟨_, (), rfl, rfl, by rw [ht]; exact hP, va_K.moved hW.alike hK, hAe ▸ hD⟩, hS.F ht⟩) hS.2.2 dX10_wipe_11

def fM_byteAt (a1 : Int32) (xM_typed : Int32) (gMtext : Nat → Int32) : Option (Int32) :=
  (if xM_typed ≤ a1 then some (-1) else ck 60 a1 (some (gMtext a1.toNatClampNeg)))

set_option maxHeartbeats 4000000 in
set_option maxRecDepth 100000 in
theorem kM_byteAt (l : Launch) (dC : Nat → ClassId) (dI : Nat → Nat → Nat) (cA : ClassId) (cB : ClassId) (ad : Nat → Nat) (sz : Nat) (a1 : Int32) (xM_typed : Int32) (xM_people : Int32) (xM_posted : Int32) (xM_hears : Int32) (xM_censuses : Int32) (xM_finding : Int32) (gMtext : Nat → Int32) (u : Int32) (hm : fM_byteAt a1 xM_typed gMtext = some u) : Met l yX10_byteAt wsX10_byteAt ({ frames := 0, cells := 0, slots := 0, locals := 0 }) (va_Pc [.ref (ad 0), .int a1] (fun U => U.heap.size = sz ∧ va_P (dC, dI) vwCl [oM ad xM_typed xM_people xM_posted xM_hears xM_censuses xM_finding, ar (ad 1) cA 60 gMtext] U.heap ∧ va_K (dC, dI) vwCl [(cA, .int), (cB, .boolean)] U ∧ va_D (fun _ => True) [oM ad xM_typed xM_people xM_posted xM_hears xM_censuses xM_finding, ar (ad 1) cA 60 gMtext])) (va_Qi (fun (r : Int32) (_ : Unit) => r = u) (fun (_ : Unit) t => va_P (dC, dI) vwCl [oM ad xM_typed xM_people xM_posted xM_hears xM_censuses xM_finding, ar (ad 1) cA 60 gMtext] t.heap ∧ va_K (dC, dI) vwCl [(cA, .int), (cB, .boolean)] t ∧ va_D (va_A [oM ad xM_typed xM_people xM_posted xM_hears xM_censuses xM_finding, ar (ad 1) cA 60 gMtext] sz) [oM ad xM_typed xM_people xM_posted xM_hears xM_censuses xM_finding, ar (ad 1) cA 60 gMtext]) (va_A [oM ad xM_typed xM_people xM_posted xM_hears xM_censuses xM_finding, ar (ad 1) cA 60 gMtext] sz)) 0 0 (va_A [oM ad xM_typed xM_people xM_posted xM_hears xM_censuses xM_finding, ar (ad 1) cA 60 gMtext] sz) := by
  refine Met.ofW (cc := cX10_byteAt) (maxL := 2) (ret := (some .int)) (by decide) rfl ?_
  intro p e s m args below meth c s₁ B hml hv
  obtain ⟨rfl, hsz, hP, hK, hD0⟩ := hv
  have hx := B.exec
  have hb := B.bytes
  have hr := B.returns
  have hts := atoms_spec (ws := wsX10_byteAt) B.pre
  have hown : s.vm.findClass RX10 = some m.cls := findClass_of_methodNamed B.named
  have hlocks := B.notSynchronized
  subst hsz
  have hD := hD0.self (sz := s.heap.size)
  generalize hAe : va_A [oM ad xM_typed xM_people xM_posted xM_hears xM_censuses xM_finding, ar (ad 1) cA 60 gMtext] s.heap.size = A at hD ⊢
  have hA : ∀ q : Nat, s.heap.size ≤ q → A q := fun q h => by rw [← hAe]; exact Or.inr h
  have hS : va_S A s.heap s.heap [] := va_S.rf
  have hl := lv_entry ([.ref (ad 0), .int a1]) (n := 2) (Nat.le_of_ble_eq_true rfl)
  rw [lg_entry_eq]
  generalize (lg_sl ([.ref (ad 0), .int a1]) ++ List.replicate (2 - (lg_sl ([.ref (ad 0), .int a1])).length) Slot.unset).toArray = ls at hl ⊢
  have hl : lv_has ls 2 [(0, .ref (ad 0)), (1, .int a1)] := hl
  refine wk_Q (fun QQ hQ => ?_)
  have hinX10 : ∀ w ∈ wsX100, w ∈ wsX10_byteAt := by decide +kernel
  have hl_108 := hts (.fieldLink RX10 108 "HandCensusModel" "typed" "I") (by decide +kernel)
  have hl_7 := hts (.fieldLink RX10 7 "HandCensusModel" "text" "[I") (by decide +kernel)
  unfold fM_byteAt at hm
  refine lv_iload_n hx hb dX10_byteAt_0 rfl (lv_at hl 1 rfl) ?_
  refine lv_aload_n hx hb dX10_byteAt_1 rfl (lv_at hl 0 rfl) ?_
  refine va_get (D := (dC, dI)) (ci := 10) (v := .int xM_typed) (C := RX10) (T := TX10) (N := 37) hx hb hts hinX10 hown hK hP 0 rfl rfl 0 (by decide) hl_108 (fun _ h9 => h9) rfl dX10_byteAt_2 ?_
  refine lv_icmp_ge (tgt := 17) hx hb dX10_byteAt_5 (by decide) (fun c_1 => ?_) (fun c_1 => ?_)
  · have hm := it_pos c_1 hm
    refine lv_iconst (v := (-1)) hx hb dX10_byteAt_17 (by decide) ?_
    obtain rfl := Option.some.inj hm
    subst hQ
    exact W.iret (v := (-1)) hx hb hr (fun t ht hW => ⟨⟨_, (), rfl, rfl, by rw [ht]; exact hP, va_K.moved hW.alike hK, hAe ▸ hD⟩, hS.F ht⟩) hS.2.2 dX10_byteAt_18
  · have hm := it_neg c_1 hm
    refine lv_aload_n hx hb dX10_byteAt_8 rfl (lv_at hl 0 rfl) ?_
    refine va_get (D := (dC, dI)) (ci := 10) (v := .ref (ad 1)) (C := RX10) (T := TX10) (N := 37) hx hb hts hinX10 hown hK hP 0 rfl rfl 1 (by decide) hl_7 (fun _ h9 => h9) rfl dX10_byteAt_9 ?_
    refine lv_iload_n hx hb dX10_byteAt_12 rfl (lv_at hl 1 rfl) ?_
    obtain ⟨i_2, hm⟩ := ck_ok hm
    refine va_iald hx hb hK hP 1 0 rfl rfl i_2 dX10_byteAt_13 ?_
    refine lv_goto (tgt := 18) hx hb dX10_byteAt_14 (by decide) ?_
    obtain rfl := Option.some.inj hm
    subst hQ
    exact W.iret (v := (gMtext a1.toNatClampNeg)) hx hb hr (fun t ht hW => ⟨⟨_, (), rfl, rfl, by rw [ht]; exact hP, va_K.moved hW.alike hK, hAe ▸ hD⟩, hS.F ht⟩) hS.2.2 dX10_byteAt_18

def fM_kindOf (a0 : Int32)  : Option (Int32) :=
  (if a0 = 112 then some 0 else (if a0 = 116 then some 1 else (if a0 = 99 then some 2 else (if a0 = 100 then some 3 else some (-1)))))

set_option maxHeartbeats 4000000 in
set_option maxRecDepth 100000 in
theorem kM_kindOf (l : Launch) (dC : Nat → ClassId) (dI : Nat → Nat → Nat) (cA : ClassId) (cB : ClassId) (ad : Nat → Nat) (sz : Nat) (a0 : Int32) (u : Int32) (hm : fM_kindOf a0 = some u) : Met l yX10_kindOf wsX10_kindOf ({ frames := 0, cells := 0, slots := 0, locals := 0 }) (va_Pc [.int a0] (fun U => U.heap.size = sz ∧ va_P (dC, dI) vwCl [] U.heap ∧ va_K (dC, dI) vwCl [(cA, .int), (cB, .boolean)] U ∧ va_D (fun _ => True) [])) (va_Qi (fun (r : Int32) (_ : Unit) => r = u) (fun (_ : Unit) t => va_P (dC, dI) vwCl [] t.heap ∧ va_K (dC, dI) vwCl [(cA, .int), (cB, .boolean)] t ∧ va_D (va_A [] sz) []) (va_A [] sz)) 0 0 (va_A [] sz) := by
  refine Met.ofW (cc := cX10_kindOf) (maxL := 1) (ret := (some .int)) (by decide) rfl ?_
  intro p e s m args below meth c s₁ B hml hv
  obtain ⟨rfl, hsz, hP, hK, hD0⟩ := hv
  have hx := B.exec
  have hb := B.bytes
  have hr := B.returns
  have hts := atoms_spec (ws := wsX10_kindOf) B.pre
  have hown : s.vm.findClass RX10 = some m.cls := findClass_of_methodNamed B.named
  have hlocks := B.notSynchronized
  subst hsz
  have hD := hD0.self (sz := s.heap.size)
  generalize hAe : va_A [] s.heap.size = A at hD ⊢
  have hA : ∀ q : Nat, s.heap.size ≤ q → A q := fun q h => by rw [← hAe]; exact Or.inr h
  have hS : va_S A s.heap s.heap [] := va_S.rf
  have hl := lv_entry ([.int a0]) (n := 1) (Nat.le_of_ble_eq_true rfl)
  rw [lg_entry_eq]
  generalize (lg_sl ([.int a0]) ++ List.replicate (1 - (lg_sl ([.int a0])).length) Slot.unset).toArray = ls at hl ⊢
  have hl : lv_has ls 1 [(0, .int a0)] := hl
  refine wk_Q (fun QQ hQ => ?_)
  unfold fM_kindOf at hm
  refine lv_iload_n hx hb dX10_kindOf_0 rfl (lv_at hl 0 rfl) ?_
  refine lv_bipush (v := 112) hx hb dX10_kindOf_1 (by decide) ?_
  refine lv_icmp_ne (tgt := 10) hx hb dX10_kindOf_3 (by decide) (fun c_1 => ?_) (fun c_1 => ?_)
  · have hm := it_neg c_1 hm
    refine lv_iload_n hx hb dX10_kindOf_10 rfl (lv_at hl 0 rfl) ?_
    refine lv_bipush (v := 116) hx hb dX10_kindOf_11 (by decide) ?_
    refine lv_icmp_ne (tgt := 20) hx hb dX10_kindOf_13 (by decide) (fun c_2 => ?_) (fun c_2 => ?_)
    · have hm := it_neg c_2 hm
      refine lv_iload_n hx hb dX10_kindOf_20 rfl (lv_at hl 0 rfl) ?_
      refine lv_bipush (v := 99) hx hb dX10_kindOf_21 (by decide) ?_
      refine lv_icmp_ne (tgt := 30) hx hb dX10_kindOf_23 (by decide) (fun c_3 => ?_) (fun c_3 => ?_)
      · have hm := it_neg c_3 hm
        refine lv_iload_n hx hb dX10_kindOf_30 rfl (lv_at hl 0 rfl) ?_
        refine lv_bipush (v := 100) hx hb dX10_kindOf_31 (by decide) ?_
        refine lv_icmp_ne (tgt := 40) hx hb dX10_kindOf_33 (by decide) (fun c_4 => ?_) (fun c_4 => ?_)
        · have hm := it_neg c_4 hm
          refine lv_iconst (v := (-1)) hx hb dX10_kindOf_40 (by decide) ?_
          obtain rfl := Option.some.inj hm
          subst hQ
          exact W.iret (v := (-1)) hx hb hr (fun t ht hW => ⟨⟨_, (), rfl, rfl, by rw [ht]; exact hP, va_K.moved hW.alike hK, hAe ▸ hD⟩, hS.F ht⟩) hS.2.2 dX10_kindOf_41
        · have hm := it_pos c_4 hm
          refine lv_iconst (v := 3) hx hb dX10_kindOf_36 (by decide) ?_
          refine lv_goto (tgt := 41) hx hb dX10_kindOf_37 (by decide) ?_
          obtain rfl := Option.some.inj hm
          subst hQ
          exact W.iret (v := 3) hx hb hr (fun t ht hW => ⟨⟨_, (), rfl, rfl, by rw [ht]; exact hP, va_K.moved hW.alike hK, hAe ▸ hD⟩, hS.F ht⟩) hS.2.2 dX10_kindOf_41
      · have hm := it_pos c_3 hm
        refine lv_iconst (v := 2) hx hb dX10_kindOf_26 (by decide) ?_
        refine lv_goto (tgt := 41) hx hb dX10_kindOf_27 (by decide) ?_
        obtain rfl := Option.some.inj hm
        subst hQ
        exact W.iret (v := 2) hx hb hr (fun t ht hW => ⟨⟨_, (), rfl, rfl, by rw [ht]; exact hP, va_K.moved hW.alike hK, hAe ▸ hD⟩, hS.F ht⟩) hS.2.2 dX10_kindOf_41
    · have hm := it_pos c_2 hm
      refine lv_iconst (v := 1) hx hb dX10_kindOf_16 (by decide) ?_
      refine lv_goto (tgt := 41) hx hb dX10_kindOf_17 (by decide) ?_
      obtain rfl := Option.some.inj hm
      subst hQ
      exact W.iret (v := 1) hx hb hr (fun t ht hW => ⟨⟨_, (), rfl, rfl, by rw [ht]; exact hP, va_K.moved hW.alike hK, hAe ▸ hD⟩, hS.F ht⟩) hS.2.2 dX10_kindOf_41
  · have hm := it_pos c_1 hm
    refine lv_iconst (v := 0) hx hb dX10_kindOf_6 (by decide) ?_
    refine lv_goto (tgt := 41) hx hb dX10_kindOf_7 (by decide) ?_
    obtain rfl := Option.some.inj hm
    subst hQ
    exact W.iret (v := 0) hx hb hr (fun t ht hW => ⟨⟨_, (), rfl, rfl, by rw [ht]; exact hP, va_K.moved hW.alike hK, hAe ▸ hD⟩, hS.F ht⟩) hS.2.2 dX10_kindOf_41

def fM_holds (a1 : Int32) (a2 : Int32) (gMhands : Nat → Int32) : Option ((Nat → Int32)) :=
  ck 20 a1 (ck 20 a1 (ck 20 a2 (ck 20 a2 (some (upd (upd gMhands a1.toNatClampNeg ((gMhands a1.toNatClampNeg) ||| (1 <<< (a2 &&& 31)))) a2.toNatClampNeg (((upd gMhands a1.toNatClampNeg ((gMhands a1.toNatClampNeg) ||| (1 <<< (a2 &&& 31)))) a2.toNatClampNeg) ||| (1 <<< (a1 &&& 31))))))))

set_option maxHeartbeats 4000000 in
set_option maxRecDepth 100000 in
theorem kM_holds (l : Launch) (dC : Nat → ClassId) (dI : Nat → Nat → Nat) (cA : ClassId) (cB : ClassId) (ad : Nat → Nat) (sz : Nat) (a1 : Int32) (a2 : Int32) (xM_typed : Int32) (xM_people : Int32) (xM_posted : Int32) (xM_hears : Int32) (xM_censuses : Int32) (xM_finding : Int32) (gMhands : Nat → Int32) (u : (Nat → Int32)) (hm : fM_holds a1 a2 gMhands = some u) : Met l yX10_holds wsX10_holds ({ frames := 0, cells := 0, slots := 0, locals := 0 }) (va_Pc [.ref (ad 0), .int a1, .int a2] (fun U => U.heap.size = sz ∧ va_P (dC, dI) vwCl [oM ad xM_typed xM_people xM_posted xM_hears xM_censuses xM_finding, ar (ad 5) cA 20 gMhands] U.heap ∧ va_K (dC, dI) vwCl [(cA, .int), (cB, .boolean)] U ∧ va_D (fun _ => True) [oM ad xM_typed xM_people xM_posted xM_hears xM_censuses xM_finding, ar (ad 5) cA 20 gMhands])) (va_Qv (fun (_ : Unit) => True) (fun (_ : Unit) t => va_P (dC, dI) vwCl [oM ad xM_typed xM_people xM_posted xM_hears xM_censuses xM_finding, ar (ad 5) cA 20 u] t.heap ∧ va_K (dC, dI) vwCl [(cA, .int), (cB, .boolean)] t ∧ va_D (va_A [oM ad xM_typed xM_people xM_posted xM_hears xM_censuses xM_finding, ar (ad 5) cA 20 gMhands] sz) [oM ad xM_typed xM_people xM_posted xM_hears xM_censuses xM_finding, ar (ad 5) cA 20 u]) (va_A [oM ad xM_typed xM_people xM_posted xM_hears xM_censuses xM_finding, ar (ad 5) cA 20 gMhands] sz)) 0 0 (va_A [oM ad xM_typed xM_people xM_posted xM_hears xM_censuses xM_finding, ar (ad 5) cA 20 gMhands] sz) := by
  refine Met.ofW (cc := cX10_holds) (maxL := 3) (ret := none) (by decide) rfl ?_
  intro p e s m args below meth c s₁ B hml hv
  obtain ⟨rfl, hsz, hP, hK, hD0⟩ := hv
  have hx := B.exec
  have hb := B.bytes
  have hr := B.returns
  have hts := atoms_spec (ws := wsX10_holds) B.pre
  have hown : s.vm.findClass RX10 = some m.cls := findClass_of_methodNamed B.named
  have hlocks := B.notSynchronized
  subst hsz
  have hD := hD0.self (sz := s.heap.size)
  generalize hAe : va_A [oM ad xM_typed xM_people xM_posted xM_hears xM_censuses xM_finding, ar (ad 5) cA 20 gMhands] s.heap.size = A at hD ⊢
  have hA : ∀ q : Nat, s.heap.size ≤ q → A q := fun q h => by rw [← hAe]; exact Or.inr h
  have hS : va_S A s.heap s.heap [] := va_S.rf
  have hl := lv_entry ([.ref (ad 0), .int a1, .int a2]) (n := 3) (Nat.le_of_ble_eq_true rfl)
  rw [lg_entry_eq]
  generalize (lg_sl ([.ref (ad 0), .int a1, .int a2]) ++ List.replicate (3 - (lg_sl ([.ref (ad 0), .int a1, .int a2])).length) Slot.unset).toArray = ls at hl ⊢
  have hl : lv_has ls 3 [(0, .ref (ad 0)), (1, .int a1), (2, .int a2)] := hl
  refine wk_Q (fun QQ hQ => ?_)
  have hinX10 : ∀ w ∈ wsX100, w ∈ wsX10_holds := by decide +kernel
  have hl_22 := hts (.fieldLink RX10 22 "HandCensusModel" "hands" "[I") (by decide +kernel)
  unfold fM_holds at hm
  refine lv_aload_n hx hb dX10_holds_0 rfl (lv_at hl 0 rfl) ?_
  refine va_get (D := (dC, dI)) (ci := 10) (v := .ref (ad 5)) (C := RX10) (T := TX10) (N := 37) hx hb hts hinX10 hown hK hP 0 rfl rfl 6 (by decide) hl_22 (fun _ h9 => h9) rfl dX10_holds_1 ?_
  refine lv_iload_n hx hb dX10_holds_4 rfl (lv_at hl 1 rfl) ?_
  refine lv_dup2_11 hx hb dX10_holds_5 rfl rfl ?_
  obtain ⟨i_1, hm⟩ := ck_ok hm
  refine va_iald hx hb hK hP 1 0 rfl rfl i_1 dX10_holds_6 ?_
  refine lv_iconst (v := 1) hx hb dX10_holds_7 (by decide) ?_
  refine lv_iload_n hx hb dX10_holds_8 rfl (lv_at hl 2 rfl) ?_
  refine lv_ishl hx hb dX10_holds_9 ?_
  refine lv_ior hx hb dX10_holds_10 ?_
  obtain ⟨i_2, hm⟩ := ck_ok hm
  refine va_iast hx hb hK hP hD hS 1 0 rfl rfl i_2 dX10_holds_11 (fun H locs hP hD hS => ?_)
  have hP : va_P (dC, dI) vwCl [oM ad xM_typed xM_people xM_posted xM_hears xM_censuses xM_finding, ar (ad 5) cA 20 (upd gMhands a1.toNatClampNeg ((gMhands a1.toNatClampNeg) ||| (1 <<< (a2 &&& 31))))] H := hP
  have hD : va_D A [oM ad xM_typed xM_people xM_posted xM_hears xM_censuses xM_finding, ar (ad 5) cA 20 (upd gMhands a1.toNatClampNeg ((gMhands a1.toNatClampNeg) ||| (1 <<< (a2 &&& 31))))] := hD
  refine lv_aload_n hx hb dX10_holds_12 rfl (lv_at hl 0 rfl) ?_
  refine va_get (D := (dC, dI)) (ci := 10) (v := .ref (ad 5)) (C := RX10) (T := TX10) (N := 37) hx hb hts hinX10 hown hK hP 0 rfl rfl 6 (by decide) hl_22 (fun _ h9 => h9) rfl dX10_holds_13 ?_
  refine lv_iload_n hx hb dX10_holds_16 rfl (lv_at hl 2 rfl) ?_
  refine lv_dup2_11 hx hb dX10_holds_17 rfl rfl ?_
  obtain ⟨i_3, hm⟩ := ck_ok hm
  refine va_iald hx hb hK hP 1 0 rfl rfl i_3 dX10_holds_18 ?_
  refine lv_iconst (v := 1) hx hb dX10_holds_19 (by decide) ?_
  refine lv_iload_n hx hb dX10_holds_20 rfl (lv_at hl 1 rfl) ?_
  refine lv_ishl hx hb dX10_holds_21 ?_
  refine lv_ior hx hb dX10_holds_22 ?_
  obtain ⟨i_4, hm⟩ := ck_ok hm
  refine va_iast hx hb hK hP hD hS 1 0 rfl rfl i_4 dX10_holds_23 (fun H locs hP hD hS => ?_)
  have hP : va_P (dC, dI) vwCl [oM ad xM_typed xM_people xM_posted xM_hears xM_censuses xM_finding, ar (ad 5) cA 20 (upd (upd gMhands a1.toNatClampNeg ((gMhands a1.toNatClampNeg) ||| (1 <<< (a2 &&& 31)))) a2.toNatClampNeg (((upd gMhands a1.toNatClampNeg ((gMhands a1.toNatClampNeg) ||| (1 <<< (a2 &&& 31)))) a2.toNatClampNeg) ||| (1 <<< (a1 &&& 31))))] H := hP
  have hD : va_D A [oM ad xM_typed xM_people xM_posted xM_hears xM_censuses xM_finding, ar (ad 5) cA 20 (upd (upd gMhands a1.toNatClampNeg ((gMhands a1.toNatClampNeg) ||| (1 <<< (a2 &&& 31)))) a2.toNatClampNeg (((upd gMhands a1.toNatClampNeg ((gMhands a1.toNatClampNeg) ||| (1 <<< (a2 &&& 31)))) a2.toNatClampNeg) ||| (1 <<< (a1 &&& 31))))] := hD
  obtain rfl := Option.some.inj hm
  subst hQ
  exact W.vret hx hb hr (fun t ht hW => ⟨⟨(), rfl, trivial, by rw [ht]; exact hP, va_K.moved hW.alike hK, hAe ▸ hD⟩, hS.F ht⟩) hS.2.2 dX10_holds_24
