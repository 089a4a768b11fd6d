/-! ===== the law's loop ===== -/
theorem and63 (x : Int32) : ∃ k : Nat, k < 64 ∧ x &&& 63 = nI k := by
  refine ⟨(x.toBitVec &&& 63#32).toNat, ?_, ?_⟩
  · rw [BitVec.toNat_and]
    exact Nat.lt_of_le_of_lt Nat.and_le_right (by decide)
  · apply Int32.toBitVec_inj.mp
    rw [Int32.toBitVec_and]
    show _ = BitVec.ofNat 32 _
    rw [BitVec.ofNat_toNat, BitVec.setWidth_eq]
    rfl
theorem sub6 : ∀ k : Nat, k < 6 → nI k - 6 < (0 : Int32) := by decide
set_option maxHeartbeats 8000000 in
set_option maxRecDepth 100000 in
theorem law_loop {p : Program} {l : Launch} {e : Env} {s : State} {m : MethodId} {below : List Frame} {meth : Method} {c : Code} {dC : Nat → ClassId} {dI : Nat → Nat → Nat} {cA cB : ClassId} {ad am : Nat → Nat} {b L : Nat} {xs : Nat → Int32} (hL : L ≤ 3072) (C0 : lw_At p s m meth c b L xs) (hK : va_K (dC, dI) vwCl [(cA, .int), (cB, .boolean)] s) : ∀ (n i : Nat) (ci : Nat → Int32) (ca : Nat → Nat → Int32) (ne : Nat) (mi : Nat → Int32) (ma : Nat → Nat → Int32) (qe : Nat) (H : Heap) (locs : List Loc) (ls : Array Slot), i ≤ L → L < i + 6 * n → RelB ci ca ne mi ma → va_P (dC, dI) vwCl [oHC ad (ci 0) (ci 1) (ci 2) (ci 3), oRow ad (ci 4) (ci 5) (ci 6) (ci 7) (ci 8) (ci 9), ar (ad 2) cA 60 (ca 0), ar (ad 3) cA 20 (ca 1), ar (ad 4) cA 20 (ca 2), ar (ad 5) cA 20 (ca 3), ar (ad 6) cA 20 (ca 4), ar (ad 7) cA 4 (ca 5), ar (ad 8) cA 4 (ca 6), oST ad (ci 10) (ci 11) (ci 12), ar (ad 10) cA 640 (ca 7), ar (ad 11) cA 20 (ca 8), ar (ad 12) cA 20 (ca 9), ar (ad 13) cA 20 (ca 10), ar (ad 14) cA 20 (ca 11), oDia ad qe (ci 13), ar qe cA ne (ca 12), oSU ad (ci 14) (ci 15) (ci 16), ar (ad 18) cA 640 (ca 13), ar (ad 19) cA 20 (ca 14), ar (ad 20) cA 20 (ca 15), ar (ad 21) cA 20 (ca 16), ar (ad 22) cA 20 (ca 17), oBeg ad (ci 17) (ci 18) (ci 19) (ci 20), oSlp ad (ci 21), ar (ad 25) cA 400 (ca 18), oPos ad (ci 22) (ci 23) (ci 24) (ci 25), ar (ad 27) cA 20 (ca 19), ar (ad 28) cA 20 (ca 20), ar (ad 29) cA 120 (ca 21), oHea ad (ci 26), ar (ad 31) cA 12 (ca 22), ar (ad 32) cA 12 (ca 23), oReg ad (ci 27), ar (ad 34) cA 8 (ca 24), ar (ad 35) cA 8 (ca 25), ar (ad 36) cA 100 (ca 26), ar (ad 37) cA 8 (ca 27), oShe ad (ci 28), ar (ad 39) cA 240 (ca 28), ar (ad 40) cA 4 (ca 29), ar (ad 41) cA 4 (ca 30), oM am (mi 0) (mi 1) (mi 2) (mi 3) (mi 4) (mi 5), ar (am 1) cA 60 (ma 0), ar (am 2) cA 20 (ma 1), ar (am 3) cA 20 (ma 2), ar (am 4) cA 20 (ma 3), ar (am 5) cA 20 (ma 4), ar (am 6) cA 20 (ma 5), ar (am 7) cA 20 (ma 6), ar (am 8) cA 4 (ma 7), ar (am 9) cA 4 (ma 8), ar (am 10) cA 4 (ma 9), ar (am 11) cA 3 (ma 10), ar (am 12) cA 3 (ma 11), ar (am 13) cA 8020 (ma 12), ar (am 14) cA 20 (ma 13), ar (am 15) cA 20 (ma 14), ar (am 16) cA 8020 (ma 15), ar (am 17) cA 8020 (ma 16), ar (am 18) cA 20 (ma 17), ar (am 19) cA 20 (ma 18), ar (am 20) cA 5 (ma 19), ar (am 21) cA 5 (ma 20), ar (am 22) cA 12 (ma 21), ar (am 23) cA 12 (ma 22), ar (am 24) cA 8 (ma 23), ar (am 25) cA 8 (ma 24), ar (am 26) cA 100 (ma 25), ar (am 27) cB 4 (ma 26), ar (am 28) cA 4 (ma 27), ar (am 29) cA 4 (ma 28), ar (am 30) cA 240 (ma 29), ar (am 31) cA 60 (ma 30)] H → va_D (fun q : Nat => s.heap.size ≤ q) [oHC ad (ci 0) (ci 1) (ci 2) (ci 3), oRow ad (ci 4) (ci 5) (ci 6) (ci 7) (ci 8) (ci 9), ar (ad 2) cA 60 (ca 0), ar (ad 3) cA 20 (ca 1), ar (ad 4) cA 20 (ca 2), ar (ad 5) cA 20 (ca 3), ar (ad 6) cA 20 (ca 4), ar (ad 7) cA 4 (ca 5), ar (ad 8) cA 4 (ca 6), oST ad (ci 10) (ci 11) (ci 12), ar (ad 10) cA 640 (ca 7), ar (ad 11) cA 20 (ca 8), ar (ad 12) cA 20 (ca 9), ar (ad 13) cA 20 (ca 10), ar (ad 14) cA 20 (ca 11), oDia ad qe (ci 13), ar qe cA ne (ca 12), oSU ad (ci 14) (ci 15) (ci 16), ar (ad 18) cA 640 (ca 13), ar (ad 19) cA 20 (ca 14), ar (ad 20) cA 20 (ca 15), ar (ad 21) cA 20 (ca 16), ar (ad 22) cA 20 (ca 17), oBeg ad (ci 17) (ci 18) (ci 19) (ci 20), oSlp ad (ci 21), ar (ad 25) cA 400 (ca 18), oPos ad (ci 22) (ci 23) (ci 24) (ci 25), ar (ad 27) cA 20 (ca 19), ar (ad 28) cA 20 (ca 20), ar (ad 29) cA 120 (ca 21), oHea ad (ci 26), ar (ad 31) cA 12 (ca 22), ar (ad 32) cA 12 (ca 23), oReg ad (ci 27), ar (ad 34) cA 8 (ca 24), ar (ad 35) cA 8 (ca 25), ar (ad 36) cA 100 (ca 26), ar (ad 37) cA 8 (ca 27), oShe ad (ci 28), ar (ad 39) cA 240 (ca 28), ar (ad 40) cA 4 (ca 29), ar (ad 41) cA 4 (ca 30), oM am (mi 0) (mi 1) (mi 2) (mi 3) (mi 4) (mi 5), ar (am 1) cA 60 (ma 0), ar (am 2) cA 20 (ma 1), ar (am 3) cA 20 (ma 2), ar (am 4) cA 20 (ma 3), ar (am 5) cA 20 (ma 4), ar (am 6) cA 20 (ma 5), ar (am 7) cA 20 (ma 6), ar (am 8) cA 4 (ma 7), ar (am 9) cA 4 (ma 8), ar (am 10) cA 4 (ma 9), ar (am 11) cA 3 (ma 10), ar (am 12) cA 3 (ma 11), ar (am 13) cA 8020 (ma 12), ar (am 14) cA 20 (ma 13), ar (am 15) cA 20 (ma 14), ar (am 16) cA 8020 (ma 15), ar (am 17) cA 8020 (ma 16), ar (am 18) cA 20 (ma 17), ar (am 19) cA 20 (ma 18), ar (am 20) cA 5 (ma 19), ar (am 21) cA 5 (ma 20), ar (am 22) cA 12 (ma 21), ar (am 23) cA 12 (ma 22), ar (am 24) cA 8 (ma 23), ar (am 25) cA 8 (ma 24), ar (am 26) cA 100 (ma 25), ar (am 27) cB 4 (ma 26), ar (am 28) cA 4 (ma 27), ar (am 29) cA 4 (ma 28), ar (am 30) cA 240 (ma 29), ar (am 31) cA 60 (ma 30)] → va_S (fun q : Nat => s.heap.size ≤ q) s.heap H locs → lv_has ls 4 [(0, .ref b), (1, .ref (ad 0)), (2, .ref (am 0)), (3, .int (nI i))] → W p l e room_1 s m #[Value.ref b] below meth c H locs (80 + (ne - 64)) (28000 + 2 * (ne - 64)) (lw_Z below #[Value.ref b] s) (F0 m 18 ls []) := by
  obtain ⟨hx, hb, hr, hml, hown0, hts0, hX, hbl, hlocks, hgv⟩ := C0
  have hown : s.vm.findClass RL = some m.cls := hown0
  have hts : ∀ w ∈ wsL_law, w.before #[Value.ref b] s = true := fun w h => hts0 w (wsL_tbl w h)
  have hbA : ¬ (fun q : Nat => s.heap.size ≤ q) b := Nat.not_le.mpr hbl
  intro n
  induction n with
  | zero =>
    intro i ci ca ne mi ma qe H locs ls hi hin
    exact absurd hin (by omega)
  | succ n ih =>
    intro i ci ca ne mi ma qe H locs ls hi hin hR hP hD hS hl
    have hne := RelB_ne hR
    refine lv_iload_n hx hb dL_law_18 rfl (lv_at hl 3 rfl) ?_
    refine lv_aload_n hx hb dL_law_19 rfl (lv_at hl 0 rfl) ?_
    refine va_slen hx hb hX hbl hbA hS dL_law_20 ?_
    refine lv_bipush (v := 6) hx hb dL_law_21 (by decide) ?_
    refine lv_isub hx hb dL_law_23 ?_
    refine lv_icmp_gt (tgt := 1227) hx hb dL_law_24 (by decide) (fun _ => ?_) (fun c9 => ?_)
    · refine lv_iconst (v := 1) hx hb dL_law_1227 (by decide) ?_
      refine va_forget (fun q hq => hS.2.2 q hq) ?_
      refine W.widen (k := 600000) (n := 7302250) (by omega) (by omega) ?_
      exact lw_ret hx hb hr hlocks dL_law_1228
    · have hi6 : i + 6 ≤ L := by
        rcases Nat.lt_or_ge L 6 with q | q
        · exact absurd (show nI L - 6 < nI i from neg_le_nI (sub6 L q) i (by omega)) c9
        · have e1 : Int32.ofNat L - 6 = nI (L - 6) := pk_sub (a := L) (b := 6) q
          rw [e1] at c9
          have : ¬ L - 6 < i := fun w => c9 (nI_lt w (by omega))
          omega
      refine lv_aload_n hx hb dL_law_27 rfl (lv_at hl 0 rfl) ?_
      refine lv_iload_n hx hb dL_law_28 rfl (lv_at hl 3 rfl) ?_
      refine va_sld hx hb hX hbl hbA hS (vp_in_nI (show i < L by omega) (by omega)) dL_law_29 ?_
      rw [nI_clamp (show i < 2 ^ 31 by omega)]
      refine lv_bipush (v := 63) hx hb dL_law_30 (by decide) ?_
      refine lv_iand hx hb dL_law_32 ?_
      obtain ⟨k, hk, ek⟩ := and63 (xs i)
      rw [ek]
      have kk : lw_next p l e s m below meth c dC dI cA cB ad am b i ne (lw_Z below #[Value.ref b] s) := fun ci ca ne mi ma qe H locs ls _ hR hP hD hS hl => by
        refine lv_iinc (v := nI (i + 6)) (lv' := [(3, .int (nI (i + 6))), (0, .ref b), (1, .ref (ad 0)), (2, .ref (am 0))]) hx hb dL_law_1221 hl (k := 3) rfl (by rw [show Int32.ofInt 6 = nI 6 from rfl]; exact nI_add i 6) (by decide) rfl (fun ls hl => ?_)
        refine lv_goto (tgt := 18) hx hb dL_law_1224 (by decide) ?_
        exact ih (i + 6) ci ca ne mi ma qe H locs ls (by omega) (by omega) hR hP hD hS (lv_sub hl [1, 2, 3, 0] rfl)
      clear ih
      rcases (show k = 0 ∨ k = 1 ∨ k = 2 ∨ k = 3 ∨ k = 4 ∨ k = 5 ∨ k = 6 ∨ k = 7 ∨ k = 8 ∨ k = 9 ∨ k = 10 ∨ k = 11 ∨ k = 12 ∨ k = 13 ∨ k = 14 ∨ k = 15 ∨ k = 16 ∨ k = 17 ∨ k = 18 ∨ k = 19 ∨ k = 20 ∨ k = 21 ∨ k = 22 ∨ k = 23 ∨ k = 24 ∨ k = 25 ∨ k = 26 ∨ k = 27 ∨ k = 28 ∨ k = 29 ∨ k = 30 ∨ k = 31 ∨ k = 32 ∨ k = 33 ∨ k = 34 ∨ k = 35 ∨ 36 ≤ k by omega) with rfl | rfl | rfl | rfl | rfl | rfl | rfl | rfl | rfl | rfl | rfl | rfl | rfl | rfl | rfl | rfl | rfl | rfl | rfl | rfl | rfl | rfl | rfl | rfl | rfl | rfl | rfl | rfl | rfl | rfl | rfl | rfl | rfl | rfl | rfl | rfl | q
      · refine lv_tableIn (tgt := 192) (off := 159) hx hb dL_law_33 (by decide) (by decide) (by decide) (by decide) ?_
        exact lc_type hL hx hb hml hown hts hX hbl hK _ i hi6 ci ca ne mi ma hR qe H locs hP hD hS ls hl kk
      · refine lv_tableIn (tgt := 215) (off := 182) hx hb dL_law_33 (by decide) (by decide) (by decide) (by decide) ?_
        exact lc_wipe hL hx hb hml hown hts hX hbl hK _ i hi6 ci ca ne mi ma hR qe H locs hP hD hS ls hl kk
      · refine lv_tableIn (tgt := 228) (off := 195) hx hb dL_law_33 (by decide) (by decide) (by decide) (by decide) ?_
        exact lc_fault hL hx hb hml hown hts hX hbl hK _ i hi6 ci ca ne mi ma hR qe H locs hP hD hS ls hl kk
      · refine lv_tableIn (tgt := 241) (off := 208) hx hb dL_law_33 (by decide) (by decide) (by decide) (by decide) ?_
        exact lc_person hL hx hb hml hown hts hX hbl hK _ i hi6 ci ca ne mi ma hR qe H locs hP hD hS ls hl kk
      · refine lv_tableIn (tgt := 274) (off := 241) hx hb dL_law_33 (by decide) (by decide) (by decide) (by decide) ?_
        exact lc_set hL hx hb hml hown hts hX hbl hK _ i hi6 ci ca ne mi ma hR qe H locs hP hD hS ls hl kk
      · refine lv_tableIn (tgt := 307) (off := 274) hx hb dL_law_33 (by decide) (by decide) (by decide) (by decide) ?_
        exact lc_felt hL hx hb hml hown hts hX hbl hK _ i hi6 ci ca ne mi ma hR qe H locs hP hD hS ls hl kk
      · refine lv_tableIn (tgt := 340) (off := 307) hx hb dL_law_33 (by decide) (by decide) (by decide) (by decide) ?_
        exact lc_many hL hx hb hml hown hts hX hbl hK _ i hi6 ci ca ne mi ma hR qe H locs hP hD hS ls hl kk
      · refine lv_tableIn (tgt := 373) (off := 340) hx hb dL_law_33 (by decide) (by decide) (by decide) (by decide) ?_
        exact lc_lost hL hx hb hml hown hts hX hbl hK _ i hi6 ci ca ne mi ma hR qe H locs hP hD hS ls hl kk
      · refine lv_tableIn (tgt := 406) (off := 373) hx hb dL_law_33 (by decide) (by decide) (by decide) (by decide) ?_
        exact lc_from hL hx hb hml hown hts hX hbl hK _ i hi6 ci ca ne mi ma hR qe H locs hP hD hS ls hl kk
      · refine lv_tableIn (tgt := 439) (off := 406) hx hb dL_law_33 (by decide) (by decide) (by decide) (by decide) ?_
        exact lc_reached hL hx hb hml hown hts hX hbl hK _ i hi6 ci ca ne mi ma hR qe H locs hP hD hS ls hl kk
      · refine lv_tableIn (tgt := 452) (off := 419) hx hb dL_law_33 (by decide) (by decide) (by decide) (by decide) ?_
        exact lc_last hL hx hb hml hown hts hX hbl hK _ i hi6 ci ca ne mi ma hR qe H locs hP hD hS ls hl kk
      · refine lv_tableIn (tgt := 465) (off := 432) hx hb dL_law_33 (by decide) (by decide) (by decide) (by decide) ?_
        exact lc_twice hL hx hb hml hown hts hX hbl hK _ i hi6 ci ca ne mi ma hR qe H locs hP hD hS ls hl kk
      · refine lv_tableIn (tgt := 478) (off := 445) hx hb dL_law_33 (by decide) (by decide) (by decide) (by decide) ?_
        exact lc_round hL hx hb hml hown hts hX hbl hK _ i hi6 ci ca ne mi ma hR qe H locs hP hD hS ls hl kk
      · refine lv_tableIn (tgt := 501) (off := 468) hx hb dL_law_33 (by decide) (by decide) (by decide) (by decide) ?_
        exact lc_begin hL hx hb hml hown hts hX hbl hK _ i hi6 ci ca ne mi ma hR qe H locs hP hD hS ls hl kk
      · refine lv_tableIn (tgt := 524) (off := 491) hx hb dL_law_33 (by decide) (by decide) (by decide) (by decide) ?_
        exact lc_passed hL hx hb hml hown hts hX hbl hK _ i hi6 ci ca ne mi ma hR qe H locs hP hD hS ls hl kk
      · refine lv_tableIn (tgt := 547) (off := 514) hx hb dL_law_33 (by decide) (by decide) (by decide) (by decide) ?_
        exact lc_spans hL hx hb hml hown hts hX hbl hK _ i hi6 ci ca ne mi ma hR qe H locs hP hD hS ls hl kk
      · refine lv_tableIn (tgt := 610) (off := 577) hx hb dL_law_33 (by decide) (by decide) (by decide) (by decide) ?_
        exact lc_limits hL hx hb hml hown hts hX hbl hK _ i hi6 ci ca ne mi ma hR qe H locs hP hD hS ls hl kk
      · refine lv_tableIn (tgt := 653) (off := 620) hx hb dL_law_33 (by decide) (by decide) (by decide) (by decide) ?_
        exact lc_doubt hL hx hb hml hown hts hX hbl hK _ i hi6 ci ca ne mi ma hR qe H locs hP hD hS ls hl kk
      · refine lv_tableIn (tgt := 686) (off := 653) hx hb dL_law_33 (by decide) (by decide) (by decide) (by decide) ?_
        exact lc_posts hL hx hb hml hown hts hX hbl hK _ i hi6 ci ca ne mi ma hR qe H locs hP hD hS ls hl kk
      · refine lv_tableIn (tgt := 709) (off := 676) hx hb dL_law_33 (by decide) (by decide) (by decide) (by decide) ?_
        exact lc_heard hL hx hb hml hown hts hX hbl hK _ i hi6 ci ca ne mi ma hR qe H locs hP hD hS ls hl kk
      · refine lv_tableIn (tgt := 742) (off := 709) hx hb dL_law_33 (by decide) (by decide) (by decide) (by decide) ?_
        exact lc_read hL hx hb hml hown hts hX hbl hK _ i hi6 ci ca ne mi ma hR qe H locs hP hD hS ls hl kk
      · refine lv_tableIn (tgt := 765) (off := 732) hx hb dL_law_33 (by decide) (by decide) (by decide) (by decide) ?_
        exact lc_forget hL hx hb hml hown hts hX hbl hK _ i hi6 ci ca ne mi ma hR qe H locs hP hD hS ls hl kk
      · refine lv_tableIn (tgt := 778) (off := 745) hx hb dL_law_33 (by decide) (by decide) (by decide) (by decide) ?_
        exact lc_unlike hL hx hb hml hown hts hX hbl hK _ i hi6 ci ca ne mi ma hR qe H locs hP hD hS ls hl kk
      · refine lv_tableIn (tgt := 791) (off := 758) hx hb dL_law_33 (by decide) (by decide) (by decide) (by decide) ?_
        exact lc_asleep hL hx hb hml hown hts hX hbl hK _ i hi6 ci ca ne mi ma hR qe H locs hP hD hS ls hl kk
      · refine lv_tableIn (tgt := 814) (off := 781) hx hb dL_law_33 (by decide) (by decide) (by decide) (by decide) ?_
        exact lc_census hL hx hb hml hown hts hX hbl hK _ i hi6 ci ca ne mi ma hR qe H locs hP hD hS ls hl kk
      · refine lv_tableIn (tgt := 847) (off := 814) hx hb dL_law_33 (by decide) (by decide) (by decide) (by decide) ?_
        exact lc_births hL hx hb hml hown hts hX hbl hK _ i hi6 ci ca ne mi ma hR qe H locs hP hD hS ls hl kk
      · refine lv_tableIn (tgt := 880) (off := 847) hx hb dL_law_33 (by decide) (by decide) (by decide) (by decide) ?_
        exact lc_cannot hL hx hb hml hown hts hX hbl hK _ i hi6 ci ca ne mi ma hR qe H locs hP hD hS ls hl kk
      · refine lv_tableIn (tgt := 913) (off := 880) hx hb dL_law_33 (by decide) (by decide) (by decide) (by decide) ?_
        exact lc_leave hL hx hb hml hown hts hX hbl hK _ i hi6 ci ca ne mi ma hR qe H locs hP hD hS ls hl kk
      · refine lv_tableIn (tgt := 936) (off := 903) hx hb dL_law_33 (by decide) (by decide) (by decide) (by decide) ?_
        exact lc_sheet hL hx hb hml hown hts hX hbl hK _ i hi6 ci ca ne mi ma hR qe H locs hP hD hS ls hl kk
      · refine lv_tableIn (tgt := 979) (off := 946) hx hb dL_law_33 (by decide) (by decide) (by decide) (by decide) ?_
        exact lc_lose hL hx hb hml hown hts hX hbl hK _ i hi6 ci ca ne mi ma hR qe H locs hP hD hS ls hl kk
      · refine lv_tableIn (tgt := 1002) (off := 969) hx hb dL_law_33 (by decide) (by decide) (by decide) (by decide) ?_
        exact lc_put hL hx hb hml hown hts hX hbl hK _ i hi6 ci ca ne mi ma hR qe H locs hP hD hS ls hl kk
      · refine lv_tableIn (tgt := 1055) (off := 1022) hx hb dL_law_33 (by decide) (by decide) (by decide) (by decide) ?_
        exact lc_get hL hx hb hml hown hts hX hbl hK _ i hi6 ci ca ne mi ma hR qe H locs hP hD hS ls hl kk
      · refine lv_tableIn (tgt := 1098) (off := 1065) hx hb dL_law_33 (by decide) (by decide) (by decide) (by decide) ?_
        exact lc_copy hL hx hb hml hown hts hX hbl hK _ i hi6 ci ca ne mi ma hR qe H locs hP hD hS ls hl kk
      · refine lv_tableIn (tgt := 1161) (off := 1128) hx hb dL_law_33 (by decide) (by decide) (by decide) (by decide) ?_
        exact lc_write hL hx hb hml hown hts hX hbl hK _ i hi6 ci ca ne mi ma hR qe H locs hP hD hS ls hl kk
      · refine lv_tableIn (tgt := 1184) (off := 1151) hx hb dL_law_33 (by decide) (by decide) (by decide) (by decide) ?_
        exact lc_count hL hx hb hml hown hts hX hbl hK _ i hi6 ci ca ne mi ma hR qe H locs hP hD hS ls hl kk
      · refine lv_tableIn (tgt := 1207) (off := 1174) hx hb dL_law_33 (by decide) (by decide) (by decide) (by decide) ?_
        exact lc_digest hL hx hb hml hown hts hX hbl hK _ i hi6 ci ca ne mi ma hR qe H locs hP hD hS ls hl kk
      · refine lv_tableOut (tgt := 1221) hx hb dL_law_33 (Or.inr ?_) (by decide) ?_
        · rw [nI_toInt (by omega)]; omega
        · exact kk ci ca ne mi ma qe H locs ls (Nat.le_refl _) hR hP hD hS hl
