/-! ===== the relation at the start ===== -/
theorem Parsed_0 (text K L H S : Nat → Int32) : Parsed 0 text 0 0 0 (-1) K L H S := by
  intro pe k l c h r m ao li mi
  refine ⟨k, l, c, h, r, m, upd ao 0 (-1), upd li 0 (-1), upd mi 0 0, ?_, ParR_0 _ _ _ _ _ _ _ _ _ _ _⟩
  obtain ⟨f, hf⟩ : ∃ f, FU = f + 1 := ⟨999999, rfl⟩
  have i0 : (0 : Int32).toNatClampNeg = 0 := by decide
  have c40 : ∀ {α : Type} (x : Option α), ck 4 0 x = x := fun x => ck_nI (n := 4) (j := 0) (by decide) (by decide)
  have e : ∀ ao li mi : Nat → Int32, fM_reads_30 0 text (f + 1) 0 0 0 k l c h r m ao li mi = some (-1, 0, k, l, c, h, r, m, ao, li, mi) := fun ao li mi => by
    show fM_reads_30_b _ _ _ _ _ _ _ _ _ _ _ _ _ _ _ = _
    unfold fM_reads_30_b
    rw [if_pos (show (0 : Int32) ≤ 0 by decide), if_pos (show (0 : Int32) ≤ 0 by decide)]
  unfold fM_faultNow fM_reads fM_faultNow_19
  rw [hf, c40, c40, c40, e, bd_some]
  dsimp only
  rw [if_pos rfl, i0]
theorem RelB_ini : RelB (lsI [0, (-1), 0, 0, 0, 0, 0, 0, 0, (-1), 0, 0, 0, 0, 0, 0, 0, 0, 0, 0, 0, 0, 0, 1, 9, 0, 0, 0, 0]) (lsA [(fun _ => 0), (fun _ => 0), (fun _ => 0), (fun _ => 0), (fun _ => 0), (upd (fun _ => 0) (0 : Int32).toNatClampNeg (-1)), (fun _ => 0), (fun _ => 0), (fun _ => 0), (fun _ => 0), (fun _ => 0), (fun _ => 0), (fun _ => 0), (fun _ => 0), (fun _ => 0), (fun _ => 0), (fun _ => 0), (fun _ => 0), (fun _ => 0), (fun _ => 0), (fun _ => 0), (fun _ => 0), (fun _ => 0), (fun _ => 0), (fun _ => 0), (fun _ => 0), (fun _ => 0), (fun _ => 0), (fun _ => 0), (fun k => if k < 4 then (-1) else (fun _ => 0) k), (fun _ => 0)]) 64 (lsI [0, 0, 0, 0, 0, 0]) (lsA [(fun _ => 0), (fun _ => 0), (fun _ => 0), (fun _ => 0), (fun _ => 0), (fun _ => 0), (fun _ => 0), (fun _ => 0), (fun _ => 0), (fun _ => 0), (upd (fun _ => 0) (1 : Int32).toNatClampNeg (-1)), (upd (upd (fun _ => 0) (0 : Int32).toNatClampNeg 1) (1 : Int32).toNatClampNeg 9), (fun _ => 0), (fun _ => 0), (fun _ => 0), (fun _ => 0), (fun _ => 0), (fun _ => 0), (fun _ => 0), (fun _ => 0), (fun _ => 0), (fun _ => 0), (fun _ => 0), (fun _ => 0), (fun _ => 0), (fun _ => 0), (fun _ => 0), (fun _ => 0), (fun _ => 0), (fun _ => 0), (fun _ => 0)]) := by
  refine ⟨⟨by decide, by decide⟩, ⟨0, by omega, rfl, rfl, fun k hk => absurd hk (Nat.not_lt_zero k)⟩, ⟨1, 9, 0, by omega, by omega, by omega, by omega, rfl, rfl, rfl, by decide, by decide, by decide⟩, ⟨by decide, by decide, by decide, ⟨0, by omega, rfl⟩, Or.inl rfl, ⟨0, by omega, rfl⟩⟩, ⟨rfl, fun s hs => ⟨0, by omega, rfl, rfl, Or.inl ⟨?_, rfl⟩⟩⟩, ⟨0, by omega, rfl, rfl, fun k hk => absurd hk (Nat.not_lt_zero k), fun k _ => ⟨rfl, 0, by omega, rfl⟩⟩, ⟨0, by omega, rfl, rfl, rfl⟩, Parsed_0 _ _ _ _ _, Or.inl rfl, Or.inl rfl, Or.inl rfl⟩
  show (if s < 4 then (-1 : Int32) else 0) = -1
  rw [if_pos hs]
