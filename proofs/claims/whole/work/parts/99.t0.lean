/-! ===== the posts, both sides ===== -/
def PosS (c : Nat) (who at_ mw mt : Nat → Int32) : Prop := ∀ k, k < c → who k = mw k ∧ at_ k = mt k ∧ (∃ t : Nat, t ≤ 400 ∧ at_ k = nI t) ∧ ∃ q : Nat, q < 20 ∧ who k = nI q
theorem post_go {n mn : Nat} (hn : n ≤ 20) (hmn : mn < 2 ^ 31) {first fm fb M : Nat → Int32} (hM : ∀ p, p < n → M p = nI (if mn.testBit p then 1 else 0)) (hF : ∀ p, p < n → fM_feltBy (nI p) 0 fm fb = some (first p)) (hf : ∀ p, p < n → (first p = -1 ∧ fm p ≤ 0) ∨ ((∃ t : Nat, t ≤ 400 ∧ first p = nI t) ∧ ¬ fm p ≤ 0)) (K L C H R AO LI MI com bt lb : Nat → Int32) : ∀ (m v c : Nat) (who at_ mw mt : Nat → Int32), v + m = n → c ≤ v → PosS c who at_ mw mt → ∀ f g, m < f → m < g → ∃ (c2 : Nat) (who2 at2 mw2 mt2 : Nat → Int32), fP_gather_7 (nI n) (nI mn) first f (nI v) (nI c) who at_ = some (nI c2, who2, at2) ∧ fM_laysPosts_11 (nI n) K L C H R M AO LI MI com bt fm fb lb g (nI v) (nI c) mw mt = some (nI n, nI c2, K, L, C, H, R, M, AO, LI, MI, com, bt, fm, fb, lb, mw2, mt2) ∧ c2 ≤ n ∧ PosS c2 who2 at2 mw2 mt2 := by
  intro m
  induction m with
  | zero =>
    intro v c who at_ mw mt hv hc hP f g hf' hg
    obtain ⟨f, rfl⟩ : ∃ f', f = f' + 1 := ⟨f - 1, by omega⟩
    obtain ⟨g, rfl⟩ : ∃ g', g = g' + 1 := ⟨g - 1, by omega⟩
    refine ⟨c, who, at_, mw, mt, ?_, ?_, by omega, hP⟩
    · show fP_gather_7_b _ _ _ _ _ _ _ _ = _
      unfold fP_gather_7_b
      rw [if_pos (nI_le (show n ≤ v by omega) (by omega))]
    · show fM_laysPosts_11_b _ _ _ _ _ _ _ _ _ _ _ _ _ _ _ _ _ _ _ _ = _
      unfold fM_laysPosts_11_b
      rw [if_pos (nI_le (show n ≤ v by omega) (by omega))]
  | succ m ih =>
    intro v c who at_ mw mt hv hc hP f g hf' hg
    obtain ⟨f, rfl⟩ : ∃ f', f = f' + 1 := ⟨f - 1, by omega⟩
    obtain ⟨g, rfl⟩ : ∃ g', g = g' + 1 := ⟨g - 1, by omega⟩
    have vn : v < n := by omega
    have c20 : ∀ {α : Type} (x : Option α), ck 20 (nI v) x = x := fun x => ck_nI (by omega) (by decide)
    have cc20 : ∀ {α : Type} (x : Option α), ck 20 (nI c) x = x := fun x => ck_nI (by omega) (by decide)
    have clv : (nI v).toNatClampNeg = v := nI_clamp (by omega)
    have clc : (nI c).toNatClampNeg = c := nI_clamp (by omega)
    have eC : fP_gather_7 (nI n) (nI mn) first (f + 1) (nI v) (nI c) who at_ = (if mn.testBit v = true then (if first v = -1 then fP_gather_7 (nI n) (nI mn) first f (nI (v + 1)) (nI c) who at_ else fP_gather_7 (nI n) (nI mn) first f (nI (v + 1)) (nI (c + 1)) (upd who c (nI v)) (upd at_ c (first v))) else fP_gather_7 (nI n) (nI mn) first f (nI (v + 1)) (nI c) who at_) := by
      show fP_gather_7_b _ _ _ _ _ _ _ _ = _
      unfold fP_gather_7_b fP_gather_71
      rw [if_neg (nI_ge vn (by omega)), bitN hmn (by omega), c20, cc20, c20, cc20, clv, clc, nI_1, nI_1]
      cases mn.testBit v
      · rw [if_pos bI0, if_neg (by decide)]
      · rw [if_neg bI1, if_pos rfl]
    have eM : fM_laysPosts_11 (nI n) K L C H R M AO LI MI com bt fm fb lb (g + 1) (nI v) (nI c) mw mt = (if mn.testBit v = true then (if fm v ≤ 0 then fM_laysPosts_11 (nI n) K L C H R M AO LI MI com bt fm fb lb g (nI (v + 1)) (nI c) mw mt else fM_laysPosts_11 (nI n) K L C H R M AO LI MI com bt fm fb lb g (nI (v + 1)) (nI (c + 1)) (upd mw c (nI v)) (upd mt c (first v))) else fM_laysPosts_11 (nI n) K L C H R M AO LI MI com bt fm fb lb g (nI (v + 1)) (nI c) mw mt) := by
      show fM_laysPosts_11_b _ _ _ _ _ _ _ _ _ _ _ _ _ _ _ _ _ _ _ _ = _
      unfold fM_laysPosts_11_b fM_laysPosts_73
      rw [if_neg (nI_ge vn (by omega)), c20, c20, cc20, clv, hM v vn, hF v vn, bd_some, cc20, clc, nI_1, nI_1]
      cases mn.testBit v
      · rw [if_neg (show ¬ nI (if (false : Bool) = true then 1 else 0) = 1 from bIn1), if_neg (by decide)]
      · rw [if_pos bI1', if_pos rfl]
    rw [eC, eM]
    cases mn.testBit v
    · rw [if_neg (by decide), if_neg (by decide)]
      exact ih (v + 1) c who at_ mw mt (by omega) (by omega) hP f g (by omega) (by omega)
    · rw [if_pos rfl, if_pos rfl]
      rcases hf v vn with ⟨q1, q2⟩ | ⟨⟨t, t1, t2⟩, q2⟩
      · rw [if_pos q1, if_pos q2]
        exact ih (v + 1) c who at_ mw mt (by omega) (by omega) hP f g (by omega) (by omega)
      · rw [if_neg (show ¬ first v = -1 by rw [t2]; exact nI_ne_m1 (by omega)), if_neg q2]
        refine ih (v + 1) (c + 1) _ _ _ _ (by omega) (by omega) (fun k hk => ?_) f g (by omega) (by omega)
        by_cases e : k = c
        · subst e
          rw [pk_us, pk_us, pk_us, pk_us]
          exact ⟨rfl, rfl, ⟨t, t1, t2⟩, v, by omega, rfl⟩
        · rw [pk_un e, pk_un e, pk_un e, pk_un e]
          exact hP k (by omega)
