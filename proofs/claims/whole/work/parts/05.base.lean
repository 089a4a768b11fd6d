/-- the fuel of every loop: far above what any needs -/
def FU : Nat := 1000000
/-- an index looked at -/
def ck {α : Type} (n : Nat) (i : Int32) (k : Option α) : Option α := if i < 0 ∨ n ≤ i.toNatClampNeg then none else k
theorem ck_ok {α : Type} {n : Nat} {i : Int32} {k : Option α} {u : α} (h : ck n i k = some u) : vp_in i n ∧ k = some u := by
  unfold ck at h
  by_cases c : i < 0 ∨ n ≤ i.toNatClampNeg
  · rw [if_pos c] at h; cases h
  · rw [if_neg c] at h; exact ⟨c, h⟩
def dz {α : Type} (y : Int32) (k : Option α) : Option α := if y = 0 then none else k
theorem dz_ok {α : Type} {y : Int32} {k : Option α} {u : α} (h : dz y k = some u) : ¬ y = 0 ∧ k = some u := by
  unfold dz at h
  by_cases c : y = 0
  · rw [if_pos c] at h; cases h
  · rw [if_neg c] at h; exact ⟨c, h⟩
def bz {α : Type} (y : Int32) (k : Option α) : Option α := if y = 0 ∨ y = 1 then k else none
theorem bz_ok {α : Type} {y : Int32} {k : Option α} {u : α} (h : bz y k = some u) : (y = 0 ∨ y = 1) ∧ k = some u := by
  unfold bz at h
  by_cases c : y = 0 ∨ y = 1
  · rw [if_pos c] at h; exact ⟨c, h⟩
  · rw [if_neg c] at h; cases h
theorem nar_bz {y : Int32} (h : y = 0 ∨ y = 1) : narrow .boolean (.int y) = .int y := by rcases h with rfl | rfl <;> rfl
def nm {α β : Type} (e : β) (k : β → Option α) : Option α := k e
theorem nm_in {α β : Type} {e v : β} {k : β → Option α} {u : α} (hv : v = e) (h : nm e k = some u) : k v = some u := by subst hv; exact h
def bd {α β : Type} (o : Option β) (k : β → Option α) : Option α := match o with | none => none | some x => k x
theorem bd_ok {α β : Type} {o : Option β} {k : β → Option α} {u : α} (h : bd o k = some u) : ∃ x, o = some x ∧ k x = some u := by
  cases o with
  | none => cases h
  | some x => exact ⟨x, rfl, h⟩
/-- a call behind which the diary's row may be longer: it only grows, up to what it is at the end -/
def bm {α β : Type} (n0 : Nat) (f : β → Nat) (g : α → Nat) (o : Option β) (k : β → Option α) : Option α := match o with | none => none | some x => match k x with | none => none | some u => if n0 ≤ f x ∧ f x ≤ g u then some u else none
theorem bm_ok {α β : Type} {n0 : Nat} {f : β → Nat} {g : α → Nat} {o : Option β} {k : β → Option α} {u : α} (h : bm n0 f g o k = some u) : ∃ x, o = some x ∧ n0 ≤ f x ∧ f x ≤ g u ∧ k x = some u := by
  cases o with
  | none => cases h
  | some x =>
    have h : (match k x with | none => none | some u => if n0 ≤ f x ∧ f x ≤ g u then some u else none) = some u := h
    cases hk : k x with
    | none => rw [hk] at h; cases h
    | some w =>
      rw [hk] at h
      by_cases c : n0 ≤ f x ∧ f x ≤ g w
      · simp only [if_pos c] at h; cases h; exact ⟨x, rfl, c.1, c.2, hk⟩
      · simp only [if_neg c] at h; cases h
def mz {α : Type} (n0 : Nat) (g : α → Nat) (o : Option α) : Option α := match o with | none => none | some u => if n0 ≤ g u then some u else none
theorem mz_ok {α : Type} {n0 : Nat} {g : α → Nat} {o : Option α} {u : α} (h : mz n0 g o = some u) : n0 ≤ g u ∧ o = some u := by
  cases o with
  | none => cases h
  | some x =>
    have h : (if n0 ≤ g x then some x else none) = some u := h
    by_cases c : n0 ≤ g x
    · rw [if_pos c] at h; cases h; exact ⟨c, rfl⟩
    · rw [if_neg c] at h; cases h
def cp {α : Type} (n0 : Nat) (n : Int32) (k : Option α) : Option α := if ¬ n < 0 ∧ 1 ≤ n0 ∧ 2 * n0 ≤ n.toNatClampNeg ∧ n.toNatClampNeg ≤ 100000 then k else none
theorem cp_ok {α : Type} {n0 : Nat} {n : Int32} {k : Option α} {u : α} (h : cp n0 n k = some u) : (¬ n < 0 ∧ 1 ≤ n0 ∧ 2 * n0 ≤ n.toNatClampNeg ∧ n.toNatClampNeg ≤ 100000) ∧ k = some u := by
  unfold cp at h
  by_cases c : ¬ n < 0 ∧ 1 ≤ n0 ∧ 2 * n0 ≤ n.toNatClampNeg ∧ n.toNatClampNeg ≤ 100000
  · rw [if_pos c] at h; exact ⟨c, h⟩
  · rw [if_neg c] at h; cases h
def ac {α : Type} (n0 n1 : Nat) (sp dp n : Int32) (k : Option α) : Option α := if ¬ sp < 0 ∧ ¬ dp < 0 ∧ ¬ n < 0 ∧ sp.toNatClampNeg + n.toNatClampNeg ≤ n0 ∧ dp.toNatClampNeg + n.toNatClampNeg ≤ n1 then k else none
theorem ac_ok {α : Type} {n0 n1 : Nat} {sp dp n : Int32} {k : Option α} {u : α} (h : ac n0 n1 sp dp n k = some u) : (¬ sp < 0 ∧ ¬ dp < 0 ∧ ¬ n < 0 ∧ sp.toNatClampNeg + n.toNatClampNeg ≤ n0 ∧ dp.toNatClampNeg + n.toNatClampNeg ≤ n1) ∧ k = some u := by
  unfold ac at h
  by_cases c : ¬ sp < 0 ∧ ¬ dp < 0 ∧ ¬ n < 0 ∧ sp.toNatClampNeg + n.toNatClampNeg ≤ n0 ∧ dp.toNatClampNeg + n.toNatClampNeg ≤ n1
  · rw [if_pos c] at h; exact ⟨c, h⟩
  · rw [if_neg c] at h; cases h
theorem it_pos {α : Type} {c : Prop} [Decidable c] {a b : Option α} {u : Option α} (hc : c) (h : (if c then a else b) = u) : a = u := by rw [if_pos hc] at h; exact h
theorem it_neg {α : Type} {c : Prop} [Decidable c] {a b : Option α} {u : Option α} (hc : ¬ c) (h : (if c then a else b) = u) : b = u := by rw [if_neg hc] at h; exact h
theorem wk_Q {p : Program} {l : Launch} {e : Env} {R : Room} {s : State} {m : MethodId} {args : Array Value} {below : List Frame} {meth : Method} {c : Code} {H : Heap} {locs : List Loc} {cells slots : Nat} {Q : State → Prop} {g : JFrame} (k : ∀ QQ : State → Prop, QQ = Q → W p l e R s m args below meth c H locs cells slots QQ g) : W p l e R s m args below meth c H locs cells slots Q g := k Q rfl
abbrev ar (a : Nat) (cA : ClassId) (n : Nat) (g : Nat → Int32) : Nat × va_E := (a, .inl (cA, n, .inl g))
abbrev oHC (ad : Nat → Nat) (xHC_first xHC_second xHC_when xHC_ran : Int32) : Nat × va_E := (ad 0, .inr (9, [.ref (ad 1), .ref (ad 9), .ref (ad 23), .ref (ad 24), .ref (ad 26), .ref (ad 30), .ref (ad 33), .ref (ad 38), .int xHC_first, .int xHC_second, .int xHC_when, .int xHC_ran]))
abbrev oRow (ad : Nat → Nat) (xRow_depth xRow_length xRow_people xRow_scarves xRow_main xRow_faultPlace : Int32) : Nat × va_E := (ad 1, .inr (5, [.ref (ad 2), .ref (ad 3), .ref (ad 4), .ref (ad 5), .ref (ad 6), .ref (ad 7), .ref (ad 8), .int xRow_depth, .int xRow_length, .int xRow_people, .int xRow_scarves, .int xRow_main, .int xRow_faultPlace]))
abbrev oST (ad : Nat → Nat) (xST_sleeper xST_lastDue xST_unreached : Int32) : Nat × va_E := (ad 9, .inr (8, [.ref (ad 1), .ref (ad 15), .ref (ad 10), .ref (ad 11), .ref (ad 12), .ref (ad 13), .ref (ad 14), .int xST_sleeper, .int xST_lastDue, .int xST_unreached]))
abbrev oDia (ad : Nat → Nat) (qe : Nat) (xDia_size : Int32) : Nat × va_E := (ad 15, .inr (1, [.ref qe, .int xDia_size]))
abbrev oSU (ad : Nat → Nat) (xSU_sleeper xSU_lastDue xSU_unreached : Int32) : Nat × va_E := (ad 17, .inr (8, [.ref (ad 1), .null, .ref (ad 18), .ref (ad 19), .ref (ad 20), .ref (ad 21), .ref (ad 22), .int xSU_sleeper, .int xSU_lastDue, .int xSU_unreached]))
abbrev oBeg (ad : Nat → Nat) (xBeg_who xBeg_reaches xBeg_lastTime xBeg_known : Int32) : Nat × va_E := (ad 23, .inr (0, [.ref (ad 1), .ref (ad 17), .int xBeg_who, .int xBeg_reaches, .int xBeg_lastTime, .int xBeg_known]))
abbrev oSlp (ad : Nat → Nat) (xSlp_known : Int32) : Nat × va_E := (ad 24, .inr (7, [.ref (ad 1), .ref (ad 17), .ref (ad 25), .int xSlp_known]))
abbrev oPos (ad : Nat → Nat) (xPos_size xPos_shortest xPos_longest xPos_slip : Int32) : Nat × va_E := (ad 26, .inr (3, [.ref (ad 27), .ref (ad 28), .ref (ad 29), .int xPos_size, .int xPos_shortest, .int xPos_longest, .int xPos_slip]))
abbrev oHea (ad : Nat → Nat) (xHea_size : Int32) : Nat × va_E := (ad 30, .inr (2, [.ref (ad 31), .ref (ad 32), .int xHea_size]))
abbrev oReg (ad : Nat → Nat) (xReg_size : Int32) : Nat × va_E := (ad 33, .inr (4, [.ref (ad 34), .ref (ad 35), .ref (ad 36), .ref (ad 37), .int xReg_size]))
abbrev oShe (ad : Nat → Nat) (xShe_latest : Int32) : Nat × va_E := (ad 38, .inr (6, [.ref (ad 39), .ref (ad 40), .ref (ad 41), .int xShe_latest]))
abbrev oM (ad : Nat → Nat) (xM_typed xM_people xM_posted xM_hears xM_censuses xM_finding : Int32) : Nat × va_E := (ad 0, .inr (10, [.int xM_typed, .ref (ad 1), .int xM_people, .ref (ad 2), .ref (ad 3), .ref (ad 4), .ref (ad 5), .ref (ad 6), .ref (ad 7), .ref (ad 8), .ref (ad 9), .ref (ad 10), .ref (ad 11), .ref (ad 12), .ref (ad 13), .ref (ad 14), .ref (ad 15), .ref (ad 16), .ref (ad 17), .int xM_posted, .ref (ad 18), .ref (ad 19), .ref (ad 20), .ref (ad 21), .int xM_hears, .ref (ad 22), .ref (ad 23), .int xM_censuses, .ref (ad 24), .ref (ad 25), .ref (ad 26), .ref (ad 27), .ref (ad 28), .ref (ad 29), .ref (ad 30), .ref (ad 31), .int xM_finding]))
def adl : List Nat → Nat → Nat
  | [], _ => 0
  | x :: _, 0 => x
  | _ :: t, k + 1 => adl t k
theorem va_same {D : va_G} {cl : List vw_C} {tys : List (ClassId × FieldType)} {s : State} (hK : va_K D cl tys s) (i j : Nat) {c c' : ClassId} {ty : FieldType} (hi : tys[i]? = some (c, ty)) (hj : tys[j]? = some (c', ty)) (hty : va_RA s c ty = (s.vm.findClass ("[" ++ ty.toString) = some c) := by rfl) (hty' : va_RA s c' ty = (s.vm.findClass ("[" ++ ty.toString) = some c') := by rfl) : c = c' := by
  have h1 := (hK.2 i _ hi).2
  have h2 := (hK.2 j _ hj).2
  have h1 : s.vm.findClass ("[" ++ ty.toString) = some c := hty ▸ h1
  have h2 : s.vm.findClass ("[" ++ ty.toString) = some c' := hty' ▸ h2
  exact Option.some.inj (h1.symm.trans h2)
