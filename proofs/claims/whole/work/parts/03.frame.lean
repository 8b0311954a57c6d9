/-! The pure machine's words: a memory of ints by address and slot, a fixed shape (kinds, references, lengths), and a judgement fx_At over it; every rule x_.. below is one instruction. -/
abbrev fxM : Type := Nat → Nat → Int
abbrev fxV : Type := Int ⊕ Nat
abbrev fxE : Type := ((Nat → Nat) × (Nat → Nat → Nat) × (Nat → Nat) × (Nat → Nat)) × va_G × (Nat → ClassId) × List Nat × (Nat → Prop)
def kd (E : fxE) (a : Nat) : Nat := E.1.1 a
def rf (E : fxE) (a k : Nat) : Nat := E.1.2.1 a k
def ln (E : fxE) (a : Nat) : Nat := E.1.2.2.1 a
def sta (E : fxE) (j : Nat) : Nat := E.1.2.2.2 j
def eD (E : fxE) : va_G := E.2.1
def eY (E : fxE) : Nat → ClassId := E.2.2.1
def eL (E : fxE) : List Nat := E.2.2.2.1
def eA (E : fxE) : Nat → Prop := E.2.2.2.2
def i3 (x : Int) : Int32 := Int32.ofInt x
def inR (x : Int) : Prop := -2147483648 ≤ x ∧ x < 2147483648
def em : fxV → Value
  | .inl i => .int (i3 i)
  | .inr a => .ref a
/-- true: a reference -/
def lay : Nat → List Bool
  | 0 => [true, true, false, false]
  | 1 => [true, true, true, true, true, true, false, false, false]
  | 2 => [true, true, true, false, true, true, true, true, false, false, false]
  | 3 => [true, false, false]
  | 4 => [true, true, true, false]
  | 5 => [true, true, true]
  | 6 => [true, false, false, false, false]
  | 7 => [true, false, false]
  | 8 => [true, true, true, true, false, false, false, false, false]
  | 9 => [true, true, true, true, true, true, true, true, false]
  | 10 => [true, true, false, false, false, true, false, false, false, true, true, true, false, true, true, true, false, true, true, false, false, false, false, true, false]
  | _ => []
def flds (C : Nat) (g : Nat → Nat) (r : Nat → Int) : List Value := (lay C).mapIdx (fun j b => if b then Value.ref (g j) else .int (i3 (r j)))
def cel (E : fxE) (a : Nat) (r : Nat → Int) : va_E :=
  if kd E a ≤ 10 then .inr (kd E a, flds (kd E a) (rf E a) r)
  else if kd E a ≤ 12 then .inl (eY E (kd E a), ln E a, .inl (fun j => i3 (r j)))
  else .inl (eY E (kd E a), ln E a, .inr (.inr (.inr (.inr (fun j => some (rf E a j))))))
def fx_pl (E : fxE) (M : fxM) : va_W := va_pl (eL E) (fun a => cel E a (M a))
def fx_P (E : fxE) (M : fxM) (H : Heap) : Prop := va_P (eD E) vwCl (fx_pl E M) H
def fx_ty (E : fxE) : List (ClassId × FieldType) := [(eY E 11, .int), (eY E 12, .boolean), (eY E 13, .object RX1), (eY E 14, .object RX5), (eY E 15, .object RX7), (eY E 16, .object RX8)]
/-- the written-out static rows: their contents -/
def sv : Nat → Nat → Int
  | 0 => fun j => if j = 1 then 1 else 0
  | 1 => fun j => if j = 0 then 60 else if j = 1 then 5000 else if j = 2 then 20 else 9000
  | _ => fun j => if j = 0 then 1 else if j = 1 then 3 else 9
def sN : Nat → Nat
  | 0 => 4
  | 1 => 4
  | _ => 3
def fx_st (E : fxE) (s : State) (H : Heap) : Prop :=
  (va_Z "FibreBench" "LEAST_SETTING" "[I" (.ref (sta E 0)) (eA E) s H ∧ va_T .int (sta E 0) 4 (fun j => .int (i3 (sv 0 j))) (eA E) s H) ∧
  (va_Z "FibreBench" "GREATEST_SETTING" "[I" (.ref (sta E 1)) (eA E) s H ∧ va_T .int (sta E 1) 4 (fun j => .int (i3 (sv 1 j))) (eA E) s H) ∧
  (va_Z "FibreBench" "STITCH_WIDTHS" "[I" (.ref (sta E 2)) (eA E) s H ∧ va_T .int (sta E 2) 3 (fun j => .int (i3 (sv 2 j))) (eA E) s H)
def fx_ns (s : State) : Prop := va_Nw (.methodLinkNest RX0 25 yX9_copyRow RX9) s ∧ va_Nw (.methodLinkNest RX2 46 yX9_copyRow RX9) s ∧ va_Nw (.methodLinkNest RX5 39 yX9_copyRow RX9) s
def fx_W (E : fxE) (M : fxM) (U : State) : Prop := fx_P E M U.heap ∧ va_K (eD E) vwCl (fx_ty E) U ∧ fx_st E U U.heap ∧ fx_ns U
/-- what is fixed of the shape: every cell of a kind is in the pool, the pool's addresses are apart and free, the static rows have kinds of their own, lengths are small -/
def fx_Ok (E : fxE) : Prop := (∀ a, kd E a ≤ 16 → a ∈ eL E) ∧ va_D (eA E) (va_pl (eL E) (fun _ => .inr (0, []))) ∧ (∀ a, ln E a < 2147483648) ∧ (∀ j, j < 3 → kd E (sta E j) = 20 + j) ∧ (∀ a j, j < 3 → kd E a = 20 + j → a = sta E j)
/-- name, code, locals, answer, frames and words of locals that it asks -/
abbrev fxY : Type := MethodName × ByteArray × Nat × Option FieldType × Nat × Nat
abbrev mN (y : fxY) : MethodName := y.1
abbrev mC (y : fxY) : ByteArray := y.2.1
abbrev mL (y : fxY) : Nat := y.2.2.1
abbrev mT (y : fxY) : Option FieldType := y.2.2.2.1
abbrev mF (y : fxY) : Nat := y.2.2.2.2.1
abbrev mO (y : fxY) : Nat := y.2.2.2.2.2
def mR (y : fxY) : Room := { frames := mF y, cells := 0, slots := 0, locals := mO y }
def lw_good : List Cond := lw_tbl.filter goodWord
theorem lw_goodI {w : Cond} (h : w ∈ lw_tbl) (g : goodWord w = true) : w ∈ lw_good := List.mem_filter.mpr ⟨h, g⟩
def mW (y : fxY) : List Cond := Cond.code (mN y) (mC y) (mL y) (mT y) :: lw_good
theorem fx_goodIn {y z : fxY} (h : Cond.code (mN z) (mC z) (mL z) (mT z) ∈ lw_good) : GoodIn (mW y) (mW z) := by
  intro w hw
  rcases List.mem_cons.mp hw with rfl | hw
  · exact ⟨List.mem_cons_of_mem _ h, good_of_word (List.mem_filter.mp h).2⟩
  · exact ⟨List.mem_cons_of_mem _ hw, good_of_word (List.mem_filter.mp hw).2⟩
/-- a method's end: its answer and its memory, in the pool's words -/
def fx_Q (E : fxE) (Q : Option fxV → fxM → Prop) : Array Value → State → Outcome → State → Prop := fun _ st oc t =>
  (∃ (r : Option fxV) (M : fxM), oc = .returned (r.map em) ∧ Q r M ∧ fx_W E M t) ∧ va_F (eA E) st t
def fx_C (E : fxE) (y : fxY) (p : Program) (s : State) (m : MethodId) (args : Array Value) (meth : Method) (c : Code) : Prop :=
  p.tables.exec = Jvm.exec ∧ c.code = mC y ∧ c.maxLocals = mL y ∧ meth.sig.returnType = mT y ∧ meth.locks = false ∧ s.vm.findClass (mN y).cls = some m.cls ∧ (∀ w ∈ mW y, w.before args s = true) ∧ va_K (eD E) vwCl (fx_ty E) s ∧ fx_st E s s.heap ∧ fx_ns s
def fx_prs (lv : List (Option fxV)) : List (Nat × Value) := (List.range lv.length).filterMap (fun i => match lv[i]? with | some (some v) => some (i, em v) | _ => none)
def fx_At (E : fxE) (y : fxY) (pc : Nat) (lv : List (Option fxV)) (stk : List fxV) (M : fxM) (Q : Option fxV → fxM → Prop) : Prop :=
  fx_Ok E → ∀ (p : Program) (l : Launch) (e : Env) (s : State) (m : MethodId) (args : Array Value) (below : List Frame) (meth : Method) (c : Code), fx_C E y p s m args meth c →
    ∀ (H : Heap) (locs : List Loc) (ls : Array Slot), va_S (eA E) s.heap H locs → lv_has ls (mL y) (fx_prs lv) → fx_P E M H →
      W p l e (mR y) s m args below meth c H locs 0 0 (MQ below (fx_Q E Q) args s 0 0 (eA E)) (F0 m pc ls (stk.map em))
/-- a contract -/
def fx_Ct (E : fxE) (y : fxY) (as : List fxV) (M : fxM) (Q : Option fxV → fxM → Prop) : Prop :=
  fx_Ok E → ∀ l : Launch, Met l (mN y) (mW y) (mR y) (va_Pc (as.map em) (fx_W E M)) (fx_Q E Q) 0 0 (eA E)
/-! numbers -/
theorem i3_toInt {x : Int} (h : inR x) : (i3 x).toInt = x := Int32.toInt_ofInt_of_le h.1 h.2
theorem i3_lt {x y : Int} (hx : inR x) (hy : inR y) : i3 x < i3 y ↔ x < y := by rw [Int32.lt_iff_toInt_lt, i3_toInt hx, i3_toInt hy]
theorem i3_le {x y : Int} (hx : inR x) (hy : inR y) : i3 x ≤ i3 y ↔ x ≤ y := by rw [Int32.le_iff_toInt_le, i3_toInt hx, i3_toInt hy]
theorem i3_eq {x y : Int} (hx : inR x) (hy : inR y) : i3 x = i3 y ↔ x = y := ⟨fun h => by rw [← i3_toInt hx, ← i3_toInt hy, h], fun h => by rw [h]⟩
theorem i3_0 : i3 0 = 0 := rfl
theorem inR_0 : inR 0 := ⟨by decide, by decide⟩
theorem i3_add (x y : Int) : i3 (x + y) = i3 x + i3 y := Int32.ofInt_add x y
theorem i3_sub (x y : Int) : i3 (x - y) = i3 x - i3 y := Int32.ofInt_sub x y
theorem i3_mul (x y : Int) : i3 (x * y) = i3 x * i3 y := Int32.ofInt_mul x y
theorem i3_neg (x : Int) : i3 (-x) = -i3 x := Int32.ofInt_neg x
theorem i3_nat (n : Nat) : i3 (n : Int) = nI n := Int32.ofInt_eq_ofNat
theorem i3_clamp {x : Int} (h0 : 0 ≤ x) (h1 : x < 2147483648) : (i3 x).toNatClampNeg = x.toNat := by
  obtain ⟨n, rfl⟩ := Int.eq_ofNat_of_zero_le h0
  rw [i3_nat, nI_clamp (by omega)]; rfl
theorem i3_in {x : Int} {n : Nat} (h0 : 0 ≤ x) (h1 : x < n) (hn : n < 2147483648) : vp_in (i3 x) n := by
  obtain ⟨k, rfl⟩ := Int.eq_ofNat_of_zero_le h0
  rw [i3_nat]
  exact vp_in_nI (by omega) hn
/-! locals -/
theorem fx_prs_mem {lv : List (Option fxV)} {q : Nat × Value} : q ∈ fx_prs lv ↔ ∃ v, lv[q.1]? = some (some v) ∧ q.2 = em v := by
  unfold fx_prs
  rw [List.mem_filterMap]
  constructor
  · rintro ⟨i, -, h⟩
    split at h
    · rename_i v hv
      cases h
      exact ⟨v, hv, rfl⟩
    · cases h
  · rintro ⟨v, h1, h2⟩
    refine ⟨q.1, List.mem_range.mpr (List.getElem?_eq_some_iff.mp h1).1, ?_⟩
    rw [h1]
    show some (q.1, em v) = some q
    rw [← h2]
theorem fx_at {ls : Array Slot} {n i : Nat} {lv : List (Option fxV)} {v : fxV} (h : lv_has ls n (fx_prs lv)) (hi : lv[i]? = some (some v)) : ls[i]? = some (.val (em v)) :=
  h.2.2 (i, em v) (fx_prs_mem.mpr ⟨v, hi, rfl⟩)
theorem em_cat (v : fxV) : (em v).category = 1 := by cases v <;> rfl
theorem fx_stored {ls : Array Slot} {n i : Nat} {lv : List (Option fxV)} {v : fxV} (h : lv_has ls n ((i, em v) :: (fx_prs lv).filter (fun q => !(q.1 == i) && !(q.1 + 1 == i && q.2.category == 2)))) : lv_has ls n (fx_prs (lv.set i (some v))) := by
  refine ⟨h.1, h.2.1, fun q hq => h.2.2 q ?_⟩
  obtain ⟨w, h1, h2⟩ := fx_prs_mem.mp hq
  by_cases hqi : q.1 = i
  · obtain ⟨q1, q2⟩ := q
    dsimp only at hqi h1 h2
    subst hqi
    have hl := (List.getElem?_eq_some_iff.mp h1).1
    rw [List.length_set] at hl
    rw [List.getElem?_set_self hl] at h1
    cases h1
    rw [h2]
    exact List.mem_cons_self
  · rw [List.getElem?_set_ne (Ne.symm hqi)] at h1
    refine List.mem_cons_of_mem _ (List.mem_filter.mpr ⟨fx_prs_mem.mpr ⟨w, h1, h2⟩, ?_⟩)
    rw [h2]
    simp [em_cat, hqi]
/-! the pool -/
theorem fx_pl_get {E : fxE} {M : fxM} {a : Nat} (hO : fx_Ok E) (ha : kd E a ≤ 16) : ∃ q : Nat, (fx_pl E M)[q]? = some (a, cel E a (M a)) := by
  obtain ⟨k, h⟩ := va_pl_get (X := []) (f := fun b => cel E b (M b)) (hO.1 a ha)
  exact ⟨k, h⟩
theorem fx_dd {A : Nat → Prop} {L : List Nat} {f g : Nat → va_E} (h : va_D A (va_pl L f)) : va_D A (va_pl L g) := by
  have key : ∀ (i : Nat) (q : Nat × va_E), (va_pl L g)[i]? = some q → (va_pl L f)[i]? = some (q.1, f q.1) := by
    intro i q hq
    simp only [va_pl, List.getElem?_map] at hq ⊢
    cases hL : L[i]? with
    | none => rw [hL] at hq; cases hq
    | some b => rw [hL] at hq; cases hq; rfl
  exact ⟨fun i j x z hx hz e => h.1 i j _ _ (key i x hx) (key j z hz) e, fun k q hk => h.2 k (q.1, f q.1) (key k q hk)⟩
theorem fx_D {E : fxE} {M : fxM} (hO : fx_Ok E) : va_D (eA E) (fx_pl E M) := fx_dd hO.2.1
theorem fx_pl_set {E : fxE} {M M' : fxM} {a q : Nat} {e : va_E} (hO : fx_Ok E) (ha : kd E a ≤ 16) (hq : (fx_pl E M)[q]? = some (a, cel E a (M a))) (he : e = cel E a (M' a)) (hM : ∀ b, b ≠ a → M' b = M b) : (fx_pl E M).set q (a, e) = fx_pl E M' := by
  have h := va_pl_set (X := []) (f := fun b => cel E b (M b)) (e := e) (A := eA E) (fx_D (M := M) hO) (hO.1 a ha) hq
  refine (show (fx_pl E M).set q (a, e) = va_pl (eL E) (va_up (fun b => cel E b (M b)) a e) from h).trans (va_pl_congr (fun b => ?_))
  by_cases hb : b = a
  · subst hb
    rw [va_up_self, he]
  · rw [va_up_ne _ _ hb, hM b hb]
def mset (M : fxM) (a k : Nat) (v : Int) : fxM := fun b j => if b = a ∧ j = k then v else M b j
theorem mset_o {M : fxM} {a k : Nat} {v : Int} {b : Nat} (h : b ≠ a) : mset M a k v b = M b := by
  funext j
  simp [mset, h]
theorem mset_s {M : fxM} {a k : Nat} {v : Int} : mset M a k v a k = v := by simp [mset]
theorem mset_n {M : fxM} {a k : Nat} {v : Int} {j : Nat} (h : j ≠ k) : mset M a k v a j = M a j := by simp [mset, h]
theorem mset_a {M : fxM} {a k : Nat} {v : Int} : mset M a k v a = fun j => if j = k then v else M a j := by
  funext j
  simp [mset]
theorem cel_o {E : fxE} {a C : Nat} (h : kd E a = C) (hC : C ≤ 10) (r : Nat → Int) : cel E a r = .inr (C, flds C (rf E a) r) := by
  subst h
  simp [cel, hC]
theorem cel_i {E : fxE} {a C : Nat} (h : kd E a = C) (h1 : 10 < C) (h2 : C ≤ 12) (r : Nat → Int) : cel E a r = .inl (eY E C, ln E a, .inl (fun j => i3 (r j))) := by
  subst h
  rw [cel, if_neg (by omega), if_pos h2]
theorem cel_r {E : fxE} {a C : Nat} (h : kd E a = C) (h1 : 12 < C) (r : Nat → Int) : cel E a r = .inl (eY E C, ln E a, .inr (.inr (.inr (.inr (fun j => some (rf E a j)))))) := by
  subst h
  rw [cel, if_neg (by omega), if_neg (by omega)]
theorem flds_i {C k : Nat} {g : Nat → Nat} {r : Nat → Int} (h : (lay C)[k]? = some false) : (flds C g r)[k]? = some (.int (i3 (r k))) := by
  simp [flds, List.getElem?_mapIdx, h]
theorem flds_r {C k : Nat} {g : Nat → Nat} {r : Nat → Int} (h : (lay C)[k]? = some true) : (flds C g r)[k]? = some (.ref (g k)) := by
  simp [flds, List.getElem?_mapIdx, h]
theorem flds_set {C k : Nat} {g : Nat → Nat} {r : Nat → Int} {v : Int} (h : (lay C)[k]? = some false) : (flds C g r).set k (.int (i3 v)) = flds C g (fun j => if j = k then v else r j) := by
  have hl := (List.getElem?_eq_some_iff.mp h).1
  apply List.ext_getElem?
  intro j
  by_cases hj : j = k
  · subst hj
    rw [List.getElem?_set_self (by simpa [flds] using hl), flds_i h, if_pos rfl]
  · rw [List.getElem?_set_ne (Ne.symm hj)]
    simp only [flds, List.getElem?_mapIdx]
    cases (lay C)[j]? with
    | none => rfl
    | some b => simp [hj]
theorem flds_len {C k : Nat} {g : Nat → Nat} {r : Nat → Int} {b : Bool} (h : (lay C)[k]? = some b) : k < (flds C g r).length := by
  simpa [flds] using (List.getElem?_eq_some_iff.mp h).1
