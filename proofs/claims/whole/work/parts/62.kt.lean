/-! The making of objects: a pool that grows; addresses are counted from B; what a constructor has made is told by a table. -/
abbrev kent : Type := Nat × Nat × List (Option fxV)
def kv (z : Nat) : Option fxV → Value
  | none => .null
  | some (.inl i) => .int (i3 i)
  | some (.inr o) => .ref (z + o)
def kci (l : List (Option fxV)) (j : Nat) : Int32 := match l[j]? with
  | some (some (.inl i)) => i3 i
  | _ => 0
def kcr (z : Nat) (l : List (Option fxV)) (j : Nat) : Option Nat := match l[j]? with
  | some (some (.inr o)) => some (z + o)
  | _ => none
def kcell (E : fxE) (z : Nat) (t : kent) : va_E :=
  if t.1 ≤ 10 then .inr (t.1, t.2.2.map (kv z))
  else if t.1 ≤ 12 then .inl (eY E t.1, t.2.1, .inl (kci t.2.2))
  else .inl (eY E t.1, t.2.1, .inr (.inr (.inr (.inr (kcr z t.2.2)))))
def kshv (d : Nat) : Option fxV → Option fxV
  | some (.inr o) => some (.inr (d + o))
  | some (.inl i) => some (.inl i)
  | none => none
def ksh (d : Nat) (t : kent) : kent := (t.1, t.2.1, t.2.2.map (kshv d))
theorem kv_sh {z d : Nat} (v : Option fxV) : kv z (kshv d v) = kv (z + d) v := by
  match v with
  | none => rfl
  | some (.inl i) => rfl
  | some (.inr o) => show Value.ref _ = Value.ref _; rw [Nat.add_assoc]
theorem kcell_sh {E : fxE} {z d : Nat} {t : kent} : kcell E z (ksh d t) = kcell E (z + d) t := by
  obtain ⟨C, n, l⟩ := t
  have h1 : (l.map (kshv d)).map (kv z) = l.map (kv (z + d)) := by
    rw [List.map_map]
    exact List.map_congr_left (fun v _ => kv_sh v)
  have h2 : kci (l.map (kshv d)) = kci l := by
    funext j
    unfold kci
    rw [List.getElem?_map]
    match l[j]? with
    | none => rfl
    | some none => rfl
    | some (some (.inl i)) => rfl
    | some (some (.inr o)) => rfl
  have h3 : kcr z (l.map (kshv d)) = kcr (z + d) l := by
    funext j
    unfold kcr
    rw [List.getElem?_map]
    match l[j]? with
    | none => rfl
    | some none => rfl
    | some (some (.inl i)) => rfl
    | some (some (.inr o)) => show some _ = some _; rw [Nat.add_assoc]
  simp only [kcell, ksh, h1, h2, h3]
def kput (l : List (Option fxV)) (i : Nat) (v : Option fxV) : List (Option fxV) := (l ++ List.replicate (i + 1 - l.length) (some (Sum.inl 0) : Option fxV)).set i v
theorem kput_at (l : List (Option fxV)) (i : Nat) (v : Option fxV) (j : Nat) : (kput l i v)[j]? = if j = i then some v else if j < l.length then l[j]? else if j < i then some (some (.inl 0)) else none := by
  unfold kput
  by_cases hj : j = i
  · subst hj
    rw [if_pos rfl, List.getElem?_set_self (by simp; omega)]
  · rw [if_neg hj, List.getElem?_set_ne (Ne.symm hj)]
    by_cases h1 : j < l.length
    · rw [if_pos h1, List.getElem?_append_left h1]
    · rw [if_neg h1, List.getElem?_append_right (by omega), List.getElem?_replicate]
      by_cases h2 : j < i
      · rw [if_pos (by omega), if_pos h2]
      · rw [if_neg (by omega), if_neg h2]
theorem kci_put {l : List (Option fxV)} {i : Nat} {v : Int} : kci (kput l i (some (.inl v))) = upd (kci l) i (i3 v) := by
  funext j
  unfold kci upd
  rw [kput_at]
  by_cases hj : j = i
  · rw [if_pos hj, if_pos hj]
  · rw [if_neg hj, if_neg hj]
    by_cases h1 : j < l.length
    · rw [if_pos h1]
    · have e : l[j]? = none := List.getElem?_eq_none (by omega)
      simp only [if_neg h1, e]
      by_cases h2 : j < i
      · simp only [if_pos h2]; rfl
      · simp only [if_neg h2]
theorem kcr_put {l : List (Option fxV)} {i z o : Nat} : kcr z (kput l i (some (.inr o))) = va_up (kcr z l) i (some (z + o)) := by
  funext j
  unfold kcr va_up
  rw [kput_at]
  by_cases hj : j = i
  · rw [if_pos hj, if_pos hj]
  · rw [if_neg hj, if_neg hj]
    by_cases h1 : j < l.length
    · rw [if_pos h1]
    · have e : l[j]? = none := List.getElem?_eq_none (by omega)
      simp only [if_neg h1, e]
      by_cases h2 : j < i
      · simp only [if_pos h2]
      · simp only [if_neg h2]
theorem kci_nil : kci [] = fun _ => 0 := by funext j; simp [kci]
theorem kcr_nil {z : Nat} : kcr z [] = fun _ => none := by funext j; simp [kcr]
theorem kc_o {E : fxE} {z C n : Nat} {l : List (Option fxV)} (h : C ≤ 10) : kcell E z (C, n, l) = .inr (C, l.map (kv z)) := by simp [kcell, h]
theorem kc_i {E : fxE} {z C n : Nat} {l : List (Option fxV)} (h1 : 10 < C) (h2 : C ≤ 12) : kcell E z (C, n, l) = .inl (eY E C, n, .inl (kci l)) := by
  simp only [kcell]; rw [if_neg (by omega), if_pos h2]
theorem kc_r {E : fxE} {z C n : Nat} {l : List (Option fxV)} (h1 : 12 < C) : kcell E z (C, n, l) = .inl (eY E C, n, .inr (.inr (.inr (.inr (kcr z l))))) := by
  simp only [kcell]; rw [if_neg (by omega), if_neg (by omega)]
def blk (C : Nat) : List (Option fxV) := (lay C).map (fun b => if b then none else some (.inl 0))
/-- the pool holds the table from z on -/
def Has (E : fxE) (f : Nat → va_E) (z : Nat) (tb : List kent) : Prop := ∀ (j : Nat) (t : kent), tb[j]? = some t → f (z + j) = kcell E z t
theorem Has.push {E : fxE} {f : Nat → va_E} {z a : Nat} {tb : List kent} {t : kent} (h : Has E f z tb) (ha : a = z + tb.length) : Has E (va_up f a (kcell E z t)) z (tb ++ [t]) := by
  subst ha
  intro j u hj
  by_cases h1 : j < tb.length
  · rw [List.getElem?_append_left h1] at hj
    rw [va_up_ne _ _ (by omega)]
    exact h j u hj
  · rw [List.getElem?_append_right (by omega)] at hj
    have h2 := (List.getElem?_eq_some_iff.mp hj).1
    have h3 : j = tb.length := by simp at h2; omega
    subst h3
    rw [Nat.sub_self] at hj
    cases hj
    exact va_up_self _ _ _
theorem Has.set {E : fxE} {f : Nat → va_E} {z a o : Nat} {tb : List kent} {t : kent} (h : Has E f z tb) (ha : a = z + o) : Has E (va_up f a (kcell E z t)) z (tb.set o t) := by
  subst ha
  intro j u hj
  by_cases h1 : j = o
  · subst h1
    have h2 := (List.getElem?_eq_some_iff.mp hj).1
    rw [List.length_set] at h2
    rw [List.getElem?_set_self h2] at hj
    cases hj
    exact va_up_self _ _ _
  · rw [List.getElem?_set_ne (Ne.symm h1)] at hj
    rw [va_up_ne _ _ (by omega)]
    exact h j u hj
theorem Has.app {E : fxE} {f f1 : Nat → va_E} {z : Nat} {tb TB : List kent} {t0 : kent} (h : Has E f z (tb ++ [t0])) (h1 : Has E f1 (z + tb.length) TB) (h2 : ∀ q, q < z + tb.length → f1 q = f q) : Has E f1 z (tb ++ TB.map (ksh tb.length)) := by
  intro j u hj
  by_cases h3 : j < tb.length
  · rw [List.getElem?_append_left h3] at hj
    rw [h2 _ (by omega)]
    exact h j u (by rw [List.getElem?_append_left h3]; exact hj)
  · rw [List.getElem?_append_right (by omega), List.getElem?_map] at hj
    cases hT : TB[j - tb.length]? with
    | none => rw [hT] at hj; cases hj
    | some v =>
      rw [hT] at hj
      cases hj
      have := h1 _ v hT
      rw [show z + tb.length + (j - tb.length) = z + j by omega] at this
      rw [this, kcell_sh]
/-! words of the nest -/
def kml : List (String × Nat × MethodName) := [(RX9, 11, yX5_init), (RX5, 9, yX2_init), (RX5, 18, yX0_init), (RX3, 24, yX5_init), (RX9, 47, yX2_init), (RX9, 53, yX6_init), (RX9, 78, yX4_init), (RX9, 86, yX8_init), (RX9, 87, yX1_init), (RX9, 88, yX7_init)]
def kns (s : State) : Prop := (∀ q ∈ kml, va_Nw (.methodLinkNest q.1 q.2.1 q.2.2 RX9) s) ∧ va_Nw (.fieldLinkNest RX5 23 "FibreBench" "LEAST_SETTING" "[I" RX9) s ∧ ∀ C ∈ [RX5, RX8, RX7, RX1], va_AO C s
theorem kns.warm {s U : State} (h : kns s) (hW : s.WarmedH U.vm) : kns U := ⟨fun q hq => va_Nw.warmM hW (h.1 q hq), va_Nw.warmF hW h.2.1, fun C hC => (h.2.2 C hC).moved hW.alike⟩
theorem kns.same {s U : State} (h : kns s) (hv : s.vm = U.vm) : kns U := ⟨fun q hq => va_Nw.same rfl hv (h.1 q hq), va_Nw.same rfl hv h.2.1, fun C hC => (h.2.2 C hC).moved (by rw [hv]; exact Vm.Alike.refl _)⟩
/-! the judgement -/
def kR (y : fxY) (mc ms : Nat) : Room := { frames := mF y, cells := mc, slots := ms, locals := mO y }
def kA (E : fxE) (B : Nat) : Prop := ∀ q, eA E q ↔ B ≤ q
def kP (E : fxE) (B N : Nat) (f : Nat → va_E) (H : Heap) : Prop := H.size = B + N ∧ va_P (eD E) vwCl (va_pl (List.range' B N) f) H
def kW (E : fxE) (B N : Nat) (f : Nat → va_E) (U : State) : Prop := kP E B N f U.heap ∧ va_K (eD E) vwCl (fx_ty E) U ∧ fx_st E U U.heap ∧ fx_ns U ∧ kns U
def kQ (E : fxE) (B N : Nat) (Q : (Nat → va_E) → Prop) : Array Value → State → Outcome → State → Prop := va_Qv Q (fun f t => kW E B N f t) (eA E)
def kc_C (E : fxE) (y : fxY) (p : Program) (s : State) (m : MethodId) (args : Array Value) (meth : Method) (c : Code) : Prop := fx_C E y p s m args meth c ∧ meth.name = "<init>" ∧ kns s
def kt_At (E : fxE) (B : Nat) (y : fxY) (mc ms n : Nat) (f0 : Nat → va_E) (pc : Nat) (lv : List (Option fxV)) (stk : List fxV) (tb : List kent) (sl : Nat) (Q : (Nat → va_E) → Prop) : Prop :=
  kA E B → 0 < tb.length → ∀ (p : Program) (l : Launch) (e : Env) (s : State) (m : MethodId) (args : Array Value) (below : List Frame) (meth : Method) (c : Code), kc_C E y p s m args meth c → s.heap.size = B + n + 1 →
    ∀ (H : Heap) (locs : List Loc) (ls : Array Slot) (f : Nat → va_E), va_S (eA E) s.heap H locs → lv_has ls (mL y) (fx_prs lv) → Has E f (B + n) tb → (∀ q, q < B + n → f q = f0 q) → kP E B (n + tb.length) f H →
      W p l e (kR y mc ms) s m args below meth c H locs (tb.length - 1) sl (MQ below (kQ E B (n + 1 + mc) Q) args s mc ms (eA E)) (F0 m pc ls (stk.map em))
def kpost (E : fxE) (z : Nat) (f0 : Nat → va_E) (tb : List kent) (f : Nat → va_E) : Prop := Has E f z tb ∧ ∀ q, q < z → f q = f0 q
/-- a constructor's contract -/
def kc_Ct (E : fxE) (B : Nat) (y : fxY) (mc ms n : Nat) (f : Nat → va_E) (Q : (Nat → va_E) → Prop) : Prop :=
  kA E B → ∀ l : Launch, Met l (mN y) (mW y) (kR y mc ms) (va_Pc [.ref (B + n)] (kW E B (n + 1) f)) (kQ E B (n + 1 + mc) Q) mc ms (eA E)
/-! the pool -/
theorem k_mem {B N a : Nat} (h1 : B ≤ a) (h2 : a < B + N) : a ∈ List.range' B N := List.mem_range'_1.mpr ⟨h1, h2⟩
theorem k_at {B N i : Nat} {f : Nat → va_E} (h : i < N) : (va_pl (List.range' B N) f)[i]? = some (B + i, f (B + i)) := by
  unfold va_pl
  rw [List.getElem?_map, List.getElem?_range' h, Nat.one_mul]
  rfl
theorem k_atL {B N i : Nat} {f : Nat → va_E} {q : Nat × va_E} (h : (va_pl (List.range' B N) f)[i]? = some q) : i < N ∧ q = (B + i, f (B + i)) := by
  have h1 := (List.getElem?_eq_some_iff.mp h).1
  have h2 : i < N := by simpa [va_pl] using h1
  rw [k_at h2] at h
  exact ⟨h2, (Option.some.inj h).symm⟩
theorem k_D {E : fxE} {B N : Nat} {f : Nat → va_E} (hA : kA E B) : va_D (eA E) (va_pl (List.range' B N) f) := by
  refine ⟨fun i j p q hp hq e => ?_, fun k q hk => ?_⟩
  · obtain ⟨-, rfl⟩ := k_atL hp
    obtain ⟨-, rfl⟩ := k_atL hq
    dsimp only at e
    omega
  · obtain ⟨-, rfl⟩ := k_atL hk
    exact (hA _).mpr (by dsimp only; omega)
theorem k_len {B N : Nat} {f : Nat → va_E} : (va_pl (List.range' B N) f).length = N := by simp [va_pl]
/-- the size of the heap is what was counted -/
theorem W_sz {p : Program} {l : Launch} {e : Env} {R : Room} {s : State} {m : MethodId} {args : Array Value} {below : List Frame} {meth : Method} {c : Code} {H : Heap} {locs : List Loc} {cells slots : Nat} {Q : State → Prop} {g : JFrame} (kk : H.size ≤ s.heap.size + cells → W p l e R s m args below meth c H locs cells slots Q g) : W p l e R s m args below meth c H locs cells slots Q g :=
  fun T hT X => kk (by rw [← hT]; exact X.heapSize) T hT X
theorem k_push {E : fxE} {B N q : Nat} {f : Nat → va_E} {x : va_E} {H1 : Heap} (hA : kA E B) (hD : va_D (eA E) (va_pl (List.range' B N) f ++ [(q, x)])) (hP : va_P (eD E) vwCl (va_pl (List.range' B N) f ++ [(q, x)]) H1) (hz : H1.size ≤ B + N + 1) : q = B + N ∧ kP E B (N + 1) (va_up f q x) H1 := by
  have hN : (va_pl (List.range' B N) f ++ [(q, x)])[N]? = some (q, x) := by
    rw [List.getElem?_append_right (by rw [k_len]; exact Nat.le_refl _), k_len, Nat.sub_self]; rfl
  have h1 := (hP N _ hN).lt
  have h2 := (hA q).mp (hD.2 N _ hN)
  have h3 : ¬ q < B + N := fun h => by
    have h4 : (va_pl (List.range' B N) f ++ [(q, x)])[q - B]? = some (q, f q) := by
      rw [List.getElem?_append_left (by rw [k_len]; omega), k_at (by omega), show B + (q - B) = q by omega]
    have := hD.1 (q - B) N _ _ h4 hN rfl
    omega
  dsimp only at h1
  have hq : q = B + N := by omega
  refine ⟨hq, by omega, ?_⟩
  subst hq
  rw [va_pl_push (fun z => by have := List.mem_range'_1.mp z; omega)] at hP
  rw [List.range'_1_concat]
  exact hP
theorem k_setP {E : fxE} {B N a q : Nat} {f : Nat → va_E} {x : va_E} {H1 : Heap} (hA : kA E B) (h1 : B ≤ a) (h2 : a < B + N) (hq : (va_pl (List.range' B N) f)[q]? = some (a, f a)) (hP : va_P (eD E) vwCl ((va_pl (List.range' B N) f).set q (a, x)) H1) (hz : H1.size ≤ B + N) : kP E B N (va_up f a x) H1 := by
  have e := va_pl_set (X := []) (e := x) (A := eA E) (k_D hA) (k_mem h1 h2) hq
  have e' : (va_pl (List.range' B N) f).set q (a, x) = va_pl (List.range' B N) (va_up f a x) := e
  rw [e'] at hP
  refine ⟨?_, hP⟩
  have := (hP (N - 1) _ (k_at (by omega))).lt
  dsimp only at this
  omega
theorem k_get {B N a : Nat} {f : Nat → va_E} (h1 : B ≤ a) (h2 : a < B + N) : ∃ q : Nat, (va_pl (List.range' B N) f)[q]? = some (a, f a) := ⟨a - B, by rw [k_at (by omega), show B + (a - B) = a by omega]⟩
