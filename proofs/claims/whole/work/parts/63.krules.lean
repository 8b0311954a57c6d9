/-! Rules of the making of objects. -/
section
variable {E : fxE} {B : Nat} {y : fxY} {mc ms n : Nat} {f0 : Nat → va_E} {pc : Nat} {lv : List (Option fxV)} {stk : List fxV} {tb : List kent} {sl : Nat} {Q : (Nat → va_E) → Prop}
theorem t_setW {p : Program} {l : Launch} {e : Env} {s : State} {m : MethodId} {args : Array Value} {below : List Frame} {meth : Method} {c : Code} {H1 : Heap} {locs1 : List Loc} {ls : Array Slot} {f : Nat → va_E} {o q : Nat} {t : kent} (kk : kt_At E B y mc ms n f0 pc lv stk (tb.set o t) sl Q) (hA : kA E B) (C : kc_C E y p s m args meth c) (hs : s.heap.size = B + n + 1) (hS1 : va_S (eA E) s.heap H1 locs1) (hl : lv_has ls (mL y) (fx_prs lv)) (hH : Has E f (B + n) tb) (hf : ∀ q, q < B + n → f q = f0 q) (ho : o < tb.length) (hq : (va_pl (List.range' B (n + tb.length)) f)[q]? = some (B + n + o, f (B + n + o))) (hP1 : va_P (eD E) vwCl ((va_pl (List.range' B (n + tb.length)) f).set q (B + n + o, kcell E (B + n) t)) H1) :
    W p l e (kR y mc ms) s m args below meth c H1 locs1 (tb.length - 1) sl (MQ below (kQ E B (n + 1 + mc) Q) args s mc ms (eA E)) (F0 m pc ls (stk.map em)) := by
  refine W_sz (fun hz => ?_)
  have h1 := k_setP hA (by omega) (by omega) hq hP1 (by omega)
  have h2 := kk hA (by rw [List.length_set]; omega) p l e s m args below meth c C hs H1 locs1 ls _ hS1 hl (hH.set (t := t) (a := B + n + o) rfl) (fun q hq => by rw [va_up_ne _ _ (by omega)]; exact hf q hq) (by rw [List.length_set]; exact h1)
  rw [List.length_set] at h2
  exact h2
theorem t_pushW {p : Program} {l : Launch} {e : Env} {s : State} {m : MethodId} {args : Array Value} {below : List Frame} {meth : Method} {c : Code} {H1 : Heap} {locs1 : List Loc} {ls : Array Slot} {f : Nat → va_E} {q sl' : Nat} {t : kent} {pc' : Nat} {st : Nat → List Value} (kk : kt_At E B y mc ms n f0 pc' lv (.inr (B + n + tb.length) :: stk) (tb ++ [t]) sl' Q) (hA : kA E B) (h0 : 0 < tb.length) (C : kc_C E y p s m args meth c) (hs : s.heap.size = B + n + 1) (hS1 : va_S (eA E) s.heap H1 locs1) (hl : lv_has ls (mL y) (fx_prs lv)) (hH : Has E f (B + n) tb) (hf : ∀ q, q < B + n → f q = f0 q) (hD1 : va_D (eA E) (va_pl (List.range' B (n + tb.length)) f ++ [(q, kcell E (B + n) t)])) (hP1 : va_P (eD E) vwCl (va_pl (List.range' B (n + tb.length)) f ++ [(q, kcell E (B + n) t)]) H1) :
    W p l e (kR y mc ms) s m args below meth c H1 locs1 (tb.length - 1 + 1) sl' (MQ below (kQ E B (n + 1 + mc) Q) args s mc ms (eA E)) (F0 m pc' ls (.ref q :: stk.map em)) := by
  refine W_sz (fun hz => ?_)
  obtain ⟨hq, h1⟩ := k_push hA hD1 hP1 (by omega)
  have ea : B + (n + tb.length) = B + n + tb.length := by omega
  rw [ea] at hq
  subst hq
  have h2 := kk hA (by simp) p l e s m args below meth c C hs H1 locs1 ls _ hS1 hl (hH.push (t := t) rfl) (fun q hq => by rw [va_up_ne _ _ (by omega)]; exact hf q hq) (by rw [List.length_append, List.length_singleton, ← Nat.add_assoc]; exact h1)
  have ec : tb.length - 1 + 1 = (tb ++ [t]).length - 1 := by rw [List.length_append, List.length_singleton]; omega
  rw [ec]
  exact h2
theorem t_aload_n {k : Fin 4} {i a : Nat} (hd : decode (mC y) pc = .ok (.aload_n k, 1)) (hi : (k : Nat) = i) (hv : lv[i]? = some (some (.inr a))) (kk : kt_At E B y mc ms n f0 (pc + 1) lv (.inr a :: stk) tb sl Q) : kt_At E B y mc ms n f0 pc lv stk tb sl Q := by
  intro hA h0 p l e s m args below meth c C hs H locs ls f hS hl hH hf hP
  exact lv_aload_n C.1.1 C.1.2.1 hd hi (fx_at hl hv) (kk hA h0 p l e s m args below meth c C hs H locs ls f hS hl hH hf hP)
theorem t_iload_n {k : Fin 4} {i : Nat} {x : Int} (hd : decode (mC y) pc = .ok (.iload_n k, 1)) (hi : (k : Nat) = i) (hv : lv[i]? = some (some (.inl x))) (kk : kt_At E B y mc ms n f0 (pc + 1) lv (.inl x :: stk) tb sl Q) : kt_At E B y mc ms n f0 pc lv stk tb sl Q := by
  intro hA h0 p l e s m args below meth c C hs H locs ls f hS hl hH hf hP
  exact lv_iload_n C.1.1 C.1.2.1 hd hi (fx_at hl hv) (kk hA h0 p l e s m args below meth c C hs H locs ls f hS hl hH hf hP)
theorem t_istore_n {k : Fin 4} {i : Nat} {x : Int} {lv' : List (Option fxV)} (hd : decode (mC y) pc = .ok (.istore_n k, 1)) (hi : (k : Nat) = i) (hn : i < mL y) (he : lv.set i (some (.inl x)) = lv') (kk : kt_At E B y mc ms n f0 (pc + 1) lv' stk tb sl Q) : kt_At E B y mc ms n f0 pc lv (.inl x :: stk) tb sl Q := by
  intro hA h0 p l e s m args below meth c C hs H locs ls f hS hl hH hf hP
  subst he
  exact lv_istore_n C.1.1 C.1.2.1 hd hi hl hn rfl (fun ls' hl' => kk hA h0 p l e s m args below meth c C hs H locs ls' f hS (fx_stored (v := .inl x) hl') hH hf hP)
theorem t_iinc {i : Nat} {d x : Int} {lv' : List (Option fxV)} (hd : decode (mC y) pc = .ok (.iinc i d, 3)) (hv : lv[i]? = some (some (.inl x))) (hn : i < mL y) (he : lv.set i (some (.inl (x + d))) = lv') (kk : kt_At E B y mc ms n f0 (pc + 3) lv' stk tb sl Q) : kt_At E B y mc ms n f0 pc lv stk tb sl Q := by
  intro hA h0 p l e s m args below meth c C hs H locs ls f hS hl hH hf hP
  subst he
  obtain ⟨k, hk⟩ := List.getElem?_of_mem (fx_prs_mem.mpr ⟨.inl x, hv, rfl⟩ : ((i, em (.inl x)) : Nat × Value) ∈ fx_prs lv)
  exact lv_iinc (v := i3 (x + d)) C.1.1 C.1.2.1 hd hl hk (i3_add x d).symm hn rfl (fun ls' hl' => kk hA h0 p l e s m args below meth c C hs H locs ls' f hS (fx_stored (v := .inl (x + d)) hl') hH hf hP)
theorem t_iconst {x : Int} (hd : decode (mC y) pc = .ok (.iconst x, 1)) (kk : kt_At E B y mc ms n f0 (pc + 1) lv (.inl x :: stk) tb sl Q) : kt_At E B y mc ms n f0 pc lv stk tb sl Q := by
  intro hA h0 p l e s m args below meth c C hs H locs ls f hS hl hH hf hP
  exact lv_iconst C.1.1 C.1.2.1 hd rfl (kk hA h0 p l e s m args below meth c C hs H locs ls f hS hl hH hf hP)
theorem t_bipush {x : Int} (hd : decode (mC y) pc = .ok (.bipush x, 2)) (hv : (Int8.ofInt x).toInt32 = i3 x) (kk : kt_At E B y mc ms n f0 (pc + 2) lv (.inl x :: stk) tb sl Q) : kt_At E B y mc ms n f0 pc lv stk tb sl Q := by
  intro hA h0 p l e s m args below meth c C hs H locs ls f hS hl hH hf hP
  exact lv_bipush C.1.1 C.1.2.1 hd hv (kk hA h0 p l e s m args below meth c C hs H locs ls f hS hl hH hf hP)
theorem t_sipush {x : Int} (hd : decode (mC y) pc = .ok (.sipush x, 3)) (hv : (Int16.ofInt x).toInt32 = i3 x) (kk : kt_At E B y mc ms n f0 (pc + 3) lv (.inl x :: stk) tb sl Q) : kt_At E B y mc ms n f0 pc lv stk tb sl Q := by
  intro hA h0 p l e s m args below meth c C hs H locs ls f hS hl hH hf hP
  exact lv_sipush C.1.1 C.1.2.1 hd hv (kk hA h0 p l e s m args below meth c C hs H locs ls f hS hl hH hf hP)
theorem t_ldc {i : Nat} {x : Int} {v : Int32} (hd : decode (mC y) pc = .ok (.ldc i, 2)) (hq : Cond.constant (mN y).cls i v ∈ lw_good) (hv : v = i3 x) (kk : kt_At E B y mc ms n f0 (pc + 2) lv (.inl x :: stk) tb sl Q) : kt_At E B y mc ms n f0 pc lv stk tb sl Q := by
  intro hA h0 p l e s m args below meth c C hs H locs ls f hS hl hH hf hP
  obtain ⟨⟨hx, hb, hml, hr, hlk, hown, hts, hK, hst, hns⟩, hin, hk⟩ := id C
  subst hv
  exact lv_ldc hx hb hown (fx_w hts hq) hd (kk hA h0 p l e s m args below meth c C hs H locs ls f hS hl hH hf hP)
theorem t_dup {v : fxV} (hd : decode (mC y) pc = .ok (.dup, 1)) (kk : kt_At E B y mc ms n f0 (pc + 1) lv (v :: v :: stk) tb sl Q) : kt_At E B y mc ms n f0 pc lv (v :: stk) tb sl Q := by
  intro hA h0 p l e s m args below meth c C hs H locs ls f hS hl hH hf hP
  exact lv_dup C.1.1 C.1.2.1 hd (em_cat v) (kk hA h0 p l e s m args below meth c C hs H locs ls f hS hl hH hf hP)
theorem t_goto {off : Int} (tgt : Nat) (hd : decode (mC y) pc = .ok (.goto off, 3)) (ht : (pc : Int) + off = (tgt : Int)) (kk : kt_At E B y mc ms n f0 tgt lv stk tb sl Q) : kt_At E B y mc ms n f0 pc lv stk tb sl Q := by
  intro hA h0 p l e s m args below meth c C hs H locs ls f hS hl hH hf hP
  exact lv_goto C.1.1 C.1.2.1 hd ht (kk hA h0 p l e s m args below meth c C hs H locs ls f hS hl hH hf hP)
theorem t_cge {a b off : Int} (tgt : Nat) (hd : decode (mC y) pc = .ok (.if_icmp .ge off, 3)) (ht : (pc : Int) + off = (tgt : Int)) (hr : inR a ∧ inR b) (kt : b ≤ a → kt_At E B y mc ms n f0 tgt lv stk tb sl Q) (kf : ¬ b ≤ a → kt_At E B y mc ms n f0 (pc + 3) lv stk tb sl Q) : kt_At E B y mc ms n f0 pc lv (.inl b :: .inl a :: stk) tb sl Q := by
  intro hA h0 p l e s m args below meth c C hs H locs ls f hS hl hH hf hP
  exact lv_icmp_ge C.1.1 C.1.2.1 hd ht (fun h => kt ((i3_le hr.2 hr.1).mp h) hA h0 p l e s m args below meth c C hs H locs ls f hS hl hH hf hP) (fun h => kf (fun z => h ((i3_le hr.2 hr.1).mpr z)) hA h0 p l e s m args below meth c C hs H locs ls f hS hl hH hf hP)
theorem k_oi : Cond.instanceMethod Lib.objectInit ∈ lw_good ∧ Cond.code Lib.objectInit ⟨#[0xb1]⟩ 1 none ∈ lw_good := ⟨lw_goodI (tb1 (List.mem_of_getElem? (i := 21) (by decide +kernel))) rfl, lw_goodI (tb1 (List.mem_of_getElem? (i := 22) (by decide +kernel))) rfl⟩
theorem t_init0 {i : Nat} {a : Nat} (hd : decode (mC y) pc = .ok (.invokespecial i, 3)) (hq : Cond.methodLink (mN y).cls i Lib.objectInit ∈ lw_good) (hF : 1 ≤ mF y ∧ 20 ≤ mO y) (hst : stk.length ≤ 8) (kk : kt_At E B y mc ms n f0 (pc + 3) lv stk tb sl Q) : kt_At E B y mc ms n f0 pc lv (.inr a :: stk) tb sl Q := by
  intro hA h0 p l e s m args below meth c C hs H locs ls f hS hl hH hf hP
  obtain ⟨⟨hx, hb, hml, hr, hlk, hown, hts, hK, hst', hns⟩, hin, hk⟩ := id C
  refine W.objInit hx hb hown (fx_w hts hq) (fx_w hts k_oi.1) (fx_w hts k_oi.2) rfl (by rw [hml]; exact hl.1) rfl hd hF.1 ?_ (kk hA h0 p l e s m args below meth c C hs H locs ls f hS hl hH hf hP)
  exact Nat.le_trans (Nat.add_le_add_right (lv_room (by rw [fx_cat]; exact hst)) 12) hF.2
theorem k_ac : Cond.arrayClass .int ∈ lw_good ∧ Cond.arrayClass .boolean ∈ lw_good := ⟨lw_goodI (tb1 (List.mem_of_getElem? (i := 91) (by decide +kernel))) rfl, lw_goodI (tb1 (List.mem_of_getElem? (i := 209) (by decide +kernel))) rfl⟩
theorem i3_nn {N : Nat} (h : N < 100000) : ¬ i3 (N : Int) < 0 := fun z => by
  have := (i3_lt (x := (N : Int)) (y := 0) ⟨by omega, by omega⟩ inR_0).mp z
  omega
theorem t_newi {N : Nat} {N' : Int} (hN : N' = (N : Int)) (hd : decode (mC y) pc = .ok (.newarray .int, 2)) (hb1 : N < 100000) (hm : tb.length ≤ mc ∧ sl + N ≤ ms) (kk : kt_At E B y mc ms n f0 (pc + 2) lv (.inr (B + n + tb.length) :: stk) (tb ++ [(11, N, [])]) (sl + N) Q) : kt_At E B y mc ms n f0 pc lv (.inl N' :: stk) tb sl Q := by
  intro hA h0 p l e s m args below meth c C hs H locs ls f hS hl hH hf hP
  obtain ⟨⟨hx, hb, hml, hr, hlk, hown, hts, hK, hst, hns⟩, hin, hk⟩ := id C
  subst hN
  refine va_newa (atype := .int) (ty := .int) (n := i3 (N : Int)) (N' := N) (a0 := (N, .inl (kci []))) hx hb (fx_w hts k_ac.1) rfl hK hP.2 (k_D hA) hS (fun q hq => (hA q).mpr (by omega)) (fun cA => by rw [kci_nil]; rfl) (i3_nn hb1) (by rw [i3_clamp (by omega) (by omega), Int.toNat_natCast]) (by show N * 4 ≤ 536870912; omega) (by show tb.length - 1 + 1 ≤ mc; omega) hm.2 hd (fun q cA H1 hK1 hP1 hD1 hS1 => ?_)
  have e1 : s.vm.findClass ("[" ++ FieldType.int.toString) = some cA := (hK1.2 6 (cA, .int) rfl).2
  have e2 : s.vm.findClass ("[" ++ FieldType.int.toString) = some (eY E 11) := (hK.2 0 (eY E 11, .int) rfl).2
  have e3 : cA = eY E 11 := Option.some.inj (e1.symm.trans e2)
  subst e3
  have e4 : kcell E (B + n) (11, N, []) = .inl (eY E 11, N, .inl (kci [])) := kc_i (by decide) (by decide)
  rw [← e4] at hP1 hD1
  exact t_pushW (st := fun _ => []) kk hA h0 C hs hS1 hl hH hf hD1 hP1
theorem t_newz {N : Nat} {N' : Int} (hN : N' = (N : Int)) (hd : decode (mC y) pc = .ok (.newarray .boolean, 2)) (hb1 : N < 100000) (hm : tb.length ≤ mc ∧ sl + N ≤ ms) (kk : kt_At E B y mc ms n f0 (pc + 2) lv (.inr (B + n + tb.length) :: stk) (tb ++ [(12, N, [])]) (sl + N) Q) : kt_At E B y mc ms n f0 pc lv (.inl N' :: stk) tb sl Q := by
  intro hA h0 p l e s m args below meth c C hs H locs ls f hS hl hH hf hP
  obtain ⟨⟨hx, hb, hml, hr, hlk, hown, hts, hK, hst, hns⟩, hin, hk⟩ := id C
  subst hN
  refine va_newa (atype := .boolean) (ty := .boolean) (n := i3 (N : Int)) (N' := N) (a0 := (N, .inl (kci []))) hx hb (fx_w hts k_ac.2) rfl hK hP.2 (k_D hA) hS (fun q hq => (hA q).mpr (by omega)) (fun cA => by rw [kci_nil]; rfl) (i3_nn hb1) (by rw [i3_clamp (by omega) (by omega), Int.toNat_natCast]) (by show N * 1 ≤ 536870912; omega) (by show tb.length - 1 + 1 ≤ mc; omega) hm.2 hd (fun q cA H1 hK1 hP1 hD1 hS1 => ?_)
  have e1 : s.vm.findClass ("[" ++ FieldType.boolean.toString) = some cA := (hK1.2 6 (cA, .boolean) rfl).2
  have e2 : s.vm.findClass ("[" ++ FieldType.boolean.toString) = some (eY E 12) := (hK.2 1 (eY E 12, .boolean) rfl).2
  have e3 : cA = eY E 12 := Option.some.inj (e1.symm.trans e2)
  subst e3
  have e4 : kcell E (B + n) (12, N, []) = .inl (eY E 12, N, .inl (kci [])) := kc_i (by decide) (by decide)
  rw [← e4] at hP1 hD1
  exact t_pushW (st := fun _ => []) kk hA h0 C hs hS1 hl hH hf hD1 hP1
theorem t_newq {N K t0 i : Nat} {N' : Int} {R : String} (hN : N' = (N : Int)) (hd : decode (mC y) pc = .ok (.anewarray i, 3)) (hq : Cond.classLink (mN y).cls i R ∈ lw_good) (hR : R ∈ [RX5, RX8, RX7, RX1]) (hK0 : 12 < K) (ht : (fx_ty E)[t0]? = some (eY E K, .object R)) (hb1 : N < 100000) (hm : tb.length ≤ mc ∧ sl + N ≤ ms) (kk : kt_At E B y mc ms n f0 (pc + 3) lv (.inr (B + n + tb.length) :: stk) (tb ++ [(K, N, [])]) (sl + N) Q) : kt_At E B y mc ms n f0 pc lv (.inl N' :: stk) tb sl Q := by
  intro hA h0 p l e s m args below meth c C hs H locs ls f hS hl hH hf hP
  obtain ⟨⟨hx, hb, hml, hr, hlk, hown, hts, hK, hst, hns⟩, hin, hk⟩ := id C
  subst hN
  refine va_newq (n := i3 (N : Int)) (N' := N) hx hb hown (fx_w hts hq) (hk.2.2 R hR) hK hP.2 (k_D hA) hS (fun q hq => (hA q).mpr (by omega)) (i3_nn hb1) (by rw [i3_clamp (by omega) (by omega), Int.toNat_natCast]) (by omega) (by show tb.length - 1 + 1 ≤ mc; omega) hm.2 hd (fun q cA H1 hK1 hP1 hD1 hS1 => ?_)
  obtain ⟨-, -, -, -, -, e1⟩ := (hK1.2 6 (cA, .object R) rfl).2
  obtain ⟨-, -, -, -, -, e2⟩ := (hK.2 t0 (eY E K, .object R) ht).2
  have e3 : cA = eY E K := Option.some.inj (e1.symm.trans e2)
  subst e3
  have e4 : kcell E (B + n) (K, N, []) = .inl (eY E K, N, .inr (.inr (.inr (.inr (fun _ => none))))) := by rw [kc_r hK0, kcr_nil]
  rw [← e4] at hP1 hD1
  exact t_pushW (st := fun _ => []) kk hA h0 C hs hS1 hl hH hf hD1 hP1
def Nw (own : String) (i C N : Nat) : Prop := ∃ (R : String) (T : u_T) (ty : Nat → FieldType), vwCl[C]? = some (R, T, N) ∧ (∀ w ∈ u_ws R T N, w ∈ lw_good) ∧ Cond.classLink own i R ∈ lw_good ∧ Cond.instantiable R N ∈ lw_good ∧ Cond.initialized R ∈ lw_good ∧ (∀ k, k < N → parseFieldDescriptor (T k).2.2.1 = some (ty k)) ∧ (∀ j, j < N → defaultValue (ty j) = vp_V ((blk C).map (kv 0)) j) ∧ C ≤ 10
theorem blk_z {C z : Nat} : (blk C).map (kv z) = (blk C).map (kv 0) := by
  unfold blk
  rw [List.map_map, List.map_map]
  exact List.map_congr_left (fun b _ => by cases b <;> rfl)
theorem t_new {i C N : Nat} (hd : decode (mC y) pc = .ok (.new i, 3)) (hN : Nw (mN y).cls i C N) (hm : tb.length ≤ mc ∧ sl + N ≤ ms) (kk : kt_At E B y mc ms n f0 (pc + 3) lv (.inr (B + n + tb.length) :: stk) (tb ++ [(C, 0, blk C)]) (sl + N) Q) : kt_At E B y mc ms n f0 pc lv stk tb sl Q := by
  intro hA h0 p l e s m args below meth c C0 hs H locs ls f hS hl hH hf hP
  obtain ⟨⟨hx, hb, hml, hr, hlk, hown, hts, hK, hst, hns⟩, hin, hk⟩ := id C0
  obtain ⟨R, T, ty, n1, n2, n3, n4, n5, n6, n7, n8⟩ := hN
  refine va_new (ci := C) (fs := (blk C).map (kv (B + n))) (C := R) (T := T) (N := N) hx hb hts (fun w hw => List.mem_cons_of_mem _ (n2 w hw)) ty n6 hown (fx_w hts n3) (fx_w hts n4) (fx_w hts n5) hK hP.2 (k_D hA) hS (fun q hq => (hA q).mpr (by omega)) n1 (fun j hj => by rw [blk_z]; exact n7 j hj) (by show tb.length - 1 + 1 ≤ mc; omega) hm.2 hd (fun q H1 hP1 hD1 hS1 => ?_)
  have e4 : kcell E (B + n) (C, 0, blk C) = .inr (C, (blk C).map (kv (B + n))) := kc_o n8
  rw [← e4] at hP1 hD1
  exact t_pushW (st := fun _ => []) kk hA h0 C0 hs hS1 hl hH hf hD1 hP1
theorem t_puti {i C k o L : Nat} {v : Int} {vs : List (Option fxV)} (hd : decode (mC y) pc = .ok (.putfield i, 3)) (hF : Fld (mN y).cls i C k false) (ho : tb[o]? = some (C, L, vs)) (hk : k < vs.length) (kk : kt_At E B y mc ms n f0 (pc + 3) lv stk (tb.set o (C, L, vs.set k (some (.inl v)))) sl Q) : kt_At E B y mc ms n f0 pc lv (.inl v :: .inr (B + n + o) :: stk) tb sl Q := by
  intro hA h0 p l e s m args below meth c C0 hs H locs ls f hS hl hH hf hP
  obtain ⟨⟨hx, hb, hml, hr, hlk, hown, hts, hK, hst, hns⟩, hin, hkn⟩ := id C0
  obtain ⟨R, T, N, ty, f1, f2, f3, f4, f5, f6, f7, f8, f9, f10⟩ := hF
  have hol := (List.getElem?_eq_some_iff.mp ho).1
  obtain ⟨q, hq⟩ := k_get (B := B) (N := n + tb.length) (a := B + n + o) (f := f) (by omega) (by omega)
  have hq' := hq
  rw [hH o _ ho, kc_o f10] at hq
  refine va_put (ref := R) (ty := .int) (v := .int (i3 v)) hx hb hts (fun w hw => List.mem_cons_of_mem _ (f2 w hw)) ty f7 f8 hown hK hP.2 (k_D hA) hS q hq f1 k f3 (fx_w hts f5) (fun x h => by rw [f6] at h; exact h) (f9 rfl).1 ((f7 k f3).trans (congrArg some (f9 rfl).2)) rfl rfl (by rw [List.length_map]; exact hk) hd (fun H1 locs1 hP1 _ hS1 => ?_)
  have e4 : kcell E (B + n) (C, L, vs.set k (some (.inl v))) = .inr (C, (vs.map (kv (B + n))).set k (.int (i3 v))) := by rw [kc_o f10, List.map_set]; rfl
  rw [← e4] at hP1
  exact t_setW kk hA C0 hs hS1 hl hH hf hol hq' hP1
def FldF (own : String) (i C k : Nat) : Prop := ∃ (R : String) (T : u_T) (N : Nat) (ty : Nat → FieldType), vwCl[C]? = some (R, T, N) ∧ (∀ w ∈ u_ws R T N, w ∈ lw_good) ∧ k < N ∧ Cond.fieldLink own i R (T k).2.1 (T k).2.2.1 ∈ lw_good ∧ (T k).1 = R ∧ own = R ∧ (∀ k, k < N → parseFieldDescriptor (T k).2.2.1 = some (ty k)) ∧ (∀ a, a < N → ∀ b, b < N → a ≠ b → (T a).2.1 ≠ (T b).2.1) ∧ (T k).2.2.2 = true ∧ (∀ a : Nat, narrow (ty k) (.ref a) = .ref a ∧ fits (ty k) (.ref a) = true) ∧ C ≤ 10
theorem t_putr {i C k o o' L : Nat} {vs : List (Option fxV)} (hd : decode (mC y) pc = .ok (.putfield i, 3)) (hF : FldF (mN y).cls i C k) (ho : tb[o]? = some (C, L, vs)) (hk : k < vs.length) (kk : kt_At E B y mc ms n f0 (pc + 3) lv stk (tb.set o (C, L, vs.set k (some (.inr o')))) sl Q) : kt_At E B y mc ms n f0 pc lv (.inr (B + n + o') :: .inr (B + n + o) :: stk) tb sl Q := by
  intro hA h0 p l e s m args below meth c C0 hs H locs ls f hS hl hH hf hP
  obtain ⟨⟨hx, hb, hml, hr, hlk, hown, hts, hK, hst, hns⟩, hin, hkn⟩ := id C0
  obtain ⟨R, T, N, ty, f1, f2, f3, f5, f6, f6', f7, f8, f9, f11, f10⟩ := hF
  have hol := (List.getElem?_eq_some_iff.mp ho).1
  obtain ⟨q, hq⟩ := k_get (B := B) (N := n + tb.length) (a := B + n + o) (f := f) (by omega) (by omega)
  have hq' := hq
  rw [hH o _ ho, kc_o f10] at hq
  refine va_putF (ref := R) (ty := ty k) (v := .ref (B + n + o')) hx hb hts (fun w hw => List.mem_cons_of_mem _ (f2 w hw)) ty f7 f8 hown hK hP.2 (k_D hA) hS q hq f1 k f3 (fx_w hts f5) (fun x h => by rw [f6] at h; exact h) f9 hin (f6.trans f6'.symm) (f7 k f3) (f11 _).1 (f11 _).2 (by rw [List.length_map]; exact hk) hd (fun H1 locs1 hP1 _ hS1 => ?_)
  have e4 : kcell E (B + n) (C, L, vs.set k (some (.inr o'))) = .inr (C, (vs.map (kv (B + n))).set k (.ref (B + n + o'))) := by rw [kc_o f10, List.map_set]; rfl
  rw [← e4] at hP1
  exact t_setW kk hA C0 hs hS1 hl hH hf hol hq' hP1
theorem t_getr {i C k o o' L : Nat} {vs : List (Option fxV)} (hd : decode (mC y) pc = .ok (.getfield i, 3)) (hF : Fld (mN y).cls i C k true) (ho : tb[o]? = some (C, L, vs)) (hk : vs[k]? = some (some (.inr o'))) (kk : kt_At E B y mc ms n f0 (pc + 3) lv (.inr (B + n + o') :: stk) tb sl Q) : kt_At E B y mc ms n f0 pc lv (.inr (B + n + o) :: stk) tb sl Q := by
  intro hA h0 p l e s m args below meth c C0 hs H locs ls f hS hl hH hf hP
  obtain ⟨⟨hx, hb, hml, hr, hlk, hown, hts, hK, hst, hns⟩, hin, hkn⟩ := id C0
  obtain ⟨R, T, N, ty, f1, f2, f3, f4, f5, f6, f7, f8, f9, f10⟩ := hF
  have hol := (List.getElem?_eq_some_iff.mp ho).1
  obtain ⟨q, hq⟩ := k_get (B := B) (N := n + tb.length) (a := B + n + o) (f := f) (by omega) (by omega)
  rw [hH o _ ho, kc_o f10] at hq
  exact va_get (ref := R) hx hb hts (fun w hw => List.mem_cons_of_mem _ (f2 w hw)) hown hK hP.2 q hq f1 k f3 (fx_w hts f5) (fun x h => by rw [f6] at h; exact h) (by rw [List.getElem?_map, hk]; rfl) hd (kk hA h0 p l e s m args below meth c C0 hs H locs ls f hS hl hH hf hP)
theorem t_iast {o L : Nat} {i v : Int} {vs : List (Option fxV)} (hd : decode (mC y) pc = .ok (.iastore, 1)) (ho : tb[o]? = some (11, L, vs)) (hi : 0 ≤ i ∧ i < (L : Int)) (hL : L < 100000) (kk : kt_At E B y mc ms n f0 (pc + 1) lv stk (tb.set o (11, L, kput vs i.toNat (some (.inl v)))) sl Q) : kt_At E B y mc ms n f0 pc lv (.inl v :: .inl i :: .inr (B + n + o) :: stk) tb sl Q := by
  intro hA h0 p l e s m args below meth c C0 hs H locs ls f hS hl hH hf hP
  obtain ⟨⟨hx, hb, hml, hr, hlk, hown, hts, hK, hst, hns⟩, hin, hkn⟩ := id C0
  have hol := (List.getElem?_eq_some_iff.mp ho).1
  obtain ⟨q, hq⟩ := k_get (B := B) (N := n + tb.length) (a := B + n + o) (f := f) (by omega) (by omega)
  have hq' := hq
  rw [hH o _ ho, kc_i (by decide) (by decide)] at hq
  refine va_iast hx hb hK hP.2 (k_D hA) hS q 0 hq rfl (i3_in hi.1 hi.2 (by omega)) hd (fun H1 locs1 hP1 _ hS1 => ?_)
  have e4 : kcell E (B + n) (11, L, kput vs i.toNat (some (.inl v))) = .inl (eY E 11, L, .inl (upd (kci vs) (i3 i).toNatClampNeg (i3 v))) := by rw [kc_i (by decide) (by decide), kci_put, i3_clamp hi.1 (by omega)]
  rw [← e4] at hP1
  exact t_setW kk hA C0 hs hS1 hl hH hf hol hq' hP1
theorem t_aast {o o' L L' K t0 C N : Nat} {i : Int} {R : String} {T : u_T} {vs vs' : List (Option fxV)} (hd : decode (mC y) pc = .ok (.aastore, 1)) (ho : tb[o]? = some (K, L, vs)) (hK0 : 12 < K) (ht : (fx_ty E)[t0]? = some (eY E K, .object R)) (ho' : tb[o']? = some (C, L', vs')) (hC : C ≤ 10) (hc : vwCl[C]? = some (R, T, N)) (hi : 0 ≤ i ∧ i < (L : Int)) (hL : L < 100000) (kk : kt_At E B y mc ms n f0 (pc + 1) lv stk (tb.set o (K, L, kput vs i.toNat (some (.inr o')))) sl Q) : kt_At E B y mc ms n f0 pc lv (.inr (B + n + o') :: .inl i :: .inr (B + n + o) :: stk) tb sl Q := by
  intro hA h0 p l e s m args below meth c C0 hs H locs ls f hS hl hH hf hP
  obtain ⟨⟨hx, hb, hml, hr, hlk, hown, hts, hK, hst, hns⟩, hin, hkn⟩ := id C0
  have hol := (List.getElem?_eq_some_iff.mp ho).1
  have hol' := (List.getElem?_eq_some_iff.mp ho').1
  obtain ⟨q, hq⟩ := k_get (B := B) (N := n + tb.length) (a := B + n + o) (f := f) (by omega) (by omega)
  obtain ⟨q', hq1⟩ := k_get (B := B) (N := n + tb.length) (a := B + n + o') (f := f) (by omega) (by omega)
  have hq' := hq
  rw [hH o _ ho, kc_r hK0] at hq
  rw [hH o' _ ho', kc_o hC] at hq1
  refine va_astq hx hb hK hP.2 (k_D hA) hS q t0 q' C hq ht hq1 hc (i3_in hi.1 hi.2 (by omega)) hd (fun H1 locs1 hP1 _ hS1 => ?_)
  have e4 : kcell E (B + n) (K, L, kput vs i.toNat (some (.inr o'))) = .inl (eY E K, L, .inr (.inr (.inr (.inr (va_up (kcr (B + n) vs) (i3 i).toNatClampNeg (some (B + n + o'))))))) := by rw [kc_r hK0, kcr_put, i3_clamp hi.1 (by omega)]
  rw [← e4] at hP1
  exact t_setW kk hA C0 hs hS1 hl hH hf hol hq' hP1
theorem t_alen {o L K t0 : Nat} {R : String} {vs : List (Option fxV)} (hd : decode (mC y) pc = .ok (.arraylength, 1)) (ho : tb[o]? = some (K, L, vs)) (hK0 : 12 < K) (ht : (fx_ty E)[t0]? = some (eY E K, .object R)) (kk : kt_At E B y mc ms n f0 (pc + 1) lv (.inl (L : Int) :: stk) tb sl Q) : kt_At E B y mc ms n f0 pc lv (.inr (B + n + o) :: stk) tb sl Q := by
  intro hA h0 p l e s m args below meth c C0 hs H locs ls f hS hl hH hf hP
  obtain ⟨⟨hx, hb, hml, hr, hlk, hown, hts, hK, hst, hns⟩, hin, hkn⟩ := id C0
  have hol := (List.getElem?_eq_some_iff.mp ho).1
  obtain ⟨q, hq⟩ := k_get (B := B) (N := n + tb.length) (a := B + n + o) (f := f) (by omega) (by omega)
  rw [hH o _ ho, kc_r hK0] at hq
  have h := kk hA h0 p l e s m args below meth c C0 hs H locs ls f hS hl hH hf hP
  rw [List.map_cons, em, i3_nat] at h
  exact va_alen hx hb hK hP.2 q t0 hq ht rfl hd h
theorem t_gets (hy : (mN y).cls = RX5) (hd : decode (mC y) pc = .ok (.getstatic 23, 3)) (kk : kt_At E B y mc ms n f0 (pc + 3) lv (.inr (sta E 0) :: stk) tb sl Q) : kt_At E B y mc ms n f0 pc lv stk tb sl Q := by
  intro hA h0 p l e s m args below meth c C0 hs H locs ls f hS hl hH hf hP
  obtain ⟨⟨hx, hb, hml, hr, hlk, hown, hts, hK, hst, hns⟩, hin, hkn⟩ := id C0
  rw [hy] at hown
  exact va_getsN (own := RX5) (host := RX9) hx hb hst.1.1 hS hown (va_Nw.use rfl hkn.2.1) (fun _ h => h) hd (kk hA h0 p l e s m args below meth c C0 hs H locs ls f hS hl hH hf hP)
theorem t_tlen (hd : decode (mC y) pc = .ok (.arraylength, 1)) (kk : kt_At E B y mc ms n f0 (pc + 1) lv (.inl 4 :: stk) tb sl Q) : kt_At E B y mc ms n f0 pc lv (.inr (sta E 0) :: stk) tb sl Q := by
  intro hA h0 p l e s m args below meth c C0 hs H locs ls f hS hl hH hf hP
  obtain ⟨⟨hx, hb, hml, hr, hlk, hown, hts, hK, hst, hns⟩, hin, hkn⟩ := id C0
  exact va_tlen hx hb hst.1.2 hS rfl hd (kk hA h0 p l e s m args below meth c C0 hs H locs ls f hS hl hH hf hP)
theorem kW_of {s U : State} {H : Heap} {locs : List Loc} {N : Nat} {f : Nat → va_E} (hK : va_K (eD E) vwCl (fx_ty E) s) (hst : fx_st E s s.heap) (hns : fx_ns s) (hkn : kns s) (hS : va_S (eA E) s.heap H locs) (hP : kP E B N f H) (hU : U.heap = H) (hW : s.WarmedH U.vm) : kW E B N f U :=
  ⟨by rw [hU]; exact hP, va_K.moved hW.alike hK, fx_stM hst hS hU hW.alike, fx_nsM hns hW, hkn.warm hW⟩
theorem t_ret (hd : decode (mC y) pc = .ok (.return_, 1)) (ht : mT y = none) (hm : tb.length = mc + 1) (hsl : sl = ms) (hQ : ∀ f, Has E f (B + n) tb → (∀ q, q < B + n → f q = f0 q) → Q f) : kt_At E B y mc ms n f0 pc lv [] tb sl Q := by
  intro hA h0 p l e s m args below meth c C0 hs H locs ls f hS hl hH hf hP
  obtain ⟨⟨hx, hb, hml, hr, hlk, hown, hts, hK, hst, hns⟩, hin, hkn⟩ := id C0
  subst hsl
  have e1 : tb.length - 1 = mc := by omega
  rw [e1]
  have hP' : kP E B (n + 1 + mc) f H := by rw [show n + 1 + mc = n + tb.length by omega]; exact hP
  exact W.vret hx hb (hr.trans ht) (fun t ht hW => ⟨⟨f, rfl, hQ f hH hf, kW_of hK hst hns hkn hS hP' ht hW⟩, hS.F ht⟩) hS.2.2 hd hlk
theorem kW_blind {N : Nat} {f : Nat → va_E} {as : List Value} : FrameBlind (va_Pc as (kW E B N f)) := by
  intro a U g mk h
  obtain ⟨h1, hP, hK, hst, hns, hkn⟩ := h
  exact ⟨h1, hP, va_K.moved (u := U) (U := U.calling g mk a) (Vm.Alike.refl U.vm) hK, ⟨⟨hst.1.1.moved (Vm.Alike.refl U.vm), hst.1.2.moved (Vm.Alike.refl U.vm)⟩, ⟨hst.2.1.1.moved (Vm.Alike.refl U.vm), hst.2.1.2.moved (Vm.Alike.refl U.vm)⟩, hst.2.2.1.moved (Vm.Alike.refl U.vm), hst.2.2.2.moved (Vm.Alike.refl U.vm)⟩, ⟨va_Nw.same rfl rfl hns.1, va_Nw.same rfl rfl hns.2.1, va_Nw.same rfl rfl hns.2.2⟩, hkn.same rfl⟩
/-- a constructor out of a walk from its entry -/
theorem t_ct {C : Nat} (hy : plainName (mN y).cls = true) (hnm : (mN y).name = "<init>") (hlen : 1 ≤ mL y) (h0 : f0 (B + n) = kcell E (B + n) (C, 0, blk C)) (h : kt_At E B y mc ms n f0 0 (fx_lv (mL y) [.inr (B + n)]) [] [(C, 0, blk C)] 0 Q) : kc_Ct E B y mc ms n f0 Q := by
  intro hA l
  refine Met.ofW (cc := mC y) (maxL := mL y) (ret := mT y) hy rfl ?_
  intro p e s m args below meth c s₁ B0 hml hv
  obtain ⟨rfl, hP, hK, hst, hns, hkn⟩ := hv
  have hown : s.vm.findClass (mN y).cls = some m.cls := findClass_of_methodNamed B0.named
  have hin : meth.name = "<init>" := ((name_of_methodNamed B0.named B0.method).1).trans hnm
  have hts := atoms_spec (ws := mW y) B0.pre
  have hl := lv_entry ([Value.ref (B + n)]) (n := mL y) (by have := fx_sl [.inr (B + n)]; exact Nat.le_trans (Nat.le_of_eq this) hlen)
  rw [lg_entry_eq]
  refine h hA (Nat.succ_pos _) p l e s m _ below meth c ⟨⟨B0.exec, B0.bytes, hml, B0.returns, B0.notSynchronized, hown, hts, hK, hst, hns⟩, hin, hkn⟩ hP.1 s.heap [] _ f0 va_S.rf ⟨hl.1, hl.2.1, fun q hq => hl.2.2 q ?_⟩ ?_ (fun _ _ => rfl) hP
  · obtain ⟨v, h1, h2⟩ := fx_prs_mem.mp hq
    have h3 : ([Sum.inr (B + n)] : List fxV)[q.1]? = some v := by
      unfold fx_lv at h1
      by_cases hq1 : q.1 < 1
      · rw [List.getElem?_append_left (by simpa using hq1), List.getElem?_map] at h1
        cases h4 : ([Sum.inr (B + n)] : List fxV)[q.1]? with
        | none => rw [h4] at h1; cases h1
        | some w => rw [h4] at h1; cases h1; rfl
      · rw [List.getElem?_append_right (by simpa using Nat.le_of_not_lt hq1)] at h1
        have := List.mem_of_getElem? h1
        simp at this
    have h5 := fx_args [.inr (B + n)] 0 q.1 v h3
    rw [Nat.zero_add, ← h2] at h5
    exact h5
  · intro j t hj
    match j, hj with
    | 0, hj => cases hj; exact h0
    | j + 1, hj => simp at hj
def CalI (own : String) (i : Nat) (z : fxY) : Prop := ((own, i, mN z) ∈ kml ∨ Cond.methodLink own i (mN z) ∈ lw_good) ∧ (mN z).name = "<init>" ∧ mT z = none ∧ Cond.instanceMethod (mN z) ∈ lw_good ∧ Cond.initialized (mN z).cls ∈ lw_good ∧ Cond.code (mN z) (mC z) (mL z) (mT z) ∈ lw_good ∧ fx_p z 0
theorem t_callI {z : fxY} {i C mc' ms' : Nat} {TB : List kent} (hd : decode (mC y) pc = .ok (.invokespecial i, 3)) (hc : CalI (mN y).cls i z) (hf1 : mF z + 1 ≤ mF y ∧ 8 + (mL z + 11) + mO z ≤ mO y) (hm : tb.length + mc' ≤ mc ∧ sl + ms' ≤ ms) (hrest : stk.length ≤ 8) (hTB : TB.length = mc' + 1) (hct : ∀ (n : Nat) (f : Nat → va_E), f (B + n) = kcell E (B + n) (C, 0, blk C) → kc_Ct E B z mc' ms' n f (kpost E (B + n) f TB)) (kk : kt_At E B y mc ms n f0 (pc + 3) lv stk (tb ++ TB.map (ksh tb.length)) (sl + ms') Q) : kt_At E B y mc ms n f0 pc lv (.inr (B + n + tb.length) :: stk) (tb ++ [(C, 0, blk C)]) sl Q := by
  intro hA h0 p l e s m args below meth c C0 hs H locs ls f hS hl hH hf hP
  obtain ⟨⟨hx, hb, hml, hr, hlk, hown, hts, hK, hst, hns⟩, hin, hkn⟩ := id C0
  obtain ⟨c1, c2, c2', c3, c4, c5, c6⟩ := hc
  have ez : B + n + tb.length = B + (n + tb.length) := by omega
  have h1 : f (B + (n + tb.length)) = kcell E (B + (n + tb.length)) (C, 0, blk C) := by
    have h2 := hH tb.length (C, 0, blk C) (by rw [List.getElem?_append_right (Nat.le_refl _), Nat.sub_self]; rfl)
    rw [← ez, h2]
    by_cases hC : C ≤ 10
    · rw [kc_o hC, kc_o hC, blk_z, blk_z (z := B + n + tb.length)]
    · by_cases hC2 : C ≤ 12
      · rw [kc_i (by omega) hC2, kc_i (by omega) hC2]
      · have : blk C = [] := by
          unfold blk
          have : lay C = [] := by
            unfold lay
            split <;> first | rfl | omega
          rw [this]; rfl
        rw [kc_r (by omega), kc_r (by omega), this, kcr_nil, kcr_nil]
  have hM := hct (n + tb.length) f h1 hA l
  have hP' : kP E B (n + tb.length + 1) f H := by
    rw [List.length_append, List.length_singleton, ← Nat.add_assoc] at hP
    exact hP
  have ec : (tb ++ [(C, 0, blk C)]).length - 1 = tb.length := by rw [List.length_append, List.length_singleton]; omega
  have hrun : va_Run p l e (kR y mc ms) s m args below meth c H locs ((tb ++ [(C, 0, blk C)]).length - 1) sl mc' ms' (F0 m pc ls (.ref (B + (n + tb.length)) :: stk.map em)) (stk.map em) (kQ E B (n + tb.length + 1 + mc') (kpost E (B + (n + tb.length)) f TB) (Value.ref (B + (n + tb.length)) :: []).toArray) (eA E) := by
    rw [ec]
    have hpre : PreS s H (va_Pc [.ref (B + (n + tb.length))] (kW E B (n + tb.length + 1) f)) [.ref (B + (n + tb.length))] := ⟨kW_blind, fun U hU hW => ⟨rfl, kW_of hK hst hns hkn hS hP' hU hW⟩⟩
    rcases c1 with c1 | c1
    · refine va_runIN (host := RX9) (As := []) (rest := stk.map em) (n := 0) (maxL := mL z) (bytes := mC z) ⟨hx, hb, hml, hown, hts⟩ hM ⟨?_, c2, fx_w hts c3⟩ hpre rfl rfl hl.1 rfl (lv_room (by rw [fx_cat]; exact hrest)) hd ⟨hm.1, hm.2⟩
      exact va_cnB 0 hts (fx_goodIn c5) (by show mW z = _; rw [← c2']; rfl) rfl rfl (hkn.1 _ c1) (fx_w hts c4) c6 hf1
    · refine va_runI (As := []) (rest := stk.map em) (n := 0) (maxL := mL z) (bytes := mC z) ⟨hx, hb, hml, hown, hts⟩ hM ⟨?_, c2, fx_w hts c3⟩ hpre rfl rfl hl.1 rfl (lv_room (by rw [fx_cat]; exact hrest)) hd ⟨hm.1, hm.2⟩
      exact callB_of 0 hts (fx_goodIn c5) (by show mW z = _; rw [← c2']; rfl) rfl rfl (fx_w hts c4) (fx_w hts c1) c6 hf1
  show W p l e (kR y mc ms) s m args below meth c H locs _ sl _ (F0 m pc ls (.ref (B + n + tb.length) :: stk.map em))
  rw [ez]
  refine va_callv hrun hS (fun q _ h => h) (fun q h => h) (fun f1 t H1 locs1 ht hvm hp hB _ _ hS1 => ?_)
  obtain ⟨g1, g2⟩ := hp
  have hB1 := hB.1
  rw [ht] at hB1
  have hlen : (tb ++ TB.map (ksh tb.length)).length = tb.length + mc' + 1 := by rw [List.length_append, List.length_map, hTB, Nat.add_assoc]
  have h3 := kk hA (by omega) p l e s m args below meth c C0 hs H1 locs1 ls f1 hS1 hl (hH.app (by rw [ez]; exact g1) (fun q hq => g2 q (by omega))) (fun q hq => by rw [g2 q (by omega)]; exact hf q hq) (by rw [hlen]; rw [show n + (tb.length + mc' + 1) = n + tb.length + 1 + mc' by omega]; exact hB1)
  rw [hlen] at h3
  rw [ec]
  exact h3
end
