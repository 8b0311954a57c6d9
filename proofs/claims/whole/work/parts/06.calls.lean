/-! Contracts and calls. -/
theorem fx_args : ∀ (as : List fxV) (i k : Nat) (v : fxV), as[k]? = some v → (i + k, em v) ∈ lv_args i (as.map em)
  | [], _, _, _, h => by simp at h
  | a :: as, i, 0, v, h => by
    cases h
    exact List.mem_cons_self
  | a :: as, i, k + 1, v, h => by
    refine List.mem_cons_of_mem _ ?_
    rw [if_neg (by rw [em_cat]; omega), show i + (k + 1) = (i + 1) + k by omega]
    exact fx_args as (i + 1) k v h
theorem fx_sl (as : List fxV) : (lg_sl (as.map em)).length = as.length := by
  induction as with
  | nil => rfl
  | cons a as ih =>
    simp only [lg_sl, List.map_cons, List.flatMap_cons, em_cat, List.length_append] at ih ⊢
    simp [ih]
    omega
def fx_lv (n : Nat) (as : List fxV) : List (Option fxV) := as.map some ++ List.replicate (n - as.length) none
/-- a contract out of a walk from the method's entry -/
theorem x_ct {E : fxE} {y : fxY} {as : List fxV} {M : fxM} {Q : Option fxV → fxM → Prop} (hy : plainName (mN y).cls = true) (hlen : as.length ≤ mL y) (h : fx_At E y 0 (fx_lv (mL y) as) [] M Q) : fx_Ct E y as M Q := by
  intro hO l
  refine Met.ofW (cc := mC y) (maxL := mL y) (ret := mT y) hy rfl ?_
  intro p e s m args below meth c s₁ B hml hv
  obtain ⟨rfl, hP, hK, hst, hns⟩ := hv
  have hown : s.vm.findClass (mN y).cls = some m.cls := findClass_of_methodNamed B.named
  have hts := atoms_spec (ws := mW y) B.pre
  have hl := lv_entry (as.map em) (n := mL y) (by rw [fx_sl]; exact hlen)
  rw [lg_entry_eq]
  refine h hO p l e s m _ below meth c ⟨B.exec, B.bytes, hml, B.returns, B.notSynchronized, hown, hts, hK, hst, hns⟩ s.heap [] _ va_S.rf ⟨hl.1, hl.2.1, fun q hq => hl.2.2 q ?_⟩ hP
  obtain ⟨v, h1, h2⟩ := fx_prs_mem.mp hq
  have h3 : as[q.1]? = some v := by
    unfold fx_lv at h1
    by_cases hq1 : q.1 < as.length
    · rw [List.getElem?_append_left (by simpa using hq1), List.getElem?_map] at h1
      cases h4 : as[q.1]? with
      | none => rw [h4] at h1; cases h1
      | some w => rw [h4] at h1; cases h1; rfl
    · rw [List.getElem?_append_right (by simpa using Nat.le_of_not_lt hq1)] at h1
      have := List.mem_of_getElem? h1
      simp at this
  have h5 := fx_args as 0 q.1 v h3
  rw [Nat.zero_add, ← h2] at h5
  exact h5
def fx_p (z : fxY) (n : Nat) : Prop := (mN z).cls ≠ "java/lang/invoke/MethodHandle" ∧ (mN z).cls ≠ "java/lang/invoke/VarHandle" ∧ (parseMethodDescriptor (mN z).desc).map (fun d => d.parameters.length) = some n
def CalV (own : String) (i : Nat) (z : fxY) (n C : Nat) : Prop := Cond.methodLink own i (mN z) ∈ lw_good ∧ Cond.instanceMethod (mN z) ∈ lw_good ∧ Cond.selects (mN z).cls (mN z) (mN z) ∈ lw_good ∧ Cond.initialized (mN z).cls ∈ lw_good ∧ Cond.code (mN z) (mC z) (mL z) (mT z) ∈ lw_good ∧ fx_p z n ∧ C ≤ 10 ∧ ∃ (T : u_T) (N : Nat), vwCl[C]? = some ((mN z).cls, T, N)
def CalS (own : String) (i : Nat) (z : fxY) (n : Nat) : Prop := Cond.methodLink own i (mN z) ∈ lw_good ∧ Cond.static (mN z) ∈ lw_good ∧ Cond.initialized (mN z).cls ∈ lw_good ∧ Cond.code (mN z) (mC z) (mL z) (mT z) ∈ lw_good ∧ fx_p z n
def CalN (own : String) (i : Nat) (z : fxY) (n : Nat) : Prop := (∀ s : State, fx_ns s → va_Nw (.methodLinkNest own i (mN z) RX9) s) ∧ Cond.static (mN z) ∈ lw_good ∧ Cond.initialized (mN z).cls ∈ lw_good ∧ Cond.code (mN z) (mC z) (mL z) (mT z) ∈ lw_good ∧ fx_p z n
theorem fx_blind {E : fxE} {M : fxM} {as : List Value} : FrameBlind (va_Pc as (fx_W E M)) := by
  intro a U g mk h
  obtain ⟨h0, hP, hK, hst, hns⟩ := h
  exact ⟨h0, hP, va_K.moved (u := U) (U := U.calling g mk a) (Vm.Alike.refl U.vm) hK, ⟨⟨hst.1.1.moved (Vm.Alike.refl U.vm), hst.1.2.moved (Vm.Alike.refl U.vm)⟩, ⟨hst.2.1.1.moved (Vm.Alike.refl U.vm), hst.2.1.2.moved (Vm.Alike.refl U.vm)⟩, hst.2.2.1.moved (Vm.Alike.refl U.vm), hst.2.2.2.moved (Vm.Alike.refl U.vm)⟩, va_Nw.same rfl rfl hns.1, va_Nw.same rfl rfl hns.2.1, va_Nw.same rfl rfl hns.2.2⟩
section
variable {E : fxE} {y : fxY} {pc : Nat} {lv : List (Option fxV)} {stk : List fxV} {M : fxM} {Q : Option fxV → fxM → Prop}
/-- behind a call -/
theorem fx_back {p : Program} {l : Launch} {e : Env} {s : State} {m : MethodId} {args : Array Value} {below : List Frame} {meth : Method} {c : Code} {H : Heap} {locs : List Loc} {ls : Array Slot} {Q' : Option fxV → fxM → Prop} {rest : List fxV} {st0 : List Value} {a : Array Value} (hO : fx_Ok E) (C0 : fx_C E y p s m args meth c) (hS : va_S (eA E) s.heap H locs) (hl : lv_has ls (mL y) (fx_prs lv))
    (hr : va_Run p l e (mR y) s m args below meth c H locs 0 0 0 0 (F0 m pc ls st0) (rest.map em) (fx_Q E Q' a) (eA E))
    (kk : ∀ (r : Option fxV) (M' : fxM), Q' r M' → fx_At E y (pc + 3) lv (r.toList ++ rest) M' Q) : W p l e (mR y) s m args below meth c H locs 0 0 (MQ below (fx_Q E Q) args s 0 0 (eA E)) (F0 m pc ls st0) := by
  intro T hT X
  obtain ⟨v, st₀, t, T', L, h0, X', hL, e1, e2, ⟨⟨r, M', hv, hQ, hW⟩, hz, hk⟩, st⟩ := hr T hT X
  have hv' : v = r.map em := by cases hv; rfl
  subst hv'
  rw [h0] at hz hk
  have hS' : va_S (eA E) s.heap T'.heap (locs ++ L) := by
    refine ⟨Nat.le_trans hS.1 (by rw [e1]; exact hz), fun q h1 h2 => ?_, fun q hq => ?_⟩
    · rw [e1, hk q (Nat.lt_of_lt_of_le h1 hS.1) h2]
      exact hS.2.1 q h1 h2
    · rcases List.mem_append.mp hq with h | h
      · exact hS.2.2 q h
      · exact hL q h
  have hP' : fx_P E M' T'.heap := by rw [e1]; exact hW.1
  obtain ⟨t2, a1, b1⟩ := kk r M' hQ hO p l e s m args below meth c C0 T'.heap (locs ++ L) ls hS' hl hP' T' rfl X'
  refine ⟨t2, st t2 ?_, b1⟩
  have e3 : (r.toList ++ rest).map em = (r.map em).toList ++ rest.map em := by cases r <;> rfl
  rw [e3] at a1
  exact a1
theorem fx_cat (rest : List fxV) : ((rest.map em).map fun v => v.category).sum = rest.length := by
  induction rest with
  | nil => rfl
  | cons a r ih => simp only [List.map_cons, List.sum_cons, em_cat, ih, List.length_cons]; omega
theorem x_callV {z : fxY} {i b C : Nat} {as rest : List fxV} {Q' : Option fxV → fxM → Prop} (hd : decode (mC y) pc = .ok (.invokevirtual i, 3)) (hc : CalV (mN y).cls i z as.length C) (hf : mF z + 1 ≤ mF y ∧ 8 + (mL z + 11) + mO z ≤ mO y) (hb : kd E b = C) (hstk : as.reverse ++ .inr b :: rest = stk) (hrest : rest.length ≤ 8) (hct : fx_Ct E z (.inr b :: as) M Q') (kk : ∀ (r : Option fxV) (M' : fxM), Q' r M' → fx_At E y (pc + 3) lv (r.toList ++ rest) M' Q) : fx_At E y pc lv stk M Q := by
  intro hO p l e s m args below meth c C0 H locs ls hS hl hP
  obtain ⟨hx, hbc, hml, hr, hlk, hown, hts, hK, hst, hns⟩ := id C0
  obtain ⟨c1, c2, c3, c4, c5, c6, c7, T, N, c8⟩ := hc
  subst hstk
  obtain ⟨q, hq⟩ := fx_pl_get (M := M) hO (show kd E b ≤ 16 by omega)
  rw [cel_o hb c7] at hq
  refine fx_back (rest := rest) (a := (Value.ref b :: as.map em).toArray) hO C0 hS hl (va_runV (As := as.map em) (rest := rest.map em) (b := b) (n := as.length) ⟨hx, hbc, hml, hown, hts⟩ (hct hO l) ⟨callB_of as.length hts (fx_goodIn c5) rfl rfl rfl (fx_w hts c4) (fx_w hts c1) c6 hf, fx_w hts c2, fx_w hts c3⟩ ⟨fx_blind, va_recv hK hP c8 hq, fun U hU hW => ⟨rfl, fx_WM hK hst hns hS hP hU hW⟩⟩ rfl (by simp) hl.1 ?_ (lv_room (by rw [fx_cat]; exact hrest)) hd ⟨Nat.le_refl _, Nat.le_refl _⟩) kk
  simp [em]
theorem x_callS {z : fxY} {i : Nat} {as rest : List fxV} {Q' : Option fxV → fxM → Prop} (hd : decode (mC y) pc = .ok (.invokestatic i, 3)) (hc : CalS (mN y).cls i z as.length) (hf : mF z + 1 ≤ mF y ∧ 8 + (mL z + 11) + mO z ≤ mO y) (hstk : as.reverse ++ rest = stk) (hrest : rest.length ≤ 8) (hct : fx_Ct E z as M Q') (kk : ∀ (r : Option fxV) (M' : fxM), Q' r M' → fx_At E y (pc + 3) lv (r.toList ++ rest) M' Q) : fx_At E y pc lv stk M Q := by
  intro hO p l e s m args below meth c C0 H locs ls hS hl hP
  obtain ⟨hx, hbc, hml, hr, hlk, hown, hts, hK, hst, hns⟩ := id C0
  obtain ⟨c1, c2, c4, c5, c6⟩ := hc
  subst hstk
  refine fx_back (rest := rest) (a := (as.map em).toArray) hO C0 hS hl (va_runS (As := as.map em) (rest := rest.map em) (n := as.length) ⟨hx, hbc, hml, hown, hts⟩ (hct hO l) ⟨callB_of as.length hts (fx_goodIn c5) rfl rfl rfl (fx_w hts c4) (fx_w hts c1) c6 hf, fx_w hts c2⟩ ⟨fx_blind, fun U hU hW => ⟨rfl, fx_WM hK hst hns hS hP hU hW⟩⟩ rfl (by simp) hl.1 ?_ (lv_room (by rw [fx_cat]; exact hrest)) hd ⟨Nat.le_refl _, Nat.le_refl _⟩) kk
  simp
theorem x_callN {z : fxY} {i : Nat} {as rest : List fxV} {Q' : Option fxV → fxM → Prop} (hd : decode (mC y) pc = .ok (.invokestatic i, 3)) (hc : CalN (mN y).cls i z as.length) (hf : mF z + 1 ≤ mF y ∧ 8 + (mL z + 11) + mO z ≤ mO y) (hstk : as.reverse ++ rest = stk) (hrest : rest.length ≤ 8) (hct : fx_Ct E z as M Q') (kk : ∀ (r : Option fxV) (M' : fxM), Q' r M' → fx_At E y (pc + 3) lv (r.toList ++ rest) M' Q) : fx_At E y pc lv stk M Q := by
  intro hO p l e s m args below meth c C0 H locs ls hS hl hP
  obtain ⟨hx, hbc, hml, hr, hlk, hown, hts, hK, hst, hns⟩ := id C0
  obtain ⟨c1, c2, c4, c5, c6⟩ := hc
  subst hstk
  refine fx_back (rest := rest) (a := (as.map em).toArray) hO C0 hS hl (va_runSN (As := as.map em) (rest := rest.map em) (n := as.length) ⟨hx, hbc, hml, hown, hts⟩ (hct hO l) ⟨va_cnB as.length hts (fx_goodIn c5) rfl rfl rfl (c1 s hns) (fx_w hts c4) c6 hf, fx_w hts c2, trivial⟩ ⟨fx_blind, fun U hU hW => ⟨rfl, fx_WM hK hst hns hS hP hU hW⟩⟩ rfl (by simp) hl.1 ?_ (lv_room (by rw [fx_cat]; exact hrest)) hd ⟨Nat.le_refl _, Nat.le_refl _⟩) kk
  simp
/-- the first n of one row into another -/
def mcpy (M : fxM) (a b : Nat) (n : Int) : fxM := fun c j => if c = b ∧ (j : Int) < n then M a j else M c j
theorem x_copy {a b na nb i : Nat} {n : Int} (hd : decode (mC y) pc = .ok (.invokestatic i, 3)) (hq : Cond.methodLink (mN y).cls i arraycopyName ∈ lw_good ∧ Cond.native arraycopyName ∈ lw_good ∧ Cond.static arraycopyName ∈ lw_good ∧ Cond.initialized "java/lang/System" ∈ lw_good) (ha : kd E a = 11) (hb : kd E b = 11) (hna : ln E a = na) (hnb : ln E b = nb) (hn : 0 ≤ n ∧ n ≤ (na : Int) ∧ n ≤ (nb : Int)) (hF : 1 ≤ mF y) (hO1 : stk.length + (nativeFrameWords "java/lang/System" "arraycopy" 5 + 11) ≤ mO y) (kk : ∀ M1, M1 = mcpy M a b n → fx_At E y (pc + 3) lv stk M1 Q) : fx_At E y pc lv (.inl n :: .inl 0 :: .inr b :: .inl 0 :: .inr a :: stk) M Q := by
  intro hO p l e s m args below meth c C0 H locs ls hS hl hP
  obtain ⟨hx, hbc, hml, hr, hlk, hown, hts, hK, hst, hns⟩ := id C0
  obtain ⟨qa, hqa⟩ := fx_pl_get (M := M) hO (show kd E a ≤ 16 by omega)
  obtain ⟨qb, hqb⟩ := fx_pl_get (M := M) hO (show kd E b ≤ 16 by omega)
  have hqb' := hqb
  rw [cel_i ha (by omega) (by omega), hna] at hqa
  rw [cel_i hb (by omega) (by omega), hnb] at hqb
  have hs1 := hO.2.2.1 a
  have hs2 := hO.2.2.1 b
  have hc : (i3 n).toNatClampNeg = n.toNat := i3_clamp hn.1 (by omega)
  have h0 : (0 : Int32).toNatClampNeg = 0 := by decide
  have hset := fx_pl_set (M := M) (M' := mcpy M a b n) (e := .inl (eY E 11, nb, .inl (va_cpy (fun j => i3 (M a j)) (fun j => i3 (M b j)) 0 0 n.toNat))) hO (show kd E b ≤ 16 by omega) hqb' (by
    rw [cel_i hb (by omega) (by omega), hnb]
    congr 4
    funext j
    by_cases h : (j : Int) < n
    · have : j < n.toNat := by omega
      simp [va_cpy, mcpy, h, this]
    · have : ¬ j < n.toNat := by omega
      simp [va_cpy, mcpy, h, this]) (fun c hc => by funext j; simp [mcpy, hc])
  refine va_copyi (n := i3 n) (sp := 0) (dp := 0) hx hbc (hml.trans hl.1.symm) hown (fx_w hts hq.1) (fx_w hts hq.2.1) (fx_w hts hq.2.2.1) (fx_w hts hq.2.2.2) hK hP (fx_D hO) hS qa qb 0 0 hqa hqb rfl rfl rfl (by decide) (by decide) ?_ ?_ ?_ (fun _ _ => rfl) hF (by rw [fx_cat]; exact hO1) hd (fun H1 locs1 hP1 _ hS1 => ?_)
  · exact fun h => by have := (i3_lt ⟨by omega, by omega⟩ inR_0).mp h; omega
  · rw [hc, h0]; omega
  · rw [hc, h0]; omega
  · rw [hc, h0, hset] at hP1
    exact kk _ rfl hO p l e s m args below meth c C0 H1 locs1 ls hS1 hl hP1
end
