/-! xor of two that are not negative; a contract of a method that the machine has no entry for, though its class has entries -/
theorem fa_xor (a b : Nat) : nI a ^^^ nI b = nI (a ^^^ b) := by
  apply Int32.toBitVec_inj.1
  show BitVec.ofNat 32 a ^^^ BitVec.ofNat 32 b = BitVec.ofNat 32 (a ^^^ b)
  apply BitVec.eq_of_getLsbD_eq
  intro i hi
  simp [hi]
theorem x_ixor {E : fxE} {y : fxY} {pc : Nat} {lv : List (Option fxV)} {stk : List fxV} {M : fxM} {Q : Option fxV → fxM → Prop} {a b : Nat} {a' b' : Int} (ha : a' = (a : Int) ∧ a < 2147483648) (hb : b' = (b : Int) ∧ b < 2147483648) (hd : decode (mC y) pc = .ok (.ixor, 1)) (kk : fx_At E y (pc + 1) lv (.inl ((a ^^^ b : Nat) : Int) :: stk) M Q) : fx_At E y pc lv (.inl b' :: .inl a' :: stk) M Q := by
  obtain ⟨rfl, _⟩ := ha
  obtain ⟨rfl, _⟩ := hb
  intro hO p l e s m args below meth c C H locs ls hS hl hP
  have h := kk hO p l e s m args below meth c C H locs ls hS hl hP
  rw [List.map_cons, em, i3_nat, ← fa_xor, ← i3_nat, ← i3_nat] at h
  exact lv_ixor C.1 C.2.1 hd h
/-- as x_ct, by the method's own name -/
theorem x_ctF {E : fxE} {y : fxY} {as : List fxV} {M : fxM} {Q : Option fxV → fxM → Prop} (hy : plainFor (mN y) = true) (hlen : as.length ≤ mL y) (h : fx_At E y 0 (fx_lv (mL y) as) [] M Q) : fx_Ct E y as M Q := by
  intro hO l
  refine va_MetF (cc := mC y) (maxL := mL y) (ret := mT y) hy rfl ?_
  intro p e s m args below meth c s₁ B hml hv
  obtain ⟨rfl, hP, hK, hst, hns⟩ := hv
  have hown : s.vm.findClass (mN y).cls = some m.cls := findClass_of_methodNamed B.named
  have hts := atoms_spec (ws := mW y) B.pre
  have hl := lv_entry (as.map em) (n := mL y) (by rw [fx_sl]; exact hlen)
  rw [lg_entry_eq]
  refine h hO p l e s m _ below meth c ⟨B.exec, B.bytes, hml, B.returns, B.notSynchronized, hown, hts, hK, hst, hns⟩ s.heap [] _ va_S.rf ⟨hl.1, hl.2.1, fun q hq => hl.2.2 q ?_⟩ hP
  obtain ⟨v, h1, h2⟩ := fx_prs_mem.mp hq
  have h3 : as[q.1]? = some v := by
    unfold fx_lv at h1
    by_cases hq1 : q.1 < as.length
    · rw [List.getElem?_append_left (by simpa using hq1), List.getElem?_map] at h1
      cases h4 : as[q.1]? with
      | none => rw [h4] at h1; cases h1
      | some w => rw [h4] at h1; cases h1; rfl
    · rw [List.getElem?_append_right (by simpa using Nat.le_of_not_lt hq1)] at h1
      have := List.mem_of_getElem? h1
      simp at this
  have h5 := fx_args as 0 q.1 v h3
  rw [Nat.zero_add, ← h2] at h5
  exact h5
