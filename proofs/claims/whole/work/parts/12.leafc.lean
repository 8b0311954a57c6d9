/-! contracts of the leaves -/
theorem ct_isWithin {E : fxE} {M : fxM} (hW : fx_Wt E) {v lo hi : Int} (h1 : inR v) (h2 : inR lo) (h3 : inR hi) : CtB E m_X9_isWithin [.inl v, .inl lo, .inl hi] M (lo ≤ v ∧ v ≤ hi) := by
  refine x_ct (by decide) (Nat.le_of_ble_eq_true rfl) (b_X9_isWithin_0 hW v lo hi M _ ⟨h1, h2, ?_, ?_⟩)
  · intro h
    exact ⟨rfl, Or.inr ⟨by omega, rfl⟩⟩
  · intro h
    refine ⟨h3, ?_, ?_⟩
    · intro h'
      exact ⟨rfl, Or.inr ⟨by omega, rfl⟩⟩
    · intro h'
      exact ⟨rfl, Or.inl ⟨by omega, rfl⟩⟩
theorem ct_isIn {E : fxE} {M : fxM} (hW : fx_Wt E) {v lo hi : Int} (h1 : inR v) (h2 : inR lo) (h3 : inR hi) : CtB E m_X10_isIn [.inl v, .inl lo, .inl hi] M (lo ≤ v ∧ v ≤ hi) := by
  refine x_ct (by decide) (Nat.le_of_ble_eq_true rfl) (b_X10_isIn_0 hW v lo hi M _ ⟨h1, h2, ?_, ?_⟩)
  · intro h
    exact ⟨rfl, Or.inr ⟨by omega, rfl⟩⟩
  · intro h
    refine ⟨h3, ?_, ?_⟩
    · intro h'
      exact ⟨rfl, Or.inr ⟨by omega, rfl⟩⟩
    · intro h'
      exact ⟨rfl, Or.inl ⟨by omega, rfl⟩⟩
/-- Math.floorMod by 8, of a number that is not negative -/
theorem ct_floorMod8 {E : fxE} {M : fxM} (hW : fx_Wt E) {v : Int} (h : 0 ≤ v ∧ v < 2147483648) : CtF E m_J9_floorMod_7cf53 [.inl v, .inl 8] M (v % 8) := by
  obtain ⟨n, rfl⟩ := Int.eq_ofNat_of_zero_le h.1
  have h8 : n < 2 ^ 31 := by omega
  have hx : n ^^^ 8 < 2 ^ 31 := Nat.xor_lt_two_pow h8 (by decide)
  refine x_ctF (by decide +kernel) (Nat.le_of_ble_eq_true rfl) (b_J9_floorMod_7cf53_0 hW (n : Int) 8 M _ ⟨by omega, n, 8, ⟨rfl, by omega⟩, ⟨rfl, by decide⟩, by omega, fun _ => ⟨rfl, rfl⟩, fun z => absurd (by omega) z⟩)
/-! Math's own: by the kit's rows -/
theorem kw_max : Cond.code Lib.Math.max.name Lib.Math.max.code 2 (some .int) ∈ lw_good := lw_goodI (by decide +kernel) rfl
theorem kw_min : Cond.code Lib.Math.min.name Lib.Math.min.code 2 (some .int) ∈ lw_good := lw_goodI (by decide +kernel) rfl
theorem kw_abs : Cond.code Lib.Math.abs.name Lib.Math.abs.code 1 (some .int) ∈ lw_good := lw_goodI (by decide +kernel) rfl
section
variable {E : fxE} {y : fxY} {pc : Nat} {lv : List (Option fxV)} {stk : List fxV} {M : fxM} {Q : Option fxV → fxM → Prop}
theorem x_mmax {i : Nat} {a b : Int} (hd : decode (mC y) pc = .ok (.invokestatic i, 3)) (hc : CalS (mN y).cls i m_J9_max_7cf53 2) (hf : 1 ≤ mF y ∧ stk.length + 13 ≤ mO y) (hr : inR a ∧ inR b) (kk : fx_At E y (pc + 3) lv (.inl (max a b) :: stk) M Q) : fx_At E y pc lv (.inl b :: .inl a :: stk) M Q := by
  intro hO p l e s m args below meth c C0 H locs ls hS hl hP
  obtain ⟨hx, hbc, hml, _, hlk, hown, hts, hK, hst, hns⟩ := id C0
  have h := kk hO p l e s m args below meth c C0 H locs ls hS hl hP
  refine va_mmax (x := i3 a) (y := i3 b) hx hbc (hml.trans hl.1.symm) hown (fx_w hts hc.1) (fx_w hts hc.2.1) (fx_w hts hc.2.2.1) (fx_w hts kw_max) hf.1 (by rw [fx_cat]; exact hf.2) (Nat.zero_le _) (Nat.zero_le _) hd ?_
  by_cases g : a < b
  · rw [if_pos ((i3_lt hr.1 hr.2).mpr g)]
    rw [show max a b = b by omega] at h
    exact h
  · rw [if_neg (fun z => g ((i3_lt hr.1 hr.2).mp z))]
    rw [show max a b = a by omega] at h
    exact h
theorem x_mmin {i : Nat} {a b : Int} (hd : decode (mC y) pc = .ok (.invokestatic i, 3)) (hc : CalS (mN y).cls i m_J9_min_7cf53 2) (hf : 1 ≤ mF y ∧ stk.length + 13 ≤ mO y) (hr : inR a ∧ inR b) (kk : fx_At E y (pc + 3) lv (.inl (min a b) :: stk) M Q) : fx_At E y pc lv (.inl b :: .inl a :: stk) M Q := by
  intro hO p l e s m args below meth c C0 H locs ls hS hl hP
  obtain ⟨hx, hbc, hml, _, hlk, hown, hts, hK, hst, hns⟩ := id C0
  have h := kk hO p l e s m args below meth c C0 H locs ls hS hl hP
  refine va_mmin (x := i3 a) (y := i3 b) hx hbc (hml.trans hl.1.symm) hown (fx_w hts hc.1) (fx_w hts hc.2.1) (fx_w hts hc.2.2.1) (fx_w hts kw_min) hf.1 (by rw [fx_cat]; exact hf.2) (Nat.zero_le _) (Nat.zero_le _) hd ?_
  by_cases g : b < a
  · rw [if_pos ((i3_lt hr.2 hr.1).mpr g)]
    rw [show min a b = b by omega] at h
    exact h
  · rw [if_neg (fun z => g ((i3_lt hr.2 hr.1).mp z))]
    rw [show min a b = a by omega] at h
    exact h
theorem x_mabs {i : Nat} {a : Int} (hd : decode (mC y) pc = .ok (.invokestatic i, 3)) (hc : CalS (mN y).cls i m_J9_abs_0f7a4 1) (hf : 1 ≤ mF y ∧ stk.length + 13 ≤ mO y) (hr : inR a) (kk : fx_At E y (pc + 3) lv (.inl (if 0 ≤ a then a else -a) :: stk) M Q) : fx_At E y pc lv (.inl a :: stk) M Q := by
  intro hO p l e s m args below meth c C0 H locs ls hS hl hP
  obtain ⟨hx, hbc, hml, _, hlk, hown, hts, hK, hst, hns⟩ := id C0
  have h := kk hO p l e s m args below meth c C0 H locs ls hS hl hP
  refine va_mabs (x := i3 a) hx hbc (hml.trans hl.1.symm) hown (fx_w hts hc.1) (fx_w hts hc.2.1) (fx_w hts hc.2.2.1) (fx_w hts kw_abs) hf.1 (by rw [fx_cat]; exact hf.2) (Nat.zero_le _) (Nat.zero_le _) hd ?_
  by_cases g : 0 ≤ a
  · rw [if_pos (show (0 : Int32) ≤ i3 a from (i3_le inR_0 hr).mpr g)]
    rw [if_pos g] at h
    exact h
  · rw [if_neg (show ¬ (0 : Int32) ≤ i3 a from fun z => g ((i3_le inR_0 hr).mp z))]
    rw [if_neg g] at h
    rw [show (0 : Int32) - i3 a = i3 (-a) by rw [← i3_0, ← i3_sub, Int.zero_sub]]
    exact h
end
theorem x_lsw {E : fxE} {y : fxY} {pc : Nat} {lv : List (Option fxV)} {stk : List fxV} {M : fxM} {Q : Option fxV → fxM → Prop} {a dflt : Int} {ps : Array (Int × Int)} {len : Nat} (tgt : Nat) (hd : decode (mC y) pc = .ok (.lookupswitch dflt ps, len)) (hp : (ps.toList.zip (ps.toList.drop 1)).all (fun (a, next) => a.1 < next.1) = true) (hr : inR a) (ht : (pc : Int) + Op.lookupswitch.offset ps.toList dflt a = (tgt : Int)) (kk : fx_At E y tgt lv stk M Q) : fx_At E y pc lv (.inl a :: stk) M Q := by
  intro hO p l e s m args below meth c C H locs ls hS hlv hP
  exact lv_lookup C.1 C.2.1 hd hp (by rw [i3_toInt hr]) ht (kk hO p l e s m args below meth c C H locs ls hS hlv hP)
/-- the wide form of iinc -/
theorem fx_iincw {p : Program} {l : Launch} {e : Env} {R : Room} {s : State} {m : MethodId} {args : Array Value} {below : List Frame} {meth : Method} {c : Code} {H : Heap} {locs : List Loc} {cells slots : Nat} {Q : State → Prop} {cc : ByteArray} {pc : Nat} {ls : Array Slot} {rest : List Value} (hexec : p.tables.exec = Jvm.exec) (hb : c.code = cc) {i nL k : Nat} {n : Int} {x v : Int32} {lv lv' : List (Nat × Value)} (hdg : decode cc pc = .ok (.iinc i n, 6)) (h : lv_has ls nL lv) (hk : lv[k]? = some (i, .int x)) (hv : x + Int32.ofInt n = v) (hn : i < nL) (hl : (i, Value.int v) :: lv.filter (fun q => !(q.1 == i) && !(q.1 + 1 == i && q.2.category == 2)) = lv')
    (kk : ∀ ls' : Array Slot, lv_has ls' nL lv' → W p l e R s m args below meth c H locs cells slots Q (F0 m (pc + 6) ls' rest)) : W p l e R s m args below meth c H locs cells slots Q (F0 m pc ls rest) := by
  subst hv
  have hg := lv_at h k hk
  obtain ⟨ls', e', h'⟩ := lv_store1 (v := .int (x + Int32.ofInt n)) h hn rfl
  intro T hT X
  obtain ⟨t, a, b⟩ := kk ls' (hl ▸ h') T hT X
  refine ⟨t, ?_, b⟩
  jvm_step X.here [X.here.top, ↓top_set X.here.top, hexec, hb, hdg, hg, e']
  exact a
theorem x_iincw {E : fxE} {y : fxY} {pc : Nat} {lv : List (Option fxV)} {stk : List fxV} {M : fxM} {Q : Option fxV → fxM → Prop} {i : Nat} {n x : Int} {lv' : List (Option fxV)} (hd : decode (mC y) pc = .ok (.iinc i n, 6)) (hv : lv[i]? = some (some (.inl x))) (hn : i < mL y) (he : lv.set i (some (.inl (x + n))) = lv') (kk : fx_At E y (pc + 6) lv' stk M Q) : fx_At E y pc lv stk M Q := by
  intro hO p l e s m args below meth c C H locs ls hS hl hP
  subst he
  obtain ⟨k, hk⟩ := List.getElem?_of_mem (fx_prs_mem.mpr ⟨.inl x, hv, rfl⟩ : ((i, em (.inl x)) : Nat × Value) ∈ fx_prs lv)
  exact fx_iincw (v := i3 (x + n)) C.1 C.2.1 hd hl hk (i3_add x n).symm hn rfl (fun ls' hl' => kk hO p l e s m args below meth c C H locs ls' hS (fx_stored (v := .inl (x + n)) hl') hP)
