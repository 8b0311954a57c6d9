/-! printed by wip/whole/lawstart.py: what holds at the law's start -/
theorem st_cls {args : Array Value} {s : State} (hts : ∀ w ∈ lw_tbl, w.before args s = true) : ∀ (k : Nat) (q : vw_C), vwCl[k]? = some q → ∃ (cC : ClassId) (iS : Nat → Nat), u_Kn s q.1 q.2.1 q.2.2 cC iS := by
  intro k q hq
  match k, hq with
  | 0, hq => cases hq; exact u_known (C := RX0) (T := TX0) (N := 4) (n := 4) hts inX0 (hts _ (tb1 (List.mem_of_getElem? (i := 93) (by decide +kernel))))
  | 1, hq => cases hq; exact u_known (C := RX1) (T := TX1) (N := 9) (n := 9) hts inX1 (hts _ (tb2 (List.mem_of_getElem? (i := 8) (by decide +kernel))))
  | 2, hq => cases hq; exact u_known (C := RX2) (T := TX2) (N := 11) (n := 11) hts inX2 (hts _ (tb1 (List.mem_of_getElem? (i := 30) (by decide +kernel))))
  | 3, hq => cases hq; exact u_known (C := RX3) (T := TX3) (N := 3) (n := 3) hts inX3 (hts _ (tb1 (List.mem_of_getElem? (i := 135) (by decide +kernel))))
  | 4, hq => cases hq; exact u_known (C := RX4) (T := TX4) (N := 4) (n := 4) hts inX4 (hts _ (tb1 (List.mem_of_getElem? (i := 188) (by decide +kernel))))
  | 5, hq => cases hq; exact u_known (C := RX5) (T := TX5) (N := 3) (n := 3) hts inX5 (hts _ (tb1 (List.mem_of_getElem? (i := 24) (by decide +kernel))))
  | 6, hq => cases hq; exact u_known (C := RX6) (T := TX6) (N := 5) (n := 5) hts inX6 (hts _ (tb1 (List.mem_of_getElem? (i := 157) (by decide +kernel))))
  | 7, hq => cases hq; exact u_known (C := RX7) (T := TX7) (N := 3) (n := 3) hts inX7 (hts _ (tb2 (List.mem_of_getElem? (i := 50) (by decide +kernel))))
  | 8, hq => cases hq; exact u_known (C := RX8) (T := TX8) (N := 9) (n := 9) hts inX8 (hts _ (tb1 (List.mem_of_getElem? (i := 210) (by decide +kernel))))
  | 9, hq => cases hq; exact u_known (C := RX9) (T := TX9) (N := 9) (n := 9) hts inX9 (hts _ (tb1 (List.mem_of_getElem? (i := 16) (by decide +kernel))))
  | 10, hq => cases hq; exact u_known (C := RX10) (T := TX10) (N := 25) (n := 25) hts inX10 (hts _ (tb4 (List.mem_of_getElem? (i := 59) (by decide +kernel))))
  | k + 11, hq => simp [vwCl] at hq
theorem st_cl2 {args : Array Value} {s : State} (hts : ∀ w ∈ lw_tbl, w.before args s = true) (k : Nat) : ∃ d : ClassId × (Nat → Nat), ∀ q : vw_C, vwCl[k]? = some q → u_Kn s q.1 q.2.1 q.2.2 d.1 d.2 := by
  cases hq : vwCl[k]? with
  | none => exact ⟨(0, fun _ => 0), fun q h => by cases h⟩
  | some q =>
    obtain ⟨a, b, h⟩ := st_cls hts k q hq
    exact ⟨(a, b), fun q' h' => by cases h'; exact h⟩
theorem st_arr {args : Array Value} {s : State} {ty : FieldType} (h : (Cond.arrayClass ty).before args s = true) (hp : ty = .int ∨ ty = .boolean) : ∃ cA : ClassId, ArrOfT s cA ty ∧ va_RA s cA ty := by
  obtain ⟨cA, k, comp, h1, h2, h3⟩ := Cond.arrayClass_spec h
  refine ⟨cA, fun n z => ⟨fun k h => (by cases h), k, h2, comp, h3⟩, ?_⟩
  rcases hp with rfl | rfl
  · exact h1
  · exact h1
theorem st_ref {args : Array Value} {s : State} {C : String} (h : (Cond.arrayOver (.object C)).before args s = true) : ∃ cA : ClassId, ArrOfT s cA (.object C) ∧ va_RA s cA (.object C) := by
  obtain ⟨comp, cA, k, h1, h2, h3, h4, h5⟩ := Cond.arrayOver_spec h
  exact ⟨cA, fun n z => ⟨fun k h => (by cases h), k, h3, comp, h4⟩, k, comp, h3, h4, h1, h5⟩
theorem st_s0 {args : Array Value} {s : State} (hts : ∀ w ∈ lw_tbl, w.before args s = true) (hn : ∀ c ∈ flatC (Jvm.Cond.and given_1 narrow_1), c.before args s = true) : ∃ t : Nat, va_Z "FibreBench" "LEAST_SETTING" "[I" (.ref t) (fun q => s.heap.size ≤ q) s s.heap ∧ va_T .int t 4 (fun j => .int (i3 (sv 0 j))) (fun q => s.heap.size ≤ q) s s.heap := by
  have hA : ∀ a : Nat, a < s.heap.size → ¬ (fun q : Nat => s.heap.size ≤ q) a := fun a h z => absurd z (Nat.not_le.mpr h)
  obtain ⟨t, h1, h2⟩ := va_Tof (args := args) (s := s) (tm := .static "FibreBench" "LEAST_SETTING" "[I") (ty := .int) (N := 4) (f := fun j => .int (i3 (sv 0 j))) (A := fun q => s.heap.size ≤ q) (by decide) (hn (.arrayOf (.static "FibreBench" "LEAST_SETTING" "[I") .int) (by decide +kernel)) (va_eqt (z := 4) (hn (.eq (.length (.static "FibreBench" "LEAST_SETTING" "[I")) (.int 4)) (by decide +kernel))) (fun j hj => by
    rcases (show j = 0 ∨ j = 1 ∨ j = 2 ∨ j = 3 by omega) with rfl | rfl | rfl | rfl
    · show _ = some (Value.int (i3 (sv 0 0)))
      rw [show i3 (sv 0 0) = 0 by decide +kernel]
      exact va_eqt (z := 0) (hn (.eq (.elem (.static "FibreBench" "LEAST_SETTING" "[I") (.int 0)) (.int 0)) (by decide +kernel))
    · show _ = some (Value.int (i3 (sv 0 1)))
      rw [show i3 (sv 0 1) = 1 by decide +kernel]
      exact va_eqt (z := 1) (hn (.eq (.elem (.static "FibreBench" "LEAST_SETTING" "[I") (.int 1)) (.int 1)) (by decide +kernel))
    · show _ = some (Value.int (i3 (sv 0 2)))
      rw [show i3 (sv 0 2) = 0 by decide +kernel]
      exact va_eqt (z := 0) (hn (.eq (.elem (.static "FibreBench" "LEAST_SETTING" "[I") (.int 2)) (.int 0)) (by decide +kernel))
    · show _ = some (Value.int (i3 (sv 0 3)))
      rw [show i3 (sv 0 3) = 0 by decide +kernel]
      exact va_eqt (z := 0) (hn (.eq (.elem (.static "FibreBench" "LEAST_SETTING" "[I") (.int 3)) (.int 0)) (by decide +kernel))
    ) hA
  exact ⟨t, va_Zof (hts _ (tb1 (List.mem_of_getElem? (i := 116) (by decide +kernel)))) (hts _ (tb1 (List.mem_of_getElem? (i := 1) (by decide +kernel)))) h1 hA, h2⟩
theorem st_s1 {args : Array Value} {s : State} (hts : ∀ w ∈ lw_tbl, w.before args s = true) (hn : ∀ c ∈ flatC (Jvm.Cond.and given_1 narrow_1), c.before args s = true) : ∃ t : Nat, va_Z "FibreBench" "GREATEST_SETTING" "[I" (.ref t) (fun q => s.heap.size ≤ q) s s.heap ∧ va_T .int t 4 (fun j => .int (i3 (sv 1 j))) (fun q => s.heap.size ≤ q) s s.heap := by
  have hA : ∀ a : Nat, a < s.heap.size → ¬ (fun q : Nat => s.heap.size ≤ q) a := fun a h z => absurd z (Nat.not_le.mpr h)
  obtain ⟨t, h1, h2⟩ := va_Tof (args := args) (s := s) (tm := .static "FibreBench" "GREATEST_SETTING" "[I") (ty := .int) (N := 4) (f := fun j => .int (i3 (sv 1 j))) (A := fun q => s.heap.size ≤ q) (by decide) (hn (.arrayOf (.static "FibreBench" "GREATEST_SETTING" "[I") .int) (by decide +kernel)) (va_eqt (z := 4) (hn (.eq (.length (.static "FibreBench" "GREATEST_SETTING" "[I")) (.int 4)) (by decide +kernel))) (fun j hj => by
    rcases (show j = 0 ∨ j = 1 ∨ j = 2 ∨ j = 3 by omega) with rfl | rfl | rfl | rfl
    · show _ = some (Value.int (i3 (sv 1 0)))
      rw [show i3 (sv 1 0) = 60 by decide +kernel]
      exact va_eqt (z := 60) (hn (.eq (.elem (.static "FibreBench" "GREATEST_SETTING" "[I") (.int 0)) (.int 60)) (by decide +kernel))
    · show _ = some (Value.int (i3 (sv 1 1)))
      rw [show i3 (sv 1 1) = 5000 by decide +kernel]
      exact va_eqt (z := 5000) (hn (.eq (.elem (.static "FibreBench" "GREATEST_SETTING" "[I") (.int 1)) (.int 5000)) (by decide +kernel))
    · show _ = some (Value.int (i3 (sv 1 2)))
      rw [show i3 (sv 1 2) = 20 by decide +kernel]
      exact va_eqt (z := 20) (hn (.eq (.elem (.static "FibreBench" "GREATEST_SETTING" "[I") (.int 2)) (.int 20)) (by decide +kernel))
    · show _ = some (Value.int (i3 (sv 1 3)))
      rw [show i3 (sv 1 3) = 9000 by decide +kernel]
      exact va_eqt (z := 9000) (hn (.eq (.elem (.static "FibreBench" "GREATEST_SETTING" "[I") (.int 3)) (.int 9000)) (by decide +kernel))
    ) hA
  exact ⟨t, va_Zof (hts _ (tb2 (List.mem_of_getElem? (i := 189) (by decide +kernel)))) (hts _ (tb1 (List.mem_of_getElem? (i := 1) (by decide +kernel)))) h1 hA, h2⟩
theorem st_s2 {args : Array Value} {s : State} (hts : ∀ w ∈ lw_tbl, w.before args s = true) (hn : ∀ c ∈ flatC (Jvm.Cond.and given_1 narrow_1), c.before args s = true) : ∃ t : Nat, va_Z "FibreBench" "STITCH_WIDTHS" "[I" (.ref t) (fun q => s.heap.size ≤ q) s s.heap ∧ va_T .int t 3 (fun j => .int (i3 (sv 2 j))) (fun q => s.heap.size ≤ q) s s.heap := by
  have hA : ∀ a : Nat, a < s.heap.size → ¬ (fun q : Nat => s.heap.size ≤ q) a := fun a h z => absurd z (Nat.not_le.mpr h)
  obtain ⟨t, h1, h2⟩ := va_Tof (args := args) (s := s) (tm := .static "FibreBench" "STITCH_WIDTHS" "[I") (ty := .int) (N := 3) (f := fun j => .int (i3 (sv 2 j))) (A := fun q => s.heap.size ≤ q) (by decide) (hn (.arrayOf (.static "FibreBench" "STITCH_WIDTHS" "[I") .int) (by decide +kernel)) (va_eqt (z := 3) (hn (.eq (.length (.static "FibreBench" "STITCH_WIDTHS" "[I")) (.int 3)) (by decide +kernel))) (fun j hj => by
    rcases (show j = 0 ∨ j = 1 ∨ j = 2 by omega) with rfl | rfl | rfl
    · show _ = some (Value.int (i3 (sv 2 0)))
      rw [show i3 (sv 2 0) = 1 by decide +kernel]
      exact va_eqt (z := 1) (hn (.eq (.elem (.static "FibreBench" "STITCH_WIDTHS" "[I") (.int 0)) (.int 1)) (by decide +kernel))
    · show _ = some (Value.int (i3 (sv 2 1)))
      rw [show i3 (sv 2 1) = 3 by decide +kernel]
      exact va_eqt (z := 3) (hn (.eq (.elem (.static "FibreBench" "STITCH_WIDTHS" "[I") (.int 1)) (.int 3)) (by decide +kernel))
    · show _ = some (Value.int (i3 (sv 2 2)))
      rw [show i3 (sv 2 2) = 9 by decide +kernel]
      exact va_eqt (z := 9) (hn (.eq (.elem (.static "FibreBench" "STITCH_WIDTHS" "[I") (.int 2)) (.int 9)) (by decide +kernel))
    ) hA
  exact ⟨t, va_Zof (hts _ (tb3 (List.mem_of_getElem? (i := 37) (by decide +kernel)))) (hts _ (tb1 (List.mem_of_getElem? (i := 1) (by decide +kernel)))) h1 hA, h2⟩
theorem st_ns {args : Array Value} {s : State} (hts : ∀ w ∈ lw_tbl, w.before args s = true) : fx_ns s := ⟨(va_Nw.of rfl (hts _ (tb2 (List.mem_of_getElem? (i := 146) (by decide +kernel))))), (va_Nw.of rfl (hts _ (tb2 (List.mem_of_getElem? (i := 133) (by decide +kernel))))), (va_Nw.of rfl (hts _ (tb2 (List.mem_of_getElem? (i := 147) (by decide +kernel)))))⟩
theorem st_kns {args : Array Value} {s : State} (hts : ∀ w ∈ lw_tbl, w.before args s = true) : kns s := by
  refine ⟨?_, ?_, ?_⟩
  · unfold kml
    exact List.forall_mem_cons.mpr ⟨(va_Nw.of rfl (hts _ (tb1 (List.mem_of_getElem? (i := 25) (by decide +kernel))))), List.forall_mem_cons.mpr ⟨(va_Nw.of rfl (hts _ (tb1 (List.mem_of_getElem? (i := 31) (by decide +kernel))))), List.forall_mem_cons.mpr ⟨(va_Nw.of rfl (hts _ (tb1 (List.mem_of_getElem? (i := 94) (by decide +kernel))))), List.forall_mem_cons.mpr ⟨(va_Nw.of rfl (hts _ (tb1 (List.mem_of_getElem? (i := 142) (by decide +kernel))))), List.forall_mem_cons.mpr ⟨(va_Nw.of rfl (hts _ (tb1 (List.mem_of_getElem? (i := 155) (by decide +kernel))))), List.forall_mem_cons.mpr ⟨(va_Nw.of rfl (hts _ (tb1 (List.mem_of_getElem? (i := 158) (by decide +kernel))))), List.forall_mem_cons.mpr ⟨(va_Nw.of rfl (hts _ (tb1 (List.mem_of_getElem? (i := 189) (by decide +kernel))))), List.forall_mem_cons.mpr ⟨(va_Nw.of rfl (hts _ (tb1 (List.mem_of_getElem? (i := 211) (by decide +kernel))))), List.forall_mem_cons.mpr ⟨(va_Nw.of rfl (hts _ (tb2 (List.mem_of_getElem? (i := 9) (by decide +kernel))))), List.forall_mem_cons.mpr ⟨(va_Nw.of rfl (hts _ (tb2 (List.mem_of_getElem? (i := 51) (by decide +kernel))))), fun _ h => absurd h List.not_mem_nil⟩⟩⟩⟩⟩⟩⟩⟩⟩⟩
  · exact va_Nw.of rfl (hts _ (tb1 (List.mem_of_getElem? (i := 115) (by decide +kernel))))
  · exact List.forall_mem_cons.mpr ⟨va_AO.of (hts _ (tb1 (List.mem_of_getElem? (i := 141) (by decide +kernel)))), List.forall_mem_cons.mpr ⟨va_AO.of (hts _ (tb1 (List.mem_of_getElem? (i := 182) (by decide +kernel)))), List.forall_mem_cons.mpr ⟨va_AO.of (hts _ (tb1 (List.mem_of_getElem? (i := 184) (by decide +kernel)))), List.forall_mem_cons.mpr ⟨va_AO.of (hts _ (tb1 (List.mem_of_getElem? (i := 186) (by decide +kernel)))), fun _ h => absurd h List.not_mem_nil⟩⟩⟩⟩
theorem st_E {args : Array Value} {s : State} (hts : ∀ w ∈ lw_tbl, w.before args s = true) (hgv : (Jvm.Cond.and given_1 narrow_1).before args s = true) : ∃ E : fxE, va_K (eD E) vwCl (fx_ty E) s ∧ fx_st E s s.heap ∧ fx_ns s ∧ kns s ∧ kA E s.heap.size := by
  have hn := flat_of_before _ hgv
  obtain ⟨t0, z0, a0⟩ := st_s0 hts hn
  obtain ⟨t1, z1, a1⟩ := st_s1 hts hn
  obtain ⟨t2, z2, a2⟩ := st_s2 hts hn
  obtain ⟨y11, k11⟩ := st_arr (hts _ (tb1 (List.mem_of_getElem? (i := 91) (by decide +kernel)))) (Or.inl rfl)
  obtain ⟨y12, k12⟩ := st_arr (hts _ (tb1 (List.mem_of_getElem? (i := 209) (by decide +kernel)))) (Or.inr rfl)
  obtain ⟨y13, k13⟩ := st_ref (C := RX1) (hts _ (tb1 (List.mem_of_getElem? (i := 186) (by decide +kernel))))
  obtain ⟨y14, k14⟩ := st_ref (C := RX5) (hts _ (tb1 (List.mem_of_getElem? (i := 141) (by decide +kernel))))
  obtain ⟨y15, k15⟩ := st_ref (C := RX7) (hts _ (tb1 (List.mem_of_getElem? (i := 184) (by decide +kernel))))
  obtain ⟨y16, k16⟩ := st_ref (C := RX8) (hts _ (tb1 (List.mem_of_getElem? (i := 182) (by decide +kernel))))
  have hc := st_cl2 hts
  refine ⟨((fun _ => 0, fun _ _ => 0, fun _ => 0, fun j => if j = 0 then t0 else if j = 1 then t1 else t2), (fun k => (Classical.choose (hc k)).1, fun k => (Classical.choose (hc k)).2), fun k => if k = 11 then y11 else if k = 12 then y12 else if k = 13 then y13 else if k = 14 then y14 else if k = 15 then y15 else y16, [], fun q => s.heap.size ≤ q), ⟨fun k q hq => Classical.choose_spec (hc k) q hq, fun k q hq => ?_⟩, ⟨⟨z0, a0⟩, ⟨z1, a1⟩, z2, a2⟩, st_ns hts, st_kns hts, fun q => Iff.rfl⟩
  match k, hq with
  | 0, hq => have hq : some (y11, (.int : FieldType)) = some q := hq; cases hq; exact k11
  | 1, hq => have hq : some (y12, (.boolean : FieldType)) = some q := hq; cases hq; exact k12
  | 2, hq => have hq : some (y13, (.object RX1 : FieldType)) = some q := hq; cases hq; exact k13
  | 3, hq => have hq : some (y14, (.object RX5 : FieldType)) = some q := hq; cases hq; exact k14
  | 4, hq => have hq : some (y15, (.object RX7 : FieldType)) = some q := hq; cases hq; exact k15
  | 5, hq => have hq : some (y16, (.object RX8 : FieldType)) = some q := hq; cases hq; exact k16
  | k + 6, hq => simp [fx_ty] at hq
theorem kn_law_7 : Nw R_law 7 9 9 := ⟨RX9, TX9, tyX9, rfl, goX9, lw_goodI (tb1 (List.mem_of_getElem? (i := 15) (by decide +kernel))) rfl, lw_goodI (tb1 (List.mem_of_getElem? (i := 16) (by decide +kernel))) rfl, lw_goodI (tb1 (List.mem_of_getElem? (i := 1) (by decide +kernel))) rfl, tyX9_ok, by decide +kernel, by decide⟩
theorem kn_law_10 : Nw R_law 10 10 25 := ⟨RX10, TX10, tyX10, rfl, goX10, lw_goodI (tb4 (List.mem_of_getElem? (i := 58) (by decide +kernel))) rfl, lw_goodI (tb4 (List.mem_of_getElem? (i := 59) (by decide +kernel))) rfl, lw_goodI (tb1 (List.mem_of_getElem? (i := 11) (by decide +kernel))) rfl, tyX10_ok, by decide +kernel, by decide⟩
def CalJ (own : String) (i : Nat) (z : fxY) : Prop := Cond.methodLink own i (mN z) ∈ lw_good ∧ (mN z).name = "<init>" ∧ mT z = none ∧ Cond.instanceMethod (mN z) ∈ lw_good ∧ Cond.initialized (mN z).cls ∈ lw_good ∧ Cond.code (mN z) (mC z) (mL z) (mT z) ∈ lw_good ∧ fx_p z 0
theorem kj_law_9 : CalJ R_law 9 m_X9_init := ⟨lw_goodI (tb1 (List.mem_of_getElem? (i := 17) (by decide +kernel))) rfl, rfl, rfl, lw_goodI (tb1 (List.mem_of_getElem? (i := 18) (by decide +kernel))) rfl, lw_goodI (tb1 (List.mem_of_getElem? (i := 1) (by decide +kernel))) rfl, lw_goodI (tb1 (List.mem_of_getElem? (i := 19) (by decide +kernel))) rfl, ⟨by decide, by decide, by decide +kernel⟩⟩
theorem kj_law_12 : CalJ R_law 12 m_X10_init := ⟨lw_goodI (tb4 (List.mem_of_getElem? (i := 60) (by decide +kernel))) rfl, rfl, rfl, lw_goodI (tb4 (List.mem_of_getElem? (i := 61) (by decide +kernel))) rfl, lw_goodI (tb1 (List.mem_of_getElem? (i := 11) (by decide +kernel))) rfl, lw_goodI (tb4 (List.mem_of_getElem? (i := 62) (by decide +kernel))) rfl, ⟨by decide, by decide, by decide +kernel⟩⟩
