/-! Rules of the heap, of switches, of ends and of calls. -/
def Fld (own : String) (i C k : Nat) (b : Bool) : Prop := ∃ (R : String) (T : u_T) (N : Nat) (ty : Nat → FieldType), vwCl[C]? = some (R, T, N) ∧ (∀ w ∈ u_ws R T N, w ∈ lw_good) ∧ k < N ∧ (lay C)[k]? = some b ∧ Cond.fieldLink own i R (T k).2.1 (T k).2.2.1 ∈ lw_good ∧ (T k).1 = R ∧ (∀ k, k < N → parseFieldDescriptor (T k).2.2.1 = some (ty k)) ∧ (∀ a, a < N → ∀ b, b < N → a ≠ b → (T a).2.1 ≠ (T b).2.1) ∧ (b = false → (T k).2.2.2 = false ∧ ty k = .int) ∧ C ≤ 10
theorem fx_stM {E : fxE} {s U : State} {H : Heap} {locs : List Loc} (h : fx_st E s s.heap) (hS : va_S (eA E) s.heap H locs) (hU : U.heap = H) (hvm : s.vm.Alike U.vm) : fx_st E U U.heap := by
  subst hU
  obtain ⟨⟨z0, t0⟩, ⟨z1, t1⟩, z2, t2⟩ := h
  have k : ∀ a : Nat, a < s.heap.size → ¬ eA E a → U.heap[a]? = s.heap[a]? := hS.2.1
  exact ⟨⟨(z0.kept k).moved hvm, (t0.kept k).moved hvm⟩, ⟨(z1.kept k).moved hvm, (t1.kept k).moved hvm⟩, (z2.kept k).moved hvm, (t2.kept k).moved hvm⟩
theorem fx_nsM {s U : State} (h : fx_ns s) (hW : s.WarmedH U.vm) : fx_ns U := ⟨va_Nw.warmM hW h.1, va_Nw.warmM hW h.2.1, va_Nw.warmM hW h.2.2⟩
theorem fx_WM {E : fxE} {M : fxM} {s U : State} {H : Heap} {locs : List Loc} (hK : va_K (eD E) vwCl (fx_ty E) s) (hst : fx_st E s s.heap) (hns : fx_ns s) (hS : va_S (eA E) s.heap H locs) (hP : fx_P E M H) (hU : U.heap = H) (hW : s.WarmedH U.vm) : fx_W E M U :=
  ⟨by rw [hU]; exact hP, va_K.moved hW.alike hK, fx_stM hst hS hU hW.alike, fx_nsM hns hW⟩
section
variable {E : fxE} {y : fxY} {pc : Nat} {lv : List (Option fxV)} {stk : List fxV} {M : fxM} {Q : Option fxV → fxM → Prop}
theorem x_geti {a i C k : Nat} (hd : decode (mC y) pc = .ok (.getfield i, 3)) (hF : Fld (mN y).cls i C k false) (ha : kd E a = C) (kk : fx_At E y (pc + 3) lv (.inl (M a k) :: stk) M Q) : fx_At E y pc lv (.inr a :: stk) M Q := by
  intro hO p l e s m args below meth c C0 H locs ls hS hl hP
  obtain ⟨hx, hb, hml, hr, hlk, hown, hts, hK, hst, hns⟩ := id C0
  obtain ⟨R, T, N, ty, f1, f2, f3, f4, f5, f6, f7, f8, f9, f10⟩ := hF
  obtain ⟨q, hq⟩ := fx_pl_get (M := M) hO (show kd E a ≤ 16 by omega)
  rw [cel_o ha f10] at hq
  exact va_get (ref := R) hx hb hts (fun w hw => List.mem_cons_of_mem _ (f2 w hw)) hown hK hP q hq f1 k f3 (fx_w hts f5) (fun x h => by rw [f6] at h; exact h) (flds_i f4) hd (kk hO p l e s m args below meth c C0 H locs ls hS hl hP)
theorem x_getr {a i C k : Nat} (hd : decode (mC y) pc = .ok (.getfield i, 3)) (hF : Fld (mN y).cls i C k true) (ha : kd E a = C) (kk : fx_At E y (pc + 3) lv (.inr (rf E a k) :: stk) M Q) : fx_At E y pc lv (.inr a :: stk) M Q := by
  intro hO p l e s m args below meth c C0 H locs ls hS hl hP
  obtain ⟨hx, hb, hml, hr, hlk, hown, hts, hK, hst, hns⟩ := id C0
  obtain ⟨R, T, N, ty, f1, f2, f3, f4, f5, f6, f7, f8, f9, f10⟩ := hF
  obtain ⟨q, hq⟩ := fx_pl_get (M := M) hO (show kd E a ≤ 16 by omega)
  rw [cel_o ha f10] at hq
  exact va_get (ref := R) hx hb hts (fun w hw => List.mem_cons_of_mem _ (f2 w hw)) hown hK hP q hq f1 k f3 (fx_w hts f5) (fun x h => by rw [f6] at h; exact h) (flds_r f4) hd (kk hO p l e s m args below meth c C0 H locs ls hS hl hP)
theorem x_puti {a i C k : Nat} {v : Int} (hd : decode (mC y) pc = .ok (.putfield i, 3)) (hF : Fld (mN y).cls i C k false) (ha : kd E a = C) (kk : ∀ M1, M1 = mset M a k v → fx_At E y (pc + 3) lv stk M1 Q) : fx_At E y pc lv (.inl v :: .inr a :: stk) M Q := by
  intro hO p l e s m args below meth c C0 H locs ls hS hl hP
  obtain ⟨hx, hb, hml, hr, hlk, hown, hts, hK, hst, hns⟩ := id C0
  obtain ⟨R, T, N, ty, f1, f2, f3, f4, f5, f6, f7, f8, f9, f10⟩ := hF
  obtain ⟨q, hq⟩ := fx_pl_get (M := M) hO (show kd E a ≤ 16 by omega)
  have hq' := hq
  rw [cel_o ha f10] at hq
  have hs := fx_pl_set (M := M) (M' := mset M a k v) (e := .inr (C, (flds C (rf E a) (M a)).set k (.int (i3 v)))) hO (show kd E a ≤ 16 by omega) hq' (by rw [cel_o ha f10, flds_set f4, mset_a]) (fun b hb => mset_o hb)
  refine va_put (ref := R) (ty := .int) (v := .int (i3 v)) hx hb hts (fun w hw => List.mem_cons_of_mem _ (f2 w hw)) ty f7 f8 hown hK hP (fx_D hO) hS q hq f1 k f3 (fx_w hts f5) (fun x h => by rw [f6] at h; exact h) (f9 rfl).1 ((f7 k f3).trans (congrArg some (f9 rfl).2)) rfl rfl (flds_len f4) hd (fun H1 locs1 hP1 _ hS1 => ?_)
  rw [hs] at hP1
  exact kk _ rfl hO p l e s m args below meth c C0 H1 locs1 ls hS1 hl hP1
theorem x_iald {a n : Nat} {i : Int} (hd : decode (mC y) pc = .ok (.iaload, 1)) (ha : kd E a = 11) (hn : ln E a = n) (hi : 0 ≤ i ∧ i < (n : Int)) (kk : fx_At E y (pc + 1) lv (.inl (M a i.toNat) :: stk) M Q) : fx_At E y pc lv (.inl i :: .inr a :: stk) M Q := by
  intro hO p l e s m args below meth c C0 H locs ls hS hl hP
  obtain ⟨hx, hb, hml, hr, hlk, hown, hts, hK, hst, hns⟩ := id C0
  obtain ⟨q, hq⟩ := fx_pl_get (M := M) hO (show kd E a ≤ 16 by omega)
  rw [cel_i ha (by omega) (by omega), hn] at hq
  have hs := hO.2.2.1 a
  rw [hn] at hs
  have h := kk hO p l e s m args below meth c C0 H locs ls hS hl hP
  rw [List.map_cons, em, ← i3_clamp hi.1 (by omega)] at h
  exact va_iald hx hb hK hP q 0 hq rfl (i3_in hi.1 hi.2 hs) hd h
theorem x_zald {a n : Nat} {i : Int} (hd : decode (mC y) pc = .ok (.baload, 1)) (ha : kd E a = 12) (hn : ln E a = n) (hi : 0 ≤ i ∧ i < (n : Int)) (kk : fx_At E y (pc + 1) lv (.inl (M a i.toNat) :: stk) M Q) : fx_At E y pc lv (.inl i :: .inr a :: stk) M Q := by
  intro hO p l e s m args below meth c C0 H locs ls hS hl hP
  obtain ⟨hx, hb, hml, hr, hlk, hown, hts, hK, hst, hns⟩ := id C0
  obtain ⟨q, hq⟩ := fx_pl_get (M := M) hO (show kd E a ≤ 16 by omega)
  rw [cel_i ha (by omega) (by omega), hn] at hq
  have hs := hO.2.2.1 a
  rw [hn] at hs
  have h := kk hO p l e s m args below meth c C0 H locs ls hS hl hP
  rw [List.map_cons, em, ← i3_clamp hi.1 (by omega)] at h
  exact va_zald hx hb hK hP q 1 hq rfl (i3_in hi.1 hi.2 hs) hd h
theorem fx_upd {r : Nat → Int} {k : Nat} {v : Int} : upd (fun j => i3 (r j)) k (i3 v) = fun j => i3 (if j = k then v else r j) := by
  funext j
  by_cases h : j = k <;> simp [upd, h]
theorem x_iast {a n : Nat} {i v : Int} (hd : decode (mC y) pc = .ok (.iastore, 1)) (ha : kd E a = 11) (hn : ln E a = n) (hi : 0 ≤ i ∧ i < (n : Int)) (kk : ∀ M1, M1 = mset M a i.toNat v → fx_At E y (pc + 1) lv stk M1 Q) : fx_At E y pc lv (.inl v :: .inl i :: .inr a :: stk) M Q := by
  intro hO p l e s m args below meth c C0 H locs ls hS hl hP
  obtain ⟨hx, hb, hml, hr, hlk, hown, hts, hK, hst, hns⟩ := id C0
  obtain ⟨q, hq⟩ := fx_pl_get (M := M) hO (show kd E a ≤ 16 by omega)
  have hq' := hq
  rw [cel_i ha (by omega) (by omega), hn] at hq
  have hs := hO.2.2.1 a
  rw [hn] at hs
  have hs2 := fx_pl_set (M := M) (M' := mset M a i.toNat v) (e := .inl (eY E 11, n, .inl (upd (fun j => i3 (M a j)) (i3 i).toNatClampNeg (i3 v)))) hO (show kd E a ≤ 16 by omega) hq' (by rw [cel_i ha (by omega) (by omega), hn, i3_clamp hi.1 (by omega), fx_upd, mset_a]) (fun b hb => mset_o hb)
  refine va_iast hx hb hK hP (fx_D hO) hS q 0 hq rfl (i3_in hi.1 hi.2 hs) hd (fun H1 locs1 hP1 _ hS1 => ?_)
  rw [hs2] at hP1
  exact kk _ rfl hO p l e s m args below meth c C0 H1 locs1 ls hS1 hl hP1
theorem fx_nz {v : Int} (h : v = 0 ∨ v = 1) : vp_nar .boolean (i3 v) = i3 v := by rcases h with rfl | rfl <;> decide +kernel
theorem x_zast {a n : Nat} {i v : Int} (hd : decode (mC y) pc = .ok (.bastore, 1)) (ha : kd E a = 12) (hn : ln E a = n) (hi : 0 ≤ i ∧ i < (n : Int)) (hv : v = 0 ∨ v = 1) (kk : ∀ M1, M1 = mset M a i.toNat v → fx_At E y (pc + 1) lv stk M1 Q) : fx_At E y pc lv (.inl v :: .inl i :: .inr a :: stk) M Q := by
  intro hO p l e s m args below meth c C0 H locs ls hS hl hP
  obtain ⟨hx, hb, hml, hr, hlk, hown, hts, hK, hst, hns⟩ := id C0
  obtain ⟨q, hq⟩ := fx_pl_get (M := M) hO (show kd E a ≤ 16 by omega)
  have hq' := hq
  rw [cel_i ha (by omega) (by omega), hn] at hq
  have hs := hO.2.2.1 a
  rw [hn] at hs
  have hs2 := fx_pl_set (M := M) (M' := mset M a i.toNat v) (e := .inl (eY E 12, n, .inl (upd (fun j => i3 (M a j)) (i3 i).toNatClampNeg (vp_nar .boolean (i3 v))))) hO (show kd E a ≤ 16 by omega) hq' (by rw [fx_nz hv, cel_i ha (by omega) (by omega), hn, i3_clamp hi.1 (by omega), fx_upd, mset_a]) (fun b hb => mset_o hb)
  refine va_zast hx hb hK hP (fx_D hO) hS q 1 hq rfl (i3_in hi.1 hi.2 hs) hd (fun H1 locs1 hP1 _ hS1 => ?_)
  rw [hs2] at hP1
  exact kk _ rfl hO p l e s m args below meth c C0 H1 locs1 ls hS1 hl hP1
theorem x_aald {a n C : Nat} {i : Int} (hd : decode (mC y) pc = .ok (.aaload, 1)) (ha : kd E a = C) (h1 : 12 < C) (h2 : C ≤ 16) (hn : ln E a = n) (hi : 0 ≤ i ∧ i < (n : Int)) (kk : fx_At E y (pc + 1) lv (.inr (rf E a i.toNat) :: stk) M Q) : fx_At E y pc lv (.inl i :: .inr a :: stk) M Q := by
  intro hO p l e s m args below meth c C0 H locs ls hS hl hP
  obtain ⟨hx, hb, hml, hr, hlk, hown, hts, hK, hst, hns⟩ := id C0
  obtain ⟨q, hq⟩ := fx_pl_get (M := M) hO (show kd E a ≤ 16 by omega)
  rw [cel_r ha (by omega), hn] at hq
  have hs := hO.2.2.1 a
  rw [hn] at hs
  have h := kk hO p l e s m args below meth c C0 H locs ls hS hl hP
  rw [List.map_cons, em, ← i3_clamp hi.1 (by omega)] at h
  rcases (show C = 13 ∨ C = 14 ∨ C = 15 ∨ C = 16 by omega) with rfl | rfl | rfl | rfl
  · exact va_aldq hx hb hK hP q 2 hq rfl (i3_in hi.1 hi.2 hs) hd h
  · exact va_aldq hx hb hK hP q 3 hq rfl (i3_in hi.1 hi.2 hs) hd h
  · exact va_aldq hx hb hK hP q 4 hq rfl (i3_in hi.1 hi.2 hs) hd h
  · exact va_aldq hx hb hK hP q 5 hq rfl (i3_in hi.1 hi.2 hs) hd h
theorem x_alen {a n C : Nat} (hd : decode (mC y) pc = .ok (.arraylength, 1)) (ha : kd E a = C) (h1 : 10 < C) (h2 : C ≤ 16) (hn : ln E a = n) (kk : fx_At E y (pc + 1) lv (.inl (n : Int) :: stk) M Q) : fx_At E y pc lv (.inr a :: stk) M Q := by
  intro hO p l e s m args below meth c C0 H locs ls hS hl hP
  obtain ⟨hx, hb, hml, hr, hlk, hown, hts, hK, hst, hns⟩ := id C0
  obtain ⟨q, hq⟩ := fx_pl_get (M := M) hO (show kd E a ≤ 16 by omega)
  have h := kk hO p l e s m args below meth c C0 H locs ls hS hl hP
  rw [List.map_cons, em, i3_nat] at h
  rcases (show C = 11 ∨ C = 12 ∨ C = 13 ∨ C = 14 ∨ C = 15 ∨ C = 16 by omega) with rfl | rfl | rfl | rfl | rfl | rfl
  · rw [cel_i ha (by omega) (by omega), hn] at hq
    exact va_alen hx hb hK hP q 0 hq rfl rfl hd h
  · rw [cel_i ha (by omega) (by omega), hn] at hq
    exact va_alen hx hb hK hP q 1 hq rfl rfl hd h
  · rw [cel_r ha (by omega), hn] at hq
    exact va_alen hx hb hK hP q 2 hq rfl rfl hd h
  · rw [cel_r ha (by omega), hn] at hq
    exact va_alen hx hb hK hP q 3 hq rfl rfl hd h
  · rw [cel_r ha (by omega), hn] at hq
    exact va_alen hx hb hK hP q 4 hq rfl rfl hd h
  · rw [cel_r ha (by omega), hn] at hq
    exact va_alen hx hb hK hP q 5 hq rfl rfl hd h
theorem x_gets {i : Nat} (j : Nat) {n : String} (hd : decode (mC y) pc = .ok (.getstatic i, 3)) (hj : (j = 0 ∧ n = "LEAST_SETTING") ∨ (j = 1 ∧ n = "GREATEST_SETTING") ∨ (j = 2 ∧ n = "STITCH_WIDTHS")) (hq : Cond.fieldLink (mN y).cls i "FibreBench" n "[I" ∈ lw_good) (kk : fx_At E y (pc + 3) lv (.inr (sta E j) :: stk) M Q) : fx_At E y pc lv stk M Q := by
  intro hO p l e s m args below meth c C0 H locs ls hS hl hP
  obtain ⟨hx, hb, hml, hr, hlk, hown, hts, hK, hst, hns⟩ := id C0
  have h := kk hO p l e s m args below meth c C0 H locs ls hS hl hP
  rcases hj with ⟨rfl, rfl⟩ | ⟨rfl, rfl⟩ | ⟨rfl, rfl⟩
  · exact va_gets hx hb hst.1.1 hS hown (fx_w hts hq) (fun _ h => h) hd h
  · exact va_gets hx hb hst.2.1.1 hS hown (fx_w hts hq) (fun _ h => h) hd h
  · exact va_gets hx hb hst.2.2.1 hS hown (fx_w hts hq) (fun _ h => h) hd h
theorem fx_T {s : State} (hst : fx_st E s s.heap) {j : Nat} (hj : j < 3) : va_T .int (sta E j) (sN j) (fun k => .int (i3 (sv j k))) (eA E) s s.heap := by
  rcases (show j = 0 ∨ j = 1 ∨ j = 2 by omega) with rfl | rfl | rfl
  · exact hst.1.2
  · exact hst.2.1.2
  · exact hst.2.2.2
theorem sN_lt (j : Nat) : sN j < 5 := by
  unfold sN
  split <;> omega
theorem x_tald {i : Int} (j : Nat) (hj : j < 3) (hd : decode (mC y) pc = .ok (.iaload, 1)) (hi : 0 ≤ i ∧ i < (sN j : Int)) (kk : fx_At E y (pc + 1) lv (.inl (sv j i.toNat) :: stk) M Q) : fx_At E y pc lv (.inl i :: .inr (sta E j) :: stk) M Q := by
  intro hO p l e s m args below meth c C0 H locs ls hS hl hP
  obtain ⟨hx, hb, hml, hr, hlk, hown, hts, hK, hst, hns⟩ := id C0
  have h := kk hO p l e s m args below meth c C0 H locs ls hS hl hP
  have := sN_lt j
  exact va_ti (v := .int (i3 (sv j i.toNat))) hx hb (fx_T hst hj) hS (i3_in hi.1 hi.2 (by omega)) (by show Value.int (i3 (sv j (i3 i).toNatClampNeg)) = _; rw [i3_clamp hi.1 (by omega)]) hd h
theorem x_tlen (j : Nat) (hj : j < 3) (hd : decode (mC y) pc = .ok (.arraylength, 1)) (kk : fx_At E y (pc + 1) lv (.inl (sN j : Int) :: stk) M Q) : fx_At E y pc lv (.inr (sta E j) :: stk) M Q := by
  intro hO p l e s m args below meth c C0 H locs ls hS hl hP
  obtain ⟨hx, hb, hml, hr, hlk, hown, hts, hK, hst, hns⟩ := id C0
  have h := kk hO p l e s m args below meth c C0 H locs ls hS hl hP
  rw [List.map_cons, em, i3_nat] at h
  exact va_tlen hx hb (fx_T hst hj) hS rfl hd h
theorem fa_or (a b : Nat) : nI a ||| nI b = nI (a ||| b) := by
  apply Int32.toBitVec_inj.1
  show BitVec.ofNat 32 a ||| BitVec.ofNat 32 b = BitVec.ofNat 32 (a ||| b)
  apply BitVec.eq_of_getLsbD_eq
  intro i hi
  simp [hi]
theorem x_ior {a b : Nat} {a' b' : Int} (ha : a' = (a : Int)) (hb : b' = (b : Int)) (hd : decode (mC y) pc = .ok (.ior, 1)) (kk : fx_At E y (pc + 1) lv (.inl ((a ||| b : Nat) : Int) :: stk) M Q) : fx_At E y pc lv (.inl b' :: .inl a' :: stk) M Q := by
  subst ha hb
  intro hO p l e s m args below meth c C H locs ls hS hl hP
  have h := kk hO p l e s m args below meth c C H locs ls hS hl hP
  rw [List.map_cons, em, i3_nat, ← fa_or, ← i3_nat, ← i3_nat] at h
  exact lv_ior C.1 C.2.1 hd h
theorem fx_shl : ∀ k, k < 31 → (1 : Int32) <<< (nI k &&& 31) = nI (2 ^ k) := by decide +kernel
theorem x_shl1 {k : Nat} {k' : Int} (hk' : k' = (k : Int)) (hk : k < 31) (hd : decode (mC y) pc = .ok (.ishl, 1)) (kk : fx_At E y (pc + 1) lv (.inl ((2 ^ k : Nat) : Int) :: stk) M Q) : fx_At E y pc lv (.inl k' :: .inl 1 :: stk) M Q := by
  subst hk'
  intro hO p l e s m args below meth c C H locs ls hS hl hP
  have h := kk hO p l e s m args below meth c C H locs ls hS hl hP
  rw [List.map_cons, em, i3_nat, ← fx_shl k hk, ← i3_nat] at h
  exact lv_ishl C.1 C.2.1 hd h
theorem x_tsw {a dflt lo hi : Int} {offs : Array Int} {len : Nat} (tgt : Nat) (tg : List Nat) (hd : decode (mC y) pc = .ok (.tableswitch dflt lo hi offs, len)) (hr : inR a) (ht : (pc : Int) + dflt = (tgt : Int)) (htg : offs.toList.map (fun o => (pc : Int) + o) = tg.map (fun n : Nat => (n : Int))) (hl : hi - lo + 1 = (tg.length : Int)) (kin : ∀ (j t : Nat), tg[j]? = some t → a = lo + (j : Int) → fx_At E y t lv stk M Q) (kout : a < lo ∨ hi < a → fx_At E y tgt lv stk M Q) : fx_At E y pc lv (.inl a :: stk) M Q := by
  intro hO p l e s m args below meth c C H locs ls hS hlv hP
  by_cases h : a < lo ∨ hi < a
  · exact lv_tableOut C.1 C.2.1 hd (by rw [i3_toInt hr]; exact h) ht (kout h hO p l e s m args below meth c C H locs ls hS hlv hP)
  · have hlt : (a - lo).toNat < tg.length := by omega
    have h1 : (offs.toList.map (fun o => (pc : Int) + o))[(a - lo).toNat]? = some ((tg[(a - lo).toNat] : Nat) : Int) := by
      rw [htg, List.getElem?_map, List.getElem?_eq_getElem hlt]; rfl
    rw [List.getElem?_map] at h1
    cases ho : offs.toList[(a - lo).toNat]? with
    | none => rw [ho] at h1; cases h1
    | some off =>
      rw [ho] at h1
      refine lv_tableIn (off := off) C.1 C.2.1 hd (by rw [i3_toInt hr]; omega) (by rw [i3_toInt hr]; omega) (by rw [i3_toInt hr, ← Array.getElem?_toList]; exact ho) (Option.some.inj h1) (kin (a - lo).toNat _ (List.getElem?_eq_getElem hlt) (by omega) hO p l e s m args below meth c C H locs ls hS hlv hP)
theorem x_iret {v : Int} (hd : decode (mC y) pc = .ok (.ireturn, 1)) (ht : mT y = some .int ∨ (mT y = some .boolean ∧ (v = 0 ∨ v = 1))) (hQ : Q (some (.inl v)) M) : fx_At E y pc lv [.inl v] M Q := by
  intro hO p l e s m args below meth c C0 H locs ls hS hl hP
  obtain ⟨hx, hb, hml, hr, hlk, hown, hts, hK, hst, hns⟩ := id C0
  have hq : ∀ t : State, t.heap = H → s.WarmedH t.vm → fx_Q E Q args s (.returned (some (.int (i3 v)))) t := fun t ht hW => ⟨⟨some (.inl v), M, rfl, hQ, fx_WM hK hst hns hS hP ht hW⟩, hS.F ht⟩
  rcases ht with h | ⟨h, hv⟩
  · exact W.iret (v := i3 v) hx hb (hr.trans h) hq hS.2.2 hd hlk
  · exact W.zret (v := i3 v) hx hb (hr.trans h) (by rcases hv with rfl | rfl <;> decide +kernel) hq hS.2.2 hd hlk
theorem x_aret {a : Nat} {R : String} (hd : decode (mC y) pc = .ok (.areturn, 1)) (ht : mT y = some (.object R)) (hQ : Q (some (.inr a)) M) : fx_At E y pc lv [.inr a] M Q := by
  intro hO p l e s m args below meth c C0 H locs ls hS hl hP
  obtain ⟨hx, hb, hml, hr, hlk, hown, hts, hK, hst, hns⟩ := id C0
  exact W.aret (v := .ref a) hx hb (hr.trans ht) (Or.inl ⟨_, rfl⟩) (Or.inr ⟨_, rfl⟩) (fun t ht hW => ⟨⟨some (.inr a), M, rfl, hQ, fx_WM hK hst hns hS hP ht hW⟩, hS.F ht⟩) hS.2.2 hd hlk
theorem x_vret (hd : decode (mC y) pc = .ok (.return_, 1)) (ht : mT y = none) (hQ : Q none M) : fx_At E y pc lv [] M Q := by
  intro hO p l e s m args below meth c C0 H locs ls hS hl hP
  obtain ⟨hx, hb, hml, hr, hlk, hown, hts, hK, hst, hns⟩ := id C0
  exact W.vret hx hb (hr.trans ht) (fun t ht hW => ⟨⟨none, M, rfl, hQ, fx_WM hK hst hns hS hP ht hW⟩, hS.F ht⟩) hS.2.2 hd hlk
end
