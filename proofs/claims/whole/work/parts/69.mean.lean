/-! meanLoss: the one answer that is a float; calls out of any walk. -/
theorem nan64_dec {x : UInt64} (h : isNaN64 x = true) : Jvm.FP.Core.decode Jvm.FP.Core.b64 x.toNat = .nan := by
  have h1 := isNaN64_iff.mp h
  have h2 : x.toNat &&& 0x7fffffffffffffff = x.toNat % 2 ^ 63 := Nat.and_two_pow_sub_one_eq_mod x.toNat 63
  rw [h2] at h1
  have eT : Jvm.FP.Core.fieldT Jvm.FP.Core.b64 x.toNat = x.toNat % 4503599627370496 := rfl
  have eE : Jvm.FP.Core.fieldE Jvm.FP.Core.b64 x.toNat = x.toNat / 4503599627370496 % 2048 := rfl
  have eX : Jvm.FP.Core.Fmt.exps Jvm.FP.Core.b64 - 1 = 2047 := rfl
  unfold Jvm.FP.Core.decode
  rw [eT, eE, eX, if_pos (by omega), if_neg (by omega)]
theorem nan32_dec {x : UInt32} (h : isNaN32 x = true) : Jvm.FP.Core.decode Jvm.FP.Core.b32 x.toNat = .nan := by
  have h1 := isNaN32_iff.mp h
  have h2 : x.toNat &&& 0x7fffffff = x.toNat % 2 ^ 31 := Nat.and_two_pow_sub_one_eq_mod x.toNat 31
  rw [h2] at h1
  have eT : Jvm.FP.Core.fieldT Jvm.FP.Core.b32 x.toNat = x.toNat % 8388608 := rfl
  have eE : Jvm.FP.Core.fieldE Jvm.FP.Core.b32 x.toNat = x.toNat / 8388608 % 256 := rfl
  have eX : Jvm.FP.Core.Fmt.exps Jvm.FP.Core.b32 - 1 = 255 := rfl
  unfold Jvm.FP.Core.decode
  rw [eT, eE, eX, if_pos (by omega), if_neg (by omega)]
theorem nan_f2d {x : UInt32} (h : isNaN32 x = true) : isNaN64 (FP.f2d x) = true := by
  have h1 : Jvm.FP.Core.fIsNaN x = true := by
    show decide (Jvm.FP.Core.decode Jvm.FP.Core.b32 x.toNat = .nan) = true
    rw [nan32_dec h]; rfl
  unfold FP.f2d
  rw [h1, if_pos rfl]
  unfold FP.nanF2D
  exact isNaN64_or_left (isNaN64_or_right (by decide +kernel))
theorem nan_cmp {x : UInt64} (h : isNaN64 x = true) : ¬ Op.cmpValue (FP.dcmp x x) CmpOp.l = 0 := by
  have h1 : FP.dcmp x x = none := by
    show Jvm.FP.Core.order (Jvm.FP.Core.decode Jvm.FP.Core.b64 x.toNat) _ = none
    rw [nan64_dec h]; rfl
  rw [h1]
  decide
theorem al32 {r x : UInt32} (h : alike32 r x = true) : r = x ∨ (isNaN32 r = true ∧ isNaN32 x = true) := by
  unfold alike32 at h
  rw [Bool.or_eq_true, Bool.and_eq_true] at h
  exact h.imp of_decide_eq_true id
theorem al64 {r x : UInt64} (h : alike64 r x = true) : r = x ∨ (isNaN64 r = true ∧ isNaN64 x = true) := by
  unfold alike64 at h
  rw [Bool.or_eq_true, Bool.and_eq_true] at h
  exact h.imp of_decide_eq_true id
/-- two answers that are one number, or NaNs: so are the doubles made of them -/
theorem al_two {r1 r2 : UInt32} {p q : UInt64} (h : r1 = r2 ∨ (isNaN32 r1 = true ∧ isNaN32 r2 = true)) (hp : alike64 p (FP.f2d r1) = true) (hq : alike64 q (FP.f2d r2) = true) : p = q ∨ (isNaN64 p = true ∧ isNaN64 q = true) := by
  rcases h with rfl | ⟨h1, h2⟩
  · rcases al64 hp with rfl | ⟨a1, a2⟩
    · rcases al64 hq with rfl | ⟨b1, b2⟩
      · exact Or.inl rfl
      · exact Or.inr ⟨b2, b1⟩
    · rcases al64 hq with rfl | ⟨b1, b2⟩
      · exact Or.inr ⟨a1, a2⟩
      · exact Or.inr ⟨a1, b1⟩
  · have n1 := nan_f2d h1
    have n2 := nan_f2d h2
    refine Or.inr ⟨?_, ?_⟩
    · rcases al64 hp with rfl | ⟨a1, -⟩
      · exact n1
      · exact a1
    · rcases al64 hq with rfl | ⟨a1, -⟩
      · exact n2
      · exact a1
/-! calls of the pure machine's methods out of any walk -/
section
variable {E : fxE} {M : fxM} {p : Program} {l : Launch} {e : Env} {R : Room} {s : State} {m : MethodId} {args : Array Value} {below : List Frame} {meth : Method} {c : Code} {H : Heap} {locs : List Loc} {K SL : Nat} {Z : State → Prop} {cc : ByteArray} {nL pc : Nat} {ls : Array Slot} {own : String} {rest : List Value} {d0 : Drawn}
def gC (E : fxE) (p : Program) (s : State) (m : MethodId) (args : Array Value) (c : Code) (cc : ByteArray) (nL : Nat) (own : String) : Prop := p.tables.exec = Jvm.exec ∧ c.code = cc ∧ c.maxLocals = nL ∧ s.vm.findClass own = some m.cls ∧ (∀ w ∈ lw_good, w.before args s = true) ∧ va_K (eD E) vwCl (fx_ty E) s ∧ fx_st E s s.heap ∧ fx_ns s ∧ fx_Ok E
theorem g_good {z : fxY} (h : Cond.code (mN z) (mC z) (mL z) (mT z) ∈ lw_good) : GoodIn lw_good (mW z) := by
  intro w hw
  rcases List.mem_cons.mp hw with rfl | hw
  · exact ⟨h, good_of_word (List.mem_filter.mp h).2⟩
  · exact ⟨hw, good_of_word (List.mem_filter.mp hw).2⟩
theorem g_back {Q' : Option fxV → fxM → Prop} {st0 : List Value} {a : Array Value} (hS : va_S (eA E) s.heap H locs)
    (hr : va_Run p l e R (s.setDrawn d0) m args below meth c H locs K SL 0 0 (F0 m pc ls st0) rest (fx_Q E Q' a) (eA E))
    (kk : ∀ (r : Option fxV) (M' : fxM) (H1 : Heap) (locs1 : List Loc), Q' r M' → va_S (eA E) s.heap H1 locs1 → fx_P E M' H1 → W p l e R (s.setDrawn d0) m args below meth c H1 locs1 K SL Z (F0 m (pc + 3) ls ((r.map em).toList ++ rest))) : W p l e R (s.setDrawn d0) m args below meth c H locs K SL Z (F0 m pc ls st0) := by
  intro T hT X
  obtain ⟨v, st₀, t, T', L, h0, X', hL, e1, e2, ⟨⟨r, M', hv, hQ, hW⟩, hz, hk⟩, st⟩ := hr T hT X
  have hv' : v = r.map em := by cases hv; rfl
  subst hv'
  rw [h0] at hz hk
  have hS' : va_S (eA E) s.heap T'.heap (locs ++ L) := by
    refine ⟨Nat.le_trans hS.1 (by rw [e1]; exact hz), fun q h1 h2 => ?_, fun q hq => ?_⟩
    · rw [e1, hk q (Nat.lt_of_lt_of_le h1 hS.1) h2]
      exact hS.2.1 q h1 h2
    · rcases List.mem_append.mp hq with h | h
      · exact hS.2.2 q h
      · exact hL q h
  have hP' : fx_P E M' T'.heap := by rw [e1]; exact hW.1
  obtain ⟨t2, a1, b1⟩ := kk r M' T'.heap (locs ++ L) hQ hS' hP' T' rfl X'
  exact ⟨t2, st t2 a1, b1⟩
theorem g_callV {z : fxY} {i b C : Nat} {as : List fxV} {st0 : List Value} {Q' : Option fxV → fxM → Prop} (G : gC E p s m args c cc nL own) (hS : va_S (eA E) s.heap H locs) (hP : fx_P E M H) (hd : decode cc pc = .ok (.invokevirtual i, 3)) (hc : CalV own i z as.length C) (hf : mF z + 1 ≤ R.frames ∧ 8 + (mL z + 11) + mO z ≤ R.locals) (hcs : K ≤ R.cells ∧ SL ≤ R.slots) (hb : kd E b = C) (hls : ls.size = nL) (hstk : (as.map em).reverse ++ .ref b :: rest = st0) (hrest : (rest.map fun v => v.category).sum ≤ 8) (hct : fx_Ct E z (.inr b :: as) M Q')
    (kk : ∀ (r : Option fxV) (M' : fxM) (H1 : Heap) (locs1 : List Loc), Q' r M' → va_S (eA E) s.heap H1 locs1 → fx_P E M' H1 → W p l e R (s.setDrawn d0) m args below meth c H1 locs1 K SL Z (F0 m (pc + 3) ls ((r.map em).toList ++ rest))) : W p l e R (s.setDrawn d0) m args below meth c H locs K SL Z (F0 m pc ls st0) := by
  obtain ⟨hx, hbc, hml, hown, hts, hK, hst, hns, hO⟩ := id G
  obtain ⟨c1, c2, c3, c4, c5, c6, c7, T, N, c8⟩ := hc
  subst hstk
  obtain ⟨q, hq⟩ := fx_pl_get (M := M) hO (show kd E b ≤ 16 by omega)
  rw [cel_o hb c7] at hq
  have ht := dr_words hts d0
  exact g_back (a := (Value.ref b :: as.map em).toArray) hS (va_runV (As := as.map em) (rest := rest) (b := b) (n := as.length) ⟨hx, hbc, hml, hown, ht⟩ (hct hO l) ⟨callB_of as.length ht (g_good c5) rfl rfl rfl (ht _ c4) (ht _ c1) c6 hf, ht _ c2, ht _ c3⟩ ⟨fx_blind, va_recv hK hP c8 hq, fun U hU hW => ⟨rfl, fx_WM (s := s.setDrawn d0) hK hst hns hS hP hU hW⟩⟩ rfl (by simp) hls rfl (lv_room hrest) hd ⟨hcs.1, hcs.2⟩) kk
theorem g_callS {z : fxY} {i : Nat} {as : List fxV} {st0 : List Value} {Q' : Option fxV → fxM → Prop} (G : gC E p s m args c cc nL own) (hS : va_S (eA E) s.heap H locs) (hP : fx_P E M H) (hd : decode cc pc = .ok (.invokestatic i, 3)) (hc : CalS own i z as.length) (hf : mF z + 1 ≤ R.frames ∧ 8 + (mL z + 11) + mO z ≤ R.locals) (hcs : K ≤ R.cells ∧ SL ≤ R.slots) (hls : ls.size = nL) (hstk : (as.map em).reverse ++ rest = st0) (hrest : (rest.map fun v => v.category).sum ≤ 8) (hct : fx_Ct E z as M Q')
    (kk : ∀ (r : Option fxV) (M' : fxM) (H1 : Heap) (locs1 : List Loc), Q' r M' → va_S (eA E) s.heap H1 locs1 → fx_P E M' H1 → W p l e R (s.setDrawn d0) m args below meth c H1 locs1 K SL Z (F0 m (pc + 3) ls ((r.map em).toList ++ rest))) : W p l e R (s.setDrawn d0) m args below meth c H locs K SL Z (F0 m pc ls st0) := by
  obtain ⟨hx, hbc, hml, hown, hts, hK, hst, hns, hO⟩ := id G
  obtain ⟨c1, c2, c4, c5, c6⟩ := hc
  subst hstk
  have ht := dr_words hts d0
  exact g_back (a := (as.map em).toArray) hS (va_runS (As := as.map em) (rest := rest) (n := as.length) ⟨hx, hbc, hml, hown, ht⟩ (hct hO l) ⟨callB_of as.length ht (g_good c5) rfl rfl rfl (ht _ c4) (ht _ c1) c6 hf, ht _ c2⟩ ⟨fx_blind, fun U hU hW => ⟨rfl, fx_WM (s := s.setDrawn d0) hK hst hns hS hP hU hW⟩⟩ rfl (by simp) hls rfl (lv_room hrest) hd ⟨hcs.1, hcs.2⟩) kk
/-- a test of the pure machine: both ways -/
theorem g_callB {z : fxY} {i : Nat} {as : List fxV} {st0 : List Value} {c0 : Prop} (G : gC E p s m args c cc nL own) (hS : va_S (eA E) s.heap H locs) (hP : fx_P E M H) (hd : decode cc pc = .ok (.invokestatic i, 3)) (hc : CalS own i z as.length) (hf : mF z + 1 ≤ R.frames ∧ 8 + (mL z + 11) + mO z ≤ R.locals) (hcs : K ≤ R.cells ∧ SL ≤ R.slots) (hls : ls.size = nL) (hstk : (as.map em).reverse ++ rest = st0) (hrest : (rest.map fun v => v.category).sum ≤ 8) (hct : CtB E z as M c0)
    (kt : ∀ (H1 : Heap) (locs1 : List Loc), c0 → va_S (eA E) s.heap H1 locs1 → fx_P E M H1 → W p l e R (s.setDrawn d0) m args below meth c H1 locs1 K SL Z (F0 m (pc + 3) ls (.int 1 :: rest))) (kf : ∀ (H1 : Heap) (locs1 : List Loc), ¬ c0 → va_S (eA E) s.heap H1 locs1 → fx_P E M H1 → W p l e R (s.setDrawn d0) m args below meth c H1 locs1 K SL Z (F0 m (pc + 3) ls (.int 0 :: rest))) : W p l e R (s.setDrawn d0) m args below meth c H locs K SL Z (F0 m pc ls st0) := by
  refine g_callS G hS hP hd hc hf hcs hls hstk hrest hct (fun r M' H1 locs1 hq hS1 hP1 => ?_)
  obtain ⟨rfl, ⟨h, rfl⟩ | ⟨h, rfl⟩⟩ := hq
  · exact kt H1 locs1 h hS1 hP1
  · exact kf H1 locs1 h hS1 hP1
end
/-- what meanLoss answers -/
def mlA (T : Int → Int) (ok : Prop) (a b : Int) (r : UInt32) : Prop := (ok ∧ alike32 r (FP.fdiv (FP.i2f (i3 (T a - T b))) (FP.i2f (i3 (b - a)))) = true) ∨ (¬ ok ∧ r = 3379831840)
theorem mlA.two {T : Int → Int} {ok : Prop} {a b : Int} {r1 r2 : UInt32} (h1 : mlA T ok a b r1) (h2 : mlA T ok a b r2) : r1 = r2 ∨ (isNaN32 r1 = true ∧ isNaN32 r2 = true) := by
  rcases h1 with ⟨o1, a1⟩ | ⟨o1, a1⟩ <;> rcases h2 with ⟨o2, a2⟩ | ⟨o2, a2⟩
  · rcases al32 a1 with rfl | ⟨b1, b2⟩ <;> rcases al32 a2 with rfl | ⟨c1, c2⟩
    · exact Or.inl rfl
    · exact Or.inr ⟨c2, c1⟩
    · exact Or.inr ⟨b1, b2⟩
    · exact Or.inr ⟨b1, c1⟩
  · exact absurd o1 o2
  · exact absurd o2 o1
  · exact Or.inl (a1.trans a2.symm)
abbrev m_X9_meanLoss : fxY := (yX9_meanLoss, cX9_meanLoss, 6, (some .float), 5, 119)
abbrev m_X10_meanLoss : fxY := (yX10_meanLoss, cX10_meanLoss, 5, (some .float), 5, 117)
theorem kfl_9 : Cond.constantFloat RX9 196 3379831840 ∈ lw_good := lw_goodI (tb3 (List.mem_of_getElem? (i := 73) (by decide +kernel))) rfl
theorem kfl_10 : Cond.constantFloat RX10 151 3379831840 ∈ lw_good := lw_goodI (tb5 (List.mem_of_getElem? (i := 53) (by decide +kernel))) rfl
theorem dX9_meanLoss_0 : decode cX9_meanLoss 0 = .ok (.iload_n 1, 1) := by decide +kernel
theorem dX9_meanLoss_1 : decode cX9_meanLoss 1 = .ok (.invokestatic 172, 3) := by decide +kernel
theorem dX9_meanLoss_4 : decode cX9_meanLoss 4 = .ok (.ifCond .eq 31, 3) := by decide +kernel
theorem dX9_meanLoss_7 : decode cX9_meanLoss 7 = .ok (.iload_n 2, 1) := by decide +kernel
theorem dX9_meanLoss_8 : decode cX9_meanLoss 8 = .ok (.invokestatic 183, 3) := by decide +kernel
theorem dX9_meanLoss_11 : decode cX9_meanLoss 11 = .ok (.ifCond .eq 24, 3) := by decide +kernel
theorem dX9_meanLoss_14 : decode cX9_meanLoss 14 = .ok (.iload_n 3, 1) := by decide +kernel
theorem dX9_meanLoss_15 : decode cX9_meanLoss 15 = .ok (.invokestatic 186, 3) := by decide +kernel
theorem dX9_meanLoss_18 : decode cX9_meanLoss 18 = .ok (.ifCond .eq 17, 3) := by decide +kernel
theorem dX9_meanLoss_21 : decode cX9_meanLoss 21 = .ok (.iload 4, 2) := by decide +kernel
theorem dX9_meanLoss_23 : decode cX9_meanLoss 23 = .ok (.invokestatic 186, 3) := by decide +kernel
theorem dX9_meanLoss_26 : decode cX9_meanLoss 26 = .ok (.ifCond .eq 9, 3) := by decide +kernel
theorem dX9_meanLoss_29 : decode cX9_meanLoss 29 = .ok (.iload 4, 2) := by decide +kernel
theorem dX9_meanLoss_31 : decode cX9_meanLoss 31 = .ok (.iload_n 3, 1) := by decide +kernel
theorem dX9_meanLoss_32 : decode cX9_meanLoss 32 = .ok (.if_icmp .gt 6, 3) := by decide +kernel
theorem dX9_meanLoss_35 : decode cX9_meanLoss 35 = .ok (.ldc 196, 2) := by decide +kernel
theorem dX9_meanLoss_37 : decode cX9_meanLoss 37 = .ok (.freturn, 1) := by decide +kernel
theorem dX9_meanLoss_38 : decode cX9_meanLoss 38 = .ok (.aload_n 0, 1) := by decide +kernel
theorem dX9_meanLoss_39 : decode cX9_meanLoss 39 = .ok (.iload_n 1, 1) := by decide +kernel
theorem dX9_meanLoss_40 : decode cX9_meanLoss 40 = .ok (.iload_n 2, 1) := by decide +kernel
theorem dX9_meanLoss_41 : decode cX9_meanLoss 41 = .ok (.invokevirtual 189, 3) := by decide +kernel
theorem dX9_meanLoss_44 : decode cX9_meanLoss 44 = .ok (.astore 5, 2) := by decide +kernel
theorem dX9_meanLoss_46 : decode cX9_meanLoss 46 = .ok (.aload 5, 2) := by decide +kernel
theorem dX9_meanLoss_48 : decode cX9_meanLoss 48 = .ok (.iload_n 3, 1) := by decide +kernel
theorem dX9_meanLoss_49 : decode cX9_meanLoss 49 = .ok (.invokevirtual 193, 3) := by decide +kernel
theorem dX9_meanLoss_52 : decode cX9_meanLoss 52 = .ok (.aload 5, 2) := by decide +kernel
theorem dX9_meanLoss_54 : decode cX9_meanLoss 54 = .ok (.iload 4, 2) := by decide +kernel
theorem dX9_meanLoss_56 : decode cX9_meanLoss 56 = .ok (.invokevirtual 193, 3) := by decide +kernel
theorem dX9_meanLoss_59 : decode cX9_meanLoss 59 = .ok (.isub, 1) := by decide +kernel
theorem dX9_meanLoss_60 : decode cX9_meanLoss 60 = .ok (.i2f, 1) := by decide +kernel
theorem dX9_meanLoss_61 : decode cX9_meanLoss 61 = .ok (.iload 4, 2) := by decide +kernel
theorem dX9_meanLoss_63 : decode cX9_meanLoss 63 = .ok (.iload_n 3, 1) := by decide +kernel
theorem dX9_meanLoss_64 : decode cX9_meanLoss 64 = .ok (.isub, 1) := by decide +kernel
theorem dX9_meanLoss_65 : decode cX9_meanLoss 65 = .ok (.i2f, 1) := by decide +kernel
theorem dX9_meanLoss_66 : decode cX9_meanLoss 66 = .ok (.fdiv, 1) := by decide +kernel
theorem dX9_meanLoss_67 : decode cX9_meanLoss 67 = .ok (.freturn, 1) := by decide +kernel
theorem dX10_meanLoss_0 : decode cX10_meanLoss 0 = .ok (.iload_n 1, 1) := by decide +kernel
theorem dX10_meanLoss_1 : decode cX10_meanLoss 1 = .ok (.iload_n 2, 1) := by decide +kernel
theorem dX10_meanLoss_2 : decode cX10_meanLoss 2 = .ok (.invokestatic 144, 3) := by decide +kernel
theorem dX10_meanLoss_5 : decode cX10_meanLoss 5 = .ok (.ifCond .eq 32, 3) := by decide +kernel
theorem dX10_meanLoss_8 : decode cX10_meanLoss 8 = .ok (.iload_n 3, 1) := by decide +kernel
theorem dX10_meanLoss_9 : decode cX10_meanLoss 9 = .ok (.iconst 0, 1) := by decide +kernel
theorem dX10_meanLoss_10 : decode cX10_meanLoss 10 = .ok (.sipush 400, 3) := by decide +kernel
theorem dX10_meanLoss_13 : decode cX10_meanLoss 13 = .ok (.invokestatic 74, 3) := by decide +kernel
theorem dX10_meanLoss_16 : decode cX10_meanLoss 16 = .ok (.ifCond .eq 21, 3) := by decide +kernel
theorem dX10_meanLoss_19 : decode cX10_meanLoss 19 = .ok (.iload 4, 2) := by decide +kernel
theorem dX10_meanLoss_21 : decode cX10_meanLoss 21 = .ok (.iconst 0, 1) := by decide +kernel
theorem dX10_meanLoss_22 : decode cX10_meanLoss 22 = .ok (.sipush 400, 3) := by decide +kernel
theorem dX10_meanLoss_25 : decode cX10_meanLoss 25 = .ok (.invokestatic 74, 3) := by decide +kernel
theorem dX10_meanLoss_28 : decode cX10_meanLoss 28 = .ok (.ifCond .eq 9, 3) := by decide +kernel
theorem dX10_meanLoss_31 : decode cX10_meanLoss 31 = .ok (.iload 4, 2) := by decide +kernel
theorem dX10_meanLoss_33 : decode cX10_meanLoss 33 = .ok (.iload_n 3, 1) := by decide +kernel
theorem dX10_meanLoss_34 : decode cX10_meanLoss 34 = .ok (.if_icmp .gt 6, 3) := by decide +kernel
theorem dX10_meanLoss_37 : decode cX10_meanLoss 37 = .ok (.ldc 151, 2) := by decide +kernel
theorem dX10_meanLoss_39 : decode cX10_meanLoss 39 = .ok (.freturn, 1) := by decide +kernel
theorem dX10_meanLoss_40 : decode cX10_meanLoss 40 = .ok (.aload_n 0, 1) := by decide +kernel
theorem dX10_meanLoss_41 : decode cX10_meanLoss 41 = .ok (.iload_n 1, 1) := by decide +kernel
theorem dX10_meanLoss_42 : decode cX10_meanLoss 42 = .ok (.iload_n 2, 1) := by decide +kernel
theorem dX10_meanLoss_43 : decode cX10_meanLoss 43 = .ok (.invokevirtual 148, 3) := by decide +kernel
theorem dX10_meanLoss_46 : decode cX10_meanLoss 46 = .ok (.aload_n 0, 1) := by decide +kernel
theorem dX10_meanLoss_47 : decode cX10_meanLoss 47 = .ok (.getfield 39, 3) := by decide +kernel
theorem dX10_meanLoss_50 : decode cX10_meanLoss 50 = .ok (.iload_n 3, 1) := by decide +kernel
theorem dX10_meanLoss_51 : decode cX10_meanLoss 51 = .ok (.iaload, 1) := by decide +kernel
theorem dX10_meanLoss_52 : decode cX10_meanLoss 52 = .ok (.aload_n 0, 1) := by decide +kernel
theorem dX10_meanLoss_53 : decode cX10_meanLoss 53 = .ok (.getfield 39, 3) := by decide +kernel
theorem dX10_meanLoss_56 : decode cX10_meanLoss 56 = .ok (.iload 4, 2) := by decide +kernel
theorem dX10_meanLoss_58 : decode cX10_meanLoss 58 = .ok (.iaload, 1) := by decide +kernel
theorem dX10_meanLoss_59 : decode cX10_meanLoss 59 = .ok (.isub, 1) := by decide +kernel
theorem dX10_meanLoss_60 : decode cX10_meanLoss 60 = .ok (.i2f, 1) := by decide +kernel
theorem dX10_meanLoss_61 : decode cX10_meanLoss 61 = .ok (.iload 4, 2) := by decide +kernel
theorem dX10_meanLoss_63 : decode cX10_meanLoss 63 = .ok (.iload_n 3, 1) := by decide +kernel
theorem dX10_meanLoss_64 : decode cX10_meanLoss 64 = .ok (.isub, 1) := by decide +kernel
theorem dX10_meanLoss_65 : decode cX10_meanLoss 65 = .ok (.i2f, 1) := by decide +kernel
theorem dX10_meanLoss_66 : decode cX10_meanLoss 66 = .ok (.fdiv, 1) := by decide +kernel
theorem dX10_meanLoss_67 : decode cX10_meanLoss 67 = .ok (.freturn, 1) := by decide +kernel
section
variable {E : fxE} {M : fxM}
def mlOk (σ u a b : Int) : Prop := okT σ u ∧ (0 ≤ a ∧ a ≤ 400) ∧ (0 ≤ b ∧ b ≤ 400) ∧ a < b
def fMet (E : fxE) (M : fxM) (y : fxY) (as : List fxV) (P : UInt32 → fxM → Prop) : Prop := fx_Ok E → ∀ l : Launch, MetD lw_cs l (mN y) (mW y) (mR y) (va_Pc (as.map em) (fx_W E M)) (va_Qf P (fun M' t => fx_W E M' t) (eA E)) 0 0 (eA E)
set_option maxHeartbeats 1000000 in
theorem cl_meanLoss (hW : fx_Wt E) {b n v : Nat} {w : Nat → Int} {H : Nat → Nat → Int} {σ u a d : Int} (hb : kd E b = 9) (hC : CI E M b w H n v) (hw : wOk w) (hV : CV E M b w v) (hT : CT E M b w v) (hv : v < 1000000) (h1 : inR σ) (h2 : inR u) (h3 : inR a) (h4 : inR d) : fMet E M m_X9_meanLoss [.inr b, .inl σ, .inl u, .inl a, .inl d] (fun r M' => mlA (trA w σ u) (mlOk σ u a d) a d r ∧ PT E M M' b w v) := by
  intro hO l
  refine MetD.ofW (cc := cX9_meanLoss) (maxL := 6) (ret := some .float) (by decide) rfl ?_
  intro p e s m args below meth c s₁ B0 hml hv0 hd0
  obtain ⟨rfl, hP, hK, hst, hns⟩ := hv0
  have hx := B0.exec
  have hbc := B0.bytes
  have hr := B0.returns
  have hlk := B0.notSynchronized
  have hown : s.vm.findClass RX9 = some m.cls := findClass_of_methodNamed B0.named
  have hts0 := atoms_spec (ws := mW m_X9_meanLoss) B0.pre
  have hts : ∀ w ∈ lw_good, w.before _ s = true := fun w hw => hts0 w (List.mem_cons_of_mem _ hw)
  have G : gC E p s m _ c cX9_meanLoss 6 RX9 := ⟨hx, hbc, hml, hown, hts, hK, hst, hns, hO⟩
  have hl := lv_entry ([.ref b, .int (i3 σ), .int (i3 u), .int (i3 a), .int (i3 d)]) (n := 6) (Nat.le_of_ble_eq_true rfl)
  show W p l e (mR m_X9_meanLoss) (s.setDrawn s.drawn) m _ below meth c s.heap [] 0 0 _ (entryFrame m ([.ref b, .int (i3 σ), .int (i3 u), .int (i3 a), .int (i3 d)] : List Value).toArray 6)
  rw [lg_entry_eq]
  generalize (lg_sl ([.ref b, .int (i3 σ), .int (i3 u), .int (i3 a), .int (i3 d)]) ++ List.replicate (6 - (lg_sl ([.ref b, .int (i3 σ), .int (i3 u), .int (i3 a), .int (i3 d)])).length) Slot.unset).toArray = ls at hl ⊢
  have hl : lv_has ls 6 [(0, .ref b), (1, .int (i3 σ)), (2, .int (i3 u)), (3, .int (i3 a)), (4, .int (i3 d))] := hl
  have hS0 : va_S (eA E) s.heap s.heap [] := va_S.rf
  have fin : ∀ (d0 : Drawn) (M1 : fxM) (H1 : Heap) (locs1 : List Loc) (ls : Array Slot) (r : UInt32) (pc : Nat), s.drawn.sameBut d0 lw_cs → decode cX9_meanLoss pc = .ok (.freturn, 1) → mlA (trA w σ u) (mlOk σ u a d) a d r → PT E M M1 b w v → va_S (eA E) s.heap H1 locs1 → fx_P E M1 H1 → W p l e (mR m_X9_meanLoss) (s.setDrawn d0) m ([.ref b, .int (i3 σ), .int (i3 u), .int (i3 a), .int (i3 d)] : List Value).toArray below meth c H1 locs1 0 0 (MQD lw_cs below (va_Qf (fun r M' => mlA (trA w σ u) (mlOk σ u a d) a d r ∧ PT E M M' b w v) (fun M' t => fx_W E M' t) (eA E)) ([.ref b, .int (i3 σ), .int (i3 u), .int (i3 a), .int (i3 d)] : List Value).toArray s 0 0 (eA E)) (F0 m pc ls [.float r]) := by
    intro d0 M1 H1 locs1 ls r pc hd0 hdec hr1 hr2 hS1 hP1
    refine W.endD hd0 ?_
    exact W.fret hx hbc hr (fun t ht hW => ⟨⟨r, M1, rfl, ⟨hr1, hr2⟩, fx_WM (s := s.setDrawn d0) hK hst hns hS1 hP1 ht hW⟩, hS1.F ht⟩) hS1.2.2 hdec hlk
  have bad : ¬ mlOk σ u a d → ∀ (H1 : Heap) (locs1 : List Loc), va_S (eA E) s.heap H1 locs1 → fx_P E M H1 → W p l e (mR m_X9_meanLoss) (s.setDrawn s.drawn) m ([.ref b, .int (i3 σ), .int (i3 u), .int (i3 a), .int (i3 d)] : List Value).toArray below meth c H1 locs1 0 0 (MQD lw_cs below (va_Qf (fun r M' => mlA (trA w σ u) (mlOk σ u a d) a d r ∧ PT E M M' b w v) (fun M' t => fx_W E M' t) (eA E)) ([.ref b, .int (i3 σ), .int (i3 u), .int (i3 a), .int (i3 d)] : List Value).toArray s 0 0 (eA E)) (F0 m 35 ls []) := by
    intro hn H1 locs1 hS1 hP1
    refine lv_ldcf hx hbc hown (dr_words hts _ _ kfl_9) dX9_meanLoss_35 ?_
    exact fin _ M H1 locs1 ls _ _ hd0 dX9_meanLoss_37 (Or.inr ⟨hn, rfl⟩) (PT.rf' hV hT) hS1 hP1
  refine lv_iload_n hx hbc dX9_meanLoss_0 rfl (lv_at hl 1 rfl) ?_
  refine g_callB (as := [.inl σ]) (rest := []) G hS0 hP dX9_meanLoss_1 c_RX9_172 (by decide) (by decide) hl.1 rfl (by decide) (ct_X9_isSide hW h1) (fun H locs k1 hS hP => ?_) (fun H locs k1 hS hP => ?_)
  rotate_left
  · exact lv_if_eq (tgt := 35) hx hbc dX9_meanLoss_4 (by decide) (fun _ => bad (fun z => k1 z.1.1) H locs hS hP) (fun h => absurd rfl h)
  refine lv_if_eq (tgt := 35) hx hbc dX9_meanLoss_4 (by decide) (fun h => absurd h (by decide)) (fun _ => ?_)
  refine lv_iload_n hx hbc dX9_meanLoss_7 rfl (lv_at hl 2 rfl) ?_
  refine g_callB (as := [.inl u]) (rest := []) G hS hP dX9_meanLoss_8 c_RX9_183 (by decide) (by decide) hl.1 rfl (by decide) (ct_X9_isWidth hW h2) (fun H locs k2 hS hP => ?_) (fun H locs k2 hS hP => ?_)
  rotate_left
  · exact lv_if_eq (tgt := 35) hx hbc dX9_meanLoss_11 (by decide) (fun _ => bad (fun z => k2 z.1.2) H locs hS hP) (fun h => absurd rfl h)
  refine lv_if_eq (tgt := 35) hx hbc dX9_meanLoss_11 (by decide) (fun h => absurd h (by decide)) (fun _ => ?_)
  refine lv_iload_n hx hbc dX9_meanLoss_14 rfl (lv_at hl 3 rfl) ?_
  refine g_callB (as := [.inl a]) (rest := []) G hS hP dX9_meanLoss_15 c_RX9_186 (by decide) (by decide) hl.1 rfl (by decide) (ct_X9_isDistance hW h3) (fun H locs k3 hS hP => ?_) (fun H locs k3 hS hP => ?_)
  rotate_left
  · exact lv_if_eq (tgt := 35) hx hbc dX9_meanLoss_18 (by decide) (fun _ => bad (fun z => k3 z.2.1) H locs hS hP) (fun h => absurd rfl h)
  refine lv_if_eq (tgt := 35) hx hbc dX9_meanLoss_18 (by decide) (fun h => absurd h (by decide)) (fun _ => ?_)
  refine lv_iload hx hbc dX9_meanLoss_21 (lv_at hl 4 rfl) ?_
  refine g_callB (as := [.inl d]) (rest := []) G hS hP dX9_meanLoss_23 c_RX9_186 (by decide) (by decide) hl.1 rfl (by decide) (ct_X9_isDistance hW h4) (fun H locs k4 hS hP => ?_) (fun H locs k4 hS hP => ?_)
  rotate_left
  · exact lv_if_eq (tgt := 35) hx hbc dX9_meanLoss_26 (by decide) (fun _ => bad (fun z => k4 z.2.2.1) H locs hS hP) (fun h => absurd rfl h)
  refine lv_if_eq (tgt := 35) hx hbc dX9_meanLoss_26 (by decide) (fun h => absurd h (by decide)) (fun _ => ?_)
  refine lv_iload hx hbc dX9_meanLoss_29 (lv_at hl 4 rfl) ?_
  refine lv_iload_n hx hbc dX9_meanLoss_31 rfl (lv_at hl 3 rfl) ?_
  refine lv_icmp_gt (tgt := 38) hx hbc dX9_meanLoss_32 (by decide) (fun k5 => ?_) (fun k5 => bad (fun z => k5 ((i3_lt h3 h4).mpr z.2.2.2)) H locs hS hP)
  have k5 : a < d := (i3_lt h3 h4).mp k5
  obtain ⟨s0, rfl⟩ : ∃ s0 : Nat, σ = (s0 : Int) := ⟨σ.toNat, by omega⟩
  refine lv_aload_n hx hbc dX9_meanLoss_38 rfl (lv_at hl 0 rfl) ?_
  refine lv_iload_n hx hbc dX9_meanLoss_39 rfl (lv_at hl 1 rfl) ?_
  refine lv_iload_n hx hbc dX9_meanLoss_40 rfl (lv_at hl 2 rfl) ?_
  refine g_callV (as := [.inl (s0 : Int), .inl u]) (b := b) (rest := []) G hS hP dX9_meanLoss_41 c_RX9_189 (by decide) (by decide) hb hl.1 rfl (by decide) (ct_traceOf hW hb hC hw hV hT (by omega) k2 hv) (fun r M1 H locs hq hS hP => ?_)
  obtain ⟨v1, rfl, rfl, g1, g2⟩ := hq
  have hk := tr_kd hW hb (slt_b (s := s0) (u := u) (by omega)).1
  show W p l e (mR m_X9_meanLoss) (s.setDrawn s.drawn) m _ below meth c H locs 0 0 _ (F0 m 44 ls [.ref (tr E b (slt s0 u))])
  refine lv_astore (lv' := [(5, .ref (tr E b (slt s0 u))), (0, .ref b), (1, .int (i3 (s0 : Int))), (2, .int (i3 u)), (3, .int (i3 a)), (4, .int (i3 d))]) hx hbc dX9_meanLoss_44 hl (by decide) rfl (fun ls hl => ?_)
  refine lv_aload hx hbc dX9_meanLoss_46 (lv_at hl 0 rfl) ?_
  refine lv_iload_n hx hbc dX9_meanLoss_48 rfl (lv_at hl 4 rfl) ?_
  refine g_callV (as := [.inl a]) (b := tr E b (slt s0 u)) (rest := []) G hS hP dX9_meanLoss_49 c_RX9_193 (by decide) (by decide) hk hl.1 rfl (by decide) (ct_X7_at hW hk h3) (fun r M2 H locs hq hS hP => ?_)
  obtain ⟨eM, rfl⟩ := hq
  rw [eM] at hP
  show W p l e (mR m_X9_meanLoss) (s.setDrawn s.drawn) m _ below meth c H locs 0 0 _ (F0 m 52 ls [.int (i3 (tat E M1 (tr E b (slt s0 u)) a))])
  refine lv_aload hx hbc dX9_meanLoss_52 (lv_at hl 0 rfl) ?_
  refine lv_iload hx hbc dX9_meanLoss_54 (lv_at hl 5 rfl) ?_
  refine g_callV (as := [.inl d]) (b := tr E b (slt s0 u)) (rest := [.int (i3 (tat E M1 (tr E b (slt s0 u)) a))]) G hS hP dX9_meanLoss_56 c_RX9_193 (by decide) (by decide) hk hl.1 rfl (Nat.le_of_ble_eq_true rfl) (ct_X7_at hW hk h4) (fun r M3 H locs hq hS hP => ?_)
  obtain ⟨eM3, rfl⟩ := hq
  rw [eM3] at hP
  show W p l e (mR m_X9_meanLoss) (s.setDrawn s.drawn) m _ below meth c H locs 0 0 _ (F0 m 59 ls [.int (i3 (tat E M1 (tr E b (slt s0 u)) d)), .int (i3 (tat E M1 (tr E b (slt s0 u)) a))])
  refine lv_isub hx hbc dX9_meanLoss_59 ?_
  rw [← i3_sub, g2, g2]
  refine lv_i2f hx hbc dX9_meanLoss_60 ?_
  refine lv_iload hx hbc dX9_meanLoss_61 (lv_at hl 5 rfl) ?_
  refine lv_iload_n hx hbc dX9_meanLoss_63 rfl (lv_at hl 4 rfl) ?_
  refine lv_isub hx hbc dX9_meanLoss_64 ?_
  rw [← i3_sub]
  refine lv_i2f hx hbc dX9_meanLoss_65 ?_
  refine lv_fdiv_any hd0 lw_bits hx hbc dX9_meanLoss_66 (fun r d1 hal hd1 => ?_)
  exact fin d1 M1 H locs ls r _ hd1 dX9_meanLoss_67 (Or.inl ⟨⟨⟨k1, k2⟩, k3, k4, k5⟩, hal⟩) g1 hS hP
set_option maxHeartbeats 1000000 in
theorem re_meanLoss (hW : fx_Wt E) {m0 : Nat} {w : Nat → Int} {σ u a d : Int} (hm : kd E m0 = 10) (hwe : M (rf E m0 0) = w) (hw : wOk w) (hRC : RC E M m0) (h1 : inR σ) (h2 : inR u) (h3 : inR a) (h4 : inR d) : fMet E M m_X10_meanLoss [.inr m0, .inl σ, .inl u, .inl a, .inl d] (fun r M' => mlA (trA w σ u) (mlOk σ u a d) a d r ∧ RP E M M' m0) := by
  intro hO l
  refine MetD.ofW (cc := cX10_meanLoss) (maxL := 5) (ret := some .float) (by decide) rfl ?_
  intro p e s m args below meth c s₁ B0 hml hv0 hd0
  obtain ⟨rfl, hP, hK, hst, hns⟩ := hv0
  have hx := B0.exec
  have hbc := B0.bytes
  have hr := B0.returns
  have hlk := B0.notSynchronized
  have hown : s.vm.findClass RX10 = some m.cls := findClass_of_methodNamed B0.named
  have hts0 := atoms_spec (ws := mW m_X10_meanLoss) B0.pre
  have hts : ∀ w ∈ lw_good, w.before _ s = true := fun w hw => hts0 w (List.mem_cons_of_mem _ hw)
  have G : gC E p s m _ c cX10_meanLoss 5 RX10 := ⟨hx, hbc, hml, hown, hts, hK, hst, hns, hO⟩
  have hl := lv_entry ([.ref m0, .int (i3 σ), .int (i3 u), .int (i3 a), .int (i3 d)]) (n := 5) (Nat.le_of_ble_eq_true rfl)
  show W p l e (mR m_X10_meanLoss) (s.setDrawn s.drawn) m _ below meth c s.heap [] 0 0 _ (entryFrame m ([.ref m0, .int (i3 σ), .int (i3 u), .int (i3 a), .int (i3 d)] : List Value).toArray 5)
  rw [lg_entry_eq]
  generalize (lg_sl ([.ref m0, .int (i3 σ), .int (i3 u), .int (i3 a), .int (i3 d)]) ++ List.replicate (5 - (lg_sl ([.ref m0, .int (i3 σ), .int (i3 u), .int (i3 a), .int (i3 d)])).length) Slot.unset).toArray = ls at hl ⊢
  have hl : lv_has ls 5 [(0, .ref m0), (1, .int (i3 σ)), (2, .int (i3 u)), (3, .int (i3 a)), (4, .int (i3 d))] := hl
  have hS0 : va_S (eA E) s.heap s.heap [] := va_S.rf
  have fin : ∀ (d0 : Drawn) (M1 : fxM) (H1 : Heap) (locs1 : List Loc) (ls : Array Slot) (r : UInt32) (pc : Nat), s.drawn.sameBut d0 lw_cs → decode cX10_meanLoss pc = .ok (.freturn, 1) → mlA (trA w σ u) (mlOk σ u a d) a d r → RP E M M1 m0 → va_S (eA E) s.heap H1 locs1 → fx_P E M1 H1 → W p l e (mR m_X10_meanLoss) (s.setDrawn d0) m ([.ref m0, .int (i3 σ), .int (i3 u), .int (i3 a), .int (i3 d)] : List Value).toArray below meth c H1 locs1 0 0 (MQD lw_cs below (va_Qf (fun r M' => mlA (trA w σ u) (mlOk σ u a d) a d r ∧ RP E M M' m0) (fun M' t => fx_W E M' t) (eA E)) ([.ref m0, .int (i3 σ), .int (i3 u), .int (i3 a), .int (i3 d)] : List Value).toArray s 0 0 (eA E)) (F0 m pc ls [.float r]) := by
    intro d0 M1 H1 locs1 ls r pc hd0 hdec hr1 hr2 hS1 hP1
    refine W.endD hd0 ?_
    exact W.fret hx hbc hr (fun t ht hW => ⟨⟨r, M1, rfl, ⟨hr1, hr2⟩, fx_WM (s := s.setDrawn d0) hK hst hns hS1 hP1 ht hW⟩, hS1.F ht⟩) hS1.2.2 hdec hlk
  have bad : ¬ mlOk σ u a d → ∀ (H1 : Heap) (locs1 : List Loc), va_S (eA E) s.heap H1 locs1 → fx_P E M H1 → W p l e (mR m_X10_meanLoss) (s.setDrawn s.drawn) m ([.ref m0, .int (i3 σ), .int (i3 u), .int (i3 a), .int (i3 d)] : List Value).toArray below meth c H1 locs1 0 0 (MQD lw_cs below (va_Qf (fun r M' => mlA (trA w σ u) (mlOk σ u a d) a d r ∧ RP E M M' m0) (fun M' t => fx_W E M' t) (eA E)) ([.ref m0, .int (i3 σ), .int (i3 u), .int (i3 a), .int (i3 d)] : List Value).toArray s 0 0 (eA E)) (F0 m 37 ls []) := by
    intro hn H1 locs1 hS1 hP1
    refine lv_ldcf hx hbc hown (dr_words hts _ _ kfl_10) dX10_meanLoss_37 ?_
    exact fin _ M H1 locs1 ls _ _ hd0 dX10_meanLoss_39 (Or.inr ⟨hn, rfl⟩) ⟨RQ.rf', hRC⟩ hS1 hP1
  refine lv_iload_n hx hbc dX10_meanLoss_0 rfl (lv_at hl 1 rfl) ?_
  refine lv_iload_n hx hbc dX10_meanLoss_1 rfl (lv_at hl 2 rfl) ?_
  refine g_callB (as := [.inl σ, .inl u]) (rest := []) G hS0 hP dX10_meanLoss_2 c_RX10_144 (by decide) (by decide) hl.1 rfl (by decide) (ct_X10_isTrace hW h1 h2) (fun H locs k1 hS hP => ?_) (fun H locs k1 hS hP => ?_)
  rotate_left
  · exact lv_if_eq (tgt := 37) hx hbc dX10_meanLoss_5 (by decide) (fun _ => bad (fun z => k1 z.1) H locs hS hP) (fun h => absurd rfl h)
  refine lv_if_eq (tgt := 37) hx hbc dX10_meanLoss_5 (by decide) (fun h => absurd h (by decide)) (fun _ => ?_)
  refine lv_iload_n hx hbc dX10_meanLoss_8 rfl (lv_at hl 3 rfl) ?_
  refine lv_iconst (v := i3 0) hx hbc dX10_meanLoss_9 rfl ?_
  refine lv_sipush (v := i3 400) hx hbc dX10_meanLoss_10 (by decide +kernel) ?_
  refine g_callB (as := [.inl a, .inl 0, .inl 400]) (rest := []) G hS hP dX10_meanLoss_13 c_RX10_74 (by decide) (by decide) hl.1 rfl (by decide) (ct_isIn hW h3 ⟨by decide, by decide⟩ ⟨by decide, by decide⟩) (fun H locs k3 hS hP => ?_) (fun H locs k3 hS hP => ?_)
  rotate_left
  · exact lv_if_eq (tgt := 37) hx hbc dX10_meanLoss_16 (by decide) (fun _ => bad (fun z => k3 z.2.1) H locs hS hP) (fun h => absurd rfl h)
  refine lv_if_eq (tgt := 37) hx hbc dX10_meanLoss_16 (by decide) (fun h => absurd h (by decide)) (fun _ => ?_)
  refine lv_iload hx hbc dX10_meanLoss_19 (lv_at hl 4 rfl) ?_
  refine lv_iconst (v := i3 0) hx hbc dX10_meanLoss_21 rfl ?_
  refine lv_sipush (v := i3 400) hx hbc dX10_meanLoss_22 (by decide +kernel) ?_
  refine g_callB (as := [.inl d, .inl 0, .inl 400]) (rest := []) G hS hP dX10_meanLoss_25 c_RX10_74 (by decide) (by decide) hl.1 rfl (by decide) (ct_isIn hW h4 ⟨by decide, by decide⟩ ⟨by decide, by decide⟩) (fun H locs k4 hS hP => ?_) (fun H locs k4 hS hP => ?_)
  rotate_left
  · exact lv_if_eq (tgt := 37) hx hbc dX10_meanLoss_28 (by decide) (fun _ => bad (fun z => k4 z.2.2.1) H locs hS hP) (fun h => absurd rfl h)
  refine lv_if_eq (tgt := 37) hx hbc dX10_meanLoss_28 (by decide) (fun h => absurd h (by decide)) (fun _ => ?_)
  refine lv_iload hx hbc dX10_meanLoss_31 (lv_at hl 4 rfl) ?_
  refine lv_iload_n hx hbc dX10_meanLoss_33 rfl (lv_at hl 3 rfl) ?_
  refine lv_icmp_gt (tgt := 40) hx hbc dX10_meanLoss_34 (by decide) (fun k5 => ?_) (fun k5 => bad (fun z => k5 ((i3_lt h3 h4).mpr z.2.2.2)) H locs hS hP)
  have k5 : a < d := (i3_lt h3 h4).mp k5
  refine lv_aload_n hx hbc dX10_meanLoss_40 rfl (lv_at hl 0 rfl) ?_
  refine lv_iload_n hx hbc dX10_meanLoss_41 rfl (lv_at hl 1 rfl) ?_
  refine lv_iload_n hx hbc dX10_meanLoss_42 rfl (lv_at hl 2 rfl) ?_
  refine g_callV (as := [.inl σ, .inl u]) (b := m0) (rest := []) G hS hP dX10_meanLoss_43 c_RX10_148 (by decide) (by decide) hm hl.1 rfl (by decide) (ct_layT hW hm hwe hw hRC k1.1 k1.2) (fun r M1 H locs hq hS hP => ?_)
  obtain ⟨rfl, g0, g1, g2, g3, g4⟩ := hq
  show W p l e (mR m_X10_meanLoss) (s.setDrawn s.drawn) m _ below meth c H locs 0 0 _ (F0 m 46 ls [])
  obtain ⟨R, T, N, ty, f1, f2, f3, f4, f5, f6, f7, f8, f9, f10⟩ := f_RX10_39
  obtain ⟨q, hq⟩ := fx_pl_get (M := M1) hO (show kd E m0 ≤ 16 by omega)
  rw [cel_o hm (by decide)] at hq
  have hka := wk_10_13 hW hm
  obtain ⟨q2, hq2⟩ := fx_pl_get (M := M1) hO (show kd E (rf E m0 13) ≤ 16 by omega)
  rw [cel_i hka (by omega) (by omega), wl_10_13 hW hm] at hq2
  have get : ∀ (pc : Nat) (rest : List Value), decode cX10_meanLoss pc = .ok (.getfield 39, 3) → W p l e (mR m_X10_meanLoss) (s.setDrawn s.drawn) m ([.ref m0, .int (i3 σ), .int (i3 u), .int (i3 a), .int (i3 d)] : List Value).toArray below meth c H locs 0 0 (MQD lw_cs below (va_Qf (fun r M' => mlA (trA w σ u) (mlOk σ u a d) a d r ∧ RP E M M' m0) (fun M' t => fx_W E M' t) (eA E)) ([.ref m0, .int (i3 σ), .int (i3 u), .int (i3 a), .int (i3 d)] : List Value).toArray s 0 0 (eA E)) (F0 m (pc + 3) ls (.ref (rf E m0 13) :: rest)) → W p l e (mR m_X10_meanLoss) (s.setDrawn s.drawn) m ([.ref m0, .int (i3 σ), .int (i3 u), .int (i3 a), .int (i3 d)] : List Value).toArray below meth c H locs 0 0 (MQD lw_cs below (va_Qf (fun r M' => mlA (trA w σ u) (mlOk σ u a d) a d r ∧ RP E M M' m0) (fun M' t => fx_W E M' t) (eA E)) ([.ref m0, .int (i3 σ), .int (i3 u), .int (i3 a), .int (i3 d)] : List Value).toArray s 0 0 (eA E)) (F0 m pc ls (.ref m0 :: rest)) := fun pc rest hd kk =>
    va_get (ref := R) hx hbc (dr_words hts s.drawn) f2 hown hK hP q hq f1 13 f3 (dr_words hts s.drawn _ f5) (fun x h => by rw [f6] at h; exact h) (flds_r f4) hd kk
  have ld : ∀ (pc : Nat) (x : Int) (rest : List Value), (0 ≤ x ∧ x ≤ 400) → decode cX10_meanLoss pc = .ok (.iaload, 1) → W p l e (mR m_X10_meanLoss) (s.setDrawn s.drawn) m ([.ref m0, .int (i3 σ), .int (i3 u), .int (i3 a), .int (i3 d)] : List Value).toArray below meth c H locs 0 0 (MQD lw_cs below (va_Qf (fun r M' => mlA (trA w σ u) (mlOk σ u a d) a d r ∧ RP E M M' m0) (fun M' t => fx_W E M' t) (eA E)) ([.ref m0, .int (i3 σ), .int (i3 u), .int (i3 a), .int (i3 d)] : List Value).toArray s 0 0 (eA E)) (F0 m (pc + 1) ls (.int (i3 (trA w σ u x)) :: rest)) → W p l e (mR m_X10_meanLoss) (s.setDrawn s.drawn) m ([.ref m0, .int (i3 σ), .int (i3 u), .int (i3 a), .int (i3 d)] : List Value).toArray below meth c H locs 0 0 (MQD lw_cs below (va_Qf (fun r M' => mlA (trA w σ u) (mlOk σ u a d) a d r ∧ RP E M M' m0) (fun M' t => fx_W E M' t) (eA E)) ([.ref m0, .int (i3 σ), .int (i3 u), .int (i3 a), .int (i3 d)] : List Value).toArray s 0 0 (eA E)) (F0 m pc ls (.int (i3 x) :: .ref (rf E m0 13) :: rest)) := fun pc x rest hx1 hd kk => by
    refine va_iald hx hbc hK hP q2 0 hq2 rfl (i3_in hx1.1 (by omega) (by decide)) hd ?_
    show W p l e (mR m_X10_meanLoss) (s.setDrawn s.drawn) m _ below meth c H locs 0 0 _ (F0 m (pc + 1) ls (.int (i3 (M1 (rf E m0 13) (i3 x).toNatClampNeg)) :: rest))
    rw [i3_clamp hx1.1 (by omega), g4 x.toNat (by omega)]
    rw [trA, if_pos (by omega)] at kk
    exact kk
  refine lv_aload_n hx hbc dX10_meanLoss_46 rfl (lv_at hl 0 rfl) ?_
  refine get 47 _ dX10_meanLoss_47 ?_
  refine lv_iload_n hx hbc dX10_meanLoss_50 rfl (lv_at hl 3 rfl) ?_
  refine ld 51 a _ k3 dX10_meanLoss_51 ?_
  refine lv_aload_n hx hbc dX10_meanLoss_52 rfl (lv_at hl 0 rfl) ?_
  refine get 53 _ dX10_meanLoss_53 ?_
  refine lv_iload hx hbc dX10_meanLoss_56 (lv_at hl 4 rfl) ?_
  refine ld 58 d _ k4 dX10_meanLoss_58 ?_
  refine lv_isub hx hbc dX10_meanLoss_59 ?_
  rw [← i3_sub]
  refine lv_i2f hx hbc dX10_meanLoss_60 ?_
  refine lv_iload hx hbc dX10_meanLoss_61 (lv_at hl 4 rfl) ?_
  refine lv_iload_n hx hbc dX10_meanLoss_63 rfl (lv_at hl 3 rfl) ?_
  refine lv_isub hx hbc dX10_meanLoss_64 ?_
  rw [← i3_sub]
  refine lv_i2f hx hbc dX10_meanLoss_65 ?_
  refine lv_fdiv_any hd0 lw_bits hx hbc dX10_meanLoss_66 (fun r d1 hal hd1 => ?_)
  exact fin d1 M1 H locs ls r _ hd1 dX10_meanLoss_67 (Or.inl ⟨⟨k1, k3, k4, k5⟩, hal⟩) g1 hS hP
end
