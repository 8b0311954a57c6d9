/-! printed by wip/whole/lawend.py: the law's meanLoss, and its loop -/
section
variable {E : fxE} {M : fxM} {p : Program} {l : Launch} {e : Env} {R : Room} {s : State} {m : MethodId} {args : Array Value} {below : List Frame} {meth : Method} {c : Code} {H : Heap} {locs : List Loc} {K SL : Nat} {Z : State → Prop} {cc : ByteArray} {nL pc : Nat} {ls : Array Slot} {own : String} {rest : List Value} {d0 : Drawn}
theorem g_callF {z : fxY} {i b C : Nat} {as : List fxV} {st0 : List Value} {P : UInt32 → fxM → Prop} (G : gC E p s m args c cc nL own) (hd0 : s.drawn.sameBut d0 lw_cs) (hS : va_S (eA E) s.heap H locs) (hP : fx_P E M H) (hd : decode cc pc = .ok (.invokevirtual i, 3)) (hc : CalV own i z as.length C) (hf : mF z + 1 ≤ R.frames ∧ 8 + (mL z + 11) + mO z ≤ R.locals) (hcs : K ≤ R.cells ∧ SL ≤ R.slots) (hb : kd E b = C) (hls : ls.size = nL) (hstk : (as.map em).reverse ++ .ref b :: rest = st0) (hrest : (rest.map fun v => v.category).sum ≤ 8) (hct : fMet E M z (.inr b :: as) P)
    (kk : ∀ (r : UInt32) (M' : fxM) (H1 : Heap) (locs1 : List Loc) (d1 : Drawn), P r M' → s.drawn.sameBut d1 lw_cs → va_S (eA E) s.heap H1 locs1 → fx_P E M' H1 → W p l e R (s.setDrawn d1) m args below meth c H1 locs1 K SL Z (F0 m (pc + 3) ls (.float r :: rest))) : W p l e R (s.setDrawn d0) m args below meth c H locs K SL Z (F0 m pc ls st0) := by
  obtain ⟨hx, hbc, hml, hown, hts, hK, hst, hns, hO⟩ := id G
  obtain ⟨c1, c2, c3, c4, c5, c6, c7, T, N, c8⟩ := hc
  subst hstk
  obtain ⟨q, hq⟩ := fx_pl_get (M := M) hO (show kd E b ≤ 16 by omega)
  rw [cel_o hb c7] at hq
  have ht := dr_words hts d0
  refine va_callfD (H0 := s.heap) (A0 := eA E) hd0 (va_runV_D (As := as.map em) (rest := rest) (b := b) (n := as.length) ⟨hx, hbc, hml, hown, ht⟩ (hct hO l) ⟨callB_of as.length ht (g_good c5) rfl rfl rfl (ht _ c4) (ht _ c1) c6 hf, ht _ c2, ht _ c3⟩ ⟨fx_blind, va_recv hK hP c8 hq, fun U hU hW => ⟨rfl, fx_WM (s := s.setDrawn d0) hK hst hns hS hP hU hW⟩⟩ rfl (by simp) hls rfl (lv_room hrest) hd ⟨hcs.1, hcs.2⟩) hS (fun q _ h => h) (fun q h => h) (fun r u t H1 locs1 ht1 hvm hw hB hz1 hk1 hS1 d1 hd1 => ?_)
  have hB1 := hB.1
  rw [ht1] at hB1
  exact kk r u H1 locs1 d1 hw hd1 hS1 hB1
end
section
variable {E : fxE} {M : fxM} {p : Program} {l : Launch} {e : Env} {s : State} {m : MethodId} {below : List Frame} {meth : Method} {c : Code} {b0 b mm L i : Nat} {xs : Nat → Int32}
theorem lc_14 {k : Nat} (X : lX E p s m meth c b0 L xs) (hb : kd E b = 9) (hmm : kd E mm = 10) (hi : i + 5 ≤ L) (hk : k < 1000000) (hI : INV E M b mm k) (kk : ∀ M', INV E M' b mm (k + 1) → lG E p l e s m below meth c b0 b mm [] 1293 i [] M') : lG E p l e s m below meth c b0 b mm [] 650 i [] M := by
  have hx := X.1.1
  have hbc := X.1.2.1
  have hW := X.2.2.2.2.2.1
  obtain ⟨w, Hh, n, v, x, cs, hC, hR, hPu, hF⟩ := id hI
  have hv : v < 1000000 := by have := hPu.2.2.2; omega
  refine l_a1 X dL_law_650 (l_arg X 1 (by omega) dL_law_651 dL_law_652 dL_law_653 dL_law_654 dL_law_655 (l_arg X 2 (by omega) dL_law_656 dL_law_657 dL_law_658 dL_law_659 dL_law_660 (l_arg X 3 (by omega) dL_law_661 dL_law_662 dL_law_663 dL_law_664 dL_law_665 (l_arg X 4 (by omega) dL_law_666 dL_law_667 dL_law_668 dL_law_669 dL_law_670 ?_))))
  intro d0 H locs ls hd0 hS hl hP
  refine g_callF (as := [.inl (xs (i + 1)).toInt, .inl (xs (i + 2)).toInt, .inl (xs (i + 3)).toInt, .inl (xs (i + 4)).toInt]) (b := b) (rest := []) X.g hd0 hS hP dL_law_671 cL_73 (by decide) ⟨Nat.le_of_ble_eq_true rfl, Nat.le_of_ble_eq_true rfl⟩ hb hl.1 rfl (by decide) (cl_meanLoss hW hb hC.1 hPu.1 hC.2.1 hC.2.2.1 hv (inR_x _) (inR_x _) (inR_x _) (inR_x _)) (fun r1 M1 H locs d1 hq hd1 hS hP => ?_)
  obtain ⟨a1, hp1⟩ := hq
  refine lv_f2d_any hd1 lw_bits hx hbc dL_law_674 (fun p1 d2 al1 hd2 => ?_)
  refine lv_dstore (lv' := [(4, .double p1), (0, .ref b0), (1, .ref b), (2, .ref mm), (3, .int (i3 (i : Int)))]) hx hbc dL_law_675 hl (by decide) rfl (fun ls hl => ?_)
  have hq1 := hp1.cq hW hb hC.2.2.2.1
  obtain ⟨hR1, -⟩ := hR.kf hW hmm hq1.1 (by decide)
  suffices h2 : lG E p l e s m below meth c b0 b mm [(4, .double p1)] 677 i [] M1 from h2 d2 H locs ls hd2 hS (lv_sub hl [1, 2, 3, 4, 0] rfl) hP
  refine l_a2 X dL_law_677 (l_arg X 1 (by omega) dL_law_678 dL_law_679 dL_law_680 dL_law_681 dL_law_682 (l_arg X 2 (by omega) dL_law_683 dL_law_684 dL_law_685 dL_law_686 dL_law_687 (l_arg X 3 (by omega) dL_law_688 dL_law_689 dL_law_690 dL_law_691 dL_law_692 (l_arg X 4 (by omega) dL_law_693 dL_law_694 dL_law_695 dL_law_696 dL_law_697 ?_))))
  intro d0 H locs ls hd0 hS hl hP
  refine g_callF (as := [.inl (xs (i + 1)).toInt, .inl (xs (i + 2)).toInt, .inl (xs (i + 3)).toInt, .inl (xs (i + 4)).toInt]) (b := mm) (rest := []) X.g hd0 hS hP dL_law_698 cL_77 (by decide) ⟨Nat.le_of_ble_eq_true rfl, Nat.le_of_ble_eq_true rfl⟩ hmm hl.1 rfl (by decide) (re_meanLoss hW hmm hR1.1 hPu.1 hR1.2.2.2.2.1 (inR_x _) (inR_x _) (inR_x _) (inR_x _)) (fun r2 M2 H locs d1 hq hd1 hS hP => ?_)
  obtain ⟨a2, hp2⟩ := hq
  have hI2 := INV.quest hW hb hmm hC hR hPu hF hq1 hp2
  refine lv_f2d_any hd1 lw_bits hx hbc dL_law_701 (fun p2 d2 al2 hd2 => ?_)
  refine lv_dstore (lv' := [(6, .double p2), (0, .ref b0), (1, .ref b), (2, .ref mm), (3, .int (i3 (i : Int))), (4, .double p1)]) hx hbc dL_law_702 hl (by decide) rfl (fun ls hl => ?_)
  have fin : W p l e room_1 (s.setDrawn d2) m #[Value.ref b0] below meth c H locs 190 14968 (lw_Z below #[Value.ref b0] s) (F0 m 730 ls []) := lv_goto (tgt := 1293) hx hbc dL_law_730 (by decide) (kk M2 hI2 d2 H locs ls hd2 hS (lv_sub hl [1, 2, 3, 4] rfl) hP)
  have h12 := al_two (mlA.two a1 a2) al1 al2
  refine lv_dload hx hbc dL_law_704 (lv_at hl 5 rfl) ?_
  refine lv_dload hx hbc dL_law_706 (lv_at hl 0 rfl) ?_
  refine lv_dcmp hx hbc dL_law_708 ?_
  refine lv_if_eq (tgt := 730) hx hbc dL_law_709 (by decide) (fun _ => fin) (fun h0 => ?_)
  have n1 : ¬ Op.cmpValue (FP.dcmp p1 p1) CmpOp.l = 0 := by
    rcases h12 with h | ⟨h, -⟩
    · rw [← h] at h0; exact h0
    · exact nan_cmp h
  have n2 : ¬ Op.cmpValue (FP.dcmp p2 p2) CmpOp.l = 0 := by
    rcases h12 with h | ⟨-, h⟩
    · rw [h] at h0; exact h0
    · exact nan_cmp h
  refine lv_dload hx hbc dL_law_712 (lv_at hl 5 rfl) ?_
  refine lv_dload hx hbc dL_law_714 (lv_at hl 5 rfl) ?_
  refine lv_dcmp hx hbc dL_law_716 ?_
  refine lv_if_eq (tgt := 728) hx hbc dL_law_717 (by decide) (fun h => absurd h n1) (fun _ => ?_)
  refine lv_dload hx hbc dL_law_720 (lv_at hl 0 rfl) ?_
  refine lv_dload hx hbc dL_law_722 (lv_at hl 0 rfl) ?_
  refine lv_dcmp hx hbc dL_law_724 ?_
  exact lv_if_ne (tgt := 730) hx hbc dL_law_725 (by decide) (fun _ => fin) (fun h => absurd h n2)
theorem l_sw {k : Nat} (X : lX E p s m meth c b0 L xs) (hb : kd E b = 9) (hmm : kd E mm = 10) (hi : i + 5 ≤ L) (hk : k < 1000000) (hI : INV E M b mm k) (kk : ∀ M', INV E M' b mm (k + 1) → lG E p l e s m below meth c b0 b mm [] 1293 i [] M') (j : Nat) (hj : j ≤ 34) : ∃ (off : Int) (tgt : Nat), (#[156, 199, 242, 285, 318, 341, 374, 407, 420, 443, 476, 509, 542, 575, 618, 701, 734, 767, 790, 823, 876, 909, 942, 965, 1008, 1041, 1054, 1077, 1110, 1133, 1156, 1189, 1212, 1225, 1238] : Array Int)[j]? = some off ∧ ((32 : Nat) : Int) + off = (tgt : Int) ∧ lG E p l e s m below meth c b0 b mm [] tgt i [] M := by
  rcases (show j = 0 ∨ j = 1 ∨ j = 2 ∨ j = 3 ∨ j = 4 ∨ j = 5 ∨ j = 6 ∨ j = 7 ∨ j = 8 ∨ j = 9 ∨ j = 10 ∨ j = 11 ∨ j = 12 ∨ j = 13 ∨ j = 14 ∨ j = 15 ∨ j = 16 ∨ j = 17 ∨ j = 18 ∨ j = 19 ∨ j = 20 ∨ j = 21 ∨ j = 22 ∨ j = 23 ∨ j = 24 ∨ j = 25 ∨ j = 26 ∨ j = 27 ∨ j = 28 ∨ j = 29 ∨ j = 30 ∨ j = 31 ∨ j = 32 ∨ j = 33 ∨ j = 34 by omega) with rfl | rfl | rfl | rfl | rfl | rfl | rfl | rfl | rfl | rfl | rfl | rfl | rfl | rfl | rfl | rfl | rfl | rfl | rfl | rfl | rfl | rfl | rfl | rfl | rfl | rfl | rfl | rfl | rfl | rfl | rfl | rfl | rfl | rfl | rfl
  · exact ⟨156, 188, rfl, rfl, lc_0 X hb hmm hi hk hI kk⟩
  · exact ⟨199, 231, rfl, rfl, lc_1 X hb hmm hi hk hI kk⟩
  · exact ⟨242, 274, rfl, rfl, lc_2 X hb hmm hi hk hI kk⟩
  · exact ⟨285, 317, rfl, rfl, lc_3 X hb hmm hi hk hI kk⟩
  · exact ⟨318, 350, rfl, rfl, lc_4 X hb hmm hi hk hI kk⟩
  · exact ⟨341, 373, rfl, rfl, lc_5 X hb hmm hi hk hI kk⟩
  · exact ⟨374, 406, rfl, rfl, lc_6 X hb hmm hi hk hI kk⟩
  · exact ⟨407, 439, rfl, rfl, lc_7 X hb hmm hi hk hI kk⟩
  · exact ⟨420, 452, rfl, rfl, lc_8 X hb hmm hi hk hI kk⟩
  · exact ⟨443, 475, rfl, rfl, lc_9 X hb hmm hi hk hI kk⟩
  · exact ⟨476, 508, rfl, rfl, lc_10 X hb hmm hi hk hI kk⟩
  · exact ⟨509, 541, rfl, rfl, lc_11 X hb hmm hi hk hI kk⟩
  · exact ⟨542, 574, rfl, rfl, lc_12 X hb hmm hi hk hI kk⟩
  · exact ⟨575, 607, rfl, rfl, lc_13 X hb hmm hi hk hI kk⟩
  · exact ⟨618, 650, rfl, rfl, lc_14 X hb hmm hi hk hI kk⟩
  · exact ⟨701, 733, rfl, rfl, lc_15 X hb hmm hi hk hI kk⟩
  · exact ⟨734, 766, rfl, rfl, lc_16 X hb hmm hi hk hI kk⟩
  · exact ⟨767, 799, rfl, rfl, lc_17 X hb hmm hi hk hI kk⟩
  · exact ⟨790, 822, rfl, rfl, lc_18 X hb hmm hi hk hI kk⟩
  · exact ⟨823, 855, rfl, rfl, lc_19 X hb hmm hi hk hI kk⟩
  · exact ⟨876, 908, rfl, rfl, lc_20 X hb hmm hi hk hI kk⟩
  · exact ⟨909, 941, rfl, rfl, lc_21 X hb hmm hi hk hI kk⟩
  · exact ⟨942, 974, rfl, rfl, lc_22 X hb hmm hi hk hI kk⟩
  · exact ⟨965, 997, rfl, rfl, lc_23 X hb hmm hi hk hI kk⟩
  · exact ⟨1008, 1040, rfl, rfl, lc_24 X hb hmm hi hk hI kk⟩
  · exact ⟨1041, 1073, rfl, rfl, lc_25 X hb hmm hi hk hI kk⟩
  · exact ⟨1054, 1086, rfl, rfl, lc_26 X hb hmm hi hk hI kk⟩
  · exact ⟨1077, 1109, rfl, rfl, lc_27 X hb hmm hi hk hI kk⟩
  · exact ⟨1110, 1142, rfl, rfl, lc_28 X hb hmm hi hk hI kk⟩
  · exact ⟨1133, 1165, rfl, rfl, lc_29 X hb hmm hi hk hI kk⟩
  · exact ⟨1156, 1188, rfl, rfl, lc_30 X hb hmm hi hk hI kk⟩
  · exact ⟨1189, 1221, rfl, rfl, lc_31 X hb hmm hi hk hI kk⟩
  · exact ⟨1212, 1244, rfl, rfl, lc_32 X hb hmm hi hk hI kk⟩
  · exact ⟨1225, 1257, rfl, rfl, lc_33 X hb hmm hi hk hI kk⟩
  · exact ⟨1238, 1270, rfl, rfl, lc_34 X hb hmm hi hk hI kk⟩
theorem l_step {k : Nat} (X : lX E p s m meth c b0 L xs) (hb : kd E b = 9) (hmm : kd E mm = 10) (hiL : i ≤ L) (hki : k ≤ i) (hI : INV E M b mm k) (ih : i + 5 ≤ L → ∀ M', INV E M' b mm (k + 1) → lG E p l e s m below meth c b0 b mm [] 18 (i + 5) [] M') : lG E p l e s m below meth c b0 b mm [] 18 i [] M := by
  intro d0 H locs ls hd0 hS hl hP
  have hL := X.2.2.2.2.2.2.2
  have hA := X.2.2.2.2.2.2.1
  obtain ⟨hx, hbc, hr, hml, hown, hts, hX, hbl, hlk, -⟩ := X.1
  refine lv_iload_n hx hbc dL_law_18 rfl (lv_at hl 3 rfl) ?_
  refine lv_aload_n hx hbc dL_law_19 rfl (lv_at hl 0 rfl) ?_
  refine va_slen (s := s.setDrawn d0) (A := eA E) hx hbc hX hbl (fun z => by have := (hA b0).mp z; omega) hS dL_law_20 ?_
  refine lv_iconst (v := i3 5) hx hbc dL_law_21 rfl ?_
  refine lv_isub hx hbc dL_law_22 ?_
  have eL : Int32.ofNat L - i3 5 = i3 ((L : Int) - 5) := by rw [i3_sub, i3_nat]; rfl
  rw [eL]
  refine lv_icmp_gt (tgt := 1299) hx hbc dL_law_23 (by decide) (fun h => ?_) (fun h => ?_)
  · refine lv_iconst (v := 1) hx hbc dL_law_1299 (by decide) ?_
    refine va_forget (s := s.setDrawn d0) (fun q hq => (hA _).mp (hS.2.2 q hq)) ?_
    refine W.widen (k := 600000) (n := 7302249) (Nat.le_of_ble_eq_true rfl) (Nat.le_of_ble_eq_true rfl) ?_
    exact lw_ret hd0 hx hbc hr hlk dL_law_1300
  have hi : i + 5 ≤ L := by
    have h3 : ¬ (L : Int) - 5 < (i : Int) := fun z => h ((i3_lt ⟨by omega, by omega⟩ ⟨by omega, by omega⟩).mpr z)
    omega
  have KK : ∀ M', INV E M' b mm (k + 1) → lG E p l e s m below meth c b0 b mm [] 1293 i [] M' := by
    intro M' hI' d0 H locs ls hd0 hS hl hP
    refine lv_iinc (k := 3) (v := i3 ((i + 5 : Nat) : Int)) (lv' := [(3, .int (i3 ((i + 5 : Nat) : Int))), (0, .ref b0), (1, .ref b), (2, .ref mm)]) hx hbc dL_law_1293 hl rfl (by rw [show ((i + 5 : Nat) : Int) = (i : Int) + 5 by omega, i3_add]; rfl) (by decide) rfl (fun ls hl => ?_)
    exact lv_goto (tgt := 18) hx hbc dL_law_1296 (by decide) (ih hi M' hI' d0 H locs ls hd0 hS (lv_sub hl [1, 2, 3, 0] rfl) hP)
  refine lv_aload_n hx hbc dL_law_26 rfl (lv_at hl 0 rfl) ?_
  refine lv_iload_n hx hbc dL_law_27 rfl (lv_at hl 3 rfl) ?_
  refine va_sld (s := s.setDrawn d0) (A := eA E) hx hbc hX hbl (fun z => by have := (hA b0).mp z; omega) hS (i3_in (x := (i : Int)) (by omega) (by omega) (by omega)) dL_law_28 ?_
  refine lv_bipush (v := 63) hx hbc dL_law_29 (by decide) ?_
  refine lv_iand hx hbc dL_law_31 ?_
  generalize xs (i3 (i : Int)).toNatClampNeg &&& 63 = y
  by_cases hy : y.toInt < 0 ∨ 34 < y.toInt
  · exact lv_tableOut (tgt := 1293) hx hbc dL_law_32 hy (by decide) (KK M hI.up d0 H locs ls hd0 hS hl hP)
  · obtain ⟨off, tgt, e1, e2, g⟩ := l_sw X hb hmm hi (by omega) hI KK y.toInt.toNat (by omega)
    exact lv_tableIn hx hbc dL_law_32 (fun z => hy (Or.inl z)) (fun z => hy (Or.inr z)) (by rw [Int.sub_zero]; exact e1) e2 (g d0 H locs ls hd0 hS hl hP)
theorem l_loop (X : lX E p s m meth c b0 L xs) (hb : kd E b = 9) (hmm : kd E mm = 10) : ∀ (n i k : Nat) (M : fxM), L < i + n → i ≤ L → k ≤ i → INV E M b mm k → lG E p l e s m below meth c b0 b mm [] 18 i [] M
  | 0, i, k, M, hn, hi, _, _ => absurd hn (by omega)
  | n + 1, i, k, M, hn, hi, hk, hI => l_step X hb hmm hi hk hI (fun h M' hI' => l_loop X hb hmm n (i + 5) (k + 1) M' (by omega) h (by omega) hI')
end
