/-! printed by wip/whole/lawstart.py: the two makings, and the law from its entry -/
theorem Has.two {E : fxE} {f1 f2 : Nat → va_E} {z d : Nat} {tb TB : List kent} (h1 : Has E f1 z tb) (hd : tb.length = d) (h2 : Has E f2 (z + d) TB) (h3 : ∀ q, q < z + d → f2 q = f1 q) : Has E f2 z (tb ++ TB.map (ksh d)) := by
  subst hd
  intro j t hj
  by_cases hl : j < tb.length
  · rw [List.getElem?_append_left hl] at hj
    rw [h3 _ (by omega)]
    exact h1 j t hj
  · rw [List.getElem?_append_right (by omega), List.getElem?_map] at hj
    cases hT : TB[j - tb.length]? with
    | none => rw [hT] at hj; cases hj
    | some v =>
      rw [hT] at hj
      cases hj
      have := h2 _ v hT
      rw [show z + tb.length + (j - tb.length) = z + j by omega] at this
      rw [this, kcell_sh]
section
variable {E : fxE} {p : Program} {l : Launch} {e : Env} {s : State} {m : MethodId} {below : List Frame} {meth : Method} {c : Code} {b0 L : Nat} {xs : Nat → Int32} {H : Heap} {locs : List Loc} {ls : Array Slot} {pc : Nat} {d0 : Drawn} {Z : State → Prop}
/-- 'new', 'dup' and the constructor's call, out of the law -/
theorem l_make {z : fxY} {iN iI C N mc ms n sl : Nat} {f : Nat → va_E} {TB : List kent} (C0 : lw_At p s m meth c b0 L xs) (hK : va_K (eD E) vwCl (fx_ty E) s) (hst : fx_st E s s.heap) (hns : fx_ns s) (hkn : kns s) (hA : kA E s.heap.size) (dN : decode code pc = .ok (.new iN, 3)) (dD : decode code (pc + 3) = .ok (.dup, 1)) (dI : decode code (pc + 4) = .ok (.invokespecial iI, 3)) (hN : Nw R_law iN C N) (hc : CalJ R_law iI z) (hf1 : mF z + 1 ≤ 11 ∧ 8 + (mL z + 11) + mO z ≤ 430) (hct : ∀ (n : Nat) (f : Nat → va_E), f (s.heap.size + n) = kcell E (s.heap.size + n) (C, 0, blk C) → kc_Ct E s.heap.size z mc ms n f (kpost E (s.heap.size + n) f TB)) (hS : va_S (eA E) s.heap H locs) (hls : ls.size = 8) (hP : kP E s.heap.size n f H) (hcells : n + 1 + mc ≤ 600000 ∧ sl + N + ms ≤ 7302249)
    (kk : ∀ (f1 : Nat → va_E) (H1 : Heap) (locs1 : List Loc), Has E f1 (s.heap.size + n) TB → (∀ q, q < s.heap.size + n → f1 q = f q) → va_S (eA E) s.heap H1 locs1 → kP E s.heap.size (n + 1 + mc) f1 H1 → W p l e room_1 (s.setDrawn d0) m #[Value.ref b0] below meth c H1 locs1 (n + 1 + mc) (sl + N + ms) Z (F0 m (pc + 7) ls [.ref (s.heap.size + n)])) : W p l e room_1 (s.setDrawn d0) m #[Value.ref b0] below meth c H locs n sl Z (F0 m pc ls []) := by
  obtain ⟨hx, hb, hr, hml, hown, hts, hX, hbl, hlk, -⟩ := id C0
  have ht : ∀ w ∈ lw_good, w.before #[Value.ref b0] (s.setDrawn d0) = true := dr_words (fun w hw => hts w (List.mem_filter.mp hw).1) d0
  obtain ⟨R, T, ty, n1, n2, n3, n4, n5, n6, n7, n8⟩ := hN
  obtain ⟨c1, c2, c2', c3, c4, c5, c6⟩ := hc
  have hcl : n + 1 ≤ 600000 := by omega
  have hsl : sl + N ≤ 7302249 := by omega
  refine va_new (ci := C) (fs := (blk C).map (kv (s.heap.size + n))) (C := R) (T := T) (N := N) hx hb ht n2 ty n6 hown (ht _ n3) (ht _ n4) (ht _ n5) hK hP.2 (k_D hA) hS (fun q hq => (hA q).mpr hq) n1 (fun j hj => by rw [blk_z]; exact n7 j hj) hcl hsl dN (fun q H1 hP1 hD1 hS1 => ?_)
  refine W_sz (fun hz => ?_)
  have hz' : H1.size ≤ s.heap.size + n + 1 := hz
  have e4 : kcell E (s.heap.size + n) (C, 0, blk C) = .inr (C, (blk C).map (kv (s.heap.size + n))) := kc_o n8
  rw [← e4] at hP1 hD1
  obtain ⟨rfl, hP2⟩ := k_push hA hD1 hP1 hz'
  refine lv_dup hx hb dD rfl ?_
  have hM := hct n (va_up f (s.heap.size + n) (kcell E (s.heap.size + n) (C, 0, blk C))) (va_up_self _ _ _) hA l
  have hpre : PreS (s.setDrawn d0) H1 (va_Pc [.ref (s.heap.size + n)] (kW E s.heap.size (n + 1) (va_up f (s.heap.size + n) (kcell E (s.heap.size + n) (C, 0, blk C))))) [.ref (s.heap.size + n)] := ⟨kW_blind, fun U hU hW => ⟨rfl, kW_of (s := s.setDrawn d0) hK hst hns hkn hS1 hP2 hU hW⟩⟩
  refine va_callv (A0 := eA E) (H0 := s.heap) (va_runI (As := []) (rest := [.ref (s.heap.size + n)]) (n := 0) (maxL := mL z) (bytes := mC z) ⟨hx, hb, hml, hown, ht⟩ hM ⟨callB_of 0 ht (g_good c5) (by show mW z = _; rw [← c2']; rfl) rfl rfl (ht _ c4) (ht _ c1) c6 hf1, c2, ht _ c3⟩ hpre rfl rfl hls rfl (lv_room (Nat.le_of_ble_eq_true rfl)) dI ⟨hcells.1, hcells.2⟩) hS1 (fun q _ h => h) (fun q h => h) (fun f1 t H2 locs1 htt hvm hp hB _ _ hS2 => ?_)
  obtain ⟨g1, g2⟩ := hp
  have hB1 := hB.1
  rw [htt] at hB1
  exact kk f1 H2 locs1 g1 (fun q hq => by rw [g2 q hq, va_up_ne _ _ (by omega)]) hS2 hB1
theorem tb9_len : TB9.length = 177 := by decide +kernel
theorem st_EF {B : Nat} (hA : kA E B) (h : fx_st E s s.heap) : fx_st (EF E B) s s.heap := by
  have hAA : ∀ q, eA (EF E B) q → eA E q := fun q hq => (hA q).mpr hq
  exact ⟨⟨h.1.1.narrow hAA, h.1.2.narrow hAA⟩, ⟨h.2.1.1.narrow hAA, h.2.1.2.narrow hAA⟩, h.2.2.1.narrow hAA, h.2.2.2.narrow hAA⟩
end
set_option maxHeartbeats 1000000 in
theorem whole_start {p : Program} {e : Env} {s : State} {m : MethodId} {below : List Frame} {meth : Method} {c : Code} (l : Launch) (hflags : l.flags = flags0) {b L : Nat} {xs : Nat → Int32} (hL : L ≤ 2560) (C0 : lw_At p s m meth c b L xs) : W p l e room_1 s m #[Value.ref b] below meth c s.heap [] 0 0 (lw_Z below #[Value.ref b] s) (entryFrame m ([Value.ref b] : List Value).toArray 8) := by
  obtain ⟨hx, hb, hr, hml, hown, hts, hX, hbl, hlk, hgv⟩ := id C0
  obtain ⟨E, hK, hst, hns, hkn, hA⟩ := st_E hts hgv
  have hd0 := Drawn.sameBut.refl s.drawn lw_cs
  refine W.base ?_
  have hl := lv_entry ([.ref b]) (n := 8) (Nat.le_of_ble_eq_true rfl)
  rw [lg_entry_eq]
  generalize (lg_sl ([.ref b]) ++ List.replicate (8 - (lg_sl ([.ref b])).length) Slot.unset).toArray = ls at hl ⊢
  have hl : lv_has ls 8 [(0, .ref b)] := hl
  have hP0 : kP E s.heap.size 0 (fun _ => .inr (0, [])) s.heap := ⟨rfl, fun k q h => by simp [va_pl] at h⟩
  refine l_make (pc := 0) (n := 0) (sl := 0) (N := 9) (mc := 176) (ms := 8993) (C := 9) (TB := TB9) C0 hK hst hns hkn hA dL_law_0 dL_law_3 dL_law_4 kn_law_7 kj_law_9 (by decide) (fun n f h => ki_X9 n f h) va_S.rf hl.1 hP0 ⟨Nat.le_of_ble_eq_true rfl, Nat.le_of_ble_eq_true rfl⟩ (fun f1 H locs hH1 _ hS hP => ?_)
  refine lv_astore_n (lv' := [(1, .ref (s.heap.size + 0)), (0, .ref b)]) hx hb dL_law_7 rfl hl (by decide) rfl (fun ls hl => ?_)
  refine l_make (pc := 8) (n := 177) (sl := 9002) (N := 25) (mc := 12) (ms := 5941) (C := 10) (TB := TB10) C0 hK hst hns hkn hA dL_law_8 dL_law_11 dL_law_12 kn_law_10 kj_law_12 (by decide) (fun n f h => ki_X10 n f h) hS hl.1 hP ⟨Nat.le_of_ble_eq_true rfl, Nat.le_of_ble_eq_true rfl⟩ (fun f2 H locs hH2 hf2 hS hP => ?_)
  refine lv_astore_n (lv' := [(2, .ref (s.heap.size + 177)), (1, .ref (s.heap.size + 0)), (0, .ref b)]) hx hb dL_law_15 rfl hl (by decide) rfl (fun ls hl => ?_)
  refine lv_iconst (v := i3 ((0 : Nat) : Int)) hx hb dL_law_16 rfl ?_
  refine lv_istore_n (lv' := [(3, .int (i3 ((0 : Nat) : Int))), (2, .ref (s.heap.size + 177)), (1, .ref (s.heap.size + 0)), (0, .ref b)]) hx hb dL_law_17 rfl hl (by decide) rfl (fun ls hl => ?_)
  have hHF : Has E f2 s.heap.size TBF := by
    rw [← tbF_eq]
    exact Has.two hH1 tb9_len hH2 hf2
  have hPF := EF_P hP hHF
  have hSt : StaOk E s.heap.size := fx_sta hst hA
  have X : lX (EF E s.heap.size) p s m meth c b L xs := ⟨C0, hK, st_EF hA hst, hns, EF_ok hSt, EF_wt, fun q => Iff.rfl, hL⟩
  have hAe : eA E = eA (EF E s.heap.size) := funext fun q => propext (hA q)
  rw [hAe] at hS
  exact l_loop X ((EF_kd (by decide)).trans (by decide +kernel)) ((EF_kd (by decide)).trans (by decide +kernel)) (L + 1) 0 0 (MF s.heap.size) (by omega) (Nat.zero_le _) (Nat.le_refl _) INV_F s.drawn H locs ls hd0 hS (lv_sub hl [3, 2, 1, 0] rfl) hPF
