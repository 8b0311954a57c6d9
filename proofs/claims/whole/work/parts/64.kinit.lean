/-! printed by wip/whole/kgen.py: tables and contracts of the constructors -/
section
variable {E : fxE} {B : Nat} {y : fxY} {mc ms n : Nat} {f0 : Nat → va_E} {pc : Nat} {lv : List (Option fxV)} {stk : List fxV} {tb : List kent} {sl : Nat} {Q : (Nat → va_E) → Prop}
theorem t_newiL {N L : Nat} {N' : Int} (hL : tb.length = L) (hN : N' = (N : Int)) (hd : decode (mC y) pc = .ok (.newarray .int, 2)) (hb1 : N < 100000) (hm : L ≤ mc ∧ sl + N ≤ ms) (kk : kt_At E B y mc ms n f0 (pc + 2) lv (.inr (B + n + L) :: stk) (tb ++ [(11, N, [])]) (sl + N) Q) : kt_At E B y mc ms n f0 pc lv (.inl N' :: stk) tb sl Q := by
  subst hL
  exact t_newi hN hd hb1 hm kk
theorem t_newzL {N L : Nat} {N' : Int} (hL : tb.length = L) (hN : N' = (N : Int)) (hd : decode (mC y) pc = .ok (.newarray .boolean, 2)) (hb1 : N < 100000) (hm : L ≤ mc ∧ sl + N ≤ ms) (kk : kt_At E B y mc ms n f0 (pc + 2) lv (.inr (B + n + L) :: stk) (tb ++ [(12, N, [])]) (sl + N) Q) : kt_At E B y mc ms n f0 pc lv (.inl N' :: stk) tb sl Q := by
  subst hL
  exact t_newz hN hd hb1 hm kk
theorem t_newqL {N K t0 i L : Nat} {N' : Int} {R : String} (hL : tb.length = L) (hN : N' = (N : Int)) (hd : decode (mC y) pc = .ok (.anewarray i, 3)) (hq : Cond.classLink (mN y).cls i R ∈ lw_good) (hR : R ∈ [RX5, RX8, RX7, RX1]) (hK0 : 12 < K) (ht : (fx_ty E)[t0]? = some (eY E K, .object R)) (hb1 : N < 100000) (hm : L ≤ mc ∧ sl + N ≤ ms) (kk : kt_At E B y mc ms n f0 (pc + 3) lv (.inr (B + n + L) :: stk) (tb ++ [(K, N, [])]) (sl + N) Q) : kt_At E B y mc ms n f0 pc lv (.inl N' :: stk) tb sl Q := by
  subst hL
  exact t_newq hN hd hq hR hK0 ht hb1 hm kk
theorem t_newL {i C N L : Nat} (hL : tb.length = L) (hd : decode (mC y) pc = .ok (.new i, 3)) (hN : Nw (mN y).cls i C N) (hm : L ≤ mc ∧ sl + N ≤ ms) (kk : kt_At E B y mc ms n f0 (pc + 3) lv (.inr (B + n + L) :: stk) (tb ++ [(C, 0, blk C)]) (sl + N) Q) : kt_At E B y mc ms n f0 pc lv stk tb sl Q := by
  subst hL
  exact t_new hd hN hm kk
theorem t_callIL {z : fxY} {i C mc' ms' L : Nat} {TB : List kent} (hL : tb.length = L) (hd : decode (mC y) pc = .ok (.invokespecial i, 3)) (hc : CalI (mN y).cls i z) (hf1 : mF z + 1 ≤ mF y ∧ 8 + (mL z + 11) + mO z ≤ mO y) (hm : L + mc' ≤ mc ∧ sl + ms' ≤ ms) (hrest : stk.length ≤ 8) (hTB : TB.length = mc' + 1) (hct : ∀ (n : Nat) (f : Nat → va_E), f (B + n) = kcell E (B + n) (C, 0, blk C) → kc_Ct E B z mc' ms' n f (kpost E (B + n) f TB)) (kk : kt_At E B y mc ms n f0 (pc + 3) lv stk (tb ++ TB.map (ksh L)) (sl + ms') Q) : kt_At E B y mc ms n f0 pc lv (.inr (B + n + L) :: stk) (tb ++ [(C, 0, blk C)]) sl Q := by
  subst hL
  exact t_callI hd hc hf1 hm hrest hTB hct kk
theorem t_eq {tb' : List kent} (h : tb = tb') (kk : kt_At E B y mc ms n f0 pc lv stk tb' sl Q) : kt_At E B y mc ms n f0 pc lv stk tb sl Q := h ▸ kk
end
abbrev m_X0_init : fxY := (yX0_init, cX0_init, 1, none, 1, 20)
abbrev m_X1_init : fxY := (yX1_init, cX1_init, 1, none, 1, 20)
abbrev m_X2_init : fxY := (yX2_init, cX2_init, 1, none, 1, 20)
abbrev m_X4_init : fxY := (yX4_init, cX4_init, 1, none, 1, 20)
abbrev m_X6_init : fxY := (yX6_init, cX6_init, 1, none, 1, 20)
abbrev m_X7_init : fxY := (yX7_init, cX7_init, 1, none, 1, 20)
abbrev m_X8_init : fxY := (yX8_init, cX8_init, 1, none, 1, 20)
abbrev m_X5_init : fxY := (yX5_init, cX5_init, 1, none, 2, 40)
abbrev m_X3_init : fxY := (yX3_init, cX3_init, 2, none, 3, 60)
abbrev m_X9_init : fxY := (yX9_init, cX9_init, 2, none, 4, 81)
abbrev m_X10_init : fxY := (yX10_init, cX10_init, 1, none, 2, 47)
theorem ko_RX0_3 : Cond.methodLink RX0 3 Lib.objectInit ∈ lw_good := lw_goodI (tb1 (List.mem_of_getElem? (i := 97) (by decide +kernel))) rfl
theorem kf_RX0_9 : FldF RX0 9 0 0 := ⟨RX0, TX0, 4, tyX0, rfl, goX0, by decide, lw_goodI (tb1 (List.mem_of_getElem? (i := 98) (by decide +kernel))) rfl, rfl, rfl, tyX0_ok, nmX0, rfl, fun _ => ⟨rfl, rfl⟩, by decide⟩
theorem kf_RX0_15 : FldF RX0 15 0 1 := ⟨RX0, TX0, 4, tyX0, rfl, goX0, by decide, lw_goodI (tb1 (List.mem_of_getElem? (i := 100) (by decide +kernel))) rfl, rfl, rfl, tyX0_ok, nmX0, rfl, fun _ => ⟨rfl, rfl⟩, by decide⟩
theorem kg_RX0_18 : Fld RX0 18 0 2 false := ⟨RX0, TX0, 4, tyX0, rfl, goX0, by decide, rfl, lw_goodI (tb1 (List.mem_of_getElem? (i := 102) (by decide +kernel))) rfl, rfl, tyX0_ok, nmX0, (fun _ => ⟨rfl, rfl⟩), by decide⟩
theorem kg_RX0_22 : Fld RX0 22 0 3 false := ⟨RX0, TX0, 4, tyX0, rfl, goX0, by decide, rfl, lw_goodI (tb1 (List.mem_of_getElem? (i := 104) (by decide +kernel))) rfl, rfl, tyX0_ok, nmX0, (fun _ => ⟨rfl, rfl⟩), by decide⟩
theorem dX0_init_0 : decode cX0_init 0 = .ok (.aload_n 0, 1) := by decide +kernel
theorem dX0_init_1 : decode cX0_init 1 = .ok (.invokespecial 3, 3) := by decide +kernel
theorem dX0_init_4 : decode cX0_init 4 = .ok (.aload_n 0, 1) := by decide +kernel
theorem dX0_init_5 : decode cX0_init 5 = .ok (.bipush 10, 2) := by decide +kernel
theorem dX0_init_7 : decode cX0_init 7 = .ok (.newarray .int, 2) := by decide +kernel
theorem dX0_init_9 : decode cX0_init 9 = .ok (.putfield 9, 3) := by decide +kernel
theorem dX0_init_12 : decode cX0_init 12 = .ok (.aload_n 0, 1) := by decide +kernel
theorem dX0_init_13 : decode cX0_init 13 = .ok (.bipush 10, 2) := by decide +kernel
theorem dX0_init_15 : decode cX0_init 15 = .ok (.newarray .int, 2) := by decide +kernel
theorem dX0_init_17 : decode cX0_init 17 = .ok (.putfield 15, 3) := by decide +kernel
theorem dX0_init_20 : decode cX0_init 20 = .ok (.aload_n 0, 1) := by decide +kernel
theorem dX0_init_21 : decode cX0_init 21 = .ok (.iconst 0, 1) := by decide +kernel
theorem dX0_init_22 : decode cX0_init 22 = .ok (.putfield 18, 3) := by decide +kernel
theorem dX0_init_25 : decode cX0_init 25 = .ok (.aload_n 0, 1) := by decide +kernel
theorem dX0_init_26 : decode cX0_init 26 = .ok (.iconst 0, 1) := by decide +kernel
theorem dX0_init_27 : decode cX0_init 27 = .ok (.putfield 22, 3) := by decide +kernel
theorem dX0_init_30 : decode cX0_init 30 = .ok (.return_, 1) := by decide +kernel
def TB0 : List kent := [(0, 0, [some (.inr 1), some (.inr 2), some (.inl 0), some (.inl 0)]), (11, 10, []), (11, 10, [])]
theorem ki_X0 {E : fxE} {B : Nat} (n : Nat) (f0 : Nat → va_E) (h0 : f0 (B + n) = kcell E (B + n) (0, 0, blk 0)) : kc_Ct E B m_X0_init 2 20 n f0 (kpost E (B + n) f0 TB0) := by
  refine t_ct (C := 0) (by decide) rfl (by decide) h0 ?_
  show kt_At E B m_X0_init 2 20 n f0 0 [some (.inr (B + n + 0))] [] [(0, 0, [none, none, some (.inl 0), some (.inl 0)])] 0 _
  refine t_aload_n (pc := 0) (tb := [(0, 0, [none, none, some (.inl 0), some (.inl 0)])]) dX0_init_0 rfl rfl ?_
  refine t_init0 (pc := 1) (tb := [(0, 0, [none, none, some (.inl 0), some (.inl 0)])]) dX0_init_1 ko_RX0_3 (by decide) (by decide) ?_
  refine t_aload_n (pc := 4) (tb := [(0, 0, [none, none, some (.inl 0), some (.inl 0)])]) dX0_init_4 rfl rfl ?_
  refine t_bipush (pc := 5) (tb := [(0, 0, [none, none, some (.inl 0), some (.inl 0)])]) dX0_init_5 (by decide +kernel) ?_
  refine t_newiL (pc := 7) (tb := [(0, 0, [none, none, some (.inl 0), some (.inl 0)])]) (N := 10) (L := 1) rfl rfl dX0_init_7 (by decide) (by decide) ?_
  refine t_putr (pc := 9) (tb := [(0, 0, [none, none, some (.inl 0), some (.inl 0)]), (11, 10, [])]) (o := 0) (o' := 1) dX0_init_9 kf_RX0_9 rfl (by decide) ?_
  refine t_aload_n (pc := 12) (tb := [(0, 0, [some (.inr 1), none, some (.inl 0), some (.inl 0)]), (11, 10, [])]) dX0_init_12 rfl rfl ?_
  refine t_bipush (pc := 13) (tb := [(0, 0, [some (.inr 1), none, some (.inl 0), some (.inl 0)]), (11, 10, [])]) dX0_init_13 (by decide +kernel) ?_
  refine t_newiL (pc := 15) (tb := [(0, 0, [some (.inr 1), none, some (.inl 0), some (.inl 0)]), (11, 10, [])]) (N := 10) (L := 2) rfl rfl dX0_init_15 (by decide) (by decide) ?_
  refine t_putr (pc := 17) (tb := [(0, 0, [some (.inr 1), none, some (.inl 0), some (.inl 0)]), (11, 10, []), (11, 10, [])]) (o := 0) (o' := 2) dX0_init_17 kf_RX0_15 rfl (by decide) ?_
  refine t_aload_n (pc := 20) (tb := [(0, 0, [some (.inr 1), some (.inr 2), some (.inl 0), some (.inl 0)]), (11, 10, []), (11, 10, [])]) dX0_init_20 rfl rfl ?_
  refine t_iconst (pc := 21) (tb := [(0, 0, [some (.inr 1), some (.inr 2), some (.inl 0), some (.inl 0)]), (11, 10, []), (11, 10, [])]) dX0_init_21 ?_
  refine t_puti (pc := 22) (tb := [(0, 0, [some (.inr 1), some (.inr 2), some (.inl 0), some (.inl 0)]), (11, 10, []), (11, 10, [])]) (o := 0) dX0_init_22 kg_RX0_18 rfl (by decide) ?_
  refine t_aload_n (pc := 25) (tb := [(0, 0, [some (.inr 1), some (.inr 2), some (.inl 0), some (.inl 0)]), (11, 10, []), (11, 10, [])]) dX0_init_25 rfl rfl ?_
  refine t_iconst (pc := 26) (tb := [(0, 0, [some (.inr 1), some (.inr 2), some (.inl 0), some (.inl 0)]), (11, 10, []), (11, 10, [])]) dX0_init_26 ?_
  refine t_puti (pc := 27) (tb := [(0, 0, [some (.inr 1), some (.inr 2), some (.inl 0), some (.inl 0)]), (11, 10, []), (11, 10, [])]) (o := 0) dX0_init_27 kg_RX0_22 rfl (by decide) ?_
  exact t_ret (pc := 30) (tb := [(0, 0, [some (.inr 1), some (.inr 2), some (.inl 0), some (.inl 0)]), (11, 10, []), (11, 10, [])]) dX0_init_30 rfl rfl rfl (fun f h1 h2 => ⟨h1, h2⟩)
theorem ko_RX1_3 : Cond.methodLink RX1 3 Lib.objectInit ∈ lw_good := lw_goodI (tb2 (List.mem_of_getElem? (i := 12) (by decide +kernel))) rfl
theorem kf_RX1_9 : FldF RX1 9 1 0 := ⟨RX1, TX1, 9, tyX1, rfl, goX1, by decide, lw_goodI (tb2 (List.mem_of_getElem? (i := 13) (by decide +kernel))) rfl, rfl, rfl, tyX1_ok, nmX1, rfl, fun _ => ⟨rfl, rfl⟩, by decide⟩
theorem kf_RX1_15 : FldF RX1 15 1 1 := ⟨RX1, TX1, 9, tyX1, rfl, goX1, by decide, lw_goodI (tb2 (List.mem_of_getElem? (i := 15) (by decide +kernel))) rfl, rfl, rfl, tyX1_ok, nmX1, rfl, fun _ => ⟨rfl, rfl⟩, by decide⟩
theorem kf_RX1_18 : FldF RX1 18 1 2 := ⟨RX1, TX1, 9, tyX1, rfl, goX1, by decide, lw_goodI (tb2 (List.mem_of_getElem? (i := 17) (by decide +kernel))) rfl, rfl, rfl, tyX1_ok, nmX1, rfl, fun _ => ⟨rfl, rfl⟩, by decide⟩
theorem kf_RX1_21 : FldF RX1 21 1 3 := ⟨RX1, TX1, 9, tyX1, rfl, goX1, by decide, lw_goodI (tb2 (List.mem_of_getElem? (i := 19) (by decide +kernel))) rfl, rfl, rfl, tyX1_ok, nmX1, rfl, fun _ => ⟨rfl, rfl⟩, by decide⟩
theorem kf_RX1_24 : FldF RX1 24 1 4 := ⟨RX1, TX1, 9, tyX1, rfl, goX1, by decide, lw_goodI (tb2 (List.mem_of_getElem? (i := 21) (by decide +kernel))) rfl, rfl, rfl, tyX1_ok, nmX1, rfl, fun _ => ⟨rfl, rfl⟩, by decide⟩
theorem kf_RX1_27 : FldF RX1 27 1 5 := ⟨RX1, TX1, 9, tyX1, rfl, goX1, by decide, lw_goodI (tb2 (List.mem_of_getElem? (i := 23) (by decide +kernel))) rfl, rfl, rfl, tyX1_ok, nmX1, rfl, fun _ => ⟨rfl, rfl⟩, by decide⟩
theorem kg_RX1_31 : Fld RX1 31 1 6 false := ⟨RX1, TX1, 9, tyX1, rfl, goX1, by decide, rfl, lw_goodI (tb2 (List.mem_of_getElem? (i := 24) (by decide +kernel))) rfl, rfl, tyX1_ok, nmX1, (fun _ => ⟨rfl, rfl⟩), by decide⟩
theorem kg_RX1_35 : Fld RX1 35 1 7 false := ⟨RX1, TX1, 9, tyX1, rfl, goX1, by decide, rfl, lw_goodI (tb2 (List.mem_of_getElem? (i := 27) (by decide +kernel))) rfl, rfl, tyX1_ok, nmX1, (fun _ => ⟨rfl, rfl⟩), by decide⟩
theorem kg_RX1_38 : Fld RX1 38 1 8 false := ⟨RX1, TX1, 9, tyX1, rfl, goX1, by decide, rfl, lw_goodI (tb2 (List.mem_of_getElem? (i := 29) (by decide +kernel))) rfl, rfl, tyX1_ok, nmX1, (fun _ => ⟨rfl, rfl⟩), by decide⟩
theorem dX1_init_0 : decode cX1_init 0 = .ok (.aload_n 0, 1) := by decide +kernel
theorem dX1_init_1 : decode cX1_init 1 = .ok (.invokespecial 3, 3) := by decide +kernel
theorem dX1_init_4 : decode cX1_init 4 = .ok (.aload_n 0, 1) := by decide +kernel
theorem dX1_init_5 : decode cX1_init 5 = .ok (.sipush 200, 3) := by decide +kernel
theorem dX1_init_8 : decode cX1_init 8 = .ok (.newarray .int, 2) := by decide +kernel
theorem dX1_init_10 : decode cX1_init 10 = .ok (.putfield 9, 3) := by decide +kernel
theorem dX1_init_13 : decode cX1_init 13 = .ok (.aload_n 0, 1) := by decide +kernel
theorem dX1_init_14 : decode cX1_init 14 = .ok (.sipush 200, 3) := by decide +kernel
theorem dX1_init_17 : decode cX1_init 17 = .ok (.newarray .int, 2) := by decide +kernel
theorem dX1_init_19 : decode cX1_init 19 = .ok (.putfield 15, 3) := by decide +kernel
theorem dX1_init_22 : decode cX1_init 22 = .ok (.aload_n 0, 1) := by decide +kernel
theorem dX1_init_23 : decode cX1_init 23 = .ok (.sipush 200, 3) := by decide +kernel
theorem dX1_init_26 : decode cX1_init 26 = .ok (.newarray .int, 2) := by decide +kernel
theorem dX1_init_28 : decode cX1_init 28 = .ok (.putfield 18, 3) := by decide +kernel
theorem dX1_init_31 : decode cX1_init 31 = .ok (.aload_n 0, 1) := by decide +kernel
theorem dX1_init_32 : decode cX1_init 32 = .ok (.sipush 200, 3) := by decide +kernel
theorem dX1_init_35 : decode cX1_init 35 = .ok (.newarray .int, 2) := by decide +kernel
theorem dX1_init_37 : decode cX1_init 37 = .ok (.putfield 21, 3) := by decide +kernel
theorem dX1_init_40 : decode cX1_init 40 = .ok (.aload_n 0, 1) := by decide +kernel
theorem dX1_init_41 : decode cX1_init 41 = .ok (.sipush 200, 3) := by decide +kernel
theorem dX1_init_44 : decode cX1_init 44 = .ok (.newarray .int, 2) := by decide +kernel
theorem dX1_init_46 : decode cX1_init 46 = .ok (.putfield 24, 3) := by decide +kernel
theorem dX1_init_49 : decode cX1_init 49 = .ok (.aload_n 0, 1) := by decide +kernel
theorem dX1_init_50 : decode cX1_init 50 = .ok (.sipush 401, 3) := by decide +kernel
theorem dX1_init_53 : decode cX1_init 53 = .ok (.newarray .boolean, 2) := by decide +kernel
theorem dX1_init_55 : decode cX1_init 55 = .ok (.putfield 27, 3) := by decide +kernel
theorem dX1_init_58 : decode cX1_init 58 = .ok (.aload_n 0, 1) := by decide +kernel
theorem dX1_init_59 : decode cX1_init 59 = .ok (.iconst 0, 1) := by decide +kernel
theorem dX1_init_60 : decode cX1_init 60 = .ok (.putfield 31, 3) := by decide +kernel
theorem dX1_init_63 : decode cX1_init 63 = .ok (.aload_n 0, 1) := by decide +kernel
theorem dX1_init_64 : decode cX1_init 64 = .ok (.iconst 0, 1) := by decide +kernel
theorem dX1_init_65 : decode cX1_init 65 = .ok (.putfield 35, 3) := by decide +kernel
theorem dX1_init_68 : decode cX1_init 68 = .ok (.aload_n 0, 1) := by decide +kernel
theorem dX1_init_69 : decode cX1_init 69 = .ok (.iconst (-1), 1) := by decide +kernel
theorem dX1_init_70 : decode cX1_init 70 = .ok (.putfield 38, 3) := by decide +kernel
theorem dX1_init_73 : decode cX1_init 73 = .ok (.return_, 1) := by decide +kernel
def TB1 : List kent := [(1, 0, [some (.inr 1), some (.inr 2), some (.inr 3), some (.inr 4), some (.inr 5), some (.inr 6), some (.inl 0), some (.inl 0), some (.inl (-1))]), (11, 200, []), (11, 200, []), (11, 200, []), (11, 200, []), (11, 200, []), (12, 401, [])]
theorem ki_X1 {E : fxE} {B : Nat} (n : Nat) (f0 : Nat → va_E) (h0 : f0 (B + n) = kcell E (B + n) (1, 0, blk 1)) : kc_Ct E B m_X1_init 6 1401 n f0 (kpost E (B + n) f0 TB1) := by
  refine t_ct (C := 1) (by decide) rfl (by decide) h0 ?_
  show kt_At E B m_X1_init 6 1401 n f0 0 [some (.inr (B + n + 0))] [] [(1, 0, [none, none, none, none, none, none, some (.inl 0), some (.inl 0), some (.inl 0)])] 0 _
  refine t_aload_n (pc := 0) (tb := [(1, 0, [none, none, none, none, none, none, some (.inl 0), some (.inl 0), some (.inl 0)])]) dX1_init_0 rfl rfl ?_
  refine t_init0 (pc := 1) (tb := [(1, 0, [none, none, none, none, none, none, some (.inl 0), some (.inl 0), some (.inl 0)])]) dX1_init_1 ko_RX1_3 (by decide) (by decide) ?_
  refine t_aload_n (pc := 4) (tb := [(1, 0, [none, none, none, none, none, none, some (.inl 0), some (.inl 0), some (.inl 0)])]) dX1_init_4 rfl rfl ?_
  refine t_sipush (pc := 5) (tb := [(1, 0, [none, none, none, none, none, none, some (.inl 0), some (.inl 0), some (.inl 0)])]) dX1_init_5 (by decide +kernel) ?_
  refine t_newiL (pc := 8) (tb := [(1, 0, [none, none, none, none, none, none, some (.inl 0), some (.inl 0), some (.inl 0)])]) (N := 200) (L := 1) rfl rfl dX1_init_8 (by decide) (by decide) ?_
  refine t_putr (pc := 10) (tb := [(1, 0, [none, none, none, none, none, none, some (.inl 0), some (.inl 0), some (.inl 0)]), (11, 200, [])]) (o := 0) (o' := 1) dX1_init_10 kf_RX1_9 rfl (by decide) ?_
  refine t_aload_n (pc := 13) (tb := [(1, 0, [some (.inr 1), none, none, none, none, none, some (.inl 0), some (.inl 0), some (.inl 0)]), (11, 200, [])]) dX1_init_13 rfl rfl ?_
  refine t_sipush (pc := 14) (tb := [(1, 0, [some (.inr 1), none, none, none, none, none, some (.inl 0), some (.inl 0), some (.inl 0)]), (11, 200, [])]) dX1_init_14 (by decide +kernel) ?_
  refine t_newiL (pc := 17) (tb := [(1, 0, [some (.inr 1), none, none, none, none, none, some (.inl 0), some (.inl 0), some (.inl 0)]), (11, 200, [])]) (N := 200) (L := 2) rfl rfl dX1_init_17 (by decide) (by decide) ?_
  refine t_putr (pc := 19) (tb := [(1, 0, [some (.inr 1), none, none, none, none, none, some (.inl 0), some (.inl 0), some (.inl 0)]), (11, 200, []), (11, 200, [])]) (o := 0) (o' := 2) dX1_init_19 kf_RX1_15 rfl (by decide) ?_
  refine t_aload_n (pc := 22) (tb := [(1, 0, [some (.inr 1), some (.inr 2), none, none, none, none, some (.inl 0), some (.inl 0), some (.inl 0)]), (11, 200, []), (11, 200, [])]) dX1_init_22 rfl rfl ?_
  refine t_sipush (pc := 23) (tb := [(1, 0, [some (.inr 1), some (.inr 2), none, none, none, none, some (.inl 0), some (.inl 0), some (.inl 0)]), (11, 200, []), (11, 200, [])]) dX1_init_23 (by decide +kernel) ?_
  refine t_newiL (pc := 26) (tb := [(1, 0, [some (.inr 1), some (.inr 2), none, none, none, none, some (.inl 0), some (.inl 0), some (.inl 0)]), (11, 200, []), (11, 200, [])]) (N := 200) (L := 3) rfl rfl dX1_init_26 (by decide) (by decide) ?_
  refine t_putr (pc := 28) (tb := [(1, 0, [some (.inr 1), some (.inr 2), none, none, none, none, some (.inl 0), some (.inl 0), some (.inl 0)]), (11, 200, []), (11, 200, []), (11, 200, [])]) (o := 0) (o' := 3) dX1_init_28 kf_RX1_18 rfl (by decide) ?_
  refine t_aload_n (pc := 31) (tb := [(1, 0, [some (.inr 1), some (.inr 2), some (.inr 3), none, none, none, some (.inl 0), some (.inl 0), some (.inl 0)]), (11, 200, []), (11, 200, []), (11, 200, [])]) dX1_init_31 rfl rfl ?_
  refine t_sipush (pc := 32) (tb := [(1, 0, [some (.inr 1), some (.inr 2), some (.inr 3), none, none, none, some (.inl 0), some (.inl 0), some (.inl 0)]), (11, 200, []), (11, 200, []), (11, 200, [])]) dX1_init_32 (by decide +kernel) ?_
  refine t_newiL (pc := 35) (tb := [(1, 0, [some (.inr 1), some (.inr 2), some (.inr 3), none, none, none, some (.inl 0), some (.inl 0), some (.inl 0)]), (11, 200, []), (11, 200, []), (11, 200, [])]) (N := 200) (L := 4) rfl rfl dX1_init_35 (by decide) (by decide) ?_
  refine t_putr (pc := 37) (tb := [(1, 0, [some (.inr 1), some (.inr 2), some (.inr 3), none, none, none, some (.inl 0), some (.inl 0), some (.inl 0)]), (11, 200, []), (11, 200, []), (11, 200, []), (11, 200, [])]) (o := 0) (o' := 4) dX1_init_37 kf_RX1_21 rfl (by decide) ?_
  refine t_aload_n (pc := 40) (tb := [(1, 0, [some (.inr 1), some (.inr 2), some (.inr 3), some (.inr 4), none, none, some (.inl 0), some (.inl 0), some (.inl 0)]), (11, 200, []), (11, 200, []), (11, 200, []), (11, 200, [])]) dX1_init_40 rfl rfl ?_
  refine t_sipush (pc := 41) (tb := [(1, 0, [some (.inr 1), some (.inr 2), some (.inr 3), some (.inr 4), none, none, some (.inl 0), some (.inl 0), some (.inl 0)]), (11, 200, []), (11, 200, []), (11, 200, []), (11, 200, [])]) dX1_init_41 (by decide +kernel) ?_
  refine t_newiL (pc := 44) (tb := [(1, 0, [some (.inr 1), some (.inr 2), some (.inr 3), some (.inr 4), none, none, some (.inl 0), some (.inl 0), some (.inl 0)]), (11, 200, []), (11, 200, []), (11, 200, []), (11, 200, [])]) (N := 200) (L := 5) rfl rfl dX1_init_44 (by decide) (by decide) ?_
  refine t_putr (pc := 46) (tb := [(1, 0, [some (.inr 1), some (.inr 2), some (.inr 3), some (.inr 4), none, none, some (.inl 0), some (.inl 0), some (.inl 0)]), (11, 200, []), (11, 200, []), (11, 200, []), (11, 200, []), (11, 200, [])]) (o := 0) (o' := 5) dX1_init_46 kf_RX1_24 rfl (by decide) ?_
  refine t_aload_n (pc := 49) (tb := [(1, 0, [some (.inr 1), some (.inr 2), some (.inr 3), some (.inr 4), some (.inr 5), none, some (.inl 0), some (.inl 0), some (.inl 0)]), (11, 200, []), (11, 200, []), (11, 200, []), (11, 200, []), (11, 200, [])]) dX1_init_49 rfl rfl ?_
  refine t_sipush (pc := 50) (tb := [(1, 0, [some (.inr 1), some (.inr 2), some (.inr 3), some (.inr 4), some (.inr 5), none, some (.inl 0), some (.inl 0), some (.inl 0)]), (11, 200, []), (11, 200, []), (11, 200, []), (11, 200, []), (11, 200, [])]) dX1_init_50 (by decide +kernel) ?_
  refine t_newzL (pc := 53) (tb := [(1, 0, [some (.inr 1), some (.inr 2), some (.inr 3), some (.inr 4), some (.inr 5), none, some (.inl 0), some (.inl 0), some (.inl 0)]), (11, 200, []), (11, 200, []), (11, 200, []), (11, 200, []), (11, 200, [])]) (N := 401) (L := 6) rfl rfl dX1_init_53 (by decide) (by decide) ?_
  refine t_putr (pc := 55) (tb := [(1, 0, [some (.inr 1), some (.inr 2), some (.inr 3), some (.inr 4), some (.inr 5), none, some (.inl 0), some (.inl 0), some (.inl 0)]), (11, 200, []), (11, 200, []), (11, 200, []), (11, 200, []), (11, 200, []), (12, 401, [])]) (o := 0) (o' := 6) dX1_init_55 kf_RX1_27 rfl (by decide) ?_
  refine t_aload_n (pc := 58) (tb := [(1, 0, [some (.inr 1), some (.inr 2), some (.inr 3), some (.inr 4), some (.inr 5), some (.inr 6), some (.inl 0), some (.inl 0), some (.inl 0)]), (11, 200, []), (11, 200, []), (11, 200, []), (11, 200, []), (11, 200, []), (12, 401, [])]) dX1_init_58 rfl rfl ?_
  refine t_iconst (pc := 59) (tb := [(1, 0, [some (.inr 1), some (.inr 2), some (.inr 3), some (.inr 4), some (.inr 5), some (.inr 6), some (.inl 0), some (.inl 0), some (.inl 0)]), (11, 200, []), (11, 200, []), (11, 200, []), (11, 200, []), (11, 200, []), (12, 401, [])]) dX1_init_59 ?_
  refine t_puti (pc := 60) (tb := [(1, 0, [some (.inr 1), some (.inr 2), some (.inr 3), some (.inr 4), some (.inr 5), some (.inr 6), some (.inl 0), some (.inl 0), some (.inl 0)]), (11, 200, []), (11, 200, []), (11, 200, []), (11, 200, []), (11, 200, []), (12, 401, [])]) (o := 0) dX1_init_60 kg_RX1_31 rfl (by decide) ?_
  refine t_aload_n (pc := 63) (tb := [(1, 0, [some (.inr 1), some (.inr 2), some (.inr 3), some (.inr 4), some (.inr 5), some (.inr 6), some (.inl 0), some (.inl 0), some (.inl 0)]), (11, 200, []), (11, 200, []), (11, 200, []), (11, 200, []), (11, 200, []), (12, 401, [])]) dX1_init_63 rfl rfl ?_
  refine t_iconst (pc := 64) (tb := [(1, 0, [some (.inr 1), some (.inr 2), some (.inr 3), some (.inr 4), some (.inr 5), some (.inr 6), some (.inl 0), some (.inl 0), some (.inl 0)]), (11, 200, []), (11, 200, []), (11, 200, []), (11, 200, []), (11, 200, []), (12, 401, [])]) dX1_init_64 ?_
  refine t_puti (pc := 65) (tb := [(1, 0, [some (.inr 1), some (.inr 2), some (.inr 3), some (.inr 4), some (.inr 5), some (.inr 6), some (.inl 0), some (.inl 0), some (.inl 0)]), (11, 200, []), (11, 200, []), (11, 200, []), (11, 200, []), (11, 200, []), (12, 401, [])]) (o := 0) dX1_init_65 kg_RX1_35 rfl (by decide) ?_
  refine t_aload_n (pc := 68) (tb := [(1, 0, [some (.inr 1), some (.inr 2), some (.inr 3), some (.inr 4), some (.inr 5), some (.inr 6), some (.inl 0), some (.inl 0), some (.inl 0)]), (11, 200, []), (11, 200, []), (11, 200, []), (11, 200, []), (11, 200, []), (12, 401, [])]) dX1_init_68 rfl rfl ?_
  refine t_iconst (pc := 69) (tb := [(1, 0, [some (.inr 1), some (.inr 2), some (.inr 3), some (.inr 4), some (.inr 5), some (.inr 6), some (.inl 0), some (.inl 0), some (.inl 0)]), (11, 200, []), (11, 200, []), (11, 200, []), (11, 200, []), (11, 200, []), (12, 401, [])]) dX1_init_69 ?_
  refine t_puti (pc := 70) (tb := [(1, 0, [some (.inr 1), some (.inr 2), some (.inr 3), some (.inr 4), some (.inr 5), some (.inr 6), some (.inl 0), some (.inl 0), some (.inl 0)]), (11, 200, []), (11, 200, []), (11, 200, []), (11, 200, []), (11, 200, []), (12, 401, [])]) (o := 0) dX1_init_70 kg_RX1_38 rfl (by decide) ?_
  exact t_ret (pc := 73) (tb := [(1, 0, [some (.inr 1), some (.inr 2), some (.inr 3), some (.inr 4), some (.inr 5), some (.inr 6), some (.inl 0), some (.inl 0), some (.inl (-1))]), (11, 200, []), (11, 200, []), (11, 200, []), (11, 200, []), (11, 200, []), (12, 401, [])]) dX1_init_73 rfl rfl rfl (fun f h1 h2 => ⟨h1, h2⟩)
theorem ko_RX2_3 : Cond.methodLink RX2 3 Lib.objectInit ∈ lw_good := lw_goodI (tb1 (List.mem_of_getElem? (i := 34) (by decide +kernel))) rfl
theorem kf_RX2_9 : FldF RX2 9 2 0 := ⟨RX2, TX2, 11, tyX2, rfl, goX2, by decide, lw_goodI (tb1 (List.mem_of_getElem? (i := 35) (by decide +kernel))) rfl, rfl, rfl, tyX2_ok, nmX2, rfl, fun _ => ⟨rfl, rfl⟩, by decide⟩
theorem kf_RX2_15 : FldF RX2 15 2 1 := ⟨RX2, TX2, 11, tyX2, rfl, goX2, by decide, lw_goodI (tb1 (List.mem_of_getElem? (i := 38) (by decide +kernel))) rfl, rfl, rfl, tyX2_ok, nmX2, rfl, fun _ => ⟨rfl, rfl⟩, by decide⟩
theorem kf_RX2_18 : FldF RX2 18 2 2 := ⟨RX2, TX2, 11, tyX2, rfl, goX2, by decide, lw_goodI (tb1 (List.mem_of_getElem? (i := 41) (by decide +kernel))) rfl, rfl, rfl, tyX2_ok, nmX2, rfl, fun _ => ⟨rfl, rfl⟩, by decide⟩
theorem kg_RX2_21 : Fld RX2 21 2 3 false := ⟨RX2, TX2, 11, tyX2, rfl, goX2, by decide, rfl, lw_goodI (tb1 (List.mem_of_getElem? (i := 44) (by decide +kernel))) rfl, rfl, tyX2_ok, nmX2, (fun _ => ⟨rfl, rfl⟩), by decide⟩
theorem kf_RX2_25 : FldF RX2 25 2 4 := ⟨RX2, TX2, 11, tyX2, rfl, goX2, by decide, lw_goodI (tb1 (List.mem_of_getElem? (i := 47) (by decide +kernel))) rfl, rfl, rfl, tyX2_ok, nmX2, rfl, fun _ => ⟨rfl, rfl⟩, by decide⟩
theorem kf_RX2_28 : FldF RX2 28 2 5 := ⟨RX2, TX2, 11, tyX2, rfl, goX2, by decide, lw_goodI (tb1 (List.mem_of_getElem? (i := 50) (by decide +kernel))) rfl, rfl, rfl, tyX2_ok, nmX2, rfl, fun _ => ⟨rfl, rfl⟩, by decide⟩
theorem kf_RX2_31 : FldF RX2 31 2 6 := ⟨RX2, TX2, 11, tyX2, rfl, goX2, by decide, lw_goodI (tb1 (List.mem_of_getElem? (i := 53) (by decide +kernel))) rfl, rfl, rfl, tyX2_ok, nmX2, rfl, fun _ => ⟨rfl, rfl⟩, by decide⟩
theorem kf_RX2_34 : FldF RX2 34 2 7 := ⟨RX2, TX2, 11, tyX2, rfl, goX2, by decide, lw_goodI (tb1 (List.mem_of_getElem? (i := 56) (by decide +kernel))) rfl, rfl, rfl, tyX2_ok, nmX2, rfl, fun _ => ⟨rfl, rfl⟩, by decide⟩
theorem kg_RX2_37 : Fld RX2 37 2 8 false := ⟨RX2, TX2, 11, tyX2, rfl, goX2, by decide, rfl, lw_goodI (tb1 (List.mem_of_getElem? (i := 59) (by decide +kernel))) rfl, rfl, tyX2_ok, nmX2, (fun _ => ⟨rfl, rfl⟩), by decide⟩
theorem kg_RX2_40 : Fld RX2 40 2 9 false := ⟨RX2, TX2, 11, tyX2, rfl, goX2, by decide, rfl, lw_goodI (tb1 (List.mem_of_getElem? (i := 62) (by decide +kernel))) rfl, rfl, tyX2_ok, nmX2, (fun _ => ⟨rfl, rfl⟩), by decide⟩
theorem kg_RX2_43 : Fld RX2 43 2 10 false := ⟨RX2, TX2, 11, tyX2, rfl, goX2, by decide, rfl, lw_goodI (tb1 (List.mem_of_getElem? (i := 65) (by decide +kernel))) rfl, rfl, tyX2_ok, nmX2, (fun _ => ⟨rfl, rfl⟩), by decide⟩
theorem dX2_init_0 : decode cX2_init 0 = .ok (.aload_n 0, 1) := by decide +kernel
theorem dX2_init_1 : decode cX2_init 1 = .ok (.invokespecial 3, 3) := by decide +kernel
theorem dX2_init_4 : decode cX2_init 4 = .ok (.aload_n 0, 1) := by decide +kernel
theorem dX2_init_5 : decode cX2_init 5 = .ok (.bipush 8, 2) := by decide +kernel
theorem dX2_init_7 : decode cX2_init 7 = .ok (.newarray .int, 2) := by decide +kernel
theorem dX2_init_9 : decode cX2_init 9 = .ok (.putfield 9, 3) := by decide +kernel
theorem dX2_init_12 : decode cX2_init 12 = .ok (.aload_n 0, 1) := by decide +kernel
theorem dX2_init_13 : decode cX2_init 13 = .ok (.bipush 8, 2) := by decide +kernel
theorem dX2_init_15 : decode cX2_init 15 = .ok (.newarray .int, 2) := by decide +kernel
theorem dX2_init_17 : decode cX2_init 17 = .ok (.putfield 15, 3) := by decide +kernel
theorem dX2_init_20 : decode cX2_init 20 = .ok (.aload_n 0, 1) := by decide +kernel
theorem dX2_init_21 : decode cX2_init 21 = .ok (.bipush 8, 2) := by decide +kernel
theorem dX2_init_23 : decode cX2_init 23 = .ok (.newarray .int, 2) := by decide +kernel
theorem dX2_init_25 : decode cX2_init 25 = .ok (.putfield 18, 3) := by decide +kernel
theorem dX2_init_28 : decode cX2_init 28 = .ok (.aload_n 0, 1) := by decide +kernel
theorem dX2_init_29 : decode cX2_init 29 = .ok (.iconst 0, 1) := by decide +kernel
theorem dX2_init_30 : decode cX2_init 30 = .ok (.putfield 21, 3) := by decide +kernel
theorem dX2_init_33 : decode cX2_init 33 = .ok (.aload_n 0, 1) := by decide +kernel
theorem dX2_init_34 : decode cX2_init 34 = .ok (.bipush 9, 2) := by decide +kernel
theorem dX2_init_36 : decode cX2_init 36 = .ok (.newarray .int, 2) := by decide +kernel
theorem dX2_init_38 : decode cX2_init 38 = .ok (.putfield 25, 3) := by decide +kernel
theorem dX2_init_41 : decode cX2_init 41 = .ok (.aload_n 0, 1) := by decide +kernel
theorem dX2_init_42 : decode cX2_init 42 = .ok (.bipush 9, 2) := by decide +kernel
theorem dX2_init_44 : decode cX2_init 44 = .ok (.newarray .int, 2) := by decide +kernel
theorem dX2_init_46 : decode cX2_init 46 = .ok (.putfield 28, 3) := by decide +kernel
theorem dX2_init_49 : decode cX2_init 49 = .ok (.aload_n 0, 1) := by decide +kernel
theorem dX2_init_50 : decode cX2_init 50 = .ok (.bipush 6, 2) := by decide +kernel
theorem dX2_init_52 : decode cX2_init 52 = .ok (.newarray .int, 2) := by decide +kernel
theorem dX2_init_54 : decode cX2_init 54 = .ok (.putfield 31, 3) := by decide +kernel
theorem dX2_init_57 : decode cX2_init 57 = .ok (.aload_n 0, 1) := by decide +kernel
theorem dX2_init_58 : decode cX2_init 58 = .ok (.bipush 6, 2) := by decide +kernel
theorem dX2_init_60 : decode cX2_init 60 = .ok (.newarray .int, 2) := by decide +kernel
theorem dX2_init_62 : decode cX2_init 62 = .ok (.putfield 34, 3) := by decide +kernel
theorem dX2_init_65 : decode cX2_init 65 = .ok (.aload_n 0, 1) := by decide +kernel
theorem dX2_init_66 : decode cX2_init 66 = .ok (.iconst 0, 1) := by decide +kernel
theorem dX2_init_67 : decode cX2_init 67 = .ok (.putfield 37, 3) := by decide +kernel
theorem dX2_init_70 : decode cX2_init 70 = .ok (.aload_n 0, 1) := by decide +kernel
theorem dX2_init_71 : decode cX2_init 71 = .ok (.iconst 0, 1) := by decide +kernel
theorem dX2_init_72 : decode cX2_init 72 = .ok (.putfield 40, 3) := by decide +kernel
theorem dX2_init_75 : decode cX2_init 75 = .ok (.aload_n 0, 1) := by decide +kernel
theorem dX2_init_76 : decode cX2_init 76 = .ok (.iconst 0, 1) := by decide +kernel
theorem dX2_init_77 : decode cX2_init 77 = .ok (.putfield 43, 3) := by decide +kernel
theorem dX2_init_80 : decode cX2_init 80 = .ok (.return_, 1) := by decide +kernel
def TB2 : List kent := [(2, 0, [some (.inr 1), some (.inr 2), some (.inr 3), some (.inl 0), some (.inr 4), some (.inr 5), some (.inr 6), some (.inr 7), some (.inl 0), some (.inl 0), some (.inl 0)]), (11, 8, []), (11, 8, []), (11, 8, []), (11, 9, []), (11, 9, []), (11, 6, []), (11, 6, [])]
theorem ki_X2 {E : fxE} {B : Nat} (n : Nat) (f0 : Nat → va_E) (h0 : f0 (B + n) = kcell E (B + n) (2, 0, blk 2)) : kc_Ct E B m_X2_init 7 54 n f0 (kpost E (B + n) f0 TB2) := by
  refine t_ct (C := 2) (by decide) rfl (by decide) h0 ?_
  show kt_At E B m_X2_init 7 54 n f0 0 [some (.inr (B + n + 0))] [] [(2, 0, [none, none, none, some (.inl 0), none, none, none, none, some (.inl 0), some (.inl 0), some (.inl 0)])] 0 _
  refine t_aload_n (pc := 0) (tb := [(2, 0, [none, none, none, some (.inl 0), none, none, none, none, some (.inl 0), some (.inl 0), some (.inl 0)])]) dX2_init_0 rfl rfl ?_
  refine t_init0 (pc := 1) (tb := [(2, 0, [none, none, none, some (.inl 0), none, none, none, none, some (.inl 0), some (.inl 0), some (.inl 0)])]) dX2_init_1 ko_RX2_3 (by decide) (by decide) ?_
  refine t_aload_n (pc := 4) (tb := [(2, 0, [none, none, none, some (.inl 0), none, none, none, none, some (.inl 0), some (.inl 0), some (.inl 0)])]) dX2_init_4 rfl rfl ?_
  refine t_bipush (pc := 5) (tb := [(2, 0, [none, none, none, some (.inl 0), none, none, none, none, some (.inl 0), some (.inl 0), some (.inl 0)])]) dX2_init_5 (by decide +kernel) ?_
  refine t_newiL (pc := 7) (tb := [(2, 0, [none, none, none, some (.inl 0), none, none, none, none, some (.inl 0), some (.inl 0), some (.inl 0)])]) (N := 8) (L := 1) rfl rfl dX2_init_7 (by decide) (by decide) ?_
  refine t_putr (pc := 9) (tb := [(2, 0, [none, none, none, some (.inl 0), none, none, none, none, some (.inl 0), some (.inl 0), some (.inl 0)]), (11, 8, [])]) (o := 0) (o' := 1) dX2_init_9 kf_RX2_9 rfl (by decide) ?_
  refine t_aload_n (pc := 12) (tb := [(2, 0, [some (.inr 1), none, none, some (.inl 0), none, none, none, none, some (.inl 0), some (.inl 0), some (.inl 0)]), (11, 8, [])]) dX2_init_12 rfl rfl ?_
  refine t_bipush (pc := 13) (tb := [(2, 0, [some (.inr 1), none, none, some (.inl 0), none, none, none, none, some (.inl 0), some (.inl 0), some (.inl 0)]), (11, 8, [])]) dX2_init_13 (by decide +kernel) ?_
  refine t_newiL (pc := 15) (tb := [(2, 0, [some (.inr 1), none, none, some (.inl 0), none, none, none, none, some (.inl 0), some (.inl 0), some (.inl 0)]), (11, 8, [])]) (N := 8) (L := 2) rfl rfl dX2_init_15 (by decide) (by decide) ?_
  refine t_putr (pc := 17) (tb := [(2, 0, [some (.inr 1), none, none, some (.inl 0), none, none, none, none, some (.inl 0), some (.inl 0), some (.inl 0)]), (11, 8, []), (11, 8, [])]) (o := 0) (o' := 2) dX2_init_17 kf_RX2_15 rfl (by decide) ?_
  refine t_aload_n (pc := 20) (tb := [(2, 0, [some (.inr 1), some (.inr 2), none, some (.inl 0), none, none, none, none, some (.inl 0), some (.inl 0), some (.inl 0)]), (11, 8, []), (11, 8, [])]) dX2_init_20 rfl rfl ?_
  refine t_bipush (pc := 21) (tb := [(2, 0, [some (.inr 1), some (.inr 2), none, some (.inl 0), none, none, none, none, some (.inl 0), some (.inl 0), some (.inl 0)]), (11, 8, []), (11, 8, [])]) dX2_init_21 (by decide +kernel) ?_
  refine t_newiL (pc := 23) (tb := [(2, 0, [some (.inr 1), some (.inr 2), none, some (.inl 0), none, none, none, none, some (.inl 0), some (.inl 0), some (.inl 0)]), (11, 8, []), (11, 8, [])]) (N := 8) (L := 3) rfl rfl dX2_init_23 (by decide) (by decide) ?_
  refine t_putr (pc := 25) (tb := [(2, 0, [some (.inr 1), some (.inr 2), none, some (.inl 0), none, none, none, none, some (.inl 0), some (.inl 0), some (.inl 0)]), (11, 8, []), (11, 8, []), (11, 8, [])]) (o := 0) (o' := 3) dX2_init_25 kf_RX2_18 rfl (by decide) ?_
  refine t_aload_n (pc := 28) (tb := [(2, 0, [some (.inr 1), some (.inr 2), some (.inr 3), some (.inl 0), none, none, none, none, some (.inl 0), some (.inl 0), some (.inl 0)]), (11, 8, []), (11, 8, []), (11, 8, [])]) dX2_init_28 rfl rfl ?_
  refine t_iconst (pc := 29) (tb := [(2, 0, [some (.inr 1), some (.inr 2), some (.inr 3), some (.inl 0), none, none, none, none, some (.inl 0), some (.inl 0), some (.inl 0)]), (11, 8, []), (11, 8, []), (11, 8, [])]) dX2_init_29 ?_
  refine t_puti (pc := 30) (tb := [(2, 0, [some (.inr 1), some (.inr 2), some (.inr 3), some (.inl 0), none, none, none, none, some (.inl 0), some (.inl 0), some (.inl 0)]), (11, 8, []), (11, 8, []), (11, 8, [])]) (o := 0) dX2_init_30 kg_RX2_21 rfl (by decide) ?_
  refine t_aload_n (pc := 33) (tb := [(2, 0, [some (.inr 1), some (.inr 2), some (.inr 3), some (.inl 0), none, none, none, none, some (.inl 0), some (.inl 0), some (.inl 0)]), (11, 8, []), (11, 8, []), (11, 8, [])]) dX2_init_33 rfl rfl ?_
  refine t_bipush (pc := 34) (tb := [(2, 0, [some (.inr 1), some (.inr 2), some (.inr 3), some (.inl 0), none, none, none, none, some (.inl 0), some (.inl 0), some (.inl 0)]), (11, 8, []), (11, 8, []), (11, 8, [])]) dX2_init_34 (by decide +kernel) ?_
  refine t_newiL (pc := 36) (tb := [(2, 0, [some (.inr 1), some (.inr 2), some (.inr 3), some (.inl 0), none, none, none, none, some (.inl 0), some (.inl 0), some (.inl 0)]), (11, 8, []), (11, 8, []), (11, 8, [])]) (N := 9) (L := 4) rfl rfl dX2_init_36 (by decide) (by decide) ?_
  refine t_putr (pc := 38) (tb := [(2, 0, [some (.inr 1), some (.inr 2), some (.inr 3), some (.inl 0), none, none, none, none, some (.inl 0), some (.inl 0), some (.inl 0)]), (11, 8, []), (11, 8, []), (11, 8, []), (11, 9, [])]) (o := 0) (o' := 4) dX2_init_38 kf_RX2_25 rfl (by decide) ?_
  refine t_aload_n (pc := 41) (tb := [(2, 0, [some (.inr 1), some (.inr 2), some (.inr 3), some (.inl 0), some (.inr 4), none, none, none, some (.inl 0), some (.inl 0), some (.inl 0)]), (11, 8, []), (11, 8, []), (11, 8, []), (11, 9, [])]) dX2_init_41 rfl rfl ?_
  refine t_bipush (pc := 42) (tb := [(2, 0, [some (.inr 1), some (.inr 2), some (.inr 3), some (.inl 0), some (.inr 4), none, none, none, some (.inl 0), some (.inl 0), some (.inl 0)]), (11, 8, []), (11, 8, []), (11, 8, []), (11, 9, [])]) dX2_init_42 (by decide +kernel) ?_
  refine t_newiL (pc := 44) (tb := [(2, 0, [some (.inr 1), some (.inr 2), some (.inr 3), some (.inl 0), some (.inr 4), none, none, none, some (.inl 0), some (.inl 0), some (.inl 0)]), (11, 8, []), (11, 8, []), (11, 8, []), (11, 9, [])]) (N := 9) (L := 5) rfl rfl dX2_init_44 (by decide) (by decide) ?_
  refine t_putr (pc := 46) (tb := [(2, 0, [some (.inr 1), some (.inr 2), some (.inr 3), some (.inl 0), some (.inr 4), none, none, none, some (.inl 0), some (.inl 0), some (.inl 0)]), (11, 8, []), (11, 8, []), (11, 8, []), (11, 9, []), (11, 9, [])]) (o := 0) (o' := 5) dX2_init_46 kf_RX2_28 rfl (by decide) ?_
  refine t_aload_n (pc := 49) (tb := [(2, 0, [some (.inr 1), some (.inr 2), some (.inr 3), some (.inl 0), some (.inr 4), some (.inr 5), none, none, some (.inl 0), some (.inl 0), some (.inl 0)]), (11, 8, []), (11, 8, []), (11, 8, []), (11, 9, []), (11, 9, [])]) dX2_init_49 rfl rfl ?_
  refine t_bipush (pc := 50) (tb := [(2, 0, [some (.inr 1), some (.inr 2), some (.inr 3), some (.inl 0), some (.inr 4), some (.inr 5), none, none, some (.inl 0), some (.inl 0), some (.inl 0)]), (11, 8, []), (11, 8, []), (11, 8, []), (11, 9, []), (11, 9, [])]) dX2_init_50 (by decide +kernel) ?_
  refine t_newiL (pc := 52) (tb := [(2, 0, [some (.inr 1), some (.inr 2), some (.inr 3), some (.inl 0), some (.inr 4), some (.inr 5), none, none, some (.inl 0), some (.inl 0), some (.inl 0)]), (11, 8, []), (11, 8, []), (11, 8, []), (11, 9, []), (11, 9, [])]) (N := 6) (L := 6) rfl rfl dX2_init_52 (by decide) (by decide) ?_
  refine t_putr (pc := 54) (tb := [(2, 0, [some (.inr 1), some (.inr 2), some (.inr 3), some (.inl 0), some (.inr 4), some (.inr 5), none, none, some (.inl 0), some (.inl 0), some (.inl 0)]), (11, 8, []), (11, 8, []), (11, 8, []), (11, 9, []), (11, 9, []), (11, 6, [])]) (o := 0) (o' := 6) dX2_init_54 kf_RX2_31 rfl (by decide) ?_
  refine t_aload_n (pc := 57) (tb := [(2, 0, [some (.inr 1), some (.inr 2), some (.inr 3), some (.inl 0), some (.inr 4), some (.inr 5), some (.inr 6), none, some (.inl 0), some (.inl 0), some (.inl 0)]), (11, 8, []), (11, 8, []), (11, 8, []), (11, 9, []), (11, 9, []), (11, 6, [])]) dX2_init_57 rfl rfl ?_
  refine t_bipush (pc := 58) (tb := [(2, 0, [some (.inr 1), some (.inr 2), some (.inr 3), some (.inl 0), some (.inr 4), some (.inr 5), some (.inr 6), none, some (.inl 0), some (.inl 0), some (.inl 0)]), (11, 8, []), (11, 8, []), (11, 8, []), (11, 9, []), (11, 9, []), (11, 6, [])]) dX2_init_58 (by decide +kernel) ?_
  refine t_newiL (pc := 60) (tb := [(2, 0, [some (.inr 1), some (.inr 2), some (.inr 3), some (.inl 0), some (.inr 4), some (.inr 5), some (.inr 6), none, some (.inl 0), some (.inl 0), some (.inl 0)]), (11, 8, []), (11, 8, []), (11, 8, []), (11, 9, []), (11, 9, []), (11, 6, [])]) (N := 6) (L := 7) rfl rfl dX2_init_60 (by decide) (by decide) ?_
  refine t_putr (pc := 62) (tb := [(2, 0, [some (.inr 1), some (.inr 2), some (.inr 3), some (.inl 0), some (.inr 4), some (.inr 5), some (.inr 6), none, some (.inl 0), some (.inl 0), some (.inl 0)]), (11, 8, []), (11, 8, []), (11, 8, []), (11, 9, []), (11, 9, []), (11, 6, []), (11, 6, [])]) (o := 0) (o' := 7) dX2_init_62 kf_RX2_34 rfl (by decide) ?_
  refine t_aload_n (pc := 65) (tb := [(2, 0, [some (.inr 1), some (.inr 2), some (.inr 3), some (.inl 0), some (.inr 4), some (.inr 5), some (.inr 6), some (.inr 7), some (.inl 0), some (.inl 0), some (.inl 0)]), (11, 8, []), (11, 8, []), (11, 8, []), (11, 9, []), (11, 9, []), (11, 6, []), (11, 6, [])]) dX2_init_65 rfl rfl ?_
  refine t_iconst (pc := 66) (tb := [(2, 0, [some (.inr 1), some (.inr 2), some (.inr 3), some (.inl 0), some (.inr 4), some (.inr 5), some (.inr 6), some (.inr 7), some (.inl 0), some (.inl 0), some (.inl 0)]), (11, 8, []), (11, 8, []), (11, 8, []), (11, 9, []), (11, 9, []), (11, 6, []), (11, 6, [])]) dX2_init_66 ?_
  refine t_puti (pc := 67) (tb := [(2, 0, [some (.inr 1), some (.inr 2), some (.inr 3), some (.inl 0), some (.inr 4), some (.inr 5), some (.inr 6), some (.inr 7), some (.inl 0), some (.inl 0), some (.inl 0)]), (11, 8, []), (11, 8, []), (11, 8, []), (11, 9, []), (11, 9, []), (11, 6, []), (11, 6, [])]) (o := 0) dX2_init_67 kg_RX2_37 rfl (by decide) ?_
  refine t_aload_n (pc := 70) (tb := [(2, 0, [some (.inr 1), some (.inr 2), some (.inr 3), some (.inl 0), some (.inr 4), some (.inr 5), some (.inr 6), some (.inr 7), some (.inl 0), some (.inl 0), some (.inl 0)]), (11, 8, []), (11, 8, []), (11, 8, []), (11, 9, []), (11, 9, []), (11, 6, []), (11, 6, [])]) dX2_init_70 rfl rfl ?_
  refine t_iconst (pc := 71) (tb := [(2, 0, [some (.inr 1), some (.inr 2), some (.inr 3), some (.inl 0), some (.inr 4), some (.inr 5), some (.inr 6), some (.inr 7), some (.inl 0), some (.inl 0), some (.inl 0)]), (11, 8, []), (11, 8, []), (11, 8, []), (11, 9, []), (11, 9, []), (11, 6, []), (11, 6, [])]) dX2_init_71 ?_
  refine t_puti (pc := 72) (tb := [(2, 0, [some (.inr 1), some (.inr 2), some (.inr 3), some (.inl 0), some (.inr 4), some (.inr 5), some (.inr 6), some (.inr 7), some (.inl 0), some (.inl 0), some (.inl 0)]), (11, 8, []), (11, 8, []), (11, 8, []), (11, 9, []), (11, 9, []), (11, 6, []), (11, 6, [])]) (o := 0) dX2_init_72 kg_RX2_40 rfl (by decide) ?_
  refine t_aload_n (pc := 75) (tb := [(2, 0, [some (.inr 1), some (.inr 2), some (.inr 3), some (.inl 0), some (.inr 4), some (.inr 5), some (.inr 6), some (.inr 7), some (.inl 0), some (.inl 0), some (.inl 0)]), (11, 8, []), (11, 8, []), (11, 8, []), (11, 9, []), (11, 9, []), (11, 6, []), (11, 6, [])]) dX2_init_75 rfl rfl ?_
  refine t_iconst (pc := 76) (tb := [(2, 0, [some (.inr 1), some (.inr 2), some (.inr 3), some (.inl 0), some (.inr 4), some (.inr 5), some (.inr 6), some (.inr 7), some (.inl 0), some (.inl 0), some (.inl 0)]), (11, 8, []), (11, 8, []), (11, 8, []), (11, 9, []), (11, 9, []), (11, 6, []), (11, 6, [])]) dX2_init_76 ?_
  refine t_puti (pc := 77) (tb := [(2, 0, [some (.inr 1), some (.inr 2), some (.inr 3), some (.inl 0), some (.inr 4), some (.inr 5), some (.inr 6), some (.inr 7), some (.inl 0), some (.inl 0), some (.inl 0)]), (11, 8, []), (11, 8, []), (11, 8, []), (11, 9, []), (11, 9, []), (11, 6, []), (11, 6, [])]) (o := 0) dX2_init_77 kg_RX2_43 rfl (by decide) ?_
  exact t_ret (pc := 80) (tb := [(2, 0, [some (.inr 1), some (.inr 2), some (.inr 3), some (.inl 0), some (.inr 4), some (.inr 5), some (.inr 6), some (.inr 7), some (.inl 0), some (.inl 0), some (.inl 0)]), (11, 8, []), (11, 8, []), (11, 8, []), (11, 9, []), (11, 9, []), (11, 6, []), (11, 6, [])]) dX2_init_80 rfl rfl rfl (fun f h1 h2 => ⟨h1, h2⟩)
theorem ko_RX4_3 : Cond.methodLink RX4 3 Lib.objectInit ∈ lw_good := lw_goodI (tb1 (List.mem_of_getElem? (i := 192) (by decide +kernel))) rfl
theorem kf_RX4_9 : FldF RX4 9 4 0 := ⟨RX4, TX4, 4, tyX4, rfl, goX4, by decide, lw_goodI (tb1 (List.mem_of_getElem? (i := 193) (by decide +kernel))) rfl, rfl, rfl, tyX4_ok, nmX4, rfl, fun _ => ⟨rfl, rfl⟩, by decide⟩
theorem kf_RX4_15 : FldF RX4 15 4 1 := ⟨RX4, TX4, 4, tyX4, rfl, goX4, by decide, lw_goodI (tb1 (List.mem_of_getElem? (i := 195) (by decide +kernel))) rfl, rfl, rfl, tyX4_ok, nmX4, rfl, fun _ => ⟨rfl, rfl⟩, by decide⟩
theorem kf_RX4_18 : FldF RX4 18 4 2 := ⟨RX4, TX4, 4, tyX4, rfl, goX4, by decide, lw_goodI (tb1 (List.mem_of_getElem? (i := 197) (by decide +kernel))) rfl, rfl, rfl, tyX4_ok, nmX4, rfl, fun _ => ⟨rfl, rfl⟩, by decide⟩
theorem kg_RX4_22 : Fld RX4 22 4 3 false := ⟨RX4, TX4, 4, tyX4, rfl, goX4, by decide, rfl, lw_goodI (tb1 (List.mem_of_getElem? (i := 198) (by decide +kernel))) rfl, rfl, tyX4_ok, nmX4, (fun _ => ⟨rfl, rfl⟩), by decide⟩
theorem dX4_init_0 : decode cX4_init 0 = .ok (.aload_n 0, 1) := by decide +kernel
theorem dX4_init_1 : decode cX4_init 1 = .ok (.invokespecial 3, 3) := by decide +kernel
theorem dX4_init_4 : decode cX4_init 4 = .ok (.aload_n 0, 1) := by decide +kernel
theorem dX4_init_5 : decode cX4_init 5 = .ok (.sipush 200, 3) := by decide +kernel
theorem dX4_init_8 : decode cX4_init 8 = .ok (.newarray .int, 2) := by decide +kernel
theorem dX4_init_10 : decode cX4_init 10 = .ok (.putfield 9, 3) := by decide +kernel
theorem dX4_init_13 : decode cX4_init 13 = .ok (.aload_n 0, 1) := by decide +kernel
theorem dX4_init_14 : decode cX4_init 14 = .ok (.sipush 200, 3) := by decide +kernel
theorem dX4_init_17 : decode cX4_init 17 = .ok (.newarray .int, 2) := by decide +kernel
theorem dX4_init_19 : decode cX4_init 19 = .ok (.putfield 15, 3) := by decide +kernel
theorem dX4_init_22 : decode cX4_init 22 = .ok (.aload_n 0, 1) := by decide +kernel
theorem dX4_init_23 : decode cX4_init 23 = .ok (.sipush 200, 3) := by decide +kernel
theorem dX4_init_26 : decode cX4_init 26 = .ok (.newarray .boolean, 2) := by decide +kernel
theorem dX4_init_28 : decode cX4_init 28 = .ok (.putfield 18, 3) := by decide +kernel
theorem dX4_init_31 : decode cX4_init 31 = .ok (.aload_n 0, 1) := by decide +kernel
theorem dX4_init_32 : decode cX4_init 32 = .ok (.iconst 0, 1) := by decide +kernel
theorem dX4_init_33 : decode cX4_init 33 = .ok (.putfield 22, 3) := by decide +kernel
theorem dX4_init_36 : decode cX4_init 36 = .ok (.return_, 1) := by decide +kernel
def TB4 : List kent := [(4, 0, [some (.inr 1), some (.inr 2), some (.inr 3), some (.inl 0)]), (11, 200, []), (11, 200, []), (12, 200, [])]
theorem ki_X4 {E : fxE} {B : Nat} (n : Nat) (f0 : Nat → va_E) (h0 : f0 (B + n) = kcell E (B + n) (4, 0, blk 4)) : kc_Ct E B m_X4_init 3 600 n f0 (kpost E (B + n) f0 TB4) := by
  refine t_ct (C := 4) (by decide) rfl (by decide) h0 ?_
  show kt_At E B m_X4_init 3 600 n f0 0 [some (.inr (B + n + 0))] [] [(4, 0, [none, none, none, some (.inl 0)])] 0 _
  refine t_aload_n (pc := 0) (tb := [(4, 0, [none, none, none, some (.inl 0)])]) dX4_init_0 rfl rfl ?_
  refine t_init0 (pc := 1) (tb := [(4, 0, [none, none, none, some (.inl 0)])]) dX4_init_1 ko_RX4_3 (by decide) (by decide) ?_
  refine t_aload_n (pc := 4) (tb := [(4, 0, [none, none, none, some (.inl 0)])]) dX4_init_4 rfl rfl ?_
  refine t_sipush (pc := 5) (tb := [(4, 0, [none, none, none, some (.inl 0)])]) dX4_init_5 (by decide +kernel) ?_
  refine t_newiL (pc := 8) (tb := [(4, 0, [none, none, none, some (.inl 0)])]) (N := 200) (L := 1) rfl rfl dX4_init_8 (by decide) (by decide) ?_
  refine t_putr (pc := 10) (tb := [(4, 0, [none, none, none, some (.inl 0)]), (11, 200, [])]) (o := 0) (o' := 1) dX4_init_10 kf_RX4_9 rfl (by decide) ?_
  refine t_aload_n (pc := 13) (tb := [(4, 0, [some (.inr 1), none, none, some (.inl 0)]), (11, 200, [])]) dX4_init_13 rfl rfl ?_
  refine t_sipush (pc := 14) (tb := [(4, 0, [some (.inr 1), none, none, some (.inl 0)]), (11, 200, [])]) dX4_init_14 (by decide +kernel) ?_
  refine t_newiL (pc := 17) (tb := [(4, 0, [some (.inr 1), none, none, some (.inl 0)]), (11, 200, [])]) (N := 200) (L := 2) rfl rfl dX4_init_17 (by decide) (by decide) ?_
  refine t_putr (pc := 19) (tb := [(4, 0, [some (.inr 1), none, none, some (.inl 0)]), (11, 200, []), (11, 200, [])]) (o := 0) (o' := 2) dX4_init_19 kf_RX4_15 rfl (by decide) ?_
  refine t_aload_n (pc := 22) (tb := [(4, 0, [some (.inr 1), some (.inr 2), none, some (.inl 0)]), (11, 200, []), (11, 200, [])]) dX4_init_22 rfl rfl ?_
  refine t_sipush (pc := 23) (tb := [(4, 0, [some (.inr 1), some (.inr 2), none, some (.inl 0)]), (11, 200, []), (11, 200, [])]) dX4_init_23 (by decide +kernel) ?_
  refine t_newzL (pc := 26) (tb := [(4, 0, [some (.inr 1), some (.inr 2), none, some (.inl 0)]), (11, 200, []), (11, 200, [])]) (N := 200) (L := 3) rfl rfl dX4_init_26 (by decide) (by decide) ?_
  refine t_putr (pc := 28) (tb := [(4, 0, [some (.inr 1), some (.inr 2), none, some (.inl 0)]), (11, 200, []), (11, 200, []), (12, 200, [])]) (o := 0) (o' := 3) dX4_init_28 kf_RX4_18 rfl (by decide) ?_
  refine t_aload_n (pc := 31) (tb := [(4, 0, [some (.inr 1), some (.inr 2), some (.inr 3), some (.inl 0)]), (11, 200, []), (11, 200, []), (12, 200, [])]) dX4_init_31 rfl rfl ?_
  refine t_iconst (pc := 32) (tb := [(4, 0, [some (.inr 1), some (.inr 2), some (.inr 3), some (.inl 0)]), (11, 200, []), (11, 200, []), (12, 200, [])]) dX4_init_32 ?_
  refine t_puti (pc := 33) (tb := [(4, 0, [some (.inr 1), some (.inr 2), some (.inr 3), some (.inl 0)]), (11, 200, []), (11, 200, []), (12, 200, [])]) (o := 0) dX4_init_33 kg_RX4_22 rfl (by decide) ?_
  exact t_ret (pc := 36) (tb := [(4, 0, [some (.inr 1), some (.inr 2), some (.inr 3), some (.inl 0)]), (11, 200, []), (11, 200, []), (12, 200, [])]) dX4_init_36 rfl rfl rfl (fun f h1 h2 => ⟨h1, h2⟩)
theorem ko_RX6_3 : Cond.methodLink RX6 3 Lib.objectInit ∈ lw_good := lw_goodI (tb1 (List.mem_of_getElem? (i := 161) (by decide +kernel))) rfl
theorem kf_RX6_9 : FldF RX6 9 6 0 := ⟨RX6, TX6, 5, tyX6, rfl, goX6, by decide, lw_goodI (tb1 (List.mem_of_getElem? (i := 162) (by decide +kernel))) rfl, rfl, rfl, tyX6_ok, nmX6, rfl, fun _ => ⟨rfl, rfl⟩, by decide⟩
theorem kg_RX6_15 : Fld RX6 15 6 1 false := ⟨RX6, TX6, 5, tyX6, rfl, goX6, by decide, rfl, lw_goodI (tb1 (List.mem_of_getElem? (i := 163) (by decide +kernel))) rfl, rfl, tyX6_ok, nmX6, (fun _ => ⟨rfl, rfl⟩), by decide⟩
theorem kg_RX6_19 : Fld RX6 19 6 2 false := ⟨RX6, TX6, 5, tyX6, rfl, goX6, by decide, rfl, lw_goodI (tb1 (List.mem_of_getElem? (i := 165) (by decide +kernel))) rfl, rfl, tyX6_ok, nmX6, (fun _ => ⟨rfl, rfl⟩), by decide⟩
theorem kg_RX6_22 : Fld RX6 22 6 3 false := ⟨RX6, TX6, 5, tyX6, rfl, goX6, by decide, rfl, lw_goodI (tb1 (List.mem_of_getElem? (i := 167) (by decide +kernel))) rfl, rfl, tyX6_ok, nmX6, (fun _ => ⟨rfl, rfl⟩), by decide⟩
theorem kg_RX6_25 : Fld RX6 25 6 4 false := ⟨RX6, TX6, 5, tyX6, rfl, goX6, by decide, rfl, lw_goodI (tb1 (List.mem_of_getElem? (i := 169) (by decide +kernel))) rfl, rfl, tyX6_ok, nmX6, (fun _ => ⟨rfl, rfl⟩), by decide⟩
theorem dX6_init_0 : decode cX6_init 0 = .ok (.aload_n 0, 1) := by decide +kernel
theorem dX6_init_1 : decode cX6_init 1 = .ok (.invokespecial 3, 3) := by decide +kernel
theorem dX6_init_4 : decode cX6_init 4 = .ok (.aload_n 0, 1) := by decide +kernel
theorem dX6_init_5 : decode cX6_init 5 = .ok (.bipush 120, 2) := by decide +kernel
theorem dX6_init_7 : decode cX6_init 7 = .ok (.newarray .int, 2) := by decide +kernel
theorem dX6_init_9 : decode cX6_init 9 = .ok (.putfield 9, 3) := by decide +kernel
theorem dX6_init_12 : decode cX6_init 12 = .ok (.aload_n 0, 1) := by decide +kernel
theorem dX6_init_13 : decode cX6_init 13 = .ok (.iconst 0, 1) := by decide +kernel
theorem dX6_init_14 : decode cX6_init 14 = .ok (.putfield 15, 3) := by decide +kernel
theorem dX6_init_17 : decode cX6_init 17 = .ok (.aload_n 0, 1) := by decide +kernel
theorem dX6_init_18 : decode cX6_init 18 = .ok (.iconst 0, 1) := by decide +kernel
theorem dX6_init_19 : decode cX6_init 19 = .ok (.putfield 19, 3) := by decide +kernel
theorem dX6_init_22 : decode cX6_init 22 = .ok (.aload_n 0, 1) := by decide +kernel
theorem dX6_init_23 : decode cX6_init 23 = .ok (.iconst 0, 1) := by decide +kernel
theorem dX6_init_24 : decode cX6_init 24 = .ok (.putfield 22, 3) := by decide +kernel
theorem dX6_init_27 : decode cX6_init 27 = .ok (.aload_n 0, 1) := by decide +kernel
theorem dX6_init_28 : decode cX6_init 28 = .ok (.iconst 0, 1) := by decide +kernel
theorem dX6_init_29 : decode cX6_init 29 = .ok (.putfield 25, 3) := by decide +kernel
theorem dX6_init_32 : decode cX6_init 32 = .ok (.return_, 1) := by decide +kernel
def TB6 : List kent := [(6, 0, [some (.inr 1), some (.inl 0), some (.inl 0), some (.inl 0), some (.inl 0)]), (11, 120, [])]
theorem ki_X6 {E : fxE} {B : Nat} (n : Nat) (f0 : Nat → va_E) (h0 : f0 (B + n) = kcell E (B + n) (6, 0, blk 6)) : kc_Ct E B m_X6_init 1 120 n f0 (kpost E (B + n) f0 TB6) := by
  refine t_ct (C := 6) (by decide) rfl (by decide) h0 ?_
  show kt_At E B m_X6_init 1 120 n f0 0 [some (.inr (B + n + 0))] [] [(6, 0, [none, some (.inl 0), some (.inl 0), some (.inl 0), some (.inl 0)])] 0 _
  refine t_aload_n (pc := 0) (tb := [(6, 0, [none, some (.inl 0), some (.inl 0), some (.inl 0), some (.inl 0)])]) dX6_init_0 rfl rfl ?_
  refine t_init0 (pc := 1) (tb := [(6, 0, [none, some (.inl 0), some (.inl 0), some (.inl 0), some (.inl 0)])]) dX6_init_1 ko_RX6_3 (by decide) (by decide) ?_
  refine t_aload_n (pc := 4) (tb := [(6, 0, [none, some (.inl 0), some (.inl 0), some (.inl 0), some (.inl 0)])]) dX6_init_4 rfl rfl ?_
  refine t_bipush (pc := 5) (tb := [(6, 0, [none, some (.inl 0), some (.inl 0), some (.inl 0), some (.inl 0)])]) dX6_init_5 (by decide +kernel) ?_
  refine t_newiL (pc := 7) (tb := [(6, 0, [none, some (.inl 0), some (.inl 0), some (.inl 0), some (.inl 0)])]) (N := 120) (L := 1) rfl rfl dX6_init_7 (by decide) (by decide) ?_
  refine t_putr (pc := 9) (tb := [(6, 0, [none, some (.inl 0), some (.inl 0), some (.inl 0), some (.inl 0)]), (11, 120, [])]) (o := 0) (o' := 1) dX6_init_9 kf_RX6_9 rfl (by decide) ?_
  refine t_aload_n (pc := 12) (tb := [(6, 0, [some (.inr 1), some (.inl 0), some (.inl 0), some (.inl 0), some (.inl 0)]), (11, 120, [])]) dX6_init_12 rfl rfl ?_
  refine t_iconst (pc := 13) (tb := [(6, 0, [some (.inr 1), some (.inl 0), some (.inl 0), some (.inl 0), some (.inl 0)]), (11, 120, [])]) dX6_init_13 ?_
  refine t_puti (pc := 14) (tb := [(6, 0, [some (.inr 1), some (.inl 0), some (.inl 0), some (.inl 0), some (.inl 0)]), (11, 120, [])]) (o := 0) dX6_init_14 kg_RX6_15 rfl (by decide) ?_
  refine t_aload_n (pc := 17) (tb := [(6, 0, [some (.inr 1), some (.inl 0), some (.inl 0), some (.inl 0), some (.inl 0)]), (11, 120, [])]) dX6_init_17 rfl rfl ?_
  refine t_iconst (pc := 18) (tb := [(6, 0, [some (.inr 1), some (.inl 0), some (.inl 0), some (.inl 0), some (.inl 0)]), (11, 120, [])]) dX6_init_18 ?_
  refine t_puti (pc := 19) (tb := [(6, 0, [some (.inr 1), some (.inl 0), some (.inl 0), some (.inl 0), some (.inl 0)]), (11, 120, [])]) (o := 0) dX6_init_19 kg_RX6_19 rfl (by decide) ?_
  refine t_aload_n (pc := 22) (tb := [(6, 0, [some (.inr 1), some (.inl 0), some (.inl 0), some (.inl 0), some (.inl 0)]), (11, 120, [])]) dX6_init_22 rfl rfl ?_
  refine t_iconst (pc := 23) (tb := [(6, 0, [some (.inr 1), some (.inl 0), some (.inl 0), some (.inl 0), some (.inl 0)]), (11, 120, [])]) dX6_init_23 ?_
  refine t_puti (pc := 24) (tb := [(6, 0, [some (.inr 1), some (.inl 0), some (.inl 0), some (.inl 0), some (.inl 0)]), (11, 120, [])]) (o := 0) dX6_init_24 kg_RX6_22 rfl (by decide) ?_
  refine t_aload_n (pc := 27) (tb := [(6, 0, [some (.inr 1), some (.inl 0), some (.inl 0), some (.inl 0), some (.inl 0)]), (11, 120, [])]) dX6_init_27 rfl rfl ?_
  refine t_iconst (pc := 28) (tb := [(6, 0, [some (.inr 1), some (.inl 0), some (.inl 0), some (.inl 0), some (.inl 0)]), (11, 120, [])]) dX6_init_28 ?_
  refine t_puti (pc := 29) (tb := [(6, 0, [some (.inr 1), some (.inl 0), some (.inl 0), some (.inl 0), some (.inl 0)]), (11, 120, [])]) (o := 0) dX6_init_29 kg_RX6_25 rfl (by decide) ?_
  exact t_ret (pc := 32) (tb := [(6, 0, [some (.inr 1), some (.inl 0), some (.inl 0), some (.inl 0), some (.inl 0)]), (11, 120, [])]) dX6_init_32 rfl rfl rfl (fun f h1 h2 => ⟨h1, h2⟩)
theorem ko_RX7_3 : Cond.methodLink RX7 3 Lib.objectInit ∈ lw_good := lw_goodI (tb2 (List.mem_of_getElem? (i := 54) (by decide +kernel))) rfl
theorem kf_RX7_9 : FldF RX7 9 7 0 := ⟨RX7, TX7, 3, tyX7, rfl, goX7, by decide, lw_goodI (tb2 (List.mem_of_getElem? (i := 55) (by decide +kernel))) rfl, rfl, rfl, tyX7_ok, nmX7, rfl, fun _ => ⟨rfl, rfl⟩, by decide⟩
theorem kg_RX7_15 : Fld RX7 15 7 1 false := ⟨RX7, TX7, 3, tyX7, rfl, goX7, by decide, rfl, lw_goodI (tb2 (List.mem_of_getElem? (i := 56) (by decide +kernel))) rfl, rfl, tyX7_ok, nmX7, (fun _ => ⟨rfl, rfl⟩), by decide⟩
theorem kg_RX7_19 : Fld RX7 19 7 2 false := ⟨RX7, TX7, 3, tyX7, rfl, goX7, by decide, rfl, lw_goodI (tb2 (List.mem_of_getElem? (i := 58) (by decide +kernel))) rfl, rfl, tyX7_ok, nmX7, (fun _ => ⟨rfl, rfl⟩), by decide⟩
theorem dX7_init_0 : decode cX7_init 0 = .ok (.aload_n 0, 1) := by decide +kernel
theorem dX7_init_1 : decode cX7_init 1 = .ok (.invokespecial 3, 3) := by decide +kernel
theorem dX7_init_4 : decode cX7_init 4 = .ok (.aload_n 0, 1) := by decide +kernel
theorem dX7_init_5 : decode cX7_init 5 = .ok (.sipush 401, 3) := by decide +kernel
theorem dX7_init_8 : decode cX7_init 8 = .ok (.newarray .int, 2) := by decide +kernel
theorem dX7_init_10 : decode cX7_init 10 = .ok (.putfield 9, 3) := by decide +kernel
theorem dX7_init_13 : decode cX7_init 13 = .ok (.aload_n 0, 1) := by decide +kernel
theorem dX7_init_14 : decode cX7_init 14 = .ok (.iconst 0, 1) := by decide +kernel
theorem dX7_init_15 : decode cX7_init 15 = .ok (.putfield 15, 3) := by decide +kernel
theorem dX7_init_18 : decode cX7_init 18 = .ok (.aload_n 0, 1) := by decide +kernel
theorem dX7_init_19 : decode cX7_init 19 = .ok (.iconst (-1), 1) := by decide +kernel
theorem dX7_init_20 : decode cX7_init 20 = .ok (.putfield 19, 3) := by decide +kernel
theorem dX7_init_23 : decode cX7_init 23 = .ok (.return_, 1) := by decide +kernel
def TB7 : List kent := [(7, 0, [some (.inr 1), some (.inl 0), some (.inl (-1))]), (11, 401, [])]
theorem ki_X7 {E : fxE} {B : Nat} (n : Nat) (f0 : Nat → va_E) (h0 : f0 (B + n) = kcell E (B + n) (7, 0, blk 7)) : kc_Ct E B m_X7_init 1 401 n f0 (kpost E (B + n) f0 TB7) := by
  refine t_ct (C := 7) (by decide) rfl (by decide) h0 ?_
  show kt_At E B m_X7_init 1 401 n f0 0 [some (.inr (B + n + 0))] [] [(7, 0, [none, some (.inl 0), some (.inl 0)])] 0 _
  refine t_aload_n (pc := 0) (tb := [(7, 0, [none, some (.inl 0), some (.inl 0)])]) dX7_init_0 rfl rfl ?_
  refine t_init0 (pc := 1) (tb := [(7, 0, [none, some (.inl 0), some (.inl 0)])]) dX7_init_1 ko_RX7_3 (by decide) (by decide) ?_
  refine t_aload_n (pc := 4) (tb := [(7, 0, [none, some (.inl 0), some (.inl 0)])]) dX7_init_4 rfl rfl ?_
  refine t_sipush (pc := 5) (tb := [(7, 0, [none, some (.inl 0), some (.inl 0)])]) dX7_init_5 (by decide +kernel) ?_
  refine t_newiL (pc := 8) (tb := [(7, 0, [none, some (.inl 0), some (.inl 0)])]) (N := 401) (L := 1) rfl rfl dX7_init_8 (by decide) (by decide) ?_
  refine t_putr (pc := 10) (tb := [(7, 0, [none, some (.inl 0), some (.inl 0)]), (11, 401, [])]) (o := 0) (o' := 1) dX7_init_10 kf_RX7_9 rfl (by decide) ?_
  refine t_aload_n (pc := 13) (tb := [(7, 0, [some (.inr 1), some (.inl 0), some (.inl 0)]), (11, 401, [])]) dX7_init_13 rfl rfl ?_
  refine t_iconst (pc := 14) (tb := [(7, 0, [some (.inr 1), some (.inl 0), some (.inl 0)]), (11, 401, [])]) dX7_init_14 ?_
  refine t_puti (pc := 15) (tb := [(7, 0, [some (.inr 1), some (.inl 0), some (.inl 0)]), (11, 401, [])]) (o := 0) dX7_init_15 kg_RX7_15 rfl (by decide) ?_
  refine t_aload_n (pc := 18) (tb := [(7, 0, [some (.inr 1), some (.inl 0), some (.inl 0)]), (11, 401, [])]) dX7_init_18 rfl rfl ?_
  refine t_iconst (pc := 19) (tb := [(7, 0, [some (.inr 1), some (.inl 0), some (.inl 0)]), (11, 401, [])]) dX7_init_19 ?_
  refine t_puti (pc := 20) (tb := [(7, 0, [some (.inr 1), some (.inl 0), some (.inl 0)]), (11, 401, [])]) (o := 0) dX7_init_20 kg_RX7_19 rfl (by decide) ?_
  exact t_ret (pc := 23) (tb := [(7, 0, [some (.inr 1), some (.inl 0), some (.inl (-1))]), (11, 401, [])]) dX7_init_23 rfl rfl rfl (fun f h1 h2 => ⟨h1, h2⟩)
theorem ko_RX8_3 : Cond.methodLink RX8 3 Lib.objectInit ∈ lw_good := lw_goodI (tb1 (List.mem_of_getElem? (i := 214) (by decide +kernel))) rfl
theorem kf_RX8_9 : FldF RX8 9 8 0 := ⟨RX8, TX8, 9, tyX8, rfl, goX8, by decide, lw_goodI (tb1 (List.mem_of_getElem? (i := 215) (by decide +kernel))) rfl, rfl, rfl, tyX8_ok, nmX8, rfl, fun _ => ⟨rfl, rfl⟩, by decide⟩
theorem kf_RX8_15 : FldF RX8 15 8 1 := ⟨RX8, TX8, 9, tyX8, rfl, goX8, by decide, lw_goodI (tb1 (List.mem_of_getElem? (i := 216) (by decide +kernel))) rfl, rfl, rfl, tyX8_ok, nmX8, rfl, fun _ => ⟨rfl, rfl⟩, by decide⟩
theorem kf_RX8_18 : FldF RX8 18 8 2 := ⟨RX8, TX8, 9, tyX8, rfl, goX8, by decide, lw_goodI (tb1 (List.mem_of_getElem? (i := 217) (by decide +kernel))) rfl, rfl, rfl, tyX8_ok, nmX8, rfl, fun _ => ⟨rfl, rfl⟩, by decide⟩
theorem kf_RX8_21 : FldF RX8 21 8 3 := ⟨RX8, TX8, 9, tyX8, rfl, goX8, by decide, lw_goodI (tb1 (List.mem_of_getElem? (i := 219) (by decide +kernel))) rfl, rfl, rfl, tyX8_ok, nmX8, rfl, fun _ => ⟨rfl, rfl⟩, by decide⟩
theorem kg_RX8_24 : Fld RX8 24 8 4 false := ⟨RX8, TX8, 9, tyX8, rfl, goX8, by decide, rfl, lw_goodI (tb1 (List.mem_of_getElem? (i := 221) (by decide +kernel))) rfl, rfl, tyX8_ok, nmX8, (fun _ => ⟨rfl, rfl⟩), by decide⟩
theorem kg_RX8_28 : Fld RX8 28 8 5 false := ⟨RX8, TX8, 9, tyX8, rfl, goX8, by decide, rfl, lw_goodI (tb1 (List.mem_of_getElem? (i := 223) (by decide +kernel))) rfl, rfl, tyX8_ok, nmX8, (fun _ => ⟨rfl, rfl⟩), by decide⟩
theorem kg_RX8_31 : Fld RX8 31 8 6 false := ⟨RX8, TX8, 9, tyX8, rfl, goX8, by decide, rfl, lw_goodI (tb1 (List.mem_of_getElem? (i := 224) (by decide +kernel))) rfl, rfl, tyX8_ok, nmX8, (fun _ => ⟨rfl, rfl⟩), by decide⟩
theorem kg_RX8_34 : Fld RX8 34 8 7 false := ⟨RX8, TX8, 9, tyX8, rfl, goX8, by decide, rfl, lw_goodI (tb1 (List.mem_of_getElem? (i := 225) (by decide +kernel))) rfl, rfl, tyX8_ok, nmX8, (fun _ => ⟨rfl, rfl⟩), by decide⟩
theorem kg_RX8_37 : Fld RX8 37 8 8 false := ⟨RX8, TX8, 9, tyX8, rfl, goX8, by decide, rfl, lw_goodI (tb1 (List.mem_of_getElem? (i := 227) (by decide +kernel))) rfl, rfl, tyX8_ok, nmX8, (fun _ => ⟨rfl, rfl⟩), by decide⟩
theorem dX8_init_0 : decode cX8_init 0 = .ok (.aload_n 0, 1) := by decide +kernel
theorem dX8_init_1 : decode cX8_init 1 = .ok (.invokespecial 3, 3) := by decide +kernel
theorem dX8_init_4 : decode cX8_init 4 = .ok (.aload_n 0, 1) := by decide +kernel
theorem dX8_init_5 : decode cX8_init 5 = .ok (.sipush 301, 3) := by decide +kernel
theorem dX8_init_8 : decode cX8_init 8 = .ok (.newarray .int, 2) := by decide +kernel
theorem dX8_init_10 : decode cX8_init 10 = .ok (.putfield 9, 3) := by decide +kernel
theorem dX8_init_13 : decode cX8_init 13 = .ok (.aload_n 0, 1) := by decide +kernel
theorem dX8_init_14 : decode cX8_init 14 = .ok (.sipush 300, 3) := by decide +kernel
theorem dX8_init_17 : decode cX8_init 17 = .ok (.newarray .int, 2) := by decide +kernel
theorem dX8_init_19 : decode cX8_init 19 = .ok (.putfield 15, 3) := by decide +kernel
theorem dX8_init_22 : decode cX8_init 22 = .ok (.aload_n 0, 1) := by decide +kernel
theorem dX8_init_23 : decode cX8_init 23 = .ok (.bipush 10, 2) := by decide +kernel
theorem dX8_init_25 : decode cX8_init 25 = .ok (.newarray .int, 2) := by decide +kernel
theorem dX8_init_27 : decode cX8_init 27 = .ok (.putfield 18, 3) := by decide +kernel
theorem dX8_init_30 : decode cX8_init 30 = .ok (.aload_n 0, 1) := by decide +kernel
theorem dX8_init_31 : decode cX8_init 31 = .ok (.bipush 10, 2) := by decide +kernel
theorem dX8_init_33 : decode cX8_init 33 = .ok (.newarray .int, 2) := by decide +kernel
theorem dX8_init_35 : decode cX8_init 35 = .ok (.putfield 21, 3) := by decide +kernel
theorem dX8_init_38 : decode cX8_init 38 = .ok (.aload_n 0, 1) := by decide +kernel
theorem dX8_init_39 : decode cX8_init 39 = .ok (.iconst 0, 1) := by decide +kernel
theorem dX8_init_40 : decode cX8_init 40 = .ok (.putfield 24, 3) := by decide +kernel
theorem dX8_init_43 : decode cX8_init 43 = .ok (.aload_n 0, 1) := by decide +kernel
theorem dX8_init_44 : decode cX8_init 44 = .ok (.iconst 0, 1) := by decide +kernel
theorem dX8_init_45 : decode cX8_init 45 = .ok (.putfield 28, 3) := by decide +kernel
theorem dX8_init_48 : decode cX8_init 48 = .ok (.aload_n 0, 1) := by decide +kernel
theorem dX8_init_49 : decode cX8_init 49 = .ok (.iconst 0, 1) := by decide +kernel
theorem dX8_init_50 : decode cX8_init 50 = .ok (.putfield 31, 3) := by decide +kernel
theorem dX8_init_53 : decode cX8_init 53 = .ok (.aload_n 0, 1) := by decide +kernel
theorem dX8_init_54 : decode cX8_init 54 = .ok (.iconst 0, 1) := by decide +kernel
theorem dX8_init_55 : decode cX8_init 55 = .ok (.putfield 34, 3) := by decide +kernel
theorem dX8_init_58 : decode cX8_init 58 = .ok (.aload_n 0, 1) := by decide +kernel
theorem dX8_init_59 : decode cX8_init 59 = .ok (.iconst (-1), 1) := by decide +kernel
theorem dX8_init_60 : decode cX8_init 60 = .ok (.putfield 37, 3) := by decide +kernel
theorem dX8_init_63 : decode cX8_init 63 = .ok (.return_, 1) := by decide +kernel
def TB8 : List kent := [(8, 0, [some (.inr 1), some (.inr 2), some (.inr 3), some (.inr 4), some (.inl 0), some (.inl 0), some (.inl 0), some (.inl 0), some (.inl (-1))]), (11, 301, []), (11, 300, []), (11, 10, []), (11, 10, [])]
theorem ki_X8 {E : fxE} {B : Nat} (n : Nat) (f0 : Nat → va_E) (h0 : f0 (B + n) = kcell E (B + n) (8, 0, blk 8)) : kc_Ct E B m_X8_init 4 621 n f0 (kpost E (B + n) f0 TB8) := by
  refine t_ct (C := 8) (by decide) rfl (by decide) h0 ?_
  show kt_At E B m_X8_init 4 621 n f0 0 [some (.inr (B + n + 0))] [] [(8, 0, [none, none, none, none, some (.inl 0), some (.inl 0), some (.inl 0), some (.inl 0), some (.inl 0)])] 0 _
  refine t_aload_n (pc := 0) (tb := [(8, 0, [none, none, none, none, some (.inl 0), some (.inl 0), some (.inl 0), some (.inl 0), some (.inl 0)])]) dX8_init_0 rfl rfl ?_
  refine t_init0 (pc := 1) (tb := [(8, 0, [none, none, none, none, some (.inl 0), some (.inl 0), some (.inl 0), some (.inl 0), some (.inl 0)])]) dX8_init_1 ko_RX8_3 (by decide) (by decide) ?_
  refine t_aload_n (pc := 4) (tb := [(8, 0, [none, none, none, none, some (.inl 0), some (.inl 0), some (.inl 0), some (.inl 0), some (.inl 0)])]) dX8_init_4 rfl rfl ?_
  refine t_sipush (pc := 5) (tb := [(8, 0, [none, none, none, none, some (.inl 0), some (.inl 0), some (.inl 0), some (.inl 0), some (.inl 0)])]) dX8_init_5 (by decide +kernel) ?_
  refine t_newiL (pc := 8) (tb := [(8, 0, [none, none, none, none, some (.inl 0), some (.inl 0), some (.inl 0), some (.inl 0), some (.inl 0)])]) (N := 301) (L := 1) rfl rfl dX8_init_8 (by decide) (by decide) ?_
  refine t_putr (pc := 10) (tb := [(8, 0, [none, none, none, none, some (.inl 0), some (.inl 0), some (.inl 0), some (.inl 0), some (.inl 0)]), (11, 301, [])]) (o := 0) (o' := 1) dX8_init_10 kf_RX8_9 rfl (by decide) ?_
  refine t_aload_n (pc := 13) (tb := [(8, 0, [some (.inr 1), none, none, none, some (.inl 0), some (.inl 0), some (.inl 0), some (.inl 0), some (.inl 0)]), (11, 301, [])]) dX8_init_13 rfl rfl ?_
  refine t_sipush (pc := 14) (tb := [(8, 0, [some (.inr 1), none, none, none, some (.inl 0), some (.inl 0), some (.inl 0), some (.inl 0), some (.inl 0)]), (11, 301, [])]) dX8_init_14 (by decide +kernel) ?_
  refine t_newiL (pc := 17) (tb := [(8, 0, [some (.inr 1), none, none, none, some (.inl 0), some (.inl 0), some (.inl 0), some (.inl 0), some (.inl 0)]), (11, 301, [])]) (N := 300) (L := 2) rfl rfl dX8_init_17 (by decide) (by decide) ?_
  refine t_putr (pc := 19) (tb := [(8, 0, [some (.inr 1), none, none, none, some (.inl 0), some (.inl 0), some (.inl 0), some (.inl 0), some (.inl 0)]), (11, 301, []), (11, 300, [])]) (o := 0) (o' := 2) dX8_init_19 kf_RX8_15 rfl (by decide) ?_
  refine t_aload_n (pc := 22) (tb := [(8, 0, [some (.inr 1), some (.inr 2), none, none, some (.inl 0), some (.inl 0), some (.inl 0), some (.inl 0), some (.inl 0)]), (11, 301, []), (11, 300, [])]) dX8_init_22 rfl rfl ?_
  refine t_bipush (pc := 23) (tb := [(8, 0, [some (.inr 1), some (.inr 2), none, none, some (.inl 0), some (.inl 0), some (.inl 0), some (.inl 0), some (.inl 0)]), (11, 301, []), (11, 300, [])]) dX8_init_23 (by decide +kernel) ?_
  refine t_newiL (pc := 25) (tb := [(8, 0, [some (.inr 1), some (.inr 2), none, none, some (.inl 0), some (.inl 0), some (.inl 0), some (.inl 0), some (.inl 0)]), (11, 301, []), (11, 300, [])]) (N := 10) (L := 3) rfl rfl dX8_init_25 (by decide) (by decide) ?_
  refine t_putr (pc := 27) (tb := [(8, 0, [some (.inr 1), some (.inr 2), none, none, some (.inl 0), some (.inl 0), some (.inl 0), some (.inl 0), some (.inl 0)]), (11, 301, []), (11, 300, []), (11, 10, [])]) (o := 0) (o' := 3) dX8_init_27 kf_RX8_18 rfl (by decide) ?_
  refine t_aload_n (pc := 30) (tb := [(8, 0, [some (.inr 1), some (.inr 2), some (.inr 3), none, some (.inl 0), some (.inl 0), some (.inl 0), some (.inl 0), some (.inl 0)]), (11, 301, []), (11, 300, []), (11, 10, [])]) dX8_init_30 rfl rfl ?_
  refine t_bipush (pc := 31) (tb := [(8, 0, [some (.inr 1), some (.inr 2), some (.inr 3), none, some (.inl 0), some (.inl 0), some (.inl 0), some (.inl 0), some (.inl 0)]), (11, 301, []), (11, 300, []), (11, 10, [])]) dX8_init_31 (by decide +kernel) ?_
  refine t_newiL (pc := 33) (tb := [(8, 0, [some (.inr 1), some (.inr 2), some (.inr 3), none, some (.inl 0), some (.inl 0), some (.inl 0), some (.inl 0), some (.inl 0)]), (11, 301, []), (11, 300, []), (11, 10, [])]) (N := 10) (L := 4) rfl rfl dX8_init_33 (by decide) (by decide) ?_
  refine t_putr (pc := 35) (tb := [(8, 0, [some (.inr 1), some (.inr 2), some (.inr 3), none, some (.inl 0), some (.inl 0), some (.inl 0), some (.inl 0), some (.inl 0)]), (11, 301, []), (11, 300, []), (11, 10, []), (11, 10, [])]) (o := 0) (o' := 4) dX8_init_35 kf_RX8_21 rfl (by decide) ?_
  refine t_aload_n (pc := 38) (tb := [(8, 0, [some (.inr 1), some (.inr 2), some (.inr 3), some (.inr 4), some (.inl 0), some (.inl 0), some (.inl 0), some (.inl 0), some (.inl 0)]), (11, 301, []), (11, 300, []), (11, 10, []), (11, 10, [])]) dX8_init_38 rfl rfl ?_
  refine t_iconst (pc := 39) (tb := [(8, 0, [some (.inr 1), some (.inr 2), some (.inr 3), some (.inr 4), some (.inl 0), some (.inl 0), some (.inl 0), some (.inl 0), some (.inl 0)]), (11, 301, []), (11, 300, []), (11, 10, []), (11, 10, [])]) dX8_init_39 ?_
  refine t_puti (pc := 40) (tb := [(8, 0, [some (.inr 1), some (.inr 2), some (.inr 3), some (.inr 4), some (.inl 0), some (.inl 0), some (.inl 0), some (.inl 0), some (.inl 0)]), (11, 301, []), (11, 300, []), (11, 10, []), (11, 10, [])]) (o := 0) dX8_init_40 kg_RX8_24 rfl (by decide) ?_
  refine t_aload_n (pc := 43) (tb := [(8, 0, [some (.inr 1), some (.inr 2), some (.inr 3), some (.inr 4), some (.inl 0), some (.inl 0), some (.inl 0), some (.inl 0), some (.inl 0)]), (11, 301, []), (11, 300, []), (11, 10, []), (11, 10, [])]) dX8_init_43 rfl rfl ?_
  refine t_iconst (pc := 44) (tb := [(8, 0, [some (.inr 1), some (.inr 2), some (.inr 3), some (.inr 4), some (.inl 0), some (.inl 0), some (.inl 0), some (.inl 0), some (.inl 0)]), (11, 301, []), (11, 300, []), (11, 10, []), (11, 10, [])]) dX8_init_44 ?_
  refine t_puti (pc := 45) (tb := [(8, 0, [some (.inr 1), some (.inr 2), some (.inr 3), some (.inr 4), some (.inl 0), some (.inl 0), some (.inl 0), some (.inl 0), some (.inl 0)]), (11, 301, []), (11, 300, []), (11, 10, []), (11, 10, [])]) (o := 0) dX8_init_45 kg_RX8_28 rfl (by decide) ?_
  refine t_aload_n (pc := 48) (tb := [(8, 0, [some (.inr 1), some (.inr 2), some (.inr 3), some (.inr 4), some (.inl 0), some (.inl 0), some (.inl 0), some (.inl 0), some (.inl 0)]), (11, 301, []), (11, 300, []), (11, 10, []), (11, 10, [])]) dX8_init_48 rfl rfl ?_
  refine t_iconst (pc := 49) (tb := [(8, 0, [some (.inr 1), some (.inr 2), some (.inr 3), some (.inr 4), some (.inl 0), some (.inl 0), some (.inl 0), some (.inl 0), some (.inl 0)]), (11, 301, []), (11, 300, []), (11, 10, []), (11, 10, [])]) dX8_init_49 ?_
  refine t_puti (pc := 50) (tb := [(8, 0, [some (.inr 1), some (.inr 2), some (.inr 3), some (.inr 4), some (.inl 0), some (.inl 0), some (.inl 0), some (.inl 0), some (.inl 0)]), (11, 301, []), (11, 300, []), (11, 10, []), (11, 10, [])]) (o := 0) dX8_init_50 kg_RX8_31 rfl (by decide) ?_
  refine t_aload_n (pc := 53) (tb := [(8, 0, [some (.inr 1), some (.inr 2), some (.inr 3), some (.inr 4), some (.inl 0), some (.inl 0), some (.inl 0), some (.inl 0), some (.inl 0)]), (11, 301, []), (11, 300, []), (11, 10, []), (11, 10, [])]) dX8_init_53 rfl rfl ?_
  refine t_iconst (pc := 54) (tb := [(8, 0, [some (.inr 1), some (.inr 2), some (.inr 3), some (.inr 4), some (.inl 0), some (.inl 0), some (.inl 0), some (.inl 0), some (.inl 0)]), (11, 301, []), (11, 300, []), (11, 10, []), (11, 10, [])]) dX8_init_54 ?_
  refine t_puti (pc := 55) (tb := [(8, 0, [some (.inr 1), some (.inr 2), some (.inr 3), some (.inr 4), some (.inl 0), some (.inl 0), some (.inl 0), some (.inl 0), some (.inl 0)]), (11, 301, []), (11, 300, []), (11, 10, []), (11, 10, [])]) (o := 0) dX8_init_55 kg_RX8_34 rfl (by decide) ?_
  refine t_aload_n (pc := 58) (tb := [(8, 0, [some (.inr 1), some (.inr 2), some (.inr 3), some (.inr 4), some (.inl 0), some (.inl 0), some (.inl 0), some (.inl 0), some (.inl 0)]), (11, 301, []), (11, 300, []), (11, 10, []), (11, 10, [])]) dX8_init_58 rfl rfl ?_
  refine t_iconst (pc := 59) (tb := [(8, 0, [some (.inr 1), some (.inr 2), some (.inr 3), some (.inr 4), some (.inl 0), some (.inl 0), some (.inl 0), some (.inl 0), some (.inl 0)]), (11, 301, []), (11, 300, []), (11, 10, []), (11, 10, [])]) dX8_init_59 ?_
  refine t_puti (pc := 60) (tb := [(8, 0, [some (.inr 1), some (.inr 2), some (.inr 3), some (.inr 4), some (.inl 0), some (.inl 0), some (.inl 0), some (.inl 0), some (.inl 0)]), (11, 301, []), (11, 300, []), (11, 10, []), (11, 10, [])]) (o := 0) dX8_init_60 kg_RX8_37 rfl (by decide) ?_
  exact t_ret (pc := 63) (tb := [(8, 0, [some (.inr 1), some (.inr 2), some (.inr 3), some (.inr 4), some (.inl 0), some (.inl 0), some (.inl 0), some (.inl 0), some (.inl (-1))]), (11, 301, []), (11, 300, []), (11, 10, []), (11, 10, [])]) dX8_init_63 rfl rfl rfl (fun f h1 h2 => ⟨h1, h2⟩)
theorem ko_RX5_1 : Cond.methodLink RX5 1 Lib.objectInit ∈ lw_good := lw_goodI (tb1 (List.mem_of_getElem? (i := 28) (by decide +kernel))) rfl
theorem kn_RX5_7 : Nw RX5 7 2 11 := ⟨RX2, TX2, tyX2, rfl, goX2, lw_goodI (tb1 (List.mem_of_getElem? (i := 29) (by decide +kernel))) rfl, lw_goodI (tb1 (List.mem_of_getElem? (i := 30) (by decide +kernel))) rfl, lw_goodI (tb1 (List.mem_of_getElem? (i := 3) (by decide +kernel))) rfl, tyX2_ok, by decide +kernel, by decide⟩
theorem kc_RX5_9 : CalI RX5 9 m_X2_init := ⟨Or.inl (by decide +kernel), rfl, rfl, lw_goodI (tb1 (List.mem_of_getElem? (i := 32) (by decide +kernel))) rfl, lw_goodI (tb1 (List.mem_of_getElem? (i := 3) (by decide +kernel))) rfl, lw_goodI (tb1 (List.mem_of_getElem? (i := 33) (by decide +kernel))) rfl, ⟨by decide, by decide, by decide +kernel⟩⟩
theorem kf_RX5_10 : FldF RX5 10 5 0 := ⟨RX5, TX5, 3, tyX5, rfl, goX5, by decide, lw_goodI (tb1 (List.mem_of_getElem? (i := 117) (by decide +kernel))) rfl, rfl, rfl, tyX5_ok, nmX5, rfl, fun _ => ⟨rfl, rfl⟩, by decide⟩
theorem kn_RX5_16 : Nw RX5 16 0 4 := ⟨RX0, TX0, tyX0, rfl, goX0, lw_goodI (tb1 (List.mem_of_getElem? (i := 92) (by decide +kernel))) rfl, lw_goodI (tb1 (List.mem_of_getElem? (i := 93) (by decide +kernel))) rfl, lw_goodI (tb1 (List.mem_of_getElem? (i := 4) (by decide +kernel))) rfl, tyX0_ok, by decide +kernel, by decide⟩
theorem kc_RX5_18 : CalI RX5 18 m_X0_init := ⟨Or.inl (by decide +kernel), rfl, rfl, lw_goodI (tb1 (List.mem_of_getElem? (i := 95) (by decide +kernel))) rfl, lw_goodI (tb1 (List.mem_of_getElem? (i := 4) (by decide +kernel))) rfl, lw_goodI (tb1 (List.mem_of_getElem? (i := 96) (by decide +kernel))) rfl, ⟨by decide, by decide, by decide +kernel⟩⟩
theorem kf_RX5_19 : FldF RX5 19 5 1 := ⟨RX5, TX5, 3, tyX5, rfl, goX5, by decide, lw_goodI (tb1 (List.mem_of_getElem? (i := 119) (by decide +kernel))) rfl, rfl, rfl, tyX5_ok, nmX5, rfl, fun _ => ⟨rfl, rfl⟩, by decide⟩
theorem kf_RX5_29 : FldF RX5 29 5 2 := ⟨RX5, TX5, 3, tyX5, rfl, goX5, by decide, lw_goodI (tb1 (List.mem_of_getElem? (i := 121) (by decide +kernel))) rfl, rfl, rfl, tyX5_ok, nmX5, rfl, fun _ => ⟨rfl, rfl⟩, by decide⟩
theorem dX5_init_0 : decode cX5_init 0 = .ok (.aload_n 0, 1) := by decide +kernel
theorem dX5_init_1 : decode cX5_init 1 = .ok (.invokespecial 1, 3) := by decide +kernel
theorem dX5_init_4 : decode cX5_init 4 = .ok (.aload_n 0, 1) := by decide +kernel
theorem dX5_init_5 : decode cX5_init 5 = .ok (.new 7, 3) := by decide +kernel
theorem dX5_init_8 : decode cX5_init 8 = .ok (.dup, 1) := by decide +kernel
theorem dX5_init_9 : decode cX5_init 9 = .ok (.invokespecial 9, 3) := by decide +kernel
theorem dX5_init_12 : decode cX5_init 12 = .ok (.putfield 10, 3) := by decide +kernel
theorem dX5_init_15 : decode cX5_init 15 = .ok (.aload_n 0, 1) := by decide +kernel
theorem dX5_init_16 : decode cX5_init 16 = .ok (.new 16, 3) := by decide +kernel
theorem dX5_init_19 : decode cX5_init 19 = .ok (.dup, 1) := by decide +kernel
theorem dX5_init_20 : decode cX5_init 20 = .ok (.invokespecial 18, 3) := by decide +kernel
theorem dX5_init_23 : decode cX5_init 23 = .ok (.putfield 19, 3) := by decide +kernel
theorem dX5_init_26 : decode cX5_init 26 = .ok (.aload_n 0, 1) := by decide +kernel
theorem dX5_init_27 : decode cX5_init 27 = .ok (.getstatic 23, 3) := by decide +kernel
theorem dX5_init_30 : decode cX5_init 30 = .ok (.arraylength, 1) := by decide +kernel
theorem dX5_init_31 : decode cX5_init 31 = .ok (.newarray .int, 2) := by decide +kernel
theorem dX5_init_33 : decode cX5_init 33 = .ok (.putfield 29, 3) := by decide +kernel
theorem dX5_init_36 : decode cX5_init 36 = .ok (.return_, 1) := by decide +kernel
def TB5 : List kent := [(5, 0, [some (.inr 1), some (.inr 9), some (.inr 12)]), (2, 0, [some (.inr 2), some (.inr 3), some (.inr 4), some (.inl 0), some (.inr 5), some (.inr 6), some (.inr 7), some (.inr 8), some (.inl 0), some (.inl 0), some (.inl 0)]), (11, 8, []), (11, 8, []), (11, 8, []), (11, 9, []), (11, 9, []), (11, 6, []), (11, 6, []), (0, 0, [some (.inr 10), some (.inr 11), some (.inl 0), some (.inl 0)]), (11, 10, []), (11, 10, []), (11, 4, [])]
theorem ki_X5 {E : fxE} {B : Nat} (n : Nat) (f0 : Nat → va_E) (h0 : f0 (B + n) = kcell E (B + n) (5, 0, blk 5)) : kc_Ct E B m_X5_init 12 93 n f0 (kpost E (B + n) f0 TB5) := by
  refine t_ct (C := 5) (by decide) rfl (by decide) h0 ?_
  show kt_At E B m_X5_init 12 93 n f0 0 [some (.inr (B + n + 0))] [] [(5, 0, [none, none, none])] 0 _
  refine t_aload_n (pc := 0) (tb := [(5, 0, [none, none, none])]) dX5_init_0 rfl rfl ?_
  refine t_init0 (pc := 1) (tb := [(5, 0, [none, none, none])]) dX5_init_1 ko_RX5_1 (by decide) (by decide) ?_
  refine t_aload_n (pc := 4) (tb := [(5, 0, [none, none, none])]) dX5_init_4 rfl rfl ?_
  refine t_newL (pc := 5) (tb := [(5, 0, [none, none, none])]) (L := 1) rfl dX5_init_5 kn_RX5_7 (by decide) ?_
  refine t_dup (pc := 8) (tb := [(5, 0, [none, none, none]), (2, 0, [none, none, none, some (.inl 0), none, none, none, none, some (.inl 0), some (.inl 0), some (.inl 0)])]) dX5_init_8 ?_
  refine t_callIL (pc := 9) (tb := [(5, 0, [none, none, none])]) (L := 1) (C := 2) (TB := TB2) (mc' := 7) (ms' := 54) rfl dX5_init_9 kc_RX5_9 (by decide) (by decide) (Nat.le_of_ble_eq_true rfl) (by decide +kernel) (fun n f h => ki_X2 n f h) ?_
  refine t_putr (pc := 12) (tb := [(5, 0, [none, none, none]), (2, 0, [some (.inr 2), some (.inr 3), some (.inr 4), some (.inl 0), some (.inr 5), some (.inr 6), some (.inr 7), some (.inr 8), some (.inl 0), some (.inl 0), some (.inl 0)]), (11, 8, []), (11, 8, []), (11, 8, []), (11, 9, []), (11, 9, []), (11, 6, []), (11, 6, [])]) (o := 0) (o' := 1) dX5_init_12 kf_RX5_10 rfl (by decide) ?_
  refine t_aload_n (pc := 15) (tb := [(5, 0, [some (.inr 1), none, none]), (2, 0, [some (.inr 2), some (.inr 3), some (.inr 4), some (.inl 0), some (.inr 5), some (.inr 6), some (.inr 7), some (.inr 8), some (.inl 0), some (.inl 0), some (.inl 0)]), (11, 8, []), (11, 8, []), (11, 8, []), (11, 9, []), (11, 9, []), (11, 6, []), (11, 6, [])]) dX5_init_15 rfl rfl ?_
  refine t_newL (pc := 16) (tb := [(5, 0, [some (.inr 1), none, none]), (2, 0, [some (.inr 2), some (.inr 3), some (.inr 4), some (.inl 0), some (.inr 5), some (.inr 6), some (.inr 7), some (.inr 8), some (.inl 0), some (.inl 0), some (.inl 0)]), (11, 8, []), (11, 8, []), (11, 8, []), (11, 9, []), (11, 9, []), (11, 6, []), (11, 6, [])]) (L := 9) rfl dX5_init_16 kn_RX5_16 (by decide) ?_
  refine t_dup (pc := 19) (tb := [(5, 0, [some (.inr 1), none, none]), (2, 0, [some (.inr 2), some (.inr 3), some (.inr 4), some (.inl 0), some (.inr 5), some (.inr 6), some (.inr 7), some (.inr 8), some (.inl 0), some (.inl 0), some (.inl 0)]), (11, 8, []), (11, 8, []), (11, 8, []), (11, 9, []), (11, 9, []), (11, 6, []), (11, 6, []), (0, 0, [none, none, some (.inl 0), some (.inl 0)])]) dX5_init_19 ?_
  refine t_callIL (pc := 20) (tb := [(5, 0, [some (.inr 1), none, none]), (2, 0, [some (.inr 2), some (.inr 3), some (.inr 4), some (.inl 0), some (.inr 5), some (.inr 6), some (.inr 7), some (.inr 8), some (.inl 0), some (.inl 0), some (.inl 0)]), (11, 8, []), (11, 8, []), (11, 8, []), (11, 9, []), (11, 9, []), (11, 6, []), (11, 6, [])]) (L := 9) (C := 0) (TB := TB0) (mc' := 2) (ms' := 20) rfl dX5_init_20 kc_RX5_18 (by decide) (by decide) (Nat.le_of_ble_eq_true rfl) (by decide +kernel) (fun n f h => ki_X0 n f h) ?_
  refine t_putr (pc := 23) (tb := [(5, 0, [some (.inr 1), none, none]), (2, 0, [some (.inr 2), some (.inr 3), some (.inr 4), some (.inl 0), some (.inr 5), some (.inr 6), some (.inr 7), some (.inr 8), some (.inl 0), some (.inl 0), some (.inl 0)]), (11, 8, []), (11, 8, []), (11, 8, []), (11, 9, []), (11, 9, []), (11, 6, []), (11, 6, []), (0, 0, [some (.inr 10), some (.inr 11), some (.inl 0), some (.inl 0)]), (11, 10, []), (11, 10, [])]) (o := 0) (o' := 9) dX5_init_23 kf_RX5_19 rfl (by decide) ?_
  refine t_aload_n (pc := 26) (tb := [(5, 0, [some (.inr 1), some (.inr 9), none]), (2, 0, [some (.inr 2), some (.inr 3), some (.inr 4), some (.inl 0), some (.inr 5), some (.inr 6), some (.inr 7), some (.inr 8), some (.inl 0), some (.inl 0), some (.inl 0)]), (11, 8, []), (11, 8, []), (11, 8, []), (11, 9, []), (11, 9, []), (11, 6, []), (11, 6, []), (0, 0, [some (.inr 10), some (.inr 11), some (.inl 0), some (.inl 0)]), (11, 10, []), (11, 10, [])]) dX5_init_26 rfl rfl ?_
  refine t_gets (pc := 27) (tb := [(5, 0, [some (.inr 1), some (.inr 9), none]), (2, 0, [some (.inr 2), some (.inr 3), some (.inr 4), some (.inl 0), some (.inr 5), some (.inr 6), some (.inr 7), some (.inr 8), some (.inl 0), some (.inl 0), some (.inl 0)]), (11, 8, []), (11, 8, []), (11, 8, []), (11, 9, []), (11, 9, []), (11, 6, []), (11, 6, []), (0, 0, [some (.inr 10), some (.inr 11), some (.inl 0), some (.inl 0)]), (11, 10, []), (11, 10, [])]) rfl dX5_init_27 ?_
  refine t_tlen (pc := 30) (tb := [(5, 0, [some (.inr 1), some (.inr 9), none]), (2, 0, [some (.inr 2), some (.inr 3), some (.inr 4), some (.inl 0), some (.inr 5), some (.inr 6), some (.inr 7), some (.inr 8), some (.inl 0), some (.inl 0), some (.inl 0)]), (11, 8, []), (11, 8, []), (11, 8, []), (11, 9, []), (11, 9, []), (11, 6, []), (11, 6, []), (0, 0, [some (.inr 10), some (.inr 11), some (.inl 0), some (.inl 0)]), (11, 10, []), (11, 10, [])]) dX5_init_30 ?_
  refine t_newiL (pc := 31) (tb := [(5, 0, [some (.inr 1), some (.inr 9), none]), (2, 0, [some (.inr 2), some (.inr 3), some (.inr 4), some (.inl 0), some (.inr 5), some (.inr 6), some (.inr 7), some (.inr 8), some (.inl 0), some (.inl 0), some (.inl 0)]), (11, 8, []), (11, 8, []), (11, 8, []), (11, 9, []), (11, 9, []), (11, 6, []), (11, 6, []), (0, 0, [some (.inr 10), some (.inr 11), some (.inl 0), some (.inl 0)]), (11, 10, []), (11, 10, [])]) (N := 4) (L := 12) rfl rfl dX5_init_31 (by decide) (by decide) ?_
  refine t_putr (pc := 33) (tb := [(5, 0, [some (.inr 1), some (.inr 9), none]), (2, 0, [some (.inr 2), some (.inr 3), some (.inr 4), some (.inl 0), some (.inr 5), some (.inr 6), some (.inr 7), some (.inr 8), some (.inl 0), some (.inl 0), some (.inl 0)]), (11, 8, []), (11, 8, []), (11, 8, []), (11, 9, []), (11, 9, []), (11, 6, []), (11, 6, []), (0, 0, [some (.inr 10), some (.inr 11), some (.inl 0), some (.inl 0)]), (11, 10, []), (11, 10, []), (11, 4, [])]) (o := 0) (o' := 12) dX5_init_33 kf_RX5_29 rfl (by decide) ?_
  exact t_ret (pc := 36) (tb := [(5, 0, [some (.inr 1), some (.inr 9), some (.inr 12)]), (2, 0, [some (.inr 2), some (.inr 3), some (.inr 4), some (.inl 0), some (.inr 5), some (.inr 6), some (.inr 7), some (.inr 8), some (.inl 0), some (.inl 0), some (.inl 0)]), (11, 8, []), (11, 8, []), (11, 8, []), (11, 9, []), (11, 9, []), (11, 6, []), (11, 6, []), (0, 0, [some (.inr 10), some (.inr 11), some (.inl 0), some (.inl 0)]), (11, 10, []), (11, 10, []), (11, 4, [])]) dX5_init_36 rfl rfl rfl (fun f h1 h2 => ⟨h1, h2⟩)
theorem dX3_init_0 : decode cX3_init 0 = .ok (.aload_n 0, 1) := by decide +kernel
theorem dX3_init_1 : decode cX3_init 1 = .ok (.invokespecial 3, 3) := by decide +kernel
theorem dX3_init_4 : decode cX3_init 4 = .ok (.aload_n 0, 1) := by decide +kernel
theorem dX3_init_5 : decode cX3_init 5 = .ok (.bipush 8, 2) := by decide +kernel
theorem dX3_init_7 : decode cX3_init 7 = .ok (.anewarray 9, 3) := by decide +kernel
theorem dX3_init_10 : decode cX3_init 10 = .ok (.putfield 11, 3) := by decide +kernel
theorem dX3_init_13 : decode cX3_init 13 = .ok (.aload_n 0, 1) := by decide +kernel
theorem dX3_init_14 : decode cX3_init 14 = .ok (.iconst 0, 1) := by decide +kernel
theorem dX3_init_15 : decode cX3_init 15 = .ok (.putfield 17, 3) := by decide +kernel
theorem dX3_init_18 : decode cX3_init 18 = .ok (.aload_n 0, 1) := by decide +kernel
theorem dX3_init_19 : decode cX3_init 19 = .ok (.iconst 0, 1) := by decide +kernel
theorem dX3_init_20 : decode cX3_init 20 = .ok (.putfield 21, 3) := by decide +kernel
theorem dX3_init_23 : decode cX3_init 23 = .ok (.iconst 0, 1) := by decide +kernel
theorem dX3_init_24 : decode cX3_init 24 = .ok (.istore_n 1, 1) := by decide +kernel
theorem dX3_init_25 : decode cX3_init 25 = .ok (.iload_n 1, 1) := by decide +kernel
theorem dX3_init_26 : decode cX3_init 26 = .ok (.aload_n 0, 1) := by decide +kernel
theorem dX3_init_27 : decode cX3_init 27 = .ok (.getfield 11, 3) := by decide +kernel
theorem dX3_init_30 : decode cX3_init 30 = .ok (.arraylength, 1) := by decide +kernel
theorem dX3_init_31 : decode cX3_init 31 = .ok (.if_icmp .ge 22, 3) := by decide +kernel
theorem dX3_init_34 : decode cX3_init 34 = .ok (.aload_n 0, 1) := by decide +kernel
theorem dX3_init_35 : decode cX3_init 35 = .ok (.getfield 11, 3) := by decide +kernel
theorem dX3_init_38 : decode cX3_init 38 = .ok (.iload_n 1, 1) := by decide +kernel
theorem dX3_init_39 : decode cX3_init 39 = .ok (.new 9, 3) := by decide +kernel
theorem dX3_init_42 : decode cX3_init 42 = .ok (.dup, 1) := by decide +kernel
theorem dX3_init_43 : decode cX3_init 43 = .ok (.invokespecial 24, 3) := by decide +kernel
theorem dX3_init_46 : decode cX3_init 46 = .ok (.aastore, 1) := by decide +kernel
theorem dX3_init_47 : decode cX3_init 47 = .ok (.iinc 1 1, 3) := by decide +kernel
theorem dX3_init_50 : decode cX3_init 50 = .ok (.goto (-25), 3) := by decide +kernel
theorem dX3_init_53 : decode cX3_init 53 = .ok (.return_, 1) := by decide +kernel
theorem ko_RX3_3 : Cond.methodLink RX3 3 Lib.objectInit ∈ lw_good := lw_goodI (tb1 (List.mem_of_getElem? (i := 139) (by decide +kernel))) rfl
theorem ka_RX3_9 : Cond.classLink RX3 9 RX5 ∈ lw_good := lw_goodI (tb1 (List.mem_of_getElem? (i := 140) (by decide +kernel))) rfl
theorem kf_RX3_11 : FldF RX3 11 3 0 := ⟨RX3, TX3, 3, tyX3, rfl, goX3, by decide, lw_goodI (tb1 (List.mem_of_getElem? (i := 143) (by decide +kernel))) rfl, rfl, rfl, tyX3_ok, nmX3, rfl, fun _ => ⟨rfl, rfl⟩, by decide⟩
theorem kg_RX3_17 : Fld RX3 17 3 1 false := ⟨RX3, TX3, 3, tyX3, rfl, goX3, by decide, rfl, lw_goodI (tb1 (List.mem_of_getElem? (i := 144) (by decide +kernel))) rfl, rfl, tyX3_ok, nmX3, (fun _ => ⟨rfl, rfl⟩), by decide⟩
theorem kg_RX3_21 : Fld RX3 21 3 2 false := ⟨RX3, TX3, 3, tyX3, rfl, goX3, by decide, rfl, lw_goodI (tb1 (List.mem_of_getElem? (i := 145) (by decide +kernel))) rfl, rfl, tyX3_ok, nmX3, (fun _ => ⟨rfl, rfl⟩), by decide⟩
def TH1 (i : Nat) : List (Option fxV) := (List.range i).map (fun k => some (.inr (2 + 13 * k)))
def TH (i : Nat) : List kent := (3, 0, [some (.inr 1), some (.inl 0), some (.inl 0)]) :: (14, 8, TH1 i) :: (List.range i).flatMap (fun k => TB5.map (ksh (2 + 13 * k)))
theorem th_1 : ∀ i, i < 8 → (TH i).length = 2 + 13 * i := by decide +kernel
theorem th_2 : ∀ i, i < 8 → (TH i)[0]? = some (3, 0, [some (.inr 1), some (.inl 0), some (.inl 0)]) := fun i _ => rfl
theorem th_3 : ∀ i, i < 8 → (TH i)[1]? = some (14, 8, TH1 i) := fun i _ => rfl
theorem th_4 : ∀ i, i < 8 → (TH i ++ TB5.map (ksh (2 + 13 * i)))[1]? = some (14, 8, TH1 i) := fun i _ => rfl
theorem th_5 : ∀ i, i < 8 → (TH i ++ TB5.map (ksh (2 + 13 * i)))[2 + 13 * i]? = some (5, 0, [some (.inr (2 + 13 * i + 1)), some (.inr (2 + 13 * i + 9)), some (.inr (2 + 13 * i + 12))])
  | 0, _ => rfl
  | 1, _ => rfl
  | 2, _ => rfl
  | 3, _ => rfl
  | 4, _ => rfl
  | 5, _ => rfl
  | 6, _ => rfl
  | 7, _ => rfl
  | i + 8, h => absurd h (by omega)
theorem th_6 : ∀ i, i < 8 → (TH i ++ TB5.map (ksh (2 + 13 * i))).set 1 (14, 8, kput (TH1 i) i (some (.inr (2 + 13 * i)))) = TH (i + 1)
  | 0, _ => rfl
  | 1, _ => rfl
  | 2, _ => rfl
  | 3, _ => rfl
  | 4, _ => rfl
  | 5, _ => rfl
  | 6, _ => rfl
  | 7, _ => rfl
  | i + 8, h => absurd h (by omega)
theorem kn_RX3_9 : Nw RX3 9 5 3 := ⟨RX5, TX5, tyX5, rfl, goX5, lw_goodI (tb1 (List.mem_of_getElem? (i := 140) (by decide +kernel))) rfl, lw_goodI (tb1 (List.mem_of_getElem? (i := 24) (by decide +kernel))) rfl, lw_goodI (tb1 (List.mem_of_getElem? (i := 2) (by decide +kernel))) rfl, tyX5_ok, by decide +kernel, by decide⟩
theorem kc_RX3_24 : CalI RX3 24 m_X5_init := ⟨Or.inl (by decide +kernel), rfl, rfl, lw_goodI (tb1 (List.mem_of_getElem? (i := 26) (by decide +kernel))) rfl, lw_goodI (tb1 (List.mem_of_getElem? (i := 2) (by decide +kernel))) rfl, lw_goodI (tb1 (List.mem_of_getElem? (i := 27) (by decide +kernel))) rfl, ⟨by decide, by decide, by decide +kernel⟩⟩
theorem kg_RX3_11 : Fld RX3 11 3 0 true := ⟨RX3, TX3, 3, tyX3, rfl, goX3, by decide, rfl, lw_goodI (tb1 (List.mem_of_getElem? (i := 143) (by decide +kernel))) rfl, rfl, tyX3_ok, nmX3, (fun h => Bool.noConfusion h), by decide⟩
theorem kl_X3 {E : fxE} {B n : Nat} {f0 : Nat → va_E} : ∀ k i : Nat, i + k = 8 → kt_At E B m_X3_init 105 776 n f0 25 [some (.inr (B + n + 0)), some (.inl (i : Int))] [] (TH i) (8 + i * 96) (kpost E (B + n) f0 (TH 8)) := by
  intro k
  induction k with
  | zero =>
    intro i hi
    obtain rfl : i = 8 := by omega
    refine t_iload_n (pc := 25) dX3_init_25 rfl rfl ?_
    refine t_aload_n (pc := 26) dX3_init_26 rfl rfl ?_
    refine t_getr (pc := 27) (o := 0) (o' := 1) (L := 0) (vs := [some (.inr 1), some (.inl 0), some (.inl 0)]) dX3_init_27 kg_RX3_11 rfl rfl ?_
    refine t_alen (pc := 30) (o := 1) (L := 8) (K := 14) (t0 := 3) (vs := TH1 8) dX3_init_30 rfl (by decide) rfl ?_
    refine t_cge (pc := 31) 53 dX3_init_31 (by decide) ⟨⟨by decide, by decide⟩, ⟨by decide, by decide⟩⟩ (fun _ => ?_) (fun h => absurd (by decide) h)
    exact t_ret (pc := 53) dX3_init_53 rfl (by decide +kernel) rfl (fun f h1 h2 => ⟨h1, h2⟩)
  | succ k ih =>
    intro i hi
    have hi8 : i < 8 := by omega
    have h1 := th_1 i hi8
    have h2 := th_2 i hi8
    have h3 := th_3 i hi8
    have h4 := th_4 i hi8
    have h5 := th_5 i hi8
    have h6 := th_6 i hi8
    refine t_iload_n (pc := 25) dX3_init_25 rfl rfl ?_
    refine t_aload_n (pc := 26) dX3_init_26 rfl rfl ?_
    refine t_getr (pc := 27) (o := 0) (o' := 1) dX3_init_27 kg_RX3_11 h2 rfl ?_
    refine t_alen (pc := 30) (o := 1) (L := 8) (K := 14) (t0 := 3) dX3_init_30 h3 (by decide) rfl ?_
    refine t_cge (pc := 31) 53 dX3_init_31 (by decide) ⟨⟨by omega, by omega⟩, ⟨by decide, by decide⟩⟩ (fun h => absurd h (by omega)) (fun _ => ?_)
    refine t_aload_n (pc := 34) dX3_init_34 rfl rfl ?_
    refine t_getr (pc := 35) (o := 0) (o' := 1) dX3_init_35 kg_RX3_11 h2 rfl ?_
    refine t_iload_n (pc := 38) dX3_init_38 rfl rfl ?_
    refine t_newL (pc := 39) h1 dX3_init_39 kn_RX3_9 ⟨by omega, by omega⟩ ?_
    refine t_dup (pc := 42) dX3_init_42 ?_
    refine t_callIL (pc := 43) (C := 5) (TB := TB5) (mc' := 12) (ms' := 93) h1 dX3_init_43 kc_RX3_24 (by decide) ⟨by omega, by omega⟩ (by show 3 ≤ 8; decide) rfl (fun n f h => ki_X5 n f h) ?_
    refine t_aast (pc := 46) (o := 1) (o' := 2 + 13 * i) (L := 8) (K := 14) (t0 := 3) (C := 5) dX3_init_46 h4 (by decide) rfl h5 (by decide) rfl ⟨by omega, by omega⟩ (by decide) ?_
    rw [Int.toNat_natCast, h6]
    refine t_iinc (pc := 47) (lv' := [some (.inr (B + n + 0)), some (.inl ((i : Int) + 1))]) dX3_init_47 rfl (by decide) rfl ?_
    refine t_goto (pc := 50) 25 dX3_init_50 (by decide) ?_
    have := ih (i + 1) (by omega)
    rw [show 8 + i * 96 + 3 + 93 = 8 + (i + 1) * 96 by omega]
    exact this
def TB3 : List kent := TH 8
theorem ki_X3 {E : fxE} {B : Nat} (n : Nat) (f0 : Nat → va_E) (h0 : f0 (B + n) = kcell E (B + n) (3, 0, blk 3)) : kc_Ct E B m_X3_init 105 776 n f0 (kpost E (B + n) f0 TB3) := by
  refine t_ct (C := 3) (by decide) rfl (by decide) h0 ?_
  show kt_At E B m_X3_init 105 776 n f0 0 [some (.inr (B + n + 0)), none] [] [(3, 0, [none, some (.inl 0), some (.inl 0)])] 0 _
  refine t_aload_n (pc := 0) (tb := [(3, 0, [none, some (.inl 0), some (.inl 0)])]) dX3_init_0 rfl rfl ?_
  refine t_init0 (pc := 1) (tb := [(3, 0, [none, some (.inl 0), some (.inl 0)])]) dX3_init_1 ko_RX3_3 (by decide) (by decide) ?_
  refine t_aload_n (pc := 4) (tb := [(3, 0, [none, some (.inl 0), some (.inl 0)])]) dX3_init_4 rfl rfl ?_
  refine t_bipush (pc := 5) (tb := [(3, 0, [none, some (.inl 0), some (.inl 0)])]) dX3_init_5 (by decide +kernel) ?_
  refine t_newqL (pc := 7) (tb := [(3, 0, [none, some (.inl 0), some (.inl 0)])]) (N := 8) (K := 14) (t0 := 3) (L := 1) rfl rfl dX3_init_7 ka_RX3_9 (by decide +kernel) (by decide) rfl (by decide) (by decide) ?_
  refine t_putr (pc := 10) (tb := [(3, 0, [none, some (.inl 0), some (.inl 0)]), (14, 8, [])]) (o := 0) (o' := 1) dX3_init_10 kf_RX3_11 rfl (by decide) ?_
  refine t_aload_n (pc := 13) (tb := [(3, 0, [some (.inr 1), some (.inl 0), some (.inl 0)]), (14, 8, [])]) dX3_init_13 rfl rfl ?_
  refine t_iconst (pc := 14) (tb := [(3, 0, [some (.inr 1), some (.inl 0), some (.inl 0)]), (14, 8, [])]) dX3_init_14 ?_
  refine t_puti (pc := 15) (tb := [(3, 0, [some (.inr 1), some (.inl 0), some (.inl 0)]), (14, 8, [])]) (o := 0) dX3_init_15 kg_RX3_17 rfl (by decide) ?_
  refine t_aload_n (pc := 18) (tb := [(3, 0, [some (.inr 1), some (.inl 0), some (.inl 0)]), (14, 8, [])]) dX3_init_18 rfl rfl ?_
  refine t_iconst (pc := 19) (tb := [(3, 0, [some (.inr 1), some (.inl 0), some (.inl 0)]), (14, 8, [])]) dX3_init_19 ?_
  refine t_puti (pc := 20) (tb := [(3, 0, [some (.inr 1), some (.inl 0), some (.inl 0)]), (14, 8, [])]) (o := 0) dX3_init_20 kg_RX3_21 rfl (by decide) ?_
  refine t_iconst (pc := 23) dX3_init_23 ?_
  refine t_istore_n (pc := 24) (lv' := [some (.inr (B + n + 0)), some (.inl 0)]) dX3_init_24 rfl (by decide) rfl ?_
  exact kl_X3 8 0 (by omega)
