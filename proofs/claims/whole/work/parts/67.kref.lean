theorem dX10_init_0 : decode cX10_init 0 = .ok (.aload_n 0, 1) := by decide +kernel
theorem dX10_init_1 : decode cX10_init 1 = .ok (.invokespecial 1, 3) := by decide +kernel
theorem dX10_init_4 : decode cX10_init 4 = .ok (.aload_n 0, 1) := by decide +kernel
theorem dX10_init_5 : decode cX10_init 5 = .ok (.bipush 84, 2) := by decide +kernel
theorem dX10_init_7 : decode cX10_init 7 = .ok (.newarray .int, 2) := by decide +kernel
theorem dX10_init_9 : decode cX10_init 9 = .ok (.putfield 7, 3) := by decide +kernel
theorem dX10_init_12 : decode cX10_init 12 = .ok (.aload_n 0, 1) := by decide +kernel
theorem dX10_init_13 : decode cX10_init 13 = .ok (.sipush 672, 3) := by decide +kernel
theorem dX10_init_16 : decode cX10_init 16 = .ok (.newarray .int, 2) := by decide +kernel
theorem dX10_init_18 : decode cX10_init 18 = .ok (.putfield 13, 3) := by decide +kernel
theorem dX10_init_21 : decode cX10_init 21 = .ok (.aload_n 0, 1) := by decide +kernel
theorem dX10_init_22 : decode cX10_init 22 = .ok (.iconst (-1), 1) := by decide +kernel
theorem dX10_init_23 : decode cX10_init 23 = .ok (.putfield 16, 3) := by decide +kernel
theorem dX10_init_26 : decode cX10_init 26 = .ok (.aload_n 0, 1) := by decide +kernel
theorem dX10_init_27 : decode cX10_init 27 = .ok (.bipush 120, 2) := by decide +kernel
theorem dX10_init_29 : decode cX10_init 29 = .ok (.newarray .int, 2) := by decide +kernel
theorem dX10_init_31 : decode cX10_init 31 = .ok (.putfield 20, 3) := by decide +kernel
theorem dX10_init_34 : decode cX10_init 34 = .ok (.aload_n 0, 1) := by decide +kernel
theorem dX10_init_35 : decode cX10_init 35 = .ok (.ldc 23, 2) := by decide +kernel
theorem dX10_init_37 : decode cX10_init 37 = .ok (.putfield 24, 3) := by decide +kernel
theorem dX10_init_40 : decode cX10_init 40 = .ok (.aload_n 0, 1) := by decide +kernel
theorem dX10_init_41 : decode cX10_init 41 = .ok (.ldc 23, 2) := by decide +kernel
theorem dX10_init_43 : decode cX10_init 43 = .ok (.putfield 27, 3) := by decide +kernel
theorem dX10_init_46 : decode cX10_init 46 = .ok (.aload_n 0, 1) := by decide +kernel
theorem dX10_init_47 : decode cX10_init 47 = .ok (.sipush 301, 3) := by decide +kernel
theorem dX10_init_50 : decode cX10_init 50 = .ok (.newarray .int, 2) := by decide +kernel
theorem dX10_init_52 : decode cX10_init 52 = .ok (.putfield 30, 3) := by decide +kernel
theorem dX10_init_55 : decode cX10_init 55 = .ok (.aload_n 0, 1) := by decide +kernel
theorem dX10_init_56 : decode cX10_init 56 = .ok (.sipush 300, 3) := by decide +kernel
theorem dX10_init_59 : decode cX10_init 59 = .ok (.newarray .int, 2) := by decide +kernel
theorem dX10_init_61 : decode cX10_init 61 = .ok (.putfield 33, 3) := by decide +kernel
theorem dX10_init_64 : decode cX10_init 64 = .ok (.aload_n 0, 1) := by decide +kernel
theorem dX10_init_65 : decode cX10_init 65 = .ok (.bipush 20, 2) := by decide +kernel
theorem dX10_init_67 : decode cX10_init 67 = .ok (.newarray .int, 2) := by decide +kernel
theorem dX10_init_69 : decode cX10_init 69 = .ok (.putfield 36, 3) := by decide +kernel
theorem dX10_init_72 : decode cX10_init 72 = .ok (.aload_n 0, 1) := by decide +kernel
theorem dX10_init_73 : decode cX10_init 73 = .ok (.sipush 401, 3) := by decide +kernel
theorem dX10_init_76 : decode cX10_init 76 = .ok (.newarray .int, 2) := by decide +kernel
theorem dX10_init_78 : decode cX10_init 78 = .ok (.putfield 39, 3) := by decide +kernel
theorem dX10_init_81 : decode cX10_init 81 = .ok (.aload_n 0, 1) := by decide +kernel
theorem dX10_init_82 : decode cX10_init 82 = .ok (.sipush 401, 3) := by decide +kernel
theorem dX10_init_85 : decode cX10_init 85 = .ok (.newarray .int, 2) := by decide +kernel
theorem dX10_init_87 : decode cX10_init 87 = .ok (.putfield 42, 3) := by decide +kernel
theorem dX10_init_90 : decode cX10_init 90 = .ok (.aload_n 0, 1) := by decide +kernel
theorem dX10_init_91 : decode cX10_init 91 = .ok (.sipush 2814, 3) := by decide +kernel
theorem dX10_init_94 : decode cX10_init 94 = .ok (.newarray .int, 2) := by decide +kernel
theorem dX10_init_96 : decode cX10_init 96 = .ok (.putfield 45, 3) := by decide +kernel
theorem dX10_init_99 : decode cX10_init 99 = .ok (.aload_n 0, 1) := by decide +kernel
theorem dX10_init_100 : decode cX10_init 100 = .ok (.sipush 402, 3) := by decide +kernel
theorem dX10_init_103 : decode cX10_init 103 = .ok (.newarray .int, 2) := by decide +kernel
theorem dX10_init_105 : decode cX10_init 105 = .ok (.putfield 48, 3) := by decide +kernel
theorem dX10_init_108 : decode cX10_init 108 = .ok (.aload_n 0, 1) := by decide +kernel
theorem dX10_init_109 : decode cX10_init 109 = .ok (.sipush 402, 3) := by decide +kernel
theorem dX10_init_112 : decode cX10_init 112 = .ok (.newarray .int, 2) := by decide +kernel
theorem dX10_init_114 : decode cX10_init 114 = .ok (.putfield 51, 3) := by decide +kernel
theorem dX10_init_117 : decode cX10_init 117 = .ok (.aload_n 0, 1) := by decide +kernel
theorem dX10_init_118 : decode cX10_init 118 = .ok (.bipush 24, 2) := by decide +kernel
theorem dX10_init_120 : decode cX10_init 120 = .ok (.newarray .int, 2) := by decide +kernel
theorem dX10_init_122 : decode cX10_init 122 = .ok (.putfield 54, 3) := by decide +kernel
theorem dX10_init_125 : decode cX10_init 125 = .ok (.aload_n 0, 1) := by decide +kernel
theorem dX10_init_126 : decode cX10_init 126 = .ok (.bipush 100, 2) := by decide +kernel
theorem dX10_init_128 : decode cX10_init 128 = .ok (.bipush 20, 2) := by decide +kernel
theorem dX10_init_130 : decode cX10_init 130 = .ok (.sipush 1000, 3) := by decide +kernel
theorem dX10_init_133 : decode cX10_init 133 = .ok (.invokevirtual 57, 3) := by decide +kernel
theorem dX10_init_136 : decode cX10_init 136 = .ok (.aload_n 0, 1) := by decide +kernel
theorem dX10_init_137 : decode cX10_init 137 = .ok (.getfield 7, 3) := by decide +kernel
theorem dX10_init_140 : decode cX10_init 140 = .ok (.bipush 58, 2) := by decide +kernel
theorem dX10_init_142 : decode cX10_init 142 = .ok (.bipush 20, 2) := by decide +kernel
theorem dX10_init_144 : decode cX10_init 144 = .ok (.iastore, 1) := by decide +kernel
theorem dX10_init_145 : decode cX10_init 145 = .ok (.aload_n 0, 1) := by decide +kernel
theorem dX10_init_146 : decode cX10_init 146 = .ok (.getfield 7, 3) := by decide +kernel
theorem dX10_init_149 : decode cX10_init 149 = .ok (.bipush 59, 2) := by decide +kernel
theorem dX10_init_151 : decode cX10_init 151 = .ok (.bipush 100, 2) := by decide +kernel
theorem dX10_init_153 : decode cX10_init 153 = .ok (.iastore, 1) := by decide +kernel
theorem dX10_init_154 : decode cX10_init 154 = .ok (.aload_n 0, 1) := by decide +kernel
theorem dX10_init_155 : decode cX10_init 155 = .ok (.getfield 7, 3) := by decide +kernel
theorem dX10_init_158 : decode cX10_init 158 = .ok (.bipush 60, 2) := by decide +kernel
theorem dX10_init_160 : decode cX10_init 160 = .ok (.iconst 2, 1) := by decide +kernel
theorem dX10_init_161 : decode cX10_init 161 = .ok (.iastore, 1) := by decide +kernel
theorem dX10_init_162 : decode cX10_init 162 = .ok (.aload_n 0, 1) := by decide +kernel
theorem dX10_init_163 : decode cX10_init 163 = .ok (.getfield 7, 3) := by decide +kernel
theorem dX10_init_166 : decode cX10_init 166 = .ok (.bipush 61, 2) := by decide +kernel
theorem dX10_init_168 : decode cX10_init 168 = .ok (.sipush 1000, 3) := by decide +kernel
theorem dX10_init_171 : decode cX10_init 171 = .ok (.iastore, 1) := by decide +kernel
theorem dX10_init_172 : decode cX10_init 172 = .ok (.aload_n 0, 1) := by decide +kernel
theorem dX10_init_173 : decode cX10_init 173 = .ok (.getfield 7, 3) := by decide +kernel
theorem dX10_init_176 : decode cX10_init 176 = .ok (.bipush 83, 2) := by decide +kernel
theorem dX10_init_178 : decode cX10_init 178 = .ok (.bipush 30, 2) := by decide +kernel
theorem dX10_init_180 : decode cX10_init 180 = .ok (.iastore, 1) := by decide +kernel
theorem dX10_init_181 : decode cX10_init 181 = .ok (.return_, 1) := by decide +kernel
theorem ko_RX10_1 : Cond.methodLink RX10 1 Lib.objectInit ∈ lw_good := lw_goodI (tb4 (List.mem_of_getElem? (i := 63) (by decide +kernel))) rfl
theorem kf_RX10_7 : FldF RX10 7 10 0 := ⟨RX10, TX10, 25, tyX10, rfl, goX10, by decide, lw_goodI (tb4 (List.mem_of_getElem? (i := 77) (by decide +kernel))) rfl, rfl, rfl, tyX10_ok, nmX10, rfl, fun _ => ⟨rfl, rfl⟩, by decide⟩
theorem kf_RX10_13 : FldF RX10 13 10 1 := ⟨RX10, TX10, 25, tyX10, rfl, goX10, by decide, lw_goodI (tb4 (List.mem_of_getElem? (i := 78) (by decide +kernel))) rfl, rfl, rfl, tyX10_ok, nmX10, rfl, fun _ => ⟨rfl, rfl⟩, by decide⟩
theorem kg_RX10_16 : Fld RX10 16 10 3 false := ⟨RX10, TX10, 25, tyX10, rfl, goX10, by decide, rfl, lw_goodI (tb4 (List.mem_of_getElem? (i := 80) (by decide +kernel))) rfl, rfl, tyX10_ok, nmX10, (fun _ => ⟨rfl, rfl⟩), by decide⟩
theorem kf_RX10_20 : FldF RX10 20 10 5 := ⟨RX10, TX10, 25, tyX10, rfl, goX10, by decide, lw_goodI (tb4 (List.mem_of_getElem? (i := 82) (by decide +kernel))) rfl, rfl, rfl, tyX10_ok, nmX10, rfl, fun _ => ⟨rfl, rfl⟩, by decide⟩
theorem kk_RX10_23 : Cond.constant RX10 23 (-1000005) ∈ lw_good := lw_goodI (tb4 (List.mem_of_getElem? (i := 64) (by decide +kernel))) rfl
theorem kg_RX10_24 : Fld RX10 24 10 7 false := ⟨RX10, TX10, 25, tyX10, rfl, goX10, by decide, rfl, lw_goodI (tb4 (List.mem_of_getElem? (i := 84) (by decide +kernel))) rfl, rfl, tyX10_ok, nmX10, (fun _ => ⟨rfl, rfl⟩), by decide⟩
theorem kg_RX10_27 : Fld RX10 27 10 8 false := ⟨RX10, TX10, 25, tyX10, rfl, goX10, by decide, rfl, lw_goodI (tb4 (List.mem_of_getElem? (i := 85) (by decide +kernel))) rfl, rfl, tyX10_ok, nmX10, (fun _ => ⟨rfl, rfl⟩), by decide⟩
theorem kf_RX10_30 : FldF RX10 30 10 9 := ⟨RX10, TX10, 25, tyX10, rfl, goX10, by decide, lw_goodI (tb4 (List.mem_of_getElem? (i := 86) (by decide +kernel))) rfl, rfl, rfl, tyX10_ok, nmX10, rfl, fun _ => ⟨rfl, rfl⟩, by decide⟩
theorem kf_RX10_33 : FldF RX10 33 10 10 := ⟨RX10, TX10, 25, tyX10, rfl, goX10, by decide, lw_goodI (tb4 (List.mem_of_getElem? (i := 87) (by decide +kernel))) rfl, rfl, rfl, tyX10_ok, nmX10, rfl, fun _ => ⟨rfl, rfl⟩, by decide⟩
theorem kf_RX10_36 : FldF RX10 36 10 11 := ⟨RX10, TX10, 25, tyX10, rfl, goX10, by decide, lw_goodI (tb4 (List.mem_of_getElem? (i := 88) (by decide +kernel))) rfl, rfl, rfl, tyX10_ok, nmX10, rfl, fun _ => ⟨rfl, rfl⟩, by decide⟩
theorem kf_RX10_39 : FldF RX10 39 10 13 := ⟨RX10, TX10, 25, tyX10, rfl, goX10, by decide, lw_goodI (tb4 (List.mem_of_getElem? (i := 90) (by decide +kernel))) rfl, rfl, rfl, tyX10_ok, nmX10, rfl, fun _ => ⟨rfl, rfl⟩, by decide⟩
theorem kf_RX10_42 : FldF RX10 42 10 14 := ⟨RX10, TX10, 25, tyX10, rfl, goX10, by decide, lw_goodI (tb4 (List.mem_of_getElem? (i := 91) (by decide +kernel))) rfl, rfl, rfl, tyX10_ok, nmX10, rfl, fun _ => ⟨rfl, rfl⟩, by decide⟩
theorem kf_RX10_45 : FldF RX10 45 10 15 := ⟨RX10, TX10, 25, tyX10, rfl, goX10, by decide, lw_goodI (tb4 (List.mem_of_getElem? (i := 92) (by decide +kernel))) rfl, rfl, rfl, tyX10_ok, nmX10, rfl, fun _ => ⟨rfl, rfl⟩, by decide⟩
theorem kf_RX10_48 : FldF RX10 48 10 17 := ⟨RX10, TX10, 25, tyX10, rfl, goX10, by decide, lw_goodI (tb4 (List.mem_of_getElem? (i := 94) (by decide +kernel))) rfl, rfl, rfl, tyX10_ok, nmX10, rfl, fun _ => ⟨rfl, rfl⟩, by decide⟩
theorem kf_RX10_51 : FldF RX10 51 10 18 := ⟨RX10, TX10, 25, tyX10, rfl, goX10, by decide, lw_goodI (tb4 (List.mem_of_getElem? (i := 95) (by decide +kernel))) rfl, rfl, rfl, tyX10_ok, nmX10, rfl, fun _ => ⟨rfl, rfl⟩, by decide⟩
theorem kf_RX10_54 : FldF RX10 54 10 23 := ⟨RX10, TX10, 25, tyX10, rfl, goX10, by decide, lw_goodI (tb4 (List.mem_of_getElem? (i := 100) (by decide +kernel))) rfl, rfl, rfl, tyX10_ok, nmX10, rfl, fun _ => ⟨rfl, rfl⟩, by decide⟩
def TB10a : List kent := [(10, 0, [some (.inr 1), some (.inr 2), some (.inl 0), some (.inl (-1)), some (.inl 0), some (.inr 3), some (.inl 0), some (.inl (-1000005)), some (.inl (-1000005)), some (.inr 4), some (.inr 5), some (.inr 6), some (.inl 0), some (.inr 7), some (.inr 8), some (.inr 9), some (.inl 0), some (.inr 10), some (.inr 11), some (.inl 0), some (.inl 0), some (.inl 0), some (.inl 0), some (.inr 12), some (.inl 0)]), (11, 84, []), (11, 672, []), (11, 120, []), (11, 301, []), (11, 300, []), (11, 20, []), (11, 401, []), (11, 401, []), (11, 2814, []), (11, 402, []), (11, 402, []), (11, 24, [])]
def iv10 : List (Nat × Nat) := [(99, 0), (0, 0), (0, 1), (0, 5), (0, 9), (0, 10), (0, 11), (0, 13), (0, 14), (0, 15), (0, 17), (0, 18), (0, 23)]
theorem tb10_1 : chk TB10a 0 13 (fun o => iv10.getD o (99, 99)) = true := by decide +kernel
theorem tb10_4 : ∀ t, t ∈ TB10a → t.1 ≤ 16 ∧ t.2.1 < 100000 := smb_ok (by decide +kernel)
theorem tb10_5 : ∀ (o : Nat) (t : kent), TB10a[o]? = some t → (t.1 ≤ 10 ∧ t.2.2.map sk = (lay t.1).map some) ∨ (10 < t.1 ∧ t.1 ≤ 12) := fun o t h => fitb_ok (List.all_eq_true.mp (by decide +kernel : TB10a.all fitb = true) t (List.mem_of_getElem? h))
def TB10b : List kent := [(10, 0, [some (.inr 1), some (.inr 2), some (.inl 0), some (.inl (-1)), some (.inl 0), some (.inr 3), some (.inl 0), some (.inl (-1000005)), some (.inl (-1000005)), some (.inr 4), some (.inr 5), some (.inr 6), some (.inl 0), some (.inr 7), some (.inr 8), some (.inr 9), some (.inl 0), some (.inr 10), some (.inr 11), some (.inl 0), some (.inl 0), some (.inl 0), some (.inl 0), some (.inr 12), some (.inl 0)]), (11, 84, [some (.inl 1), some (.inl 100), some (.inl 20), some (.inl 1000)]), (11, 672, []), (11, 120, []), (11, 301, []), (11, 300, []), (11, 20, []), (11, 401, []), (11, 401, []), (11, 2814, []), (11, 402, []), (11, 402, []), (11, 24, [])]
theorem kg_RX10_7 : Fld RX10 7 10 0 true := ⟨RX10, TX10, 25, tyX10, rfl, goX10, by decide, rfl, lw_goodI (tb4 (List.mem_of_getElem? (i := 77) (by decide +kernel))) rfl, rfl, tyX10_ok, nmX10, (fun h => Bool.noConfusion h), by decide⟩
def w10_58 : List (Option fxV) := kput [some (.inl 1), some (.inl 100), some (.inl 20), some (.inl 1000)] 58 (some (.inl 20))
def u10_1 : List kent := TB10b.set 1 (11, 84, w10_58)
def w10_59 : List (Option fxV) := kput w10_58 59 (some (.inl 100))
def u10_2 : List kent := u10_1.set 1 (11, 84, w10_59)
def w10_60 : List (Option fxV) := kput w10_59 60 (some (.inl 2))
def u10_3 : List kent := u10_2.set 1 (11, 84, w10_60)
def w10_61 : List (Option fxV) := kput w10_60 61 (some (.inl 1000))
def u10_4 : List kent := u10_3.set 1 (11, 84, w10_61)
def w10_83 : List (Option fxV) := kput w10_61 83 (some (.inl 30))
def u10_5 : List kent := u10_4.set 1 (11, 84, w10_83)
theorem w10_eq (g : Nat → Int) (hg : ∀ j, g j = 0) : kci [some (.inl 1), some (.inl 100), some (.inl 20), some (.inl 1000)] = fun j => i3 (wapp (fun j => if j < 58 then 0 else g j) 100 20 1000 j) := by
  funext j
  match j with
  | 0 => rfl
  | 1 => rfl
  | 2 => rfl
  | 3 => rfl
  | j + 4 =>
    have h1 : kci [some (.inl 1), some (.inl 100), some (.inl 20), some (.inl 1000)] (j + 4) = 0 := by simp [kci]
    rw [h1]
    have h2 : wapp (fun j => if j < 58 then 0 else g j) 100 20 1000 (j + 4) = 0 := by
      unfold wapp
      simp [hg]
    rw [h2]; rfl
theorem tb10_6 : ∀ o, o ≠ 1 → TB10b[o]? = TB10a[o]?
  | 0, _ => rfl
  | 1, h => absurd rfl h
  | o + 2, _ => rfl
def TB10 : List kent := u10_5
set_option maxRecDepth 100000 in
theorem ki_X10 {E : fxE} {B : Nat} (n : Nat) (f0 : Nat → va_E) (h0 : f0 (B + n) = kcell E (B + n) (10, 0, blk 10)) : kc_Ct E B m_X10_init 12 5941 n f0 (kpost E (B + n) f0 TB10) := by
  refine t_ct (C := 10) (by decide) rfl (by decide) h0 ?_
  show kt_At E B m_X10_init 12 5941 n f0 0 [some (.inr (B + n + 0))] [] [(10, 0, [none, none, some (.inl 0), some (.inl 0), some (.inl 0), none, some (.inl 0), some (.inl 0), some (.inl 0), none, none, none, some (.inl 0), none, none, none, some (.inl 0), none, none, some (.inl 0), some (.inl 0), some (.inl 0), some (.inl 0), none, some (.inl 0)])] 0 _
  refine t_aload_n (pc := 0) (tb := [(10, 0, [none, none, some (.inl 0), some (.inl 0), some (.inl 0), none, some (.inl 0), some (.inl 0), some (.inl 0), none, none, none, some (.inl 0), none, none, none, some (.inl 0), none, none, some (.inl 0), some (.inl 0), some (.inl 0), some (.inl 0), none, some (.inl 0)])]) dX10_init_0 rfl rfl ?_
  refine t_init0 (pc := 1) (tb := [(10, 0, [none, none, some (.inl 0), some (.inl 0), some (.inl 0), none, some (.inl 0), some (.inl 0), some (.inl 0), none, none, none, some (.inl 0), none, none, none, some (.inl 0), none, none, some (.inl 0), some (.inl 0), some (.inl 0), some (.inl 0), none, some (.inl 0)])]) dX10_init_1 ko_RX10_1 (by decide) (by decide) ?_
  refine t_aload_n (pc := 4) (tb := [(10, 0, [none, none, some (.inl 0), some (.inl 0), some (.inl 0), none, some (.inl 0), some (.inl 0), some (.inl 0), none, none, none, some (.inl 0), none, none, none, some (.inl 0), none, none, some (.inl 0), some (.inl 0), some (.inl 0), some (.inl 0), none, some (.inl 0)])]) dX10_init_4 rfl rfl ?_
  refine t_bipush (pc := 5) (tb := [(10, 0, [none, none, some (.inl 0), some (.inl 0), some (.inl 0), none, some (.inl 0), some (.inl 0), some (.inl 0), none, none, none, some (.inl 0), none, none, none, some (.inl 0), none, none, some (.inl 0), some (.inl 0), some (.inl 0), some (.inl 0), none, some (.inl 0)])]) dX10_init_5 (by decide +kernel) ?_
  refine t_newiL (pc := 7) (tb := [(10, 0, [none, none, some (.inl 0), some (.inl 0), some (.inl 0), none, some (.inl 0), some (.inl 0), some (.inl 0), none, none, none, some (.inl 0), none, none, none, some (.inl 0), none, none, some (.inl 0), some (.inl 0), some (.inl 0), some (.inl 0), none, some (.inl 0)])]) (N := 84) (L := 1) rfl rfl dX10_init_7 (by decide) (by decide) ?_
  refine t_putr (pc := 9) (tb := [(10, 0, [none, none, some (.inl 0), some (.inl 0), some (.inl 0), none, some (.inl 0), some (.inl 0), some (.inl 0), none, none, none, some (.inl 0), none, none, none, some (.inl 0), none, none, some (.inl 0), some (.inl 0), some (.inl 0), some (.inl 0), none, some (.inl 0)]), (11, 84, [])]) (o := 0) (o' := 1) dX10_init_9 kf_RX10_7 rfl (by decide) ?_
  refine t_aload_n (pc := 12) (tb := [(10, 0, [some (.inr 1), none, some (.inl 0), some (.inl 0), some (.inl 0), none, some (.inl 0), some (.inl 0), some (.inl 0), none, none, none, some (.inl 0), none, none, none, some (.inl 0), none, none, some (.inl 0), some (.inl 0), some (.inl 0), some (.inl 0), none, some (.inl 0)]), (11, 84, [])]) dX10_init_12 rfl rfl ?_
  refine t_sipush (pc := 13) (tb := [(10, 0, [some (.inr 1), none, some (.inl 0), some (.inl 0), some (.inl 0), none, some (.inl 0), some (.inl 0), some (.inl 0), none, none, none, some (.inl 0), none, none, none, some (.inl 0), none, none, some (.inl 0), some (.inl 0), some (.inl 0), some (.inl 0), none, some (.inl 0)]), (11, 84, [])]) dX10_init_13 (by decide +kernel) ?_
  refine t_newiL (pc := 16) (tb := [(10, 0, [some (.inr 1), none, some (.inl 0), some (.inl 0), some (.inl 0), none, some (.inl 0), some (.inl 0), some (.inl 0), none, none, none, some (.inl 0), none, none, none, some (.inl 0), none, none, some (.inl 0), some (.inl 0), some (.inl 0), some (.inl 0), none, some (.inl 0)]), (11, 84, [])]) (N := 672) (L := 2) rfl rfl dX10_init_16 (by decide) (by decide) ?_
  refine t_putr (pc := 18) (tb := [(10, 0, [some (.inr 1), none, some (.inl 0), some (.inl 0), some (.inl 0), none, some (.inl 0), some (.inl 0), some (.inl 0), none, none, none, some (.inl 0), none, none, none, some (.inl 0), none, none, some (.inl 0), some (.inl 0), some (.inl 0), some (.inl 0), none, some (.inl 0)]), (11, 84, []), (11, 672, [])]) (o := 0) (o' := 2) dX10_init_18 kf_RX10_13 rfl (by decide) ?_
  refine t_aload_n (pc := 21) (tb := [(10, 0, [some (.inr 1), some (.inr 2), some (.inl 0), some (.inl 0), some (.inl 0), none, some (.inl 0), some (.inl 0), some (.inl 0), none, none, none, some (.inl 0), none, none, none, some (.inl 0), none, none, some (.inl 0), some (.inl 0), some (.inl 0), some (.inl 0), none, some (.inl 0)]), (11, 84, []), (11, 672, [])]) dX10_init_21 rfl rfl ?_
  refine t_iconst (pc := 22) (tb := [(10, 0, [some (.inr 1), some (.inr 2), some (.inl 0), some (.inl 0), some (.inl 0), none, some (.inl 0), some (.inl 0), some (.inl 0), none, none, none, some (.inl 0), none, none, none, some (.inl 0), none, none, some (.inl 0), some (.inl 0), some (.inl 0), some (.inl 0), none, some (.inl 0)]), (11, 84, []), (11, 672, [])]) dX10_init_22 ?_
  refine t_puti (pc := 23) (tb := [(10, 0, [some (.inr 1), some (.inr 2), some (.inl 0), some (.inl 0), some (.inl 0), none, some (.inl 0), some (.inl 0), some (.inl 0), none, none, none, some (.inl 0), none, none, none, some (.inl 0), none, none, some (.inl 0), some (.inl 0), some (.inl 0), some (.inl 0), none, some (.inl 0)]), (11, 84, []), (11, 672, [])]) (o := 0) dX10_init_23 kg_RX10_16 rfl (by decide) ?_
  refine t_aload_n (pc := 26) (tb := [(10, 0, [some (.inr 1), some (.inr 2), some (.inl 0), some (.inl (-1)), some (.inl 0), none, some (.inl 0), some (.inl 0), some (.inl 0), none, none, none, some (.inl 0), none, none, none, some (.inl 0), none, none, some (.inl 0), some (.inl 0), some (.inl 0), some (.inl 0), none, some (.inl 0)]), (11, 84, []), (11, 672, [])]) dX10_init_26 rfl rfl ?_
  refine t_bipush (pc := 27) (tb := [(10, 0, [some (.inr 1), some (.inr 2), some (.inl 0), some (.inl (-1)), some (.inl 0), none, some (.inl 0), some (.inl 0), some (.inl 0), none, none, none, some (.inl 0), none, none, none, some (.inl 0), none, none, some (.inl 0), some (.inl 0), some (.inl 0), some (.inl 0), none, some (.inl 0)]), (11, 84, []), (11, 672, [])]) dX10_init_27 (by decide +kernel) ?_
  refine t_newiL (pc := 29) (tb := [(10, 0, [some (.inr 1), some (.inr 2), some (.inl 0), some (.inl (-1)), some (.inl 0), none, some (.inl 0), some (.inl 0), some (.inl 0), none, none, none, some (.inl 0), none, none, none, some (.inl 0), none, none, some (.inl 0), some (.inl 0), some (.inl 0), some (.inl 0), none, some (.inl 0)]), (11, 84, []), (11, 672, [])]) (N := 120) (L := 3) rfl rfl dX10_init_29 (by decide) (by decide) ?_
  refine t_putr (pc := 31) (tb := [(10, 0, [some (.inr 1), some (.inr 2), some (.inl 0), some (.inl (-1)), some (.inl 0), none, some (.inl 0), some (.inl 0), some (.inl 0), none, none, none, some (.inl 0), none, none, none, some (.inl 0), none, none, some (.inl 0), some (.inl 0), some (.inl 0), some (.inl 0), none, some (.inl 0)]), (11, 84, []), (11, 672, []), (11, 120, [])]) (o := 0) (o' := 3) dX10_init_31 kf_RX10_20 rfl (by decide) ?_
  refine t_aload_n (pc := 34) (tb := [(10, 0, [some (.inr 1), some (.inr 2), some (.inl 0), some (.inl (-1)), some (.inl 0), some (.inr 3), some (.inl 0), some (.inl 0), some (.inl 0), none, none, none, some (.inl 0), none, none, none, some (.inl 0), none, none, some (.inl 0), some (.inl 0), some (.inl 0), some (.inl 0), none, some (.inl 0)]), (11, 84, []), (11, 672, []), (11, 120, [])]) dX10_init_34 rfl rfl ?_
  refine t_ldc (pc := 35) (tb := [(10, 0, [some (.inr 1), some (.inr 2), some (.inl 0), some (.inl (-1)), some (.inl 0), some (.inr 3), some (.inl 0), some (.inl 0), some (.inl 0), none, none, none, some (.inl 0), none, none, none, some (.inl 0), none, none, some (.inl 0), some (.inl 0), some (.inl 0), some (.inl 0), none, some (.inl 0)]), (11, 84, []), (11, 672, []), (11, 120, [])]) (x := -1000005) dX10_init_35 kk_RX10_23 rfl ?_
  refine t_puti (pc := 37) (tb := [(10, 0, [some (.inr 1), some (.inr 2), some (.inl 0), some (.inl (-1)), some (.inl 0), some (.inr 3), some (.inl 0), some (.inl 0), some (.inl 0), none, none, none, some (.inl 0), none, none, none, some (.inl 0), none, none, some (.inl 0), some (.inl 0), some (.inl 0), some (.inl 0), none, some (.inl 0)]), (11, 84, []), (11, 672, []), (11, 120, [])]) (o := 0) dX10_init_37 kg_RX10_24 rfl (by decide) ?_
  refine t_aload_n (pc := 40) (tb := [(10, 0, [some (.inr 1), some (.inr 2), some (.inl 0), some (.inl (-1)), some (.inl 0), some (.inr 3), some (.inl 0), some (.inl (-1000005)), some (.inl 0), none, none, none, some (.inl 0), none, none, none, some (.inl 0), none, none, some (.inl 0), some (.inl 0), some (.inl 0), some (.inl 0), none, some (.inl 0)]), (11, 84, []), (11, 672, []), (11, 120, [])]) dX10_init_40 rfl rfl ?_
  refine t_ldc (pc := 41) (tb := [(10, 0, [some (.inr 1), some (.inr 2), some (.inl 0), some (.inl (-1)), some (.inl 0), some (.inr 3), some (.inl 0), some (.inl (-1000005)), some (.inl 0), none, none, none, some (.inl 0), none, none, none, some (.inl 0), none, none, some (.inl 0), some (.inl 0), some (.inl 0), some (.inl 0), none, some (.inl 0)]), (11, 84, []), (11, 672, []), (11, 120, [])]) (x := -1000005) dX10_init_41 kk_RX10_23 rfl ?_
  refine t_puti (pc := 43) (tb := [(10, 0, [some (.inr 1), some (.inr 2), some (.inl 0), some (.inl (-1)), some (.inl 0), some (.inr 3), some (.inl 0), some (.inl (-1000005)), some (.inl 0), none, none, none, some (.inl 0), none, none, none, some (.inl 0), none, none, some (.inl 0), some (.inl 0), some (.inl 0), some (.inl 0), none, some (.inl 0)]), (11, 84, []), (11, 672, []), (11, 120, [])]) (o := 0) dX10_init_43 kg_RX10_27 rfl (by decide) ?_
  refine t_aload_n (pc := 46) (tb := [(10, 0, [some (.inr 1), some (.inr 2), some (.inl 0), some (.inl (-1)), some (.inl 0), some (.inr 3), some (.inl 0), some (.inl (-1000005)), some (.inl (-1000005)), none, none, none, some (.inl 0), none, none, none, some (.inl 0), none, none, some (.inl 0), some (.inl 0), some (.inl 0), some (.inl 0), none, some (.inl 0)]), (11, 84, []), (11, 672, []), (11, 120, [])]) dX10_init_46 rfl rfl ?_
  refine t_sipush (pc := 47) (tb := [(10, 0, [some (.inr 1), some (.inr 2), some (.inl 0), some (.inl (-1)), some (.inl 0), some (.inr 3), some (.inl 0), some (.inl (-1000005)), some (.inl (-1000005)), none, none, none, some (.inl 0), none, none, none, some (.inl 0), none, none, some (.inl 0), some (.inl 0), some (.inl 0), some (.inl 0), none, some (.inl 0)]), (11, 84, []), (11, 672, []), (11, 120, [])]) dX10_init_47 (by decide +kernel) ?_
  refine t_newiL (pc := 50) (tb := [(10, 0, [some (.inr 1), some (.inr 2), some (.inl 0), some (.inl (-1)), some (.inl 0), some (.inr 3), some (.inl 0), some (.inl (-1000005)), some (.inl (-1000005)), none, none, none, some (.inl 0), none, none, none, some (.inl 0), none, none, some (.inl 0), some (.inl 0), some (.inl 0), some (.inl 0), none, some (.inl 0)]), (11, 84, []), (11, 672, []), (11, 120, [])]) (N := 301) (L := 4) rfl rfl dX10_init_50 (by decide) (by decide) ?_
  refine t_putr (pc := 52) (tb := [(10, 0, [some (.inr 1), some (.inr 2), some (.inl 0), some (.inl (-1)), some (.inl 0), some (.inr 3), some (.inl 0), some (.inl (-1000005)), some (.inl (-1000005)), none, none, none, some (.inl 0), none, none, none, some (.inl 0), none, none, some (.inl 0), some (.inl 0), some (.inl 0), some (.inl 0), none, some (.inl 0)]), (11, 84, []), (11, 672, []), (11, 120, []), (11, 301, [])]) (o := 0) (o' := 4) dX10_init_52 kf_RX10_30 rfl (by decide) ?_
  refine t_aload_n (pc := 55) (tb := [(10, 0, [some (.inr 1), some (.inr 2), some (.inl 0), some (.inl (-1)), some (.inl 0), some (.inr 3), some (.inl 0), some (.inl (-1000005)), some (.inl (-1000005)), some (.inr 4), none, none, some (.inl 0), none, none, none, some (.inl 0), none, none, some (.inl 0), some (.inl 0), some (.inl 0), some (.inl 0), none, some (.inl 0)]), (11, 84, []), (11, 672, []), (11, 120, []), (11, 301, [])]) dX10_init_55 rfl rfl ?_
  refine t_sipush (pc := 56) (tb := [(10, 0, [some (.inr 1), some (.inr 2), some (.inl 0), some (.inl (-1)), some (.inl 0), some (.inr 3), some (.inl 0), some (.inl (-1000005)), some (.inl (-1000005)), some (.inr 4), none, none, some (.inl 0), none, none, none, some (.inl 0), none, none, some (.inl 0), some (.inl 0), some (.inl 0), some (.inl 0), none, some (.inl 0)]), (11, 84, []), (11, 672, []), (11, 120, []), (11, 301, [])]) dX10_init_56 (by decide +kernel) ?_
  refine t_newiL (pc := 59) (tb := [(10, 0, [some (.inr 1), some (.inr 2), some (.inl 0), some (.inl (-1)), some (.inl 0), some (.inr 3), some (.inl 0), some (.inl (-1000005)), some (.inl (-1000005)), some (.inr 4), none, none, some (.inl 0), none, none, none, some (.inl 0), none, none, some (.inl 0), some (.inl 0), some (.inl 0), some (.inl 0), none, some (.inl 0)]), (11, 84, []), (11, 672, []), (11, 120, []), (11, 301, [])]) (N := 300) (L := 5) rfl rfl dX10_init_59 (by decide) (by decide) ?_
  refine t_putr (pc := 61) (tb := [(10, 0, [some (.inr 1), some (.inr 2), some (.inl 0), some (.inl (-1)), some (.inl 0), some (.inr 3), some (.inl 0), some (.inl (-1000005)), some (.inl (-1000005)), some (.inr 4), none, none, some (.inl 0), none, none, none, some (.inl 0), none, none, some (.inl 0), some (.inl 0), some (.inl 0), some (.inl 0), none, some (.inl 0)]), (11, 84, []), (11, 672, []), (11, 120, []), (11, 301, []), (11, 300, [])]) (o := 0) (o' := 5) dX10_init_61 kf_RX10_33 rfl (by decide) ?_
  refine t_aload_n (pc := 64) (tb := [(10, 0, [some (.inr 1), some (.inr 2), some (.inl 0), some (.inl (-1)), some (.inl 0), some (.inr 3), some (.inl 0), some (.inl (-1000005)), some (.inl (-1000005)), some (.inr 4), some (.inr 5), none, some (.inl 0), none, none, none, some (.inl 0), none, none, some (.inl 0), some (.inl 0), some (.inl 0), some (.inl 0), none, some (.inl 0)]), (11, 84, []), (11, 672, []), (11, 120, []), (11, 301, []), (11, 300, [])]) dX10_init_64 rfl rfl ?_
  refine t_bipush (pc := 65) (tb := [(10, 0, [some (.inr 1), some (.inr 2), some (.inl 0), some (.inl (-1)), some (.inl 0), some (.inr 3), some (.inl 0), some (.inl (-1000005)), some (.inl (-1000005)), some (.inr 4), some (.inr 5), none, some (.inl 0), none, none, none, some (.inl 0), none, none, some (.inl 0), some (.inl 0), some (.inl 0), some (.inl 0), none, some (.inl 0)]), (11, 84, []), (11, 672, []), (11, 120, []), (11, 301, []), (11, 300, [])]) dX10_init_65 (by decide +kernel) ?_
  refine t_newiL (pc := 67) (tb := [(10, 0, [some (.inr 1), some (.inr 2), some (.inl 0), some (.inl (-1)), some (.inl 0), some (.inr 3), some (.inl 0), some (.inl (-1000005)), some (.inl (-1000005)), some (.inr 4), some (.inr 5), none, some (.inl 0), none, none, none, some (.inl 0), none, none, some (.inl 0), some (.inl 0), some (.inl 0), some (.inl 0), none, some (.inl 0)]), (11, 84, []), (11, 672, []), (11, 120, []), (11, 301, []), (11, 300, [])]) (N := 20) (L := 6) rfl rfl dX10_init_67 (by decide) (by decide) ?_
  refine t_putr (pc := 69) (tb := [(10, 0, [some (.inr 1), some (.inr 2), some (.inl 0), some (.inl (-1)), some (.inl 0), some (.inr 3), some (.inl 0), some (.inl (-1000005)), some (.inl (-1000005)), some (.inr 4), some (.inr 5), none, some (.inl 0), none, none, none, some (.inl 0), none, none, some (.inl 0), some (.inl 0), some (.inl 0), some (.inl 0), none, some (.inl 0)]), (11, 84, []), (11, 672, []), (11, 120, []), (11, 301, []), (11, 300, []), (11, 20, [])]) (o := 0) (o' := 6) dX10_init_69 kf_RX10_36 rfl (by decide) ?_
  refine t_aload_n (pc := 72) (tb := [(10, 0, [some (.inr 1), some (.inr 2), some (.inl 0), some (.inl (-1)), some (.inl 0), some (.inr 3), some (.inl 0), some (.inl (-1000005)), some (.inl (-1000005)), some (.inr 4), some (.inr 5), some (.inr 6), some (.inl 0), none, none, none, some (.inl 0), none, none, some (.inl 0), some (.inl 0), some (.inl 0), some (.inl 0), none, some (.inl 0)]), (11, 84, []), (11, 672, []), (11, 120, []), (11, 301, []), (11, 300, []), (11, 20, [])]) dX10_init_72 rfl rfl ?_
  refine t_sipush (pc := 73) (tb := [(10, 0, [some (.inr 1), some (.inr 2), some (.inl 0), some (.inl (-1)), some (.inl 0), some (.inr 3), some (.inl 0), some (.inl (-1000005)), some (.inl (-1000005)), some (.inr 4), some (.inr 5), some (.inr 6), some (.inl 0), none, none, none, some (.inl 0), none, none, some (.inl 0), some (.inl 0), some (.inl 0), some (.inl 0), none, some (.inl 0)]), (11, 84, []), (11, 672, []), (11, 120, []), (11, 301, []), (11, 300, []), (11, 20, [])]) dX10_init_73 (by decide +kernel) ?_
  refine t_newiL (pc := 76) (tb := [(10, 0, [some (.inr 1), some (.inr 2), some (.inl 0), some (.inl (-1)), some (.inl 0), some (.inr 3), some (.inl 0), some (.inl (-1000005)), some (.inl (-1000005)), some (.inr 4), some (.inr 5), some (.inr 6), some (.inl 0), none, none, none, some (.inl 0), none, none, some (.inl 0), some (.inl 0), some (.inl 0), some (.inl 0), none, some (.inl 0)]), (11, 84, []), (11, 672, []), (11, 120, []), (11, 301, []), (11, 300, []), (11, 20, [])]) (N := 401) (L := 7) rfl rfl dX10_init_76 (by decide) (by decide) ?_
  refine t_putr (pc := 78) (tb := [(10, 0, [some (.inr 1), some (.inr 2), some (.inl 0), some (.inl (-1)), some (.inl 0), some (.inr 3), some (.inl 0), some (.inl (-1000005)), some (.inl (-1000005)), some (.inr 4), some (.inr 5), some (.inr 6), some (.inl 0), none, none, none, some (.inl 0), none, none, some (.inl 0), some (.inl 0), some (.inl 0), some (.inl 0), none, some (.inl 0)]), (11, 84, []), (11, 672, []), (11, 120, []), (11, 301, []), (11, 300, []), (11, 20, []), (11, 401, [])]) (o := 0) (o' := 7) dX10_init_78 kf_RX10_39 rfl (by decide) ?_
  refine t_aload_n (pc := 81) (tb := [(10, 0, [some (.inr 1), some (.inr 2), some (.inl 0), some (.inl (-1)), some (.inl 0), some (.inr 3), some (.inl 0), some (.inl (-1000005)), some (.inl (-1000005)), some (.inr 4), some (.inr 5), some (.inr 6), some (.inl 0), some (.inr 7), none, none, some (.inl 0), none, none, some (.inl 0), some (.inl 0), some (.inl 0), some (.inl 0), none, some (.inl 0)]), (11, 84, []), (11, 672, []), (11, 120, []), (11, 301, []), (11, 300, []), (11, 20, []), (11, 401, [])]) dX10_init_81 rfl rfl ?_
  refine t_sipush (pc := 82) (tb := [(10, 0, [some (.inr 1), some (.inr 2), some (.inl 0), some (.inl (-1)), some (.inl 0), some (.inr 3), some (.inl 0), some (.inl (-1000005)), some (.inl (-1000005)), some (.inr 4), some (.inr 5), some (.inr 6), some (.inl 0), some (.inr 7), none, none, some (.inl 0), none, none, some (.inl 0), some (.inl 0), some (.inl 0), some (.inl 0), none, some (.inl 0)]), (11, 84, []), (11, 672, []), (11, 120, []), (11, 301, []), (11, 300, []), (11, 20, []), (11, 401, [])]) dX10_init_82 (by decide +kernel) ?_
  refine t_newiL (pc := 85) (tb := [(10, 0, [some (.inr 1), some (.inr 2), some (.inl 0), some (.inl (-1)), some (.inl 0), some (.inr 3), some (.inl 0), some (.inl (-1000005)), some (.inl (-1000005)), some (.inr 4), some (.inr 5), some (.inr 6), some (.inl 0), some (.inr 7), none, none, some (.inl 0), none, none, some (.inl 0), some (.inl 0), some (.inl 0), some (.inl 0), none, some (.inl 0)]), (11, 84, []), (11, 672, []), (11, 120, []), (11, 301, []), (11, 300, []), (11, 20, []), (11, 401, [])]) (N := 401) (L := 8) rfl rfl dX10_init_85 (by decide) (by decide) ?_
  refine t_putr (pc := 87) (tb := [(10, 0, [some (.inr 1), some (.inr 2), some (.inl 0), some (.inl (-1)), some (.inl 0), some (.inr 3), some (.inl 0), some (.inl (-1000005)), some (.inl (-1000005)), some (.inr 4), some (.inr 5), some (.inr 6), some (.inl 0), some (.inr 7), none, none, some (.inl 0), none, none, some (.inl 0), some (.inl 0), some (.inl 0), some (.inl 0), none, some (.inl 0)]), (11, 84, []), (11, 672, []), (11, 120, []), (11, 301, []), (11, 300, []), (11, 20, []), (11, 401, []), (11, 401, [])]) (o := 0) (o' := 8) dX10_init_87 kf_RX10_42 rfl (by decide) ?_
  refine t_aload_n (pc := 90) (tb := [(10, 0, [some (.inr 1), some (.inr 2), some (.inl 0), some (.inl (-1)), some (.inl 0), some (.inr 3), some (.inl 0), some (.inl (-1000005)), some (.inl (-1000005)), some (.inr 4), some (.inr 5), some (.inr 6), some (.inl 0), some (.inr 7), some (.inr 8), none, some (.inl 0), none, none, some (.inl 0), some (.inl 0), some (.inl 0), some (.inl 0), none, some (.inl 0)]), (11, 84, []), (11, 672, []), (11, 120, []), (11, 301, []), (11, 300, []), (11, 20, []), (11, 401, []), (11, 401, [])]) dX10_init_90 rfl rfl ?_
  refine t_sipush (pc := 91) (tb := [(10, 0, [some (.inr 1), some (.inr 2), some (.inl 0), some (.inl (-1)), some (.inl 0), some (.inr 3), some (.inl 0), some (.inl (-1000005)), some (.inl (-1000005)), some (.inr 4), some (.inr 5), some (.inr 6), some (.inl 0), some (.inr 7), some (.inr 8), none, some (.inl 0), none, none, some (.inl 0), some (.inl 0), some (.inl 0), some (.inl 0), none, some (.inl 0)]), (11, 84, []), (11, 672, []), (11, 120, []), (11, 301, []), (11, 300, []), (11, 20, []), (11, 401, []), (11, 401, [])]) dX10_init_91 (by decide +kernel) ?_
  refine t_newiL (pc := 94) (tb := [(10, 0, [some (.inr 1), some (.inr 2), some (.inl 0), some (.inl (-1)), some (.inl 0), some (.inr 3), some (.inl 0), some (.inl (-1000005)), some (.inl (-1000005)), some (.inr 4), some (.inr 5), some (.inr 6), some (.inl 0), some (.inr 7), some (.inr 8), none, some (.inl 0), none, none, some (.inl 0), some (.inl 0), some (.inl 0), some (.inl 0), none, some (.inl 0)]), (11, 84, []), (11, 672, []), (11, 120, []), (11, 301, []), (11, 300, []), (11, 20, []), (11, 401, []), (11, 401, [])]) (N := 2814) (L := 9) rfl rfl dX10_init_94 (by decide) (by decide) ?_
  refine t_putr (pc := 96) (tb := [(10, 0, [some (.inr 1), some (.inr 2), some (.inl 0), some (.inl (-1)), some (.inl 0), some (.inr 3), some (.inl 0), some (.inl (-1000005)), some (.inl (-1000005)), some (.inr 4), some (.inr 5), some (.inr 6), some (.inl 0), some (.inr 7), some (.inr 8), none, some (.inl 0), none, none, some (.inl 0), some (.inl 0), some (.inl 0), some (.inl 0), none, some (.inl 0)]), (11, 84, []), (11, 672, []), (11, 120, []), (11, 301, []), (11, 300, []), (11, 20, []), (11, 401, []), (11, 401, []), (11, 2814, [])]) (o := 0) (o' := 9) dX10_init_96 kf_RX10_45 rfl (by decide) ?_
  refine t_aload_n (pc := 99) (tb := [(10, 0, [some (.inr 1), some (.inr 2), some (.inl 0), some (.inl (-1)), some (.inl 0), some (.inr 3), some (.inl 0), some (.inl (-1000005)), some (.inl (-1000005)), some (.inr 4), some (.inr 5), some (.inr 6), some (.inl 0), some (.inr 7), some (.inr 8), some (.inr 9), some (.inl 0), none, none, some (.inl 0), some (.inl 0), some (.inl 0), some (.inl 0), none, some (.inl 0)]), (11, 84, []), (11, 672, []), (11, 120, []), (11, 301, []), (11, 300, []), (11, 20, []), (11, 401, []), (11, 401, []), (11, 2814, [])]) dX10_init_99 rfl rfl ?_
  refine t_sipush (pc := 100) (tb := [(10, 0, [some (.inr 1), some (.inr 2), some (.inl 0), some (.inl (-1)), some (.inl 0), some (.inr 3), some (.inl 0), some (.inl (-1000005)), some (.inl (-1000005)), some (.inr 4), some (.inr 5), some (.inr 6), some (.inl 0), some (.inr 7), some (.inr 8), some (.inr 9), some (.inl 0), none, none, some (.inl 0), some (.inl 0), some (.inl 0), some (.inl 0), none, some (.inl 0)]), (11, 84, []), (11, 672, []), (11, 120, []), (11, 301, []), (11, 300, []), (11, 20, []), (11, 401, []), (11, 401, []), (11, 2814, [])]) dX10_init_100 (by decide +kernel) ?_
  refine t_newiL (pc := 103) (tb := [(10, 0, [some (.inr 1), some (.inr 2), some (.inl 0), some (.inl (-1)), some (.inl 0), some (.inr 3), some (.inl 0), some (.inl (-1000005)), some (.inl (-1000005)), some (.inr 4), some (.inr 5), some (.inr 6), some (.inl 0), some (.inr 7), some (.inr 8), some (.inr 9), some (.inl 0), none, none, some (.inl 0), some (.inl 0), some (.inl 0), some (.inl 0), none, some (.inl 0)]), (11, 84, []), (11, 672, []), (11, 120, []), (11, 301, []), (11, 300, []), (11, 20, []), (11, 401, []), (11, 401, []), (11, 2814, [])]) (N := 402) (L := 10) rfl rfl dX10_init_103 (by decide) (by decide) ?_
  refine t_putr (pc := 105) (tb := [(10, 0, [some (.inr 1), some (.inr 2), some (.inl 0), some (.inl (-1)), some (.inl 0), some (.inr 3), some (.inl 0), some (.inl (-1000005)), some (.inl (-1000005)), some (.inr 4), some (.inr 5), some (.inr 6), some (.inl 0), some (.inr 7), some (.inr 8), some (.inr 9), some (.inl 0), none, none, some (.inl 0), some (.inl 0), some (.inl 0), some (.inl 0), none, some (.inl 0)]), (11, 84, []), (11, 672, []), (11, 120, []), (11, 301, []), (11, 300, []), (11, 20, []), (11, 401, []), (11, 401, []), (11, 2814, []), (11, 402, [])]) (o := 0) (o' := 10) dX10_init_105 kf_RX10_48 rfl (by decide) ?_
  refine t_aload_n (pc := 108) (tb := [(10, 0, [some (.inr 1), some (.inr 2), some (.inl 0), some (.inl (-1)), some (.inl 0), some (.inr 3), some (.inl 0), some (.inl (-1000005)), some (.inl (-1000005)), some (.inr 4), some (.inr 5), some (.inr 6), some (.inl 0), some (.inr 7), some (.inr 8), some (.inr 9), some (.inl 0), some (.inr 10), none, some (.inl 0), some (.inl 0), some (.inl 0), some (.inl 0), none, some (.inl 0)]), (11, 84, []), (11, 672, []), (11, 120, []), (11, 301, []), (11, 300, []), (11, 20, []), (11, 401, []), (11, 401, []), (11, 2814, []), (11, 402, [])]) dX10_init_108 rfl rfl ?_
  refine t_sipush (pc := 109) (tb := [(10, 0, [some (.inr 1), some (.inr 2), some (.inl 0), some (.inl (-1)), some (.inl 0), some (.inr 3), some (.inl 0), some (.inl (-1000005)), some (.inl (-1000005)), some (.inr 4), some (.inr 5), some (.inr 6), some (.inl 0), some (.inr 7), some (.inr 8), some (.inr 9), some (.inl 0), some (.inr 10), none, some (.inl 0), some (.inl 0), some (.inl 0), some (.inl 0), none, some (.inl 0)]), (11, 84, []), (11, 672, []), (11, 120, []), (11, 301, []), (11, 300, []), (11, 20, []), (11, 401, []), (11, 401, []), (11, 2814, []), (11, 402, [])]) dX10_init_109 (by decide +kernel) ?_
  refine t_newiL (pc := 112) (tb := [(10, 0, [some (.inr 1), some (.inr 2), some (.inl 0), some (.inl (-1)), some (.inl 0), some (.inr 3), some (.inl 0), some (.inl (-1000005)), some (.inl (-1000005)), some (.inr 4), some (.inr 5), some (.inr 6), some (.inl 0), some (.inr 7), some (.inr 8), some (.inr 9), some (.inl 0), some (.inr 10), none, some (.inl 0), some (.inl 0), some (.inl 0), some (.inl 0), none, some (.inl 0)]), (11, 84, []), (11, 672, []), (11, 120, []), (11, 301, []), (11, 300, []), (11, 20, []), (11, 401, []), (11, 401, []), (11, 2814, []), (11, 402, [])]) (N := 402) (L := 11) rfl rfl dX10_init_112 (by decide) (by decide) ?_
  refine t_putr (pc := 114) (tb := [(10, 0, [some (.inr 1), some (.inr 2), some (.inl 0), some (.inl (-1)), some (.inl 0), some (.inr 3), some (.inl 0), some (.inl (-1000005)), some (.inl (-1000005)), some (.inr 4), some (.inr 5), some (.inr 6), some (.inl 0), some (.inr 7), some (.inr 8), some (.inr 9), some (.inl 0), some (.inr 10), none, some (.inl 0), some (.inl 0), some (.inl 0), some (.inl 0), none, some (.inl 0)]), (11, 84, []), (11, 672, []), (11, 120, []), (11, 301, []), (11, 300, []), (11, 20, []), (11, 401, []), (11, 401, []), (11, 2814, []), (11, 402, []), (11, 402, [])]) (o := 0) (o' := 11) dX10_init_114 kf_RX10_51 rfl (by decide) ?_
  refine t_aload_n (pc := 117) (tb := [(10, 0, [some (.inr 1), some (.inr 2), some (.inl 0), some (.inl (-1)), some (.inl 0), some (.inr 3), some (.inl 0), some (.inl (-1000005)), some (.inl (-1000005)), some (.inr 4), some (.inr 5), some (.inr 6), some (.inl 0), some (.inr 7), some (.inr 8), some (.inr 9), some (.inl 0), some (.inr 10), some (.inr 11), some (.inl 0), some (.inl 0), some (.inl 0), some (.inl 0), none, some (.inl 0)]), (11, 84, []), (11, 672, []), (11, 120, []), (11, 301, []), (11, 300, []), (11, 20, []), (11, 401, []), (11, 401, []), (11, 2814, []), (11, 402, []), (11, 402, [])]) dX10_init_117 rfl rfl ?_
  refine t_bipush (pc := 118) (tb := [(10, 0, [some (.inr 1), some (.inr 2), some (.inl 0), some (.inl (-1)), some (.inl 0), some (.inr 3), some (.inl 0), some (.inl (-1000005)), some (.inl (-1000005)), some (.inr 4), some (.inr 5), some (.inr 6), some (.inl 0), some (.inr 7), some (.inr 8), some (.inr 9), some (.inl 0), some (.inr 10), some (.inr 11), some (.inl 0), some (.inl 0), some (.inl 0), some (.inl 0), none, some (.inl 0)]), (11, 84, []), (11, 672, []), (11, 120, []), (11, 301, []), (11, 300, []), (11, 20, []), (11, 401, []), (11, 401, []), (11, 2814, []), (11, 402, []), (11, 402, [])]) dX10_init_118 (by decide +kernel) ?_
  refine t_newiL (pc := 120) (tb := [(10, 0, [some (.inr 1), some (.inr 2), some (.inl 0), some (.inl (-1)), some (.inl 0), some (.inr 3), some (.inl 0), some (.inl (-1000005)), some (.inl (-1000005)), some (.inr 4), some (.inr 5), some (.inr 6), some (.inl 0), some (.inr 7), some (.inr 8), some (.inr 9), some (.inl 0), some (.inr 10), some (.inr 11), some (.inl 0), some (.inl 0), some (.inl 0), some (.inl 0), none, some (.inl 0)]), (11, 84, []), (11, 672, []), (11, 120, []), (11, 301, []), (11, 300, []), (11, 20, []), (11, 401, []), (11, 401, []), (11, 2814, []), (11, 402, []), (11, 402, [])]) (N := 24) (L := 12) rfl rfl dX10_init_120 (by decide) (by decide) ?_
  refine t_putr (pc := 122) (tb := [(10, 0, [some (.inr 1), some (.inr 2), some (.inl 0), some (.inl (-1)), some (.inl 0), some (.inr 3), some (.inl 0), some (.inl (-1000005)), some (.inl (-1000005)), some (.inr 4), some (.inr 5), some (.inr 6), some (.inl 0), some (.inr 7), some (.inr 8), some (.inr 9), some (.inl 0), some (.inr 10), some (.inr 11), some (.inl 0), some (.inl 0), some (.inl 0), some (.inl 0), none, some (.inl 0)]), (11, 84, []), (11, 672, []), (11, 120, []), (11, 301, []), (11, 300, []), (11, 20, []), (11, 401, []), (11, 401, []), (11, 2814, []), (11, 402, []), (11, 402, []), (11, 24, [])]) (o := 0) (o' := 12) dX10_init_122 kf_RX10_54 rfl (by decide) ?_
  refine t_aload_n (pc := 125) (tb := [(10, 0, [some (.inr 1), some (.inr 2), some (.inl 0), some (.inl (-1)), some (.inl 0), some (.inr 3), some (.inl 0), some (.inl (-1000005)), some (.inl (-1000005)), some (.inr 4), some (.inr 5), some (.inr 6), some (.inl 0), some (.inr 7), some (.inr 8), some (.inr 9), some (.inl 0), some (.inr 10), some (.inr 11), some (.inl 0), some (.inl 0), some (.inl 0), some (.inl 0), some (.inr 12), some (.inl 0)]), (11, 84, []), (11, 672, []), (11, 120, []), (11, 301, []), (11, 300, []), (11, 20, []), (11, 401, []), (11, 401, []), (11, 2814, []), (11, 402, []), (11, 402, []), (11, 24, [])]) dX10_init_125 rfl rfl ?_
  refine t_bipush (pc := 126) (tb := [(10, 0, [some (.inr 1), some (.inr 2), some (.inl 0), some (.inl (-1)), some (.inl 0), some (.inr 3), some (.inl 0), some (.inl (-1000005)), some (.inl (-1000005)), some (.inr 4), some (.inr 5), some (.inr 6), some (.inl 0), some (.inr 7), some (.inr 8), some (.inr 9), some (.inl 0), some (.inr 10), some (.inr 11), some (.inl 0), some (.inl 0), some (.inl 0), some (.inl 0), some (.inr 12), some (.inl 0)]), (11, 84, []), (11, 672, []), (11, 120, []), (11, 301, []), (11, 300, []), (11, 20, []), (11, 401, []), (11, 401, []), (11, 2814, []), (11, 402, []), (11, 402, []), (11, 24, [])]) dX10_init_126 (by decide +kernel) ?_
  refine t_bipush (pc := 128) (tb := [(10, 0, [some (.inr 1), some (.inr 2), some (.inl 0), some (.inl (-1)), some (.inl 0), some (.inr 3), some (.inl 0), some (.inl (-1000005)), some (.inl (-1000005)), some (.inr 4), some (.inr 5), some (.inr 6), some (.inl 0), some (.inr 7), some (.inr 8), some (.inr 9), some (.inl 0), some (.inr 10), some (.inr 11), some (.inl 0), some (.inl 0), some (.inl 0), some (.inl 0), some (.inr 12), some (.inl 0)]), (11, 84, []), (11, 672, []), (11, 120, []), (11, 301, []), (11, 300, []), (11, 20, []), (11, 401, []), (11, 401, []), (11, 2814, []), (11, 402, []), (11, 402, []), (11, 24, [])]) dX10_init_128 (by decide +kernel) ?_
  refine t_sipush (pc := 130) (tb := [(10, 0, [some (.inr 1), some (.inr 2), some (.inl 0), some (.inl (-1)), some (.inl 0), some (.inr 3), some (.inl 0), some (.inl (-1000005)), some (.inl (-1000005)), some (.inr 4), some (.inr 5), some (.inr 6), some (.inl 0), some (.inr 7), some (.inr 8), some (.inr 9), some (.inl 0), some (.inr 10), some (.inr 11), some (.inl 0), some (.inl 0), some (.inl 0), some (.inl 0), some (.inr 12), some (.inl 0)]), (11, 84, []), (11, 672, []), (11, 120, []), (11, 301, []), (11, 300, []), (11, 20, []), (11, 401, []), (11, 401, []), (11, 2814, []), (11, 402, []), (11, 402, []), (11, 24, [])]) dX10_init_130 (by decide +kernel) ?_
  refine t_eq (tb' := TB10a) rfl ?_
  refine t_callF (pc := 133) (tb := TB10a) (as := [.inl 100, .inl 20, .inl 1000]) (b := B + n + 0) (stk := []) (E1 := kE E (B + n) TB10a (List.range' (B + n + 0) 13) (fun q => q ∈ List.range' (B + n + 0) 13)) (M1 := tM (B + n) TB10a) (C := 10) dX10_init_133 c_RX10_57 (by decide) (by decide) (by decide) ⟨rfl, rfl, fun _ => rfl⟩ (fun a ha => ?_) (fun q h => h) (fun hS => ?_) (fun o t ht hL => kE_cel ht hL (tb10_5 o t ht)) ?_ (ct_X10_renew ?_ ?_) (fun M' hM' => ?_)
  · have := List.mem_range'_1.mp ha
    show B + n ≤ a ∧ a < B + n + 13
    omega
  · refine kE_ok hS (fun a ha => ?_) (fun a ha => ?_) List.nodup_range' (fun a h => h) tb10_4
    · have := List.mem_range'_1.mp ha
      omega
    · have := List.mem_range'_1.mp ha
      show B + n ≤ a ∧ a < B + n + 13
      omega
  · exact kE_kd (o := 0) (tb := TB10a) rfl (List.mem_range'_1.mpr ⟨by omega, by omega⟩)
  · exact chk_wt (lo := 0) (cnt := 13) tb10_1
  · exact kE_kd (o := 0) (tb := TB10a) rfl (List.mem_range'_1.mpr ⟨by omega, by omega⟩)
  refine ⟨TB10b, rfl, fun o t ht => ⟨fun hL => ?_, fun hL => absurd (List.mem_range'_1.mpr ⟨by omega, ?_⟩) hL⟩, ?_⟩
  · have e : rf (kE E (B + n) TB10a (List.range' (B + n + 0) 13) (fun q => q ∈ List.range' (B + n + 0) 13)) (B + n + 0) 0 = B + n + 1 := by
      show B + n + vr (tsl TB10a (B + n + 0 - (B + n)) 0) = _
      rw [Nat.add_sub_cancel_left]; rfl
    rw [hM', e]
    by_cases ho : o = 1
    · subst ho
      obtain rfl : t = (11, 84, [some (.inl 1), some (.inl 100), some (.inl 20), some (.inl 1000)]) := (Option.some.inj (show some _ = some t from ht)).symm
      have hk := kE_kd (E := E) (L := List.range' (B + n + 0) 13) (A := fun q => q ∈ List.range' (B + n + 0) 13) (o := 1) (tb := TB10a) rfl hL
      have e2 : ln (kE E (B + n) TB10a (List.range' (B + n + 0) 13) (fun q => q ∈ List.range' (B + n + 0) 13)) (B + n + 1) = 84 := by
        show tn TB10a (B + n + 1 - (B + n)) = 84
        rw [Nat.add_sub_cancel_left]; rfl
      rw [kc_i (by decide) (by decide), cel_i hk (by decide) (by decide), e2, mrow_s, w10_eq (tM (B + n) TB10a (B + n + 1)) (fun j => ?_)]
      · rfl
      · show vi (tsl TB10a (B + n + 1 - (B + n)) j) = 0
        rw [Nat.add_sub_cancel_left]
        show vi (match ([] : List (Option fxV))[j]? with | some v => v | none => none) = 0
        rw [List.getElem?_nil]; rfl
    · rw [mrow_o (by omega)]
      refine kE_cel ?_ hL (tb10_5 o t ?_)
      · exact (tb10_6 o ho).symm.trans ht
      · exact (tb10_6 o ho).symm.trans ht
  · have := (List.getElem?_eq_some_iff.mp ht).1
    have h13 : TB10b.length = 13 := rfl
    omega
  refine t_aload_n (pc := 136) (tb := TB10b) dX10_init_136 rfl rfl ?_
  refine t_getr (pc := 137) (tb := TB10b) (o := 0) (o' := 1) dX10_init_137 kg_RX10_7 rfl rfl ?_
  refine t_bipush (pc := 140) (tb := TB10b) dX10_init_140 (by decide +kernel) ?_
  refine t_bipush (pc := 142) (tb := TB10b) dX10_init_142 (by decide +kernel) ?_
  refine t_iast (pc := 144) (tb := TB10b) (o := 1) (vs := [some (.inl 1), some (.inl 100), some (.inl 20), some (.inl 1000)]) dX10_init_144 rfl (by decide) (by decide) ?_
  refine t_aload_n (pc := 145) (tb := u10_1) dX10_init_145 rfl rfl ?_
  refine t_getr (pc := 146) (tb := u10_1) (o := 0) (o' := 1) dX10_init_146 kg_RX10_7 rfl rfl ?_
  refine t_bipush (pc := 149) (tb := u10_1) dX10_init_149 (by decide +kernel) ?_
  refine t_bipush (pc := 151) (tb := u10_1) dX10_init_151 (by decide +kernel) ?_
  refine t_iast (pc := 153) (tb := u10_1) (o := 1) (vs := w10_58) dX10_init_153 rfl (by decide) (by decide) ?_
  refine t_aload_n (pc := 154) (tb := u10_2) dX10_init_154 rfl rfl ?_
  refine t_getr (pc := 155) (tb := u10_2) (o := 0) (o' := 1) dX10_init_155 kg_RX10_7 rfl rfl ?_
  refine t_bipush (pc := 158) (tb := u10_2) dX10_init_158 (by decide +kernel) ?_
  refine t_iconst (pc := 160) (tb := u10_2) dX10_init_160 ?_
  refine t_iast (pc := 161) (tb := u10_2) (o := 1) (vs := w10_59) dX10_init_161 rfl (by decide) (by decide) ?_
  refine t_aload_n (pc := 162) (tb := u10_3) dX10_init_162 rfl rfl ?_
  refine t_getr (pc := 163) (tb := u10_3) (o := 0) (o' := 1) dX10_init_163 kg_RX10_7 rfl rfl ?_
  refine t_bipush (pc := 166) (tb := u10_3) dX10_init_166 (by decide +kernel) ?_
  refine t_sipush (pc := 168) (tb := u10_3) dX10_init_168 (by decide +kernel) ?_
  refine t_iast (pc := 171) (tb := u10_3) (o := 1) (vs := w10_60) dX10_init_171 rfl (by decide) (by decide) ?_
  refine t_aload_n (pc := 172) (tb := u10_4) dX10_init_172 rfl rfl ?_
  refine t_getr (pc := 173) (tb := u10_4) (o := 0) (o' := 1) dX10_init_173 kg_RX10_7 rfl rfl ?_
  refine t_bipush (pc := 176) (tb := u10_4) dX10_init_176 (by decide +kernel) ?_
  refine t_bipush (pc := 178) (tb := u10_4) dX10_init_178 (by decide +kernel) ?_
  refine t_iast (pc := 180) (tb := u10_4) (o := 1) (vs := w10_61) dX10_init_180 rfl (by decide) (by decide) ?_
  exact t_ret (pc := 181) (tb := u10_5) dX10_init_181 rfl rfl rfl (fun f h1 h2 => ⟨h1, h2⟩)
