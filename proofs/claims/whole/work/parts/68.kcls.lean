theorem dX9_init_0 : decode cX9_init 0 = .ok (.aload_n 0, 1) := by decide +kernel
theorem dX9_init_1 : decode cX9_init 1 = .ok (.invokespecial 3, 3) := by decide +kernel
theorem dX9_init_4 : decode cX9_init 4 = .ok (.aload_n 0, 1) := by decide +kernel
theorem dX9_init_5 : decode cX9_init 5 = .ok (.new 9, 3) := by decide +kernel
theorem dX9_init_8 : decode cX9_init 8 = .ok (.dup, 1) := by decide +kernel
theorem dX9_init_9 : decode cX9_init 9 = .ok (.invokespecial 11, 3) := by decide +kernel
theorem dX9_init_12 : decode cX9_init 12 = .ok (.putfield 12, 3) := by decide +kernel
theorem dX9_init_15 : decode cX9_init 15 = .ok (.aload_n 0, 1) := by decide +kernel
theorem dX9_init_16 : decode cX9_init 16 = .ok (.getfield 12, 3) := by decide +kernel
theorem dX9_init_19 : decode cX9_init 19 = .ok (.getfield 16, 3) := by decide +kernel
theorem dX9_init_22 : decode cX9_init 22 = .ok (.bipush 100, 2) := by decide +kernel
theorem dX9_init_24 : decode cX9_init 24 = .ok (.bipush 20, 2) := by decide +kernel
theorem dX9_init_26 : decode cX9_init 26 = .ok (.sipush 1000, 3) := by decide +kernel
theorem dX9_init_29 : decode cX9_init 29 = .ok (.invokevirtual 20, 3) := by decide +kernel
theorem dX9_init_32 : decode cX9_init 32 = .ok (.aload_n 0, 1) := by decide +kernel
theorem dX9_init_33 : decode cX9_init 33 = .ok (.getfield 12, 3) := by decide +kernel
theorem dX9_init_36 : decode cX9_init 36 = .ok (.getfield 26, 3) := by decide +kernel
theorem dX9_init_39 : decode cX9_init 39 = .ok (.iconst 0, 1) := by decide +kernel
theorem dX9_init_40 : decode cX9_init 40 = .ok (.bipush 20, 2) := by decide +kernel
theorem dX9_init_42 : decode cX9_init 42 = .ok (.iastore, 1) := by decide +kernel
theorem dX9_init_43 : decode cX9_init 43 = .ok (.aload_n 0, 1) := by decide +kernel
theorem dX9_init_44 : decode cX9_init 44 = .ok (.getfield 12, 3) := by decide +kernel
theorem dX9_init_47 : decode cX9_init 47 = .ok (.getfield 26, 3) := by decide +kernel
theorem dX9_init_50 : decode cX9_init 50 = .ok (.iconst 1, 1) := by decide +kernel
theorem dX9_init_51 : decode cX9_init 51 = .ok (.bipush 100, 2) := by decide +kernel
theorem dX9_init_53 : decode cX9_init 53 = .ok (.iastore, 1) := by decide +kernel
theorem dX9_init_54 : decode cX9_init 54 = .ok (.aload_n 0, 1) := by decide +kernel
theorem dX9_init_55 : decode cX9_init 55 = .ok (.getfield 12, 3) := by decide +kernel
theorem dX9_init_58 : decode cX9_init 58 = .ok (.getfield 26, 3) := by decide +kernel
theorem dX9_init_61 : decode cX9_init 61 = .ok (.iconst 2, 1) := by decide +kernel
theorem dX9_init_62 : decode cX9_init 62 = .ok (.iconst 2, 1) := by decide +kernel
theorem dX9_init_63 : decode cX9_init 63 = .ok (.iastore, 1) := by decide +kernel
theorem dX9_init_64 : decode cX9_init 64 = .ok (.aload_n 0, 1) := by decide +kernel
theorem dX9_init_65 : decode cX9_init 65 = .ok (.getfield 12, 3) := by decide +kernel
theorem dX9_init_68 : decode cX9_init 68 = .ok (.getfield 26, 3) := by decide +kernel
theorem dX9_init_71 : decode cX9_init 71 = .ok (.iconst 3, 1) := by decide +kernel
theorem dX9_init_72 : decode cX9_init 72 = .ok (.sipush 1000, 3) := by decide +kernel
theorem dX9_init_75 : decode cX9_init 75 = .ok (.iastore, 1) := by decide +kernel
theorem dX9_init_76 : decode cX9_init 76 = .ok (.aload_n 0, 1) := by decide +kernel
theorem dX9_init_77 : decode cX9_init 77 = .ok (.getfield 12, 3) := by decide +kernel
theorem dX9_init_80 : decode cX9_init 80 = .ok (.getfield 30, 3) := by decide +kernel
theorem dX9_init_83 : decode cX9_init 83 = .ok (.bipush 30, 2) := by decide +kernel
theorem dX9_init_85 : decode cX9_init 85 = .ok (.putfield 34, 3) := by decide +kernel
theorem dX9_init_88 : decode cX9_init 88 = .ok (.aload_n 0, 1) := by decide +kernel
theorem dX9_init_89 : decode cX9_init 89 = .ok (.new 40, 3) := by decide +kernel
theorem dX9_init_92 : decode cX9_init 92 = .ok (.dup, 1) := by decide +kernel
theorem dX9_init_93 : decode cX9_init 93 = .ok (.invokespecial 42, 3) := by decide +kernel
theorem dX9_init_96 : decode cX9_init 96 = .ok (.putfield 43, 3) := by decide +kernel
theorem dX9_init_99 : decode cX9_init 99 = .ok (.aload_n 0, 1) := by decide +kernel
theorem dX9_init_100 : decode cX9_init 100 = .ok (.new 21, 3) := by decide +kernel
theorem dX9_init_103 : decode cX9_init 103 = .ok (.dup, 1) := by decide +kernel
theorem dX9_init_104 : decode cX9_init 104 = .ok (.invokespecial 47, 3) := by decide +kernel
theorem dX9_init_107 : decode cX9_init 107 = .ok (.putfield 48, 3) := by decide +kernel
theorem dX9_init_110 : decode cX9_init 110 = .ok (.aload_n 0, 1) := by decide +kernel
theorem dX9_init_111 : decode cX9_init 111 = .ok (.new 51, 3) := by decide +kernel
theorem dX9_init_114 : decode cX9_init 114 = .ok (.dup, 1) := by decide +kernel
theorem dX9_init_115 : decode cX9_init 115 = .ok (.invokespecial 53, 3) := by decide +kernel
theorem dX9_init_118 : decode cX9_init 118 = .ok (.putfield 54, 3) := by decide +kernel
theorem dX9_init_121 : decode cX9_init 121 = .ok (.aload_n 0, 1) := by decide +kernel
theorem dX9_init_122 : decode cX9_init 122 = .ok (.iconst 2, 1) := by decide +kernel
theorem dX9_init_123 : decode cX9_init 123 = .ok (.anewarray 58, 3) := by decide +kernel
theorem dX9_init_126 : decode cX9_init 126 = .ok (.putfield 60, 3) := by decide +kernel
theorem dX9_init_129 : decode cX9_init 129 = .ok (.aload_n 0, 1) := by decide +kernel
theorem dX9_init_130 : decode cX9_init 130 = .ok (.bipush 8, 2) := by decide +kernel
theorem dX9_init_132 : decode cX9_init 132 = .ok (.anewarray 64, 3) := by decide +kernel
theorem dX9_init_135 : decode cX9_init 135 = .ok (.putfield 66, 3) := by decide +kernel
theorem dX9_init_138 : decode cX9_init 138 = .ok (.aload_n 0, 1) := by decide +kernel
theorem dX9_init_139 : decode cX9_init 139 = .ok (.iconst 2, 1) := by decide +kernel
theorem dX9_init_140 : decode cX9_init 140 = .ok (.anewarray 70, 3) := by decide +kernel
theorem dX9_init_143 : decode cX9_init 143 = .ok (.putfield 72, 3) := by decide +kernel
theorem dX9_init_146 : decode cX9_init 146 = .ok (.aload_n 0, 1) := by decide +kernel
theorem dX9_init_147 : decode cX9_init 147 = .ok (.new 76, 3) := by decide +kernel
theorem dX9_init_150 : decode cX9_init 150 = .ok (.dup, 1) := by decide +kernel
theorem dX9_init_151 : decode cX9_init 151 = .ok (.invokespecial 78, 3) := by decide +kernel
theorem dX9_init_154 : decode cX9_init 154 = .ok (.putfield 79, 3) := by decide +kernel
theorem dX9_init_157 : decode cX9_init 157 = .ok (.aload_n 0, 1) := by decide +kernel
theorem dX9_init_158 : decode cX9_init 158 = .ok (.iconst 0, 1) := by decide +kernel
theorem dX9_init_159 : decode cX9_init 159 = .ok (.putfield 83, 3) := by decide +kernel
theorem dX9_init_162 : decode cX9_init 162 = .ok (.iconst 0, 1) := by decide +kernel
theorem dX9_init_163 : decode cX9_init 163 = .ok (.istore_n 1, 1) := by decide +kernel
theorem dX9_init_164 : decode cX9_init 164 = .ok (.iload_n 1, 1) := by decide +kernel
theorem dX9_init_165 : decode cX9_init 165 = .ok (.iconst 2, 1) := by decide +kernel
theorem dX9_init_166 : decode cX9_init 166 = .ok (.if_icmp .ge 35, 3) := by decide +kernel
theorem dX9_init_169 : decode cX9_init 169 = .ok (.aload_n 0, 1) := by decide +kernel
theorem dX9_init_170 : decode cX9_init 170 = .ok (.getfield 60, 3) := by decide +kernel
theorem dX9_init_173 : decode cX9_init 173 = .ok (.iload_n 1, 1) := by decide +kernel
theorem dX9_init_174 : decode cX9_init 174 = .ok (.new 58, 3) := by decide +kernel
theorem dX9_init_177 : decode cX9_init 177 = .ok (.dup, 1) := by decide +kernel
theorem dX9_init_178 : decode cX9_init 178 = .ok (.invokespecial 86, 3) := by decide +kernel
theorem dX9_init_181 : decode cX9_init 181 = .ok (.aastore, 1) := by decide +kernel
theorem dX9_init_182 : decode cX9_init 182 = .ok (.aload_n 0, 1) := by decide +kernel
theorem dX9_init_183 : decode cX9_init 183 = .ok (.getfield 72, 3) := by decide +kernel
theorem dX9_init_186 : decode cX9_init 186 = .ok (.iload_n 1, 1) := by decide +kernel
theorem dX9_init_187 : decode cX9_init 187 = .ok (.new 70, 3) := by decide +kernel
theorem dX9_init_190 : decode cX9_init 190 = .ok (.dup, 1) := by decide +kernel
theorem dX9_init_191 : decode cX9_init 191 = .ok (.invokespecial 87, 3) := by decide +kernel
theorem dX9_init_194 : decode cX9_init 194 = .ok (.aastore, 1) := by decide +kernel
theorem dX9_init_195 : decode cX9_init 195 = .ok (.iinc 1 1, 3) := by decide +kernel
theorem dX9_init_198 : decode cX9_init 198 = .ok (.goto (-34), 3) := by decide +kernel
theorem dX9_init_201 : decode cX9_init 201 = .ok (.iconst 0, 1) := by decide +kernel
theorem dX9_init_202 : decode cX9_init 202 = .ok (.istore_n 1, 1) := by decide +kernel
theorem dX9_init_203 : decode cX9_init 203 = .ok (.iload_n 1, 1) := by decide +kernel
theorem dX9_init_204 : decode cX9_init 204 = .ok (.aload_n 0, 1) := by decide +kernel
theorem dX9_init_205 : decode cX9_init 205 = .ok (.getfield 66, 3) := by decide +kernel
theorem dX9_init_208 : decode cX9_init 208 = .ok (.arraylength, 1) := by decide +kernel
theorem dX9_init_209 : decode cX9_init 209 = .ok (.if_icmp .ge 22, 3) := by decide +kernel
theorem dX9_init_212 : decode cX9_init 212 = .ok (.aload_n 0, 1) := by decide +kernel
theorem dX9_init_213 : decode cX9_init 213 = .ok (.getfield 66, 3) := by decide +kernel
theorem dX9_init_216 : decode cX9_init 216 = .ok (.iload_n 1, 1) := by decide +kernel
theorem dX9_init_217 : decode cX9_init 217 = .ok (.new 64, 3) := by decide +kernel
theorem dX9_init_220 : decode cX9_init 220 = .ok (.dup, 1) := by decide +kernel
theorem dX9_init_221 : decode cX9_init 221 = .ok (.invokespecial 88, 3) := by decide +kernel
theorem dX9_init_224 : decode cX9_init 224 = .ok (.aastore, 1) := by decide +kernel
theorem dX9_init_225 : decode cX9_init 225 = .ok (.iinc 1 1, 3) := by decide +kernel
theorem dX9_init_228 : decode cX9_init 228 = .ok (.goto (-25), 3) := by decide +kernel
theorem dX9_init_231 : decode cX9_init 231 = .ok (.return_, 1) := by decide +kernel
theorem ko_RX9_3 : Cond.methodLink RX9 3 Lib.objectInit ∈ lw_good := lw_goodI (tb1 (List.mem_of_getElem? (i := 20) (by decide +kernel))) rfl
theorem kn_RX9_9 : Nw RX9 9 5 3 := ⟨RX5, TX5, tyX5, rfl, goX5, lw_goodI (tb1 (List.mem_of_getElem? (i := 23) (by decide +kernel))) rfl, lw_goodI (tb1 (List.mem_of_getElem? (i := 24) (by decide +kernel))) rfl, lw_goodI (tb1 (List.mem_of_getElem? (i := 2) (by decide +kernel))) rfl, tyX5_ok, by decide +kernel, by decide⟩
theorem kc_RX9_11 : CalI RX9 11 m_X5_init := ⟨Or.inl (by decide +kernel), rfl, rfl, lw_goodI (tb1 (List.mem_of_getElem? (i := 26) (by decide +kernel))) rfl, lw_goodI (tb1 (List.mem_of_getElem? (i := 2) (by decide +kernel))) rfl, lw_goodI (tb1 (List.mem_of_getElem? (i := 27) (by decide +kernel))) rfl, ⟨by decide, by decide, by decide +kernel⟩⟩
theorem kf_RX9_12 : FldF RX9 12 9 0 := ⟨RX9, TX9, 9, tyX9, rfl, goX9, by decide, lw_goodI (tb2 (List.mem_of_getElem? (i := 67) (by decide +kernel))) rfl, rfl, rfl, tyX9_ok, nmX9, rfl, fun _ => ⟨rfl, rfl⟩, by decide⟩
theorem kg_RX9_12 : Fld RX9 12 9 0 true := ⟨RX9, TX9, 9, tyX9, rfl, goX9, by decide, rfl, lw_goodI (tb2 (List.mem_of_getElem? (i := 67) (by decide +kernel))) rfl, rfl, tyX9_ok, nmX9, (fun h => Bool.noConfusion h), by decide⟩
theorem kg_RX9_16 : Fld RX9 16 5 0 true := ⟨RX5, TX5, 3, tyX5, rfl, goX5, by decide, rfl, lw_goodI (tb1 (List.mem_of_getElem? (i := 118) (by decide +kernel))) rfl, rfl, tyX5_ok, nmX5, (fun h => Bool.noConfusion h), by decide⟩
def TB9a : List kent := [(9, 0, [some (.inr 1), none, none, none, none, none, none, none, some (.inl 0)]), (5, 0, [some (.inr 2), some (.inr 10), some (.inr 13)]), (2, 0, [some (.inr 3), some (.inr 4), some (.inr 5), some (.inl 0), some (.inr 6), some (.inr 7), some (.inr 8), some (.inr 9), some (.inl 0), some (.inl 0), some (.inl 0)]), (11, 8, []), (11, 8, []), (11, 8, []), (11, 9, []), (11, 9, []), (11, 6, []), (11, 6, []), (0, 0, [some (.inr 11), some (.inr 12), some (.inl 0), some (.inl 0)]), (11, 10, []), (11, 10, []), (11, 4, [])]
def iv9a : List (Nat × Nat) := [(99, 0), (99, 0), (99, 0), (2, 0), (2, 1), (2, 2), (2, 4), (2, 5), (2, 6), (2, 7)]
theorem tb9_1 : chk TB9a 2 8 (fun o => iv9a.getD o (99, 99)) = true := by decide +kernel
theorem tb9_4 : ∀ t, t ∈ TB9a → t.1 ≤ 16 ∧ t.2.1 < 100000 := smb_ok (by decide +kernel)
theorem tb9_5 : ∀ (o : Nat) (t : kent), 2 ≤ o → TB9a[o]? = some t → (t.1 ≤ 10 ∧ t.2.2.map sk = (lay t.1).map some) ∨ (10 < t.1 ∧ t.1 ≤ 12) := fun o t h2 h => fitb_ok (List.all_eq_true.mp (by decide +kernel : (TB9a.drop 2).all fitb = true) t (List.mem_of_getElem? (i := o - 2) (by rw [List.getElem?_drop, show 2 + (o - 2) = o by omega]; exact h)))
def TB9b : List kent := [(9, 0, [some (.inr 1), none, none, none, none, none, none, none, some (.inl 0)]), (5, 0, [some (.inr 2), some (.inr 10), some (.inr 13)]), (2, 0, [some (.inr 3), some (.inr 4), some (.inr 5), some (.inl 1), some (.inr 6), some (.inr 7), some (.inr 8), some (.inr 9), some (.inl 0), some (.inl 0), some (.inl 0)]), (11, 8, [some (.inl 100)]), (11, 8, [some (.inl 20)]), (11, 8, [some (.inl 1000)]), (11, 9, []), (11, 9, []), (11, 6, []), (11, 6, []), (0, 0, [some (.inr 11), some (.inr 12), some (.inl 0), some (.inl 0)]), (11, 10, []), (11, 10, []), (11, 4, [])]
theorem kg_RX9_26 : Fld RX9 26 5 2 true := ⟨RX5, TX5, 3, tyX5, rfl, goX5, by decide, rfl, lw_goodI (tb1 (List.mem_of_getElem? (i := 122) (by decide +kernel))) rfl, rfl, tyX5_ok, nmX5, (fun h => Bool.noConfusion h), by decide⟩
theorem kg_RX9_30 : Fld RX9 30 5 1 true := ⟨RX5, TX5, 3, tyX5, rfl, goX5, by decide, rfl, lw_goodI (tb1 (List.mem_of_getElem? (i := 120) (by decide +kernel))) rfl, rfl, tyX5_ok, nmX5, (fun h => Bool.noConfusion h), by decide⟩
theorem kg_RX9_34 : Fld RX9 34 0 3 false := ⟨RX0, TX0, 4, tyX0, rfl, goX0, by decide, rfl, lw_goodI (tb1 (List.mem_of_getElem? (i := 105) (by decide +kernel))) rfl, rfl, tyX0_ok, nmX0, (fun _ => ⟨rfl, rfl⟩), by decide⟩
theorem kn_RX9_40 : Nw RX9 40 3 3 := ⟨RX3, TX3, tyX3, rfl, goX3, lw_goodI (tb1 (List.mem_of_getElem? (i := 134) (by decide +kernel))) rfl, lw_goodI (tb1 (List.mem_of_getElem? (i := 135) (by decide +kernel))) rfl, lw_goodI (tb1 (List.mem_of_getElem? (i := 5) (by decide +kernel))) rfl, tyX3_ok, by decide +kernel, by decide⟩
theorem kc_RX9_42 : CalI RX9 42 m_X3_init := ⟨Or.inr (lw_goodI (tb1 (List.mem_of_getElem? (i := 136) (by decide +kernel))) rfl), rfl, rfl, lw_goodI (tb1 (List.mem_of_getElem? (i := 137) (by decide +kernel))) rfl, lw_goodI (tb1 (List.mem_of_getElem? (i := 5) (by decide +kernel))) rfl, lw_goodI (tb1 (List.mem_of_getElem? (i := 138) (by decide +kernel))) rfl, ⟨by decide, by decide, by decide +kernel⟩⟩
theorem kf_RX9_43 : FldF RX9 43 9 1 := ⟨RX9, TX9, 9, tyX9, rfl, goX9, by decide, lw_goodI (tb2 (List.mem_of_getElem? (i := 68) (by decide +kernel))) rfl, rfl, rfl, tyX9_ok, nmX9, rfl, fun _ => ⟨rfl, rfl⟩, by decide⟩
theorem kn_RX9_21 : Nw RX9 21 2 11 := ⟨RX2, TX2, tyX2, rfl, goX2, lw_goodI (tb1 (List.mem_of_getElem? (i := 154) (by decide +kernel))) rfl, lw_goodI (tb1 (List.mem_of_getElem? (i := 30) (by decide +kernel))) rfl, lw_goodI (tb1 (List.mem_of_getElem? (i := 3) (by decide +kernel))) rfl, tyX2_ok, by decide +kernel, by decide⟩
theorem kc_RX9_47 : CalI RX9 47 m_X2_init := ⟨Or.inl (by decide +kernel), rfl, rfl, lw_goodI (tb1 (List.mem_of_getElem? (i := 32) (by decide +kernel))) rfl, lw_goodI (tb1 (List.mem_of_getElem? (i := 3) (by decide +kernel))) rfl, lw_goodI (tb1 (List.mem_of_getElem? (i := 33) (by decide +kernel))) rfl, ⟨by decide, by decide, by decide +kernel⟩⟩
theorem kf_RX9_48 : FldF RX9 48 9 2 := ⟨RX9, TX9, 9, tyX9, rfl, goX9, by decide, lw_goodI (tb2 (List.mem_of_getElem? (i := 69) (by decide +kernel))) rfl, rfl, rfl, tyX9_ok, nmX9, rfl, fun _ => ⟨rfl, rfl⟩, by decide⟩
theorem kn_RX9_51 : Nw RX9 51 6 5 := ⟨RX6, TX6, tyX6, rfl, goX6, lw_goodI (tb1 (List.mem_of_getElem? (i := 156) (by decide +kernel))) rfl, lw_goodI (tb1 (List.mem_of_getElem? (i := 157) (by decide +kernel))) rfl, lw_goodI (tb1 (List.mem_of_getElem? (i := 6) (by decide +kernel))) rfl, tyX6_ok, by decide +kernel, by decide⟩
theorem kc_RX9_53 : CalI RX9 53 m_X6_init := ⟨Or.inl (by decide +kernel), rfl, rfl, lw_goodI (tb1 (List.mem_of_getElem? (i := 159) (by decide +kernel))) rfl, lw_goodI (tb1 (List.mem_of_getElem? (i := 6) (by decide +kernel))) rfl, lw_goodI (tb1 (List.mem_of_getElem? (i := 160) (by decide +kernel))) rfl, ⟨by decide, by decide, by decide +kernel⟩⟩
theorem kf_RX9_54 : FldF RX9 54 9 3 := ⟨RX9, TX9, 9, tyX9, rfl, goX9, by decide, lw_goodI (tb2 (List.mem_of_getElem? (i := 70) (by decide +kernel))) rfl, rfl, rfl, tyX9_ok, nmX9, rfl, fun _ => ⟨rfl, rfl⟩, by decide⟩
theorem ka_RX9_58 : Cond.classLink RX9 58 RX8 ∈ lw_good := lw_goodI (tb1 (List.mem_of_getElem? (i := 181) (by decide +kernel))) rfl
theorem kf_RX9_60 : FldF RX9 60 9 4 := ⟨RX9, TX9, 9, tyX9, rfl, goX9, by decide, lw_goodI (tb2 (List.mem_of_getElem? (i := 71) (by decide +kernel))) rfl, rfl, rfl, tyX9_ok, nmX9, rfl, fun _ => ⟨rfl, rfl⟩, by decide⟩
theorem ka_RX9_64 : Cond.classLink RX9 64 RX7 ∈ lw_good := lw_goodI (tb1 (List.mem_of_getElem? (i := 183) (by decide +kernel))) rfl
theorem kf_RX9_66 : FldF RX9 66 9 5 := ⟨RX9, TX9, 9, tyX9, rfl, goX9, by decide, lw_goodI (tb2 (List.mem_of_getElem? (i := 72) (by decide +kernel))) rfl, rfl, rfl, tyX9_ok, nmX9, rfl, fun _ => ⟨rfl, rfl⟩, by decide⟩
theorem ka_RX9_70 : Cond.classLink RX9 70 RX1 ∈ lw_good := lw_goodI (tb1 (List.mem_of_getElem? (i := 185) (by decide +kernel))) rfl
theorem kf_RX9_72 : FldF RX9 72 9 6 := ⟨RX9, TX9, 9, tyX9, rfl, goX9, by decide, lw_goodI (tb2 (List.mem_of_getElem? (i := 73) (by decide +kernel))) rfl, rfl, rfl, tyX9_ok, nmX9, rfl, fun _ => ⟨rfl, rfl⟩, by decide⟩
theorem kn_RX9_76 : Nw RX9 76 4 4 := ⟨RX4, TX4, tyX4, rfl, goX4, lw_goodI (tb1 (List.mem_of_getElem? (i := 187) (by decide +kernel))) rfl, lw_goodI (tb1 (List.mem_of_getElem? (i := 188) (by decide +kernel))) rfl, lw_goodI (tb1 (List.mem_of_getElem? (i := 7) (by decide +kernel))) rfl, tyX4_ok, by decide +kernel, by decide⟩
theorem kc_RX9_78 : CalI RX9 78 m_X4_init := ⟨Or.inl (by decide +kernel), rfl, rfl, lw_goodI (tb1 (List.mem_of_getElem? (i := 190) (by decide +kernel))) rfl, lw_goodI (tb1 (List.mem_of_getElem? (i := 7) (by decide +kernel))) rfl, lw_goodI (tb1 (List.mem_of_getElem? (i := 191) (by decide +kernel))) rfl, ⟨by decide, by decide, by decide +kernel⟩⟩
theorem kf_RX9_79 : FldF RX9 79 9 7 := ⟨RX9, TX9, 9, tyX9, rfl, goX9, by decide, lw_goodI (tb2 (List.mem_of_getElem? (i := 74) (by decide +kernel))) rfl, rfl, rfl, tyX9_ok, nmX9, rfl, fun _ => ⟨rfl, rfl⟩, by decide⟩
theorem kg_RX9_83 : Fld RX9 83 9 8 false := ⟨RX9, TX9, 9, tyX9, rfl, goX9, by decide, rfl, lw_goodI (tb2 (List.mem_of_getElem? (i := 75) (by decide +kernel))) rfl, rfl, tyX9_ok, nmX9, (fun _ => ⟨rfl, rfl⟩), by decide⟩
theorem kg_RX9_60 : Fld RX9 60 9 4 true := ⟨RX9, TX9, 9, tyX9, rfl, goX9, by decide, rfl, lw_goodI (tb2 (List.mem_of_getElem? (i := 71) (by decide +kernel))) rfl, rfl, tyX9_ok, nmX9, (fun h => Bool.noConfusion h), by decide⟩
theorem kn_RX9_58 : Nw RX9 58 8 9 := ⟨RX8, TX8, tyX8, rfl, goX8, lw_goodI (tb1 (List.mem_of_getElem? (i := 181) (by decide +kernel))) rfl, lw_goodI (tb1 (List.mem_of_getElem? (i := 210) (by decide +kernel))) rfl, lw_goodI (tb1 (List.mem_of_getElem? (i := 8) (by decide +kernel))) rfl, tyX8_ok, by decide +kernel, by decide⟩
theorem kc_RX9_86 : CalI RX9 86 m_X8_init := ⟨Or.inl (by decide +kernel), rfl, rfl, lw_goodI (tb1 (List.mem_of_getElem? (i := 212) (by decide +kernel))) rfl, lw_goodI (tb1 (List.mem_of_getElem? (i := 8) (by decide +kernel))) rfl, lw_goodI (tb1 (List.mem_of_getElem? (i := 213) (by decide +kernel))) rfl, ⟨by decide, by decide, by decide +kernel⟩⟩
theorem kg_RX9_72 : Fld RX9 72 9 6 true := ⟨RX9, TX9, 9, tyX9, rfl, goX9, by decide, rfl, lw_goodI (tb2 (List.mem_of_getElem? (i := 73) (by decide +kernel))) rfl, rfl, tyX9_ok, nmX9, (fun h => Bool.noConfusion h), by decide⟩
theorem kn_RX9_70 : Nw RX9 70 1 9 := ⟨RX1, TX1, tyX1, rfl, goX1, lw_goodI (tb1 (List.mem_of_getElem? (i := 185) (by decide +kernel))) rfl, lw_goodI (tb2 (List.mem_of_getElem? (i := 8) (by decide +kernel))) rfl, lw_goodI (tb1 (List.mem_of_getElem? (i := 9) (by decide +kernel))) rfl, tyX1_ok, by decide +kernel, by decide⟩
theorem kc_RX9_87 : CalI RX9 87 m_X1_init := ⟨Or.inl (by decide +kernel), rfl, rfl, lw_goodI (tb2 (List.mem_of_getElem? (i := 10) (by decide +kernel))) rfl, lw_goodI (tb1 (List.mem_of_getElem? (i := 9) (by decide +kernel))) rfl, lw_goodI (tb2 (List.mem_of_getElem? (i := 11) (by decide +kernel))) rfl, ⟨by decide, by decide, by decide +kernel⟩⟩
theorem kg_RX9_66 : Fld RX9 66 9 5 true := ⟨RX9, TX9, 9, tyX9, rfl, goX9, by decide, rfl, lw_goodI (tb2 (List.mem_of_getElem? (i := 72) (by decide +kernel))) rfl, rfl, tyX9_ok, nmX9, (fun h => Bool.noConfusion h), by decide⟩
theorem kn_RX9_64 : Nw RX9 64 7 3 := ⟨RX7, TX7, tyX7, rfl, goX7, lw_goodI (tb1 (List.mem_of_getElem? (i := 183) (by decide +kernel))) rfl, lw_goodI (tb2 (List.mem_of_getElem? (i := 50) (by decide +kernel))) rfl, lw_goodI (tb1 (List.mem_of_getElem? (i := 10) (by decide +kernel))) rfl, tyX7_ok, by decide +kernel, by decide⟩
theorem kc_RX9_88 : CalI RX9 88 m_X7_init := ⟨Or.inl (by decide +kernel), rfl, rfl, lw_goodI (tb2 (List.mem_of_getElem? (i := 52) (by decide +kernel))) rfl, lw_goodI (tb1 (List.mem_of_getElem? (i := 10) (by decide +kernel))) rfl, lw_goodI (tb2 (List.mem_of_getElem? (i := 53) (by decide +kernel))) rfl, ⟨by decide, by decide, by decide +kernel⟩⟩
def u9_0 : List kent := [(9, 0, [some (.inr 1), none, none, none, none, none, none, none, some (.inl 0)]), (5, 0, [some (.inr 2), some (.inr 10), some (.inr 13)]), (2, 0, [some (.inr 3), some (.inr 4), some (.inr 5), some (.inl 1), some (.inr 6), some (.inr 7), some (.inr 8), some (.inr 9), some (.inl 0), some (.inl 0), some (.inl 0)]), (11, 8, [some (.inl 100)]), (11, 8, [some (.inl 20)]), (11, 8, [some (.inl 1000)]), (11, 9, []), (11, 9, []), (11, 6, []), (11, 6, []), (0, 0, [some (.inr 11), some (.inr 12), some (.inl 0), some (.inl 30)]), (11, 10, []), (11, 10, []), (11, 4, [some (.inl 20), some (.inl 100), some (.inl 2), some (.inl 1000)])]
def u9_1 : List kent := u9_0 ++ TB3.map (ksh 14)
def u9_2 : List kent := u9_1.set 0 (9, 0, [some (.inr 1), some (.inr 14), none, none, none, none, none, none, some (.inl 0)])
def u9_3 : List kent := u9_2 ++ TB2.map (ksh 120)
def u9_4 : List kent := u9_3.set 0 (9, 0, [some (.inr 1), some (.inr 14), some (.inr 120), none, none, none, none, none, some (.inl 0)])
def u9_5 : List kent := u9_4 ++ TB6.map (ksh 128)
def u9_6 : List kent := u9_5.set 0 (9, 0, [some (.inr 1), some (.inr 14), some (.inr 120), some (.inr 128), none, none, none, none, some (.inl 0)])
def u9_7 : List kent := u9_6 ++ [(16, 2, [])]
def u9_8 : List kent := u9_7.set 0 (9, 0, [some (.inr 1), some (.inr 14), some (.inr 120), some (.inr 128), some (.inr 130), none, none, none, some (.inl 0)])
def u9_9 : List kent := u9_8 ++ [(15, 8, [])]
def u9_10 : List kent := u9_9.set 0 (9, 0, [some (.inr 1), some (.inr 14), some (.inr 120), some (.inr 128), some (.inr 130), some (.inr 131), none, none, some (.inl 0)])
def u9_11 : List kent := u9_10 ++ [(13, 2, [])]
def u9_12 : List kent := u9_11.set 0 (9, 0, [some (.inr 1), some (.inr 14), some (.inr 120), some (.inr 128), some (.inr 130), some (.inr 131), some (.inr 132), none, some (.inl 0)])
def u9_13 : List kent := u9_12 ++ TB4.map (ksh 133)
def u9_14 : List kent := u9_13.set 0 (9, 0, [some (.inr 1), some (.inr 14), some (.inr 120), some (.inr 128), some (.inr 130), some (.inr 131), some (.inr 132), some (.inr 133), some (.inl 0)])
def u9_15 : List kent := u9_14.set 0 (9, 0, [some (.inr 1), some (.inr 14), some (.inr 120), some (.inr 128), some (.inr 130), some (.inr 131), some (.inr 132), some (.inr 133), some (.inl 0)])
def u9_16 : List kent := u9_15 ++ TB8.map (ksh 137)
def u9_17 : List kent := u9_16.set 130 (16, 2, [some (.inr 137)])
def u9_18 : List kent := u9_17 ++ TB1.map (ksh 142)
def u9_19 : List kent := u9_18.set 132 (13, 2, [some (.inr 142)])
def u9_20 : List kent := u9_19 ++ TB8.map (ksh 149)
def u9_21 : List kent := u9_20.set 130 (16, 2, [some (.inr 137), some (.inr 149)])
def u9_22 : List kent := u9_21 ++ TB1.map (ksh 154)
def u9_23 : List kent := u9_22.set 132 (13, 2, [some (.inr 142), some (.inr 154)])
def u9_24 : List kent := u9_23 ++ TB7.map (ksh 161)
def u9_25 : List kent := u9_24.set 131 (15, 8, [some (.inr 161)])
def u9_26 : List kent := u9_25 ++ TB7.map (ksh 163)
def u9_27 : List kent := u9_26.set 131 (15, 8, [some (.inr 161), some (.inr 163)])
def u9_28 : List kent := u9_27 ++ TB7.map (ksh 165)
def u9_29 : List kent := u9_28.set 131 (15, 8, [some (.inr 161), some (.inr 163), some (.inr 165)])
def u9_30 : List kent := u9_29 ++ TB7.map (ksh 167)
def u9_31 : List kent := u9_30.set 131 (15, 8, [some (.inr 161), some (.inr 163), some (.inr 165), some (.inr 167)])
def u9_32 : List kent := u9_31 ++ TB7.map (ksh 169)
def u9_33 : List kent := u9_32.set 131 (15, 8, [some (.inr 161), some (.inr 163), some (.inr 165), some (.inr 167), some (.inr 169)])
def u9_34 : List kent := u9_33 ++ TB7.map (ksh 171)
def u9_35 : List kent := u9_34.set 131 (15, 8, [some (.inr 161), some (.inr 163), some (.inr 165), some (.inr 167), some (.inr 169), some (.inr 171)])
def u9_36 : List kent := u9_35 ++ TB7.map (ksh 173)
def u9_37 : List kent := u9_36.set 131 (15, 8, [some (.inr 161), some (.inr 163), some (.inr 165), some (.inr 167), some (.inr 169), some (.inr 171), some (.inr 173)])
def u9_38 : List kent := u9_37 ++ TB7.map (ksh 175)
def u9_39 : List kent := u9_38.set 131 (15, 8, [some (.inr 161), some (.inr 163), some (.inr 165), some (.inr 167), some (.inr 169), some (.inr 171), some (.inr 173), some (.inr 175)])
theorem tb9_6 (z : Nat) : ([some (.inr 3), some (.inr 4), some (.inr 5), some (.inl 1), some (.inr 6), some (.inr 7), some (.inr 8), some (.inr 9), some (.inl 0), some (.inl 0), some (.inl 0)] : List (Option fxV)).map (kv z) = flds 2 (fun k => z + vr (tsl TB9a 2 k)) (fun k => vi (tsl TB9b 2 k)) := rfl
def TB9 : List kent := u9_39
set_option maxRecDepth 100000 in
theorem ki_X9 {E : fxE} {B : Nat} (n : Nat) (f0 : Nat → va_E) (h0 : f0 (B + n) = kcell E (B + n) (9, 0, blk 9)) : kc_Ct E B m_X9_init 176 8993 n f0 (kpost E (B + n) f0 TB9) := by
  refine t_ct (C := 9) (by decide) rfl (by decide) h0 ?_
  show kt_At E B m_X9_init 176 8993 n f0 0 [some (.inr (B + n + 0)), none] [] [(9, 0, [none, none, none, none, none, none, none, none, some (.inl 0)])] 0 _
  refine t_aload_n (pc := 0) (tb := [(9, 0, [none, none, none, none, none, none, none, none, some (.inl 0)])]) dX9_init_0 rfl rfl ?_
  refine t_init0 (pc := 1) (tb := [(9, 0, [none, none, none, none, none, none, none, none, some (.inl 0)])]) dX9_init_1 ko_RX9_3 (by decide) (by decide) ?_
  refine t_aload_n (pc := 4) (tb := [(9, 0, [none, none, none, none, none, none, none, none, some (.inl 0)])]) dX9_init_4 rfl rfl ?_
  refine t_newL (pc := 5) (tb := [(9, 0, [none, none, none, none, none, none, none, none, some (.inl 0)])]) (L := 1) rfl dX9_init_5 kn_RX9_9 (by decide) ?_
  refine t_dup (pc := 8) (tb := [(9, 0, [none, none, none, none, none, none, none, none, some (.inl 0)]), (5, 0, [none, none, none])]) dX9_init_8 ?_
  refine t_callIL (pc := 9) (tb := [(9, 0, [none, none, none, none, none, none, none, none, some (.inl 0)])]) (L := 1) (C := 5) (TB := TB5) (mc' := 12) (ms' := 93) rfl dX9_init_9 kc_RX9_11 (by decide) (by decide) (Nat.le_of_ble_eq_true rfl) (by decide +kernel) (fun n f h => ki_X5 n f h) ?_
  refine t_putr (pc := 12) (tb := [(9, 0, [none, none, none, none, none, none, none, none, some (.inl 0)]), (5, 0, [some (.inr 2), some (.inr 10), some (.inr 13)]), (2, 0, [some (.inr 3), some (.inr 4), some (.inr 5), some (.inl 0), some (.inr 6), some (.inr 7), some (.inr 8), some (.inr 9), some (.inl 0), some (.inl 0), some (.inl 0)]), (11, 8, []), (11, 8, []), (11, 8, []), (11, 9, []), (11, 9, []), (11, 6, []), (11, 6, []), (0, 0, [some (.inr 11), some (.inr 12), some (.inl 0), some (.inl 0)]), (11, 10, []), (11, 10, []), (11, 4, [])]) (o := 0) (o' := 1) dX9_init_12 kf_RX9_12 rfl (by decide) ?_
  refine t_aload_n (pc := 15) (tb := [(9, 0, [some (.inr 1), none, none, none, none, none, none, none, some (.inl 0)]), (5, 0, [some (.inr 2), some (.inr 10), some (.inr 13)]), (2, 0, [some (.inr 3), some (.inr 4), some (.inr 5), some (.inl 0), some (.inr 6), some (.inr 7), some (.inr 8), some (.inr 9), some (.inl 0), some (.inl 0), some (.inl 0)]), (11, 8, []), (11, 8, []), (11, 8, []), (11, 9, []), (11, 9, []), (11, 6, []), (11, 6, []), (0, 0, [some (.inr 11), some (.inr 12), some (.inl 0), some (.inl 0)]), (11, 10, []), (11, 10, []), (11, 4, [])]) dX9_init_15 rfl rfl ?_
  refine t_getr (pc := 16) (tb := [(9, 0, [some (.inr 1), none, none, none, none, none, none, none, some (.inl 0)]), (5, 0, [some (.inr 2), some (.inr 10), some (.inr 13)]), (2, 0, [some (.inr 3), some (.inr 4), some (.inr 5), some (.inl 0), some (.inr 6), some (.inr 7), some (.inr 8), some (.inr 9), some (.inl 0), some (.inl 0), some (.inl 0)]), (11, 8, []), (11, 8, []), (11, 8, []), (11, 9, []), (11, 9, []), (11, 6, []), (11, 6, []), (0, 0, [some (.inr 11), some (.inr 12), some (.inl 0), some (.inl 0)]), (11, 10, []), (11, 10, []), (11, 4, [])]) (o := 0) (o' := 1) dX9_init_16 kg_RX9_12 rfl rfl ?_
  refine t_getr (pc := 19) (tb := [(9, 0, [some (.inr 1), none, none, none, none, none, none, none, some (.inl 0)]), (5, 0, [some (.inr 2), some (.inr 10), some (.inr 13)]), (2, 0, [some (.inr 3), some (.inr 4), some (.inr 5), some (.inl 0), some (.inr 6), some (.inr 7), some (.inr 8), some (.inr 9), some (.inl 0), some (.inl 0), some (.inl 0)]), (11, 8, []), (11, 8, []), (11, 8, []), (11, 9, []), (11, 9, []), (11, 6, []), (11, 6, []), (0, 0, [some (.inr 11), some (.inr 12), some (.inl 0), some (.inl 0)]), (11, 10, []), (11, 10, []), (11, 4, [])]) (o := 1) (o' := 2) dX9_init_19 kg_RX9_16 rfl rfl ?_
  refine t_bipush (pc := 22) (tb := [(9, 0, [some (.inr 1), none, none, none, none, none, none, none, some (.inl 0)]), (5, 0, [some (.inr 2), some (.inr 10), some (.inr 13)]), (2, 0, [some (.inr 3), some (.inr 4), some (.inr 5), some (.inl 0), some (.inr 6), some (.inr 7), some (.inr 8), some (.inr 9), some (.inl 0), some (.inl 0), some (.inl 0)]), (11, 8, []), (11, 8, []), (11, 8, []), (11, 9, []), (11, 9, []), (11, 6, []), (11, 6, []), (0, 0, [some (.inr 11), some (.inr 12), some (.inl 0), some (.inl 0)]), (11, 10, []), (11, 10, []), (11, 4, [])]) dX9_init_22 (by decide +kernel) ?_
  refine t_bipush (pc := 24) (tb := [(9, 0, [some (.inr 1), none, none, none, none, none, none, none, some (.inl 0)]), (5, 0, [some (.inr 2), some (.inr 10), some (.inr 13)]), (2, 0, [some (.inr 3), some (.inr 4), some (.inr 5), some (.inl 0), some (.inr 6), some (.inr 7), some (.inr 8), some (.inr 9), some (.inl 0), some (.inl 0), some (.inl 0)]), (11, 8, []), (11, 8, []), (11, 8, []), (11, 9, []), (11, 9, []), (11, 6, []), (11, 6, []), (0, 0, [some (.inr 11), some (.inr 12), some (.inl 0), some (.inl 0)]), (11, 10, []), (11, 10, []), (11, 4, [])]) dX9_init_24 (by decide +kernel) ?_
  refine t_sipush (pc := 26) (tb := [(9, 0, [some (.inr 1), none, none, none, none, none, none, none, some (.inl 0)]), (5, 0, [some (.inr 2), some (.inr 10), some (.inr 13)]), (2, 0, [some (.inr 3), some (.inr 4), some (.inr 5), some (.inl 0), some (.inr 6), some (.inr 7), some (.inr 8), some (.inr 9), some (.inl 0), some (.inl 0), some (.inl 0)]), (11, 8, []), (11, 8, []), (11, 8, []), (11, 9, []), (11, 9, []), (11, 6, []), (11, 6, []), (0, 0, [some (.inr 11), some (.inr 12), some (.inl 0), some (.inl 0)]), (11, 10, []), (11, 10, []), (11, 4, [])]) dX9_init_26 (by decide +kernel) ?_
  refine t_eq (tb' := TB9a) rfl ?_
  refine t_callF (pc := 29) (tb := TB9a) (as := [.inl 100, .inl 20, .inl 1000]) (b := B + n + 2) (stk := []) (E1 := (kE E (B + n) TB9a (List.range' (B + n + 2) 8) (fun q => q ∈ List.range' (B + n + 2) 8))) (M1 := tM (B + n) TB9a) (C := 2) dX9_init_29 c_RX9_20 (by decide) (by decide) (by decide) ⟨rfl, rfl, fun _ => rfl⟩ (fun a ha => ?_) (fun q h => h) (fun hS => ?_) (fun o t ht hL => kE_cel ht hL (tb9_5 o t (by have := List.mem_range'_1.mp hL; omega) ht)) ?_ (ct_append0 ?_ ?_ ?_) (fun M' hM' => ?_)
  · have := List.mem_range'_1.mp ha
    show B + n ≤ a ∧ a < B + n + 14
    omega
  · refine kE_ok hS (fun a ha => ?_) (fun a ha => ?_) List.nodup_range' (fun a h => h) tb9_4
    · have := List.mem_range'_1.mp ha
      omega
    · have := List.mem_range'_1.mp ha
      show B + n ≤ a ∧ a < B + n + 14
      omega
  · exact kE_kd (o := 2) (tb := TB9a) rfl (List.mem_range'_1.mpr ⟨by omega, by omega⟩)
  · exact chk_wt (lo := 2) (cnt := 8) tb9_1
  · exact kE_kd (o := 2) (tb := TB9a) rfl (List.mem_range'_1.mpr ⟨by omega, by omega⟩)
  · show vi (tsl TB9a (B + n + 2 - (B + n)) 3) = 0
    rw [Nat.add_sub_cancel_left]; rfl
  have er : ∀ k, rf (kE E (B + n) TB9a (List.range' (B + n + 2) 8) (fun q => q ∈ List.range' (B + n + 2) 8)) (B + n + 2) k = B + n + vr (tsl TB9a 2 k) := fun k => by
    show B + n + vr (tsl TB9a (B + n + 2 - (B + n)) k) = _
    rw [Nat.add_sub_cancel_left]
  have eM : ∀ o k, tM (B + n) TB9a (B + n + o) k = vi (tsl TB9a o k) := fun o k => by
    show vi (tsl TB9a (B + n + o - (B + n)) k) = _
    rw [Nat.add_sub_cancel_left]
  rw [er 0, er 1, er 2, er 4, er 5] at hM'
  have hM1 : M' = mset (mset (mset (mset (mset (mset (tM (B + n) TB9a) (B + n + 3) 0 100) (B + n + 4) 0 20) (B + n + 5) 0 1000) (B + n + 2) 3 1) (B + n + 6) 1 0) (B + n + 7) 1 0 := hM'
  have eA : ∀ (o N : Nat) (l : List (Option fxV)), B + n + o ∈ List.range' (B + n + 2) 8 → TB9a[o]? = some (11, N, []) → (∀ j, i3 (M' (B + n + o) j) = kci l j) → kcell E (B + n) (11, N, l) = cel (kE E (B + n) TB9a (List.range' (B + n + 2) 8) (fun q => q ∈ List.range' (B + n + 2) 8)) (B + n + o) (M' (B + n + o)) := fun o N l hL ht hj => by
    have hk : kd (kE E (B + n) TB9a (List.range' (B + n + 2) 8) (fun q => q ∈ List.range' (B + n + 2) 8)) (B + n + o) = 11 := kE_kd (E := E) (L := List.range' (B + n + 2) 8) (A := fun q => q ∈ List.range' (B + n + 2) 8) ht hL
    have e2 : ln (kE E (B + n) TB9a (List.range' (B + n + 2) 8) (fun q => q ∈ List.range' (B + n + 2) 8)) (B + n + o) = N := by
      show tn TB9a (B + n + o - (B + n)) = N
      rw [Nat.add_sub_cancel_left, tn, ht]
    rw [kc_i (by decide) (by decide), cel_i hk (by decide) (by decide), e2]
    have e3 : kci l = fun j => i3 (M' (B + n + o) j) := funext (fun j => (hj j).symm)
    rw [e3]
    rfl
  have eN : ∀ o k, tsl TB9a o k = none → vi (tsl TB9a o k) = 0 := fun o k h => by rw [h]; rfl
  have eZ : ∀ o N, TB9a[o]? = some (11, N, []) → ∀ j, vi (tsl TB9a o j) = 0 := fun o N h j => by rw [tsl, h]; simp [vi]
  refine ⟨TB9b, rfl, fun o t ht => ⟨fun hL => ?_, fun hL => ?_⟩, ?_⟩
  · have hb := List.mem_range'_1.mp hL
    rcases (show o = 2 ∨ o = 3 ∨ o = 4 ∨ o = 5 ∨ o = 6 ∨ o = 7 ∨ o = 8 ∨ o = 9 by omega) with rfl | rfl | rfl | rfl | rfl | rfl | rfl | rfl
    · obtain rfl : t = (2, 0, [some (.inr 3), some (.inr 4), some (.inr 5), some (.inl 1), some (.inr 6), some (.inr 7), some (.inr 8), some (.inr 9), some (.inl 0), some (.inl 0), some (.inl 0)]) := (Option.some.inj (show some _ = some t from ht)).symm
      have hk : kd (kE E (B + n) TB9a (List.range' (B + n + 2) 8) (fun q => q ∈ List.range' (B + n + 2) 8)) (B + n + 2) = 2 := kE_kd (E := E) (L := List.range' (B + n + 2) 8) (A := fun q => q ∈ List.range' (B + n + 2) 8) (o := 2) (tb := TB9a) rfl hL
      rw [kc_o (by decide), cel_o hk (by decide), tb9_6]
      have e5 : rf (kE E (B + n) TB9a (List.range' (B + n + 2) 8) (fun q => q ∈ List.range' (B + n + 2) 8)) (B + n + 2) = fun k => B + n + vr (tsl TB9a 2 k) := funext er
      rw [e5]
      have e6 : (fun k => vi (tsl TB9b 2 k)) = M' (B + n + 2) := by
        funext k
        have e7 : M' (B + n + 2) k = if k = 3 then 1 else vi (tsl TB9a 2 k) := by
          rw [hM1, mset_o (by omega), mset_o (by omega), mset_a, mset_o (by omega), mset_o (by omega), mset_o (by omega)]
          show (if k = 3 then (1 : Int) else tM (B + n) TB9a (B + n + 2) k) = _
          rw [eM]
        rw [e7]
        match k with
        | 0 => rfl
        | 1 => rfl
        | 2 => rfl
        | 3 => rfl
        | 4 => rfl
        | 5 => rfl
        | 6 => rfl
        | 7 => rfl
        | 8 => rfl
        | 9 => rfl
        | 10 => rfl
        | k + 11 => rfl
      rw [e6]

    · obtain rfl : t = (11, 8, [some (.inl 100)]) := (Option.some.inj (show some _ = some t from ht)).symm
      refine eA 3 8 _ hL rfl (fun j => ?_)
      rw [hM1]
      have z := eZ 3 8 rfl j
      rw [← eM] at z
      match j with
      | 0 => simp [mset, z, kci]; try rfl
      | j + 1 => simp [mset, z, kci]; try rfl
    · obtain rfl : t = (11, 8, [some (.inl 20)]) := (Option.some.inj (show some _ = some t from ht)).symm
      refine eA 4 8 _ hL rfl (fun j => ?_)
      rw [hM1]
      have z := eZ 4 8 rfl j
      rw [← eM] at z
      match j with
      | 0 => simp [mset, z, kci]; try rfl
      | j + 1 => simp [mset, z, kci]; try rfl
    · obtain rfl : t = (11, 8, [some (.inl 1000)]) := (Option.some.inj (show some _ = some t from ht)).symm
      refine eA 5 8 _ hL rfl (fun j => ?_)
      rw [hM1]
      have z := eZ 5 8 rfl j
      rw [← eM] at z
      match j with
      | 0 => simp [mset, z, kci]; try rfl
      | j + 1 => simp [mset, z, kci]; try rfl
    · obtain rfl : t = (11, 9, []) := (Option.some.inj (show some _ = some t from ht)).symm
      refine eA 6 9 _ hL rfl (fun j => ?_)
      rw [hM1]
      have z := eZ 6 9 rfl j
      rw [← eM] at z
      match j with
      | 0 => simp [mset, z, kci]; try rfl
      | j + 1 => simp [mset, z, kci]; try rfl
    · obtain rfl : t = (11, 9, []) := (Option.some.inj (show some _ = some t from ht)).symm
      refine eA 7 9 _ hL rfl (fun j => ?_)
      rw [hM1]
      have z := eZ 7 9 rfl j
      rw [← eM] at z
      match j with
      | 0 => simp [mset, z, kci]; try rfl
      | j + 1 => simp [mset, z, kci]; try rfl
    · obtain rfl : t = (11, 6, []) := (Option.some.inj (show some _ = some t from ht)).symm
      refine eA 8 6 _ hL rfl (fun j => ?_)
      rw [hM1]
      have z := eZ 8 6 rfl j
      rw [← eM] at z
      match j with
      | 0 => simp [mset, z, kci]; try rfl
      | j + 1 => simp [mset, z, kci]; try rfl
    · obtain rfl : t = (11, 6, []) := (Option.some.inj (show some _ = some t from ht)).symm
      refine eA 9 6 _ hL rfl (fun j => ?_)
      rw [hM1]
      have z := eZ 9 6 rfl j
      rw [← eM] at z
      match j with
      | 0 => simp [mset, z, kci]; try rfl
      | j + 1 => simp [mset, z, kci]; try rfl
  · match o, hL, ht with
    | 0, _, ht => exact ht
    | 1, _, ht => exact ht
    | 2, hL, _ => exact absurd (List.mem_range'_1.mpr ⟨by omega, by omega⟩) hL
    | 3, hL, _ => exact absurd (List.mem_range'_1.mpr ⟨by omega, by omega⟩) hL
    | 4, hL, _ => exact absurd (List.mem_range'_1.mpr ⟨by omega, by omega⟩) hL
    | 5, hL, _ => exact absurd (List.mem_range'_1.mpr ⟨by omega, by omega⟩) hL
    | o + 6, _, ht => exact ht
  refine t_aload_n (pc := 32) (tb := TB9b) dX9_init_32 rfl rfl ?_
  refine t_getr (pc := 33) (tb := TB9b) (o := 0) (o' := 1) dX9_init_33 kg_RX9_12 rfl rfl ?_
  refine t_getr (pc := 36) (tb := TB9b) (o := 1) (o' := 13) dX9_init_36 kg_RX9_26 rfl rfl ?_
  refine t_iconst (pc := 39) (tb := TB9b) dX9_init_39 ?_
  refine t_bipush (pc := 40) (tb := TB9b) dX9_init_40 (by decide +kernel) ?_
  refine t_iast (pc := 42) (tb := TB9b) (o := 13) dX9_init_42 rfl (by decide) (by decide) ?_
  refine t_aload_n (pc := 43) (tb := [(9, 0, [some (.inr 1), none, none, none, none, none, none, none, some (.inl 0)]), (5, 0, [some (.inr 2), some (.inr 10), some (.inr 13)]), (2, 0, [some (.inr 3), some (.inr 4), some (.inr 5), some (.inl 1), some (.inr 6), some (.inr 7), some (.inr 8), some (.inr 9), some (.inl 0), some (.inl 0), some (.inl 0)]), (11, 8, [some (.inl 100)]), (11, 8, [some (.inl 20)]), (11, 8, [some (.inl 1000)]), (11, 9, []), (11, 9, []), (11, 6, []), (11, 6, []), (0, 0, [some (.inr 11), some (.inr 12), some (.inl 0), some (.inl 0)]), (11, 10, []), (11, 10, []), (11, 4, [some (.inl 20)])]) dX9_init_43 rfl rfl ?_
  refine t_getr (pc := 44) (tb := [(9, 0, [some (.inr 1), none, none, none, none, none, none, none, some (.inl 0)]), (5, 0, [some (.inr 2), some (.inr 10), some (.inr 13)]), (2, 0, [some (.inr 3), some (.inr 4), some (.inr 5), some (.inl 1), some (.inr 6), some (.inr 7), some (.inr 8), some (.inr 9), some (.inl 0), some (.inl 0), some (.inl 0)]), (11, 8, [some (.inl 100)]), (11, 8, [some (.inl 20)]), (11, 8, [some (.inl 1000)]), (11, 9, []), (11, 9, []), (11, 6, []), (11, 6, []), (0, 0, [some (.inr 11), some (.inr 12), some (.inl 0), some (.inl 0)]), (11, 10, []), (11, 10, []), (11, 4, [some (.inl 20)])]) (o := 0) (o' := 1) dX9_init_44 kg_RX9_12 rfl rfl ?_
  refine t_getr (pc := 47) (tb := [(9, 0, [some (.inr 1), none, none, none, none, none, none, none, some (.inl 0)]), (5, 0, [some (.inr 2), some (.inr 10), some (.inr 13)]), (2, 0, [some (.inr 3), some (.inr 4), some (.inr 5), some (.inl 1), some (.inr 6), some (.inr 7), some (.inr 8), some (.inr 9), some (.inl 0), some (.inl 0), some (.inl 0)]), (11, 8, [some (.inl 100)]), (11, 8, [some (.inl 20)]), (11, 8, [some (.inl 1000)]), (11, 9, []), (11, 9, []), (11, 6, []), (11, 6, []), (0, 0, [some (.inr 11), some (.inr 12), some (.inl 0), some (.inl 0)]), (11, 10, []), (11, 10, []), (11, 4, [some (.inl 20)])]) (o := 1) (o' := 13) dX9_init_47 kg_RX9_26 rfl rfl ?_
  refine t_iconst (pc := 50) (tb := [(9, 0, [some (.inr 1), none, none, none, none, none, none, none, some (.inl 0)]), (5, 0, [some (.inr 2), some (.inr 10), some (.inr 13)]), (2, 0, [some (.inr 3), some (.inr 4), some (.inr 5), some (.inl 1), some (.inr 6), some (.inr 7), some (.inr 8), some (.inr 9), some (.inl 0), some (.inl 0), some (.inl 0)]), (11, 8, [some (.inl 100)]), (11, 8, [some (.inl 20)]), (11, 8, [some (.inl 1000)]), (11, 9, []), (11, 9, []), (11, 6, []), (11, 6, []), (0, 0, [some (.inr 11), some (.inr 12), some (.inl 0), some (.inl 0)]), (11, 10, []), (11, 10, []), (11, 4, [some (.inl 20)])]) dX9_init_50 ?_
  refine t_bipush (pc := 51) (tb := [(9, 0, [some (.inr 1), none, none, none, none, none, none, none, some (.inl 0)]), (5, 0, [some (.inr 2), some (.inr 10), some (.inr 13)]), (2, 0, [some (.inr 3), some (.inr 4), some (.inr 5), some (.inl 1), some (.inr 6), some (.inr 7), some (.inr 8), some (.inr 9), some (.inl 0), some (.inl 0), some (.inl 0)]), (11, 8, [some (.inl 100)]), (11, 8, [some (.inl 20)]), (11, 8, [some (.inl 1000)]), (11, 9, []), (11, 9, []), (11, 6, []), (11, 6, []), (0, 0, [some (.inr 11), some (.inr 12), some (.inl 0), some (.inl 0)]), (11, 10, []), (11, 10, []), (11, 4, [some (.inl 20)])]) dX9_init_51 (by decide +kernel) ?_
  refine t_iast (pc := 53) (tb := [(9, 0, [some (.inr 1), none, none, none, none, none, none, none, some (.inl 0)]), (5, 0, [some (.inr 2), some (.inr 10), some (.inr 13)]), (2, 0, [some (.inr 3), some (.inr 4), some (.inr 5), some (.inl 1), some (.inr 6), some (.inr 7), some (.inr 8), some (.inr 9), some (.inl 0), some (.inl 0), some (.inl 0)]), (11, 8, [some (.inl 100)]), (11, 8, [some (.inl 20)]), (11, 8, [some (.inl 1000)]), (11, 9, []), (11, 9, []), (11, 6, []), (11, 6, []), (0, 0, [some (.inr 11), some (.inr 12), some (.inl 0), some (.inl 0)]), (11, 10, []), (11, 10, []), (11, 4, [some (.inl 20)])]) (o := 13) dX9_init_53 rfl (by decide) (by decide) ?_
  refine t_aload_n (pc := 54) (tb := [(9, 0, [some (.inr 1), none, none, none, none, none, none, none, some (.inl 0)]), (5, 0, [some (.inr 2), some (.inr 10), some (.inr 13)]), (2, 0, [some (.inr 3), some (.inr 4), some (.inr 5), some (.inl 1), some (.inr 6), some (.inr 7), some (.inr 8), some (.inr 9), some (.inl 0), some (.inl 0), some (.inl 0)]), (11, 8, [some (.inl 100)]), (11, 8, [some (.inl 20)]), (11, 8, [some (.inl 1000)]), (11, 9, []), (11, 9, []), (11, 6, []), (11, 6, []), (0, 0, [some (.inr 11), some (.inr 12), some (.inl 0), some (.inl 0)]), (11, 10, []), (11, 10, []), (11, 4, [some (.inl 20), some (.inl 100)])]) dX9_init_54 rfl rfl ?_
  refine t_getr (pc := 55) (tb := [(9, 0, [some (.inr 1), none, none, none, none, none, none, none, some (.inl 0)]), (5, 0, [some (.inr 2), some (.inr 10), some (.inr 13)]), (2, 0, [some (.inr 3), some (.inr 4), some (.inr 5), some (.inl 1), some (.inr 6), some (.inr 7), some (.inr 8), some (.inr 9), some (.inl 0), some (.inl 0), some (.inl 0)]), (11, 8, [some (.inl 100)]), (11, 8, [some (.inl 20)]), (11, 8, [some (.inl 1000)]), (11, 9, []), (11, 9, []), (11, 6, []), (11, 6, []), (0, 0, [some (.inr 11), some (.inr 12), some (.inl 0), some (.inl 0)]), (11, 10, []), (11, 10, []), (11, 4, [some (.inl 20), some (.inl 100)])]) (o := 0) (o' := 1) dX9_init_55 kg_RX9_12 rfl rfl ?_
  refine t_getr (pc := 58) (tb := [(9, 0, [some (.inr 1), none, none, none, none, none, none, none, some (.inl 0)]), (5, 0, [some (.inr 2), some (.inr 10), some (.inr 13)]), (2, 0, [some (.inr 3), some (.inr 4), some (.inr 5), some (.inl 1), some (.inr 6), some (.inr 7), some (.inr 8), some (.inr 9), some (.inl 0), some (.inl 0), some (.inl 0)]), (11, 8, [some (.inl 100)]), (11, 8, [some (.inl 20)]), (11, 8, [some (.inl 1000)]), (11, 9, []), (11, 9, []), (11, 6, []), (11, 6, []), (0, 0, [some (.inr 11), some (.inr 12), some (.inl 0), some (.inl 0)]), (11, 10, []), (11, 10, []), (11, 4, [some (.inl 20), some (.inl 100)])]) (o := 1) (o' := 13) dX9_init_58 kg_RX9_26 rfl rfl ?_
  refine t_iconst (pc := 61) (tb := [(9, 0, [some (.inr 1), none, none, none, none, none, none, none, some (.inl 0)]), (5, 0, [some (.inr 2), some (.inr 10), some (.inr 13)]), (2, 0, [some (.inr 3), some (.inr 4), some (.inr 5), some (.inl 1), some (.inr 6), some (.inr 7), some (.inr 8), some (.inr 9), some (.inl 0), some (.inl 0), some (.inl 0)]), (11, 8, [some (.inl 100)]), (11, 8, [some (.inl 20)]), (11, 8, [some (.inl 1000)]), (11, 9, []), (11, 9, []), (11, 6, []), (11, 6, []), (0, 0, [some (.inr 11), some (.inr 12), some (.inl 0), some (.inl 0)]), (11, 10, []), (11, 10, []), (11, 4, [some (.inl 20), some (.inl 100)])]) dX9_init_61 ?_
  refine t_iconst (pc := 62) (tb := [(9, 0, [some (.inr 1), none, none, none, none, none, none, none, some (.inl 0)]), (5, 0, [some (.inr 2), some (.inr 10), some (.inr 13)]), (2, 0, [some (.inr 3), some (.inr 4), some (.inr 5), some (.inl 1), some (.inr 6), some (.inr 7), some (.inr 8), some (.inr 9), some (.inl 0), some (.inl 0), some (.inl 0)]), (11, 8, [some (.inl 100)]), (11, 8, [some (.inl 20)]), (11, 8, [some (.inl 1000)]), (11, 9, []), (11, 9, []), (11, 6, []), (11, 6, []), (0, 0, [some (.inr 11), some (.inr 12), some (.inl 0), some (.inl 0)]), (11, 10, []), (11, 10, []), (11, 4, [some (.inl 20), some (.inl 100)])]) dX9_init_62 ?_
  refine t_iast (pc := 63) (tb := [(9, 0, [some (.inr 1), none, none, none, none, none, none, none, some (.inl 0)]), (5, 0, [some (.inr 2), some (.inr 10), some (.inr 13)]), (2, 0, [some (.inr 3), some (.inr 4), some (.inr 5), some (.inl 1), some (.inr 6), some (.inr 7), some (.inr 8), some (.inr 9), some (.inl 0), some (.inl 0), some (.inl 0)]), (11, 8, [some (.inl 100)]), (11, 8, [some (.inl 20)]), (11, 8, [some (.inl 1000)]), (11, 9, []), (11, 9, []), (11, 6, []), (11, 6, []), (0, 0, [some (.inr 11), some (.inr 12), some (.inl 0), some (.inl 0)]), (11, 10, []), (11, 10, []), (11, 4, [some (.inl 20), some (.inl 100)])]) (o := 13) dX9_init_63 rfl (by decide) (by decide) ?_
  refine t_aload_n (pc := 64) (tb := [(9, 0, [some (.inr 1), none, none, none, none, none, none, none, some (.inl 0)]), (5, 0, [some (.inr 2), some (.inr 10), some (.inr 13)]), (2, 0, [some (.inr 3), some (.inr 4), some (.inr 5), some (.inl 1), some (.inr 6), some (.inr 7), some (.inr 8), some (.inr 9), some (.inl 0), some (.inl 0), some (.inl 0)]), (11, 8, [some (.inl 100)]), (11, 8, [some (.inl 20)]), (11, 8, [some (.inl 1000)]), (11, 9, []), (11, 9, []), (11, 6, []), (11, 6, []), (0, 0, [some (.inr 11), some (.inr 12), some (.inl 0), some (.inl 0)]), (11, 10, []), (11, 10, []), (11, 4, [some (.inl 20), some (.inl 100), some (.inl 2)])]) dX9_init_64 rfl rfl ?_
  refine t_getr (pc := 65) (tb := [(9, 0, [some (.inr 1), none, none, none, none, none, none, none, some (.inl 0)]), (5, 0, [some (.inr 2), some (.inr 10), some (.inr 13)]), (2, 0, [some (.inr 3), some (.inr 4), some (.inr 5), some (.inl 1), some (.inr 6), some (.inr 7), some (.inr 8), some (.inr 9), some (.inl 0), some (.inl 0), some (.inl 0)]), (11, 8, [some (.inl 100)]), (11, 8, [some (.inl 20)]), (11, 8, [some (.inl 1000)]), (11, 9, []), (11, 9, []), (11, 6, []), (11, 6, []), (0, 0, [some (.inr 11), some (.inr 12), some (.inl 0), some (.inl 0)]), (11, 10, []), (11, 10, []), (11, 4, [some (.inl 20), some (.inl 100), some (.inl 2)])]) (o := 0) (o' := 1) dX9_init_65 kg_RX9_12 rfl rfl ?_
  refine t_getr (pc := 68) (tb := [(9, 0, [some (.inr 1), none, none, none, none, none, none, none, some (.inl 0)]), (5, 0, [some (.inr 2), some (.inr 10), some (.inr 13)]), (2, 0, [some (.inr 3), some (.inr 4), some (.inr 5), some (.inl 1), some (.inr 6), some (.inr 7), some (.inr 8), some (.inr 9), some (.inl 0), some (.inl 0), some (.inl 0)]), (11, 8, [some (.inl 100)]), (11, 8, [some (.inl 20)]), (11, 8, [some (.inl 1000)]), (11, 9, []), (11, 9, []), (11, 6, []), (11, 6, []), (0, 0, [some (.inr 11), some (.inr 12), some (.inl 0), some (.inl 0)]), (11, 10, []), (11, 10, []), (11, 4, [some (.inl 20), some (.inl 100), some (.inl 2)])]) (o := 1) (o' := 13) dX9_init_68 kg_RX9_26 rfl rfl ?_
  refine t_iconst (pc := 71) (tb := [(9, 0, [some (.inr 1), none, none, none, none, none, none, none, some (.inl 0)]), (5, 0, [some (.inr 2), some (.inr 10), some (.inr 13)]), (2, 0, [some (.inr 3), some (.inr 4), some (.inr 5), some (.inl 1), some (.inr 6), some (.inr 7), some (.inr 8), some (.inr 9), some (.inl 0), some (.inl 0), some (.inl 0)]), (11, 8, [some (.inl 100)]), (11, 8, [some (.inl 20)]), (11, 8, [some (.inl 1000)]), (11, 9, []), (11, 9, []), (11, 6, []), (11, 6, []), (0, 0, [some (.inr 11), some (.inr 12), some (.inl 0), some (.inl 0)]), (11, 10, []), (11, 10, []), (11, 4, [some (.inl 20), some (.inl 100), some (.inl 2)])]) dX9_init_71 ?_
  refine t_sipush (pc := 72) (tb := [(9, 0, [some (.inr 1), none, none, none, none, none, none, none, some (.inl 0)]), (5, 0, [some (.inr 2), some (.inr 10), some (.inr 13)]), (2, 0, [some (.inr 3), some (.inr 4), some (.inr 5), some (.inl 1), some (.inr 6), some (.inr 7), some (.inr 8), some (.inr 9), some (.inl 0), some (.inl 0), some (.inl 0)]), (11, 8, [some (.inl 100)]), (11, 8, [some (.inl 20)]), (11, 8, [some (.inl 1000)]), (11, 9, []), (11, 9, []), (11, 6, []), (11, 6, []), (0, 0, [some (.inr 11), some (.inr 12), some (.inl 0), some (.inl 0)]), (11, 10, []), (11, 10, []), (11, 4, [some (.inl 20), some (.inl 100), some (.inl 2)])]) dX9_init_72 (by decide +kernel) ?_
  refine t_iast (pc := 75) (tb := [(9, 0, [some (.inr 1), none, none, none, none, none, none, none, some (.inl 0)]), (5, 0, [some (.inr 2), some (.inr 10), some (.inr 13)]), (2, 0, [some (.inr 3), some (.inr 4), some (.inr 5), some (.inl 1), some (.inr 6), some (.inr 7), some (.inr 8), some (.inr 9), some (.inl 0), some (.inl 0), some (.inl 0)]), (11, 8, [some (.inl 100)]), (11, 8, [some (.inl 20)]), (11, 8, [some (.inl 1000)]), (11, 9, []), (11, 9, []), (11, 6, []), (11, 6, []), (0, 0, [some (.inr 11), some (.inr 12), some (.inl 0), some (.inl 0)]), (11, 10, []), (11, 10, []), (11, 4, [some (.inl 20), some (.inl 100), some (.inl 2)])]) (o := 13) dX9_init_75 rfl (by decide) (by decide) ?_
  refine t_aload_n (pc := 76) (tb := [(9, 0, [some (.inr 1), none, none, none, none, none, none, none, some (.inl 0)]), (5, 0, [some (.inr 2), some (.inr 10), some (.inr 13)]), (2, 0, [some (.inr 3), some (.inr 4), some (.inr 5), some (.inl 1), some (.inr 6), some (.inr 7), some (.inr 8), some (.inr 9), some (.inl 0), some (.inl 0), some (.inl 0)]), (11, 8, [some (.inl 100)]), (11, 8, [some (.inl 20)]), (11, 8, [some (.inl 1000)]), (11, 9, []), (11, 9, []), (11, 6, []), (11, 6, []), (0, 0, [some (.inr 11), some (.inr 12), some (.inl 0), some (.inl 0)]), (11, 10, []), (11, 10, []), (11, 4, [some (.inl 20), some (.inl 100), some (.inl 2), some (.inl 1000)])]) dX9_init_76 rfl rfl ?_
  refine t_getr (pc := 77) (tb := [(9, 0, [some (.inr 1), none, none, none, none, none, none, none, some (.inl 0)]), (5, 0, [some (.inr 2), some (.inr 10), some (.inr 13)]), (2, 0, [some (.inr 3), some (.inr 4), some (.inr 5), some (.inl 1), some (.inr 6), some (.inr 7), some (.inr 8), some (.inr 9), some (.inl 0), some (.inl 0), some (.inl 0)]), (11, 8, [some (.inl 100)]), (11, 8, [some (.inl 20)]), (11, 8, [some (.inl 1000)]), (11, 9, []), (11, 9, []), (11, 6, []), (11, 6, []), (0, 0, [some (.inr 11), some (.inr 12), some (.inl 0), some (.inl 0)]), (11, 10, []), (11, 10, []), (11, 4, [some (.inl 20), some (.inl 100), some (.inl 2), some (.inl 1000)])]) (o := 0) (o' := 1) dX9_init_77 kg_RX9_12 rfl rfl ?_
  refine t_getr (pc := 80) (tb := [(9, 0, [some (.inr 1), none, none, none, none, none, none, none, some (.inl 0)]), (5, 0, [some (.inr 2), some (.inr 10), some (.inr 13)]), (2, 0, [some (.inr 3), some (.inr 4), some (.inr 5), some (.inl 1), some (.inr 6), some (.inr 7), some (.inr 8), some (.inr 9), some (.inl 0), some (.inl 0), some (.inl 0)]), (11, 8, [some (.inl 100)]), (11, 8, [some (.inl 20)]), (11, 8, [some (.inl 1000)]), (11, 9, []), (11, 9, []), (11, 6, []), (11, 6, []), (0, 0, [some (.inr 11), some (.inr 12), some (.inl 0), some (.inl 0)]), (11, 10, []), (11, 10, []), (11, 4, [some (.inl 20), some (.inl 100), some (.inl 2), some (.inl 1000)])]) (o := 1) (o' := 10) dX9_init_80 kg_RX9_30 rfl rfl ?_
  refine t_bipush (pc := 83) (tb := [(9, 0, [some (.inr 1), none, none, none, none, none, none, none, some (.inl 0)]), (5, 0, [some (.inr 2), some (.inr 10), some (.inr 13)]), (2, 0, [some (.inr 3), some (.inr 4), some (.inr 5), some (.inl 1), some (.inr 6), some (.inr 7), some (.inr 8), some (.inr 9), some (.inl 0), some (.inl 0), some (.inl 0)]), (11, 8, [some (.inl 100)]), (11, 8, [some (.inl 20)]), (11, 8, [some (.inl 1000)]), (11, 9, []), (11, 9, []), (11, 6, []), (11, 6, []), (0, 0, [some (.inr 11), some (.inr 12), some (.inl 0), some (.inl 0)]), (11, 10, []), (11, 10, []), (11, 4, [some (.inl 20), some (.inl 100), some (.inl 2), some (.inl 1000)])]) dX9_init_83 (by decide +kernel) ?_
  refine t_puti (pc := 85) (tb := [(9, 0, [some (.inr 1), none, none, none, none, none, none, none, some (.inl 0)]), (5, 0, [some (.inr 2), some (.inr 10), some (.inr 13)]), (2, 0, [some (.inr 3), some (.inr 4), some (.inr 5), some (.inl 1), some (.inr 6), some (.inr 7), some (.inr 8), some (.inr 9), some (.inl 0), some (.inl 0), some (.inl 0)]), (11, 8, [some (.inl 100)]), (11, 8, [some (.inl 20)]), (11, 8, [some (.inl 1000)]), (11, 9, []), (11, 9, []), (11, 6, []), (11, 6, []), (0, 0, [some (.inr 11), some (.inr 12), some (.inl 0), some (.inl 0)]), (11, 10, []), (11, 10, []), (11, 4, [some (.inl 20), some (.inl 100), some (.inl 2), some (.inl 1000)])]) (o := 10) dX9_init_85 kg_RX9_34 rfl (by decide) ?_
  refine t_eq (tb' := u9_0) rfl ?_
  refine t_aload_n (pc := 88) (tb := u9_0) dX9_init_88 rfl rfl ?_
  refine t_newL (pc := 89) (tb := u9_0) (L := 14) (by decide +kernel) dX9_init_89 kn_RX9_40 (by decide) ?_
  refine t_dup (pc := 92) (tb := u9_0 ++ [(3, 0, blk 3)]) dX9_init_92 ?_
  refine t_callIL (pc := 93) (tb := u9_0) (L := 14) (C := 3) (TB := TB3) (mc' := 105) (ms' := 776) (by decide +kernel) dX9_init_93 kc_RX9_42 (by decide) (by decide) (Nat.le_of_ble_eq_true rfl) (by decide +kernel) (fun n f h => ki_X3 n f h) ?_
  refine t_putr (pc := 96) (tb := u9_1) (o := 0) (o' := 14) dX9_init_96 kf_RX9_43 rfl (by decide) ?_
  refine t_aload_n (pc := 99) (tb := u9_2) dX9_init_99 rfl rfl ?_
  refine t_newL (pc := 100) (tb := u9_2) (L := 120) (by decide +kernel) dX9_init_100 kn_RX9_21 (by decide) ?_
  refine t_dup (pc := 103) (tb := u9_2 ++ [(2, 0, blk 2)]) dX9_init_103 ?_
  refine t_callIL (pc := 104) (tb := u9_2) (L := 120) (C := 2) (TB := TB2) (mc' := 7) (ms' := 54) (by decide +kernel) dX9_init_104 kc_RX9_47 (by decide) (by decide) (Nat.le_of_ble_eq_true rfl) (by decide +kernel) (fun n f h => ki_X2 n f h) ?_
  refine t_putr (pc := 107) (tb := u9_3) (o := 0) (o' := 120) dX9_init_107 kf_RX9_48 rfl (by decide) ?_
  refine t_aload_n (pc := 110) (tb := u9_4) dX9_init_110 rfl rfl ?_
  refine t_newL (pc := 111) (tb := u9_4) (L := 128) (by decide +kernel) dX9_init_111 kn_RX9_51 (by decide) ?_
  refine t_dup (pc := 114) (tb := u9_4 ++ [(6, 0, blk 6)]) dX9_init_114 ?_
  refine t_callIL (pc := 115) (tb := u9_4) (L := 128) (C := 6) (TB := TB6) (mc' := 1) (ms' := 120) (by decide +kernel) dX9_init_115 kc_RX9_53 (by decide) (by decide) (Nat.le_of_ble_eq_true rfl) (by decide +kernel) (fun n f h => ki_X6 n f h) ?_
  refine t_putr (pc := 118) (tb := u9_5) (o := 0) (o' := 128) dX9_init_118 kf_RX9_54 rfl (by decide) ?_
  refine t_aload_n (pc := 121) (tb := u9_6) dX9_init_121 rfl rfl ?_
  refine t_iconst (pc := 122) (tb := u9_6) dX9_init_122 ?_
  refine t_newqL (pc := 123) (tb := u9_6) (N := 2) (K := 16) (t0 := 5) (L := 130) (by decide +kernel) rfl dX9_init_123 ka_RX9_58 (by decide +kernel) (by decide) rfl (by decide) (by decide) ?_
  refine t_putr (pc := 126) (tb := u9_7) (o := 0) (o' := 130) dX9_init_126 kf_RX9_60 rfl (by decide) ?_
  refine t_aload_n (pc := 129) (tb := u9_8) dX9_init_129 rfl rfl ?_
  refine t_bipush (pc := 130) (tb := u9_8) dX9_init_130 (by decide +kernel) ?_
  refine t_newqL (pc := 132) (tb := u9_8) (N := 8) (K := 15) (t0 := 4) (L := 131) (by decide +kernel) rfl dX9_init_132 ka_RX9_64 (by decide +kernel) (by decide) rfl (by decide) (by decide) ?_
  refine t_putr (pc := 135) (tb := u9_9) (o := 0) (o' := 131) dX9_init_135 kf_RX9_66 rfl (by decide) ?_
  refine t_aload_n (pc := 138) (tb := u9_10) dX9_init_138 rfl rfl ?_
  refine t_iconst (pc := 139) (tb := u9_10) dX9_init_139 ?_
  refine t_newqL (pc := 140) (tb := u9_10) (N := 2) (K := 13) (t0 := 2) (L := 132) (by decide +kernel) rfl dX9_init_140 ka_RX9_70 (by decide +kernel) (by decide) rfl (by decide) (by decide) ?_
  refine t_putr (pc := 143) (tb := u9_11) (o := 0) (o' := 132) dX9_init_143 kf_RX9_72 rfl (by decide) ?_
  refine t_aload_n (pc := 146) (tb := u9_12) dX9_init_146 rfl rfl ?_
  refine t_newL (pc := 147) (tb := u9_12) (L := 133) (by decide +kernel) dX9_init_147 kn_RX9_76 (by decide) ?_
  refine t_dup (pc := 150) (tb := u9_12 ++ [(4, 0, blk 4)]) dX9_init_150 ?_
  refine t_callIL (pc := 151) (tb := u9_12) (L := 133) (C := 4) (TB := TB4) (mc' := 3) (ms' := 600) (by decide +kernel) dX9_init_151 kc_RX9_78 (by decide) (by decide) (Nat.le_of_ble_eq_true rfl) (by decide +kernel) (fun n f h => ki_X4 n f h) ?_
  refine t_putr (pc := 154) (tb := u9_13) (o := 0) (o' := 133) dX9_init_154 kf_RX9_79 rfl (by decide) ?_
  refine t_aload_n (pc := 157) (tb := u9_14) dX9_init_157 rfl rfl ?_
  refine t_iconst (pc := 158) (tb := u9_14) dX9_init_158 ?_
  refine t_puti (pc := 159) (tb := u9_14) (o := 0) dX9_init_159 kg_RX9_83 rfl (by decide) ?_
  refine t_iconst (pc := 162) (tb := u9_15) dX9_init_162 ?_
  refine t_istore_n (pc := 163) (tb := u9_15) (lv' := [some (.inr (B + n + 0)), some (.inl 0)]) dX9_init_163 rfl (by decide) rfl ?_
  refine t_iload_n (pc := 164) (tb := u9_15) dX9_init_164 rfl rfl ?_
  refine t_iconst (pc := 165) (tb := u9_15) dX9_init_165 ?_
  refine t_cge (pc := 166) (tb := u9_15) 201 dX9_init_166 (by decide) ⟨⟨by decide, by decide⟩, ⟨by decide, by decide⟩⟩ (fun h => absurd h (by decide)) (fun _ => ?_)
  refine t_aload_n (pc := 169) (tb := u9_15) dX9_init_169 rfl rfl ?_
  refine t_getr (pc := 170) (tb := u9_15) (o := 0) (o' := 130) dX9_init_170 kg_RX9_60 rfl rfl ?_
  refine t_iload_n (pc := 173) (tb := u9_15) dX9_init_173 rfl rfl ?_
  refine t_newL (pc := 174) (tb := u9_15) (L := 137) (by decide +kernel) dX9_init_174 kn_RX9_58 (by decide) ?_
  refine t_dup (pc := 177) (tb := u9_15 ++ [(8, 0, blk 8)]) dX9_init_177 ?_
  refine t_callIL (pc := 178) (tb := u9_15) (L := 137) (C := 8) (TB := TB8) (mc' := 4) (ms' := 621) (by decide +kernel) dX9_init_178 kc_RX9_86 (by decide) (by decide) (Nat.le_of_ble_eq_true rfl) (by decide +kernel) (fun n f h => ki_X8 n f h) ?_
  refine t_aast (pc := 181) (tb := u9_16) (o := 130) (o' := 137) (L := 2) (K := 16) (t0 := 5) (C := 8) dX9_init_181 rfl (by decide) rfl rfl (by decide) rfl (by decide) (by decide) ?_
  refine t_aload_n (pc := 182) (tb := u9_17) dX9_init_182 rfl rfl ?_
  refine t_getr (pc := 183) (tb := u9_17) (o := 0) (o' := 132) dX9_init_183 kg_RX9_72 rfl rfl ?_
  refine t_iload_n (pc := 186) (tb := u9_17) dX9_init_186 rfl rfl ?_
  refine t_newL (pc := 187) (tb := u9_17) (L := 142) (by decide +kernel) dX9_init_187 kn_RX9_70 (by decide) ?_
  refine t_dup (pc := 190) (tb := u9_17 ++ [(1, 0, blk 1)]) dX9_init_190 ?_
  refine t_callIL (pc := 191) (tb := u9_17) (L := 142) (C := 1) (TB := TB1) (mc' := 6) (ms' := 1401) (by decide +kernel) dX9_init_191 kc_RX9_87 (by decide) (by decide) (Nat.le_of_ble_eq_true rfl) (by decide +kernel) (fun n f h => ki_X1 n f h) ?_
  refine t_aast (pc := 194) (tb := u9_18) (o := 132) (o' := 142) (L := 2) (K := 13) (t0 := 2) (C := 1) dX9_init_194 rfl (by decide) rfl rfl (by decide) rfl (by decide) (by decide) ?_
  refine t_iinc (pc := 195) (tb := u9_19) (lv' := [some (.inr (B + n + 0)), some (.inl 1)]) dX9_init_195 rfl (by decide) rfl ?_
  refine t_goto (pc := 198) (tb := u9_19) 164 dX9_init_198 (by decide) ?_
  refine t_iload_n (pc := 164) (tb := u9_19) dX9_init_164 rfl rfl ?_
  refine t_iconst (pc := 165) (tb := u9_19) dX9_init_165 ?_
  refine t_cge (pc := 166) (tb := u9_19) 201 dX9_init_166 (by decide) ⟨⟨by decide, by decide⟩, ⟨by decide, by decide⟩⟩ (fun h => absurd h (by decide)) (fun _ => ?_)
  refine t_aload_n (pc := 169) (tb := u9_19) dX9_init_169 rfl rfl ?_
  refine t_getr (pc := 170) (tb := u9_19) (o := 0) (o' := 130) dX9_init_170 kg_RX9_60 rfl rfl ?_
  refine t_iload_n (pc := 173) (tb := u9_19) dX9_init_173 rfl rfl ?_
  refine t_newL (pc := 174) (tb := u9_19) (L := 149) (by decide +kernel) dX9_init_174 kn_RX9_58 (by decide) ?_
  refine t_dup (pc := 177) (tb := u9_19 ++ [(8, 0, blk 8)]) dX9_init_177 ?_
  refine t_callIL (pc := 178) (tb := u9_19) (L := 149) (C := 8) (TB := TB8) (mc' := 4) (ms' := 621) (by decide +kernel) dX9_init_178 kc_RX9_86 (by decide) (by decide) (Nat.le_of_ble_eq_true rfl) (by decide +kernel) (fun n f h => ki_X8 n f h) ?_
  refine t_aast (pc := 181) (tb := u9_20) (o := 130) (o' := 149) (L := 2) (K := 16) (t0 := 5) (C := 8) dX9_init_181 rfl (by decide) rfl rfl (by decide) rfl (by decide) (by decide) ?_
  refine t_aload_n (pc := 182) (tb := u9_21) dX9_init_182 rfl rfl ?_
  refine t_getr (pc := 183) (tb := u9_21) (o := 0) (o' := 132) dX9_init_183 kg_RX9_72 rfl rfl ?_
  refine t_iload_n (pc := 186) (tb := u9_21) dX9_init_186 rfl rfl ?_
  refine t_newL (pc := 187) (tb := u9_21) (L := 154) (by decide +kernel) dX9_init_187 kn_RX9_70 (by decide) ?_
  refine t_dup (pc := 190) (tb := u9_21 ++ [(1, 0, blk 1)]) dX9_init_190 ?_
  refine t_callIL (pc := 191) (tb := u9_21) (L := 154) (C := 1) (TB := TB1) (mc' := 6) (ms' := 1401) (by decide +kernel) dX9_init_191 kc_RX9_87 (by decide) (by decide) (Nat.le_of_ble_eq_true rfl) (by decide +kernel) (fun n f h => ki_X1 n f h) ?_
  refine t_aast (pc := 194) (tb := u9_22) (o := 132) (o' := 154) (L := 2) (K := 13) (t0 := 2) (C := 1) dX9_init_194 rfl (by decide) rfl rfl (by decide) rfl (by decide) (by decide) ?_
  refine t_iinc (pc := 195) (tb := u9_23) (lv' := [some (.inr (B + n + 0)), some (.inl 2)]) dX9_init_195 rfl (by decide) rfl ?_
  refine t_goto (pc := 198) (tb := u9_23) 164 dX9_init_198 (by decide) ?_
  refine t_iload_n (pc := 164) (tb := u9_23) dX9_init_164 rfl rfl ?_
  refine t_iconst (pc := 165) (tb := u9_23) dX9_init_165 ?_
  refine t_cge (pc := 166) (tb := u9_23) 201 dX9_init_166 (by decide) ⟨⟨by decide, by decide⟩, ⟨by decide, by decide⟩⟩ (fun _ => ?_) (fun h => absurd (by decide) h)
  refine t_iconst (pc := 201) (tb := u9_23) dX9_init_201 ?_
  refine t_istore_n (pc := 202) (tb := u9_23) (lv' := [some (.inr (B + n + 0)), some (.inl 0)]) dX9_init_202 rfl (by decide) rfl ?_
  refine t_iload_n (pc := 203) (tb := u9_23) dX9_init_203 rfl rfl ?_
  refine t_aload_n (pc := 204) (tb := u9_23) dX9_init_204 rfl rfl ?_
  refine t_getr (pc := 205) (tb := u9_23) (o := 0) (o' := 131) dX9_init_205 kg_RX9_66 rfl rfl ?_
  refine t_alen (pc := 208) (tb := u9_23) (o := 131) (L := 8) (K := 15) (t0 := 4) dX9_init_208 rfl (by decide) rfl ?_
  refine t_cge (pc := 209) (tb := u9_23) 231 dX9_init_209 (by decide) ⟨⟨by decide, by decide⟩, ⟨by decide, by decide⟩⟩ (fun h => absurd h (by decide)) (fun _ => ?_)
  refine t_aload_n (pc := 212) (tb := u9_23) dX9_init_212 rfl rfl ?_
  refine t_getr (pc := 213) (tb := u9_23) (o := 0) (o' := 131) dX9_init_213 kg_RX9_66 rfl rfl ?_
  refine t_iload_n (pc := 216) (tb := u9_23) dX9_init_216 rfl rfl ?_
  refine t_newL (pc := 217) (tb := u9_23) (L := 161) (by decide +kernel) dX9_init_217 kn_RX9_64 (by decide) ?_
  refine t_dup (pc := 220) (tb := u9_23 ++ [(7, 0, blk 7)]) dX9_init_220 ?_
  refine t_callIL (pc := 221) (tb := u9_23) (L := 161) (C := 7) (TB := TB7) (mc' := 1) (ms' := 401) (by decide +kernel) dX9_init_221 kc_RX9_88 (by decide) (by decide) (Nat.le_of_ble_eq_true rfl) (by decide +kernel) (fun n f h => ki_X7 n f h) ?_
  refine t_aast (pc := 224) (tb := u9_24) (o := 131) (o' := 161) (L := 8) (K := 15) (t0 := 4) (C := 7) dX9_init_224 rfl (by decide) rfl rfl (by decide) rfl (by decide) (by decide) ?_
  refine t_iinc (pc := 225) (tb := u9_25) (lv' := [some (.inr (B + n + 0)), some (.inl 1)]) dX9_init_225 rfl (by decide) rfl ?_
  refine t_goto (pc := 228) (tb := u9_25) 203 dX9_init_228 (by decide) ?_
  refine t_iload_n (pc := 203) (tb := u9_25) dX9_init_203 rfl rfl ?_
  refine t_aload_n (pc := 204) (tb := u9_25) dX9_init_204 rfl rfl ?_
  refine t_getr (pc := 205) (tb := u9_25) (o := 0) (o' := 131) dX9_init_205 kg_RX9_66 rfl rfl ?_
  refine t_alen (pc := 208) (tb := u9_25) (o := 131) (L := 8) (K := 15) (t0 := 4) dX9_init_208 rfl (by decide) rfl ?_
  refine t_cge (pc := 209) (tb := u9_25) 231 dX9_init_209 (by decide) ⟨⟨by decide, by decide⟩, ⟨by decide, by decide⟩⟩ (fun h => absurd h (by decide)) (fun _ => ?_)
  refine t_aload_n (pc := 212) (tb := u9_25) dX9_init_212 rfl rfl ?_
  refine t_getr (pc := 213) (tb := u9_25) (o := 0) (o' := 131) dX9_init_213 kg_RX9_66 rfl rfl ?_
  refine t_iload_n (pc := 216) (tb := u9_25) dX9_init_216 rfl rfl ?_
  refine t_newL (pc := 217) (tb := u9_25) (L := 163) (by decide +kernel) dX9_init_217 kn_RX9_64 (by decide) ?_
  refine t_dup (pc := 220) (tb := u9_25 ++ [(7, 0, blk 7)]) dX9_init_220 ?_
  refine t_callIL (pc := 221) (tb := u9_25) (L := 163) (C := 7) (TB := TB7) (mc' := 1) (ms' := 401) (by decide +kernel) dX9_init_221 kc_RX9_88 (by decide) (by decide) (Nat.le_of_ble_eq_true rfl) (by decide +kernel) (fun n f h => ki_X7 n f h) ?_
  refine t_aast (pc := 224) (tb := u9_26) (o := 131) (o' := 163) (L := 8) (K := 15) (t0 := 4) (C := 7) dX9_init_224 rfl (by decide) rfl rfl (by decide) rfl (by decide) (by decide) ?_
  refine t_iinc (pc := 225) (tb := u9_27) (lv' := [some (.inr (B + n + 0)), some (.inl 2)]) dX9_init_225 rfl (by decide) rfl ?_
  refine t_goto (pc := 228) (tb := u9_27) 203 dX9_init_228 (by decide) ?_
  refine t_iload_n (pc := 203) (tb := u9_27) dX9_init_203 rfl rfl ?_
  refine t_aload_n (pc := 204) (tb := u9_27) dX9_init_204 rfl rfl ?_
  refine t_getr (pc := 205) (tb := u9_27) (o := 0) (o' := 131) dX9_init_205 kg_RX9_66 rfl rfl ?_
  refine t_alen (pc := 208) (tb := u9_27) (o := 131) (L := 8) (K := 15) (t0 := 4) dX9_init_208 rfl (by decide) rfl ?_
  refine t_cge (pc := 209) (tb := u9_27) 231 dX9_init_209 (by decide) ⟨⟨by decide, by decide⟩, ⟨by decide, by decide⟩⟩ (fun h => absurd h (by decide)) (fun _ => ?_)
  refine t_aload_n (pc := 212) (tb := u9_27) dX9_init_212 rfl rfl ?_
  refine t_getr (pc := 213) (tb := u9_27) (o := 0) (o' := 131) dX9_init_213 kg_RX9_66 rfl rfl ?_
  refine t_iload_n (pc := 216) (tb := u9_27) dX9_init_216 rfl rfl ?_
  refine t_newL (pc := 217) (tb := u9_27) (L := 165) (by decide +kernel) dX9_init_217 kn_RX9_64 (by decide) ?_
  refine t_dup (pc := 220) (tb := u9_27 ++ [(7, 0, blk 7)]) dX9_init_220 ?_
  refine t_callIL (pc := 221) (tb := u9_27) (L := 165) (C := 7) (TB := TB7) (mc' := 1) (ms' := 401) (by decide +kernel) dX9_init_221 kc_RX9_88 (by decide) (by decide) (Nat.le_of_ble_eq_true rfl) (by decide +kernel) (fun n f h => ki_X7 n f h) ?_
  refine t_aast (pc := 224) (tb := u9_28) (o := 131) (o' := 165) (L := 8) (K := 15) (t0 := 4) (C := 7) dX9_init_224 rfl (by decide) rfl rfl (by decide) rfl (by decide) (by decide) ?_
  refine t_iinc (pc := 225) (tb := u9_29) (lv' := [some (.inr (B + n + 0)), some (.inl 3)]) dX9_init_225 rfl (by decide) rfl ?_
  refine t_goto (pc := 228) (tb := u9_29) 203 dX9_init_228 (by decide) ?_
  refine t_iload_n (pc := 203) (tb := u9_29) dX9_init_203 rfl rfl ?_
  refine t_aload_n (pc := 204) (tb := u9_29) dX9_init_204 rfl rfl ?_
  refine t_getr (pc := 205) (tb := u9_29) (o := 0) (o' := 131) dX9_init_205 kg_RX9_66 rfl rfl ?_
  refine t_alen (pc := 208) (tb := u9_29) (o := 131) (L := 8) (K := 15) (t0 := 4) dX9_init_208 rfl (by decide) rfl ?_
  refine t_cge (pc := 209) (tb := u9_29) 231 dX9_init_209 (by decide) ⟨⟨by decide, by decide⟩, ⟨by decide, by decide⟩⟩ (fun h => absurd h (by decide)) (fun _ => ?_)
  refine t_aload_n (pc := 212) (tb := u9_29) dX9_init_212 rfl rfl ?_
  refine t_getr (pc := 213) (tb := u9_29) (o := 0) (o' := 131) dX9_init_213 kg_RX9_66 rfl rfl ?_
  refine t_iload_n (pc := 216) (tb := u9_29) dX9_init_216 rfl rfl ?_
  refine t_newL (pc := 217) (tb := u9_29) (L := 167) (by decide +kernel) dX9_init_217 kn_RX9_64 (by decide) ?_
  refine t_dup (pc := 220) (tb := u9_29 ++ [(7, 0, blk 7)]) dX9_init_220 ?_
  refine t_callIL (pc := 221) (tb := u9_29) (L := 167) (C := 7) (TB := TB7) (mc' := 1) (ms' := 401) (by decide +kernel) dX9_init_221 kc_RX9_88 (by decide) (by decide) (Nat.le_of_ble_eq_true rfl) (by decide +kernel) (fun n f h => ki_X7 n f h) ?_
  refine t_aast (pc := 224) (tb := u9_30) (o := 131) (o' := 167) (L := 8) (K := 15) (t0 := 4) (C := 7) dX9_init_224 rfl (by decide) rfl rfl (by decide) rfl (by decide) (by decide) ?_
  refine t_iinc (pc := 225) (tb := u9_31) (lv' := [some (.inr (B + n + 0)), some (.inl 4)]) dX9_init_225 rfl (by decide) rfl ?_
  refine t_goto (pc := 228) (tb := u9_31) 203 dX9_init_228 (by decide) ?_
  refine t_iload_n (pc := 203) (tb := u9_31) dX9_init_203 rfl rfl ?_
  refine t_aload_n (pc := 204) (tb := u9_31) dX9_init_204 rfl rfl ?_
  refine t_getr (pc := 205) (tb := u9_31) (o := 0) (o' := 131) dX9_init_205 kg_RX9_66 rfl rfl ?_
  refine t_alen (pc := 208) (tb := u9_31) (o := 131) (L := 8) (K := 15) (t0 := 4) dX9_init_208 rfl (by decide) rfl ?_
  refine t_cge (pc := 209) (tb := u9_31) 231 dX9_init_209 (by decide) ⟨⟨by decide, by decide⟩, ⟨by decide, by decide⟩⟩ (fun h => absurd h (by decide)) (fun _ => ?_)
  refine t_aload_n (pc := 212) (tb := u9_31) dX9_init_212 rfl rfl ?_
  refine t_getr (pc := 213) (tb := u9_31) (o := 0) (o' := 131) dX9_init_213 kg_RX9_66 rfl rfl ?_
  refine t_iload_n (pc := 216) (tb := u9_31) dX9_init_216 rfl rfl ?_
  refine t_newL (pc := 217) (tb := u9_31) (L := 169) (by decide +kernel) dX9_init_217 kn_RX9_64 (by decide) ?_
  refine t_dup (pc := 220) (tb := u9_31 ++ [(7, 0, blk 7)]) dX9_init_220 ?_
  refine t_callIL (pc := 221) (tb := u9_31) (L := 169) (C := 7) (TB := TB7) (mc' := 1) (ms' := 401) (by decide +kernel) dX9_init_221 kc_RX9_88 (by decide) (by decide) (Nat.le_of_ble_eq_true rfl) (by decide +kernel) (fun n f h => ki_X7 n f h) ?_
  refine t_aast (pc := 224) (tb := u9_32) (o := 131) (o' := 169) (L := 8) (K := 15) (t0 := 4) (C := 7) dX9_init_224 rfl (by decide) rfl rfl (by decide) rfl (by decide) (by decide) ?_
  refine t_iinc (pc := 225) (tb := u9_33) (lv' := [some (.inr (B + n + 0)), some (.inl 5)]) dX9_init_225 rfl (by decide) rfl ?_
  refine t_goto (pc := 228) (tb := u9_33) 203 dX9_init_228 (by decide) ?_
  refine t_iload_n (pc := 203) (tb := u9_33) dX9_init_203 rfl rfl ?_
  refine t_aload_n (pc := 204) (tb := u9_33) dX9_init_204 rfl rfl ?_
  refine t_getr (pc := 205) (tb := u9_33) (o := 0) (o' := 131) dX9_init_205 kg_RX9_66 rfl rfl ?_
  refine t_alen (pc := 208) (tb := u9_33) (o := 131) (L := 8) (K := 15) (t0 := 4) dX9_init_208 rfl (by decide) rfl ?_
  refine t_cge (pc := 209) (tb := u9_33) 231 dX9_init_209 (by decide) ⟨⟨by decide, by decide⟩, ⟨by decide, by decide⟩⟩ (fun h => absurd h (by decide)) (fun _ => ?_)
  refine t_aload_n (pc := 212) (tb := u9_33) dX9_init_212 rfl rfl ?_
  refine t_getr (pc := 213) (tb := u9_33) (o := 0) (o' := 131) dX9_init_213 kg_RX9_66 rfl rfl ?_
  refine t_iload_n (pc := 216) (tb := u9_33) dX9_init_216 rfl rfl ?_
  refine t_newL (pc := 217) (tb := u9_33) (L := 171) (by decide +kernel) dX9_init_217 kn_RX9_64 (by decide) ?_
  refine t_dup (pc := 220) (tb := u9_33 ++ [(7, 0, blk 7)]) dX9_init_220 ?_
  refine t_callIL (pc := 221) (tb := u9_33) (L := 171) (C := 7) (TB := TB7) (mc' := 1) (ms' := 401) (by decide +kernel) dX9_init_221 kc_RX9_88 (by decide) (by decide) (Nat.le_of_ble_eq_true rfl) (by decide +kernel) (fun n f h => ki_X7 n f h) ?_
  refine t_aast (pc := 224) (tb := u9_34) (o := 131) (o' := 171) (L := 8) (K := 15) (t0 := 4) (C := 7) dX9_init_224 rfl (by decide) rfl rfl (by decide) rfl (by decide) (by decide) ?_
  refine t_iinc (pc := 225) (tb := u9_35) (lv' := [some (.inr (B + n + 0)), some (.inl 6)]) dX9_init_225 rfl (by decide) rfl ?_
  refine t_goto (pc := 228) (tb := u9_35) 203 dX9_init_228 (by decide) ?_
  refine t_iload_n (pc := 203) (tb := u9_35) dX9_init_203 rfl rfl ?_
  refine t_aload_n (pc := 204) (tb := u9_35) dX9_init_204 rfl rfl ?_
  refine t_getr (pc := 205) (tb := u9_35) (o := 0) (o' := 131) dX9_init_205 kg_RX9_66 rfl rfl ?_
  refine t_alen (pc := 208) (tb := u9_35) (o := 131) (L := 8) (K := 15) (t0 := 4) dX9_init_208 rfl (by decide) rfl ?_
  refine t_cge (pc := 209) (tb := u9_35) 231 dX9_init_209 (by decide) ⟨⟨by decide, by decide⟩, ⟨by decide, by decide⟩⟩ (fun h => absurd h (by decide)) (fun _ => ?_)
  refine t_aload_n (pc := 212) (tb := u9_35) dX9_init_212 rfl rfl ?_
  refine t_getr (pc := 213) (tb := u9_35) (o := 0) (o' := 131) dX9_init_213 kg_RX9_66 rfl rfl ?_
  refine t_iload_n (pc := 216) (tb := u9_35) dX9_init_216 rfl rfl ?_
  refine t_newL (pc := 217) (tb := u9_35) (L := 173) (by decide +kernel) dX9_init_217 kn_RX9_64 (by decide) ?_
  refine t_dup (pc := 220) (tb := u9_35 ++ [(7, 0, blk 7)]) dX9_init_220 ?_
  refine t_callIL (pc := 221) (tb := u9_35) (L := 173) (C := 7) (TB := TB7) (mc' := 1) (ms' := 401) (by decide +kernel) dX9_init_221 kc_RX9_88 (by decide) (by decide) (Nat.le_of_ble_eq_true rfl) (by decide +kernel) (fun n f h => ki_X7 n f h) ?_
  refine t_aast (pc := 224) (tb := u9_36) (o := 131) (o' := 173) (L := 8) (K := 15) (t0 := 4) (C := 7) dX9_init_224 rfl (by decide) rfl rfl (by decide) rfl (by decide) (by decide) ?_
  refine t_iinc (pc := 225) (tb := u9_37) (lv' := [some (.inr (B + n + 0)), some (.inl 7)]) dX9_init_225 rfl (by decide) rfl ?_
  refine t_goto (pc := 228) (tb := u9_37) 203 dX9_init_228 (by decide) ?_
  refine t_iload_n (pc := 203) (tb := u9_37) dX9_init_203 rfl rfl ?_
  refine t_aload_n (pc := 204) (tb := u9_37) dX9_init_204 rfl rfl ?_
  refine t_getr (pc := 205) (tb := u9_37) (o := 0) (o' := 131) dX9_init_205 kg_RX9_66 rfl rfl ?_
  refine t_alen (pc := 208) (tb := u9_37) (o := 131) (L := 8) (K := 15) (t0 := 4) dX9_init_208 rfl (by decide) rfl ?_
  refine t_cge (pc := 209) (tb := u9_37) 231 dX9_init_209 (by decide) ⟨⟨by decide, by decide⟩, ⟨by decide, by decide⟩⟩ (fun h => absurd h (by decide)) (fun _ => ?_)
  refine t_aload_n (pc := 212) (tb := u9_37) dX9_init_212 rfl rfl ?_
  refine t_getr (pc := 213) (tb := u9_37) (o := 0) (o' := 131) dX9_init_213 kg_RX9_66 rfl rfl ?_
  refine t_iload_n (pc := 216) (tb := u9_37) dX9_init_216 rfl rfl ?_
  refine t_newL (pc := 217) (tb := u9_37) (L := 175) (by decide +kernel) dX9_init_217 kn_RX9_64 (by decide) ?_
  refine t_dup (pc := 220) (tb := u9_37 ++ [(7, 0, blk 7)]) dX9_init_220 ?_
  refine t_callIL (pc := 221) (tb := u9_37) (L := 175) (C := 7) (TB := TB7) (mc' := 1) (ms' := 401) (by decide +kernel) dX9_init_221 kc_RX9_88 (by decide) (by decide) (Nat.le_of_ble_eq_true rfl) (by decide +kernel) (fun n f h => ki_X7 n f h) ?_
  refine t_aast (pc := 224) (tb := u9_38) (o := 131) (o' := 175) (L := 8) (K := 15) (t0 := 4) (C := 7) dX9_init_224 rfl (by decide) rfl rfl (by decide) rfl (by decide) (by decide) ?_
  refine t_iinc (pc := 225) (tb := u9_39) (lv' := [some (.inr (B + n + 0)), some (.inl 8)]) dX9_init_225 rfl (by decide) rfl ?_
  refine t_goto (pc := 228) (tb := u9_39) 203 dX9_init_228 (by decide) ?_
  refine t_iload_n (pc := 203) (tb := u9_39) dX9_init_203 rfl rfl ?_
  refine t_aload_n (pc := 204) (tb := u9_39) dX9_init_204 rfl rfl ?_
  refine t_getr (pc := 205) (tb := u9_39) (o := 0) (o' := 131) dX9_init_205 kg_RX9_66 rfl rfl ?_
  refine t_alen (pc := 208) (tb := u9_39) (o := 131) (L := 8) (K := 15) (t0 := 4) dX9_init_208 rfl (by decide) rfl ?_
  refine t_cge (pc := 209) (tb := u9_39) 231 dX9_init_209 (by decide) ⟨⟨by decide, by decide⟩, ⟨by decide, by decide⟩⟩ (fun _ => ?_) (fun h => absurd (by decide) h)
  exact t_ret (pc := 231) (tb := u9_39) dX9_init_231 rfl rfl rfl (fun f h1 h2 => ⟨h1, h2⟩)
