theorem dX9_isWithin_0 : decode cX9_isWithin 0 = .ok (.iload_n 0, 1) := by decide +kernel
theorem dX9_isWithin_1 : decode cX9_isWithin 1 = .ok (.iload_n 1, 1) := by decide +kernel
theorem dX9_isWithin_2 : decode cX9_isWithin 2 = .ok (.if_icmp .lt 12, 3) := by decide +kernel
theorem dX9_isWithin_5 : decode cX9_isWithin 5 = .ok (.iload_n 0, 1) := by decide +kernel
theorem dX9_isWithin_6 : decode cX9_isWithin 6 = .ok (.iload_n 2, 1) := by decide +kernel
theorem dX9_isWithin_7 : decode cX9_isWithin 7 = .ok (.if_icmp .gt 7, 3) := by decide +kernel
theorem dX9_isWithin_10 : decode cX9_isWithin 10 = .ok (.iconst 1, 1) := by decide +kernel
theorem dX9_isWithin_11 : decode cX9_isWithin 11 = .ok (.goto 4, 3) := by decide +kernel
theorem dX9_isWithin_14 : decode cX9_isWithin 14 = .ok (.iconst 0, 1) := by decide +kernel
theorem dX9_isWithin_15 : decode cX9_isWithin 15 = .ok (.ireturn, 1) := by decide +kernel
set_option maxRecDepth 100000 in
theorem b_X9_isWithin_0 {E : fxE} (hW : fx_Wt E) (x0 : Int) (x1 : Int) (x2 : Int) (M : fxM) (Q : Option fxV → fxM → Prop)  (h : (-2147483648 ≤ x0 ∧ x0 < 2147483648) ∧ (-2147483648 ≤ x1 ∧ x1 < 2147483648) ∧ ((x0 < x1 → Q (some (.inl 0)) M) ∧ (¬ x0 < x1 → (-2147483648 ≤ x2 ∧ x2 < 2147483648) ∧ ((x2 < x0 → Q (some (.inl 0)) M) ∧ (¬ x2 < x0 → Q (some (.inl 1)) M))))) : fx_At E m_X9_isWithin 0 [some (.inl x0), some (.inl x1), some (.inl x2)] [] M Q := by
  refine x_iload_n (pc := 0) dX9_isWithin_0 rfl rfl ?_
  refine x_iload_n (pc := 1) dX9_isWithin_1 rfl rfl ?_
  obtain ⟨g1, h⟩ := h
  obtain ⟨g2, h⟩ := h
  refine x_clt (pc := 2) 14 dX9_isWithin_2 (by decide) ⟨g1, g2⟩ (fun hc => ?_) (fun hc => ?_)
  · replace h := h.1 hc
    refine x_iconst (pc := 14) dX9_isWithin_14 ?_
    exact x_iret (pc := 15) dX9_isWithin_15 (Or.inr ⟨rfl, by decide⟩) h
  · replace h := h.2 hc
    refine x_iload_n (pc := 5) dX9_isWithin_5 rfl rfl ?_
    refine x_iload_n (pc := 6) dX9_isWithin_6 rfl rfl ?_
    obtain ⟨g3, h⟩ := h
    refine x_cgt (pc := 7) 14 dX9_isWithin_7 (by decide) ⟨g1, g3⟩ (fun hc => ?_) (fun hc => ?_)
    · replace h := h.1 hc
      refine x_iconst (pc := 14) dX9_isWithin_14 ?_
      exact x_iret (pc := 15) dX9_isWithin_15 (Or.inr ⟨rfl, by decide⟩) h
    · replace h := h.2 hc
      refine x_iconst (pc := 10) dX9_isWithin_10 ?_
      refine x_goto (pc := 11) 15 dX9_isWithin_11 (by decide) ?_
      exact x_iret (pc := 15) dX9_isWithin_15 (Or.inr ⟨rfl, by decide⟩) h
theorem dX10_isIn_0 : decode cX10_isIn 0 = .ok (.iload_n 0, 1) := by decide +kernel
theorem dX10_isIn_1 : decode cX10_isIn 1 = .ok (.iload_n 1, 1) := by decide +kernel
theorem dX10_isIn_2 : decode cX10_isIn 2 = .ok (.if_icmp .lt 12, 3) := by decide +kernel
theorem dX10_isIn_5 : decode cX10_isIn 5 = .ok (.iload_n 0, 1) := by decide +kernel
theorem dX10_isIn_6 : decode cX10_isIn 6 = .ok (.iload_n 2, 1) := by decide +kernel
theorem dX10_isIn_7 : decode cX10_isIn 7 = .ok (.if_icmp .gt 7, 3) := by decide +kernel
theorem dX10_isIn_10 : decode cX10_isIn 10 = .ok (.iconst 1, 1) := by decide +kernel
theorem dX10_isIn_11 : decode cX10_isIn 11 = .ok (.goto 4, 3) := by decide +kernel
theorem dX10_isIn_14 : decode cX10_isIn 14 = .ok (.iconst 0, 1) := by decide +kernel
theorem dX10_isIn_15 : decode cX10_isIn 15 = .ok (.ireturn, 1) := by decide +kernel
set_option maxRecDepth 100000 in
theorem b_X10_isIn_0 {E : fxE} (hW : fx_Wt E) (x0 : Int) (x1 : Int) (x2 : Int) (M : fxM) (Q : Option fxV → fxM → Prop)  (h : (-2147483648 ≤ x0 ∧ x0 < 2147483648) ∧ (-2147483648 ≤ x1 ∧ x1 < 2147483648) ∧ ((x0 < x1 → Q (some (.inl 0)) M) ∧ (¬ x0 < x1 → (-2147483648 ≤ x2 ∧ x2 < 2147483648) ∧ ((x2 < x0 → Q (some (.inl 0)) M) ∧ (¬ x2 < x0 → Q (some (.inl 1)) M))))) : fx_At E m_X10_isIn 0 [some (.inl x0), some (.inl x1), some (.inl x2)] [] M Q := by
  refine x_iload_n (pc := 0) dX10_isIn_0 rfl rfl ?_
  refine x_iload_n (pc := 1) dX10_isIn_1 rfl rfl ?_
  obtain ⟨g1, h⟩ := h
  obtain ⟨g2, h⟩ := h
  refine x_clt (pc := 2) 14 dX10_isIn_2 (by decide) ⟨g1, g2⟩ (fun hc => ?_) (fun hc => ?_)
  · replace h := h.1 hc
    refine x_iconst (pc := 14) dX10_isIn_14 ?_
    exact x_iret (pc := 15) dX10_isIn_15 (Or.inr ⟨rfl, by decide⟩) h
  · replace h := h.2 hc
    refine x_iload_n (pc := 5) dX10_isIn_5 rfl rfl ?_
    refine x_iload_n (pc := 6) dX10_isIn_6 rfl rfl ?_
    obtain ⟨g3, h⟩ := h
    refine x_cgt (pc := 7) 14 dX10_isIn_7 (by decide) ⟨g1, g3⟩ (fun hc => ?_) (fun hc => ?_)
    · replace h := h.1 hc
      refine x_iconst (pc := 14) dX10_isIn_14 ?_
      exact x_iret (pc := 15) dX10_isIn_15 (Or.inr ⟨rfl, by decide⟩) h
    · replace h := h.2 hc
      refine x_iconst (pc := 10) dX10_isIn_10 ?_
      refine x_goto (pc := 11) 15 dX10_isIn_11 (by decide) ?_
      exact x_iret (pc := 15) dX10_isIn_15 (Or.inr ⟨rfl, by decide⟩) h
theorem dJ7_fill_53178_0 : decode cJ7_fill_53178 0 = .ok (.iconst 0, 1) := by decide +kernel
theorem dJ7_fill_53178_1 : decode cJ7_fill_53178 1 = .ok (.istore_n 2, 1) := by decide +kernel
theorem dJ7_fill_53178_2 : decode cJ7_fill_53178 2 = .ok (.aload_n 0, 1) := by decide +kernel
theorem dJ7_fill_53178_3 : decode cJ7_fill_53178 3 = .ok (.arraylength, 1) := by decide +kernel
theorem dJ7_fill_53178_4 : decode cJ7_fill_53178 4 = .ok (.istore_n 3, 1) := by decide +kernel
theorem dJ7_fill_53178_5 : decode cJ7_fill_53178 5 = .ok (.iload_n 2, 1) := by decide +kernel
theorem dJ7_fill_53178_6 : decode cJ7_fill_53178 6 = .ok (.iload_n 3, 1) := by decide +kernel
theorem dJ7_fill_53178_7 : decode cJ7_fill_53178 7 = .ok (.if_icmp .ge 13, 3) := by decide +kernel
theorem dJ7_fill_53178_10 : decode cJ7_fill_53178 10 = .ok (.aload_n 0, 1) := by decide +kernel
theorem dJ7_fill_53178_11 : decode cJ7_fill_53178 11 = .ok (.iload_n 2, 1) := by decide +kernel
theorem dJ7_fill_53178_12 : decode cJ7_fill_53178 12 = .ok (.iload_n 1, 1) := by decide +kernel
theorem dJ7_fill_53178_13 : decode cJ7_fill_53178 13 = .ok (.iastore, 1) := by decide +kernel
theorem dJ7_fill_53178_14 : decode cJ7_fill_53178 14 = .ok (.iinc 2 1, 3) := by decide +kernel
theorem dJ7_fill_53178_17 : decode cJ7_fill_53178 17 = .ok (.goto (-12), 3) := by decide +kernel
theorem dJ7_fill_53178_20 : decode cJ7_fill_53178 20 = .ok (.return_, 1) := by decide +kernel
set_option maxRecDepth 100000 in
theorem b_J7_fill_53178_0 {E : fxE} (hW : fx_Wt E) (a0 : Nat) (x1 : Int) (M : fxM) (Q : Option fxV → fxM → Prop) (hk0 : kd E a0 = 11) (h : fx_At E m_J7_fill_53178 5 [some (.inr a0), some (.inl x1), some (.inl 0), some (.inl (ln E a0 : Int))] [] M Q) : fx_At E m_J7_fill_53178 0 [some (.inr a0), some (.inl x1), none, none] [] M Q := by
  refine x_iconst (pc := 0) dJ7_fill_53178_0 ?_
  refine x_istore_n (pc := 1) (lv' := [some (.inr a0), some (.inl x1), some (.inl 0), none]) dJ7_fill_53178_1 rfl (by decide) rfl ?_
  refine x_aload_n (pc := 2) dJ7_fill_53178_2 rfl rfl ?_
  refine x_alen (pc := 3) dJ7_fill_53178_3 hk0 (by decide) (by decide) rfl ?_
  refine x_istore_n (pc := 4) (lv' := [some (.inr a0), some (.inl x1), some (.inl 0), some (.inl (ln E a0 : Int))]) dJ7_fill_53178_4 rfl (by decide) rfl ?_
  exact h
set_option maxRecDepth 100000 in
theorem b_J7_fill_53178_5 {E : fxE} (hW : fx_Wt E) (a0 : Nat) (x1 : Int) (x2 : Int) (x3 : Int) (M : fxM) (Q : Option fxV → fxM → Prop) (hk0 : kd E a0 = 11) (h : (-2147483648 ≤ x2 ∧ x2 < 2147483648) ∧ (-2147483648 ≤ x3 ∧ x3 < 2147483648) ∧ ((x3 ≤ x2 → Q none M) ∧ (¬ x3 ≤ x2 → (0 ≤ x2 ∧ x2 < (ln E a0 : Int)) ∧ ∀ M4 : fxM, M4 = mset M a0 (x2.toNat) x1 → fx_At E m_J7_fill_53178 5 [some (.inr a0), some (.inl x1), some (.inl (x2 + 1)), some (.inl x3)] [] M4 Q))) : fx_At E m_J7_fill_53178 5 [some (.inr a0), some (.inl x1), some (.inl x2), some (.inl x3)] [] M Q := by
  refine x_iload_n (pc := 5) dJ7_fill_53178_5 rfl rfl ?_
  refine x_iload_n (pc := 6) dJ7_fill_53178_6 rfl rfl ?_
  obtain ⟨g1, h⟩ := h
  obtain ⟨g2, h⟩ := h
  refine x_cge (pc := 7) 20 dJ7_fill_53178_7 (by decide) ⟨g1, g2⟩ (fun hc => ?_) (fun hc => ?_)
  · replace h := h.1 hc
    exact x_vret (pc := 20) dJ7_fill_53178_20 rfl h
  · replace h := h.2 hc
    refine x_aload_n (pc := 10) dJ7_fill_53178_10 rfl rfl ?_
    refine x_iload_n (pc := 11) dJ7_fill_53178_11 rfl rfl ?_
    refine x_iload_n (pc := 12) dJ7_fill_53178_12 rfl rfl ?_
    obtain ⟨g3, h⟩ := h
    refine x_iast (pc := 13) dJ7_fill_53178_13 hk0 rfl g3 (fun M4 hM4 => ?_)
    replace h := h M4 hM4
    refine x_iinc (pc := 14) (lv' := [some (.inr a0), some (.inl x1), some (.inl (x2 + 1)), some (.inl x3)]) dJ7_fill_53178_14 rfl (by decide) rfl ?_
    refine x_goto (pc := 17) 5 dJ7_fill_53178_17 (by decide) ?_
    exact h
theorem dJ9_floorMod_7cf53_0 : decode cJ9_floorMod_7cf53 0 = .ok (.iload_n 0, 1) := by decide +kernel
theorem dJ9_floorMod_7cf53_1 : decode cJ9_floorMod_7cf53 1 = .ok (.iload_n 1, 1) := by decide +kernel
theorem dJ9_floorMod_7cf53_2 : decode cJ9_floorMod_7cf53 2 = .ok (.irem, 1) := by decide +kernel
theorem dJ9_floorMod_7cf53_3 : decode cJ9_floorMod_7cf53 3 = .ok (.istore_n 2, 1) := by decide +kernel
theorem dJ9_floorMod_7cf53_4 : decode cJ9_floorMod_7cf53 4 = .ok (.iload_n 0, 1) := by decide +kernel
theorem dJ9_floorMod_7cf53_5 : decode cJ9_floorMod_7cf53 5 = .ok (.iload_n 1, 1) := by decide +kernel
theorem dJ9_floorMod_7cf53_6 : decode cJ9_floorMod_7cf53 6 = .ok (.ixor, 1) := by decide +kernel
theorem dJ9_floorMod_7cf53_7 : decode cJ9_floorMod_7cf53 7 = .ok (.ifCond .ge 11, 3) := by decide +kernel
theorem dJ9_floorMod_7cf53_10 : decode cJ9_floorMod_7cf53 10 = .ok (.iload_n 2, 1) := by decide +kernel
theorem dJ9_floorMod_7cf53_11 : decode cJ9_floorMod_7cf53 11 = .ok (.ifCond .eq 7, 3) := by decide +kernel
theorem dJ9_floorMod_7cf53_14 : decode cJ9_floorMod_7cf53 14 = .ok (.iload_n 2, 1) := by decide +kernel
theorem dJ9_floorMod_7cf53_15 : decode cJ9_floorMod_7cf53 15 = .ok (.iload_n 1, 1) := by decide +kernel
theorem dJ9_floorMod_7cf53_16 : decode cJ9_floorMod_7cf53 16 = .ok (.iadd, 1) := by decide +kernel
theorem dJ9_floorMod_7cf53_17 : decode cJ9_floorMod_7cf53 17 = .ok (.ireturn, 1) := by decide +kernel
theorem dJ9_floorMod_7cf53_18 : decode cJ9_floorMod_7cf53 18 = .ok (.iload_n 2, 1) := by decide +kernel
theorem dJ9_floorMod_7cf53_19 : decode cJ9_floorMod_7cf53 19 = .ok (.ireturn, 1) := by decide +kernel
set_option maxRecDepth 100000 in
theorem b_J9_floorMod_7cf53_0 {E : fxE} (hW : fx_Wt E) (x0 : Int) (x1 : Int) (M : fxM) (Q : Option fxV → fxM → Prop)  (h : (0 ≤ x0 ∧ x0 < 2147483648 ∧ (0 : Int) < x1 ∧ x1 < 2147483648) ∧ ∃ u2 v2 : Nat, (x0 = (u2 : Int) ∧ u2 < 2147483648) ∧ (x1 = (v2 : Int) ∧ v2 < 2147483648) ∧ (-2147483648 ≤ ((u2 ^^^ v2 : Nat) : Int) ∧ ((u2 ^^^ v2 : Nat) : Int) < 2147483648) ∧ (((0 : Int) ≤ ((u2 ^^^ v2 : Nat) : Int) → Q (some (.inl (x0 % x1))) M) ∧ (¬ (0 : Int) ≤ ((u2 ^^^ v2 : Nat) : Int) → (-2147483648 ≤ (x0 % x1) ∧ (x0 % x1) < 2147483648) ∧ (((x0 % x1) = (0 : Int) → Q (some (.inl (x0 % x1))) M) ∧ (¬ (x0 % x1) = (0 : Int) → Q (some (.inl ((x0 % x1) + x1))) M))))) : fx_At E m_J9_floorMod_7cf53 0 [some (.inl x0), some (.inl x1), none] [] M Q := by
  refine x_iload_n (pc := 0) dJ9_floorMod_7cf53_0 rfl rfl ?_
  refine x_iload_n (pc := 1) dJ9_floorMod_7cf53_1 rfl rfl ?_
  obtain ⟨g1, h⟩ := h
  refine x_irem (pc := 2) dJ9_floorMod_7cf53_2 g1 ?_
  refine x_istore_n (pc := 3) (lv' := [some (.inl x0), some (.inl x1), some (.inl (x0 % x1))]) dJ9_floorMod_7cf53_3 rfl (by decide) rfl ?_
  refine x_iload_n (pc := 4) dJ9_floorMod_7cf53_4 rfl rfl ?_
  refine x_iload_n (pc := 5) dJ9_floorMod_7cf53_5 rfl rfl ?_
  obtain ⟨u2, v2, hu2, hv2, h⟩ := h
  refine x_ixor hu2 hv2 (pc := 6) dJ9_floorMod_7cf53_6 ?_
  obtain ⟨g3, h⟩ := h
  refine x_zge (pc := 7) 18 dJ9_floorMod_7cf53_7 (by decide) g3 (fun hc => ?_) (fun hc => ?_)
  · replace h := h.1 hc
    refine x_iload_n (pc := 18) dJ9_floorMod_7cf53_18 rfl rfl ?_
    exact x_iret (pc := 19) dJ9_floorMod_7cf53_19 (Or.inl rfl) h
  · replace h := h.2 hc
    refine x_iload_n (pc := 10) dJ9_floorMod_7cf53_10 rfl rfl ?_
    obtain ⟨g4, h⟩ := h
    refine x_zeq (pc := 11) 18 dJ9_floorMod_7cf53_11 (by decide) g4 (fun hc => ?_) (fun hc => ?_)
    · replace h := h.1 hc
      refine x_iload_n (pc := 18) dJ9_floorMod_7cf53_18 rfl rfl ?_
      exact x_iret (pc := 19) dJ9_floorMod_7cf53_19 (Or.inl rfl) h
    · replace h := h.2 hc
      refine x_iload_n (pc := 14) dJ9_floorMod_7cf53_14 rfl rfl ?_
      refine x_iload_n (pc := 15) dJ9_floorMod_7cf53_15 rfl rfl ?_
      refine x_iadd (pc := 16) dJ9_floorMod_7cf53_16 ?_
      exact x_iret (pc := 17) dJ9_floorMod_7cf53_17 (Or.inl rfl) h
