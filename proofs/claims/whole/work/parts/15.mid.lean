theorem dX10_isTrace_0 : decode cX10_isTrace 0 = .ok (.iload_n 0, 1) := by decide +kernel
theorem dX10_isTrace_1 : decode cX10_isTrace 1 = .ok (.invokestatic 109, 3) := by decide +kernel
theorem dX10_isTrace_4 : decode cX10_isTrace 4 = .ok (.ifCond .eq 17, 3) := by decide +kernel
theorem dX10_isTrace_7 : decode cX10_isTrace 7 = .ok (.iload_n 1, 1) := by decide +kernel
theorem dX10_isTrace_8 : decode cX10_isTrace 8 = .ok (.iconst 1, 1) := by decide +kernel
theorem dX10_isTrace_9 : decode cX10_isTrace 9 = .ok (.bipush 9, 2) := by decide +kernel
theorem dX10_isTrace_11 : decode cX10_isTrace 11 = .ok (.invokestatic 74, 3) := by decide +kernel
theorem dX10_isTrace_14 : decode cX10_isTrace 14 = .ok (.ifCond .eq 7, 3) := by decide +kernel
theorem dX10_isTrace_17 : decode cX10_isTrace 17 = .ok (.iconst 1, 1) := by decide +kernel
theorem dX10_isTrace_18 : decode cX10_isTrace 18 = .ok (.goto 4, 3) := by decide +kernel
theorem dX10_isTrace_21 : decode cX10_isTrace 21 = .ok (.iconst 0, 1) := by decide +kernel
theorem dX10_isTrace_22 : decode cX10_isTrace 22 = .ok (.ireturn, 1) := by decide +kernel
set_option maxRecDepth 100000 in
theorem b_X10_isTrace_0 {E : fxE} (hW : fx_Wt E) (x0 : Int) (x1 : Int) (M : fxM) (Q : Option fxV → fxM → Prop)  (h : (-2147483648 ≤ x0 ∧ x0 < 2147483648) ∧ (((0 : Int) ≤ x0 ∧ x0 ≤ (1 : Int) → (-2147483648 ≤ x1 ∧ x1 < 2147483648) ∧ (((1 : Int) ≤ x1 ∧ x1 ≤ (9 : Int) → Q (some (.inl 1)) M) ∧ (¬ ((1 : Int) ≤ x1 ∧ x1 ≤ (9 : Int)) → Q (some (.inl 0)) M))) ∧ (¬ ((0 : Int) ≤ x0 ∧ x0 ≤ (1 : Int)) → Q (some (.inl 0)) M))) : fx_At E m_X10_isTrace 0 [some (.inl x0), some (.inl x1)] [] M Q := by
  refine x_iload_n (pc := 0) dX10_isTrace_0 rfl rfl ?_
  obtain ⟨g1, h⟩ := h
  refine x_callS (pc := 1) (z := m_X10_isSide) (as := [.inl x0]) (rest := []) dX10_isTrace_1 c_RX10_109 (by decide) rfl (Nat.le_of_ble_eq_true rfl) (ct_X10_isSide hW g1) (fun r M9 hr => ?_)
  obtain ⟨hM9, hr⟩ := hr
  rw [hM9]
  clear hM9
  obtain ⟨hc, rfl⟩ | ⟨hc, rfl⟩ := hr
  · replace h := h.1 hc
    show fx_At E m_X10_isTrace 4 [some (.inl x0), some (.inl x1)] [.inl 1] _ Q
    refine x_zeq (pc := 4) 21 dX10_isTrace_4 (by decide) ⟨by decide, by decide⟩ (fun hx => absurd hx (by decide)) (fun _ => ?_)
    refine x_iload_n (pc := 7) dX10_isTrace_7 rfl rfl ?_
    refine x_iconst (pc := 8) dX10_isTrace_8 ?_
    refine x_bipush (pc := 9) dX10_isTrace_9 (by decide +kernel) ?_
    obtain ⟨g3, h⟩ := h
    refine x_callS (pc := 11) (z := m_X10_isIn) (as := [.inl x1, .inl 1, .inl 9]) (rest := []) dX10_isTrace_11 c_RX10_74 (by decide) rfl (Nat.le_of_ble_eq_true rfl) (ct_isIn hW g3 ⟨by decide, by decide⟩ ⟨by decide, by decide⟩) (fun r M9 hr => ?_)
    obtain ⟨hM9, hr⟩ := hr
    rw [hM9]
    clear hM9
    obtain ⟨hc, rfl⟩ | ⟨hc, rfl⟩ := hr
    · replace h := h.1 hc
      show fx_At E m_X10_isTrace 14 [some (.inl x0), some (.inl x1)] [.inl 1] _ Q
      refine x_zeq (pc := 14) 21 dX10_isTrace_14 (by decide) ⟨by decide, by decide⟩ (fun hx => absurd hx (by decide)) (fun _ => ?_)
      refine x_iconst (pc := 17) dX10_isTrace_17 ?_
      refine x_goto (pc := 18) 22 dX10_isTrace_18 (by decide) ?_
      exact x_iret (pc := 22) dX10_isTrace_22 (Or.inr ⟨rfl, by decide⟩) h
    · replace h := h.2 hc
      show fx_At E m_X10_isTrace 14 [some (.inl x0), some (.inl x1)] [.inl 0] _ Q
      refine x_zeq (pc := 14) 21 dX10_isTrace_14 (by decide) ⟨by decide, by decide⟩ (fun _ => ?_) (fun hx => absurd hx (by decide))
      refine x_iconst (pc := 21) dX10_isTrace_21 ?_
      exact x_iret (pc := 22) dX10_isTrace_22 (Or.inr ⟨rfl, by decide⟩) h
  · replace h := h.2 hc
    show fx_At E m_X10_isTrace 4 [some (.inl x0), some (.inl x1)] [.inl 0] _ Q
    refine x_zeq (pc := 4) 21 dX10_isTrace_4 (by decide) ⟨by decide, by decide⟩ (fun _ => ?_) (fun hx => absurd hx (by decide))
    refine x_iconst (pc := 21) dX10_isTrace_21 ?_
    exact x_iret (pc := 22) dX10_isTrace_22 (Or.inr ⟨rfl, by decide⟩) h
theorem dX2_totalLength_0 : decode cX2_totalLength 0 = .ok (.aload_n 0, 1) := by decide +kernel
theorem dX2_totalLength_1 : decode cX2_totalLength 1 = .ok (.aload_n 0, 1) := by decide +kernel
theorem dX2_totalLength_2 : decode cX2_totalLength 2 = .ok (.getfield 21, 3) := by decide +kernel
theorem dX2_totalLength_5 : decode cX2_totalLength 5 = .ok (.invokevirtual 50, 3) := by decide +kernel
theorem dX2_totalLength_8 : decode cX2_totalLength 8 = .ok (.ireturn, 1) := by decide +kernel
set_option maxRecDepth 100000 in
theorem b_X2_totalLength_0 {E : fxE} (hW : fx_Wt E) (a0 : Nat) (M : fxM) (Q : Option fxV → fxM → Prop) (hk0 : kd E a0 = 2) (h : (0 ≤ (M a0 3) ∧ (M a0 3) ≤ M a0 3 ∧ M a0 3 ≤ 8) ∧ Q (some (.inl (fsum E M a0 (M a0 3).toNat))) M) : fx_At E m_X2_totalLength 0 [some (.inr a0)] [] M Q := by
  refine x_aload_n (pc := 0) dX2_totalLength_0 rfl rfl ?_
  refine x_aload_n (pc := 1) dX2_totalLength_1 rfl rfl ?_
  refine x_geti (pc := 2) dX2_totalLength_2 f_RX2_21 hk0 ?_
  obtain ⟨g1, h⟩ := h
  refine x_callV (pc := 5) (z := m_X2_placeOfJoint) (b := a0) (as := [.inl (M a0 3)]) (rest := []) dX2_totalLength_5 c_RX2_50 (by decide) hk0 rfl (Nat.le_of_ble_eq_true rfl) (ct_X2_placeOfJoint hW hk0 g1) (fun r M9 hr => ?_)
  obtain ⟨hM9, hr⟩ := hr
  rw [hM9, hr]
  clear hM9 hr
  show fx_At E m_X2_totalLength 8 [some (.inr a0)] [.inl (fsum E M a0 (M a0 3).toNat)] _ Q
  exact x_iret (pc := 8) dX2_totalLength_8 (Or.inl rfl) h
theorem dX10_whole_0 : decode cX10_whole 0 = .ok (.aload_n 0, 1) := by decide +kernel
theorem dX10_whole_1 : decode cX10_whole 1 = .ok (.aload_n 0, 1) := by decide +kernel
theorem dX10_whole_2 : decode cX10_whole 2 = .ok (.getfield 7, 3) := by decide +kernel
theorem dX10_whole_5 : decode cX10_whole 5 = .ok (.iconst 0, 1) := by decide +kernel
theorem dX10_whole_6 : decode cX10_whole 6 = .ok (.iaload, 1) := by decide +kernel
theorem dX10_whole_7 : decode cX10_whole 7 = .ok (.invokevirtual 67, 3) := by decide +kernel
theorem dX10_whole_10 : decode cX10_whole 10 = .ok (.ireturn, 1) := by decide +kernel
set_option maxRecDepth 100000 in
theorem b_X10_whole_0 {E : fxE} (hW : fx_Wt E) (a0 : Nat) (M : fxM) (Q : Option fxV → fxM → Prop) (hk0 : kd E a0 = 10) (h : (0 ≤ (M (rf E a0 0) 0) ∧ (M (rf E a0 0) 0) ≤ 8) ∧ Q (some (.inl (wsum (M (rf E a0 0)) (M (rf E a0 0) 0).toNat))) M) : fx_At E m_X10_whole 0 [some (.inr a0)] [] M Q := by
  refine x_aload_n (pc := 0) dX10_whole_0 rfl rfl ?_
  refine x_aload_n (pc := 1) dX10_whole_1 rfl rfl ?_
  refine x_getr (pc := 2) dX10_whole_2 f_RX10_7 hk0 ?_
  refine x_iconst (pc := 5) dX10_whole_5 ?_
  refine x_iald (pc := 6) dX10_whole_6 (wk_10_0 hW hk0) (wl_10_0 hW hk0) ⟨by decide, by decide⟩ ?_
  obtain ⟨g1, h⟩ := h
  refine x_callV (pc := 7) (z := m_X10_placeOf) (b := a0) (as := [.inl (M (rf E a0 0) 0)]) (rest := []) dX10_whole_7 c_RX10_67 (by decide) hk0 rfl (Nat.le_of_ble_eq_true rfl) (ct_X10_placeOf hW hk0 g1) (fun r M9 hr => ?_)
  obtain ⟨hM9, hr⟩ := hr
  rw [hM9, hr]
  clear hM9 hr
  show fx_At E m_X10_whole 10 [some (.inr a0)] [.inl (wsum (M (rf E a0 0)) (M (rf E a0 0) 0).toNat)] _ Q
  exact x_iret (pc := 10) dX10_whole_10 (Or.inl rfl) h
