theorem dX9_isSide_0 : decode cX9_isSide 0 = .ok (.iload_n 0, 1) := by decide +kernel
theorem dX9_isSide_1 : decode cX9_isSide 1 = .ok (.iconst 0, 1) := by decide +kernel
theorem dX9_isSide_2 : decode cX9_isSide 2 = .ok (.iconst 1, 1) := by decide +kernel
theorem dX9_isSide_3 : decode cX9_isSide 3 = .ok (.invokestatic 108, 3) := by decide +kernel
theorem dX9_isSide_6 : decode cX9_isSide 6 = .ok (.ireturn, 1) := by decide +kernel
set_option maxRecDepth 100000 in
theorem b_X9_isSide_0 {E : fxE} (hW : fx_Wt E) (x0 : Int) (M : fxM) (Q : Option fxV → fxM → Prop)  (h : (-2147483648 ≤ x0 ∧ x0 < 2147483648) ∧ (((0 : Int) ≤ x0 ∧ x0 ≤ (1 : Int) → Q (some (.inl 1)) M) ∧ (¬ ((0 : Int) ≤ x0 ∧ x0 ≤ (1 : Int)) → Q (some (.inl 0)) M))) : fx_At E m_X9_isSide 0 [some (.inl x0)] [] M Q := by
  refine x_iload_n (pc := 0) dX9_isSide_0 rfl rfl ?_
  refine x_iconst (pc := 1) dX9_isSide_1 ?_
  refine x_iconst (pc := 2) dX9_isSide_2 ?_
  obtain ⟨g1, h⟩ := h
  refine x_callS (pc := 3) (z := m_X9_isWithin) (as := [.inl x0, .inl 0, .inl 1]) (rest := []) dX9_isSide_3 c_RX9_108 (by decide) rfl (Nat.le_of_ble_eq_true rfl) (ct_isWithin hW g1 ⟨by decide, by decide⟩ ⟨by decide, by decide⟩) (fun r M9 hr => ?_)
  obtain ⟨hM9, hr⟩ := hr
  rw [hM9]
  clear hM9
  obtain ⟨hc, rfl⟩ | ⟨hc, rfl⟩ := hr
  · replace h := h.1 hc
    show fx_At E m_X9_isSide 6 [some (.inl x0)] [.inl 1] _ Q
    exact x_iret (pc := 6) dX9_isSide_6 (Or.inr ⟨rfl, by decide⟩) h
  · replace h := h.2 hc
    show fx_At E m_X9_isSide 6 [some (.inl x0)] [.inl 0] _ Q
    exact x_iret (pc := 6) dX9_isSide_6 (Or.inr ⟨rfl, by decide⟩) h
theorem dX9_isWidth_0 : decode cX9_isWidth 0 = .ok (.iload_n 0, 1) := by decide +kernel
theorem dX9_isWidth_1 : decode cX9_isWidth 1 = .ok (.iconst 1, 1) := by decide +kernel
theorem dX9_isWidth_2 : decode cX9_isWidth 2 = .ok (.bipush 9, 2) := by decide +kernel
theorem dX9_isWidth_4 : decode cX9_isWidth 4 = .ok (.invokestatic 108, 3) := by decide +kernel
theorem dX9_isWidth_7 : decode cX9_isWidth 7 = .ok (.ireturn, 1) := by decide +kernel
set_option maxRecDepth 100000 in
theorem b_X9_isWidth_0 {E : fxE} (hW : fx_Wt E) (x0 : Int) (M : fxM) (Q : Option fxV → fxM → Prop)  (h : (-2147483648 ≤ x0 ∧ x0 < 2147483648) ∧ (((1 : Int) ≤ x0 ∧ x0 ≤ (9 : Int) → Q (some (.inl 1)) M) ∧ (¬ ((1 : Int) ≤ x0 ∧ x0 ≤ (9 : Int)) → Q (some (.inl 0)) M))) : fx_At E m_X9_isWidth 0 [some (.inl x0)] [] M Q := by
  refine x_iload_n (pc := 0) dX9_isWidth_0 rfl rfl ?_
  refine x_iconst (pc := 1) dX9_isWidth_1 ?_
  refine x_bipush (pc := 2) dX9_isWidth_2 (by decide +kernel) ?_
  obtain ⟨g1, h⟩ := h
  refine x_callS (pc := 4) (z := m_X9_isWithin) (as := [.inl x0, .inl 1, .inl 9]) (rest := []) dX9_isWidth_4 c_RX9_108 (by decide) rfl (Nat.le_of_ble_eq_true rfl) (ct_isWithin hW g1 ⟨by decide, by decide⟩ ⟨by decide, by decide⟩) (fun r M9 hr => ?_)
  obtain ⟨hM9, hr⟩ := hr
  rw [hM9]
  clear hM9
  obtain ⟨hc, rfl⟩ | ⟨hc, rfl⟩ := hr
  · replace h := h.1 hc
    show fx_At E m_X9_isWidth 7 [some (.inl x0)] [.inl 1] _ Q
    exact x_iret (pc := 7) dX9_isWidth_7 (Or.inr ⟨rfl, by decide⟩) h
  · replace h := h.2 hc
    show fx_At E m_X9_isWidth 7 [some (.inl x0)] [.inl 0] _ Q
    exact x_iret (pc := 7) dX9_isWidth_7 (Or.inr ⟨rfl, by decide⟩) h
theorem dX9_isDistance_0 : decode cX9_isDistance 0 = .ok (.iload_n 0, 1) := by decide +kernel
theorem dX9_isDistance_1 : decode cX9_isDistance 1 = .ok (.iconst 0, 1) := by decide +kernel
theorem dX9_isDistance_2 : decode cX9_isDistance 2 = .ok (.sipush 400, 3) := by decide +kernel
theorem dX9_isDistance_5 : decode cX9_isDistance 5 = .ok (.invokestatic 108, 3) := by decide +kernel
theorem dX9_isDistance_8 : decode cX9_isDistance 8 = .ok (.ireturn, 1) := by decide +kernel
set_option maxRecDepth 100000 in
theorem b_X9_isDistance_0 {E : fxE} (hW : fx_Wt E) (x0 : Int) (M : fxM) (Q : Option fxV → fxM → Prop)  (h : (-2147483648 ≤ x0 ∧ x0 < 2147483648) ∧ (((0 : Int) ≤ x0 ∧ x0 ≤ (400 : Int) → Q (some (.inl 1)) M) ∧ (¬ ((0 : Int) ≤ x0 ∧ x0 ≤ (400 : Int)) → Q (some (.inl 0)) M))) : fx_At E m_X9_isDistance 0 [some (.inl x0)] [] M Q := by
  refine x_iload_n (pc := 0) dX9_isDistance_0 rfl rfl ?_
  refine x_iconst (pc := 1) dX9_isDistance_1 ?_
  refine x_sipush (pc := 2) dX9_isDistance_2 (by decide +kernel) ?_
  obtain ⟨g1, h⟩ := h
  refine x_callS (pc := 5) (z := m_X9_isWithin) (as := [.inl x0, .inl 0, .inl 400]) (rest := []) dX9_isDistance_5 c_RX9_108 (by decide) rfl (Nat.le_of_ble_eq_true rfl) (ct_isWithin hW g1 ⟨by decide, by decide⟩ ⟨by decide, by decide⟩) (fun r M9 hr => ?_)
  obtain ⟨hM9, hr⟩ := hr
  rw [hM9]
  clear hM9
  obtain ⟨hc, rfl⟩ | ⟨hc, rfl⟩ := hr
  · replace h := h.1 hc
    show fx_At E m_X9_isDistance 8 [some (.inl x0)] [.inl 1] _ Q
    exact x_iret (pc := 8) dX9_isDistance_8 (Or.inr ⟨rfl, by decide⟩) h
  · replace h := h.2 hc
    show fx_At E m_X9_isDistance 8 [some (.inl x0)] [.inl 0] _ Q
    exact x_iret (pc := 8) dX9_isDistance_8 (Or.inr ⟨rfl, by decide⟩) h
theorem dX9_isSection_0 : decode cX9_isSection 0 = .ok (.iload_n 0, 1) := by decide +kernel
theorem dX9_isSection_1 : decode cX9_isSection 1 = .ok (.iconst 1, 1) := by decide +kernel
theorem dX9_isSection_2 : decode cX9_isSection 2 = .ok (.bipush 100, 2) := by decide +kernel
theorem dX9_isSection_4 : decode cX9_isSection 4 = .ok (.invokestatic 108, 3) := by decide +kernel
theorem dX9_isSection_7 : decode cX9_isSection 7 = .ok (.ifCond .eq 28, 3) := by decide +kernel
theorem dX9_isSection_10 : decode cX9_isSection 10 = .ok (.iload_n 1, 1) := by decide +kernel
theorem dX9_isSection_11 : decode cX9_isSection 11 = .ok (.iconst 1, 1) := by decide +kernel
theorem dX9_isSection_12 : decode cX9_isSection 12 = .ok (.bipush 60, 2) := by decide +kernel
theorem dX9_isSection_14 : decode cX9_isSection 14 = .ok (.invokestatic 108, 3) := by decide +kernel
theorem dX9_isSection_17 : decode cX9_isSection 17 = .ok (.ifCond .eq 18, 3) := by decide +kernel
theorem dX9_isSection_20 : decode cX9_isSection 20 = .ok (.iload_n 2, 1) := by decide +kernel
theorem dX9_isSection_21 : decode cX9_isSection 21 = .ok (.iconst 0, 1) := by decide +kernel
theorem dX9_isSection_22 : decode cX9_isSection 22 = .ok (.sipush 2000, 3) := by decide +kernel
theorem dX9_isSection_25 : decode cX9_isSection 25 = .ok (.invokestatic 108, 3) := by decide +kernel
theorem dX9_isSection_28 : decode cX9_isSection 28 = .ok (.ifCond .eq 7, 3) := by decide +kernel
theorem dX9_isSection_31 : decode cX9_isSection 31 = .ok (.iconst 1, 1) := by decide +kernel
theorem dX9_isSection_32 : decode cX9_isSection 32 = .ok (.goto 4, 3) := by decide +kernel
theorem dX9_isSection_35 : decode cX9_isSection 35 = .ok (.iconst 0, 1) := by decide +kernel
theorem dX9_isSection_36 : decode cX9_isSection 36 = .ok (.ireturn, 1) := by decide +kernel
set_option maxRecDepth 100000 in
theorem b_X9_isSection_0 {E : fxE} (hW : fx_Wt E) (x0 : Int) (x1 : Int) (x2 : Int) (M : fxM) (Q : Option fxV → fxM → Prop)  (h : (-2147483648 ≤ x0 ∧ x0 < 2147483648) ∧ (((1 : Int) ≤ x0 ∧ x0 ≤ (100 : Int) → (-2147483648 ≤ x1 ∧ x1 < 2147483648) ∧ (((1 : Int) ≤ x1 ∧ x1 ≤ (60 : Int) → (-2147483648 ≤ x2 ∧ x2 < 2147483648) ∧ (((0 : Int) ≤ x2 ∧ x2 ≤ (2000 : Int) → Q (some (.inl 1)) M) ∧ (¬ ((0 : Int) ≤ x2 ∧ x2 ≤ (2000 : Int)) → Q (some (.inl 0)) M))) ∧ (¬ ((1 : Int) ≤ x1 ∧ x1 ≤ (60 : Int)) → Q (some (.inl 0)) M))) ∧ (¬ ((1 : Int) ≤ x0 ∧ x0 ≤ (100 : Int)) → Q (some (.inl 0)) M))) : fx_At E m_X9_isSection 0 [some (.inl x0), some (.inl x1), some (.inl x2)] [] M Q := by
  refine x_iload_n (pc := 0) dX9_isSection_0 rfl rfl ?_
  refine x_iconst (pc := 1) dX9_isSection_1 ?_
  refine x_bipush (pc := 2) dX9_isSection_2 (by decide +kernel) ?_
  obtain ⟨g1, h⟩ := h
  refine x_callS (pc := 4) (z := m_X9_isWithin) (as := [.inl x0, .inl 1, .inl 100]) (rest := []) dX9_isSection_4 c_RX9_108 (by decide) rfl (Nat.le_of_ble_eq_true rfl) (ct_isWithin hW g1 ⟨by decide, by decide⟩ ⟨by decide, by decide⟩) (fun r M9 hr => ?_)
  obtain ⟨hM9, hr⟩ := hr
  rw [hM9]
  clear hM9
  obtain ⟨hc, rfl⟩ | ⟨hc, rfl⟩ := hr
  · replace h := h.1 hc
    show fx_At E m_X9_isSection 7 [some (.inl x0), some (.inl x1), some (.inl x2)] [.inl 1] _ Q
    refine x_zeq (pc := 7) 35 dX9_isSection_7 (by decide) ⟨by decide, by decide⟩ (fun hx => absurd hx (by decide)) (fun _ => ?_)
    refine x_iload_n (pc := 10) dX9_isSection_10 rfl rfl ?_
    refine x_iconst (pc := 11) dX9_isSection_11 ?_
    refine x_bipush (pc := 12) dX9_isSection_12 (by decide +kernel) ?_
    obtain ⟨g3, h⟩ := h
    refine x_callS (pc := 14) (z := m_X9_isWithin) (as := [.inl x1, .inl 1, .inl 60]) (rest := []) dX9_isSection_14 c_RX9_108 (by decide) rfl (Nat.le_of_ble_eq_true rfl) (ct_isWithin hW g3 ⟨by decide, by decide⟩ ⟨by decide, by decide⟩) (fun r M9 hr => ?_)
    obtain ⟨hM9, hr⟩ := hr
    rw [hM9]
    clear hM9
    obtain ⟨hc, rfl⟩ | ⟨hc, rfl⟩ := hr
    · replace h := h.1 hc
      show fx_At E m_X9_isSection 17 [some (.inl x0), some (.inl x1), some (.inl x2)] [.inl 1] _ Q
      refine x_zeq (pc := 17) 35 dX9_isSection_17 (by decide) ⟨by decide, by decide⟩ (fun hx => absurd hx (by decide)) (fun _ => ?_)
      refine x_iload_n (pc := 20) dX9_isSection_20 rfl rfl ?_
      refine x_iconst (pc := 21) dX9_isSection_21 ?_
      refine x_sipush (pc := 22) dX9_isSection_22 (by decide +kernel) ?_
      obtain ⟨g5, h⟩ := h
      refine x_callS (pc := 25) (z := m_X9_isWithin) (as := [.inl x2, .inl 0, .inl 2000]) (rest := []) dX9_isSection_25 c_RX9_108 (by decide) rfl (Nat.le_of_ble_eq_true rfl) (ct_isWithin hW g5 ⟨by decide, by decide⟩ ⟨by decide, by decide⟩) (fun r M9 hr => ?_)
      obtain ⟨hM9, hr⟩ := hr
      rw [hM9]
      clear hM9
      obtain ⟨hc, rfl⟩ | ⟨hc, rfl⟩ := hr
      · replace h := h.1 hc
        show fx_At E m_X9_isSection 28 [some (.inl x0), some (.inl x1), some (.inl x2)] [.inl 1] _ Q
        refine x_zeq (pc := 28) 35 dX9_isSection_28 (by decide) ⟨by decide, by decide⟩ (fun hx => absurd hx (by decide)) (fun _ => ?_)
        refine x_iconst (pc := 31) dX9_isSection_31 ?_
        refine x_goto (pc := 32) 36 dX9_isSection_32 (by decide) ?_
        exact x_iret (pc := 36) dX9_isSection_36 (Or.inr ⟨rfl, by decide⟩) h
      · replace h := h.2 hc
        show fx_At E m_X9_isSection 28 [some (.inl x0), some (.inl x1), some (.inl x2)] [.inl 0] _ Q
        refine x_zeq (pc := 28) 35 dX9_isSection_28 (by decide) ⟨by decide, by decide⟩ (fun _ => ?_) (fun hx => absurd hx (by decide))
        refine x_iconst (pc := 35) dX9_isSection_35 ?_
        exact x_iret (pc := 36) dX9_isSection_36 (Or.inr ⟨rfl, by decide⟩) h
    · replace h := h.2 hc
      show fx_At E m_X9_isSection 17 [some (.inl x0), some (.inl x1), some (.inl x2)] [.inl 0] _ Q
      refine x_zeq (pc := 17) 35 dX9_isSection_17 (by decide) ⟨by decide, by decide⟩ (fun _ => ?_) (fun hx => absurd hx (by decide))
      refine x_iconst (pc := 35) dX9_isSection_35 ?_
      exact x_iret (pc := 36) dX9_isSection_36 (Or.inr ⟨rfl, by decide⟩) h
  · replace h := h.2 hc
    show fx_At E m_X9_isSection 7 [some (.inl x0), some (.inl x1), some (.inl x2)] [.inl 0] _ Q
    refine x_zeq (pc := 7) 35 dX9_isSection_7 (by decide) ⟨by decide, by decide⟩ (fun _ => ?_) (fun hx => absurd hx (by decide))
    refine x_iconst (pc := 35) dX9_isSection_35 ?_
    exact x_iret (pc := 36) dX9_isSection_36 (Or.inr ⟨rfl, by decide⟩) h
theorem dX10_isSection_0 : decode cX10_isSection 0 = .ok (.iload_n 0, 1) := by decide +kernel
theorem dX10_isSection_1 : decode cX10_isSection 1 = .ok (.iconst 1, 1) := by decide +kernel
theorem dX10_isSection_2 : decode cX10_isSection 2 = .ok (.bipush 100, 2) := by decide +kernel
theorem dX10_isSection_4 : decode cX10_isSection 4 = .ok (.invokestatic 74, 3) := by decide +kernel
theorem dX10_isSection_7 : decode cX10_isSection 7 = .ok (.ifCond .eq 28, 3) := by decide +kernel
theorem dX10_isSection_10 : decode cX10_isSection 10 = .ok (.iload_n 1, 1) := by decide +kernel
theorem dX10_isSection_11 : decode cX10_isSection 11 = .ok (.iconst 1, 1) := by decide +kernel
theorem dX10_isSection_12 : decode cX10_isSection 12 = .ok (.bipush 60, 2) := by decide +kernel
theorem dX10_isSection_14 : decode cX10_isSection 14 = .ok (.invokestatic 74, 3) := by decide +kernel
theorem dX10_isSection_17 : decode cX10_isSection 17 = .ok (.ifCond .eq 18, 3) := by decide +kernel
theorem dX10_isSection_20 : decode cX10_isSection 20 = .ok (.iload_n 2, 1) := by decide +kernel
theorem dX10_isSection_21 : decode cX10_isSection 21 = .ok (.iconst 0, 1) := by decide +kernel
theorem dX10_isSection_22 : decode cX10_isSection 22 = .ok (.sipush 2000, 3) := by decide +kernel
theorem dX10_isSection_25 : decode cX10_isSection 25 = .ok (.invokestatic 74, 3) := by decide +kernel
theorem dX10_isSection_28 : decode cX10_isSection 28 = .ok (.ifCond .eq 7, 3) := by decide +kernel
theorem dX10_isSection_31 : decode cX10_isSection 31 = .ok (.iconst 1, 1) := by decide +kernel
theorem dX10_isSection_32 : decode cX10_isSection 32 = .ok (.goto 4, 3) := by decide +kernel
theorem dX10_isSection_35 : decode cX10_isSection 35 = .ok (.iconst 0, 1) := by decide +kernel
theorem dX10_isSection_36 : decode cX10_isSection 36 = .ok (.ireturn, 1) := by decide +kernel
set_option maxRecDepth 100000 in
theorem b_X10_isSection_0 {E : fxE} (hW : fx_Wt E) (x0 : Int) (x1 : Int) (x2 : Int) (M : fxM) (Q : Option fxV → fxM → Prop)  (h : (-2147483648 ≤ x0 ∧ x0 < 2147483648) ∧ (((1 : Int) ≤ x0 ∧ x0 ≤ (100 : Int) → (-2147483648 ≤ x1 ∧ x1 < 2147483648) ∧ (((1 : Int) ≤ x1 ∧ x1 ≤ (60 : Int) → (-2147483648 ≤ x2 ∧ x2 < 2147483648) ∧ (((0 : Int) ≤ x2 ∧ x2 ≤ (2000 : Int) → Q (some (.inl 1)) M) ∧ (¬ ((0 : Int) ≤ x2 ∧ x2 ≤ (2000 : Int)) → Q (some (.inl 0)) M))) ∧ (¬ ((1 : Int) ≤ x1 ∧ x1 ≤ (60 : Int)) → Q (some (.inl 0)) M))) ∧ (¬ ((1 : Int) ≤ x0 ∧ x0 ≤ (100 : Int)) → Q (some (.inl 0)) M))) : fx_At E m_X10_isSection 0 [some (.inl x0), some (.inl x1), some (.inl x2)] [] M Q := by
  refine x_iload_n (pc := 0) dX10_isSection_0 rfl rfl ?_
  refine x_iconst (pc := 1) dX10_isSection_1 ?_
  refine x_bipush (pc := 2) dX10_isSection_2 (by decide +kernel) ?_
  obtain ⟨g1, h⟩ := h
  refine x_callS (pc := 4) (z := m_X10_isIn) (as := [.inl x0, .inl 1, .inl 100]) (rest := []) dX10_isSection_4 c_RX10_74 (by decide) rfl (Nat.le_of_ble_eq_true rfl) (ct_isIn hW g1 ⟨by decide, by decide⟩ ⟨by decide, by decide⟩) (fun r M9 hr => ?_)
  obtain ⟨hM9, hr⟩ := hr
  rw [hM9]
  clear hM9
  obtain ⟨hc, rfl⟩ | ⟨hc, rfl⟩ := hr
  · replace h := h.1 hc
    show fx_At E m_X10_isSection 7 [some (.inl x0), some (.inl x1), some (.inl x2)] [.inl 1] _ Q
    refine x_zeq (pc := 7) 35 dX10_isSection_7 (by decide) ⟨by decide, by decide⟩ (fun hx => absurd hx (by decide)) (fun _ => ?_)
    refine x_iload_n (pc := 10) dX10_isSection_10 rfl rfl ?_
    refine x_iconst (pc := 11) dX10_isSection_11 ?_
    refine x_bipush (pc := 12) dX10_isSection_12 (by decide +kernel) ?_
    obtain ⟨g3, h⟩ := h
    refine x_callS (pc := 14) (z := m_X10_isIn) (as := [.inl x1, .inl 1, .inl 60]) (rest := []) dX10_isSection_14 c_RX10_74 (by decide) rfl (Nat.le_of_ble_eq_true rfl) (ct_isIn hW g3 ⟨by decide, by decide⟩ ⟨by decide, by decide⟩) (fun r M9 hr => ?_)
    obtain ⟨hM9, hr⟩ := hr
    rw [hM9]
    clear hM9
    obtain ⟨hc, rfl⟩ | ⟨hc, rfl⟩ := hr
    · replace h := h.1 hc
      show fx_At E m_X10_isSection 17 [some (.inl x0), some (.inl x1), some (.inl x2)] [.inl 1] _ Q
      refine x_zeq (pc := 17) 35 dX10_isSection_17 (by decide) ⟨by decide, by decide⟩ (fun hx => absurd hx (by decide)) (fun _ => ?_)
      refine x_iload_n (pc := 20) dX10_isSection_20 rfl rfl ?_
      refine x_iconst (pc := 21) dX10_isSection_21 ?_
      refine x_sipush (pc := 22) dX10_isSection_22 (by decide +kernel) ?_
      obtain ⟨g5, h⟩ := h
      refine x_callS (pc := 25) (z := m_X10_isIn) (as := [.inl x2, .inl 0, .inl 2000]) (rest := []) dX10_isSection_25 c_RX10_74 (by decide) rfl (Nat.le_of_ble_eq_true rfl) (ct_isIn hW g5 ⟨by decide, by decide⟩ ⟨by decide, by decide⟩) (fun r M9 hr => ?_)
      obtain ⟨hM9, hr⟩ := hr
      rw [hM9]
      clear hM9
      obtain ⟨hc, rfl⟩ | ⟨hc, rfl⟩ := hr
      · replace h := h.1 hc
        show fx_At E m_X10_isSection 28 [some (.inl x0), some (.inl x1), some (.inl x2)] [.inl 1] _ Q
        refine x_zeq (pc := 28) 35 dX10_isSection_28 (by decide) ⟨by decide, by decide⟩ (fun hx => absurd hx (by decide)) (fun _ => ?_)
        refine x_iconst (pc := 31) dX10_isSection_31 ?_
        refine x_goto (pc := 32) 36 dX10_isSection_32 (by decide) ?_
        exact x_iret (pc := 36) dX10_isSection_36 (Or.inr ⟨rfl, by decide⟩) h
      · replace h := h.2 hc
        show fx_At E m_X10_isSection 28 [some (.inl x0), some (.inl x1), some (.inl x2)] [.inl 0] _ Q
        refine x_zeq (pc := 28) 35 dX10_isSection_28 (by decide) ⟨by decide, by decide⟩ (fun _ => ?_) (fun hx => absurd hx (by decide))
        refine x_iconst (pc := 35) dX10_isSection_35 ?_
        exact x_iret (pc := 36) dX10_isSection_36 (Or.inr ⟨rfl, by decide⟩) h
    · replace h := h.2 hc
      show fx_At E m_X10_isSection 17 [some (.inl x0), some (.inl x1), some (.inl x2)] [.inl 0] _ Q
      refine x_zeq (pc := 17) 35 dX10_isSection_17 (by decide) ⟨by decide, by decide⟩ (fun _ => ?_) (fun hx => absurd hx (by decide))
      refine x_iconst (pc := 35) dX10_isSection_35 ?_
      exact x_iret (pc := 36) dX10_isSection_36 (Or.inr ⟨rfl, by decide⟩) h
  · replace h := h.2 hc
    show fx_At E m_X10_isSection 7 [some (.inl x0), some (.inl x1), some (.inl x2)] [.inl 0] _ Q
    refine x_zeq (pc := 7) 35 dX10_isSection_7 (by decide) ⟨by decide, by decide⟩ (fun _ => ?_) (fun hx => absurd hx (by decide))
    refine x_iconst (pc := 35) dX10_isSection_35 ?_
    exact x_iret (pc := 36) dX10_isSection_36 (Or.inr ⟨rfl, by decide⟩) h
theorem dX10_isSide_0 : decode cX10_isSide 0 = .ok (.iload_n 0, 1) := by decide +kernel
theorem dX10_isSide_1 : decode cX10_isSide 1 = .ok (.iconst 0, 1) := by decide +kernel
theorem dX10_isSide_2 : decode cX10_isSide 2 = .ok (.iconst 1, 1) := by decide +kernel
theorem dX10_isSide_3 : decode cX10_isSide 3 = .ok (.invokestatic 74, 3) := by decide +kernel
theorem dX10_isSide_6 : decode cX10_isSide 6 = .ok (.ireturn, 1) := by decide +kernel
set_option maxRecDepth 100000 in
theorem b_X10_isSide_0 {E : fxE} (hW : fx_Wt E) (x0 : Int) (M : fxM) (Q : Option fxV → fxM → Prop)  (h : (-2147483648 ≤ x0 ∧ x0 < 2147483648) ∧ (((0 : Int) ≤ x0 ∧ x0 ≤ (1 : Int) → Q (some (.inl 1)) M) ∧ (¬ ((0 : Int) ≤ x0 ∧ x0 ≤ (1 : Int)) → Q (some (.inl 0)) M))) : fx_At E m_X10_isSide 0 [some (.inl x0)] [] M Q := by
  refine x_iload_n (pc := 0) dX10_isSide_0 rfl rfl ?_
  refine x_iconst (pc := 1) dX10_isSide_1 ?_
  refine x_iconst (pc := 2) dX10_isSide_2 ?_
  obtain ⟨g1, h⟩ := h
  refine x_callS (pc := 3) (z := m_X10_isIn) (as := [.inl x0, .inl 0, .inl 1]) (rest := []) dX10_isSide_3 c_RX10_74 (by decide) rfl (Nat.le_of_ble_eq_true rfl) (ct_isIn hW g1 ⟨by decide, by decide⟩ ⟨by decide, by decide⟩) (fun r M9 hr => ?_)
  obtain ⟨hM9, hr⟩ := hr
  rw [hM9]
  clear hM9
  obtain ⟨hc, rfl⟩ | ⟨hc, rfl⟩ := hr
  · replace h := h.1 hc
    show fx_At E m_X10_isSide 6 [some (.inl x0)] [.inl 1] _ Q
    exact x_iret (pc := 6) dX10_isSide_6 (Or.inr ⟨rfl, by decide⟩) h
  · replace h := h.2 hc
    show fx_At E m_X10_isSide 6 [some (.inl x0)] [.inl 0] _ Q
    exact x_iret (pc := 6) dX10_isSide_6 (Or.inr ⟨rfl, by decide⟩) h
theorem dX10_isJoint_0 : decode cX10_isJoint 0 = .ok (.iload_n 1, 1) := by decide +kernel
theorem dX10_isJoint_1 : decode cX10_isJoint 1 = .ok (.iconst 0, 1) := by decide +kernel
theorem dX10_isJoint_2 : decode cX10_isJoint 2 = .ok (.aload_n 0, 1) := by decide +kernel
theorem dX10_isJoint_3 : decode cX10_isJoint 3 = .ok (.getfield 7, 3) := by decide +kernel
theorem dX10_isJoint_6 : decode cX10_isJoint 6 = .ok (.iconst 0, 1) := by decide +kernel
theorem dX10_isJoint_7 : decode cX10_isJoint 7 = .ok (.iaload, 1) := by decide +kernel
theorem dX10_isJoint_8 : decode cX10_isJoint 8 = .ok (.invokestatic 74, 3) := by decide +kernel
theorem dX10_isJoint_11 : decode cX10_isJoint 11 = .ok (.ireturn, 1) := by decide +kernel
set_option maxRecDepth 100000 in
theorem b_X10_isJoint_0 {E : fxE} (hW : fx_Wt E) (a0 : Nat) (x1 : Int) (M : fxM) (Q : Option fxV → fxM → Prop) (hk0 : kd E a0 = 10) (h : (-2147483648 ≤ x1 ∧ x1 < 2147483648) ∧ (-2147483648 ≤ (M (rf E a0 0) 0) ∧ (M (rf E a0 0) 0) < 2147483648) ∧ (((0 : Int) ≤ x1 ∧ x1 ≤ (M (rf E a0 0) 0) → Q (some (.inl 1)) M) ∧ (¬ ((0 : Int) ≤ x1 ∧ x1 ≤ (M (rf E a0 0) 0)) → Q (some (.inl 0)) M))) : fx_At E m_X10_isJoint 0 [some (.inr a0), some (.inl x1)] [] M Q := by
  refine x_iload_n (pc := 0) dX10_isJoint_0 rfl rfl ?_
  refine x_iconst (pc := 1) dX10_isJoint_1 ?_
  refine x_aload_n (pc := 2) dX10_isJoint_2 rfl rfl ?_
  refine x_getr (pc := 3) dX10_isJoint_3 f_RX10_7 hk0 ?_
  refine x_iconst (pc := 6) dX10_isJoint_6 ?_
  refine x_iald (pc := 7) dX10_isJoint_7 (wk_10_0 hW hk0) (wl_10_0 hW hk0) ⟨by decide, by decide⟩ ?_
  obtain ⟨g1, h⟩ := h
  obtain ⟨g2, h⟩ := h
  refine x_callS (pc := 8) (z := m_X10_isIn) (as := [.inl x1, .inl 0, .inl (M (rf E a0 0) 0)]) (rest := []) dX10_isJoint_8 c_RX10_74 (by decide) rfl (Nat.le_of_ble_eq_true rfl) (ct_isIn hW g1 ⟨by decide, by decide⟩ g2) (fun r M9 hr => ?_)
  obtain ⟨hM9, hr⟩ := hr
  rw [hM9]
  clear hM9
  obtain ⟨hc, rfl⟩ | ⟨hc, rfl⟩ := hr
  · replace h := h.1 hc
    show fx_At E m_X10_isJoint 11 [some (.inr a0), some (.inl x1)] [.inl 1] _ Q
    exact x_iret (pc := 11) dX10_isJoint_11 (Or.inr ⟨rfl, by decide⟩) h
  · replace h := h.2 hc
    show fx_At E m_X10_isJoint 11 [some (.inr a0), some (.inl x1)] [.inl 0] _ Q
    exact x_iret (pc := 11) dX10_isJoint_11 (Or.inr ⟨rfl, by decide⟩) h
theorem dX10_isBend_0 : decode cX10_isBend 0 = .ok (.iload_n 1, 1) := by decide +kernel
theorem dX10_isBend_1 : decode cX10_isBend 1 = .ok (.iconst 0, 1) := by decide +kernel
theorem dX10_isBend_2 : decode cX10_isBend 2 = .ok (.aload_n 0, 1) := by decide +kernel
theorem dX10_isBend_3 : decode cX10_isBend 3 = .ok (.getfield 7, 3) := by decide +kernel
theorem dX10_isBend_6 : decode cX10_isBend 6 = .ok (.bipush 43, 2) := by decide +kernel
theorem dX10_isBend_8 : decode cX10_isBend 8 = .ok (.iaload, 1) := by decide +kernel
theorem dX10_isBend_9 : decode cX10_isBend 9 = .ok (.iconst 1, 1) := by decide +kernel
theorem dX10_isBend_10 : decode cX10_isBend 10 = .ok (.isub, 1) := by decide +kernel
theorem dX10_isBend_11 : decode cX10_isBend 11 = .ok (.invokestatic 74, 3) := by decide +kernel
theorem dX10_isBend_14 : decode cX10_isBend 14 = .ok (.ireturn, 1) := by decide +kernel
set_option maxRecDepth 100000 in
theorem b_X10_isBend_0 {E : fxE} (hW : fx_Wt E) (a0 : Nat) (x1 : Int) (M : fxM) (Q : Option fxV → fxM → Prop) (hk0 : kd E a0 = 10) (h : (-2147483648 ≤ x1 ∧ x1 < 2147483648) ∧ (-2147483648 ≤ ((M (rf E a0 0) 43) - 1) ∧ ((M (rf E a0 0) 43) - 1) < 2147483648) ∧ (((0 : Int) ≤ x1 ∧ x1 ≤ ((M (rf E a0 0) 43) - 1) → Q (some (.inl 1)) M) ∧ (¬ ((0 : Int) ≤ x1 ∧ x1 ≤ ((M (rf E a0 0) 43) - 1)) → Q (some (.inl 0)) M))) : fx_At E m_X10_isBend 0 [some (.inr a0), some (.inl x1)] [] M Q := by
  refine x_iload_n (pc := 0) dX10_isBend_0 rfl rfl ?_
  refine x_iconst (pc := 1) dX10_isBend_1 ?_
  refine x_aload_n (pc := 2) dX10_isBend_2 rfl rfl ?_
  refine x_getr (pc := 3) dX10_isBend_3 f_RX10_7 hk0 ?_
  refine x_bipush (pc := 6) dX10_isBend_6 (by decide +kernel) ?_
  refine x_iald (pc := 8) dX10_isBend_8 (wk_10_0 hW hk0) (wl_10_0 hW hk0) ⟨by decide, by decide⟩ ?_
  refine x_iconst (pc := 9) dX10_isBend_9 ?_
  refine x_isub (pc := 10) dX10_isBend_10 ?_
  obtain ⟨g1, h⟩ := h
  obtain ⟨g2, h⟩ := h
  refine x_callS (pc := 11) (z := m_X10_isIn) (as := [.inl x1, .inl 0, .inl ((M (rf E a0 0) 43) - 1)]) (rest := []) dX10_isBend_11 c_RX10_74 (by decide) rfl (Nat.le_of_ble_eq_true rfl) (ct_isIn hW g1 ⟨by decide, by decide⟩ g2) (fun r M9 hr => ?_)
  obtain ⟨hM9, hr⟩ := hr
  rw [hM9]
  clear hM9
  obtain ⟨hc, rfl⟩ | ⟨hc, rfl⟩ := hr
  · replace h := h.1 hc
    show fx_At E m_X10_isBend 14 [some (.inr a0), some (.inl x1)] [.inl 1] _ Q
    exact x_iret (pc := 14) dX10_isBend_14 (Or.inr ⟨rfl, by decide⟩) h
  · replace h := h.2 hc
    show fx_At E m_X10_isBend 14 [some (.inr a0), some (.inl x1)] [.inl 0] _ Q
    exact x_iret (pc := 14) dX10_isBend_14 (Or.inr ⟨rfl, by decide⟩) h
theorem dX7_at_0 : decode cX7_at 0 = .ok (.iload_n 1, 1) := by decide +kernel
theorem dX7_at_1 : decode cX7_at 1 = .ok (.ifCond .lt 21, 3) := by decide +kernel
theorem dX7_at_4 : decode cX7_at 4 = .ok (.iload_n 1, 1) := by decide +kernel
theorem dX7_at_5 : decode cX7_at 5 = .ok (.aload_n 0, 1) := by decide +kernel
theorem dX7_at_6 : decode cX7_at 6 = .ok (.getfield 9, 3) := by decide +kernel
theorem dX7_at_9 : decode cX7_at 9 = .ok (.arraylength, 1) := by decide +kernel
theorem dX7_at_10 : decode cX7_at 10 = .ok (.if_icmp .ge 12, 3) := by decide +kernel
theorem dX7_at_13 : decode cX7_at 13 = .ok (.aload_n 0, 1) := by decide +kernel
theorem dX7_at_14 : decode cX7_at 14 = .ok (.getfield 9, 3) := by decide +kernel
theorem dX7_at_17 : decode cX7_at 17 = .ok (.iload_n 1, 1) := by decide +kernel
theorem dX7_at_18 : decode cX7_at 18 = .ok (.iaload, 1) := by decide +kernel
theorem dX7_at_19 : decode cX7_at 19 = .ok (.goto 6, 3) := by decide +kernel
theorem dX7_at_22 : decode cX7_at 22 = .ok (.sipush 5000, 3) := by decide +kernel
theorem dX7_at_25 : decode cX7_at 25 = .ok (.ireturn, 1) := by decide +kernel
set_option maxRecDepth 100000 in
theorem b_X7_at_0 {E : fxE} (hW : fx_Wt E) (a0 : Nat) (x1 : Int) (M : fxM) (Q : Option fxV → fxM → Prop) (hk0 : kd E a0 = 7) (h : (-2147483648 ≤ x1 ∧ x1 < 2147483648) ∧ ((x1 < (0 : Int) → Q (some (.inl 5000)) M) ∧ (¬ x1 < (0 : Int) → (((401 : Int) ≤ x1 → Q (some (.inl 5000)) M) ∧ (¬ (401 : Int) ≤ x1 → (0 ≤ x1 ∧ x1 < 401) ∧ Q (some (.inl (M (rf E a0 0) (x1.toNat)))) M))))) : fx_At E m_X7_at 0 [some (.inr a0), some (.inl x1)] [] M Q := by
  refine x_iload_n (pc := 0) dX7_at_0 rfl rfl ?_
  obtain ⟨g1, h⟩ := h
  refine x_zlt (pc := 1) 22 dX7_at_1 (by decide) g1 (fun hc => ?_) (fun hc => ?_)
  · replace h := h.1 hc
    refine x_sipush (pc := 22) dX7_at_22 (by decide +kernel) ?_
    exact x_iret (pc := 25) dX7_at_25 (Or.inl rfl) h
  · replace h := h.2 hc
    refine x_iload_n (pc := 4) dX7_at_4 rfl rfl ?_
    refine x_aload_n (pc := 5) dX7_at_5 rfl rfl ?_
    refine x_getr (pc := 6) dX7_at_6 f_RX7_9 hk0 ?_
    refine x_alen (pc := 9) dX7_at_9 (wk_7_0 hW hk0) (by decide) (by decide) (wl_7_0 hW hk0) ?_
    refine x_cge (pc := 10) 22 dX7_at_10 (by decide) ⟨g1, ⟨by decide, by decide⟩⟩ (fun hc => ?_) (fun hc => ?_)
    · replace h := h.1 hc
      refine x_sipush (pc := 22) dX7_at_22 (by decide +kernel) ?_
      exact x_iret (pc := 25) dX7_at_25 (Or.inl rfl) h
    · replace h := h.2 hc
      refine x_aload_n (pc := 13) dX7_at_13 rfl rfl ?_
      refine x_getr (pc := 14) dX7_at_14 f_RX7_9 hk0 ?_
      refine x_iload_n (pc := 17) dX7_at_17 rfl rfl ?_
      obtain ⟨g2, h⟩ := h
      refine x_iald (pc := 18) dX7_at_18 (wk_7_0 hW hk0) (wl_7_0 hW hk0) g2 ?_
      refine x_goto (pc := 19) 25 dX7_at_19 (by decide) ?_
      exact x_iret (pc := 25) dX7_at_25 (Or.inl rfl) h
theorem dX8_levelAt_0 : decode cX8_levelAt 0 = .ok (.iload_n 1, 1) := by decide +kernel
theorem dX8_levelAt_1 : decode cX8_levelAt 1 = .ok (.ifCond .lt 21, 3) := by decide +kernel
theorem dX8_levelAt_4 : decode cX8_levelAt 4 = .ok (.iload_n 1, 1) := by decide +kernel
theorem dX8_levelAt_5 : decode cX8_levelAt 5 = .ok (.aload_n 0, 1) := by decide +kernel
theorem dX8_levelAt_6 : decode cX8_levelAt 6 = .ok (.getfield 15, 3) := by decide +kernel
theorem dX8_levelAt_9 : decode cX8_levelAt 9 = .ok (.arraylength, 1) := by decide +kernel
theorem dX8_levelAt_10 : decode cX8_levelAt 10 = .ok (.if_icmp .ge 12, 3) := by decide +kernel
theorem dX8_levelAt_13 : decode cX8_levelAt 13 = .ok (.aload_n 0, 1) := by decide +kernel
theorem dX8_levelAt_14 : decode cX8_levelAt 14 = .ok (.getfield 15, 3) := by decide +kernel
theorem dX8_levelAt_17 : decode cX8_levelAt 17 = .ok (.iload_n 1, 1) := by decide +kernel
theorem dX8_levelAt_18 : decode cX8_levelAt 18 = .ok (.iaload, 1) := by decide +kernel
theorem dX8_levelAt_19 : decode cX8_levelAt 19 = .ok (.goto 4, 3) := by decide +kernel
theorem dX8_levelAt_22 : decode cX8_levelAt 22 = .ok (.iconst 0, 1) := by decide +kernel
theorem dX8_levelAt_23 : decode cX8_levelAt 23 = .ok (.ireturn, 1) := by decide +kernel
set_option maxRecDepth 100000 in
theorem b_X8_levelAt_0 {E : fxE} (hW : fx_Wt E) (a0 : Nat) (x1 : Int) (M : fxM) (Q : Option fxV → fxM → Prop) (hk0 : kd E a0 = 8) (h : (-2147483648 ≤ x1 ∧ x1 < 2147483648) ∧ ((x1 < (0 : Int) → Q (some (.inl 0)) M) ∧ (¬ x1 < (0 : Int) → (((300 : Int) ≤ x1 → Q (some (.inl 0)) M) ∧ (¬ (300 : Int) ≤ x1 → (0 ≤ x1 ∧ x1 < 300) ∧ Q (some (.inl (M (rf E a0 1) (x1.toNat)))) M))))) : fx_At E m_X8_levelAt 0 [some (.inr a0), some (.inl x1)] [] M Q := by
  refine x_iload_n (pc := 0) dX8_levelAt_0 rfl rfl ?_
  obtain ⟨g1, h⟩ := h
  refine x_zlt (pc := 1) 22 dX8_levelAt_1 (by decide) g1 (fun hc => ?_) (fun hc => ?_)
  · replace h := h.1 hc
    refine x_iconst (pc := 22) dX8_levelAt_22 ?_
    exact x_iret (pc := 23) dX8_levelAt_23 (Or.inl rfl) h
  · replace h := h.2 hc
    refine x_iload_n (pc := 4) dX8_levelAt_4 rfl rfl ?_
    refine x_aload_n (pc := 5) dX8_levelAt_5 rfl rfl ?_
    refine x_getr (pc := 6) dX8_levelAt_6 f_RX8_15 hk0 ?_
    refine x_alen (pc := 9) dX8_levelAt_9 (wk_8_1 hW hk0) (by decide) (by decide) (wl_8_1 hW hk0) ?_
    refine x_cge (pc := 10) 22 dX8_levelAt_10 (by decide) ⟨g1, ⟨by decide, by decide⟩⟩ (fun hc => ?_) (fun hc => ?_)
    · replace h := h.1 hc
      refine x_iconst (pc := 22) dX8_levelAt_22 ?_
      exact x_iret (pc := 23) dX8_levelAt_23 (Or.inl rfl) h
    · replace h := h.2 hc
      refine x_aload_n (pc := 13) dX8_levelAt_13 rfl rfl ?_
      refine x_getr (pc := 14) dX8_levelAt_14 f_RX8_15 hk0 ?_
      refine x_iload_n (pc := 17) dX8_levelAt_17 rfl rfl ?_
      obtain ⟨g2, h⟩ := h
      refine x_iald (pc := 18) dX8_levelAt_18 (wk_8_1 hW hk0) (wl_8_1 hW hk0) g2 ?_
      refine x_goto (pc := 19) 23 dX8_levelAt_19 (by decide) ?_
      exact x_iret (pc := 23) dX8_levelAt_23 (Or.inl rfl) h
theorem dX8_lossUpTo_0 : decode cX8_lossUpTo 0 = .ok (.iload_n 1, 1) := by decide +kernel
theorem dX8_lossUpTo_1 : decode cX8_lossUpTo 1 = .ok (.ifCond .lt 21, 3) := by decide +kernel
theorem dX8_lossUpTo_4 : decode cX8_lossUpTo 4 = .ok (.iload_n 1, 1) := by decide +kernel
theorem dX8_lossUpTo_5 : decode cX8_lossUpTo 5 = .ok (.aload_n 0, 1) := by decide +kernel
theorem dX8_lossUpTo_6 : decode cX8_lossUpTo 6 = .ok (.getfield 9, 3) := by decide +kernel
theorem dX8_lossUpTo_9 : decode cX8_lossUpTo 9 = .ok (.arraylength, 1) := by decide +kernel
theorem dX8_lossUpTo_10 : decode cX8_lossUpTo 10 = .ok (.if_icmp .ge 12, 3) := by decide +kernel
theorem dX8_lossUpTo_13 : decode cX8_lossUpTo 13 = .ok (.aload_n 0, 1) := by decide +kernel
theorem dX8_lossUpTo_14 : decode cX8_lossUpTo 14 = .ok (.getfield 9, 3) := by decide +kernel
theorem dX8_lossUpTo_17 : decode cX8_lossUpTo 17 = .ok (.iload_n 1, 1) := by decide +kernel
theorem dX8_lossUpTo_18 : decode cX8_lossUpTo 18 = .ok (.iaload, 1) := by decide +kernel
theorem dX8_lossUpTo_19 : decode cX8_lossUpTo 19 = .ok (.goto 4, 3) := by decide +kernel
theorem dX8_lossUpTo_22 : decode cX8_lossUpTo 22 = .ok (.iconst 0, 1) := by decide +kernel
theorem dX8_lossUpTo_23 : decode cX8_lossUpTo 23 = .ok (.ireturn, 1) := by decide +kernel
set_option maxRecDepth 100000 in
theorem b_X8_lossUpTo_0 {E : fxE} (hW : fx_Wt E) (a0 : Nat) (x1 : Int) (M : fxM) (Q : Option fxV → fxM → Prop) (hk0 : kd E a0 = 8) (h : (-2147483648 ≤ x1 ∧ x1 < 2147483648) ∧ ((x1 < (0 : Int) → Q (some (.inl 0)) M) ∧ (¬ x1 < (0 : Int) → (((301 : Int) ≤ x1 → Q (some (.inl 0)) M) ∧ (¬ (301 : Int) ≤ x1 → (0 ≤ x1 ∧ x1 < 301) ∧ Q (some (.inl (M (rf E a0 0) (x1.toNat)))) M))))) : fx_At E m_X8_lossUpTo 0 [some (.inr a0), some (.inl x1)] [] M Q := by
  refine x_iload_n (pc := 0) dX8_lossUpTo_0 rfl rfl ?_
  obtain ⟨g1, h⟩ := h
  refine x_zlt (pc := 1) 22 dX8_lossUpTo_1 (by decide) g1 (fun hc => ?_) (fun hc => ?_)
  · replace h := h.1 hc
    refine x_iconst (pc := 22) dX8_lossUpTo_22 ?_
    exact x_iret (pc := 23) dX8_lossUpTo_23 (Or.inl rfl) h
  · replace h := h.2 hc
    refine x_iload_n (pc := 4) dX8_lossUpTo_4 rfl rfl ?_
    refine x_aload_n (pc := 5) dX8_lossUpTo_5 rfl rfl ?_
    refine x_getr (pc := 6) dX8_lossUpTo_6 f_RX8_9 hk0 ?_
    refine x_alen (pc := 9) dX8_lossUpTo_9 (wk_8_0 hW hk0) (by decide) (by decide) (wl_8_0 hW hk0) ?_
    refine x_cge (pc := 10) 22 dX8_lossUpTo_10 (by decide) ⟨g1, ⟨by decide, by decide⟩⟩ (fun hc => ?_) (fun hc => ?_)
    · replace h := h.1 hc
      refine x_iconst (pc := 22) dX8_lossUpTo_22 ?_
      exact x_iret (pc := 23) dX8_lossUpTo_23 (Or.inl rfl) h
    · replace h := h.2 hc
      refine x_aload_n (pc := 13) dX8_lossUpTo_13 rfl rfl ?_
      refine x_getr (pc := 14) dX8_lossUpTo_14 f_RX8_9 hk0 ?_
      refine x_iload_n (pc := 17) dX8_lossUpTo_17 rfl rfl ?_
      obtain ⟨g2, h⟩ := h
      refine x_iald (pc := 18) dX8_lossUpTo_18 (wk_8_0 hW hk0) (wl_8_0 hW hk0) g2 ?_
      refine x_goto (pc := 19) 23 dX8_lossUpTo_19 (by decide) ?_
      exact x_iret (pc := 23) dX8_lossUpTo_23 (Or.inl rfl) h
theorem dX1_startOf_0 : decode cX1_startOf 0 = .ok (.iload_n 1, 1) := by decide +kernel
theorem dX1_startOf_1 : decode cX1_startOf 1 = .ok (.ifCond .lt 20, 3) := by decide +kernel
theorem dX1_startOf_4 : decode cX1_startOf 4 = .ok (.iload_n 1, 1) := by decide +kernel
theorem dX1_startOf_5 : decode cX1_startOf 5 = .ok (.aload_n 0, 1) := by decide +kernel
theorem dX1_startOf_6 : decode cX1_startOf 6 = .ok (.getfield 31, 3) := by decide +kernel
theorem dX1_startOf_9 : decode cX1_startOf 9 = .ok (.if_icmp .ge 12, 3) := by decide +kernel
theorem dX1_startOf_12 : decode cX1_startOf 12 = .ok (.aload_n 0, 1) := by decide +kernel
theorem dX1_startOf_13 : decode cX1_startOf 13 = .ok (.getfield 9, 3) := by decide +kernel
theorem dX1_startOf_16 : decode cX1_startOf 16 = .ok (.iload_n 1, 1) := by decide +kernel
theorem dX1_startOf_17 : decode cX1_startOf 17 = .ok (.iaload, 1) := by decide +kernel
theorem dX1_startOf_18 : decode cX1_startOf 18 = .ok (.goto 4, 3) := by decide +kernel
theorem dX1_startOf_21 : decode cX1_startOf 21 = .ok (.iconst 0, 1) := by decide +kernel
theorem dX1_startOf_22 : decode cX1_startOf 22 = .ok (.ireturn, 1) := by decide +kernel
set_option maxRecDepth 100000 in
theorem b_X1_startOf_0 {E : fxE} (hW : fx_Wt E) (a0 : Nat) (x1 : Int) (M : fxM) (Q : Option fxV → fxM → Prop) (hk0 : kd E a0 = 1) (h : (-2147483648 ≤ x1 ∧ x1 < 2147483648) ∧ ((x1 < (0 : Int) → Q (some (.inl 0)) M) ∧ (¬ x1 < (0 : Int) → (-2147483648 ≤ (M a0 6) ∧ (M a0 6) < 2147483648) ∧ (((M a0 6) ≤ x1 → Q (some (.inl 0)) M) ∧ (¬ (M a0 6) ≤ x1 → (0 ≤ x1 ∧ x1 < 200) ∧ Q (some (.inl (M (rf E a0 0) (x1.toNat)))) M))))) : fx_At E m_X1_startOf 0 [some (.inr a0), some (.inl x1)] [] M Q := by
  refine x_iload_n (pc := 0) dX1_startOf_0 rfl rfl ?_
  obtain ⟨g1, h⟩ := h
  refine x_zlt (pc := 1) 21 dX1_startOf_1 (by decide) g1 (fun hc => ?_) (fun hc => ?_)
  · replace h := h.1 hc
    refine x_iconst (pc := 21) dX1_startOf_21 ?_
    exact x_iret (pc := 22) dX1_startOf_22 (Or.inl rfl) h
  · replace h := h.2 hc
    refine x_iload_n (pc := 4) dX1_startOf_4 rfl rfl ?_
    refine x_aload_n (pc := 5) dX1_startOf_5 rfl rfl ?_
    refine x_geti (pc := 6) dX1_startOf_6 f_RX1_31 hk0 ?_
    obtain ⟨g2, h⟩ := h
    refine x_cge (pc := 9) 21 dX1_startOf_9 (by decide) ⟨g1, g2⟩ (fun hc => ?_) (fun hc => ?_)
    · replace h := h.1 hc
      refine x_iconst (pc := 21) dX1_startOf_21 ?_
      exact x_iret (pc := 22) dX1_startOf_22 (Or.inl rfl) h
    · replace h := h.2 hc
      refine x_aload_n (pc := 12) dX1_startOf_12 rfl rfl ?_
      refine x_getr (pc := 13) dX1_startOf_13 f_RX1_9 hk0 ?_
      refine x_iload_n (pc := 16) dX1_startOf_16 rfl rfl ?_
      obtain ⟨g3, h⟩ := h
      refine x_iald (pc := 17) dX1_startOf_17 (wk_1_0 hW hk0) (wl_1_0 hW hk0) g3 ?_
      refine x_goto (pc := 18) 22 dX1_startOf_18 (by decide) ?_
      exact x_iret (pc := 22) dX1_startOf_22 (Or.inl rfl) h
theorem dX1_lossOf_0 : decode cX1_lossOf 0 = .ok (.iload_n 1, 1) := by decide +kernel
theorem dX1_lossOf_1 : decode cX1_lossOf 1 = .ok (.ifCond .lt 20, 3) := by decide +kernel
theorem dX1_lossOf_4 : decode cX1_lossOf 4 = .ok (.iload_n 1, 1) := by decide +kernel
theorem dX1_lossOf_5 : decode cX1_lossOf 5 = .ok (.aload_n 0, 1) := by decide +kernel
theorem dX1_lossOf_6 : decode cX1_lossOf 6 = .ok (.getfield 31, 3) := by decide +kernel
theorem dX1_lossOf_9 : decode cX1_lossOf 9 = .ok (.if_icmp .ge 12, 3) := by decide +kernel
theorem dX1_lossOf_12 : decode cX1_lossOf 12 = .ok (.aload_n 0, 1) := by decide +kernel
theorem dX1_lossOf_13 : decode cX1_lossOf 13 = .ok (.getfield 21, 3) := by decide +kernel
theorem dX1_lossOf_16 : decode cX1_lossOf 16 = .ok (.iload_n 1, 1) := by decide +kernel
theorem dX1_lossOf_17 : decode cX1_lossOf 17 = .ok (.iaload, 1) := by decide +kernel
theorem dX1_lossOf_18 : decode cX1_lossOf 18 = .ok (.goto 4, 3) := by decide +kernel
theorem dX1_lossOf_21 : decode cX1_lossOf 21 = .ok (.iconst 0, 1) := by decide +kernel
theorem dX1_lossOf_22 : decode cX1_lossOf 22 = .ok (.ireturn, 1) := by decide +kernel
set_option maxRecDepth 100000 in
theorem b_X1_lossOf_0 {E : fxE} (hW : fx_Wt E) (a0 : Nat) (x1 : Int) (M : fxM) (Q : Option fxV → fxM → Prop) (hk0 : kd E a0 = 1) (h : (-2147483648 ≤ x1 ∧ x1 < 2147483648) ∧ ((x1 < (0 : Int) → Q (some (.inl 0)) M) ∧ (¬ x1 < (0 : Int) → (-2147483648 ≤ (M a0 6) ∧ (M a0 6) < 2147483648) ∧ (((M a0 6) ≤ x1 → Q (some (.inl 0)) M) ∧ (¬ (M a0 6) ≤ x1 → (0 ≤ x1 ∧ x1 < 200) ∧ Q (some (.inl (M (rf E a0 3) (x1.toNat)))) M))))) : fx_At E m_X1_lossOf 0 [some (.inr a0), some (.inl x1)] [] M Q := by
  refine x_iload_n (pc := 0) dX1_lossOf_0 rfl rfl ?_
  obtain ⟨g1, h⟩ := h
  refine x_zlt (pc := 1) 21 dX1_lossOf_1 (by decide) g1 (fun hc => ?_) (fun hc => ?_)
  · replace h := h.1 hc
    refine x_iconst (pc := 21) dX1_lossOf_21 ?_
    exact x_iret (pc := 22) dX1_lossOf_22 (Or.inl rfl) h
  · replace h := h.2 hc
    refine x_iload_n (pc := 4) dX1_lossOf_4 rfl rfl ?_
    refine x_aload_n (pc := 5) dX1_lossOf_5 rfl rfl ?_
    refine x_geti (pc := 6) dX1_lossOf_6 f_RX1_31 hk0 ?_
    obtain ⟨g2, h⟩ := h
    refine x_cge (pc := 9) 21 dX1_lossOf_9 (by decide) ⟨g1, g2⟩ (fun hc => ?_) (fun hc => ?_)
    · replace h := h.1 hc
      refine x_iconst (pc := 21) dX1_lossOf_21 ?_
      exact x_iret (pc := 22) dX1_lossOf_22 (Or.inl rfl) h
    · replace h := h.2 hc
      refine x_aload_n (pc := 12) dX1_lossOf_12 rfl rfl ?_
      refine x_getr (pc := 13) dX1_lossOf_13 f_RX1_21 hk0 ?_
      refine x_iload_n (pc := 16) dX1_lossOf_16 rfl rfl ?_
      obtain ⟨g3, h⟩ := h
      refine x_iald (pc := 17) dX1_lossOf_17 (wk_1_3 hW hk0) (wl_1_3 hW hk0) g3 ?_
      refine x_goto (pc := 18) 22 dX1_lossOf_18 (by decide) ?_
      exact x_iret (pc := 22) dX1_lossOf_22 (Or.inl rfl) h
theorem dX10_of_0 : decode cX10_of 0 = .ok (.aload_n 0, 1) := by decide +kernel
theorem dX10_of_1 : decode cX10_of 1 = .ok (.getfield 45, 3) := by decide +kernel
theorem dX10_of_4 : decode cX10_of 4 = .ok (.bipush 7, 2) := by decide +kernel
theorem dX10_of_6 : decode cX10_of 6 = .ok (.iload_n 1, 1) := by decide +kernel
theorem dX10_of_7 : decode cX10_of 7 = .ok (.imul, 1) := by decide +kernel
theorem dX10_of_8 : decode cX10_of 8 = .ok (.iload_n 2, 1) := by decide +kernel
theorem dX10_of_9 : decode cX10_of 9 = .ok (.iadd, 1) := by decide +kernel
theorem dX10_of_10 : decode cX10_of 10 = .ok (.iaload, 1) := by decide +kernel
theorem dX10_of_11 : decode cX10_of 11 = .ok (.ireturn, 1) := by decide +kernel
set_option maxRecDepth 100000 in
theorem b_X10_of_0 {E : fxE} (hW : fx_Wt E) (a0 : Nat) (x1 : Int) (x2 : Int) (M : fxM) (Q : Option fxV → fxM → Prop) (hk0 : kd E a0 = 10) (h : (0 ≤ ((7 * x1) + x2) ∧ ((7 * x1) + x2) < 2814) ∧ Q (some (.inl (M (rf E a0 15) (((7 * x1) + x2).toNat)))) M) : fx_At E m_X10_of 0 [some (.inr a0), some (.inl x1), some (.inl x2)] [] M Q := by
  refine x_aload_n (pc := 0) dX10_of_0 rfl rfl ?_
  refine x_getr (pc := 1) dX10_of_1 f_RX10_45 hk0 ?_
  refine x_bipush (pc := 4) dX10_of_4 (by decide +kernel) ?_
  refine x_iload_n (pc := 6) dX10_of_6 rfl rfl ?_
  refine x_imul (pc := 7) dX10_of_7 ?_
  refine x_iload_n (pc := 8) dX10_of_8 rfl rfl ?_
  refine x_iadd (pc := 9) dX10_of_9 ?_
  obtain ⟨g1, h⟩ := h
  refine x_iald (pc := 10) dX10_of_10 (wk_10_15 hW hk0) (wl_10_15 hW hk0) g1 ?_
  exact x_iret (pc := 11) dX10_of_11 (Or.inl rfl) h
theorem dX10_deviation_0 : decode cX10_deviation 0 = .ok (.aload_n 0, 1) := by decide +kernel
theorem dX10_deviation_1 : decode cX10_deviation 1 = .ok (.getfield 39, 3) := by decide +kernel
theorem dX10_deviation_4 : decode cX10_deviation 4 = .ok (.iload_n 1, 1) := by decide +kernel
theorem dX10_deviation_5 : decode cX10_deviation 5 = .ok (.iaload, 1) := by decide +kernel
theorem dX10_deviation_6 : decode cX10_deviation 6 = .ok (.aload_n 0, 1) := by decide +kernel
theorem dX10_deviation_7 : decode cX10_deviation 7 = .ok (.getfield 39, 3) := by decide +kernel
theorem dX10_deviation_10 : decode cX10_deviation 10 = .ok (.iload_n 1, 1) := by decide +kernel
theorem dX10_deviation_11 : decode cX10_deviation 11 = .ok (.iconst 1, 1) := by decide +kernel
theorem dX10_deviation_12 : decode cX10_deviation 12 = .ok (.isub, 1) := by decide +kernel
theorem dX10_deviation_13 : decode cX10_deviation 13 = .ok (.iaload, 1) := by decide +kernel
theorem dX10_deviation_14 : decode cX10_deviation 14 = .ok (.isub, 1) := by decide +kernel
theorem dX10_deviation_15 : decode cX10_deviation 15 = .ok (.aload_n 0, 1) := by decide +kernel
theorem dX10_deviation_16 : decode cX10_deviation 16 = .ok (.getfield 7, 3) := by decide +kernel
theorem dX10_deviation_19 : decode cX10_deviation 19 = .ok (.bipush 58, 2) := by decide +kernel
theorem dX10_deviation_21 : decode cX10_deviation 21 = .ok (.iaload, 1) := by decide +kernel
theorem dX10_deviation_22 : decode cX10_deviation 22 = .ok (.iadd, 1) := by decide +kernel
theorem dX10_deviation_23 : decode cX10_deviation 23 = .ok (.ireturn, 1) := by decide +kernel
set_option maxRecDepth 100000 in
theorem b_X10_deviation_0 {E : fxE} (hW : fx_Wt E) (a0 : Nat) (x1 : Int) (M : fxM) (Q : Option fxV → fxM → Prop) (hk0 : kd E a0 = 10) (h : (0 ≤ x1 ∧ x1 < 401) ∧ (0 ≤ (x1 - 1) ∧ (x1 - 1) < 401) ∧ Q (some (.inl (((M (rf E a0 13) (x1.toNat)) - (M (rf E a0 13) ((x1 - 1).toNat))) + (M (rf E a0 0) 58)))) M) : fx_At E m_X10_deviation 0 [some (.inr a0), some (.inl x1)] [] M Q := by
  refine x_aload_n (pc := 0) dX10_deviation_0 rfl rfl ?_
  refine x_getr (pc := 1) dX10_deviation_1 f_RX10_39 hk0 ?_
  refine x_iload_n (pc := 4) dX10_deviation_4 rfl rfl ?_
  obtain ⟨g1, h⟩ := h
  refine x_iald (pc := 5) dX10_deviation_5 (wk_10_13 hW hk0) (wl_10_13 hW hk0) g1 ?_
  refine x_aload_n (pc := 6) dX10_deviation_6 rfl rfl ?_
  refine x_getr (pc := 7) dX10_deviation_7 f_RX10_39 hk0 ?_
  refine x_iload_n (pc := 10) dX10_deviation_10 rfl rfl ?_
  refine x_iconst (pc := 11) dX10_deviation_11 ?_
  refine x_isub (pc := 12) dX10_deviation_12 ?_
  obtain ⟨g2, h⟩ := h
  refine x_iald (pc := 13) dX10_deviation_13 (wk_10_13 hW hk0) (wl_10_13 hW hk0) g2 ?_
  refine x_isub (pc := 14) dX10_deviation_14 ?_
  refine x_aload_n (pc := 15) dX10_deviation_15 rfl rfl ?_
  refine x_getr (pc := 16) dX10_deviation_16 f_RX10_7 hk0 ?_
  refine x_bipush (pc := 19) dX10_deviation_19 (by decide +kernel) ?_
  refine x_iald (pc := 21) dX10_deviation_21 (wk_10_0 hW hk0) (wl_10_0 hW hk0) ⟨by decide, by decide⟩ ?_
  refine x_iadd (pc := 22) dX10_deviation_22 ?_
  exact x_iret (pc := 23) dX10_deviation_23 (Or.inl rfl) h
theorem dX10_scattered_0 : decode cX10_scattered 0 = .ok (.sipush 30000, 3) := by decide +kernel
theorem dX10_scattered_3 : decode cX10_scattered 3 = .ok (.sipush 300, 3) := by decide +kernel
theorem dX10_scattered_6 : decode cX10_scattered 6 = .ok (.iload_n 1, 1) := by decide +kernel
theorem dX10_scattered_7 : decode cX10_scattered 7 = .ok (.imul, 1) := by decide +kernel
theorem dX10_scattered_8 : decode cX10_scattered 8 = .ok (.iadd, 1) := by decide +kernel
theorem dX10_scattered_9 : decode cX10_scattered 9 = .ok (.aload_n 0, 1) := by decide +kernel
theorem dX10_scattered_10 : decode cX10_scattered 10 = .ok (.getfield 33, 3) := by decide +kernel
theorem dX10_scattered_13 : decode cX10_scattered 13 = .ok (.iload_n 2, 1) := by decide +kernel
theorem dX10_scattered_14 : decode cX10_scattered 14 = .ok (.iaload, 1) := by decide +kernel
theorem dX10_scattered_15 : decode cX10_scattered 15 = .ok (.iadd, 1) := by decide +kernel
theorem dX10_scattered_16 : decode cX10_scattered 16 = .ok (.aload_n 0, 1) := by decide +kernel
theorem dX10_scattered_17 : decode cX10_scattered 17 = .ok (.getfield 30, 3) := by decide +kernel
theorem dX10_scattered_20 : decode cX10_scattered 20 = .ok (.iload_n 2, 1) := by decide +kernel
theorem dX10_scattered_21 : decode cX10_scattered 21 = .ok (.iaload, 1) := by decide +kernel
theorem dX10_scattered_22 : decode cX10_scattered 22 = .ok (.isub, 1) := by decide +kernel
theorem dX10_scattered_23 : decode cX10_scattered 23 = .ok (.ireturn, 1) := by decide +kernel
set_option maxRecDepth 100000 in
theorem b_X10_scattered_0 {E : fxE} (hW : fx_Wt E) (a0 : Nat) (x1 : Int) (x2 : Int) (M : fxM) (Q : Option fxV → fxM → Prop) (hk0 : kd E a0 = 10) (h : (0 ≤ x2 ∧ x2 < 300) ∧ (0 ≤ x2 ∧ x2 < 301) ∧ Q (some (.inl (((30000 + (300 * x1)) + (M (rf E a0 10) (x2.toNat))) - (M (rf E a0 9) (x2.toNat))))) M) : fx_At E m_X10_scattered 0 [some (.inr a0), some (.inl x1), some (.inl x2)] [] M Q := by
  refine x_sipush (pc := 0) dX10_scattered_0 (by decide +kernel) ?_
  refine x_sipush (pc := 3) dX10_scattered_3 (by decide +kernel) ?_
  refine x_iload_n (pc := 6) dX10_scattered_6 rfl rfl ?_
  refine x_imul (pc := 7) dX10_scattered_7 ?_
  refine x_iadd (pc := 8) dX10_scattered_8 ?_
  refine x_aload_n (pc := 9) dX10_scattered_9 rfl rfl ?_
  refine x_getr (pc := 10) dX10_scattered_10 f_RX10_33 hk0 ?_
  refine x_iload_n (pc := 13) dX10_scattered_13 rfl rfl ?_
  obtain ⟨g1, h⟩ := h
  refine x_iald (pc := 14) dX10_scattered_14 (wk_10_10 hW hk0) (wl_10_10 hW hk0) g1 ?_
  refine x_iadd (pc := 15) dX10_scattered_15 ?_
  refine x_aload_n (pc := 16) dX10_scattered_16 rfl rfl ?_
  refine x_getr (pc := 17) dX10_scattered_17 f_RX10_30 hk0 ?_
  refine x_iload_n (pc := 20) dX10_scattered_20 rfl rfl ?_
  obtain ⟨g2, h⟩ := h
  refine x_iald (pc := 21) dX10_scattered_21 (wk_10_9 hW hk0) (wl_10_9 hW hk0) g2 ?_
  refine x_isub (pc := 22) dX10_scattered_22 ?_
  exact x_iret (pc := 23) dX10_scattered_23 (Or.inl rfl) h
theorem dX10_isWrong_0 : decode cX10_isWrong 0 = .ok (.aload_n 0, 1) := by decide +kernel
theorem dX10_isWrong_1 : decode cX10_isWrong 1 = .ok (.getfield 197, 3) := by decide +kernel
theorem dX10_isWrong_4 : decode cX10_isWrong 4 = .ok (.ldc 23, 2) := by decide +kernel
theorem dX10_isWrong_6 : decode cX10_isWrong 6 = .ok (.if_icmp .eq 7, 3) := by decide +kernel
theorem dX10_isWrong_9 : decode cX10_isWrong 9 = .ok (.iconst 1, 1) := by decide +kernel
theorem dX10_isWrong_10 : decode cX10_isWrong 10 = .ok (.goto 4, 3) := by decide +kernel
theorem dX10_isWrong_13 : decode cX10_isWrong 13 = .ok (.iconst 0, 1) := by decide +kernel
theorem dX10_isWrong_14 : decode cX10_isWrong 14 = .ok (.ireturn, 1) := by decide +kernel
set_option maxRecDepth 100000 in
theorem b_X10_isWrong_0 {E : fxE} (hW : fx_Wt E) (a0 : Nat) (M : fxM) (Q : Option fxV → fxM → Prop) (hk0 : kd E a0 = 10) (h : (-2147483648 ≤ (M a0 22) ∧ (M a0 22) < 2147483648) ∧ (((M a0 22) = (-1000005 : Int) → Q (some (.inl 0)) M) ∧ (¬ (M a0 22) = (-1000005 : Int) → Q (some (.inl 1)) M))) : fx_At E m_X10_isWrong 0 [some (.inr a0)] [] M Q := by
  refine x_aload_n (pc := 0) dX10_isWrong_0 rfl rfl ?_
  refine x_geti (pc := 1) dX10_isWrong_1 f_RX10_197 hk0 ?_
  refine x_ldc (pc := 4) (n := -1000005) dX10_isWrong_4 k_RX10_23 rfl ?_
  obtain ⟨g1, h⟩ := h
  refine x_ceq (pc := 6) 13 dX10_isWrong_6 (by decide) ⟨g1, ⟨by decide, by decide⟩⟩ (fun hc => ?_) (fun hc => ?_)
  · replace h := h.1 hc
    refine x_iconst (pc := 13) dX10_isWrong_13 ?_
    exact x_iret (pc := 14) dX10_isWrong_14 (Or.inr ⟨rfl, by decide⟩) h
  · replace h := h.2 hc
    refine x_iconst (pc := 9) dX10_isWrong_9 ?_
    refine x_goto (pc := 10) 14 dX10_isWrong_10 (by decide) ?_
    exact x_iret (pc := 14) dX10_isWrong_14 (Or.inr ⟨rfl, by decide⟩) h
theorem dX6_codeAt_0 : decode cX6_codeAt 0 = .ok (.iload_n 1, 1) := by decide +kernel
theorem dX6_codeAt_1 : decode cX6_codeAt 1 = .ok (.ifCond .lt 29, 3) := by decide +kernel
theorem dX6_codeAt_4 : decode cX6_codeAt 4 = .ok (.iload_n 1, 1) := by decide +kernel
theorem dX6_codeAt_5 : decode cX6_codeAt 5 = .ok (.aload_n 0, 1) := by decide +kernel
theorem dX6_codeAt_6 : decode cX6_codeAt 6 = .ok (.getfield 15, 3) := by decide +kernel
theorem dX6_codeAt_9 : decode cX6_codeAt 9 = .ok (.if_icmp .ge 21, 3) := by decide +kernel
theorem dX6_codeAt_12 : decode cX6_codeAt 12 = .ok (.iload_n 1, 1) := by decide +kernel
theorem dX6_codeAt_13 : decode cX6_codeAt 13 = .ok (.aload_n 0, 1) := by decide +kernel
theorem dX6_codeAt_14 : decode cX6_codeAt 14 = .ok (.getfield 9, 3) := by decide +kernel
theorem dX6_codeAt_17 : decode cX6_codeAt 17 = .ok (.arraylength, 1) := by decide +kernel
theorem dX6_codeAt_18 : decode cX6_codeAt 18 = .ok (.if_icmp .ge 12, 3) := by decide +kernel
theorem dX6_codeAt_21 : decode cX6_codeAt 21 = .ok (.aload_n 0, 1) := by decide +kernel
theorem dX6_codeAt_22 : decode cX6_codeAt 22 = .ok (.getfield 9, 3) := by decide +kernel
theorem dX6_codeAt_25 : decode cX6_codeAt 25 = .ok (.iload_n 1, 1) := by decide +kernel
theorem dX6_codeAt_26 : decode cX6_codeAt 26 = .ok (.iaload, 1) := by decide +kernel
theorem dX6_codeAt_27 : decode cX6_codeAt 27 = .ok (.goto 4, 3) := by decide +kernel
theorem dX6_codeAt_30 : decode cX6_codeAt 30 = .ok (.iconst 0, 1) := by decide +kernel
theorem dX6_codeAt_31 : decode cX6_codeAt 31 = .ok (.ireturn, 1) := by decide +kernel
set_option maxRecDepth 100000 in
theorem b_X6_codeAt_0 {E : fxE} (hW : fx_Wt E) (a0 : Nat) (x1 : Int) (M : fxM) (Q : Option fxV → fxM → Prop) (hk0 : kd E a0 = 6) (h : (-2147483648 ≤ x1 ∧ x1 < 2147483648) ∧ ((x1 < (0 : Int) → Q (some (.inl 0)) M) ∧ (¬ x1 < (0 : Int) → (-2147483648 ≤ (M a0 1) ∧ (M a0 1) < 2147483648) ∧ (((M a0 1) ≤ x1 → Q (some (.inl 0)) M) ∧ (¬ (M a0 1) ≤ x1 → (((120 : Int) ≤ x1 → Q (some (.inl 0)) M) ∧ (¬ (120 : Int) ≤ x1 → (0 ≤ x1 ∧ x1 < 120) ∧ Q (some (.inl (M (rf E a0 0) (x1.toNat)))) M))))))) : fx_At E m_X6_codeAt 0 [some (.inr a0), some (.inl x1)] [] M Q := by
  refine x_iload_n (pc := 0) dX6_codeAt_0 rfl rfl ?_
  obtain ⟨g1, h⟩ := h
  refine x_zlt (pc := 1) 30 dX6_codeAt_1 (by decide) g1 (fun hc => ?_) (fun hc => ?_)
  · replace h := h.1 hc
    refine x_iconst (pc := 30) dX6_codeAt_30 ?_
    exact x_iret (pc := 31) dX6_codeAt_31 (Or.inl rfl) h
  · replace h := h.2 hc
    refine x_iload_n (pc := 4) dX6_codeAt_4 rfl rfl ?_
    refine x_aload_n (pc := 5) dX6_codeAt_5 rfl rfl ?_
    refine x_geti (pc := 6) dX6_codeAt_6 f_RX6_15 hk0 ?_
    obtain ⟨g2, h⟩ := h
    refine x_cge (pc := 9) 30 dX6_codeAt_9 (by decide) ⟨g1, g2⟩ (fun hc => ?_) (fun hc => ?_)
    · replace h := h.1 hc
      refine x_iconst (pc := 30) dX6_codeAt_30 ?_
      exact x_iret (pc := 31) dX6_codeAt_31 (Or.inl rfl) h
    · replace h := h.2 hc
      refine x_iload_n (pc := 12) dX6_codeAt_12 rfl rfl ?_
      refine x_aload_n (pc := 13) dX6_codeAt_13 rfl rfl ?_
      refine x_getr (pc := 14) dX6_codeAt_14 f_RX6_9 hk0 ?_
      refine x_alen (pc := 17) dX6_codeAt_17 (wk_6_0 hW hk0) (by decide) (by decide) (wl_6_0 hW hk0) ?_
      refine x_cge (pc := 18) 30 dX6_codeAt_18 (by decide) ⟨g1, ⟨by decide, by decide⟩⟩ (fun hc => ?_) (fun hc => ?_)
      · replace h := h.1 hc
        refine x_iconst (pc := 30) dX6_codeAt_30 ?_
        exact x_iret (pc := 31) dX6_codeAt_31 (Or.inl rfl) h
      · replace h := h.2 hc
        refine x_aload_n (pc := 21) dX6_codeAt_21 rfl rfl ?_
        refine x_getr (pc := 22) dX6_codeAt_22 f_RX6_9 hk0 ?_
        refine x_iload_n (pc := 25) dX6_codeAt_25 rfl rfl ?_
        obtain ⟨g3, h⟩ := h
        refine x_iald (pc := 26) dX6_codeAt_26 (wk_6_0 hW hk0) (wl_6_0 hW hk0) g3 ?_
        refine x_goto (pc := 27) 31 dX6_codeAt_27 (by decide) ?_
        exact x_iret (pc := 31) dX6_codeAt_31 (Or.inl rfl) h
theorem dX2_placeOfJoint_0 : decode cX2_placeOfJoint 0 = .ok (.iconst 0, 1) := by decide +kernel
theorem dX2_placeOfJoint_1 : decode cX2_placeOfJoint 1 = .ok (.istore_n 2, 1) := by decide +kernel
theorem dX2_placeOfJoint_2 : decode cX2_placeOfJoint 2 = .ok (.iconst 0, 1) := by decide +kernel
theorem dX2_placeOfJoint_3 : decode cX2_placeOfJoint 3 = .ok (.istore_n 3, 1) := by decide +kernel
theorem dX2_placeOfJoint_4 : decode cX2_placeOfJoint 4 = .ok (.iload_n 3, 1) := by decide +kernel
theorem dX2_placeOfJoint_5 : decode cX2_placeOfJoint 5 = .ok (.iload_n 1, 1) := by decide +kernel
theorem dX2_placeOfJoint_6 : decode cX2_placeOfJoint 6 = .ok (.if_icmp .ge 26, 3) := by decide +kernel
theorem dX2_placeOfJoint_9 : decode cX2_placeOfJoint 9 = .ok (.iload_n 3, 1) := by decide +kernel
theorem dX2_placeOfJoint_10 : decode cX2_placeOfJoint 10 = .ok (.aload_n 0, 1) := by decide +kernel
theorem dX2_placeOfJoint_11 : decode cX2_placeOfJoint 11 = .ok (.getfield 21, 3) := by decide +kernel
theorem dX2_placeOfJoint_14 : decode cX2_placeOfJoint 14 = .ok (.if_icmp .ge 18, 3) := by decide +kernel
theorem dX2_placeOfJoint_17 : decode cX2_placeOfJoint 17 = .ok (.iload_n 2, 1) := by decide +kernel
theorem dX2_placeOfJoint_18 : decode cX2_placeOfJoint 18 = .ok (.aload_n 0, 1) := by decide +kernel
theorem dX2_placeOfJoint_19 : decode cX2_placeOfJoint 19 = .ok (.getfield 9, 3) := by decide +kernel
theorem dX2_placeOfJoint_22 : decode cX2_placeOfJoint 22 = .ok (.iload_n 3, 1) := by decide +kernel
theorem dX2_placeOfJoint_23 : decode cX2_placeOfJoint 23 = .ok (.iaload, 1) := by decide +kernel
theorem dX2_placeOfJoint_24 : decode cX2_placeOfJoint 24 = .ok (.iadd, 1) := by decide +kernel
theorem dX2_placeOfJoint_25 : decode cX2_placeOfJoint 25 = .ok (.istore_n 2, 1) := by decide +kernel
theorem dX2_placeOfJoint_26 : decode cX2_placeOfJoint 26 = .ok (.iinc 3 1, 3) := by decide +kernel
theorem dX2_placeOfJoint_29 : decode cX2_placeOfJoint 29 = .ok (.goto (-25), 3) := by decide +kernel
theorem dX2_placeOfJoint_32 : decode cX2_placeOfJoint 32 = .ok (.iload_n 2, 1) := by decide +kernel
theorem dX2_placeOfJoint_33 : decode cX2_placeOfJoint 33 = .ok (.ireturn, 1) := by decide +kernel
set_option maxRecDepth 100000 in
theorem b_X2_placeOfJoint_0 {E : fxE} (hW : fx_Wt E) (a0 : Nat) (x1 : Int) (M : fxM) (Q : Option fxV → fxM → Prop) (hk0 : kd E a0 = 2) (h : fx_At E m_X2_placeOfJoint 4 [some (.inr a0), some (.inl x1), some (.inl 0), some (.inl 0)] [] M Q) : fx_At E m_X2_placeOfJoint 0 [some (.inr a0), some (.inl x1), none, none] [] M Q := by
  refine x_iconst (pc := 0) dX2_placeOfJoint_0 ?_
  refine x_istore_n (pc := 1) (lv' := [some (.inr a0), some (.inl x1), some (.inl 0), none]) dX2_placeOfJoint_1 rfl (by decide) rfl ?_
  refine x_iconst (pc := 2) dX2_placeOfJoint_2 ?_
  refine x_istore_n (pc := 3) (lv' := [some (.inr a0), some (.inl x1), some (.inl 0), some (.inl 0)]) dX2_placeOfJoint_3 rfl (by decide) rfl ?_
  exact h
set_option maxRecDepth 100000 in
theorem b_X2_placeOfJoint_4 {E : fxE} (hW : fx_Wt E) (a0 : Nat) (x1 : Int) (x2 : Int) (x3 : Int) (M : fxM) (Q : Option fxV → fxM → Prop) (hk0 : kd E a0 = 2) (h : (-2147483648 ≤ x3 ∧ x3 < 2147483648) ∧ (-2147483648 ≤ x1 ∧ x1 < 2147483648) ∧ ((x1 ≤ x3 → Q (some (.inl x2)) M) ∧ (¬ x1 ≤ x3 → (-2147483648 ≤ (M a0 3) ∧ (M a0 3) < 2147483648) ∧ (((M a0 3) ≤ x3 → Q (some (.inl x2)) M) ∧ (¬ (M a0 3) ≤ x3 → (0 ≤ x3 ∧ x3 < 8) ∧ fx_At E m_X2_placeOfJoint 4 [some (.inr a0), some (.inl x1), some (.inl (x2 + (M (rf E a0 0) (x3.toNat)))), some (.inl (x3 + 1))] [] M Q))))) : fx_At E m_X2_placeOfJoint 4 [some (.inr a0), some (.inl x1), some (.inl x2), some (.inl x3)] [] M Q := by
  refine x_iload_n (pc := 4) dX2_placeOfJoint_4 rfl rfl ?_
  refine x_iload_n (pc := 5) dX2_placeOfJoint_5 rfl rfl ?_
  obtain ⟨g1, h⟩ := h
  obtain ⟨g2, h⟩ := h
  refine x_cge (pc := 6) 32 dX2_placeOfJoint_6 (by decide) ⟨g1, g2⟩ (fun hc => ?_) (fun hc => ?_)
  · replace h := h.1 hc
    refine x_iload_n (pc := 32) dX2_placeOfJoint_32 rfl rfl ?_
    exact x_iret (pc := 33) dX2_placeOfJoint_33 (Or.inl rfl) h
  · replace h := h.2 hc
    refine x_iload_n (pc := 9) dX2_placeOfJoint_9 rfl rfl ?_
    refine x_aload_n (pc := 10) dX2_placeOfJoint_10 rfl rfl ?_
    refine x_geti (pc := 11) dX2_placeOfJoint_11 f_RX2_21 hk0 ?_
    obtain ⟨g3, h⟩ := h
    refine x_cge (pc := 14) 32 dX2_placeOfJoint_14 (by decide) ⟨g1, g3⟩ (fun hc => ?_) (fun hc => ?_)
    · replace h := h.1 hc
      refine x_iload_n (pc := 32) dX2_placeOfJoint_32 rfl rfl ?_
      exact x_iret (pc := 33) dX2_placeOfJoint_33 (Or.inl rfl) h
    · replace h := h.2 hc
      refine x_iload_n (pc := 17) dX2_placeOfJoint_17 rfl rfl ?_
      refine x_aload_n (pc := 18) dX2_placeOfJoint_18 rfl rfl ?_
      refine x_getr (pc := 19) dX2_placeOfJoint_19 f_RX2_9 hk0 ?_
      refine x_iload_n (pc := 22) dX2_placeOfJoint_22 rfl rfl ?_
      obtain ⟨g4, h⟩ := h
      refine x_iald (pc := 23) dX2_placeOfJoint_23 (wk_2_0 hW hk0) (wl_2_0 hW hk0) g4 ?_
      refine x_iadd (pc := 24) dX2_placeOfJoint_24 ?_
      refine x_istore_n (pc := 25) (lv' := [some (.inr a0), some (.inl x1), some (.inl (x2 + (M (rf E a0 0) (x3.toNat)))), some (.inl x3)]) dX2_placeOfJoint_25 rfl (by decide) rfl ?_
      refine x_iinc (pc := 26) (lv' := [some (.inr a0), some (.inl x1), some (.inl (x2 + (M (rf E a0 0) (x3.toNat)))), some (.inl (x3 + 1))]) dX2_placeOfJoint_26 rfl (by decide) rfl ?_
      refine x_goto (pc := 29) 4 dX2_placeOfJoint_29 (by decide) ?_
      exact h
theorem dX10_placeOf_0 : decode cX10_placeOf 0 = .ok (.iconst 0, 1) := by decide +kernel
theorem dX10_placeOf_1 : decode cX10_placeOf 1 = .ok (.istore_n 2, 1) := by decide +kernel
theorem dX10_placeOf_2 : decode cX10_placeOf 2 = .ok (.iconst 0, 1) := by decide +kernel
theorem dX10_placeOf_3 : decode cX10_placeOf 3 = .ok (.istore_n 3, 1) := by decide +kernel
theorem dX10_placeOf_4 : decode cX10_placeOf 4 = .ok (.iload_n 3, 1) := by decide +kernel
theorem dX10_placeOf_5 : decode cX10_placeOf 5 = .ok (.iload_n 1, 1) := by decide +kernel
theorem dX10_placeOf_6 : decode cX10_placeOf 6 = .ok (.if_icmp .ge 22, 3) := by decide +kernel
theorem dX10_placeOf_9 : decode cX10_placeOf 9 = .ok (.iload_n 2, 1) := by decide +kernel
theorem dX10_placeOf_10 : decode cX10_placeOf 10 = .ok (.aload_n 0, 1) := by decide +kernel
theorem dX10_placeOf_11 : decode cX10_placeOf 11 = .ok (.getfield 7, 3) := by decide +kernel
theorem dX10_placeOf_14 : decode cX10_placeOf 14 = .ok (.iconst 1, 1) := by decide +kernel
theorem dX10_placeOf_15 : decode cX10_placeOf 15 = .ok (.iconst 3, 1) := by decide +kernel
theorem dX10_placeOf_16 : decode cX10_placeOf 16 = .ok (.iload_n 3, 1) := by decide +kernel
theorem dX10_placeOf_17 : decode cX10_placeOf 17 = .ok (.imul, 1) := by decide +kernel
theorem dX10_placeOf_18 : decode cX10_placeOf 18 = .ok (.iadd, 1) := by decide +kernel
theorem dX10_placeOf_19 : decode cX10_placeOf 19 = .ok (.iaload, 1) := by decide +kernel
theorem dX10_placeOf_20 : decode cX10_placeOf 20 = .ok (.iadd, 1) := by decide +kernel
theorem dX10_placeOf_21 : decode cX10_placeOf 21 = .ok (.istore_n 2, 1) := by decide +kernel
theorem dX10_placeOf_22 : decode cX10_placeOf 22 = .ok (.iinc 3 1, 3) := by decide +kernel
theorem dX10_placeOf_25 : decode cX10_placeOf 25 = .ok (.goto (-21), 3) := by decide +kernel
theorem dX10_placeOf_28 : decode cX10_placeOf 28 = .ok (.iload_n 2, 1) := by decide +kernel
theorem dX10_placeOf_29 : decode cX10_placeOf 29 = .ok (.ireturn, 1) := by decide +kernel
set_option maxRecDepth 100000 in
theorem b_X10_placeOf_0 {E : fxE} (hW : fx_Wt E) (a0 : Nat) (x1 : Int) (M : fxM) (Q : Option fxV → fxM → Prop) (hk0 : kd E a0 = 10) (h : fx_At E m_X10_placeOf 4 [some (.inr a0), some (.inl x1), some (.inl 0), some (.inl 0)] [] M Q) : fx_At E m_X10_placeOf 0 [some (.inr a0), some (.inl x1), none, none] [] M Q := by
  refine x_iconst (pc := 0) dX10_placeOf_0 ?_
  refine x_istore_n (pc := 1) (lv' := [some (.inr a0), some (.inl x1), some (.inl 0), none]) dX10_placeOf_1 rfl (by decide) rfl ?_
  refine x_iconst (pc := 2) dX10_placeOf_2 ?_
  refine x_istore_n (pc := 3) (lv' := [some (.inr a0), some (.inl x1), some (.inl 0), some (.inl 0)]) dX10_placeOf_3 rfl (by decide) rfl ?_
  exact h
set_option maxRecDepth 100000 in
theorem b_X10_placeOf_4 {E : fxE} (hW : fx_Wt E) (a0 : Nat) (x1 : Int) (x2 : Int) (x3 : Int) (M : fxM) (Q : Option fxV → fxM → Prop) (hk0 : kd E a0 = 10) (h : (-2147483648 ≤ x3 ∧ x3 < 2147483648) ∧ (-2147483648 ≤ x1 ∧ x1 < 2147483648) ∧ ((x1 ≤ x3 → Q (some (.inl x2)) M) ∧ (¬ x1 ≤ x3 → (0 ≤ (1 + (3 * x3)) ∧ (1 + (3 * x3)) < 84) ∧ fx_At E m_X10_placeOf 4 [some (.inr a0), some (.inl x1), some (.inl (x2 + (M (rf E a0 0) ((1 + (3 * x3)).toNat)))), some (.inl (x3 + 1))] [] M Q))) : fx_At E m_X10_placeOf 4 [some (.inr a0), some (.inl x1), some (.inl x2), some (.inl x3)] [] M Q := by
  refine x_iload_n (pc := 4) dX10_placeOf_4 rfl rfl ?_
  refine x_iload_n (pc := 5) dX10_placeOf_5 rfl rfl ?_
  obtain ⟨g1, h⟩ := h
  obtain ⟨g2, h⟩ := h
  refine x_cge (pc := 6) 28 dX10_placeOf_6 (by decide) ⟨g1, g2⟩ (fun hc => ?_) (fun hc => ?_)
  · replace h := h.1 hc
    refine x_iload_n (pc := 28) dX10_placeOf_28 rfl rfl ?_
    exact x_iret (pc := 29) dX10_placeOf_29 (Or.inl rfl) h
  · replace h := h.2 hc
    refine x_iload_n (pc := 9) dX10_placeOf_9 rfl rfl ?_
    refine x_aload_n (pc := 10) dX10_placeOf_10 rfl rfl ?_
    refine x_getr (pc := 11) dX10_placeOf_11 f_RX10_7 hk0 ?_
    refine x_iconst (pc := 14) dX10_placeOf_14 ?_
    refine x_iconst (pc := 15) dX10_placeOf_15 ?_
    refine x_iload_n (pc := 16) dX10_placeOf_16 rfl rfl ?_
    refine x_imul (pc := 17) dX10_placeOf_17 ?_
    refine x_iadd (pc := 18) dX10_placeOf_18 ?_
    obtain ⟨g3, h⟩ := h
    refine x_iald (pc := 19) dX10_placeOf_19 (wk_10_0 hW hk0) (wl_10_0 hW hk0) g3 ?_
    refine x_iadd (pc := 20) dX10_placeOf_20 ?_
    refine x_istore_n (pc := 21) (lv' := [some (.inr a0), some (.inl x1), some (.inl (x2 + (M (rf E a0 0) ((1 + (3 * x3)).toNat)))), some (.inl x3)]) dX10_placeOf_21 rfl (by decide) rfl ?_
    refine x_iinc (pc := 22) (lv' := [some (.inr a0), some (.inl x1), some (.inl (x2 + (M (rf E a0 0) ((1 + (3 * x3)).toNat)))), some (.inl (x3 + 1))]) dX10_placeOf_22 rfl (by decide) rfl ?_
    refine x_goto (pc := 25) 4 dX10_placeOf_25 (by decide) ?_
    exact h
theorem dX9_copyRow_0 : decode cX9_copyRow 0 = .ok (.aload_n 0, 1) := by decide +kernel
theorem dX9_copyRow_1 : decode cX9_copyRow 1 = .ok (.iconst 0, 1) := by decide +kernel
theorem dX9_copyRow_2 : decode cX9_copyRow 2 = .ok (.aload_n 1, 1) := by decide +kernel
theorem dX9_copyRow_3 : decode cX9_copyRow 3 = .ok (.iconst 0, 1) := by decide +kernel
theorem dX9_copyRow_4 : decode cX9_copyRow 4 = .ok (.aload_n 0, 1) := by decide +kernel
theorem dX9_copyRow_5 : decode cX9_copyRow 5 = .ok (.arraylength, 1) := by decide +kernel
theorem dX9_copyRow_6 : decode cX9_copyRow 6 = .ok (.aload_n 1, 1) := by decide +kernel
theorem dX9_copyRow_7 : decode cX9_copyRow 7 = .ok (.arraylength, 1) := by decide +kernel
theorem dX9_copyRow_8 : decode cX9_copyRow 8 = .ok (.invokestatic 281, 3) := by decide +kernel
theorem dX9_copyRow_11 : decode cX9_copyRow 11 = .ok (.invokestatic 286, 3) := by decide +kernel
theorem dX9_copyRow_14 : decode cX9_copyRow 14 = .ok (.return_, 1) := by decide +kernel
set_option maxRecDepth 100000 in
theorem b_X9_copyRow_0 {E : fxE} (hW : fx_Wt E) (a0 : Nat) (a1 : Nat) (M : fxM) (Q : Option fxV → fxM → Prop) (hk0 : kd E a0 = 11) (hk1 : kd E a1 = 11) (h : (-2147483648 ≤ (ln E a0 : Int) ∧ (ln E a0 : Int) < 2147483648) ∧ (-2147483648 ≤ (ln E a1 : Int) ∧ (ln E a1 : Int) < 2147483648) ∧ (0 ≤ min (ln E a0 : Int) (ln E a1 : Int) ∧ min (ln E a0 : Int) (ln E a1 : Int) ≤ (ln E a0 : Int) ∧ min (ln E a0 : Int) (ln E a1 : Int) ≤ (ln E a1 : Int)) ∧ ∀ M4 : fxM, M4 = mcpy M a0 a1 (min (ln E a0 : Int) (ln E a1 : Int)) → Q none M4) : fx_At E m_X9_copyRow 0 [some (.inr a0), some (.inr a1)] [] M Q := by
  refine x_aload_n (pc := 0) dX9_copyRow_0 rfl rfl ?_
  refine x_iconst (pc := 1) dX9_copyRow_1 ?_
  refine x_aload_n (pc := 2) dX9_copyRow_2 rfl rfl ?_
  refine x_iconst (pc := 3) dX9_copyRow_3 ?_
  refine x_aload_n (pc := 4) dX9_copyRow_4 rfl rfl ?_
  refine x_alen (pc := 5) dX9_copyRow_5 hk0 (by decide) (by decide) rfl ?_
  refine x_aload_n (pc := 6) dX9_copyRow_6 rfl rfl ?_
  refine x_alen (pc := 7) dX9_copyRow_7 hk1 (by decide) (by decide) rfl ?_
  obtain ⟨g1, h⟩ := h
  obtain ⟨g2, h⟩ := h
  refine x_mmin (pc := 8) dX9_copyRow_8 c_RX9_281 ⟨Nat.le_of_ble_eq_true rfl, Nat.le_of_ble_eq_true rfl⟩ ⟨g1, g2⟩ ?_
  obtain ⟨g3, h⟩ := h
  refine x_copy (pc := 11) dX9_copyRow_11 k_copy hk0 hk1 rfl rfl g3 (by decide) (by decide +kernel) (fun M4 hM4 => ?_)
  replace h := h M4 hM4
  exact x_vret (pc := 14) dX9_copyRow_14 rfl h
theorem dX0_fibrePerThousand_0 : decode cX0_fibrePerThousand 0 = .ok (.sipush 1000, 3) := by decide +kernel
theorem dX0_fibrePerThousand_3 : decode cX0_fibrePerThousand 3 = .ok (.aload_n 0, 1) := by decide +kernel
theorem dX0_fibrePerThousand_4 : decode cX0_fibrePerThousand 4 = .ok (.getfield 22, 3) := by decide +kernel
theorem dX0_fibrePerThousand_7 : decode cX0_fibrePerThousand 7 = .ok (.iconst 0, 1) := by decide +kernel
theorem dX0_fibrePerThousand_8 : decode cX0_fibrePerThousand 8 = .ok (.invokestatic 29, 3) := by decide +kernel
theorem dX0_fibrePerThousand_11 : decode cX0_fibrePerThousand 11 = .ok (.iadd, 1) := by decide +kernel
theorem dX0_fibrePerThousand_12 : decode cX0_fibrePerThousand 12 = .ok (.ireturn, 1) := by decide +kernel
set_option maxRecDepth 100000 in
theorem b_X0_fibrePerThousand_0 {E : fxE} (hW : fx_Wt E) (a0 : Nat) (M : fxM) (Q : Option fxV → fxM → Prop) (hk0 : kd E a0 = 0) (h : (-2147483648 ≤ (M a0 3) ∧ (M a0 3) < 2147483648) ∧ Q (some (.inl (1000 + (max (M a0 3) (0))))) M) : fx_At E m_X0_fibrePerThousand 0 [some (.inr a0)] [] M Q := by
  refine x_sipush (pc := 0) dX0_fibrePerThousand_0 (by decide +kernel) ?_
  refine x_aload_n (pc := 3) dX0_fibrePerThousand_3 rfl rfl ?_
  refine x_geti (pc := 4) dX0_fibrePerThousand_4 f_RX0_22 hk0 ?_
  refine x_iconst (pc := 7) dX0_fibrePerThousand_7 ?_
  obtain ⟨g1, h⟩ := h
  refine x_mmax (pc := 8) dX0_fibrePerThousand_8 c_RX0_29 ⟨Nat.le_of_ble_eq_true rfl, Nat.le_of_ble_eq_true rfl⟩ ⟨g1, ⟨by decide, by decide⟩⟩ ?_
  refine x_iadd (pc := 11) dX0_fibrePerThousand_11 ?_
  exact x_iret (pc := 12) dX0_fibrePerThousand_12 (Or.inl rfl) h
