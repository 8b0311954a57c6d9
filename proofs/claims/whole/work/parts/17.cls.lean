theorem dX0_copyFrom_0 : decode cX0_copyFrom 0 = .ok (.aload_n 1, 1) := by decide +kernel
theorem dX0_copyFrom_1 : decode cX0_copyFrom 1 = .ok (.getfield 9, 3) := by decide +kernel
theorem dX0_copyFrom_4 : decode cX0_copyFrom 4 = .ok (.aload_n 0, 1) := by decide +kernel
theorem dX0_copyFrom_5 : decode cX0_copyFrom 5 = .ok (.getfield 9, 3) := by decide +kernel
theorem dX0_copyFrom_8 : decode cX0_copyFrom 8 = .ok (.invokestatic 25, 3) := by decide +kernel
theorem dX0_copyFrom_11 : decode cX0_copyFrom 11 = .ok (.aload_n 1, 1) := by decide +kernel
theorem dX0_copyFrom_12 : decode cX0_copyFrom 12 = .ok (.getfield 15, 3) := by decide +kernel
theorem dX0_copyFrom_15 : decode cX0_copyFrom 15 = .ok (.aload_n 0, 1) := by decide +kernel
theorem dX0_copyFrom_16 : decode cX0_copyFrom 16 = .ok (.getfield 15, 3) := by decide +kernel
theorem dX0_copyFrom_19 : decode cX0_copyFrom 19 = .ok (.invokestatic 25, 3) := by decide +kernel
theorem dX0_copyFrom_22 : decode cX0_copyFrom 22 = .ok (.aload_n 0, 1) := by decide +kernel
theorem dX0_copyFrom_23 : decode cX0_copyFrom 23 = .ok (.aload_n 1, 1) := by decide +kernel
theorem dX0_copyFrom_24 : decode cX0_copyFrom 24 = .ok (.getfield 18, 3) := by decide +kernel
theorem dX0_copyFrom_27 : decode cX0_copyFrom 27 = .ok (.putfield 18, 3) := by decide +kernel
theorem dX0_copyFrom_30 : decode cX0_copyFrom 30 = .ok (.aload_n 0, 1) := by decide +kernel
theorem dX0_copyFrom_31 : decode cX0_copyFrom 31 = .ok (.aload_n 1, 1) := by decide +kernel
theorem dX0_copyFrom_32 : decode cX0_copyFrom 32 = .ok (.getfield 22, 3) := by decide +kernel
theorem dX0_copyFrom_35 : decode cX0_copyFrom 35 = .ok (.putfield 22, 3) := by decide +kernel
theorem dX0_copyFrom_38 : decode cX0_copyFrom 38 = .ok (.return_, 1) := by decide +kernel
set_option maxRecDepth 100000 in
theorem b_X0_copyFrom_0 {E : fxE} (hW : fx_Wt E) (a0 : Nat) (a1 : Nat) (M : fxM) (Q : Option fxV → fxM → Prop) (hk0 : kd E a0 = 0) (hk1 : kd E a1 = 0) (h : ∃ R1 : fxM → Prop, CtV E m_X9_copyRow [.inr (rf E a1 0), .inr (rf E a0 0)] M R1 ∧ ∀ M1 : fxM, R1 M1 → ∃ R2 : fxM → Prop, CtV E m_X9_copyRow [.inr (rf E a1 1), .inr (rf E a0 1)] M1 R2 ∧ ∀ M2 : fxM, R2 M2 → ∀ M3 : fxM, M3 = mset M2 a0 2 (M2 a1 2) → ∀ M4 : fxM, M4 = mset M3 a0 3 (M3 a1 3) → Q none M4) : fx_At E m_X0_copyFrom 0 [some (.inr a0), some (.inr a1)] [] M Q := by
  refine x_aload_n (pc := 0) dX0_copyFrom_0 rfl rfl ?_
  refine x_getr (pc := 1) dX0_copyFrom_1 f_RX0_9 hk1 ?_
  refine x_aload_n (pc := 4) dX0_copyFrom_4 rfl rfl ?_
  refine x_getr (pc := 5) dX0_copyFrom_5 f_RX0_9 hk0 ?_
  obtain ⟨R1, hc1, h⟩ := h
  refine x_callN (pc := 8) (z := m_X9_copyRow) (as := [.inr (rf E a1 0), .inr (rf E a0 0)]) (rest := []) dX0_copyFrom_8 c_RX0_25 (by decide) rfl (Nat.le_of_ble_eq_true rfl) hc1 (fun r M1 hr => ?_)
  obtain ⟨rfl, hr⟩ := hr
  replace h := h M1 hr
  show fx_At E m_X0_copyFrom 11 [some (.inr a0), some (.inr a1)] [] M1 Q
  refine x_aload_n (pc := 11) dX0_copyFrom_11 rfl rfl ?_
  refine x_getr (pc := 12) dX0_copyFrom_12 f_RX0_15 hk1 ?_
  refine x_aload_n (pc := 15) dX0_copyFrom_15 rfl rfl ?_
  refine x_getr (pc := 16) dX0_copyFrom_16 f_RX0_15 hk0 ?_
  obtain ⟨R2, hc2, h⟩ := h
  refine x_callN (pc := 19) (z := m_X9_copyRow) (as := [.inr (rf E a1 1), .inr (rf E a0 1)]) (rest := []) dX0_copyFrom_19 c_RX0_25 (by decide) rfl (Nat.le_of_ble_eq_true rfl) hc2 (fun r M2 hr => ?_)
  obtain ⟨rfl, hr⟩ := hr
  replace h := h M2 hr
  show fx_At E m_X0_copyFrom 22 [some (.inr a0), some (.inr a1)] [] M2 Q
  refine x_aload_n (pc := 22) dX0_copyFrom_22 rfl rfl ?_
  refine x_aload_n (pc := 23) dX0_copyFrom_23 rfl rfl ?_
  refine x_geti (pc := 24) dX0_copyFrom_24 f_RX0_18 hk1 ?_
  refine x_puti (pc := 27) dX0_copyFrom_27 f_RX0_18 hk0 (fun M3 hM3 => ?_)
  replace h := h M3 hM3
  refine x_aload_n (pc := 30) dX0_copyFrom_30 rfl rfl ?_
  refine x_aload_n (pc := 31) dX0_copyFrom_31 rfl rfl ?_
  refine x_geti (pc := 32) dX0_copyFrom_32 f_RX0_22 hk1 ?_
  refine x_puti (pc := 35) dX0_copyFrom_35 f_RX0_22 hk0 (fun M4 hM4 => ?_)
  replace h := h M4 hM4
  exact x_vret (pc := 38) dX0_copyFrom_38 rfl h
theorem dX0_append_0 : decode cX0_append 0 = .ok (.aload_n 0, 1) := by decide +kernel
theorem dX0_append_1 : decode cX0_append 1 = .ok (.getfield 18, 3) := by decide +kernel
theorem dX0_append_4 : decode cX0_append 4 = .ok (.ifCond .lt 12, 3) := by decide +kernel
theorem dX0_append_7 : decode cX0_append 7 = .ok (.aload_n 0, 1) := by decide +kernel
theorem dX0_append_8 : decode cX0_append 8 = .ok (.getfield 18, 3) := by decide +kernel
theorem dX0_append_11 : decode cX0_append 11 = .ok (.bipush 10, 2) := by decide +kernel
theorem dX0_append_13 : decode cX0_append 13 = .ok (.if_icmp .lt 4, 3) := by decide +kernel
theorem dX0_append_16 : decode cX0_append 16 = .ok (.return_, 1) := by decide +kernel
theorem dX0_append_17 : decode cX0_append 17 = .ok (.aload_n 0, 1) := by decide +kernel
theorem dX0_append_18 : decode cX0_append 18 = .ok (.getfield 9, 3) := by decide +kernel
theorem dX0_append_21 : decode cX0_append 21 = .ok (.aload_n 0, 1) := by decide +kernel
theorem dX0_append_22 : decode cX0_append 22 = .ok (.getfield 18, 3) := by decide +kernel
theorem dX0_append_25 : decode cX0_append 25 = .ok (.iload_n 1, 1) := by decide +kernel
theorem dX0_append_26 : decode cX0_append 26 = .ok (.iastore, 1) := by decide +kernel
theorem dX0_append_27 : decode cX0_append 27 = .ok (.aload_n 0, 1) := by decide +kernel
theorem dX0_append_28 : decode cX0_append 28 = .ok (.getfield 15, 3) := by decide +kernel
theorem dX0_append_31 : decode cX0_append 31 = .ok (.aload_n 0, 1) := by decide +kernel
theorem dX0_append_32 : decode cX0_append 32 = .ok (.getfield 18, 3) := by decide +kernel
theorem dX0_append_35 : decode cX0_append 35 = .ok (.iload_n 2, 1) := by decide +kernel
theorem dX0_append_36 : decode cX0_append 36 = .ok (.iastore, 1) := by decide +kernel
theorem dX0_append_37 : decode cX0_append 37 = .ok (.aload_n 0, 1) := by decide +kernel
theorem dX0_append_38 : decode cX0_append 38 = .ok (.dup, 1) := by decide +kernel
theorem dX0_append_39 : decode cX0_append 39 = .ok (.getfield 18, 3) := by decide +kernel
theorem dX0_append_42 : decode cX0_append 42 = .ok (.iconst 1, 1) := by decide +kernel
theorem dX0_append_43 : decode cX0_append 43 = .ok (.iadd, 1) := by decide +kernel
theorem dX0_append_44 : decode cX0_append 44 = .ok (.putfield 18, 3) := by decide +kernel
theorem dX0_append_47 : decode cX0_append 47 = .ok (.return_, 1) := by decide +kernel
set_option maxRecDepth 100000 in
theorem b_X0_append_0 {E : fxE} (hW : fx_Wt E) (a0 : Nat) (x1 : Int) (x2 : Int) (M : fxM) (Q : Option fxV → fxM → Prop) (hk0 : kd E a0 = 0) (h : (-2147483648 ≤ (M a0 2) ∧ (M a0 2) < 2147483648) ∧ (((M a0 2) < (0 : Int) → Q none M) ∧ (¬ (M a0 2) < (0 : Int) → (((M a0 2) < (10 : Int) → (0 ≤ (M a0 2) ∧ (M a0 2) < 10) ∧ ∀ M3 : fxM, M3 = mset M (rf E a0 0) ((M a0 2).toNat) x1 → (0 ≤ (M3 a0 2) ∧ (M3 a0 2) < 10) ∧ ∀ M5 : fxM, M5 = mset M3 (rf E a0 1) ((M3 a0 2).toNat) x2 → ∀ M6 : fxM, M6 = mset M5 a0 2 ((M5 a0 2) + 1) → Q none M6) ∧ (¬ (M a0 2) < (10 : Int) → Q none M))))) : fx_At E m_X0_append 0 [some (.inr a0), some (.inl x1), some (.inl x2)] [] M Q := by
  refine x_aload_n (pc := 0) dX0_append_0 rfl rfl ?_
  refine x_geti (pc := 1) dX0_append_1 f_RX0_18 hk0 ?_
  obtain ⟨g1, h⟩ := h
  refine x_zlt (pc := 4) 16 dX0_append_4 (by decide) g1 (fun hc => ?_) (fun hc => ?_)
  · replace h := h.1 hc
    exact x_vret (pc := 16) dX0_append_16 rfl h
  · replace h := h.2 hc
    refine x_aload_n (pc := 7) dX0_append_7 rfl rfl ?_
    refine x_geti (pc := 8) dX0_append_8 f_RX0_18 hk0 ?_
    refine x_bipush (pc := 11) dX0_append_11 (by decide +kernel) ?_
    refine x_clt (pc := 13) 17 dX0_append_13 (by decide) ⟨g1, ⟨by decide, by decide⟩⟩ (fun hc => ?_) (fun hc => ?_)
    · replace h := h.1 hc
      refine x_aload_n (pc := 17) dX0_append_17 rfl rfl ?_
      refine x_getr (pc := 18) dX0_append_18 f_RX0_9 hk0 ?_
      refine x_aload_n (pc := 21) dX0_append_21 rfl rfl ?_
      refine x_geti (pc := 22) dX0_append_22 f_RX0_18 hk0 ?_
      refine x_iload_n (pc := 25) dX0_append_25 rfl rfl ?_
      obtain ⟨g2, h⟩ := h
      refine x_iast (pc := 26) dX0_append_26 (wk_0_0 hW hk0) (wl_0_0 hW hk0) g2 (fun M3 hM3 => ?_)
      replace h := h M3 hM3
      refine x_aload_n (pc := 27) dX0_append_27 rfl rfl ?_
      refine x_getr (pc := 28) dX0_append_28 f_RX0_15 hk0 ?_
      refine x_aload_n (pc := 31) dX0_append_31 rfl rfl ?_
      refine x_geti (pc := 32) dX0_append_32 f_RX0_18 hk0 ?_
      refine x_iload_n (pc := 35) dX0_append_35 rfl rfl ?_
      obtain ⟨g4, h⟩ := h
      refine x_iast (pc := 36) dX0_append_36 (wk_0_1 hW hk0) (wl_0_1 hW hk0) g4 (fun M5 hM5 => ?_)
      replace h := h M5 hM5
      refine x_aload_n (pc := 37) dX0_append_37 rfl rfl ?_
      refine x_dup (pc := 38) dX0_append_38 ?_
      refine x_geti (pc := 39) dX0_append_39 f_RX0_18 hk0 ?_
      refine x_iconst (pc := 42) dX0_append_42 ?_
      refine x_iadd (pc := 43) dX0_append_43 ?_
      refine x_puti (pc := 44) dX0_append_44 f_RX0_18 hk0 (fun M6 hM6 => ?_)
      replace h := h M6 hM6
      exact x_vret (pc := 47) dX0_append_47 rfl h
    · replace h := h.2 hc
      exact x_vret (pc := 16) dX0_append_16 rfl h
theorem dX0_runAfter_0 : decode cX0_runAfter 0 = .ok (.iload_n 1, 1) := by decide +kernel
theorem dX0_runAfter_1 : decode cX0_runAfter 1 = .ok (.ifCond .lt 13, 3) := by decide +kernel
theorem dX0_runAfter_4 : decode cX0_runAfter 4 = .ok (.iload_n 1, 1) := by decide +kernel
theorem dX0_runAfter_5 : decode cX0_runAfter 5 = .ok (.iconst 1, 1) := by decide +kernel
theorem dX0_runAfter_6 : decode cX0_runAfter 6 = .ok (.iadd, 1) := by decide +kernel
theorem dX0_runAfter_7 : decode cX0_runAfter 7 = .ok (.aload_n 0, 1) := by decide +kernel
theorem dX0_runAfter_8 : decode cX0_runAfter 8 = .ok (.getfield 18, 3) := by decide +kernel
theorem dX0_runAfter_11 : decode cX0_runAfter 11 = .ok (.if_icmp .lt 5, 3) := by decide +kernel
theorem dX0_runAfter_14 : decode cX0_runAfter 14 = .ok (.iconst 0, 1) := by decide +kernel
theorem dX0_runAfter_15 : decode cX0_runAfter 15 = .ok (.ireturn, 1) := by decide +kernel
theorem dX0_runAfter_16 : decode cX0_runAfter 16 = .ok (.aload_n 0, 1) := by decide +kernel
theorem dX0_runAfter_17 : decode cX0_runAfter 17 = .ok (.getfield 9, 3) := by decide +kernel
theorem dX0_runAfter_20 : decode cX0_runAfter 20 = .ok (.iload_n 1, 1) := by decide +kernel
theorem dX0_runAfter_21 : decode cX0_runAfter 21 = .ok (.iconst 1, 1) := by decide +kernel
theorem dX0_runAfter_22 : decode cX0_runAfter 22 = .ok (.iadd, 1) := by decide +kernel
theorem dX0_runAfter_23 : decode cX0_runAfter 23 = .ok (.iaload, 1) := by decide +kernel
theorem dX0_runAfter_24 : decode cX0_runAfter 24 = .ok (.aload_n 0, 1) := by decide +kernel
theorem dX0_runAfter_25 : decode cX0_runAfter 25 = .ok (.getfield 9, 3) := by decide +kernel
theorem dX0_runAfter_28 : decode cX0_runAfter 28 = .ok (.iload_n 1, 1) := by decide +kernel
theorem dX0_runAfter_29 : decode cX0_runAfter 29 = .ok (.iaload, 1) := by decide +kernel
theorem dX0_runAfter_30 : decode cX0_runAfter 30 = .ok (.isub, 1) := by decide +kernel
theorem dX0_runAfter_31 : decode cX0_runAfter 31 = .ok (.aload_n 0, 1) := by decide +kernel
theorem dX0_runAfter_32 : decode cX0_runAfter 32 = .ok (.invokevirtual 35, 3) := by decide +kernel
theorem dX0_runAfter_35 : decode cX0_runAfter 35 = .ok (.imul, 1) := by decide +kernel
theorem dX0_runAfter_36 : decode cX0_runAfter 36 = .ok (.sipush 1000, 3) := by decide +kernel
theorem dX0_runAfter_39 : decode cX0_runAfter 39 = .ok (.idiv, 1) := by decide +kernel
theorem dX0_runAfter_40 : decode cX0_runAfter 40 = .ok (.ireturn, 1) := by decide +kernel
set_option maxRecDepth 100000 in
theorem b_X0_runAfter_0 {E : fxE} (hW : fx_Wt E) (a0 : Nat) (x1 : Int) (M : fxM) (Q : Option fxV → fxM → Prop) (hk0 : kd E a0 = 0) (h : (-2147483648 ≤ x1 ∧ x1 < 2147483648) ∧ ((x1 < (0 : Int) → Q (some (.inl 0)) M) ∧ (¬ x1 < (0 : Int) → (-2147483648 ≤ (x1 + 1) ∧ (x1 + 1) < 2147483648) ∧ (-2147483648 ≤ (M a0 2) ∧ (M a0 2) < 2147483648) ∧ (((x1 + 1) < (M a0 2) → (0 ≤ (x1 + 1) ∧ (x1 + 1) < 10) ∧ (0 ≤ x1 ∧ x1 < 10) ∧ (0 ≤ M a0 3 ∧ M a0 3 < 1000000) ∧ (0 ≤ (((M (rf E a0 0) ((x1 + 1).toNat)) - (M (rf E a0 0) (x1.toNat))) * (1000 + M a0 3)) ∧ (((M (rf E a0 0) ((x1 + 1).toNat)) - (M (rf E a0 0) (x1.toNat))) * (1000 + M a0 3)) < 2147483648) ∧ Q (some (.inl ((((M (rf E a0 0) ((x1 + 1).toNat)) - (M (rf E a0 0) (x1.toNat))) * (1000 + M a0 3)) / 1000))) M) ∧ (¬ (x1 + 1) < (M a0 2) → Q (some (.inl 0)) M))))) : fx_At E m_X0_runAfter 0 [some (.inr a0), some (.inl x1)] [] M Q := by
  refine x_iload_n (pc := 0) dX0_runAfter_0 rfl rfl ?_
  obtain ⟨g1, h⟩ := h
  refine x_zlt (pc := 1) 14 dX0_runAfter_1 (by decide) g1 (fun hc => ?_) (fun hc => ?_)
  · replace h := h.1 hc
    refine x_iconst (pc := 14) dX0_runAfter_14 ?_
    exact x_iret (pc := 15) dX0_runAfter_15 (Or.inl rfl) h
  · replace h := h.2 hc
    refine x_iload_n (pc := 4) dX0_runAfter_4 rfl rfl ?_
    refine x_iconst (pc := 5) dX0_runAfter_5 ?_
    refine x_iadd (pc := 6) dX0_runAfter_6 ?_
    refine x_aload_n (pc := 7) dX0_runAfter_7 rfl rfl ?_
    refine x_geti (pc := 8) dX0_runAfter_8 f_RX0_18 hk0 ?_
    obtain ⟨g2, h⟩ := h
    obtain ⟨g3, h⟩ := h
    refine x_clt (pc := 11) 16 dX0_runAfter_11 (by decide) ⟨g2, g3⟩ (fun hc => ?_) (fun hc => ?_)
    · replace h := h.1 hc
      refine x_aload_n (pc := 16) dX0_runAfter_16 rfl rfl ?_
      refine x_getr (pc := 17) dX0_runAfter_17 f_RX0_9 hk0 ?_
      refine x_iload_n (pc := 20) dX0_runAfter_20 rfl rfl ?_
      refine x_iconst (pc := 21) dX0_runAfter_21 ?_
      refine x_iadd (pc := 22) dX0_runAfter_22 ?_
      obtain ⟨g4, h⟩ := h
      refine x_iald (pc := 23) dX0_runAfter_23 (wk_0_0 hW hk0) (wl_0_0 hW hk0) g4 ?_
      refine x_aload_n (pc := 24) dX0_runAfter_24 rfl rfl ?_
      refine x_getr (pc := 25) dX0_runAfter_25 f_RX0_9 hk0 ?_
      refine x_iload_n (pc := 28) dX0_runAfter_28 rfl rfl ?_
      obtain ⟨g5, h⟩ := h
      refine x_iald (pc := 29) dX0_runAfter_29 (wk_0_0 hW hk0) (wl_0_0 hW hk0) g5 ?_
      refine x_isub (pc := 30) dX0_runAfter_30 ?_
      refine x_aload_n (pc := 31) dX0_runAfter_31 rfl rfl ?_
      obtain ⟨g6, h⟩ := h
      refine x_callV (pc := 32) (z := m_X0_fibrePerThousand) (b := a0) (as := []) (rest := [.inl ((M (rf E a0 0) ((x1 + 1).toNat)) - (M (rf E a0 0) (x1.toNat)))]) dX0_runAfter_32 c_RX0_35 (by decide) hk0 rfl (Nat.le_of_ble_eq_true rfl) (ct_X0_fibrePerThousand hW hk0 g6) (fun r M9 hr => ?_)
      obtain ⟨hM9, hr⟩ := hr
      rw [hM9, hr]
      clear hM9 hr
      show fx_At E m_X0_runAfter 35 [some (.inr a0), some (.inl x1)] [.inl (1000 + M a0 3), .inl ((M (rf E a0 0) ((x1 + 1).toNat)) - (M (rf E a0 0) (x1.toNat)))] _ Q
      refine x_imul (pc := 35) dX0_runAfter_35 ?_
      refine x_sipush (pc := 36) dX0_runAfter_36 (by decide +kernel) ?_
      obtain ⟨g7, h⟩ := h
      refine x_idiv (pc := 39) dX0_runAfter_39 ⟨g7.1, g7.2, by decide, by decide⟩ ?_
      exact x_iret (pc := 40) dX0_runAfter_40 (Or.inl rfl) h
    · replace h := h.2 hc
      refine x_iconst (pc := 14) dX0_runAfter_14 ?_
      exact x_iret (pc := 15) dX0_runAfter_15 (Or.inl rfl) h
theorem dX0_reachOf_0 : decode cX0_reachOf 0 = .ok (.iconst 0, 1) := by decide +kernel
theorem dX0_reachOf_1 : decode cX0_reachOf 1 = .ok (.istore_n 2, 1) := by decide +kernel
theorem dX0_reachOf_2 : decode cX0_reachOf 2 = .ok (.iconst 0, 1) := by decide +kernel
theorem dX0_reachOf_3 : decode cX0_reachOf 3 = .ok (.istore_n 3, 1) := by decide +kernel
theorem dX0_reachOf_4 : decode cX0_reachOf 4 = .ok (.iload_n 3, 1) := by decide +kernel
theorem dX0_reachOf_5 : decode cX0_reachOf 5 = .ok (.iload_n 1, 1) := by decide +kernel
theorem dX0_reachOf_6 : decode cX0_reachOf 6 = .ok (.if_icmp .ge 32, 3) := by decide +kernel
theorem dX0_reachOf_9 : decode cX0_reachOf 9 = .ok (.iload_n 3, 1) := by decide +kernel
theorem dX0_reachOf_10 : decode cX0_reachOf 10 = .ok (.aload_n 0, 1) := by decide +kernel
theorem dX0_reachOf_11 : decode cX0_reachOf 11 = .ok (.getfield 18, 3) := by decide +kernel
theorem dX0_reachOf_14 : decode cX0_reachOf 14 = .ok (.if_icmp .ge 24, 3) := by decide +kernel
theorem dX0_reachOf_17 : decode cX0_reachOf 17 = .ok (.iload_n 2, 1) := by decide +kernel
theorem dX0_reachOf_18 : decode cX0_reachOf 18 = .ok (.aload_n 0, 1) := by decide +kernel
theorem dX0_reachOf_19 : decode cX0_reachOf 19 = .ok (.getfield 15, 3) := by decide +kernel
theorem dX0_reachOf_22 : decode cX0_reachOf 22 = .ok (.iload_n 3, 1) := by decide +kernel
theorem dX0_reachOf_23 : decode cX0_reachOf 23 = .ok (.iaload, 1) := by decide +kernel
theorem dX0_reachOf_24 : decode cX0_reachOf 24 = .ok (.aload_n 0, 1) := by decide +kernel
theorem dX0_reachOf_25 : decode cX0_reachOf 25 = .ok (.iload_n 3, 1) := by decide +kernel
theorem dX0_reachOf_26 : decode cX0_reachOf 26 = .ok (.invokevirtual 39, 3) := by decide +kernel
theorem dX0_reachOf_29 : decode cX0_reachOf 29 = .ok (.iadd, 1) := by decide +kernel
theorem dX0_reachOf_30 : decode cX0_reachOf 30 = .ok (.iadd, 1) := by decide +kernel
theorem dX0_reachOf_31 : decode cX0_reachOf 31 = .ok (.istore_n 2, 1) := by decide +kernel
theorem dX0_reachOf_32 : decode cX0_reachOf 32 = .ok (.iinc 3 1, 3) := by decide +kernel
theorem dX0_reachOf_35 : decode cX0_reachOf 35 = .ok (.goto (-31), 3) := by decide +kernel
theorem dX0_reachOf_38 : decode cX0_reachOf 38 = .ok (.iload_n 2, 1) := by decide +kernel
theorem dX0_reachOf_39 : decode cX0_reachOf 39 = .ok (.ireturn, 1) := by decide +kernel
set_option maxRecDepth 100000 in
theorem b_X0_reachOf_0 {E : fxE} (hW : fx_Wt E) (a0 : Nat) (x1 : Int) (M : fxM) (Q : Option fxV → fxM → Prop) (hk0 : kd E a0 = 0) (h : fx_At E m_X0_reachOf 4 [some (.inr a0), some (.inl x1), some (.inl 0), some (.inl 0)] [] M Q) : fx_At E m_X0_reachOf 0 [some (.inr a0), some (.inl x1), none, none] [] M Q := by
  refine x_iconst (pc := 0) dX0_reachOf_0 ?_
  refine x_istore_n (pc := 1) (lv' := [some (.inr a0), some (.inl x1), some (.inl 0), none]) dX0_reachOf_1 rfl (by decide) rfl ?_
  refine x_iconst (pc := 2) dX0_reachOf_2 ?_
  refine x_istore_n (pc := 3) (lv' := [some (.inr a0), some (.inl x1), some (.inl 0), some (.inl 0)]) dX0_reachOf_3 rfl (by decide) rfl ?_
  exact h
set_option maxRecDepth 100000 in
theorem b_X0_reachOf_4 {E : fxE} (hW : fx_Wt E) (a0 : Nat) (x1 : Int) (x2 : Int) (x3 : Int) (M : fxM) (Q : Option fxV → fxM → Prop) (hk0 : kd E a0 = 0) (h : (-2147483648 ≤ x3 ∧ x3 < 2147483648) ∧ (-2147483648 ≤ x1 ∧ x1 < 2147483648) ∧ ((x1 ≤ x3 → Q (some (.inl x2)) M) ∧ (¬ x1 ≤ x3 → (-2147483648 ≤ (M a0 2) ∧ (M a0 2) < 2147483648) ∧ (((M a0 2) ≤ x3 → Q (some (.inl x2)) M) ∧ (¬ (M a0 2) ≤ x3 → (0 ≤ x3 ∧ x3 < 10) ∧ ∃ R5 : Int → fxM → Prop, CtI E m_X0_runAfter [.inr a0, .inl x3] M R5 ∧ ∀ (v5 : Int) (M5 : fxM), R5 v5 M5 → fx_At E m_X0_reachOf 4 [some (.inr a0), some (.inl x1), some (.inl (x2 + ((M (rf E a0 1) (x3.toNat)) + v5))), some (.inl (x3 + 1))] [] M5 Q))))) : fx_At E m_X0_reachOf 4 [some (.inr a0), some (.inl x1), some (.inl x2), some (.inl x3)] [] M Q := by
  refine x_iload_n (pc := 4) dX0_reachOf_4 rfl rfl ?_
  refine x_iload_n (pc := 5) dX0_reachOf_5 rfl rfl ?_
  obtain ⟨g1, h⟩ := h
  obtain ⟨g2, h⟩ := h
  refine x_cge (pc := 6) 38 dX0_reachOf_6 (by decide) ⟨g1, g2⟩ (fun hc => ?_) (fun hc => ?_)
  · replace h := h.1 hc
    refine x_iload_n (pc := 38) dX0_reachOf_38 rfl rfl ?_
    exact x_iret (pc := 39) dX0_reachOf_39 (Or.inl rfl) h
  · replace h := h.2 hc
    refine x_iload_n (pc := 9) dX0_reachOf_9 rfl rfl ?_
    refine x_aload_n (pc := 10) dX0_reachOf_10 rfl rfl ?_
    refine x_geti (pc := 11) dX0_reachOf_11 f_RX0_18 hk0 ?_
    obtain ⟨g3, h⟩ := h
    refine x_cge (pc := 14) 38 dX0_reachOf_14 (by decide) ⟨g1, g3⟩ (fun hc => ?_) (fun hc => ?_)
    · replace h := h.1 hc
      refine x_iload_n (pc := 38) dX0_reachOf_38 rfl rfl ?_
      exact x_iret (pc := 39) dX0_reachOf_39 (Or.inl rfl) h
    · replace h := h.2 hc
      refine x_iload_n (pc := 17) dX0_reachOf_17 rfl rfl ?_
      refine x_aload_n (pc := 18) dX0_reachOf_18 rfl rfl ?_
      refine x_getr (pc := 19) dX0_reachOf_19 f_RX0_15 hk0 ?_
      refine x_iload_n (pc := 22) dX0_reachOf_22 rfl rfl ?_
      obtain ⟨g4, h⟩ := h
      refine x_iald (pc := 23) dX0_reachOf_23 (wk_0_1 hW hk0) (wl_0_1 hW hk0) g4 ?_
      refine x_aload_n (pc := 24) dX0_reachOf_24 rfl rfl ?_
      refine x_iload_n (pc := 25) dX0_reachOf_25 rfl rfl ?_
      obtain ⟨R5, hc5, h⟩ := h
      refine x_callV (pc := 26) (z := m_X0_runAfter) (b := a0) (as := [.inl x3]) (rest := [.inl (M (rf E a0 1) (x3.toNat)), .inl x2]) dX0_reachOf_26 c_RX0_39 (by decide) hk0 rfl (Nat.le_of_ble_eq_true rfl) hc5 (fun r M5 hr => ?_)
      obtain ⟨v5, rfl, hr⟩ := hr
      replace h := h v5 M5 hr
      show fx_At E m_X0_reachOf 29 [some (.inr a0), some (.inl x1), some (.inl x2), some (.inl x3)] [.inl v5, .inl (M (rf E a0 1) (x3.toNat)), .inl x2] M5 Q
      refine x_iadd (pc := 29) dX0_reachOf_29 ?_
      refine x_iadd (pc := 30) dX0_reachOf_30 ?_
      refine x_istore_n (pc := 31) (lv' := [some (.inr a0), some (.inl x1), some (.inl (x2 + ((M (rf E a0 1) (x3.toNat)) + v5))), some (.inl x3)]) dX0_reachOf_31 rfl (by decide) rfl ?_
      refine x_iinc (pc := 32) (lv' := [some (.inr a0), some (.inl x1), some (.inl (x2 + ((M (rf E a0 1) (x3.toNat)) + v5))), some (.inl (x3 + 1))]) dX0_reachOf_32 rfl (by decide) rfl ?_
      refine x_goto (pc := 35) 4 dX0_reachOf_35 (by decide) ?_
      exact h
theorem dX0_routeOf_0 : decode cX0_routeOf 0 = .ok (.iload_n 1, 1) := by decide +kernel
theorem dX0_routeOf_1 : decode cX0_routeOf 1 = .ok (.istore_n 2, 1) := by decide +kernel
theorem dX0_routeOf_2 : decode cX0_routeOf 2 = .ok (.iconst 0, 1) := by decide +kernel
theorem dX0_routeOf_3 : decode cX0_routeOf 3 = .ok (.istore_n 3, 1) := by decide +kernel
theorem dX0_routeOf_4 : decode cX0_routeOf 4 = .ok (.iload_n 3, 1) := by decide +kernel
theorem dX0_routeOf_5 : decode cX0_routeOf 5 = .ok (.aload_n 0, 1) := by decide +kernel
theorem dX0_routeOf_6 : decode cX0_routeOf 6 = .ok (.getfield 18, 3) := by decide +kernel
theorem dX0_routeOf_9 : decode cX0_routeOf 9 = .ok (.if_icmp .ge 70, 3) := by decide +kernel
theorem dX0_routeOf_12 : decode cX0_routeOf 12 = .ok (.iload_n 2, 1) := by decide +kernel
theorem dX0_routeOf_13 : decode cX0_routeOf 13 = .ok (.aload_n 0, 1) := by decide +kernel
theorem dX0_routeOf_14 : decode cX0_routeOf 14 = .ok (.getfield 15, 3) := by decide +kernel
theorem dX0_routeOf_17 : decode cX0_routeOf 17 = .ok (.iload_n 3, 1) := by decide +kernel
theorem dX0_routeOf_18 : decode cX0_routeOf 18 = .ok (.iaload, 1) := by decide +kernel
theorem dX0_routeOf_19 : decode cX0_routeOf 19 = .ok (.isub, 1) := by decide +kernel
theorem dX0_routeOf_20 : decode cX0_routeOf 20 = .ok (.istore 4, 2) := by decide +kernel
theorem dX0_routeOf_22 : decode cX0_routeOf 22 = .ok (.iload 4, 2) := by decide +kernel
theorem dX0_routeOf_24 : decode cX0_routeOf 24 = .ok (.ifCond .gt 10, 3) := by decide +kernel
theorem dX0_routeOf_27 : decode cX0_routeOf 27 = .ok (.aload_n 0, 1) := by decide +kernel
theorem dX0_routeOf_28 : decode cX0_routeOf 28 = .ok (.getfield 9, 3) := by decide +kernel
theorem dX0_routeOf_31 : decode cX0_routeOf 31 = .ok (.iload_n 3, 1) := by decide +kernel
theorem dX0_routeOf_32 : decode cX0_routeOf 32 = .ok (.iaload, 1) := by decide +kernel
theorem dX0_routeOf_33 : decode cX0_routeOf 33 = .ok (.ireturn, 1) := by decide +kernel
theorem dX0_routeOf_34 : decode cX0_routeOf 34 = .ok (.aload_n 0, 1) := by decide +kernel
theorem dX0_routeOf_35 : decode cX0_routeOf 35 = .ok (.iload_n 3, 1) := by decide +kernel
theorem dX0_routeOf_36 : decode cX0_routeOf 36 = .ok (.invokevirtual 39, 3) := by decide +kernel
theorem dX0_routeOf_39 : decode cX0_routeOf 39 = .ok (.istore 5, 2) := by decide +kernel
theorem dX0_routeOf_41 : decode cX0_routeOf 41 = .ok (.iload 4, 2) := by decide +kernel
theorem dX0_routeOf_43 : decode cX0_routeOf 43 = .ok (.iload 5, 2) := by decide +kernel
theorem dX0_routeOf_45 : decode cX0_routeOf 45 = .ok (.if_icmp .ge 22, 3) := by decide +kernel
theorem dX0_routeOf_48 : decode cX0_routeOf 48 = .ok (.aload_n 0, 1) := by decide +kernel
theorem dX0_routeOf_49 : decode cX0_routeOf 49 = .ok (.getfield 9, 3) := by decide +kernel
theorem dX0_routeOf_52 : decode cX0_routeOf 52 = .ok (.iload_n 3, 1) := by decide +kernel
theorem dX0_routeOf_53 : decode cX0_routeOf 53 = .ok (.iaload, 1) := by decide +kernel
theorem dX0_routeOf_54 : decode cX0_routeOf 54 = .ok (.iload 4, 2) := by decide +kernel
theorem dX0_routeOf_56 : decode cX0_routeOf 56 = .ok (.sipush 1000, 3) := by decide +kernel
theorem dX0_routeOf_59 : decode cX0_routeOf 59 = .ok (.imul, 1) := by decide +kernel
theorem dX0_routeOf_60 : decode cX0_routeOf 60 = .ok (.aload_n 0, 1) := by decide +kernel
theorem dX0_routeOf_61 : decode cX0_routeOf 61 = .ok (.invokevirtual 35, 3) := by decide +kernel
theorem dX0_routeOf_64 : decode cX0_routeOf 64 = .ok (.idiv, 1) := by decide +kernel
theorem dX0_routeOf_65 : decode cX0_routeOf 65 = .ok (.iadd, 1) := by decide +kernel
theorem dX0_routeOf_66 : decode cX0_routeOf 66 = .ok (.ireturn, 1) := by decide +kernel
theorem dX0_routeOf_67 : decode cX0_routeOf 67 = .ok (.iload 4, 2) := by decide +kernel
theorem dX0_routeOf_69 : decode cX0_routeOf 69 = .ok (.iload 5, 2) := by decide +kernel
theorem dX0_routeOf_71 : decode cX0_routeOf 71 = .ok (.isub, 1) := by decide +kernel
theorem dX0_routeOf_72 : decode cX0_routeOf 72 = .ok (.istore_n 2, 1) := by decide +kernel
theorem dX0_routeOf_73 : decode cX0_routeOf 73 = .ok (.iinc 3 1, 3) := by decide +kernel
theorem dX0_routeOf_76 : decode cX0_routeOf 76 = .ok (.goto (-72), 3) := by decide +kernel
theorem dX0_routeOf_79 : decode cX0_routeOf 79 = .ok (.ldc 43, 2) := by decide +kernel
theorem dX0_routeOf_81 : decode cX0_routeOf 81 = .ok (.ireturn, 1) := by decide +kernel
set_option maxRecDepth 100000 in
theorem b_X0_routeOf_0 {E : fxE} (hW : fx_Wt E) (a0 : Nat) (x1 : Int) (M : fxM) (Q : Option fxV → fxM → Prop) (hk0 : kd E a0 = 0) (h : fx_At E m_X0_routeOf 4 [some (.inr a0), some (.inl x1), some (.inl x1), some (.inl 0), none, none] [] M Q) : fx_At E m_X0_routeOf 0 [some (.inr a0), some (.inl x1), none, none, none, none] [] M Q := by
  refine x_iload_n (pc := 0) dX0_routeOf_0 rfl rfl ?_
  refine x_istore_n (pc := 1) (lv' := [some (.inr a0), some (.inl x1), some (.inl x1), none, none, none]) dX0_routeOf_1 rfl (by decide) rfl ?_
  refine x_iconst (pc := 2) dX0_routeOf_2 ?_
  refine x_istore_n (pc := 3) (lv' := [some (.inr a0), some (.inl x1), some (.inl x1), some (.inl 0), none, none]) dX0_routeOf_3 rfl (by decide) rfl ?_
  exact h
set_option maxRecDepth 100000 in
theorem b_X0_routeOf_4 {E : fxE} (hW : fx_Wt E) (a0 : Nat) (x1 : Int) (x2 : Int) (x3 : Int) (M : fxM) (Q : Option fxV → fxM → Prop) (hk0 : kd E a0 = 0) (h : (-2147483648 ≤ x3 ∧ x3 < 2147483648) ∧ (-2147483648 ≤ (M a0 2) ∧ (M a0 2) < 2147483648) ∧ (((M a0 2) ≤ x3 → Q (some (.inl (-1000005))) M) ∧ (¬ (M a0 2) ≤ x3 → (0 ≤ x3 ∧ x3 < 10) ∧ (-2147483648 ≤ (x2 - (M (rf E a0 1) (x3.toNat))) ∧ (x2 - (M (rf E a0 1) (x3.toNat))) < 2147483648) ∧ (((0 : Int) < (x2 - (M (rf E a0 1) (x3.toNat))) → ∃ R5 : Int → fxM → Prop, CtI E m_X0_runAfter [.inr a0, .inl x3] M R5 ∧ ∀ (v5 : Int) (M5 : fxM), R5 v5 M5 → (-2147483648 ≤ v5 ∧ v5 < 2147483648) ∧ ((v5 ≤ (x2 - (M (rf E a0 1) (x3.toNat))) → fx_At E m_X0_routeOf 4 [some (.inr a0), some (.inl x1), some (.inl ((x2 - (M (rf E a0 1) (x3.toNat))) - v5)), some (.inl (x3 + 1)), none, none] [] M5 Q) ∧ (¬ v5 ≤ (x2 - (M (rf E a0 1) (x3.toNat))) → (0 ≤ M5 a0 3 ∧ M5 a0 3 < 1000000) ∧ (0 ≤ ((x2 - (M (rf E a0 1) (x3.toNat))) * 1000) ∧ ((x2 - (M (rf E a0 1) (x3.toNat))) * 1000) < 2147483648 ∧ (0 : Int) < 1000 + M5 a0 3 ∧ 1000 + M5 a0 3 < 2147483648) ∧ Q (some (.inl ((M5 (rf E a0 0) (x3.toNat)) + (((x2 - (M (rf E a0 1) (x3.toNat))) * 1000) / (1000 + M5 a0 3))))) M5))) ∧ (¬ (0 : Int) < (x2 - (M (rf E a0 1) (x3.toNat))) → Q (some (.inl (M (rf E a0 0) (x3.toNat)))) M))))) : fx_At E m_X0_routeOf 4 [some (.inr a0), some (.inl x1), some (.inl x2), some (.inl x3), none, none] [] M Q := by
  refine x_iload_n (pc := 4) dX0_routeOf_4 rfl rfl ?_
  refine x_aload_n (pc := 5) dX0_routeOf_5 rfl rfl ?_
  refine x_geti (pc := 6) dX0_routeOf_6 f_RX0_18 hk0 ?_
  obtain ⟨g1, h⟩ := h
  obtain ⟨g2, h⟩ := h
  refine x_cge (pc := 9) 79 dX0_routeOf_9 (by decide) ⟨g1, g2⟩ (fun hc => ?_) (fun hc => ?_)
  · replace h := h.1 hc
    refine x_ldc (pc := 79) (n := -1000005) dX0_routeOf_79 k_RX0_43 rfl ?_
    exact x_iret (pc := 81) dX0_routeOf_81 (Or.inl rfl) h
  · replace h := h.2 hc
    refine x_iload_n (pc := 12) dX0_routeOf_12 rfl rfl ?_
    refine x_aload_n (pc := 13) dX0_routeOf_13 rfl rfl ?_
    refine x_getr (pc := 14) dX0_routeOf_14 f_RX0_15 hk0 ?_
    refine x_iload_n (pc := 17) dX0_routeOf_17 rfl rfl ?_
    obtain ⟨g3, h⟩ := h
    refine x_iald (pc := 18) dX0_routeOf_18 (wk_0_1 hW hk0) (wl_0_1 hW hk0) g3 ?_
    refine x_isub (pc := 19) dX0_routeOf_19 ?_
    refine x_istore (pc := 20) (lv' := [some (.inr a0), some (.inl x1), some (.inl x2), some (.inl x3), some (.inl (x2 - (M (rf E a0 1) (x3.toNat)))), none]) dX0_routeOf_20 (by decide) rfl ?_
    refine x_iload (pc := 22) dX0_routeOf_22 rfl ?_
    obtain ⟨g4, h⟩ := h
    refine x_zgt (pc := 24) 34 dX0_routeOf_24 (by decide) g4 (fun hc => ?_) (fun hc => ?_)
    · replace h := h.1 hc
      refine x_aload_n (pc := 34) dX0_routeOf_34 rfl rfl ?_
      refine x_iload_n (pc := 35) dX0_routeOf_35 rfl rfl ?_
      obtain ⟨R5, hc5, h⟩ := h
      refine x_callV (pc := 36) (z := m_X0_runAfter) (b := a0) (as := [.inl x3]) (rest := []) dX0_routeOf_36 c_RX0_39 (by decide) hk0 rfl (Nat.le_of_ble_eq_true rfl) hc5 (fun r M5 hr => ?_)
      obtain ⟨v5, rfl, hr⟩ := hr
      replace h := h v5 M5 hr
      show fx_At E m_X0_routeOf 39 [some (.inr a0), some (.inl x1), some (.inl x2), some (.inl x3), some (.inl (x2 - (M (rf E a0 1) (x3.toNat)))), none] [.inl v5] M5 Q
      refine x_istore (pc := 39) (lv' := [some (.inr a0), some (.inl x1), some (.inl x2), some (.inl x3), some (.inl (x2 - (M (rf E a0 1) (x3.toNat)))), some (.inl v5)]) dX0_routeOf_39 (by decide) rfl ?_
      refine x_iload (pc := 41) dX0_routeOf_41 rfl ?_
      refine x_iload (pc := 43) dX0_routeOf_43 rfl ?_
      obtain ⟨g6, h⟩ := h
      refine x_cge (pc := 45) 67 dX0_routeOf_45 (by decide) ⟨g4, g6⟩ (fun hc => ?_) (fun hc => ?_)
      · replace h := h.1 hc
        refine x_iload (pc := 67) dX0_routeOf_67 rfl ?_
        refine x_iload (pc := 69) dX0_routeOf_69 rfl ?_
        refine x_isub (pc := 71) dX0_routeOf_71 ?_
        refine x_istore_n (pc := 72) (lv' := [some (.inr a0), some (.inl x1), some (.inl ((x2 - (M (rf E a0 1) (x3.toNat))) - v5)), some (.inl x3), some (.inl (x2 - (M (rf E a0 1) (x3.toNat)))), some (.inl v5)]) dX0_routeOf_72 rfl (by decide) rfl ?_
        refine x_iinc (pc := 73) (lv' := [some (.inr a0), some (.inl x1), some (.inl ((x2 - (M (rf E a0 1) (x3.toNat))) - v5)), some (.inl (x3 + 1)), some (.inl (x2 - (M (rf E a0 1) (x3.toNat)))), some (.inl v5)]) dX0_routeOf_73 rfl (by decide) rfl ?_
        refine x_goto (pc := 76) 4 dX0_routeOf_76 (by decide) ?_
        refine x_weak (lv := [some (.inr a0), some (.inl x1), some (.inl ((x2 - (M (rf E a0 1) (x3.toNat))) - v5)), some (.inl (x3 + 1)), none, none]) (by simp [lvle]) ?_
        exact h
      · replace h := h.2 hc
        refine x_aload_n (pc := 48) dX0_routeOf_48 rfl rfl ?_
        refine x_getr (pc := 49) dX0_routeOf_49 f_RX0_9 hk0 ?_
        refine x_iload_n (pc := 52) dX0_routeOf_52 rfl rfl ?_
        refine x_iald (pc := 53) dX0_routeOf_53 (wk_0_0 hW hk0) (wl_0_0 hW hk0) g3 ?_
        refine x_iload (pc := 54) dX0_routeOf_54 rfl ?_
        refine x_sipush (pc := 56) dX0_routeOf_56 (by decide +kernel) ?_
        refine x_imul (pc := 59) dX0_routeOf_59 ?_
        refine x_aload_n (pc := 60) dX0_routeOf_60 rfl rfl ?_
        obtain ⟨g7, h⟩ := h
        refine x_callV (pc := 61) (z := m_X0_fibrePerThousand) (b := a0) (as := []) (rest := [.inl ((x2 - (M (rf E a0 1) (x3.toNat))) * 1000), .inl (M5 (rf E a0 0) (x3.toNat))]) dX0_routeOf_61 c_RX0_35 (by decide) hk0 rfl (Nat.le_of_ble_eq_true rfl) (ct_X0_fibrePerThousand hW hk0 g7) (fun r M9 hr => ?_)
        obtain ⟨hM9, hr⟩ := hr
        rw [hM9, hr]
        clear hM9 hr
        show fx_At E m_X0_routeOf 64 [some (.inr a0), some (.inl x1), some (.inl x2), some (.inl x3), some (.inl (x2 - (M (rf E a0 1) (x3.toNat)))), some (.inl v5)] [.inl (1000 + M5 a0 3), .inl ((x2 - (M (rf E a0 1) (x3.toNat))) * 1000), .inl (M5 (rf E a0 0) (x3.toNat))] _ Q
        obtain ⟨g8, h⟩ := h
        refine x_idiv (pc := 64) dX0_routeOf_64 g8 ?_
        refine x_iadd (pc := 65) dX0_routeOf_65 ?_
        exact x_iret (pc := 66) dX0_routeOf_66 (Or.inl rfl) h
    · replace h := h.2 hc
      refine x_aload_n (pc := 27) dX0_routeOf_27 rfl rfl ?_
      refine x_getr (pc := 28) dX0_routeOf_28 f_RX0_9 hk0 ?_
      refine x_iload_n (pc := 31) dX0_routeOf_31 rfl rfl ?_
      refine x_iald (pc := 32) dX0_routeOf_32 (wk_0_0 hW hk0) (wl_0_0 hW hk0) g3 ?_
      exact x_iret (pc := 33) dX0_routeOf_33 (Or.inl rfl) h
theorem dX0_lastReached_0 : decode cX0_lastReached 0 = .ok (.ldc 43, 2) := by decide +kernel
theorem dX0_lastReached_2 : decode cX0_lastReached 2 = .ok (.istore_n 2, 1) := by decide +kernel
theorem dX0_lastReached_3 : decode cX0_lastReached 3 = .ok (.iconst 0, 1) := by decide +kernel
theorem dX0_lastReached_4 : decode cX0_lastReached 4 = .ok (.istore_n 3, 1) := by decide +kernel
theorem dX0_lastReached_5 : decode cX0_lastReached 5 = .ok (.iconst 0, 1) := by decide +kernel
theorem dX0_lastReached_6 : decode cX0_lastReached 6 = .ok (.istore 4, 2) := by decide +kernel
theorem dX0_lastReached_8 : decode cX0_lastReached 8 = .ok (.iload 4, 2) := by decide +kernel
theorem dX0_lastReached_10 : decode cX0_lastReached 10 = .ok (.aload_n 0, 1) := by decide +kernel
theorem dX0_lastReached_11 : decode cX0_lastReached 11 = .ok (.getfield 18, 3) := by decide +kernel
theorem dX0_lastReached_14 : decode cX0_lastReached 14 = .ok (.if_icmp .ge 34, 3) := by decide +kernel
theorem dX0_lastReached_17 : decode cX0_lastReached 17 = .ok (.iload_n 3, 1) := by decide +kernel
theorem dX0_lastReached_18 : decode cX0_lastReached 18 = .ok (.iload_n 1, 1) := by decide +kernel
theorem dX0_lastReached_19 : decode cX0_lastReached 19 = .ok (.if_icmp .gt 29, 3) := by decide +kernel
theorem dX0_lastReached_22 : decode cX0_lastReached 22 = .ok (.iload 4, 2) := by decide +kernel
theorem dX0_lastReached_24 : decode cX0_lastReached 24 = .ok (.istore_n 2, 1) := by decide +kernel
theorem dX0_lastReached_25 : decode cX0_lastReached 25 = .ok (.iload_n 3, 1) := by decide +kernel
theorem dX0_lastReached_26 : decode cX0_lastReached 26 = .ok (.aload_n 0, 1) := by decide +kernel
theorem dX0_lastReached_27 : decode cX0_lastReached 27 = .ok (.getfield 15, 3) := by decide +kernel
theorem dX0_lastReached_30 : decode cX0_lastReached 30 = .ok (.iload 4, 2) := by decide +kernel
theorem dX0_lastReached_32 : decode cX0_lastReached 32 = .ok (.iaload, 1) := by decide +kernel
theorem dX0_lastReached_33 : decode cX0_lastReached 33 = .ok (.aload_n 0, 1) := by decide +kernel
theorem dX0_lastReached_34 : decode cX0_lastReached 34 = .ok (.iload 4, 2) := by decide +kernel
theorem dX0_lastReached_36 : decode cX0_lastReached 36 = .ok (.invokevirtual 39, 3) := by decide +kernel
theorem dX0_lastReached_39 : decode cX0_lastReached 39 = .ok (.iadd, 1) := by decide +kernel
theorem dX0_lastReached_40 : decode cX0_lastReached 40 = .ok (.iadd, 1) := by decide +kernel
theorem dX0_lastReached_41 : decode cX0_lastReached 41 = .ok (.istore_n 3, 1) := by decide +kernel
theorem dX0_lastReached_42 : decode cX0_lastReached 42 = .ok (.iinc 4 1, 3) := by decide +kernel
theorem dX0_lastReached_45 : decode cX0_lastReached 45 = .ok (.goto (-37), 3) := by decide +kernel
theorem dX0_lastReached_48 : decode cX0_lastReached 48 = .ok (.iload_n 2, 1) := by decide +kernel
theorem dX0_lastReached_49 : decode cX0_lastReached 49 = .ok (.ireturn, 1) := by decide +kernel
set_option maxRecDepth 100000 in
theorem b_X0_lastReached_0 {E : fxE} (hW : fx_Wt E) (a0 : Nat) (x1 : Int) (M : fxM) (Q : Option fxV → fxM → Prop) (hk0 : kd E a0 = 0) (h : fx_At E m_X0_lastReached 8 [some (.inr a0), some (.inl x1), some (.inl (-1000005)), some (.inl 0), some (.inl 0)] [] M Q) : fx_At E m_X0_lastReached 0 [some (.inr a0), some (.inl x1), none, none, none] [] M Q := by
  refine x_ldc (pc := 0) (n := -1000005) dX0_lastReached_0 k_RX0_43 rfl ?_
  refine x_istore_n (pc := 2) (lv' := [some (.inr a0), some (.inl x1), some (.inl (-1000005)), none, none]) dX0_lastReached_2 rfl (by decide) rfl ?_
  refine x_iconst (pc := 3) dX0_lastReached_3 ?_
  refine x_istore_n (pc := 4) (lv' := [some (.inr a0), some (.inl x1), some (.inl (-1000005)), some (.inl 0), none]) dX0_lastReached_4 rfl (by decide) rfl ?_
  refine x_iconst (pc := 5) dX0_lastReached_5 ?_
  refine x_istore (pc := 6) (lv' := [some (.inr a0), some (.inl x1), some (.inl (-1000005)), some (.inl 0), some (.inl 0)]) dX0_lastReached_6 (by decide) rfl ?_
  exact h
set_option maxRecDepth 100000 in
theorem b_X0_lastReached_8 {E : fxE} (hW : fx_Wt E) (a0 : Nat) (x1 : Int) (x2 : Int) (x3 : Int) (x4 : Int) (M : fxM) (Q : Option fxV → fxM → Prop) (hk0 : kd E a0 = 0) (h : (-2147483648 ≤ x4 ∧ x4 < 2147483648) ∧ (-2147483648 ≤ (M a0 2) ∧ (M a0 2) < 2147483648) ∧ (((M a0 2) ≤ x4 → Q (some (.inl x2)) M) ∧ (¬ (M a0 2) ≤ x4 → (-2147483648 ≤ x3 ∧ x3 < 2147483648) ∧ (-2147483648 ≤ x1 ∧ x1 < 2147483648) ∧ ((x1 < x3 → Q (some (.inl x2)) M) ∧ (¬ x1 < x3 → (0 ≤ x4 ∧ x4 < 10) ∧ ∃ R6 : Int → fxM → Prop, CtI E m_X0_runAfter [.inr a0, .inl x4] M R6 ∧ ∀ (v6 : Int) (M6 : fxM), R6 v6 M6 → fx_At E m_X0_lastReached 8 [some (.inr a0), some (.inl x1), some (.inl x4), some (.inl (x3 + ((M (rf E a0 1) (x4.toNat)) + v6))), some (.inl (x4 + 1))] [] M6 Q))))) : fx_At E m_X0_lastReached 8 [some (.inr a0), some (.inl x1), some (.inl x2), some (.inl x3), some (.inl x4)] [] M Q := by
  refine x_iload (pc := 8) dX0_lastReached_8 rfl ?_
  refine x_aload_n (pc := 10) dX0_lastReached_10 rfl rfl ?_
  refine x_geti (pc := 11) dX0_lastReached_11 f_RX0_18 hk0 ?_
  obtain ⟨g1, h⟩ := h
  obtain ⟨g2, h⟩ := h
  refine x_cge (pc := 14) 48 dX0_lastReached_14 (by decide) ⟨g1, g2⟩ (fun hc => ?_) (fun hc => ?_)
  · replace h := h.1 hc
    refine x_iload_n (pc := 48) dX0_lastReached_48 rfl rfl ?_
    exact x_iret (pc := 49) dX0_lastReached_49 (Or.inl rfl) h
  · replace h := h.2 hc
    refine x_iload_n (pc := 17) dX0_lastReached_17 rfl rfl ?_
    refine x_iload_n (pc := 18) dX0_lastReached_18 rfl rfl ?_
    obtain ⟨g3, h⟩ := h
    obtain ⟨g4, h⟩ := h
    refine x_cgt (pc := 19) 48 dX0_lastReached_19 (by decide) ⟨g3, g4⟩ (fun hc => ?_) (fun hc => ?_)
    · replace h := h.1 hc
      refine x_iload_n (pc := 48) dX0_lastReached_48 rfl rfl ?_
      exact x_iret (pc := 49) dX0_lastReached_49 (Or.inl rfl) h
    · replace h := h.2 hc
      refine x_iload (pc := 22) dX0_lastReached_22 rfl ?_
      refine x_istore_n (pc := 24) (lv' := [some (.inr a0), some (.inl x1), some (.inl x4), some (.inl x3), some (.inl x4)]) dX0_lastReached_24 rfl (by decide) rfl ?_
      refine x_iload_n (pc := 25) dX0_lastReached_25 rfl rfl ?_
      refine x_aload_n (pc := 26) dX0_lastReached_26 rfl rfl ?_
      refine x_getr (pc := 27) dX0_lastReached_27 f_RX0_15 hk0 ?_
      refine x_iload (pc := 30) dX0_lastReached_30 rfl ?_
      obtain ⟨g5, h⟩ := h
      refine x_iald (pc := 32) dX0_lastReached_32 (wk_0_1 hW hk0) (wl_0_1 hW hk0) g5 ?_
      refine x_aload_n (pc := 33) dX0_lastReached_33 rfl rfl ?_
      refine x_iload (pc := 34) dX0_lastReached_34 rfl ?_
      obtain ⟨R6, hc6, h⟩ := h
      refine x_callV (pc := 36) (z := m_X0_runAfter) (b := a0) (as := [.inl x4]) (rest := [.inl (M (rf E a0 1) (x4.toNat)), .inl x3]) dX0_lastReached_36 c_RX0_39 (by decide) hk0 rfl (Nat.le_of_ble_eq_true rfl) hc6 (fun r M6 hr => ?_)
      obtain ⟨v6, rfl, hr⟩ := hr
      replace h := h v6 M6 hr
      show fx_At E m_X0_lastReached 39 [some (.inr a0), some (.inl x1), some (.inl x4), some (.inl x3), some (.inl x4)] [.inl v6, .inl (M (rf E a0 1) (x4.toNat)), .inl x3] M6 Q
      refine x_iadd (pc := 39) dX0_lastReached_39 ?_
      refine x_iadd (pc := 40) dX0_lastReached_40 ?_
      refine x_istore_n (pc := 41) (lv' := [some (.inr a0), some (.inl x1), some (.inl x4), some (.inl (x3 + ((M (rf E a0 1) (x4.toNat)) + v6))), some (.inl x4)]) dX0_lastReached_41 rfl (by decide) rfl ?_
      refine x_iinc (pc := 42) (lv' := [some (.inr a0), some (.inl x1), some (.inl x4), some (.inl (x3 + ((M (rf E a0 1) (x4.toNat)) + v6))), some (.inl (x4 + 1))]) dX0_lastReached_42 rfl (by decide) rfl ?_
      refine x_goto (pc := 45) 8 dX0_lastReached_45 (by decide) ?_
      exact h
theorem dX1_find_0 : decode cX1_find 0 = .ok (.aload_n 0, 1) := by decide +kernel
theorem dX1_find_1 : decode cX1_find 1 = .ok (.iconst 0, 1) := by decide +kernel
theorem dX1_find_2 : decode cX1_find 2 = .ok (.putfield 31, 3) := by decide +kernel
theorem dX1_find_5 : decode cX1_find 5 = .ok (.iconst 0, 1) := by decide +kernel
theorem dX1_find_6 : decode cX1_find 6 = .ok (.istore 4, 2) := by decide +kernel
theorem dX1_find_8 : decode cX1_find 8 = .ok (.iload 4, 2) := by decide +kernel
theorem dX1_find_10 : decode cX1_find 10 = .ok (.aload_n 0, 1) := by decide +kernel
theorem dX1_find_11 : decode cX1_find 11 = .ok (.getfield 27, 3) := by decide +kernel
theorem dX1_find_14 : decode cX1_find 14 = .ok (.arraylength, 1) := by decide +kernel
theorem dX1_find_15 : decode cX1_find 15 = .ok (.if_icmp .ge 17, 3) := by decide +kernel
theorem dX1_find_18 : decode cX1_find 18 = .ok (.aload_n 0, 1) := by decide +kernel
theorem dX1_find_19 : decode cX1_find 19 = .ok (.getfield 27, 3) := by decide +kernel
theorem dX1_find_22 : decode cX1_find 22 = .ok (.iload 4, 2) := by decide +kernel
theorem dX1_find_24 : decode cX1_find 24 = .ok (.iconst 0, 1) := by decide +kernel
theorem dX1_find_25 : decode cX1_find 25 = .ok (.bastore, 1) := by decide +kernel
theorem dX1_find_26 : decode cX1_find 26 = .ok (.iinc 4 1, 3) := by decide +kernel
theorem dX1_find_29 : decode cX1_find 29 = .ok (.goto (-21), 3) := by decide +kernel
theorem dX1_find_32 : decode cX1_find 32 = .ok (.iconst 0, 1) := by decide +kernel
theorem dX1_find_33 : decode cX1_find 33 = .ok (.istore 4, 2) := by decide +kernel
theorem dX1_find_35 : decode cX1_find 35 = .ok (.iconst 1, 1) := by decide +kernel
theorem dX1_find_36 : decode cX1_find 36 = .ok (.istore 5, 2) := by decide +kernel
theorem dX1_find_38 : decode cX1_find 38 = .ok (.iload 5, 2) := by decide +kernel
theorem dX1_find_40 : decode cX1_find 40 = .ok (.sipush 400, 3) := by decide +kernel
theorem dX1_find_43 : decode cX1_find 43 = .ok (.if_icmp .gt 76, 3) := by decide +kernel
theorem dX1_find_46 : decode cX1_find 46 = .ok (.aload_n 1, 1) := by decide +kernel
theorem dX1_find_47 : decode cX1_find 47 = .ok (.iload 5, 2) := by decide +kernel
theorem dX1_find_49 : decode cX1_find 49 = .ok (.iload_n 2, 1) := by decide +kernel
theorem dX1_find_50 : decode cX1_find 50 = .ok (.iload_n 3, 1) := by decide +kernel
theorem dX1_find_51 : decode cX1_find 51 = .ok (.invokestatic 41, 3) := by decide +kernel
theorem dX1_find_54 : decode cX1_find 54 = .ok (.istore 6, 2) := by decide +kernel
theorem dX1_find_56 : decode cX1_find 56 = .ok (.iload 6, 2) := by decide +kernel
theorem dX1_find_58 : decode cX1_find 58 = .ok (.ifCond .eq 12, 3) := by decide +kernel
theorem dX1_find_61 : decode cX1_find 61 = .ok (.iload 4, 2) := by decide +kernel
theorem dX1_find_63 : decode cX1_find 63 = .ok (.ifCond .ne 7, 3) := by decide +kernel
theorem dX1_find_66 : decode cX1_find 66 = .ok (.iload 5, 2) := by decide +kernel
theorem dX1_find_68 : decode cX1_find 68 = .ok (.istore 4, 2) := by decide +kernel
theorem dX1_find_70 : decode cX1_find 70 = .ok (.iload 4, 2) := by decide +kernel
theorem dX1_find_72 : decode cX1_find 72 = .ok (.ifCond .le 41, 3) := by decide +kernel
theorem dX1_find_75 : decode cX1_find 75 = .ok (.iload 6, 2) := by decide +kernel
theorem dX1_find_77 : decode cX1_find 77 = .ok (.ifCond .eq 11, 3) := by decide +kernel
theorem dX1_find_80 : decode cX1_find 80 = .ok (.iload 5, 2) := by decide +kernel
theorem dX1_find_82 : decode cX1_find 82 = .ok (.sipush 400, 3) := by decide +kernel
theorem dX1_find_85 : decode cX1_find 85 = .ok (.if_icmp .ne 28, 3) := by decide +kernel
theorem dX1_find_88 : decode cX1_find 88 = .ok (.aload_n 0, 1) := by decide +kernel
theorem dX1_find_89 : decode cX1_find 89 = .ok (.aload_n 1, 1) := by decide +kernel
theorem dX1_find_90 : decode cX1_find 90 = .ok (.iload 4, 2) := by decide +kernel
theorem dX1_find_92 : decode cX1_find 92 = .ok (.iload 6, 2) := by decide +kernel
theorem dX1_find_94 : decode cX1_find 94 = .ok (.ifCond .eq 8, 3) := by decide +kernel
theorem dX1_find_97 : decode cX1_find 97 = .ok (.iload 5, 2) := by decide +kernel
theorem dX1_find_99 : decode cX1_find 99 = .ok (.goto 7, 3) := by decide +kernel
theorem dX1_find_102 : decode cX1_find 102 = .ok (.iload 5, 2) := by decide +kernel
theorem dX1_find_104 : decode cX1_find 104 = .ok (.iconst 1, 1) := by decide +kernel
theorem dX1_find_105 : decode cX1_find 105 = .ok (.isub, 1) := by decide +kernel
theorem dX1_find_106 : decode cX1_find 106 = .ok (.iload_n 2, 1) := by decide +kernel
theorem dX1_find_107 : decode cX1_find 107 = .ok (.invokevirtual 45, 3) := by decide +kernel
theorem dX1_find_110 : decode cX1_find 110 = .ok (.iconst 0, 1) := by decide +kernel
theorem dX1_find_111 : decode cX1_find 111 = .ok (.istore 4, 2) := by decide +kernel
theorem dX1_find_113 : decode cX1_find 113 = .ok (.iinc 5 1, 3) := by decide +kernel
theorem dX1_find_116 : decode cX1_find 116 = .ok (.goto (-78), 3) := by decide +kernel
theorem dX1_find_119 : decode cX1_find 119 = .ok (.return_, 1) := by decide +kernel
set_option maxRecDepth 100000 in
theorem b_X1_find_0 {E : fxE} (hW : fx_Wt E) (a0 : Nat) (a1 : Nat) (x2 : Int) (x3 : Int) (M : fxM) (Q : Option fxV → fxM → Prop) (hk0 : kd E a0 = 1) (hk1 : kd E a1 = 7) (h : ∀ M1 : fxM, M1 = mset M a0 6 0 → fx_At E m_X1_find 8 [some (.inr a0), some (.inr a1), some (.inl x2), some (.inl x3), some (.inl 0), none, none] [] M1 Q) : fx_At E m_X1_find 0 [some (.inr a0), some (.inr a1), some (.inl x2), some (.inl x3), none, none, none] [] M Q := by
  refine x_aload_n (pc := 0) dX1_find_0 rfl rfl ?_
  refine x_iconst (pc := 1) dX1_find_1 ?_
  refine x_puti (pc := 2) dX1_find_2 f_RX1_31 hk0 (fun M1 hM1 => ?_)
  replace h := h M1 hM1
  refine x_iconst (pc := 5) dX1_find_5 ?_
  refine x_istore (pc := 6) (lv' := [some (.inr a0), some (.inr a1), some (.inl x2), some (.inl x3), some (.inl 0), none, none]) dX1_find_6 (by decide) rfl ?_
  exact h
set_option maxRecDepth 100000 in
theorem b_X1_find_8 {E : fxE} (hW : fx_Wt E) (a0 : Nat) (a1 : Nat) (x2 : Int) (x3 : Int) (x4 : Int) (M : fxM) (Q : Option fxV → fxM → Prop) (hk0 : kd E a0 = 1) (hk1 : kd E a1 = 7) (h : (-2147483648 ≤ x4 ∧ x4 < 2147483648) ∧ (((401 : Int) ≤ x4 → fx_At E m_X1_find 38 [some (.inr a0), some (.inr a1), some (.inl x2), some (.inl x3), some (.inl 0), some (.inl 1), none] [] M Q) ∧ (¬ (401 : Int) ≤ x4 → (0 ≤ x4 ∧ x4 < 401) ∧ ∀ M3 : fxM, M3 = mset M (rf E a0 5) (x4.toNat) 0 → fx_At E m_X1_find 8 [some (.inr a0), some (.inr a1), some (.inl x2), some (.inl x3), some (.inl (x4 + 1)), none, none] [] M3 Q))) : fx_At E m_X1_find 8 [some (.inr a0), some (.inr a1), some (.inl x2), some (.inl x3), some (.inl x4), none, none] [] M Q := by
  refine x_iload (pc := 8) dX1_find_8 rfl ?_
  refine x_aload_n (pc := 10) dX1_find_10 rfl rfl ?_
  refine x_getr (pc := 11) dX1_find_11 f_RX1_27 hk0 ?_
  refine x_alen (pc := 14) dX1_find_14 (wk_1_5 hW hk0) (by decide) (by decide) (wl_1_5 hW hk0) ?_
  obtain ⟨g1, h⟩ := h
  refine x_cge (pc := 15) 32 dX1_find_15 (by decide) ⟨g1, ⟨by decide, by decide⟩⟩ (fun hc => ?_) (fun hc => ?_)
  · replace h := h.1 hc
    refine x_iconst (pc := 32) dX1_find_32 ?_
    refine x_istore (pc := 33) (lv' := [some (.inr a0), some (.inr a1), some (.inl x2), some (.inl x3), some (.inl 0), none, none]) dX1_find_33 (by decide) rfl ?_
    refine x_iconst (pc := 35) dX1_find_35 ?_
    refine x_istore (pc := 36) (lv' := [some (.inr a0), some (.inr a1), some (.inl x2), some (.inl x3), some (.inl 0), some (.inl 1), none]) dX1_find_36 (by decide) rfl ?_
    exact h
  · replace h := h.2 hc
    refine x_aload_n (pc := 18) dX1_find_18 rfl rfl ?_
    refine x_getr (pc := 19) dX1_find_19 f_RX1_27 hk0 ?_
    refine x_iload (pc := 22) dX1_find_22 rfl ?_
    refine x_iconst (pc := 24) dX1_find_24 ?_
    obtain ⟨g2, h⟩ := h
    refine x_zast (pc := 25) dX1_find_25 (wk_1_5 hW hk0) (wl_1_5 hW hk0) g2 (by decide) (fun M3 hM3 => ?_)
    replace h := h M3 hM3
    refine x_iinc (pc := 26) (lv' := [some (.inr a0), some (.inr a1), some (.inl x2), some (.inl x3), some (.inl (x4 + 1)), none, none]) dX1_find_26 rfl (by decide) rfl ?_
    refine x_goto (pc := 29) 8 dX1_find_29 (by decide) ?_
    exact h
set_option maxRecDepth 100000 in
theorem b_X1_find_38 {E : fxE} (hW : fx_Wt E) (a0 : Nat) (a1 : Nat) (x2 : Int) (x3 : Int) (x4 : Int) (x5 : Int) (M : fxM) (Q : Option fxV → fxM → Prop) (hk0 : kd E a0 = 1) (hk1 : kd E a1 = 7) (h : (-2147483648 ≤ x5 ∧ x5 < 2147483648) ∧ (((400 : Int) < x5 → Q none M) ∧ (¬ (400 : Int) < x5 → ∃ R2 : Int → fxM → Prop, CtI E m_X1_isMarked [.inr a1, .inl x5, .inl x2, .inl x3] M R2 ∧ ∀ (v2 : Int) (M2 : fxM), R2 v2 M2 → (-2147483648 ≤ v2 ∧ v2 < 2147483648) ∧ ((v2 = (0 : Int) → (-2147483648 ≤ x4 ∧ x4 < 2147483648) ∧ ((x4 ≤ (0 : Int) → fx_At E m_X1_find 38 [some (.inr a0), some (.inr a1), some (.inl x2), some (.inl x3), some (.inl x4), some (.inl (x5 + 1)), none] [] M2 Q) ∧ (¬ x4 ≤ (0 : Int) → ((v2 = (0 : Int) → fx_At E m_X1_find 88 [some (.inr a0), some (.inr a1), some (.inl x2), some (.inl x3), some (.inl x4), some (.inl x5), some (.inl v2)] [] M2 Q) ∧ (¬ v2 = (0 : Int) → ((¬ x5 = (400 : Int) → fx_At E m_X1_find 38 [some (.inr a0), some (.inr a1), some (.inl x2), some (.inl x3), some (.inl x4), some (.inl (x5 + 1)), none] [] M2 Q) ∧ (x5 = (400 : Int) → fx_At E m_X1_find 88 [some (.inr a0), some (.inr a1), some (.inl x2), some (.inl x3), some (.inl x4), some (.inl x5), some (.inl v2)] [] M2 Q))))))) ∧ (¬ v2 = (0 : Int) → (-2147483648 ≤ x4 ∧ x4 < 2147483648) ∧ ((¬ x4 = (0 : Int) → ((x4 ≤ (0 : Int) → fx_At E m_X1_find 38 [some (.inr a0), some (.inr a1), some (.inl x2), some (.inl x3), some (.inl x4), some (.inl (x5 + 1)), none] [] M2 Q) ∧ (¬ x4 ≤ (0 : Int) → ((v2 = (0 : Int) → fx_At E m_X1_find 88 [some (.inr a0), some (.inr a1), some (.inl x2), some (.inl x3), some (.inl x4), some (.inl x5), some (.inl v2)] [] M2 Q) ∧ (¬ v2 = (0 : Int) → ((¬ x5 = (400 : Int) → fx_At E m_X1_find 38 [some (.inr a0), some (.inr a1), some (.inl x2), some (.inl x3), some (.inl x4), some (.inl (x5 + 1)), none] [] M2 Q) ∧ (x5 = (400 : Int) → fx_At E m_X1_find 88 [some (.inr a0), some (.inr a1), some (.inl x2), some (.inl x3), some (.inl x4), some (.inl x5), some (.inl v2)] [] M2 Q))))))) ∧ (x4 = (0 : Int) → ((x5 ≤ (0 : Int) → fx_At E m_X1_find 38 [some (.inr a0), some (.inr a1), some (.inl x2), some (.inl x3), some (.inl x5), some (.inl (x5 + 1)), none] [] M2 Q) ∧ (¬ x5 ≤ (0 : Int) → ((v2 = (0 : Int) → fx_At E m_X1_find 88 [some (.inr a0), some (.inr a1), some (.inl x2), some (.inl x3), some (.inl x5), some (.inl x5), some (.inl v2)] [] M2 Q) ∧ (¬ v2 = (0 : Int) → ((¬ x5 = (400 : Int) → fx_At E m_X1_find 38 [some (.inr a0), some (.inr a1), some (.inl x2), some (.inl x3), some (.inl x5), some (.inl (x5 + 1)), none] [] M2 Q) ∧ (x5 = (400 : Int) → fx_At E m_X1_find 88 [some (.inr a0), some (.inr a1), some (.inl x2), some (.inl x3), some (.inl x5), some (.inl x5), some (.inl v2)] [] M2 Q))))))))))))) : fx_At E m_X1_find 38 [some (.inr a0), some (.inr a1), some (.inl x2), some (.inl x3), some (.inl x4), some (.inl x5), none] [] M Q := by
  refine x_iload (pc := 38) dX1_find_38 rfl ?_
  refine x_sipush (pc := 40) dX1_find_40 (by decide +kernel) ?_
  obtain ⟨g1, h⟩ := h
  refine x_cgt (pc := 43) 119 dX1_find_43 (by decide) ⟨g1, ⟨by decide, by decide⟩⟩ (fun hc => ?_) (fun hc => ?_)
  · replace h := h.1 hc
    exact x_vret (pc := 119) dX1_find_119 rfl h
  · replace h := h.2 hc
    refine x_aload_n (pc := 46) dX1_find_46 rfl rfl ?_
    refine x_iload (pc := 47) dX1_find_47 rfl ?_
    refine x_iload_n (pc := 49) dX1_find_49 rfl rfl ?_
    refine x_iload_n (pc := 50) dX1_find_50 rfl rfl ?_
    obtain ⟨R2, hc2, h⟩ := h
    refine x_callS (pc := 51) (z := m_X1_isMarked) (as := [.inr a1, .inl x5, .inl x2, .inl x3]) (rest := []) dX1_find_51 c_RX1_41 (by decide) rfl (Nat.le_of_ble_eq_true rfl) hc2 (fun r M2 hr => ?_)
    obtain ⟨v2, rfl, hr⟩ := hr
    replace h := h v2 M2 hr
    show fx_At E m_X1_find 54 [some (.inr a0), some (.inr a1), some (.inl x2), some (.inl x3), some (.inl x4), some (.inl x5), none] [.inl v2] M2 Q
    refine x_istore (pc := 54) (lv' := [some (.inr a0), some (.inr a1), some (.inl x2), some (.inl x3), some (.inl x4), some (.inl x5), some (.inl v2)]) dX1_find_54 (by decide) rfl ?_
    refine x_iload (pc := 56) dX1_find_56 rfl ?_
    obtain ⟨g3, h⟩ := h
    refine x_zeq (pc := 58) 70 dX1_find_58 (by decide) g3 (fun hc => ?_) (fun hc => ?_)
    · replace h := h.1 hc
      refine x_iload (pc := 70) dX1_find_70 rfl ?_
      obtain ⟨g4, h⟩ := h
      refine x_zle (pc := 72) 113 dX1_find_72 (by decide) g4 (fun hc => ?_) (fun hc => ?_)
      · replace h := h.1 hc
        refine x_iinc (pc := 113) (lv' := [some (.inr a0), some (.inr a1), some (.inl x2), some (.inl x3), some (.inl x4), some (.inl (x5 + 1)), some (.inl v2)]) dX1_find_113 rfl (by decide) rfl ?_
        refine x_goto (pc := 116) 38 dX1_find_116 (by decide) ?_
        refine x_weak (lv := [some (.inr a0), some (.inr a1), some (.inl x2), some (.inl x3), some (.inl x4), some (.inl (x5 + 1)), none]) (by simp [lvle]) ?_
        exact h
      · replace h := h.2 hc
        refine x_iload (pc := 75) dX1_find_75 rfl ?_
        refine x_zeq (pc := 77) 88 dX1_find_77 (by decide) g3 (fun hc => ?_) (fun hc => ?_)
        · replace h := h.1 hc
          exact h
        · replace h := h.2 hc
          refine x_iload (pc := 80) dX1_find_80 rfl ?_
          refine x_sipush (pc := 82) dX1_find_82 (by decide +kernel) ?_
          refine x_cne (pc := 85) 113 dX1_find_85 (by decide) ⟨g1, ⟨by decide, by decide⟩⟩ (fun hc => ?_) (fun hc => ?_)
          · replace h := h.1 hc
            refine x_iinc (pc := 113) (lv' := [some (.inr a0), some (.inr a1), some (.inl x2), some (.inl x3), some (.inl x4), some (.inl (x5 + 1)), some (.inl v2)]) dX1_find_113 rfl (by decide) rfl ?_
            refine x_goto (pc := 116) 38 dX1_find_116 (by decide) ?_
            refine x_weak (lv := [some (.inr a0), some (.inr a1), some (.inl x2), some (.inl x3), some (.inl x4), some (.inl (x5 + 1)), none]) (by simp [lvle]) ?_
            exact h
          · replace h := h.2 hc
            exact h
    · replace h := h.2 hc
      refine x_iload (pc := 61) dX1_find_61 rfl ?_
      obtain ⟨g5, h⟩ := h
      refine x_zne (pc := 63) 70 dX1_find_63 (by decide) g5 (fun hc => ?_) (fun hc => ?_)
      · replace h := h.1 hc
        refine x_iload (pc := 70) dX1_find_70 rfl ?_
        refine x_zle (pc := 72) 113 dX1_find_72 (by decide) g5 (fun hc => ?_) (fun hc => ?_)
        · replace h := h.1 hc
          refine x_iinc (pc := 113) (lv' := [some (.inr a0), some (.inr a1), some (.inl x2), some (.inl x3), some (.inl x4), some (.inl (x5 + 1)), some (.inl v2)]) dX1_find_113 rfl (by decide) rfl ?_
          refine x_goto (pc := 116) 38 dX1_find_116 (by decide) ?_
          refine x_weak (lv := [some (.inr a0), some (.inr a1), some (.inl x2), some (.inl x3), some (.inl x4), some (.inl (x5 + 1)), none]) (by simp [lvle]) ?_
          exact h
        · replace h := h.2 hc
          refine x_iload (pc := 75) dX1_find_75 rfl ?_
          refine x_zeq (pc := 77) 88 dX1_find_77 (by decide) g3 (fun hc => ?_) (fun hc => ?_)
          · replace h := h.1 hc
            exact h
          · replace h := h.2 hc
            refine x_iload (pc := 80) dX1_find_80 rfl ?_
            refine x_sipush (pc := 82) dX1_find_82 (by decide +kernel) ?_
            refine x_cne (pc := 85) 113 dX1_find_85 (by decide) ⟨g1, ⟨by decide, by decide⟩⟩ (fun hc => ?_) (fun hc => ?_)
            · replace h := h.1 hc
              refine x_iinc (pc := 113) (lv' := [some (.inr a0), some (.inr a1), some (.inl x2), some (.inl x3), some (.inl x4), some (.inl (x5 + 1)), some (.inl v2)]) dX1_find_113 rfl (by decide) rfl ?_
              refine x_goto (pc := 116) 38 dX1_find_116 (by decide) ?_
              refine x_weak (lv := [some (.inr a0), some (.inr a1), some (.inl x2), some (.inl x3), some (.inl x4), some (.inl (x5 + 1)), none]) (by simp [lvle]) ?_
              exact h
            · replace h := h.2 hc
              exact h
      · replace h := h.2 hc
        refine x_iload (pc := 66) dX1_find_66 rfl ?_
        refine x_istore (pc := 68) (lv' := [some (.inr a0), some (.inr a1), some (.inl x2), some (.inl x3), some (.inl x5), some (.inl x5), some (.inl v2)]) dX1_find_68 (by decide) rfl ?_
        refine x_iload (pc := 70) dX1_find_70 rfl ?_
        refine x_zle (pc := 72) 113 dX1_find_72 (by decide) g1 (fun hc => ?_) (fun hc => ?_)
        · replace h := h.1 hc
          refine x_iinc (pc := 113) (lv' := [some (.inr a0), some (.inr a1), some (.inl x2), some (.inl x3), some (.inl x5), some (.inl (x5 + 1)), some (.inl v2)]) dX1_find_113 rfl (by decide) rfl ?_
          refine x_goto (pc := 116) 38 dX1_find_116 (by decide) ?_
          refine x_weak (lv := [some (.inr a0), some (.inr a1), some (.inl x2), some (.inl x3), some (.inl x5), some (.inl (x5 + 1)), none]) (by simp [lvle]) ?_
          exact h
        · replace h := h.2 hc
          refine x_iload (pc := 75) dX1_find_75 rfl ?_
          refine x_zeq (pc := 77) 88 dX1_find_77 (by decide) g3 (fun hc => ?_) (fun hc => ?_)
          · replace h := h.1 hc
            exact h
          · replace h := h.2 hc
            refine x_iload (pc := 80) dX1_find_80 rfl ?_
            refine x_sipush (pc := 82) dX1_find_82 (by decide +kernel) ?_
            refine x_cne (pc := 85) 113 dX1_find_85 (by decide) ⟨g1, ⟨by decide, by decide⟩⟩ (fun hc => ?_) (fun hc => ?_)
            · replace h := h.1 hc
              refine x_iinc (pc := 113) (lv' := [some (.inr a0), some (.inr a1), some (.inl x2), some (.inl x3), some (.inl x5), some (.inl (x5 + 1)), some (.inl v2)]) dX1_find_113 rfl (by decide) rfl ?_
              refine x_goto (pc := 116) 38 dX1_find_116 (by decide) ?_
              refine x_weak (lv := [some (.inr a0), some (.inr a1), some (.inl x2), some (.inl x3), some (.inl x5), some (.inl (x5 + 1)), none]) (by simp [lvle]) ?_
              exact h
            · replace h := h.2 hc
              exact h
set_option maxRecDepth 100000 in
theorem b_X1_find_88 {E : fxE} (hW : fx_Wt E) (a0 : Nat) (a1 : Nat) (x2 : Int) (x3 : Int) (x4 : Int) (x5 : Int) (x6 : Int) (M : fxM) (Q : Option fxV → fxM → Prop) (hk0 : kd E a0 = 1) (hk1 : kd E a1 = 7) (h : (-2147483648 ≤ x6 ∧ x6 < 2147483648) ∧ ((x6 = (0 : Int) → ∃ R2 : fxM → Prop, CtV E m_X1_keep [.inr a0, .inr a1, .inl x4, .inl (x5 - 1), .inl x2] M R2 ∧ ∀ M2 : fxM, R2 M2 → fx_At E m_X1_find 38 [some (.inr a0), some (.inr a1), some (.inl x2), some (.inl x3), some (.inl 0), some (.inl (x5 + 1)), none] [] M2 Q) ∧ (¬ x6 = (0 : Int) → ∃ R3 : fxM → Prop, CtV E m_X1_keep [.inr a0, .inr a1, .inl x4, .inl x5, .inl x2] M R3 ∧ ∀ M3 : fxM, R3 M3 → fx_At E m_X1_find 38 [some (.inr a0), some (.inr a1), some (.inl x2), some (.inl x3), some (.inl 0), some (.inl (x5 + 1)), none] [] M3 Q))) : fx_At E m_X1_find 88 [some (.inr a0), some (.inr a1), some (.inl x2), some (.inl x3), some (.inl x4), some (.inl x5), some (.inl x6)] [] M Q := by
  refine x_aload_n (pc := 88) dX1_find_88 rfl rfl ?_
  refine x_aload_n (pc := 89) dX1_find_89 rfl rfl ?_
  refine x_iload (pc := 90) dX1_find_90 rfl ?_
  refine x_iload (pc := 92) dX1_find_92 rfl ?_
  obtain ⟨g1, h⟩ := h
  refine x_zeq (pc := 94) 102 dX1_find_94 (by decide) g1 (fun hc => ?_) (fun hc => ?_)
  · replace h := h.1 hc
    refine x_iload (pc := 102) dX1_find_102 rfl ?_
    refine x_iconst (pc := 104) dX1_find_104 ?_
    refine x_isub (pc := 105) dX1_find_105 ?_
    refine x_iload_n (pc := 106) dX1_find_106 rfl rfl ?_
    obtain ⟨R2, hc2, h⟩ := h
    refine x_callV (pc := 107) (z := m_X1_keep) (b := a0) (as := [.inr a1, .inl x4, .inl (x5 - 1), .inl x2]) (rest := []) dX1_find_107 c_RX1_45 (by decide) hk0 rfl (Nat.le_of_ble_eq_true rfl) hc2 (fun r M2 hr => ?_)
    obtain ⟨rfl, hr⟩ := hr
    replace h := h M2 hr
    show fx_At E m_X1_find 110 [some (.inr a0), some (.inr a1), some (.inl x2), some (.inl x3), some (.inl x4), some (.inl x5), some (.inl x6)] [] M2 Q
    refine x_iconst (pc := 110) dX1_find_110 ?_
    refine x_istore (pc := 111) (lv' := [some (.inr a0), some (.inr a1), some (.inl x2), some (.inl x3), some (.inl 0), some (.inl x5), some (.inl x6)]) dX1_find_111 (by decide) rfl ?_
    refine x_iinc (pc := 113) (lv' := [some (.inr a0), some (.inr a1), some (.inl x2), some (.inl x3), some (.inl 0), some (.inl (x5 + 1)), some (.inl x6)]) dX1_find_113 rfl (by decide) rfl ?_
    refine x_goto (pc := 116) 38 dX1_find_116 (by decide) ?_
    refine x_weak (lv := [some (.inr a0), some (.inr a1), some (.inl x2), some (.inl x3), some (.inl 0), some (.inl (x5 + 1)), none]) (by simp [lvle]) ?_
    exact h
  · replace h := h.2 hc
    refine x_iload (pc := 97) dX1_find_97 rfl ?_
    refine x_goto (pc := 99) 106 dX1_find_99 (by decide) ?_
    refine x_iload_n (pc := 106) dX1_find_106 rfl rfl ?_
    obtain ⟨R3, hc3, h⟩ := h
    refine x_callV (pc := 107) (z := m_X1_keep) (b := a0) (as := [.inr a1, .inl x4, .inl x5, .inl x2]) (rest := []) dX1_find_107 c_RX1_45 (by decide) hk0 rfl (Nat.le_of_ble_eq_true rfl) hc3 (fun r M3 hr => ?_)
    obtain ⟨rfl, hr⟩ := hr
    replace h := h M3 hr
    show fx_At E m_X1_find 110 [some (.inr a0), some (.inr a1), some (.inl x2), some (.inl x3), some (.inl x4), some (.inl x5), some (.inl x6)] [] M3 Q
    refine x_iconst (pc := 110) dX1_find_110 ?_
    refine x_istore (pc := 111) (lv' := [some (.inr a0), some (.inr a1), some (.inl x2), some (.inl x3), some (.inl 0), some (.inl x5), some (.inl x6)]) dX1_find_111 (by decide) rfl ?_
    refine x_iinc (pc := 113) (lv' := [some (.inr a0), some (.inr a1), some (.inl x2), some (.inl x3), some (.inl 0), some (.inl (x5 + 1)), some (.inl x6)]) dX1_find_113 rfl (by decide) rfl ?_
    refine x_goto (pc := 116) 38 dX1_find_116 (by decide) ?_
    refine x_weak (lv := [some (.inr a0), some (.inr a1), some (.inl x2), some (.inl x3), some (.inl 0), some (.inl (x5 + 1)), none]) (by simp [lvle]) ?_
    exact h
theorem dX1_deviation_0 : decode cX1_deviation 0 = .ok (.aload_n 0, 1) := by decide +kernel
theorem dX1_deviation_1 : decode cX1_deviation 1 = .ok (.iload_n 1, 1) := by decide +kernel
theorem dX1_deviation_2 : decode cX1_deviation 2 = .ok (.invokevirtual 49, 3) := by decide +kernel
theorem dX1_deviation_5 : decode cX1_deviation 5 = .ok (.aload_n 0, 1) := by decide +kernel
theorem dX1_deviation_6 : decode cX1_deviation 6 = .ok (.iload_n 1, 1) := by decide +kernel
theorem dX1_deviation_7 : decode cX1_deviation 7 = .ok (.iconst 1, 1) := by decide +kernel
theorem dX1_deviation_8 : decode cX1_deviation 8 = .ok (.isub, 1) := by decide +kernel
theorem dX1_deviation_9 : decode cX1_deviation 9 = .ok (.invokevirtual 49, 3) := by decide +kernel
theorem dX1_deviation_12 : decode cX1_deviation 12 = .ok (.isub, 1) := by decide +kernel
theorem dX1_deviation_13 : decode cX1_deviation 13 = .ok (.iload_n 2, 1) := by decide +kernel
theorem dX1_deviation_14 : decode cX1_deviation 14 = .ok (.iadd, 1) := by decide +kernel
theorem dX1_deviation_15 : decode cX1_deviation 15 = .ok (.ireturn, 1) := by decide +kernel
set_option maxRecDepth 100000 in
theorem b_X1_deviation_0 {E : fxE} (hW : fx_Wt E) (a0 : Nat) (x1 : Int) (x2 : Int) (M : fxM) (Q : Option fxV → fxM → Prop) (hk0 : kd E a0 = 7) (h : (-2147483648 ≤ x1 ∧ x1 < 2147483648) ∧ (-2147483648 ≤ (x1 - 1) ∧ (x1 - 1) < 2147483648) ∧ Q (some (.inl (((tat E M a0 x1) - (tat E M a0 (x1 - 1))) + x2))) M) : fx_At E m_X1_deviation 0 [some (.inr a0), some (.inl x1), some (.inl x2)] [] M Q := by
  refine x_aload_n (pc := 0) dX1_deviation_0 rfl rfl ?_
  refine x_iload_n (pc := 1) dX1_deviation_1 rfl rfl ?_
  obtain ⟨g1, h⟩ := h
  refine x_callV (pc := 2) (z := m_X7_at) (b := a0) (as := [.inl x1]) (rest := []) dX1_deviation_2 c_RX1_49 (by decide) hk0 rfl (Nat.le_of_ble_eq_true rfl) (ct_X7_at hW hk0 g1) (fun r M9 hr => ?_)
  obtain ⟨hM9, hr⟩ := hr
  rw [hM9, hr]
  clear hM9 hr
  show fx_At E m_X1_deviation 5 [some (.inr a0), some (.inl x1), some (.inl x2)] [.inl (tat E M a0 x1)] _ Q
  refine x_aload_n (pc := 5) dX1_deviation_5 rfl rfl ?_
  refine x_iload_n (pc := 6) dX1_deviation_6 rfl rfl ?_
  refine x_iconst (pc := 7) dX1_deviation_7 ?_
  refine x_isub (pc := 8) dX1_deviation_8 ?_
  obtain ⟨g2, h⟩ := h
  refine x_callV (pc := 9) (z := m_X7_at) (b := a0) (as := [.inl (x1 - 1)]) (rest := [.inl (tat E M a0 x1)]) dX1_deviation_9 c_RX1_49 (by decide) hk0 rfl (Nat.le_of_ble_eq_true rfl) (ct_X7_at hW hk0 g2) (fun r M9 hr => ?_)
  obtain ⟨hM9, hr⟩ := hr
  rw [hM9, hr]
  clear hM9 hr
  show fx_At E m_X1_deviation 12 [some (.inr a0), some (.inl x1), some (.inl x2)] [.inl (tat E M a0 (x1 - 1)), .inl (tat E M a0 x1)] _ Q
  refine x_isub (pc := 12) dX1_deviation_12 ?_
  refine x_iload_n (pc := 13) dX1_deviation_13 rfl rfl ?_
  refine x_iadd (pc := 14) dX1_deviation_14 ?_
  exact x_iret (pc := 15) dX1_deviation_15 (Or.inl rfl) h
theorem dX1_isMarked_0 : decode cX1_isMarked 0 = .ok (.aload_n 0, 1) := by decide +kernel
theorem dX1_isMarked_1 : decode cX1_isMarked 1 = .ok (.iload_n 1, 1) := by decide +kernel
theorem dX1_isMarked_2 : decode cX1_isMarked 2 = .ok (.iload_n 2, 1) := by decide +kernel
theorem dX1_isMarked_3 : decode cX1_isMarked 3 = .ok (.invokestatic 55, 3) := by decide +kernel
theorem dX1_isMarked_6 : decode cX1_isMarked 6 = .ok (.istore 4, 2) := by decide +kernel
theorem dX1_isMarked_8 : decode cX1_isMarked 8 = .ok (.iload 4, 2) := by decide +kernel
theorem dX1_isMarked_10 : decode cX1_isMarked 10 = .ok (.iload_n 3, 1) := by decide +kernel
theorem dX1_isMarked_11 : decode cX1_isMarked 11 = .ok (.if_icmp .ge 10, 3) := by decide +kernel
theorem dX1_isMarked_14 : decode cX1_isMarked 14 = .ok (.iload 4, 2) := by decide +kernel
theorem dX1_isMarked_16 : decode cX1_isMarked 16 = .ok (.iload_n 3, 1) := by decide +kernel
theorem dX1_isMarked_17 : decode cX1_isMarked 17 = .ok (.ineg, 1) := by decide +kernel
theorem dX1_isMarked_18 : decode cX1_isMarked 18 = .ok (.if_icmp .gt 31, 3) := by decide +kernel
theorem dX1_isMarked_21 : decode cX1_isMarked 21 = .ok (.aload_n 0, 1) := by decide +kernel
theorem dX1_isMarked_22 : decode cX1_isMarked 22 = .ok (.iload_n 1, 1) := by decide +kernel
theorem dX1_isMarked_23 : decode cX1_isMarked 23 = .ok (.invokevirtual 49, 3) := by decide +kernel
theorem dX1_isMarked_26 : decode cX1_isMarked 26 = .ok (.sipush 5000, 3) := by decide +kernel
theorem dX1_isMarked_29 : decode cX1_isMarked 29 = .ok (.if_icmp .gt 16, 3) := by decide +kernel
theorem dX1_isMarked_32 : decode cX1_isMarked 32 = .ok (.aload_n 0, 1) := by decide +kernel
theorem dX1_isMarked_33 : decode cX1_isMarked 33 = .ok (.iload_n 1, 1) := by decide +kernel
theorem dX1_isMarked_34 : decode cX1_isMarked 34 = .ok (.iconst 1, 1) := by decide +kernel
theorem dX1_isMarked_35 : decode cX1_isMarked 35 = .ok (.isub, 1) := by decide +kernel
theorem dX1_isMarked_36 : decode cX1_isMarked 36 = .ok (.invokevirtual 49, 3) := by decide +kernel
theorem dX1_isMarked_39 : decode cX1_isMarked 39 = .ok (.sipush 5000, 3) := by decide +kernel
theorem dX1_isMarked_42 : decode cX1_isMarked 42 = .ok (.if_icmp .le 7, 3) := by decide +kernel
theorem dX1_isMarked_45 : decode cX1_isMarked 45 = .ok (.iconst 1, 1) := by decide +kernel
theorem dX1_isMarked_46 : decode cX1_isMarked 46 = .ok (.goto 4, 3) := by decide +kernel
theorem dX1_isMarked_49 : decode cX1_isMarked 49 = .ok (.iconst 0, 1) := by decide +kernel
theorem dX1_isMarked_50 : decode cX1_isMarked 50 = .ok (.ireturn, 1) := by decide +kernel
set_option maxRecDepth 100000 in
theorem b_X1_isMarked_0 {E : fxE} (hW : fx_Wt E) (a0 : Nat) (x1 : Int) (x2 : Int) (x3 : Int) (M : fxM) (Q : Option fxV → fxM → Prop) (hk0 : kd E a0 = 7) (h : ∃ R1 : Int → fxM → Prop, CtI E m_X1_deviation [.inr a0, .inl x1, .inl x2] M R1 ∧ ∀ (v1 : Int) (M1 : fxM), R1 v1 M1 → (-2147483648 ≤ v1 ∧ v1 < 2147483648) ∧ (-2147483648 ≤ x3 ∧ x3 < 2147483648) ∧ ((x3 ≤ v1 → fx_At E m_X1_isMarked 21 [some (.inr a0), some (.inl x1), some (.inl x2), some (.inl x3), some (.inl v1)] [] M1 Q) ∧ (¬ x3 ≤ v1 → (-2147483648 ≤ (-x3) ∧ (-x3) < 2147483648) ∧ (((-x3) < v1 → Q (some (.inl 0)) M1) ∧ (¬ (-x3) < v1 → fx_At E m_X1_isMarked 21 [some (.inr a0), some (.inl x1), some (.inl x2), some (.inl x3), some (.inl v1)] [] M1 Q))))) : fx_At E m_X1_isMarked 0 [some (.inr a0), some (.inl x1), some (.inl x2), some (.inl x3), none] [] M Q := by
  refine x_aload_n (pc := 0) dX1_isMarked_0 rfl rfl ?_
  refine x_iload_n (pc := 1) dX1_isMarked_1 rfl rfl ?_
  refine x_iload_n (pc := 2) dX1_isMarked_2 rfl rfl ?_
  obtain ⟨R1, hc1, h⟩ := h
  refine x_callS (pc := 3) (z := m_X1_deviation) (as := [.inr a0, .inl x1, .inl x2]) (rest := []) dX1_isMarked_3 c_RX1_55 (by decide) rfl (Nat.le_of_ble_eq_true rfl) hc1 (fun r M1 hr => ?_)
  obtain ⟨v1, rfl, hr⟩ := hr
  replace h := h v1 M1 hr
  show fx_At E m_X1_isMarked 6 [some (.inr a0), some (.inl x1), some (.inl x2), some (.inl x3), none] [.inl v1] M1 Q
  refine x_istore (pc := 6) (lv' := [some (.inr a0), some (.inl x1), some (.inl x2), some (.inl x3), some (.inl v1)]) dX1_isMarked_6 (by decide) rfl ?_
  refine x_iload (pc := 8) dX1_isMarked_8 rfl ?_
  refine x_iload_n (pc := 10) dX1_isMarked_10 rfl rfl ?_
  obtain ⟨g2, h⟩ := h
  obtain ⟨g3, h⟩ := h
  refine x_cge (pc := 11) 21 dX1_isMarked_11 (by decide) ⟨g2, g3⟩ (fun hc => ?_) (fun hc => ?_)
  · replace h := h.1 hc
    exact h
  · replace h := h.2 hc
    refine x_iload (pc := 14) dX1_isMarked_14 rfl ?_
    refine x_iload_n (pc := 16) dX1_isMarked_16 rfl rfl ?_
    refine x_ineg (pc := 17) dX1_isMarked_17 ?_
    obtain ⟨g4, h⟩ := h
    refine x_cgt (pc := 18) 49 dX1_isMarked_18 (by decide) ⟨g2, g4⟩ (fun hc => ?_) (fun hc => ?_)
    · replace h := h.1 hc
      refine x_iconst (pc := 49) dX1_isMarked_49 ?_
      exact x_iret (pc := 50) dX1_isMarked_50 (Or.inr ⟨rfl, by decide⟩) h
    · replace h := h.2 hc
      exact h
set_option maxRecDepth 100000 in
theorem b_X1_isMarked_21 {E : fxE} (hW : fx_Wt E) (a0 : Nat) (x1 : Int) (x2 : Int) (x3 : Int) (x4 : Int) (M : fxM) (Q : Option fxV → fxM → Prop) (hk0 : kd E a0 = 7) (h : (-2147483648 ≤ x1 ∧ x1 < 2147483648) ∧ (-2147483648 ≤ (tat E M a0 x1) ∧ (tat E M a0 x1) < 2147483648) ∧ (((5000 : Int) < (tat E M a0 x1) → Q (some (.inl 1)) M) ∧ (¬ (5000 : Int) < (tat E M a0 x1) → (-2147483648 ≤ (x1 - 1) ∧ (x1 - 1) < 2147483648) ∧ (-2147483648 ≤ (tat E M a0 (x1 - 1)) ∧ (tat E M a0 (x1 - 1)) < 2147483648) ∧ (((tat E M a0 (x1 - 1)) ≤ (5000 : Int) → Q (some (.inl 0)) M) ∧ (¬ (tat E M a0 (x1 - 1)) ≤ (5000 : Int) → Q (some (.inl 1)) M))))) : fx_At E m_X1_isMarked 21 [some (.inr a0), some (.inl x1), some (.inl x2), some (.inl x3), some (.inl x4)] [] M Q := by
  refine x_aload_n (pc := 21) dX1_isMarked_21 rfl rfl ?_
  refine x_iload_n (pc := 22) dX1_isMarked_22 rfl rfl ?_
  obtain ⟨g1, h⟩ := h
  refine x_callV (pc := 23) (z := m_X7_at) (b := a0) (as := [.inl x1]) (rest := []) dX1_isMarked_23 c_RX1_49 (by decide) hk0 rfl (Nat.le_of_ble_eq_true rfl) (ct_X7_at hW hk0 g1) (fun r M9 hr => ?_)
  obtain ⟨hM9, hr⟩ := hr
  rw [hM9, hr]
  clear hM9 hr
  show fx_At E m_X1_isMarked 26 [some (.inr a0), some (.inl x1), some (.inl x2), some (.inl x3), some (.inl x4)] [.inl (tat E M a0 x1)] _ Q
  refine x_sipush (pc := 26) dX1_isMarked_26 (by decide +kernel) ?_
  obtain ⟨g2, h⟩ := h
  refine x_cgt (pc := 29) 45 dX1_isMarked_29 (by decide) ⟨g2, ⟨by decide, by decide⟩⟩ (fun hc => ?_) (fun hc => ?_)
  · replace h := h.1 hc
    refine x_iconst (pc := 45) dX1_isMarked_45 ?_
    refine x_goto (pc := 46) 50 dX1_isMarked_46 (by decide) ?_
    exact x_iret (pc := 50) dX1_isMarked_50 (Or.inr ⟨rfl, by decide⟩) h
  · replace h := h.2 hc
    refine x_aload_n (pc := 32) dX1_isMarked_32 rfl rfl ?_
    refine x_iload_n (pc := 33) dX1_isMarked_33 rfl rfl ?_
    refine x_iconst (pc := 34) dX1_isMarked_34 ?_
    refine x_isub (pc := 35) dX1_isMarked_35 ?_
    obtain ⟨g3, h⟩ := h
    refine x_callV (pc := 36) (z := m_X7_at) (b := a0) (as := [.inl (x1 - 1)]) (rest := []) dX1_isMarked_36 c_RX1_49 (by decide) hk0 rfl (Nat.le_of_ble_eq_true rfl) (ct_X7_at hW hk0 g3) (fun r M9 hr => ?_)
    obtain ⟨hM9, hr⟩ := hr
    rw [hM9, hr]
    clear hM9 hr
    show fx_At E m_X1_isMarked 39 [some (.inr a0), some (.inl x1), some (.inl x2), some (.inl x3), some (.inl x4)] [.inl (tat E M a0 (x1 - 1))] _ Q
    refine x_sipush (pc := 39) dX1_isMarked_39 (by decide +kernel) ?_
    obtain ⟨g4, h⟩ := h
    refine x_cle (pc := 42) 49 dX1_isMarked_42 (by decide) ⟨g4, ⟨by decide, by decide⟩⟩ (fun hc => ?_) (fun hc => ?_)
    · replace h := h.1 hc
      refine x_iconst (pc := 49) dX1_isMarked_49 ?_
      exact x_iret (pc := 50) dX1_isMarked_50 (Or.inr ⟨rfl, by decide⟩) h
    · replace h := h.2 hc
      refine x_iconst (pc := 45) dX1_isMarked_45 ?_
      refine x_goto (pc := 46) 50 dX1_isMarked_46 (by decide) ?_
      exact x_iret (pc := 50) dX1_isMarked_50 (Or.inr ⟨rfl, by decide⟩) h
theorem dX1_keep_0 : decode cX1_keep 0 = .ok (.aload_n 0, 1) := by decide +kernel
theorem dX1_keep_1 : decode cX1_keep 1 = .ok (.getfield 31, 3) := by decide +kernel
theorem dX1_keep_4 : decode cX1_keep 4 = .ok (.ifCond .lt 27, 3) := by decide +kernel
theorem dX1_keep_7 : decode cX1_keep 7 = .ok (.aload_n 0, 1) := by decide +kernel
theorem dX1_keep_8 : decode cX1_keep 8 = .ok (.getfield 31, 3) := by decide +kernel
theorem dX1_keep_11 : decode cX1_keep 11 = .ok (.sipush 200, 3) := by decide +kernel
theorem dX1_keep_14 : decode cX1_keep 14 = .ok (.if_icmp .ge 17, 3) := by decide +kernel
theorem dX1_keep_17 : decode cX1_keep 17 = .ok (.iload_n 2, 1) := by decide +kernel
theorem dX1_keep_18 : decode cX1_keep 18 = .ok (.iconst 1, 1) := by decide +kernel
theorem dX1_keep_19 : decode cX1_keep 19 = .ok (.if_icmp .lt 12, 3) := by decide +kernel
theorem dX1_keep_22 : decode cX1_keep 22 = .ok (.iload_n 2, 1) := by decide +kernel
theorem dX1_keep_23 : decode cX1_keep 23 = .ok (.aload_n 0, 1) := by decide +kernel
theorem dX1_keep_24 : decode cX1_keep 24 = .ok (.getfield 27, 3) := by decide +kernel
theorem dX1_keep_27 : decode cX1_keep 27 = .ok (.arraylength, 1) := by decide +kernel
theorem dX1_keep_28 : decode cX1_keep 28 = .ok (.if_icmp .lt 4, 3) := by decide +kernel
theorem dX1_keep_31 : decode cX1_keep 31 = .ok (.return_, 1) := by decide +kernel
theorem dX1_keep_32 : decode cX1_keep 32 = .ok (.aload_n 1, 1) := by decide +kernel
theorem dX1_keep_33 : decode cX1_keep 33 = .ok (.iload_n 2, 1) := by decide +kernel
theorem dX1_keep_34 : decode cX1_keep 34 = .ok (.iconst 1, 1) := by decide +kernel
theorem dX1_keep_35 : decode cX1_keep 35 = .ok (.isub, 1) := by decide +kernel
theorem dX1_keep_36 : decode cX1_keep 36 = .ok (.invokevirtual 49, 3) := by decide +kernel
theorem dX1_keep_39 : decode cX1_keep 39 = .ok (.istore 5, 2) := by decide +kernel
theorem dX1_keep_41 : decode cX1_keep 41 = .ok (.aload_n 1, 1) := by decide +kernel
theorem dX1_keep_42 : decode cX1_keep 42 = .ok (.iload_n 2, 1) := by decide +kernel
theorem dX1_keep_43 : decode cX1_keep 43 = .ok (.invokevirtual 49, 3) := by decide +kernel
theorem dX1_keep_46 : decode cX1_keep 46 = .ok (.istore 6, 2) := by decide +kernel
theorem dX1_keep_48 : decode cX1_keep 48 = .ok (.iload_n 2, 1) := by decide +kernel
theorem dX1_keep_49 : decode cX1_keep 49 = .ok (.iconst 1, 1) := by decide +kernel
theorem dX1_keep_50 : decode cX1_keep 50 = .ok (.iadd, 1) := by decide +kernel
theorem dX1_keep_51 : decode cX1_keep 51 = .ok (.istore 7, 2) := by decide +kernel
theorem dX1_keep_53 : decode cX1_keep 53 = .ok (.iload 7, 2) := by decide +kernel
theorem dX1_keep_55 : decode cX1_keep 55 = .ok (.iload_n 3, 1) := by decide +kernel
theorem dX1_keep_56 : decode cX1_keep 56 = .ok (.if_icmp .gt 22, 3) := by decide +kernel
theorem dX1_keep_59 : decode cX1_keep 59 = .ok (.iload 6, 2) := by decide +kernel
theorem dX1_keep_61 : decode cX1_keep 61 = .ok (.aload_n 1, 1) := by decide +kernel
theorem dX1_keep_62 : decode cX1_keep 62 = .ok (.iload 7, 2) := by decide +kernel
theorem dX1_keep_64 : decode cX1_keep 64 = .ok (.invokevirtual 49, 3) := by decide +kernel
theorem dX1_keep_67 : decode cX1_keep 67 = .ok (.invokestatic 59, 3) := by decide +kernel
theorem dX1_keep_70 : decode cX1_keep 70 = .ok (.istore 6, 2) := by decide +kernel
theorem dX1_keep_72 : decode cX1_keep 72 = .ok (.iinc 7 1, 3) := by decide +kernel
theorem dX1_keep_75 : decode cX1_keep 75 = .ok (.goto (-22), 3) := by decide +kernel
theorem dX1_keep_78 : decode cX1_keep 78 = .ok (.aload_n 1, 1) := by decide +kernel
theorem dX1_keep_79 : decode cX1_keep 79 = .ok (.iload_n 2, 1) := by decide +kernel
theorem dX1_keep_80 : decode cX1_keep 80 = .ok (.iload 4, 2) := by decide +kernel
theorem dX1_keep_82 : decode cX1_keep 82 = .ok (.invokestatic 55, 3) := by decide +kernel
theorem dX1_keep_85 : decode cX1_keep 85 = .ok (.ifCond .le 7, 3) := by decide +kernel
theorem dX1_keep_88 : decode cX1_keep 88 = .ok (.iconst 1, 1) := by decide +kernel
theorem dX1_keep_89 : decode cX1_keep 89 = .ok (.goto 4, 3) := by decide +kernel
theorem dX1_keep_92 : decode cX1_keep 92 = .ok (.iconst 0, 1) := by decide +kernel
theorem dX1_keep_93 : decode cX1_keep 93 = .ok (.istore 7, 2) := by decide +kernel
theorem dX1_keep_95 : decode cX1_keep 95 = .ok (.aload_n 0, 1) := by decide +kernel
theorem dX1_keep_96 : decode cX1_keep 96 = .ok (.getfield 27, 3) := by decide +kernel
theorem dX1_keep_99 : decode cX1_keep 99 = .ok (.iload_n 2, 1) := by decide +kernel
theorem dX1_keep_100 : decode cX1_keep 100 = .ok (.iload 7, 2) := by decide +kernel
theorem dX1_keep_102 : decode cX1_keep 102 = .ok (.bastore, 1) := by decide +kernel
theorem dX1_keep_103 : decode cX1_keep 103 = .ok (.aload_n 0, 1) := by decide +kernel
theorem dX1_keep_104 : decode cX1_keep 104 = .ok (.getfield 9, 3) := by decide +kernel
theorem dX1_keep_107 : decode cX1_keep 107 = .ok (.aload_n 0, 1) := by decide +kernel
theorem dX1_keep_108 : decode cX1_keep 108 = .ok (.getfield 31, 3) := by decide +kernel
theorem dX1_keep_111 : decode cX1_keep 111 = .ok (.iload_n 2, 1) := by decide +kernel
theorem dX1_keep_112 : decode cX1_keep 112 = .ok (.iastore, 1) := by decide +kernel
theorem dX1_keep_113 : decode cX1_keep 113 = .ok (.aload_n 0, 1) := by decide +kernel
theorem dX1_keep_114 : decode cX1_keep 114 = .ok (.getfield 15, 3) := by decide +kernel
theorem dX1_keep_117 : decode cX1_keep 117 = .ok (.aload_n 0, 1) := by decide +kernel
theorem dX1_keep_118 : decode cX1_keep 118 = .ok (.getfield 31, 3) := by decide +kernel
theorem dX1_keep_121 : decode cX1_keep 121 = .ok (.iload_n 3, 1) := by decide +kernel
theorem dX1_keep_122 : decode cX1_keep 122 = .ok (.iastore, 1) := by decide +kernel
theorem dX1_keep_123 : decode cX1_keep 123 = .ok (.aload_n 0, 1) := by decide +kernel
theorem dX1_keep_124 : decode cX1_keep 124 = .ok (.getfield 18, 3) := by decide +kernel
theorem dX1_keep_127 : decode cX1_keep 127 = .ok (.aload_n 0, 1) := by decide +kernel
theorem dX1_keep_128 : decode cX1_keep 128 = .ok (.getfield 31, 3) := by decide +kernel
theorem dX1_keep_131 : decode cX1_keep 131 = .ok (.aload_n 1, 1) := by decide +kernel
theorem dX1_keep_132 : decode cX1_keep 132 = .ok (.iload_n 3, 1) := by decide +kernel
theorem dX1_keep_133 : decode cX1_keep 133 = .ok (.invokevirtual 49, 3) := by decide +kernel
theorem dX1_keep_136 : decode cX1_keep 136 = .ok (.sipush 5000, 3) := by decide +kernel
theorem dX1_keep_139 : decode cX1_keep 139 = .ok (.if_icmp .ne 7, 3) := by decide +kernel
theorem dX1_keep_142 : decode cX1_keep 142 = .ok (.iconst 2, 1) := by decide +kernel
theorem dX1_keep_143 : decode cX1_keep 143 = .ok (.goto 13, 3) := by decide +kernel
theorem dX1_keep_146 : decode cX1_keep 146 = .ok (.iload 7, 2) := by decide +kernel
theorem dX1_keep_148 : decode cX1_keep 148 = .ok (.ifCond .eq 7, 3) := by decide +kernel
theorem dX1_keep_151 : decode cX1_keep 151 = .ok (.iconst 1, 1) := by decide +kernel
theorem dX1_keep_152 : decode cX1_keep 152 = .ok (.goto 4, 3) := by decide +kernel
theorem dX1_keep_155 : decode cX1_keep 155 = .ok (.iconst 0, 1) := by decide +kernel
theorem dX1_keep_156 : decode cX1_keep 156 = .ok (.iastore, 1) := by decide +kernel
theorem dX1_keep_157 : decode cX1_keep 157 = .ok (.aload_n 0, 1) := by decide +kernel
theorem dX1_keep_158 : decode cX1_keep 158 = .ok (.getfield 21, 3) := by decide +kernel
theorem dX1_keep_161 : decode cX1_keep 161 = .ok (.aload_n 0, 1) := by decide +kernel
theorem dX1_keep_162 : decode cX1_keep 162 = .ok (.getfield 31, 3) := by decide +kernel
theorem dX1_keep_165 : decode cX1_keep 165 = .ok (.iload 5, 2) := by decide +kernel
theorem dX1_keep_167 : decode cX1_keep 167 = .ok (.aload_n 1, 1) := by decide +kernel
theorem dX1_keep_168 : decode cX1_keep 168 = .ok (.iload_n 3, 1) := by decide +kernel
theorem dX1_keep_169 : decode cX1_keep 169 = .ok (.invokevirtual 49, 3) := by decide +kernel
theorem dX1_keep_172 : decode cX1_keep 172 = .ok (.isub, 1) := by decide +kernel
theorem dX1_keep_173 : decode cX1_keep 173 = .ok (.iload 4, 2) := by decide +kernel
theorem dX1_keep_175 : decode cX1_keep 175 = .ok (.iload_n 3, 1) := by decide +kernel
theorem dX1_keep_176 : decode cX1_keep 176 = .ok (.iload_n 2, 1) := by decide +kernel
theorem dX1_keep_177 : decode cX1_keep 177 = .ok (.isub, 1) := by decide +kernel
theorem dX1_keep_178 : decode cX1_keep 178 = .ok (.iconst 1, 1) := by decide +kernel
theorem dX1_keep_179 : decode cX1_keep 179 = .ok (.iadd, 1) := by decide +kernel
theorem dX1_keep_180 : decode cX1_keep 180 = .ok (.imul, 1) := by decide +kernel
theorem dX1_keep_181 : decode cX1_keep 181 = .ok (.isub, 1) := by decide +kernel
theorem dX1_keep_182 : decode cX1_keep 182 = .ok (.iastore, 1) := by decide +kernel
theorem dX1_keep_183 : decode cX1_keep 183 = .ok (.aload_n 0, 1) := by decide +kernel
theorem dX1_keep_184 : decode cX1_keep 184 = .ok (.getfield 24, 3) := by decide +kernel
theorem dX1_keep_187 : decode cX1_keep 187 = .ok (.aload_n 0, 1) := by decide +kernel
theorem dX1_keep_188 : decode cX1_keep 188 = .ok (.getfield 31, 3) := by decide +kernel
theorem dX1_keep_191 : decode cX1_keep 191 = .ok (.iload 6, 2) := by decide +kernel
theorem dX1_keep_193 : decode cX1_keep 193 = .ok (.iload 5, 2) := by decide +kernel
theorem dX1_keep_195 : decode cX1_keep 195 = .ok (.isub, 1) := by decide +kernel
theorem dX1_keep_196 : decode cX1_keep 196 = .ok (.iastore, 1) := by decide +kernel
theorem dX1_keep_197 : decode cX1_keep 197 = .ok (.aload_n 0, 1) := by decide +kernel
theorem dX1_keep_198 : decode cX1_keep 198 = .ok (.dup, 1) := by decide +kernel
theorem dX1_keep_199 : decode cX1_keep 199 = .ok (.getfield 31, 3) := by decide +kernel
theorem dX1_keep_202 : decode cX1_keep 202 = .ok (.iconst 1, 1) := by decide +kernel
theorem dX1_keep_203 : decode cX1_keep 203 = .ok (.iadd, 1) := by decide +kernel
theorem dX1_keep_204 : decode cX1_keep 204 = .ok (.putfield 31, 3) := by decide +kernel
theorem dX1_keep_207 : decode cX1_keep 207 = .ok (.return_, 1) := by decide +kernel
set_option maxRecDepth 100000 in
theorem b_X1_keep_0 {E : fxE} (hW : fx_Wt E) (a0 : Nat) (a1 : Nat) (x2 : Int) (x3 : Int) (x4 : Int) (M : fxM) (Q : Option fxV → fxM → Prop) (hk0 : kd E a0 = 1) (hk1 : kd E a1 = 7) (h : (-2147483648 ≤ (M a0 6) ∧ (M a0 6) < 2147483648) ∧ (((M a0 6) < (0 : Int) → Q none M) ∧ (¬ (M a0 6) < (0 : Int) → (((200 : Int) ≤ (M a0 6) → Q none M) ∧ (¬ (200 : Int) ≤ (M a0 6) → (-2147483648 ≤ x2 ∧ x2 < 2147483648) ∧ ((x2 < (1 : Int) → Q none M) ∧ (¬ x2 < (1 : Int) → ((x2 < (401 : Int) → (-2147483648 ≤ (x2 - 1) ∧ (x2 - 1) < 2147483648) ∧ fx_At E m_X1_keep 53 [some (.inr a0), some (.inr a1), some (.inl x2), some (.inl x3), some (.inl x4), some (.inl (tat E M a1 (x2 - 1))), some (.inl (tat E M a1 x2)), some (.inl (x2 + 1))] [] M Q) ∧ (¬ x2 < (401 : Int) → Q none M))))))))) : fx_At E m_X1_keep 0 [some (.inr a0), some (.inr a1), some (.inl x2), some (.inl x3), some (.inl x4), none, none, none] [] M Q := by
  refine x_aload_n (pc := 0) dX1_keep_0 rfl rfl ?_
  refine x_geti (pc := 1) dX1_keep_1 f_RX1_31 hk0 ?_
  obtain ⟨g1, h⟩ := h
  refine x_zlt (pc := 4) 31 dX1_keep_4 (by decide) g1 (fun hc => ?_) (fun hc => ?_)
  · replace h := h.1 hc
    exact x_vret (pc := 31) dX1_keep_31 rfl h
  · replace h := h.2 hc
    refine x_aload_n (pc := 7) dX1_keep_7 rfl rfl ?_
    refine x_geti (pc := 8) dX1_keep_8 f_RX1_31 hk0 ?_
    refine x_sipush (pc := 11) dX1_keep_11 (by decide +kernel) ?_
    refine x_cge (pc := 14) 31 dX1_keep_14 (by decide) ⟨g1, ⟨by decide, by decide⟩⟩ (fun hc => ?_) (fun hc => ?_)
    · replace h := h.1 hc
      exact x_vret (pc := 31) dX1_keep_31 rfl h
    · replace h := h.2 hc
      refine x_iload_n (pc := 17) dX1_keep_17 rfl rfl ?_
      refine x_iconst (pc := 18) dX1_keep_18 ?_
      obtain ⟨g2, h⟩ := h
      refine x_clt (pc := 19) 31 dX1_keep_19 (by decide) ⟨g2, ⟨by decide, by decide⟩⟩ (fun hc => ?_) (fun hc => ?_)
      · replace h := h.1 hc
        exact x_vret (pc := 31) dX1_keep_31 rfl h
      · replace h := h.2 hc
        refine x_iload_n (pc := 22) dX1_keep_22 rfl rfl ?_
        refine x_aload_n (pc := 23) dX1_keep_23 rfl rfl ?_
        refine x_getr (pc := 24) dX1_keep_24 f_RX1_27 hk0 ?_
        refine x_alen (pc := 27) dX1_keep_27 (wk_1_5 hW hk0) (by decide) (by decide) (wl_1_5 hW hk0) ?_
        refine x_clt (pc := 28) 32 dX1_keep_28 (by decide) ⟨g2, ⟨by decide, by decide⟩⟩ (fun hc => ?_) (fun hc => ?_)
        · replace h := h.1 hc
          refine x_aload_n (pc := 32) dX1_keep_32 rfl rfl ?_
          refine x_iload_n (pc := 33) dX1_keep_33 rfl rfl ?_
          refine x_iconst (pc := 34) dX1_keep_34 ?_
          refine x_isub (pc := 35) dX1_keep_35 ?_
          obtain ⟨g3, h⟩ := h
          refine x_callV (pc := 36) (z := m_X7_at) (b := a1) (as := [.inl (x2 - 1)]) (rest := []) dX1_keep_36 c_RX1_49 (by decide) hk1 rfl (Nat.le_of_ble_eq_true rfl) (ct_X7_at hW hk1 g3) (fun r M9 hr => ?_)
          obtain ⟨hM9, hr⟩ := hr
          rw [hM9, hr]
          clear hM9 hr
          show fx_At E m_X1_keep 39 [some (.inr a0), some (.inr a1), some (.inl x2), some (.inl x3), some (.inl x4), none, none, none] [.inl (tat E M a1 (x2 - 1))] _ Q
          refine x_istore (pc := 39) (lv' := [some (.inr a0), some (.inr a1), some (.inl x2), some (.inl x3), some (.inl x4), some (.inl (tat E M a1 (x2 - 1))), none, none]) dX1_keep_39 (by decide) rfl ?_
          refine x_aload_n (pc := 41) dX1_keep_41 rfl rfl ?_
          refine x_iload_n (pc := 42) dX1_keep_42 rfl rfl ?_
          refine x_callV (pc := 43) (z := m_X7_at) (b := a1) (as := [.inl x2]) (rest := []) dX1_keep_43 c_RX1_49 (by decide) hk1 rfl (Nat.le_of_ble_eq_true rfl) (ct_X7_at hW hk1 g2) (fun r M9 hr => ?_)
          obtain ⟨hM9, hr⟩ := hr
          rw [hM9, hr]
          clear hM9 hr
          show fx_At E m_X1_keep 46 [some (.inr a0), some (.inr a1), some (.inl x2), some (.inl x3), some (.inl x4), some (.inl (tat E M a1 (x2 - 1))), none, none] [.inl (tat E M a1 x2)] _ Q
          refine x_istore (pc := 46) (lv' := [some (.inr a0), some (.inr a1), some (.inl x2), some (.inl x3), some (.inl x4), some (.inl (tat E M a1 (x2 - 1))), some (.inl (tat E M a1 x2)), none]) dX1_keep_46 (by decide) rfl ?_
          refine x_iload_n (pc := 48) dX1_keep_48 rfl rfl ?_
          refine x_iconst (pc := 49) dX1_keep_49 ?_
          refine x_iadd (pc := 50) dX1_keep_50 ?_
          refine x_istore (pc := 51) (lv' := [some (.inr a0), some (.inr a1), some (.inl x2), some (.inl x3), some (.inl x4), some (.inl (tat E M a1 (x2 - 1))), some (.inl (tat E M a1 x2)), some (.inl (x2 + 1))]) dX1_keep_51 (by decide) rfl ?_
          exact h
        · replace h := h.2 hc
          exact x_vret (pc := 31) dX1_keep_31 rfl h
set_option maxRecDepth 100000 in
theorem b_X1_keep_53 {E : fxE} (hW : fx_Wt E) (a0 : Nat) (a1 : Nat) (x2 : Int) (x3 : Int) (x4 : Int) (x5 : Int) (x6 : Int) (x7 : Int) (M : fxM) (Q : Option fxV → fxM → Prop) (hk0 : kd E a0 = 1) (hk1 : kd E a1 = 7) (h : (-2147483648 ≤ x7 ∧ x7 < 2147483648) ∧ (-2147483648 ≤ x3 ∧ x3 < 2147483648) ∧ ((x3 < x7 → ∃ R3 : Int → fxM → Prop, CtI E m_X1_deviation [.inr a1, .inl x2, .inl x4] M R3 ∧ ∀ (v3 : Int) (M3 : fxM), R3 v3 M3 → (-2147483648 ≤ v3 ∧ v3 < 2147483648) ∧ ((v3 ≤ (0 : Int) → fx_At E m_X1_keep 93 [some (.inr a0), some (.inr a1), some (.inl x2), some (.inl x3), some (.inl x4), some (.inl x5), some (.inl x6), some (.inl x7)] [.inl 0] M3 Q) ∧ (¬ v3 ≤ (0 : Int) → fx_At E m_X1_keep 93 [some (.inr a0), some (.inr a1), some (.inl x2), some (.inl x3), some (.inl x4), some (.inl x5), some (.inl x6), some (.inl x7)] [.inl 1] M3 Q))) ∧ (¬ x3 < x7 → (-2147483648 ≤ x6 ∧ x6 < 2147483648) ∧ (-2147483648 ≤ (tat E M a1 x7) ∧ (tat E M a1 x7) < 2147483648) ∧ fx_At E m_X1_keep 53 [some (.inr a0), some (.inr a1), some (.inl x2), some (.inl x3), some (.inl x4), some (.inl x5), some (.inl (max x6 (tat E M a1 x7))), some (.inl (x7 + 1))] [] M Q))) : fx_At E m_X1_keep 53 [some (.inr a0), some (.inr a1), some (.inl x2), some (.inl x3), some (.inl x4), some (.inl x5), some (.inl x6), some (.inl x7)] [] M Q := by
  refine x_iload (pc := 53) dX1_keep_53 rfl ?_
  refine x_iload_n (pc := 55) dX1_keep_55 rfl rfl ?_
  obtain ⟨g1, h⟩ := h
  obtain ⟨g2, h⟩ := h
  refine x_cgt (pc := 56) 78 dX1_keep_56 (by decide) ⟨g1, g2⟩ (fun hc => ?_) (fun hc => ?_)
  · replace h := h.1 hc
    refine x_aload_n (pc := 78) dX1_keep_78 rfl rfl ?_
    refine x_iload_n (pc := 79) dX1_keep_79 rfl rfl ?_
    refine x_iload (pc := 80) dX1_keep_80 rfl ?_
    obtain ⟨R3, hc3, h⟩ := h
    refine x_callS (pc := 82) (z := m_X1_deviation) (as := [.inr a1, .inl x2, .inl x4]) (rest := []) dX1_keep_82 c_RX1_55 (by decide) rfl (Nat.le_of_ble_eq_true rfl) hc3 (fun r M3 hr => ?_)
    obtain ⟨v3, rfl, hr⟩ := hr
    replace h := h v3 M3 hr
    show fx_At E m_X1_keep 85 [some (.inr a0), some (.inr a1), some (.inl x2), some (.inl x3), some (.inl x4), some (.inl x5), some (.inl x6), some (.inl x7)] [.inl v3] M3 Q
    obtain ⟨g4, h⟩ := h
    refine x_zle (pc := 85) 92 dX1_keep_85 (by decide) g4 (fun hc => ?_) (fun hc => ?_)
    · replace h := h.1 hc
      refine x_iconst (pc := 92) dX1_keep_92 ?_
      exact h
    · replace h := h.2 hc
      refine x_iconst (pc := 88) dX1_keep_88 ?_
      refine x_goto (pc := 89) 93 dX1_keep_89 (by decide) ?_
      exact h
  · replace h := h.2 hc
    refine x_iload (pc := 59) dX1_keep_59 rfl ?_
    refine x_aload_n (pc := 61) dX1_keep_61 rfl rfl ?_
    refine x_iload (pc := 62) dX1_keep_62 rfl ?_
    refine x_callV (pc := 64) (z := m_X7_at) (b := a1) (as := [.inl x7]) (rest := [.inl x6]) dX1_keep_64 c_RX1_49 (by decide) hk1 rfl (Nat.le_of_ble_eq_true rfl) (ct_X7_at hW hk1 g1) (fun r M9 hr => ?_)
    obtain ⟨hM9, hr⟩ := hr
    rw [hM9, hr]
    clear hM9 hr
    show fx_At E m_X1_keep 67 [some (.inr a0), some (.inr a1), some (.inl x2), some (.inl x3), some (.inl x4), some (.inl x5), some (.inl x6), some (.inl x7)] [.inl (tat E M a1 x7), .inl x6] _ Q
    obtain ⟨g5, h⟩ := h
    obtain ⟨g6, h⟩ := h
    refine x_mmax (pc := 67) dX1_keep_67 c_RX1_59 ⟨Nat.le_of_ble_eq_true rfl, Nat.le_of_ble_eq_true rfl⟩ ⟨g5, g6⟩ ?_
    refine x_istore (pc := 70) (lv' := [some (.inr a0), some (.inr a1), some (.inl x2), some (.inl x3), some (.inl x4), some (.inl x5), some (.inl (max x6 (tat E M a1 x7))), some (.inl x7)]) dX1_keep_70 (by decide) rfl ?_
    refine x_iinc (pc := 72) (lv' := [some (.inr a0), some (.inr a1), some (.inl x2), some (.inl x3), some (.inl x4), some (.inl x5), some (.inl (max x6 (tat E M a1 x7))), some (.inl (x7 + 1))]) dX1_keep_72 rfl (by decide) rfl ?_
    refine x_goto (pc := 75) 53 dX1_keep_75 (by decide) ?_
    exact h
set_option maxRecDepth 100000 in
theorem b_X1_keep_93 {E : fxE} (hW : fx_Wt E) (a0 : Nat) (a1 : Nat) (x2 : Int) (x3 : Int) (x4 : Int) (x5 : Int) (x6 : Int) (x7 : Int) (s0 : Int) (M : fxM) (Q : Option fxV → fxM → Prop) (hk0 : kd E a0 = 1) (hk1 : kd E a1 = 7) (h : (0 ≤ x2 ∧ x2 < 401) ∧ (s0 = 0 ∨ s0 = 1) ∧ ∀ M3 : fxM, M3 = mset M (rf E a0 5) (x2.toNat) s0 → (0 ≤ (M3 a0 6) ∧ (M3 a0 6) < 200) ∧ ∀ M5 : fxM, M5 = mset M3 (rf E a0 0) ((M3 a0 6).toNat) x2 → (0 ≤ (M5 a0 6) ∧ (M5 a0 6) < 200) ∧ ∀ M7 : fxM, M7 = mset M5 (rf E a0 1) ((M5 a0 6).toNat) x3 → (-2147483648 ≤ x3 ∧ x3 < 2147483648) ∧ (-2147483648 ≤ (tat E M7 a1 x3) ∧ (tat E M7 a1 x3) < 2147483648) ∧ ((¬ (tat E M7 a1 x3) = (5000 : Int) → (-2147483648 ≤ s0 ∧ s0 < 2147483648) ∧ ((s0 = (0 : Int) → fx_At E m_X1_keep 156 [some (.inr a0), some (.inr a1), some (.inl x2), some (.inl x3), some (.inl x4), some (.inl x5), some (.inl x6), some (.inl s0)] [.inl 0, .inl (M7 a0 6), .inr (rf E a0 2)] M7 Q) ∧ (¬ s0 = (0 : Int) → fx_At E m_X1_keep 156 [some (.inr a0), some (.inr a1), some (.inl x2), some (.inl x3), some (.inl x4), some (.inl x5), some (.inl x6), some (.inl s0)] [.inl 1, .inl (M7 a0 6), .inr (rf E a0 2)] M7 Q))) ∧ ((tat E M7 a1 x3) = (5000 : Int) → fx_At E m_X1_keep 156 [some (.inr a0), some (.inr a1), some (.inl x2), some (.inl x3), some (.inl x4), some (.inl x5), some (.inl x6), some (.inl s0)] [.inl 2, .inl (M7 a0 6), .inr (rf E a0 2)] M7 Q))) : fx_At E m_X1_keep 93 [some (.inr a0), some (.inr a1), some (.inl x2), some (.inl x3), some (.inl x4), some (.inl x5), some (.inl x6), some (.inl x7)] [.inl s0] M Q := by
  refine x_istore (pc := 93) (lv' := [some (.inr a0), some (.inr a1), some (.inl x2), some (.inl x3), some (.inl x4), some (.inl x5), some (.inl x6), some (.inl s0)]) dX1_keep_93 (by decide) rfl ?_
  refine x_aload_n (pc := 95) dX1_keep_95 rfl rfl ?_
  refine x_getr (pc := 96) dX1_keep_96 f_RX1_27 hk0 ?_
  refine x_iload_n (pc := 99) dX1_keep_99 rfl rfl ?_
  refine x_iload (pc := 100) dX1_keep_100 rfl ?_
  obtain ⟨g1, h⟩ := h
  obtain ⟨g2, h⟩ := h
  refine x_zast (pc := 102) dX1_keep_102 (wk_1_5 hW hk0) (wl_1_5 hW hk0) g1 g2 (fun M3 hM3 => ?_)
  replace h := h M3 hM3
  refine x_aload_n (pc := 103) dX1_keep_103 rfl rfl ?_
  refine x_getr (pc := 104) dX1_keep_104 f_RX1_9 hk0 ?_
  refine x_aload_n (pc := 107) dX1_keep_107 rfl rfl ?_
  refine x_geti (pc := 108) dX1_keep_108 f_RX1_31 hk0 ?_
  refine x_iload_n (pc := 111) dX1_keep_111 rfl rfl ?_
  obtain ⟨g4, h⟩ := h
  refine x_iast (pc := 112) dX1_keep_112 (wk_1_0 hW hk0) (wl_1_0 hW hk0) g4 (fun M5 hM5 => ?_)
  replace h := h M5 hM5
  refine x_aload_n (pc := 113) dX1_keep_113 rfl rfl ?_
  refine x_getr (pc := 114) dX1_keep_114 f_RX1_15 hk0 ?_
  refine x_aload_n (pc := 117) dX1_keep_117 rfl rfl ?_
  refine x_geti (pc := 118) dX1_keep_118 f_RX1_31 hk0 ?_
  refine x_iload_n (pc := 121) dX1_keep_121 rfl rfl ?_
  obtain ⟨g6, h⟩ := h
  refine x_iast (pc := 122) dX1_keep_122 (wk_1_1 hW hk0) (wl_1_1 hW hk0) g6 (fun M7 hM7 => ?_)
  replace h := h M7 hM7
  refine x_aload_n (pc := 123) dX1_keep_123 rfl rfl ?_
  refine x_getr (pc := 124) dX1_keep_124 f_RX1_18 hk0 ?_
  refine x_aload_n (pc := 127) dX1_keep_127 rfl rfl ?_
  refine x_geti (pc := 128) dX1_keep_128 f_RX1_31 hk0 ?_
  refine x_aload_n (pc := 131) dX1_keep_131 rfl rfl ?_
  refine x_iload_n (pc := 132) dX1_keep_132 rfl rfl ?_
  obtain ⟨g8, h⟩ := h
  refine x_callV (pc := 133) (z := m_X7_at) (b := a1) (as := [.inl x3]) (rest := [.inl (M7 a0 6), .inr (rf E a0 2)]) dX1_keep_133 c_RX1_49 (by decide) hk1 rfl (Nat.le_of_ble_eq_true rfl) (ct_X7_at hW hk1 g8) (fun r M9 hr => ?_)
  obtain ⟨hM9, hr⟩ := hr
  rw [hM9, hr]
  clear hM9 hr
  show fx_At E m_X1_keep 136 [some (.inr a0), some (.inr a1), some (.inl x2), some (.inl x3), some (.inl x4), some (.inl x5), some (.inl x6), some (.inl s0)] [.inl (tat E M7 a1 x3), .inl (M7 a0 6), .inr (rf E a0 2)] _ Q
  refine x_sipush (pc := 136) dX1_keep_136 (by decide +kernel) ?_
  obtain ⟨g9, h⟩ := h
  refine x_cne (pc := 139) 146 dX1_keep_139 (by decide) ⟨g9, ⟨by decide, by decide⟩⟩ (fun hc => ?_) (fun hc => ?_)
  · replace h := h.1 hc
    refine x_iload (pc := 146) dX1_keep_146 rfl ?_
    obtain ⟨g10, h⟩ := h
    refine x_zeq (pc := 148) 155 dX1_keep_148 (by decide) g10 (fun hc => ?_) (fun hc => ?_)
    · replace h := h.1 hc
      refine x_iconst (pc := 155) dX1_keep_155 ?_
      exact h
    · replace h := h.2 hc
      refine x_iconst (pc := 151) dX1_keep_151 ?_
      refine x_goto (pc := 152) 156 dX1_keep_152 (by decide) ?_
      exact h
  · replace h := h.2 hc
    refine x_iconst (pc := 142) dX1_keep_142 ?_
    refine x_goto (pc := 143) 156 dX1_keep_143 (by decide) ?_
    exact h
set_option maxRecDepth 100000 in
theorem b_X1_keep_156 {E : fxE} (hW : fx_Wt E) (a0 : Nat) (a1 : Nat) (x2 : Int) (x3 : Int) (x4 : Int) (x5 : Int) (x6 : Int) (x7 : Int) (b0 : Nat) (s1 : Int) (s2 : Int) (M : fxM) (Q : Option fxV → fxM → Prop) (hk0 : kd E a0 = 1) (hk1 : kd E a1 = 7) (hs0 : kd E b0 = 11) (h : (0 ≤ s1 ∧ s1 < (ln E b0 : Int)) ∧ ∀ M2 : fxM, M2 = mset M b0 (s1.toNat) s2 → (-2147483648 ≤ x3 ∧ x3 < 2147483648) ∧ (0 ≤ (M2 a0 6) ∧ (M2 a0 6) < 200) ∧ ∀ M5 : fxM, M5 = mset M2 (rf E a0 3) ((M2 a0 6).toNat) ((x5 - (tat E M2 a1 x3)) - (x4 * ((x3 - x2) + 1))) → (0 ≤ (M5 a0 6) ∧ (M5 a0 6) < 200) ∧ ∀ M7 : fxM, M7 = mset M5 (rf E a0 4) ((M5 a0 6).toNat) (x6 - x5) → ∀ M8 : fxM, M8 = mset M7 a0 6 ((M7 a0 6) + 1) → Q none M8) : fx_At E m_X1_keep 156 [some (.inr a0), some (.inr a1), some (.inl x2), some (.inl x3), some (.inl x4), some (.inl x5), some (.inl x6), some (.inl x7)] [.inl s2, .inl s1, .inr b0] M Q := by
  obtain ⟨g1, h⟩ := h
  refine x_iast (pc := 156) dX1_keep_156 hs0 rfl g1 (fun M2 hM2 => ?_)
  replace h := h M2 hM2
  refine x_aload_n (pc := 157) dX1_keep_157 rfl rfl ?_
  refine x_getr (pc := 158) dX1_keep_158 f_RX1_21 hk0 ?_
  refine x_aload_n (pc := 161) dX1_keep_161 rfl rfl ?_
  refine x_geti (pc := 162) dX1_keep_162 f_RX1_31 hk0 ?_
  refine x_iload (pc := 165) dX1_keep_165 rfl ?_
  refine x_aload_n (pc := 167) dX1_keep_167 rfl rfl ?_
  refine x_iload_n (pc := 168) dX1_keep_168 rfl rfl ?_
  obtain ⟨g3, h⟩ := h
  refine x_callV (pc := 169) (z := m_X7_at) (b := a1) (as := [.inl x3]) (rest := [.inl x5, .inl (M2 a0 6), .inr (rf E a0 3)]) dX1_keep_169 c_RX1_49 (by decide) hk1 rfl (Nat.le_of_ble_eq_true rfl) (ct_X7_at hW hk1 g3) (fun r M9 hr => ?_)
  obtain ⟨hM9, hr⟩ := hr
  rw [hM9, hr]
  clear hM9 hr
  show fx_At E m_X1_keep 172 [some (.inr a0), some (.inr a1), some (.inl x2), some (.inl x3), some (.inl x4), some (.inl x5), some (.inl x6), some (.inl x7)] [.inl (tat E M2 a1 x3), .inl x5, .inl (M2 a0 6), .inr (rf E a0 3)] _ Q
  refine x_isub (pc := 172) dX1_keep_172 ?_
  refine x_iload (pc := 173) dX1_keep_173 rfl ?_
  refine x_iload_n (pc := 175) dX1_keep_175 rfl rfl ?_
  refine x_iload_n (pc := 176) dX1_keep_176 rfl rfl ?_
  refine x_isub (pc := 177) dX1_keep_177 ?_
  refine x_iconst (pc := 178) dX1_keep_178 ?_
  refine x_iadd (pc := 179) dX1_keep_179 ?_
  refine x_imul (pc := 180) dX1_keep_180 ?_
  refine x_isub (pc := 181) dX1_keep_181 ?_
  obtain ⟨g4, h⟩ := h
  refine x_iast (pc := 182) dX1_keep_182 (wk_1_3 hW hk0) (wl_1_3 hW hk0) g4 (fun M5 hM5 => ?_)
  replace h := h M5 hM5
  refine x_aload_n (pc := 183) dX1_keep_183 rfl rfl ?_
  refine x_getr (pc := 184) dX1_keep_184 f_RX1_24 hk0 ?_
  refine x_aload_n (pc := 187) dX1_keep_187 rfl rfl ?_
  refine x_geti (pc := 188) dX1_keep_188 f_RX1_31 hk0 ?_
  refine x_iload (pc := 191) dX1_keep_191 rfl ?_
  refine x_iload (pc := 193) dX1_keep_193 rfl ?_
  refine x_isub (pc := 195) dX1_keep_195 ?_
  obtain ⟨g6, h⟩ := h
  refine x_iast (pc := 196) dX1_keep_196 (wk_1_4 hW hk0) (wl_1_4 hW hk0) g6 (fun M7 hM7 => ?_)
  replace h := h M7 hM7
  refine x_aload_n (pc := 197) dX1_keep_197 rfl rfl ?_
  refine x_dup (pc := 198) dX1_keep_198 ?_
  refine x_geti (pc := 199) dX1_keep_199 f_RX1_31 hk0 ?_
  refine x_iconst (pc := 202) dX1_keep_202 ?_
  refine x_iadd (pc := 203) dX1_keep_203 ?_
  refine x_puti (pc := 204) dX1_keep_204 f_RX1_31 hk0 (fun M8 hM8 => ?_)
  replace h := h M8 hM8
  exact x_vret (pc := 207) dX1_keep_207 rfl h
theorem dX1_isInside_0 : decode cX1_isInside 0 = .ok (.iload_n 1, 1) := by decide +kernel
theorem dX1_isInside_1 : decode cX1_isInside 1 = .ok (.ifCond .lt 25, 3) := by decide +kernel
theorem dX1_isInside_4 : decode cX1_isInside 4 = .ok (.iload_n 1, 1) := by decide +kernel
theorem dX1_isInside_5 : decode cX1_isInside 5 = .ok (.aload_n 0, 1) := by decide +kernel
theorem dX1_isInside_6 : decode cX1_isInside 6 = .ok (.getfield 31, 3) := by decide +kernel
theorem dX1_isInside_9 : decode cX1_isInside 9 = .ok (.if_icmp .ge 17, 3) := by decide +kernel
theorem dX1_isInside_12 : decode cX1_isInside 12 = .ok (.aload_n 0, 1) := by decide +kernel
theorem dX1_isInside_13 : decode cX1_isInside 13 = .ok (.getfield 18, 3) := by decide +kernel
theorem dX1_isInside_16 : decode cX1_isInside 16 = .ok (.iload_n 1, 1) := by decide +kernel
theorem dX1_isInside_17 : decode cX1_isInside 17 = .ok (.iaload, 1) := by decide +kernel
theorem dX1_isInside_18 : decode cX1_isInside 18 = .ok (.iconst 2, 1) := by decide +kernel
theorem dX1_isInside_19 : decode cX1_isInside 19 = .ok (.if_icmp .eq 7, 3) := by decide +kernel
theorem dX1_isInside_22 : decode cX1_isInside 22 = .ok (.iconst 1, 1) := by decide +kernel
theorem dX1_isInside_23 : decode cX1_isInside 23 = .ok (.goto 4, 3) := by decide +kernel
theorem dX1_isInside_26 : decode cX1_isInside 26 = .ok (.iconst 0, 1) := by decide +kernel
theorem dX1_isInside_27 : decode cX1_isInside 27 = .ok (.ireturn, 1) := by decide +kernel
set_option maxRecDepth 100000 in
theorem b_X1_isInside_0 {E : fxE} (hW : fx_Wt E) (a0 : Nat) (x1 : Int) (M : fxM) (Q : Option fxV → fxM → Prop) (hk0 : kd E a0 = 1) (h : (-2147483648 ≤ x1 ∧ x1 < 2147483648) ∧ ((x1 < (0 : Int) → Q (some (.inl 0)) M) ∧ (¬ x1 < (0 : Int) → (-2147483648 ≤ (M a0 6) ∧ (M a0 6) < 2147483648) ∧ (((M a0 6) ≤ x1 → Q (some (.inl 0)) M) ∧ (¬ (M a0 6) ≤ x1 → (0 ≤ x1 ∧ x1 < 200) ∧ (-2147483648 ≤ (M (rf E a0 2) (x1.toNat)) ∧ (M (rf E a0 2) (x1.toNat)) < 2147483648) ∧ (((M (rf E a0 2) (x1.toNat)) = (2 : Int) → Q (some (.inl 0)) M) ∧ (¬ (M (rf E a0 2) (x1.toNat)) = (2 : Int) → Q (some (.inl 1)) M))))))) : fx_At E m_X1_isInside 0 [some (.inr a0), some (.inl x1)] [] M Q := by
  refine x_iload_n (pc := 0) dX1_isInside_0 rfl rfl ?_
  obtain ⟨g1, h⟩ := h
  refine x_zlt (pc := 1) 26 dX1_isInside_1 (by decide) g1 (fun hc => ?_) (fun hc => ?_)
  · replace h := h.1 hc
    refine x_iconst (pc := 26) dX1_isInside_26 ?_
    exact x_iret (pc := 27) dX1_isInside_27 (Or.inr ⟨rfl, by decide⟩) h
  · replace h := h.2 hc
    refine x_iload_n (pc := 4) dX1_isInside_4 rfl rfl ?_
    refine x_aload_n (pc := 5) dX1_isInside_5 rfl rfl ?_
    refine x_geti (pc := 6) dX1_isInside_6 f_RX1_31 hk0 ?_
    obtain ⟨g2, h⟩ := h
    refine x_cge (pc := 9) 26 dX1_isInside_9 (by decide) ⟨g1, g2⟩ (fun hc => ?_) (fun hc => ?_)
    · replace h := h.1 hc
      refine x_iconst (pc := 26) dX1_isInside_26 ?_
      exact x_iret (pc := 27) dX1_isInside_27 (Or.inr ⟨rfl, by decide⟩) h
    · replace h := h.2 hc
      refine x_aload_n (pc := 12) dX1_isInside_12 rfl rfl ?_
      refine x_getr (pc := 13) dX1_isInside_13 f_RX1_18 hk0 ?_
      refine x_iload_n (pc := 16) dX1_isInside_16 rfl rfl ?_
      obtain ⟨g3, h⟩ := h
      refine x_iald (pc := 17) dX1_isInside_17 (wk_1_2 hW hk0) (wl_1_2 hW hk0) g3 ?_
      refine x_iconst (pc := 18) dX1_isInside_18 ?_
      obtain ⟨g4, h⟩ := h
      refine x_ceq (pc := 19) 26 dX1_isInside_19 (by decide) ⟨g4, ⟨by decide, by decide⟩⟩ (fun hc => ?_) (fun hc => ?_)
      · replace h := h.1 hc
        refine x_iconst (pc := 26) dX1_isInside_26 ?_
        exact x_iret (pc := 27) dX1_isInside_27 (Or.inr ⟨rfl, by decide⟩) h
      · replace h := h.2 hc
        refine x_iconst (pc := 22) dX1_isInside_22 ?_
        refine x_goto (pc := 23) 27 dX1_isInside_23 (by decide) ?_
        exact x_iret (pc := 27) dX1_isInside_27 (Or.inr ⟨rfl, by decide⟩) h
theorem dX1_bouncesFrom_0 : decode cX1_bouncesFrom 0 = .ok (.iload_n 1, 1) := by decide +kernel
theorem dX1_bouncesFrom_1 : decode cX1_bouncesFrom 1 = .ok (.ifCond .le 25, 3) := by decide +kernel
theorem dX1_bouncesFrom_4 : decode cX1_bouncesFrom 4 = .ok (.iload_n 1, 1) := by decide +kernel
theorem dX1_bouncesFrom_5 : decode cX1_bouncesFrom 5 = .ok (.aload_n 0, 1) := by decide +kernel
theorem dX1_bouncesFrom_6 : decode cX1_bouncesFrom 6 = .ok (.getfield 27, 3) := by decide +kernel
theorem dX1_bouncesFrom_9 : decode cX1_bouncesFrom 9 = .ok (.arraylength, 1) := by decide +kernel
theorem dX1_bouncesFrom_10 : decode cX1_bouncesFrom 10 = .ok (.if_icmp .ge 16, 3) := by decide +kernel
theorem dX1_bouncesFrom_13 : decode cX1_bouncesFrom 13 = .ok (.aload_n 0, 1) := by decide +kernel
theorem dX1_bouncesFrom_14 : decode cX1_bouncesFrom 14 = .ok (.getfield 27, 3) := by decide +kernel
theorem dX1_bouncesFrom_17 : decode cX1_bouncesFrom 17 = .ok (.iload_n 1, 1) := by decide +kernel
theorem dX1_bouncesFrom_18 : decode cX1_bouncesFrom 18 = .ok (.baload, 1) := by decide +kernel
theorem dX1_bouncesFrom_19 : decode cX1_bouncesFrom 19 = .ok (.ifCond .eq 7, 3) := by decide +kernel
theorem dX1_bouncesFrom_22 : decode cX1_bouncesFrom 22 = .ok (.iconst 1, 1) := by decide +kernel
theorem dX1_bouncesFrom_23 : decode cX1_bouncesFrom 23 = .ok (.goto 4, 3) := by decide +kernel
theorem dX1_bouncesFrom_26 : decode cX1_bouncesFrom 26 = .ok (.iconst 0, 1) := by decide +kernel
theorem dX1_bouncesFrom_27 : decode cX1_bouncesFrom 27 = .ok (.ireturn, 1) := by decide +kernel
set_option maxRecDepth 100000 in
theorem b_X1_bouncesFrom_0 {E : fxE} (hW : fx_Wt E) (a0 : Nat) (x1 : Int) (M : fxM) (Q : Option fxV → fxM → Prop) (hk0 : kd E a0 = 1) (h : (-2147483648 ≤ x1 ∧ x1 < 2147483648) ∧ ((x1 ≤ (0 : Int) → Q (some (.inl 0)) M) ∧ (¬ x1 ≤ (0 : Int) → (((401 : Int) ≤ x1 → Q (some (.inl 0)) M) ∧ (¬ (401 : Int) ≤ x1 → (0 ≤ x1 ∧ x1 < 401) ∧ (-2147483648 ≤ (M (rf E a0 5) (x1.toNat)) ∧ (M (rf E a0 5) (x1.toNat)) < 2147483648) ∧ (((M (rf E a0 5) (x1.toNat)) = (0 : Int) → Q (some (.inl 0)) M) ∧ (¬ (M (rf E a0 5) (x1.toNat)) = (0 : Int) → Q (some (.inl 1)) M))))))) : fx_At E m_X1_bouncesFrom 0 [some (.inr a0), some (.inl x1)] [] M Q := by
  refine x_iload_n (pc := 0) dX1_bouncesFrom_0 rfl rfl ?_
  obtain ⟨g1, h⟩ := h
  refine x_zle (pc := 1) 26 dX1_bouncesFrom_1 (by decide) g1 (fun hc => ?_) (fun hc => ?_)
  · replace h := h.1 hc
    refine x_iconst (pc := 26) dX1_bouncesFrom_26 ?_
    exact x_iret (pc := 27) dX1_bouncesFrom_27 (Or.inr ⟨rfl, by decide⟩) h
  · replace h := h.2 hc
    refine x_iload_n (pc := 4) dX1_bouncesFrom_4 rfl rfl ?_
    refine x_aload_n (pc := 5) dX1_bouncesFrom_5 rfl rfl ?_
    refine x_getr (pc := 6) dX1_bouncesFrom_6 f_RX1_27 hk0 ?_
    refine x_alen (pc := 9) dX1_bouncesFrom_9 (wk_1_5 hW hk0) (by decide) (by decide) (wl_1_5 hW hk0) ?_
    refine x_cge (pc := 10) 26 dX1_bouncesFrom_10 (by decide) ⟨g1, ⟨by decide, by decide⟩⟩ (fun hc => ?_) (fun hc => ?_)
    · replace h := h.1 hc
      refine x_iconst (pc := 26) dX1_bouncesFrom_26 ?_
      exact x_iret (pc := 27) dX1_bouncesFrom_27 (Or.inr ⟨rfl, by decide⟩) h
    · replace h := h.2 hc
      refine x_aload_n (pc := 13) dX1_bouncesFrom_13 rfl rfl ?_
      refine x_getr (pc := 14) dX1_bouncesFrom_14 f_RX1_27 hk0 ?_
      refine x_iload_n (pc := 17) dX1_bouncesFrom_17 rfl rfl ?_
      obtain ⟨g2, h⟩ := h
      refine x_zald (pc := 18) dX1_bouncesFrom_18 (wk_1_5 hW hk0) (wl_1_5 hW hk0) g2 ?_
      obtain ⟨g3, h⟩ := h
      refine x_zeq (pc := 19) 26 dX1_bouncesFrom_19 (by decide) g3 (fun hc => ?_) (fun hc => ?_)
      · replace h := h.1 hc
        refine x_iconst (pc := 26) dX1_bouncesFrom_26 ?_
        exact x_iret (pc := 27) dX1_bouncesFrom_27 (Or.inr ⟨rfl, by decide⟩) h
      · replace h := h.2 hc
        refine x_iconst (pc := 22) dX1_bouncesFrom_22 ?_
        refine x_goto (pc := 23) 27 dX1_bouncesFrom_23 (by decide) ?_
        exact x_iret (pc := 27) dX1_bouncesFrom_27 (Or.inr ⟨rfl, by decide⟩) h
theorem dX1_ghostMirror_0 : decode cX1_ghostMirror 0 = .ok (.aload_n 0, 1) := by decide +kernel
theorem dX1_ghostMirror_1 : decode cX1_ghostMirror 1 = .ok (.iload_n 1, 1) := by decide +kernel
theorem dX1_ghostMirror_2 : decode cX1_ghostMirror 2 = .ok (.invokevirtual 65, 3) := by decide +kernel
theorem dX1_ghostMirror_5 : decode cX1_ghostMirror 5 = .ok (.istore_n 2, 1) := by decide +kernel
theorem dX1_ghostMirror_6 : decode cX1_ghostMirror 6 = .ok (.aload_n 0, 1) := by decide +kernel
theorem dX1_ghostMirror_7 : decode cX1_ghostMirror 7 = .ok (.iload_n 2, 1) := by decide +kernel
theorem dX1_ghostMirror_8 : decode cX1_ghostMirror 8 = .ok (.invokevirtual 68, 3) := by decide +kernel
theorem dX1_ghostMirror_11 : decode cX1_ghostMirror 11 = .ok (.ifCond .ne 6, 3) := by decide +kernel
theorem dX1_ghostMirror_14 : decode cX1_ghostMirror 14 = .ok (.ldc 72, 2) := by decide +kernel
theorem dX1_ghostMirror_16 : decode cX1_ghostMirror 16 = .ok (.ireturn, 1) := by decide +kernel
theorem dX1_ghostMirror_17 : decode cX1_ghostMirror 17 = .ok (.iconst 0, 1) := by decide +kernel
theorem dX1_ghostMirror_18 : decode cX1_ghostMirror 18 = .ok (.istore_n 3, 1) := by decide +kernel
theorem dX1_ghostMirror_19 : decode cX1_ghostMirror 19 = .ok (.iload_n 3, 1) := by decide +kernel
theorem dX1_ghostMirror_20 : decode cX1_ghostMirror 20 = .ok (.iload_n 1, 1) := by decide +kernel
theorem dX1_ghostMirror_21 : decode cX1_ghostMirror 21 = .ok (.if_icmp .ge 51, 3) := by decide +kernel
theorem dX1_ghostMirror_24 : decode cX1_ghostMirror 24 = .ok (.aload_n 0, 1) := by decide +kernel
theorem dX1_ghostMirror_25 : decode cX1_ghostMirror 25 = .ok (.getfield 9, 3) := by decide +kernel
theorem dX1_ghostMirror_28 : decode cX1_ghostMirror 28 = .ok (.iload_n 3, 1) := by decide +kernel
theorem dX1_ghostMirror_29 : decode cX1_ghostMirror 29 = .ok (.iaload, 1) := by decide +kernel
theorem dX1_ghostMirror_30 : decode cX1_ghostMirror 30 = .ok (.istore 4, 2) := by decide +kernel
theorem dX1_ghostMirror_32 : decode cX1_ghostMirror 32 = .ok (.iconst 2, 1) := by decide +kernel
theorem dX1_ghostMirror_33 : decode cX1_ghostMirror 33 = .ok (.iload 4, 2) := by decide +kernel
theorem dX1_ghostMirror_35 : decode cX1_ghostMirror 35 = .ok (.imul, 1) := by decide +kernel
theorem dX1_ghostMirror_36 : decode cX1_ghostMirror 36 = .ok (.iload_n 2, 1) := by decide +kernel
theorem dX1_ghostMirror_37 : decode cX1_ghostMirror 37 = .ok (.isub, 1) := by decide +kernel
theorem dX1_ghostMirror_38 : decode cX1_ghostMirror 38 = .ok (.istore 5, 2) := by decide +kernel
theorem dX1_ghostMirror_40 : decode cX1_ghostMirror 40 = .ok (.aload_n 0, 1) := by decide +kernel
theorem dX1_ghostMirror_41 : decode cX1_ghostMirror 41 = .ok (.iload 4, 2) := by decide +kernel
theorem dX1_ghostMirror_43 : decode cX1_ghostMirror 43 = .ok (.invokevirtual 68, 3) := by decide +kernel
theorem dX1_ghostMirror_46 : decode cX1_ghostMirror 46 = .ok (.ifCond .eq 20, 3) := by decide +kernel
theorem dX1_ghostMirror_49 : decode cX1_ghostMirror 49 = .ok (.iload 5, 2) := by decide +kernel
theorem dX1_ghostMirror_51 : decode cX1_ghostMirror 51 = .ok (.ifCond .eq 12, 3) := by decide +kernel
theorem dX1_ghostMirror_54 : decode cX1_ghostMirror 54 = .ok (.aload_n 0, 1) := by decide +kernel
theorem dX1_ghostMirror_55 : decode cX1_ghostMirror 55 = .ok (.iload 5, 2) := by decide +kernel
theorem dX1_ghostMirror_57 : decode cX1_ghostMirror 57 = .ok (.invokevirtual 68, 3) := by decide +kernel
theorem dX1_ghostMirror_60 : decode cX1_ghostMirror 60 = .ok (.ifCond .eq 6, 3) := by decide +kernel
theorem dX1_ghostMirror_63 : decode cX1_ghostMirror 63 = .ok (.iload 4, 2) := by decide +kernel
theorem dX1_ghostMirror_65 : decode cX1_ghostMirror 65 = .ok (.ireturn, 1) := by decide +kernel
theorem dX1_ghostMirror_66 : decode cX1_ghostMirror 66 = .ok (.iinc 3 1, 3) := by decide +kernel
theorem dX1_ghostMirror_69 : decode cX1_ghostMirror 69 = .ok (.goto (-50), 3) := by decide +kernel
theorem dX1_ghostMirror_72 : decode cX1_ghostMirror 72 = .ok (.ldc 72, 2) := by decide +kernel
theorem dX1_ghostMirror_74 : decode cX1_ghostMirror 74 = .ok (.ireturn, 1) := by decide +kernel
set_option maxRecDepth 100000 in
theorem b_X1_ghostMirror_0 {E : fxE} (hW : fx_Wt E) (a0 : Nat) (x1 : Int) (M : fxM) (Q : Option fxV → fxM → Prop) (hk0 : kd E a0 = 1) (h : (-2147483648 ≤ x1 ∧ x1 < 2147483648) ∧ (-2147483648 ≤ M a0 6 ∧ M a0 6 ≤ 200) ∧ ∃ R3 : Int → fxM → Prop, CtI E m_X1_bouncesFrom [.inr a0, .inl (evS E M a0 x1)] M R3 ∧ ∀ (v3 : Int) (M3 : fxM), R3 v3 M3 → (-2147483648 ≤ v3 ∧ v3 < 2147483648) ∧ ((¬ v3 = (0 : Int) → fx_At E m_X1_ghostMirror 19 [some (.inr a0), some (.inl x1), some (.inl (evS E M a0 x1)), some (.inl 0), none, none] [] M3 Q) ∧ (v3 = (0 : Int) → Q (some (.inl (-1000005))) M3))) : fx_At E m_X1_ghostMirror 0 [some (.inr a0), some (.inl x1), none, none, none, none] [] M Q := by
  refine x_aload_n (pc := 0) dX1_ghostMirror_0 rfl rfl ?_
  refine x_iload_n (pc := 1) dX1_ghostMirror_1 rfl rfl ?_
  obtain ⟨g1, h⟩ := h
  obtain ⟨g2, h⟩ := h
  refine x_callV (pc := 2) (z := m_X1_startOf) (b := a0) (as := [.inl x1]) (rest := []) dX1_ghostMirror_2 c_RX1_65 (by decide) hk0 rfl (Nat.le_of_ble_eq_true rfl) (ct_X1_startOf hW hk0 g1 g2) (fun r M9 hr => ?_)
  obtain ⟨hM9, hr⟩ := hr
  rw [hM9, hr]
  clear hM9 hr
  show fx_At E m_X1_ghostMirror 5 [some (.inr a0), some (.inl x1), none, none, none, none] [.inl (evS E M a0 x1)] _ Q
  refine x_istore_n (pc := 5) (lv' := [some (.inr a0), some (.inl x1), some (.inl (evS E M a0 x1)), none, none, none]) dX1_ghostMirror_5 rfl (by decide) rfl ?_
  refine x_aload_n (pc := 6) dX1_ghostMirror_6 rfl rfl ?_
  refine x_iload_n (pc := 7) dX1_ghostMirror_7 rfl rfl ?_
  obtain ⟨R3, hc3, h⟩ := h
  refine x_callV (pc := 8) (z := m_X1_bouncesFrom) (b := a0) (as := [.inl (evS E M a0 x1)]) (rest := []) dX1_ghostMirror_8 c_RX1_68 (by decide) hk0 rfl (Nat.le_of_ble_eq_true rfl) hc3 (fun r M3 hr => ?_)
  obtain ⟨v3, rfl, hr⟩ := hr
  replace h := h v3 M3 hr
  show fx_At E m_X1_ghostMirror 11 [some (.inr a0), some (.inl x1), some (.inl (evS E M a0 x1)), none, none, none] [.inl v3] M3 Q
  obtain ⟨g4, h⟩ := h
  refine x_zne (pc := 11) 17 dX1_ghostMirror_11 (by decide) g4 (fun hc => ?_) (fun hc => ?_)
  · replace h := h.1 hc
    refine x_iconst (pc := 17) dX1_ghostMirror_17 ?_
    refine x_istore_n (pc := 18) (lv' := [some (.inr a0), some (.inl x1), some (.inl (evS E M a0 x1)), some (.inl 0), none, none]) dX1_ghostMirror_18 rfl (by decide) rfl ?_
    exact h
  · replace h := h.2 hc
    refine x_ldc (pc := 14) (n := -1000005) dX1_ghostMirror_14 k_RX1_72 rfl ?_
    exact x_iret (pc := 16) dX1_ghostMirror_16 (Or.inl rfl) h
set_option maxRecDepth 100000 in
theorem b_X1_ghostMirror_19 {E : fxE} (hW : fx_Wt E) (a0 : Nat) (x1 : Int) (x2 : Int) (x3 : Int) (M : fxM) (Q : Option fxV → fxM → Prop) (hk0 : kd E a0 = 1) (h : (-2147483648 ≤ x3 ∧ x3 < 2147483648) ∧ (-2147483648 ≤ x1 ∧ x1 < 2147483648) ∧ ((x1 ≤ x3 → Q (some (.inl (-1000005))) M) ∧ (¬ x1 ≤ x3 → (0 ≤ x3 ∧ x3 < 200) ∧ ∃ R4 : Int → fxM → Prop, CtI E m_X1_bouncesFrom [.inr a0, .inl (M (rf E a0 0) (x3.toNat))] M R4 ∧ ∀ (v4 : Int) (M4 : fxM), R4 v4 M4 → (-2147483648 ≤ v4 ∧ v4 < 2147483648) ∧ ((v4 = (0 : Int) → fx_At E m_X1_ghostMirror 19 [some (.inr a0), some (.inl x1), some (.inl x2), some (.inl (x3 + 1)), none, none] [] M4 Q) ∧ (¬ v4 = (0 : Int) → (-2147483648 ≤ ((2 * (M (rf E a0 0) (x3.toNat))) - x2) ∧ ((2 * (M (rf E a0 0) (x3.toNat))) - x2) < 2147483648) ∧ ((((2 * (M (rf E a0 0) (x3.toNat))) - x2) = (0 : Int) → Q (some (.inl (M (rf E a0 0) (x3.toNat)))) M4) ∧ (¬ ((2 * (M (rf E a0 0) (x3.toNat))) - x2) = (0 : Int) → ∃ R7 : Int → fxM → Prop, CtI E m_X1_bouncesFrom [.inr a0, .inl ((2 * (M (rf E a0 0) (x3.toNat))) - x2)] M4 R7 ∧ ∀ (v7 : Int) (M7 : fxM), R7 v7 M7 → (-2147483648 ≤ v7 ∧ v7 < 2147483648) ∧ ((v7 = (0 : Int) → fx_At E m_X1_ghostMirror 19 [some (.inr a0), some (.inl x1), some (.inl x2), some (.inl (x3 + 1)), none, none] [] M7 Q) ∧ (¬ v7 = (0 : Int) → Q (some (.inl (M (rf E a0 0) (x3.toNat)))) M7))))))))) : fx_At E m_X1_ghostMirror 19 [some (.inr a0), some (.inl x1), some (.inl x2), some (.inl x3), none, none] [] M Q := by
  refine x_iload_n (pc := 19) dX1_ghostMirror_19 rfl rfl ?_
  refine x_iload_n (pc := 20) dX1_ghostMirror_20 rfl rfl ?_
  obtain ⟨g1, h⟩ := h
  obtain ⟨g2, h⟩ := h
  refine x_cge (pc := 21) 72 dX1_ghostMirror_21 (by decide) ⟨g1, g2⟩ (fun hc => ?_) (fun hc => ?_)
  · replace h := h.1 hc
    refine x_ldc (pc := 72) (n := -1000005) dX1_ghostMirror_72 k_RX1_72 rfl ?_
    exact x_iret (pc := 74) dX1_ghostMirror_74 (Or.inl rfl) h
  · replace h := h.2 hc
    refine x_aload_n (pc := 24) dX1_ghostMirror_24 rfl rfl ?_
    refine x_getr (pc := 25) dX1_ghostMirror_25 f_RX1_9 hk0 ?_
    refine x_iload_n (pc := 28) dX1_ghostMirror_28 rfl rfl ?_
    obtain ⟨g3, h⟩ := h
    refine x_iald (pc := 29) dX1_ghostMirror_29 (wk_1_0 hW hk0) (wl_1_0 hW hk0) g3 ?_
    refine x_istore (pc := 30) (lv' := [some (.inr a0), some (.inl x1), some (.inl x2), some (.inl x3), some (.inl (M (rf E a0 0) (x3.toNat))), none]) dX1_ghostMirror_30 (by decide) rfl ?_
    refine x_iconst (pc := 32) dX1_ghostMirror_32 ?_
    refine x_iload (pc := 33) dX1_ghostMirror_33 rfl ?_
    refine x_imul (pc := 35) dX1_ghostMirror_35 ?_
    refine x_iload_n (pc := 36) dX1_ghostMirror_36 rfl rfl ?_
    refine x_isub (pc := 37) dX1_ghostMirror_37 ?_
    refine x_istore (pc := 38) (lv' := [some (.inr a0), some (.inl x1), some (.inl x2), some (.inl x3), some (.inl (M (rf E a0 0) (x3.toNat))), some (.inl ((2 * (M (rf E a0 0) (x3.toNat))) - x2))]) dX1_ghostMirror_38 (by decide) rfl ?_
    refine x_aload_n (pc := 40) dX1_ghostMirror_40 rfl rfl ?_
    refine x_iload (pc := 41) dX1_ghostMirror_41 rfl ?_
    obtain ⟨R4, hc4, h⟩ := h
    refine x_callV (pc := 43) (z := m_X1_bouncesFrom) (b := a0) (as := [.inl (M (rf E a0 0) (x3.toNat))]) (rest := []) dX1_ghostMirror_43 c_RX1_68 (by decide) hk0 rfl (Nat.le_of_ble_eq_true rfl) hc4 (fun r M4 hr => ?_)
    obtain ⟨v4, rfl, hr⟩ := hr
    replace h := h v4 M4 hr
    show fx_At E m_X1_ghostMirror 46 [some (.inr a0), some (.inl x1), some (.inl x2), some (.inl x3), some (.inl (M (rf E a0 0) (x3.toNat))), some (.inl ((2 * (M (rf E a0 0) (x3.toNat))) - x2))] [.inl v4] M4 Q
    obtain ⟨g5, h⟩ := h
    refine x_zeq (pc := 46) 66 dX1_ghostMirror_46 (by decide) g5 (fun hc => ?_) (fun hc => ?_)
    · replace h := h.1 hc
      refine x_iinc (pc := 66) (lv' := [some (.inr a0), some (.inl x1), some (.inl x2), some (.inl (x3 + 1)), some (.inl (M (rf E a0 0) (x3.toNat))), some (.inl ((2 * (M (rf E a0 0) (x3.toNat))) - x2))]) dX1_ghostMirror_66 rfl (by decide) rfl ?_
      refine x_goto (pc := 69) 19 dX1_ghostMirror_69 (by decide) ?_
      refine x_weak (lv := [some (.inr a0), some (.inl x1), some (.inl x2), some (.inl (x3 + 1)), none, none]) (by simp [lvle]) ?_
      exact h
    · replace h := h.2 hc
      refine x_iload (pc := 49) dX1_ghostMirror_49 rfl ?_
      obtain ⟨g6, h⟩ := h
      refine x_zeq (pc := 51) 63 dX1_ghostMirror_51 (by decide) g6 (fun hc => ?_) (fun hc => ?_)
      · replace h := h.1 hc
        refine x_iload (pc := 63) dX1_ghostMirror_63 rfl ?_
        exact x_iret (pc := 65) dX1_ghostMirror_65 (Or.inl rfl) h
      · replace h := h.2 hc
        refine x_aload_n (pc := 54) dX1_ghostMirror_54 rfl rfl ?_
        refine x_iload (pc := 55) dX1_ghostMirror_55 rfl ?_
        obtain ⟨R7, hc7, h⟩ := h
        refine x_callV (pc := 57) (z := m_X1_bouncesFrom) (b := a0) (as := [.inl ((2 * (M (rf E a0 0) (x3.toNat))) - x2)]) (rest := []) dX1_ghostMirror_57 c_RX1_68 (by decide) hk0 rfl (Nat.le_of_ble_eq_true rfl) hc7 (fun r M7 hr => ?_)
        obtain ⟨v7, rfl, hr⟩ := hr
        replace h := h v7 M7 hr
        show fx_At E m_X1_ghostMirror 60 [some (.inr a0), some (.inl x1), some (.inl x2), some (.inl x3), some (.inl (M (rf E a0 0) (x3.toNat))), some (.inl ((2 * (M (rf E a0 0) (x3.toNat))) - x2))] [.inl v7] M7 Q
        obtain ⟨g8, h⟩ := h
        refine x_zeq (pc := 60) 66 dX1_ghostMirror_60 (by decide) g8 (fun hc => ?_) (fun hc => ?_)
        · replace h := h.1 hc
          refine x_iinc (pc := 66) (lv' := [some (.inr a0), some (.inl x1), some (.inl x2), some (.inl (x3 + 1)), some (.inl (M (rf E a0 0) (x3.toNat))), some (.inl ((2 * (M (rf E a0 0) (x3.toNat))) - x2))]) dX1_ghostMirror_66 rfl (by decide) rfl ?_
          refine x_goto (pc := 69) 19 dX1_ghostMirror_69 (by decide) ?_
          refine x_weak (lv := [some (.inr a0), some (.inl x1), some (.inl x2), some (.inl (x3 + 1)), none, none]) (by simp [lvle]) ?_
          exact h
        · replace h := h.2 hc
          refine x_iload (pc := 63) dX1_ghostMirror_63 rfl ?_
          exact x_iret (pc := 65) dX1_ghostMirror_65 (Or.inl rfl) h
theorem dX1_ghostOrigin_0 : decode cX1_ghostOrigin 0 = .ok (.aload_n 0, 1) := by decide +kernel
theorem dX1_ghostOrigin_1 : decode cX1_ghostOrigin 1 = .ok (.iload_n 1, 1) := by decide +kernel
theorem dX1_ghostOrigin_2 : decode cX1_ghostOrigin 2 = .ok (.invokevirtual 73, 3) := by decide +kernel
theorem dX1_ghostOrigin_5 : decode cX1_ghostOrigin 5 = .ok (.istore_n 2, 1) := by decide +kernel
theorem dX1_ghostOrigin_6 : decode cX1_ghostOrigin 6 = .ok (.iload_n 2, 1) := by decide +kernel
theorem dX1_ghostOrigin_7 : decode cX1_ghostOrigin 7 = .ok (.ldc 72, 2) := by decide +kernel
theorem dX1_ghostOrigin_9 : decode cX1_ghostOrigin 9 = .ok (.if_icmp .ne 8, 3) := by decide +kernel
theorem dX1_ghostOrigin_12 : decode cX1_ghostOrigin 12 = .ok (.ldc 72, 2) := by decide +kernel
theorem dX1_ghostOrigin_14 : decode cX1_ghostOrigin 14 = .ok (.goto 12, 3) := by decide +kernel
theorem dX1_ghostOrigin_17 : decode cX1_ghostOrigin 17 = .ok (.iconst 2, 1) := by decide +kernel
theorem dX1_ghostOrigin_18 : decode cX1_ghostOrigin 18 = .ok (.iload_n 2, 1) := by decide +kernel
theorem dX1_ghostOrigin_19 : decode cX1_ghostOrigin 19 = .ok (.imul, 1) := by decide +kernel
theorem dX1_ghostOrigin_20 : decode cX1_ghostOrigin 20 = .ok (.aload_n 0, 1) := by decide +kernel
theorem dX1_ghostOrigin_21 : decode cX1_ghostOrigin 21 = .ok (.iload_n 1, 1) := by decide +kernel
theorem dX1_ghostOrigin_22 : decode cX1_ghostOrigin 22 = .ok (.invokevirtual 65, 3) := by decide +kernel
theorem dX1_ghostOrigin_25 : decode cX1_ghostOrigin 25 = .ok (.isub, 1) := by decide +kernel
theorem dX1_ghostOrigin_26 : decode cX1_ghostOrigin 26 = .ok (.ireturn, 1) := by decide +kernel
set_option maxRecDepth 100000 in
theorem b_X1_ghostOrigin_0 {E : fxE} (hW : fx_Wt E) (a0 : Nat) (x1 : Int) (M : fxM) (Q : Option fxV → fxM → Prop) (hk0 : kd E a0 = 1) (h : ∃ R1 : Int → fxM → Prop, CtI E m_X1_ghostMirror [.inr a0, .inl x1] M R1 ∧ ∀ (v1 : Int) (M1 : fxM), R1 v1 M1 → (-2147483648 ≤ v1 ∧ v1 < 2147483648) ∧ ((¬ v1 = (-1000005 : Int) → (-2147483648 ≤ x1 ∧ x1 < 2147483648) ∧ (-2147483648 ≤ M1 a0 6 ∧ M1 a0 6 ≤ 200) ∧ Q (some (.inl ((2 * v1) - (evS E M1 a0 x1)))) M1) ∧ (v1 = (-1000005 : Int) → Q (some (.inl (-1000005))) M1))) : fx_At E m_X1_ghostOrigin 0 [some (.inr a0), some (.inl x1), none] [] M Q := by
  refine x_aload_n (pc := 0) dX1_ghostOrigin_0 rfl rfl ?_
  refine x_iload_n (pc := 1) dX1_ghostOrigin_1 rfl rfl ?_
  obtain ⟨R1, hc1, h⟩ := h
  refine x_callV (pc := 2) (z := m_X1_ghostMirror) (b := a0) (as := [.inl x1]) (rest := []) dX1_ghostOrigin_2 c_RX1_73 (by decide) hk0 rfl (Nat.le_of_ble_eq_true rfl) hc1 (fun r M1 hr => ?_)
  obtain ⟨v1, rfl, hr⟩ := hr
  replace h := h v1 M1 hr
  show fx_At E m_X1_ghostOrigin 5 [some (.inr a0), some (.inl x1), none] [.inl v1] M1 Q
  refine x_istore_n (pc := 5) (lv' := [some (.inr a0), some (.inl x1), some (.inl v1)]) dX1_ghostOrigin_5 rfl (by decide) rfl ?_
  refine x_iload_n (pc := 6) dX1_ghostOrigin_6 rfl rfl ?_
  refine x_ldc (pc := 7) (n := -1000005) dX1_ghostOrigin_7 k_RX1_72 rfl ?_
  obtain ⟨g2, h⟩ := h
  refine x_cne (pc := 9) 17 dX1_ghostOrigin_9 (by decide) ⟨g2, ⟨by decide, by decide⟩⟩ (fun hc => ?_) (fun hc => ?_)
  · replace h := h.1 hc
    refine x_iconst (pc := 17) dX1_ghostOrigin_17 ?_
    refine x_iload_n (pc := 18) dX1_ghostOrigin_18 rfl rfl ?_
    refine x_imul (pc := 19) dX1_ghostOrigin_19 ?_
    refine x_aload_n (pc := 20) dX1_ghostOrigin_20 rfl rfl ?_
    refine x_iload_n (pc := 21) dX1_ghostOrigin_21 rfl rfl ?_
    obtain ⟨g3, h⟩ := h
    obtain ⟨g4, h⟩ := h
    refine x_callV (pc := 22) (z := m_X1_startOf) (b := a0) (as := [.inl x1]) (rest := [.inl (2 * v1)]) dX1_ghostOrigin_22 c_RX1_65 (by decide) hk0 rfl (Nat.le_of_ble_eq_true rfl) (ct_X1_startOf hW hk0 g3 g4) (fun r M9 hr => ?_)
    obtain ⟨hM9, hr⟩ := hr
    rw [hM9, hr]
    clear hM9 hr
    show fx_At E m_X1_ghostOrigin 25 [some (.inr a0), some (.inl x1), some (.inl v1)] [.inl (evS E M1 a0 x1), .inl (2 * v1)] _ Q
    refine x_isub (pc := 25) dX1_ghostOrigin_25 ?_
    exact x_iret (pc := 26) dX1_ghostOrigin_26 (Or.inl rfl) h
  · replace h := h.2 hc
    refine x_ldc (pc := 12) (n := -1000005) dX1_ghostOrigin_12 k_RX1_72 rfl ?_
    refine x_goto (pc := 14) 26 dX1_ghostOrigin_14 (by decide) ?_
    exact x_iret (pc := 26) dX1_ghostOrigin_26 (Or.inl rfl) h
theorem dX1_firstEnd_0 : decode cX1_firstEnd 0 = .ok (.iconst 0, 1) := by decide +kernel
theorem dX1_firstEnd_1 : decode cX1_firstEnd 1 = .ok (.istore_n 1, 1) := by decide +kernel
theorem dX1_firstEnd_2 : decode cX1_firstEnd 2 = .ok (.iload_n 1, 1) := by decide +kernel
theorem dX1_firstEnd_3 : decode cX1_firstEnd 3 = .ok (.aload_n 0, 1) := by decide +kernel
theorem dX1_firstEnd_4 : decode cX1_firstEnd 4 = .ok (.getfield 31, 3) := by decide +kernel
theorem dX1_firstEnd_7 : decode cX1_firstEnd 7 = .ok (.if_icmp .ge 26, 3) := by decide +kernel
theorem dX1_firstEnd_10 : decode cX1_firstEnd 10 = .ok (.aload_n 0, 1) := by decide +kernel
theorem dX1_firstEnd_11 : decode cX1_firstEnd 11 = .ok (.getfield 18, 3) := by decide +kernel
theorem dX1_firstEnd_14 : decode cX1_firstEnd 14 = .ok (.iload_n 1, 1) := by decide +kernel
theorem dX1_firstEnd_15 : decode cX1_firstEnd 15 = .ok (.iaload, 1) := by decide +kernel
theorem dX1_firstEnd_16 : decode cX1_firstEnd 16 = .ok (.iconst 2, 1) := by decide +kernel
theorem dX1_firstEnd_17 : decode cX1_firstEnd 17 = .ok (.if_icmp .ne 10, 3) := by decide +kernel
theorem dX1_firstEnd_20 : decode cX1_firstEnd 20 = .ok (.aload_n 0, 1) := by decide +kernel
theorem dX1_firstEnd_21 : decode cX1_firstEnd 21 = .ok (.getfield 9, 3) := by decide +kernel
theorem dX1_firstEnd_24 : decode cX1_firstEnd 24 = .ok (.iload_n 1, 1) := by decide +kernel
theorem dX1_firstEnd_25 : decode cX1_firstEnd 25 = .ok (.iaload, 1) := by decide +kernel
theorem dX1_firstEnd_26 : decode cX1_firstEnd 26 = .ok (.ireturn, 1) := by decide +kernel
theorem dX1_firstEnd_27 : decode cX1_firstEnd 27 = .ok (.iinc 1 1, 3) := by decide +kernel
theorem dX1_firstEnd_30 : decode cX1_firstEnd 30 = .ok (.goto (-28), 3) := by decide +kernel
theorem dX1_firstEnd_33 : decode cX1_firstEnd 33 = .ok (.ldc 72, 2) := by decide +kernel
theorem dX1_firstEnd_35 : decode cX1_firstEnd 35 = .ok (.ireturn, 1) := by decide +kernel
set_option maxRecDepth 100000 in
theorem b_X1_firstEnd_0 {E : fxE} (hW : fx_Wt E) (a0 : Nat) (M : fxM) (Q : Option fxV → fxM → Prop) (hk0 : kd E a0 = 1) (h : fx_At E m_X1_firstEnd 2 [some (.inr a0), some (.inl 0)] [] M Q) : fx_At E m_X1_firstEnd 0 [some (.inr a0), none] [] M Q := by
  refine x_iconst (pc := 0) dX1_firstEnd_0 ?_
  refine x_istore_n (pc := 1) (lv' := [some (.inr a0), some (.inl 0)]) dX1_firstEnd_1 rfl (by decide) rfl ?_
  exact h
set_option maxRecDepth 100000 in
theorem b_X1_firstEnd_2 {E : fxE} (hW : fx_Wt E) (a0 : Nat) (x1 : Int) (M : fxM) (Q : Option fxV → fxM → Prop) (hk0 : kd E a0 = 1) (h : (-2147483648 ≤ x1 ∧ x1 < 2147483648) ∧ (-2147483648 ≤ (M a0 6) ∧ (M a0 6) < 2147483648) ∧ (((M a0 6) ≤ x1 → Q (some (.inl (-1000005))) M) ∧ (¬ (M a0 6) ≤ x1 → (0 ≤ x1 ∧ x1 < 200) ∧ (-2147483648 ≤ (M (rf E a0 2) (x1.toNat)) ∧ (M (rf E a0 2) (x1.toNat)) < 2147483648) ∧ ((¬ (M (rf E a0 2) (x1.toNat)) = (2 : Int) → fx_At E m_X1_firstEnd 2 [some (.inr a0), some (.inl (x1 + 1))] [] M Q) ∧ ((M (rf E a0 2) (x1.toNat)) = (2 : Int) → Q (some (.inl (M (rf E a0 0) (x1.toNat)))) M))))) : fx_At E m_X1_firstEnd 2 [some (.inr a0), some (.inl x1)] [] M Q := by
  refine x_iload_n (pc := 2) dX1_firstEnd_2 rfl rfl ?_
  refine x_aload_n (pc := 3) dX1_firstEnd_3 rfl rfl ?_
  refine x_geti (pc := 4) dX1_firstEnd_4 f_RX1_31 hk0 ?_
  obtain ⟨g1, h⟩ := h
  obtain ⟨g2, h⟩ := h
  refine x_cge (pc := 7) 33 dX1_firstEnd_7 (by decide) ⟨g1, g2⟩ (fun hc => ?_) (fun hc => ?_)
  · replace h := h.1 hc
    refine x_ldc (pc := 33) (n := -1000005) dX1_firstEnd_33 k_RX1_72 rfl ?_
    exact x_iret (pc := 35) dX1_firstEnd_35 (Or.inl rfl) h
  · replace h := h.2 hc
    refine x_aload_n (pc := 10) dX1_firstEnd_10 rfl rfl ?_
    refine x_getr (pc := 11) dX1_firstEnd_11 f_RX1_18 hk0 ?_
    refine x_iload_n (pc := 14) dX1_firstEnd_14 rfl rfl ?_
    obtain ⟨g3, h⟩ := h
    refine x_iald (pc := 15) dX1_firstEnd_15 (wk_1_2 hW hk0) (wl_1_2 hW hk0) g3 ?_
    refine x_iconst (pc := 16) dX1_firstEnd_16 ?_
    obtain ⟨g4, h⟩ := h
    refine x_cne (pc := 17) 27 dX1_firstEnd_17 (by decide) ⟨g4, ⟨by decide, by decide⟩⟩ (fun hc => ?_) (fun hc => ?_)
    · replace h := h.1 hc
      refine x_iinc (pc := 27) (lv' := [some (.inr a0), some (.inl (x1 + 1))]) dX1_firstEnd_27 rfl (by decide) rfl ?_
      refine x_goto (pc := 30) 2 dX1_firstEnd_30 (by decide) ?_
      exact h
    · replace h := h.2 hc
      refine x_aload_n (pc := 20) dX1_firstEnd_20 rfl rfl ?_
      refine x_getr (pc := 21) dX1_firstEnd_21 f_RX1_9 hk0 ?_
      refine x_iload_n (pc := 24) dX1_firstEnd_24 rfl rfl ?_
      refine x_iald (pc := 25) dX1_firstEnd_25 (wk_1_0 hW hk0) (wl_1_0 hW hk0) g3 ?_
      exact x_iret (pc := 26) dX1_firstEnd_26 (Or.inl rfl) h
theorem dX2_copyFrom_0 : decode cX2_copyFrom 0 = .ok (.aload_n 1, 1) := by decide +kernel
theorem dX2_copyFrom_1 : decode cX2_copyFrom 1 = .ok (.getfield 9, 3) := by decide +kernel
theorem dX2_copyFrom_4 : decode cX2_copyFrom 4 = .ok (.aload_n 0, 1) := by decide +kernel
theorem dX2_copyFrom_5 : decode cX2_copyFrom 5 = .ok (.getfield 9, 3) := by decide +kernel
theorem dX2_copyFrom_8 : decode cX2_copyFrom 8 = .ok (.invokestatic 46, 3) := by decide +kernel
theorem dX2_copyFrom_11 : decode cX2_copyFrom 11 = .ok (.aload_n 1, 1) := by decide +kernel
theorem dX2_copyFrom_12 : decode cX2_copyFrom 12 = .ok (.getfield 15, 3) := by decide +kernel
theorem dX2_copyFrom_15 : decode cX2_copyFrom 15 = .ok (.aload_n 0, 1) := by decide +kernel
theorem dX2_copyFrom_16 : decode cX2_copyFrom 16 = .ok (.getfield 15, 3) := by decide +kernel
theorem dX2_copyFrom_19 : decode cX2_copyFrom 19 = .ok (.invokestatic 46, 3) := by decide +kernel
theorem dX2_copyFrom_22 : decode cX2_copyFrom 22 = .ok (.aload_n 1, 1) := by decide +kernel
theorem dX2_copyFrom_23 : decode cX2_copyFrom 23 = .ok (.getfield 18, 3) := by decide +kernel
theorem dX2_copyFrom_26 : decode cX2_copyFrom 26 = .ok (.aload_n 0, 1) := by decide +kernel
theorem dX2_copyFrom_27 : decode cX2_copyFrom 27 = .ok (.getfield 18, 3) := by decide +kernel
theorem dX2_copyFrom_30 : decode cX2_copyFrom 30 = .ok (.invokestatic 46, 3) := by decide +kernel
theorem dX2_copyFrom_33 : decode cX2_copyFrom 33 = .ok (.aload_n 0, 1) := by decide +kernel
theorem dX2_copyFrom_34 : decode cX2_copyFrom 34 = .ok (.aload_n 1, 1) := by decide +kernel
theorem dX2_copyFrom_35 : decode cX2_copyFrom 35 = .ok (.getfield 21, 3) := by decide +kernel
theorem dX2_copyFrom_38 : decode cX2_copyFrom 38 = .ok (.putfield 21, 3) := by decide +kernel
theorem dX2_copyFrom_41 : decode cX2_copyFrom 41 = .ok (.aload_n 1, 1) := by decide +kernel
theorem dX2_copyFrom_42 : decode cX2_copyFrom 42 = .ok (.getfield 25, 3) := by decide +kernel
theorem dX2_copyFrom_45 : decode cX2_copyFrom 45 = .ok (.aload_n 0, 1) := by decide +kernel
theorem dX2_copyFrom_46 : decode cX2_copyFrom 46 = .ok (.getfield 25, 3) := by decide +kernel
theorem dX2_copyFrom_49 : decode cX2_copyFrom 49 = .ok (.invokestatic 46, 3) := by decide +kernel
theorem dX2_copyFrom_52 : decode cX2_copyFrom 52 = .ok (.aload_n 1, 1) := by decide +kernel
theorem dX2_copyFrom_53 : decode cX2_copyFrom 53 = .ok (.getfield 28, 3) := by decide +kernel
theorem dX2_copyFrom_56 : decode cX2_copyFrom 56 = .ok (.aload_n 0, 1) := by decide +kernel
theorem dX2_copyFrom_57 : decode cX2_copyFrom 57 = .ok (.getfield 28, 3) := by decide +kernel
theorem dX2_copyFrom_60 : decode cX2_copyFrom 60 = .ok (.invokestatic 46, 3) := by decide +kernel
theorem dX2_copyFrom_63 : decode cX2_copyFrom 63 = .ok (.aload_n 1, 1) := by decide +kernel
theorem dX2_copyFrom_64 : decode cX2_copyFrom 64 = .ok (.getfield 31, 3) := by decide +kernel
theorem dX2_copyFrom_67 : decode cX2_copyFrom 67 = .ok (.aload_n 0, 1) := by decide +kernel
theorem dX2_copyFrom_68 : decode cX2_copyFrom 68 = .ok (.getfield 31, 3) := by decide +kernel
theorem dX2_copyFrom_71 : decode cX2_copyFrom 71 = .ok (.invokestatic 46, 3) := by decide +kernel
theorem dX2_copyFrom_74 : decode cX2_copyFrom 74 = .ok (.aload_n 1, 1) := by decide +kernel
theorem dX2_copyFrom_75 : decode cX2_copyFrom 75 = .ok (.getfield 34, 3) := by decide +kernel
theorem dX2_copyFrom_78 : decode cX2_copyFrom 78 = .ok (.aload_n 0, 1) := by decide +kernel
theorem dX2_copyFrom_79 : decode cX2_copyFrom 79 = .ok (.getfield 34, 3) := by decide +kernel
theorem dX2_copyFrom_82 : decode cX2_copyFrom 82 = .ok (.invokestatic 46, 3) := by decide +kernel
theorem dX2_copyFrom_85 : decode cX2_copyFrom 85 = .ok (.aload_n 0, 1) := by decide +kernel
theorem dX2_copyFrom_86 : decode cX2_copyFrom 86 = .ok (.aload_n 1, 1) := by decide +kernel
theorem dX2_copyFrom_87 : decode cX2_copyFrom 87 = .ok (.getfield 37, 3) := by decide +kernel
theorem dX2_copyFrom_90 : decode cX2_copyFrom 90 = .ok (.putfield 37, 3) := by decide +kernel
theorem dX2_copyFrom_93 : decode cX2_copyFrom 93 = .ok (.aload_n 0, 1) := by decide +kernel
theorem dX2_copyFrom_94 : decode cX2_copyFrom 94 = .ok (.aload_n 1, 1) := by decide +kernel
theorem dX2_copyFrom_95 : decode cX2_copyFrom 95 = .ok (.getfield 40, 3) := by decide +kernel
theorem dX2_copyFrom_98 : decode cX2_copyFrom 98 = .ok (.putfield 40, 3) := by decide +kernel
theorem dX2_copyFrom_101 : decode cX2_copyFrom 101 = .ok (.aload_n 0, 1) := by decide +kernel
theorem dX2_copyFrom_102 : decode cX2_copyFrom 102 = .ok (.aload_n 1, 1) := by decide +kernel
theorem dX2_copyFrom_103 : decode cX2_copyFrom 103 = .ok (.getfield 43, 3) := by decide +kernel
theorem dX2_copyFrom_106 : decode cX2_copyFrom 106 = .ok (.putfield 43, 3) := by decide +kernel
theorem dX2_copyFrom_109 : decode cX2_copyFrom 109 = .ok (.return_, 1) := by decide +kernel
set_option maxRecDepth 100000 in
theorem b_X2_copyFrom_0 {E : fxE} (hW : fx_Wt E) (a0 : Nat) (a1 : Nat) (M : fxM) (Q : Option fxV → fxM → Prop) (hk0 : kd E a0 = 2) (hk1 : kd E a1 = 2) (h : ∃ R1 : fxM → Prop, CtV E m_X9_copyRow [.inr (rf E a1 0), .inr (rf E a0 0)] M R1 ∧ ∀ M1 : fxM, R1 M1 → ∃ R2 : fxM → Prop, CtV E m_X9_copyRow [.inr (rf E a1 1), .inr (rf E a0 1)] M1 R2 ∧ ∀ M2 : fxM, R2 M2 → ∃ R3 : fxM → Prop, CtV E m_X9_copyRow [.inr (rf E a1 2), .inr (rf E a0 2)] M2 R3 ∧ ∀ M3 : fxM, R3 M3 → ∀ M4 : fxM, M4 = mset M3 a0 3 (M3 a1 3) → ∃ R5 : fxM → Prop, CtV E m_X9_copyRow [.inr (rf E a1 4), .inr (rf E a0 4)] M4 R5 ∧ ∀ M5 : fxM, R5 M5 → ∃ R6 : fxM → Prop, CtV E m_X9_copyRow [.inr (rf E a1 5), .inr (rf E a0 5)] M5 R6 ∧ ∀ M6 : fxM, R6 M6 → ∃ R7 : fxM → Prop, CtV E m_X9_copyRow [.inr (rf E a1 6), .inr (rf E a0 6)] M6 R7 ∧ ∀ M7 : fxM, R7 M7 → ∃ R8 : fxM → Prop, CtV E m_X9_copyRow [.inr (rf E a1 7), .inr (rf E a0 7)] M7 R8 ∧ ∀ M8 : fxM, R8 M8 → ∀ M9 : fxM, M9 = mset M8 a0 8 (M8 a1 8) → ∀ M10 : fxM, M10 = mset M9 a0 9 (M9 a1 9) → ∀ M11 : fxM, M11 = mset M10 a0 10 (M10 a1 10) → Q none M11) : fx_At E m_X2_copyFrom 0 [some (.inr a0), some (.inr a1)] [] M Q := by
  refine x_aload_n (pc := 0) dX2_copyFrom_0 rfl rfl ?_
  refine x_getr (pc := 1) dX2_copyFrom_1 f_RX2_9 hk1 ?_
  refine x_aload_n (pc := 4) dX2_copyFrom_4 rfl rfl ?_
  refine x_getr (pc := 5) dX2_copyFrom_5 f_RX2_9 hk0 ?_
  obtain ⟨R1, hc1, h⟩ := h
  refine x_callN (pc := 8) (z := m_X9_copyRow) (as := [.inr (rf E a1 0), .inr (rf E a0 0)]) (rest := []) dX2_copyFrom_8 c_RX2_46 (by decide) rfl (Nat.le_of_ble_eq_true rfl) hc1 (fun r M1 hr => ?_)
  obtain ⟨rfl, hr⟩ := hr
  replace h := h M1 hr
  show fx_At E m_X2_copyFrom 11 [some (.inr a0), some (.inr a1)] [] M1 Q
  refine x_aload_n (pc := 11) dX2_copyFrom_11 rfl rfl ?_
  refine x_getr (pc := 12) dX2_copyFrom_12 f_RX2_15 hk1 ?_
  refine x_aload_n (pc := 15) dX2_copyFrom_15 rfl rfl ?_
  refine x_getr (pc := 16) dX2_copyFrom_16 f_RX2_15 hk0 ?_
  obtain ⟨R2, hc2, h⟩ := h
  refine x_callN (pc := 19) (z := m_X9_copyRow) (as := [.inr (rf E a1 1), .inr (rf E a0 1)]) (rest := []) dX2_copyFrom_19 c_RX2_46 (by decide) rfl (Nat.le_of_ble_eq_true rfl) hc2 (fun r M2 hr => ?_)
  obtain ⟨rfl, hr⟩ := hr
  replace h := h M2 hr
  show fx_At E m_X2_copyFrom 22 [some (.inr a0), some (.inr a1)] [] M2 Q
  refine x_aload_n (pc := 22) dX2_copyFrom_22 rfl rfl ?_
  refine x_getr (pc := 23) dX2_copyFrom_23 f_RX2_18 hk1 ?_
  refine x_aload_n (pc := 26) dX2_copyFrom_26 rfl rfl ?_
  refine x_getr (pc := 27) dX2_copyFrom_27 f_RX2_18 hk0 ?_
  obtain ⟨R3, hc3, h⟩ := h
  refine x_callN (pc := 30) (z := m_X9_copyRow) (as := [.inr (rf E a1 2), .inr (rf E a0 2)]) (rest := []) dX2_copyFrom_30 c_RX2_46 (by decide) rfl (Nat.le_of_ble_eq_true rfl) hc3 (fun r M3 hr => ?_)
  obtain ⟨rfl, hr⟩ := hr
  replace h := h M3 hr
  show fx_At E m_X2_copyFrom 33 [some (.inr a0), some (.inr a1)] [] M3 Q
  refine x_aload_n (pc := 33) dX2_copyFrom_33 rfl rfl ?_
  refine x_aload_n (pc := 34) dX2_copyFrom_34 rfl rfl ?_
  refine x_geti (pc := 35) dX2_copyFrom_35 f_RX2_21 hk1 ?_
  refine x_puti (pc := 38) dX2_copyFrom_38 f_RX2_21 hk0 (fun M4 hM4 => ?_)
  replace h := h M4 hM4
  refine x_aload_n (pc := 41) dX2_copyFrom_41 rfl rfl ?_
  refine x_getr (pc := 42) dX2_copyFrom_42 f_RX2_25 hk1 ?_
  refine x_aload_n (pc := 45) dX2_copyFrom_45 rfl rfl ?_
  refine x_getr (pc := 46) dX2_copyFrom_46 f_RX2_25 hk0 ?_
  obtain ⟨R5, hc5, h⟩ := h
  refine x_callN (pc := 49) (z := m_X9_copyRow) (as := [.inr (rf E a1 4), .inr (rf E a0 4)]) (rest := []) dX2_copyFrom_49 c_RX2_46 (by decide) rfl (Nat.le_of_ble_eq_true rfl) hc5 (fun r M5 hr => ?_)
  obtain ⟨rfl, hr⟩ := hr
  replace h := h M5 hr
  show fx_At E m_X2_copyFrom 52 [some (.inr a0), some (.inr a1)] [] M5 Q
  refine x_aload_n (pc := 52) dX2_copyFrom_52 rfl rfl ?_
  refine x_getr (pc := 53) dX2_copyFrom_53 f_RX2_28 hk1 ?_
  refine x_aload_n (pc := 56) dX2_copyFrom_56 rfl rfl ?_
  refine x_getr (pc := 57) dX2_copyFrom_57 f_RX2_28 hk0 ?_
  obtain ⟨R6, hc6, h⟩ := h
  refine x_callN (pc := 60) (z := m_X9_copyRow) (as := [.inr (rf E a1 5), .inr (rf E a0 5)]) (rest := []) dX2_copyFrom_60 c_RX2_46 (by decide) rfl (Nat.le_of_ble_eq_true rfl) hc6 (fun r M6 hr => ?_)
  obtain ⟨rfl, hr⟩ := hr
  replace h := h M6 hr
  show fx_At E m_X2_copyFrom 63 [some (.inr a0), some (.inr a1)] [] M6 Q
  refine x_aload_n (pc := 63) dX2_copyFrom_63 rfl rfl ?_
  refine x_getr (pc := 64) dX2_copyFrom_64 f_RX2_31 hk1 ?_
  refine x_aload_n (pc := 67) dX2_copyFrom_67 rfl rfl ?_
  refine x_getr (pc := 68) dX2_copyFrom_68 f_RX2_31 hk0 ?_
  obtain ⟨R7, hc7, h⟩ := h
  refine x_callN (pc := 71) (z := m_X9_copyRow) (as := [.inr (rf E a1 6), .inr (rf E a0 6)]) (rest := []) dX2_copyFrom_71 c_RX2_46 (by decide) rfl (Nat.le_of_ble_eq_true rfl) hc7 (fun r M7 hr => ?_)
  obtain ⟨rfl, hr⟩ := hr
  replace h := h M7 hr
  show fx_At E m_X2_copyFrom 74 [some (.inr a0), some (.inr a1)] [] M7 Q
  refine x_aload_n (pc := 74) dX2_copyFrom_74 rfl rfl ?_
  refine x_getr (pc := 75) dX2_copyFrom_75 f_RX2_34 hk1 ?_
  refine x_aload_n (pc := 78) dX2_copyFrom_78 rfl rfl ?_
  refine x_getr (pc := 79) dX2_copyFrom_79 f_RX2_34 hk0 ?_
  obtain ⟨R8, hc8, h⟩ := h
  refine x_callN (pc := 82) (z := m_X9_copyRow) (as := [.inr (rf E a1 7), .inr (rf E a0 7)]) (rest := []) dX2_copyFrom_82 c_RX2_46 (by decide) rfl (Nat.le_of_ble_eq_true rfl) hc8 (fun r M8 hr => ?_)
  obtain ⟨rfl, hr⟩ := hr
  replace h := h M8 hr
  show fx_At E m_X2_copyFrom 85 [some (.inr a0), some (.inr a1)] [] M8 Q
  refine x_aload_n (pc := 85) dX2_copyFrom_85 rfl rfl ?_
  refine x_aload_n (pc := 86) dX2_copyFrom_86 rfl rfl ?_
  refine x_geti (pc := 87) dX2_copyFrom_87 f_RX2_37 hk1 ?_
  refine x_puti (pc := 90) dX2_copyFrom_90 f_RX2_37 hk0 (fun M9 hM9 => ?_)
  replace h := h M9 hM9
  refine x_aload_n (pc := 93) dX2_copyFrom_93 rfl rfl ?_
  refine x_aload_n (pc := 94) dX2_copyFrom_94 rfl rfl ?_
  refine x_geti (pc := 95) dX2_copyFrom_95 f_RX2_40 hk1 ?_
  refine x_puti (pc := 98) dX2_copyFrom_98 f_RX2_40 hk0 (fun M10 hM10 => ?_)
  replace h := h M10 hM10
  refine x_aload_n (pc := 101) dX2_copyFrom_101 rfl rfl ?_
  refine x_aload_n (pc := 102) dX2_copyFrom_102 rfl rfl ?_
  refine x_geti (pc := 103) dX2_copyFrom_103 f_RX2_43 hk1 ?_
  refine x_puti (pc := 106) dX2_copyFrom_106 f_RX2_43 hk0 (fun M11 hM11 => ?_)
  replace h := h M11 hM11
  exact x_vret (pc := 109) dX2_copyFrom_109 rfl h
theorem dX2_clear_0 : decode cX2_clear 0 = .ok (.aload_n 0, 1) := by decide +kernel
theorem dX2_clear_1 : decode cX2_clear 1 = .ok (.iconst 0, 1) := by decide +kernel
theorem dX2_clear_2 : decode cX2_clear 2 = .ok (.putfield 21, 3) := by decide +kernel
theorem dX2_clear_5 : decode cX2_clear 5 = .ok (.aload_n 0, 1) := by decide +kernel
theorem dX2_clear_6 : decode cX2_clear 6 = .ok (.getfield 25, 3) := by decide +kernel
theorem dX2_clear_9 : decode cX2_clear 9 = .ok (.iconst 0, 1) := by decide +kernel
theorem dX2_clear_10 : decode cX2_clear 10 = .ok (.iconst 0, 1) := by decide +kernel
theorem dX2_clear_11 : decode cX2_clear 11 = .ok (.iastore, 1) := by decide +kernel
theorem dX2_clear_12 : decode cX2_clear 12 = .ok (.aload_n 0, 1) := by decide +kernel
theorem dX2_clear_13 : decode cX2_clear 13 = .ok (.getfield 28, 3) := by decide +kernel
theorem dX2_clear_16 : decode cX2_clear 16 = .ok (.iconst 0, 1) := by decide +kernel
theorem dX2_clear_17 : decode cX2_clear 17 = .ok (.iconst 0, 1) := by decide +kernel
theorem dX2_clear_18 : decode cX2_clear 18 = .ok (.iastore, 1) := by decide +kernel
theorem dX2_clear_19 : decode cX2_clear 19 = .ok (.aload_n 0, 1) := by decide +kernel
theorem dX2_clear_20 : decode cX2_clear 20 = .ok (.iconst 0, 1) := by decide +kernel
theorem dX2_clear_21 : decode cX2_clear 21 = .ok (.putfield 37, 3) := by decide +kernel
theorem dX2_clear_24 : decode cX2_clear 24 = .ok (.aload_n 0, 1) := by decide +kernel
theorem dX2_clear_25 : decode cX2_clear 25 = .ok (.iconst 0, 1) := by decide +kernel
theorem dX2_clear_26 : decode cX2_clear 26 = .ok (.putfield 40, 3) := by decide +kernel
theorem dX2_clear_29 : decode cX2_clear 29 = .ok (.aload_n 0, 1) := by decide +kernel
theorem dX2_clear_30 : decode cX2_clear 30 = .ok (.iconst 0, 1) := by decide +kernel
theorem dX2_clear_31 : decode cX2_clear 31 = .ok (.putfield 43, 3) := by decide +kernel
theorem dX2_clear_34 : decode cX2_clear 34 = .ok (.return_, 1) := by decide +kernel
set_option maxRecDepth 100000 in
theorem b_X2_clear_0 {E : fxE} (hW : fx_Wt E) (a0 : Nat) (M : fxM) (Q : Option fxV → fxM → Prop) (hk0 : kd E a0 = 2) (h : ∀ M1 : fxM, M1 = mset M a0 3 0 → ∀ M2 : fxM, M2 = mset M1 (rf E a0 4) 0 0 → ∀ M3 : fxM, M3 = mset M2 (rf E a0 5) 0 0 → ∀ M4 : fxM, M4 = mset M3 a0 8 0 → ∀ M5 : fxM, M5 = mset M4 a0 9 0 → ∀ M6 : fxM, M6 = mset M5 a0 10 0 → Q none M6) : fx_At E m_X2_clear 0 [some (.inr a0)] [] M Q := by
  refine x_aload_n (pc := 0) dX2_clear_0 rfl rfl ?_
  refine x_iconst (pc := 1) dX2_clear_1 ?_
  refine x_puti (pc := 2) dX2_clear_2 f_RX2_21 hk0 (fun M1 hM1 => ?_)
  replace h := h M1 hM1
  refine x_aload_n (pc := 5) dX2_clear_5 rfl rfl ?_
  refine x_getr (pc := 6) dX2_clear_6 f_RX2_25 hk0 ?_
  refine x_iconst (pc := 9) dX2_clear_9 ?_
  refine x_iconst (pc := 10) dX2_clear_10 ?_
  refine x_iast (pc := 11) dX2_clear_11 (wk_2_4 hW hk0) (wl_2_4 hW hk0) ⟨by decide, by decide⟩ (fun M2 hM2 => ?_)
  replace h := h M2 hM2
  refine x_aload_n (pc := 12) dX2_clear_12 rfl rfl ?_
  refine x_getr (pc := 13) dX2_clear_13 f_RX2_28 hk0 ?_
  refine x_iconst (pc := 16) dX2_clear_16 ?_
  refine x_iconst (pc := 17) dX2_clear_17 ?_
  refine x_iast (pc := 18) dX2_clear_18 (wk_2_5 hW hk0) (wl_2_5 hW hk0) ⟨by decide, by decide⟩ (fun M3 hM3 => ?_)
  replace h := h M3 hM3
  refine x_aload_n (pc := 19) dX2_clear_19 rfl rfl ?_
  refine x_iconst (pc := 20) dX2_clear_20 ?_
  refine x_puti (pc := 21) dX2_clear_21 f_RX2_37 hk0 (fun M4 hM4 => ?_)
  replace h := h M4 hM4
  refine x_aload_n (pc := 24) dX2_clear_24 rfl rfl ?_
  refine x_iconst (pc := 25) dX2_clear_25 ?_
  refine x_puti (pc := 26) dX2_clear_26 f_RX2_40 hk0 (fun M5 hM5 => ?_)
  replace h := h M5 hM5
  refine x_aload_n (pc := 29) dX2_clear_29 rfl rfl ?_
  refine x_iconst (pc := 30) dX2_clear_30 ?_
  refine x_puti (pc := 31) dX2_clear_31 f_RX2_43 hk0 (fun M6 hM6 => ?_)
  replace h := h M6 hM6
  exact x_vret (pc := 34) dX2_clear_34 rfl h
theorem dX2_append_0 : decode cX2_append 0 = .ok (.aload_n 0, 1) := by decide +kernel
theorem dX2_append_1 : decode cX2_append 1 = .ok (.getfield 21, 3) := by decide +kernel
theorem dX2_append_4 : decode cX2_append 4 = .ok (.ifCond .lt 12, 3) := by decide +kernel
theorem dX2_append_7 : decode cX2_append 7 = .ok (.aload_n 0, 1) := by decide +kernel
theorem dX2_append_8 : decode cX2_append 8 = .ok (.getfield 21, 3) := by decide +kernel
theorem dX2_append_11 : decode cX2_append 11 = .ok (.bipush 8, 2) := by decide +kernel
theorem dX2_append_13 : decode cX2_append 13 = .ok (.if_icmp .lt 4, 3) := by decide +kernel
theorem dX2_append_16 : decode cX2_append 16 = .ok (.return_, 1) := by decide +kernel
theorem dX2_append_17 : decode cX2_append 17 = .ok (.aload_n 0, 1) := by decide +kernel
theorem dX2_append_18 : decode cX2_append 18 = .ok (.getfield 9, 3) := by decide +kernel
theorem dX2_append_21 : decode cX2_append 21 = .ok (.aload_n 0, 1) := by decide +kernel
theorem dX2_append_22 : decode cX2_append 22 = .ok (.getfield 21, 3) := by decide +kernel
theorem dX2_append_25 : decode cX2_append 25 = .ok (.iload_n 1, 1) := by decide +kernel
theorem dX2_append_26 : decode cX2_append 26 = .ok (.iastore, 1) := by decide +kernel
theorem dX2_append_27 : decode cX2_append 27 = .ok (.aload_n 0, 1) := by decide +kernel
theorem dX2_append_28 : decode cX2_append 28 = .ok (.getfield 15, 3) := by decide +kernel
theorem dX2_append_31 : decode cX2_append 31 = .ok (.aload_n 0, 1) := by decide +kernel
theorem dX2_append_32 : decode cX2_append 32 = .ok (.getfield 21, 3) := by decide +kernel
theorem dX2_append_35 : decode cX2_append 35 = .ok (.iload_n 2, 1) := by decide +kernel
theorem dX2_append_36 : decode cX2_append 36 = .ok (.iastore, 1) := by decide +kernel
theorem dX2_append_37 : decode cX2_append 37 = .ok (.aload_n 0, 1) := by decide +kernel
theorem dX2_append_38 : decode cX2_append 38 = .ok (.getfield 18, 3) := by decide +kernel
theorem dX2_append_41 : decode cX2_append 41 = .ok (.aload_n 0, 1) := by decide +kernel
theorem dX2_append_42 : decode cX2_append 42 = .ok (.getfield 21, 3) := by decide +kernel
theorem dX2_append_45 : decode cX2_append 45 = .ok (.iload_n 3, 1) := by decide +kernel
theorem dX2_append_46 : decode cX2_append 46 = .ok (.iastore, 1) := by decide +kernel
theorem dX2_append_47 : decode cX2_append 47 = .ok (.aload_n 0, 1) := by decide +kernel
theorem dX2_append_48 : decode cX2_append 48 = .ok (.dup, 1) := by decide +kernel
theorem dX2_append_49 : decode cX2_append 49 = .ok (.getfield 21, 3) := by decide +kernel
theorem dX2_append_52 : decode cX2_append 52 = .ok (.iconst 1, 1) := by decide +kernel
theorem dX2_append_53 : decode cX2_append 53 = .ok (.iadd, 1) := by decide +kernel
theorem dX2_append_54 : decode cX2_append 54 = .ok (.putfield 21, 3) := by decide +kernel
theorem dX2_append_57 : decode cX2_append 57 = .ok (.aload_n 0, 1) := by decide +kernel
theorem dX2_append_58 : decode cX2_append 58 = .ok (.getfield 25, 3) := by decide +kernel
theorem dX2_append_61 : decode cX2_append 61 = .ok (.aload_n 0, 1) := by decide +kernel
theorem dX2_append_62 : decode cX2_append 62 = .ok (.getfield 21, 3) := by decide +kernel
theorem dX2_append_65 : decode cX2_append 65 = .ok (.iconst 0, 1) := by decide +kernel
theorem dX2_append_66 : decode cX2_append 66 = .ok (.iastore, 1) := by decide +kernel
theorem dX2_append_67 : decode cX2_append 67 = .ok (.aload_n 0, 1) := by decide +kernel
theorem dX2_append_68 : decode cX2_append 68 = .ok (.getfield 28, 3) := by decide +kernel
theorem dX2_append_71 : decode cX2_append 71 = .ok (.aload_n 0, 1) := by decide +kernel
theorem dX2_append_72 : decode cX2_append 72 = .ok (.getfield 21, 3) := by decide +kernel
theorem dX2_append_75 : decode cX2_append 75 = .ok (.iconst 0, 1) := by decide +kernel
theorem dX2_append_76 : decode cX2_append 76 = .ok (.iastore, 1) := by decide +kernel
theorem dX2_append_77 : decode cX2_append 77 = .ok (.return_, 1) := by decide +kernel
set_option maxRecDepth 100000 in
theorem b_X2_append_0 {E : fxE} (hW : fx_Wt E) (a0 : Nat) (x1 : Int) (x2 : Int) (x3 : Int) (M : fxM) (Q : Option fxV → fxM → Prop) (hk0 : kd E a0 = 2) (h : (-2147483648 ≤ (M a0 3) ∧ (M a0 3) < 2147483648) ∧ (((M a0 3) < (0 : Int) → Q none M) ∧ (¬ (M a0 3) < (0 : Int) → (((M a0 3) < (8 : Int) → (0 ≤ (M a0 3) ∧ (M a0 3) < 8) ∧ ∀ M3 : fxM, M3 = mset M (rf E a0 0) ((M a0 3).toNat) x1 → (0 ≤ (M3 a0 3) ∧ (M3 a0 3) < 8) ∧ ∀ M5 : fxM, M5 = mset M3 (rf E a0 1) ((M3 a0 3).toNat) x2 → (0 ≤ (M5 a0 3) ∧ (M5 a0 3) < 8) ∧ ∀ M7 : fxM, M7 = mset M5 (rf E a0 2) ((M5 a0 3).toNat) x3 → ∀ M8 : fxM, M8 = mset M7 a0 3 ((M7 a0 3) + 1) → (0 ≤ (M8 a0 3) ∧ (M8 a0 3) < 9) ∧ ∀ M10 : fxM, M10 = mset M8 (rf E a0 4) ((M8 a0 3).toNat) 0 → (0 ≤ (M10 a0 3) ∧ (M10 a0 3) < 9) ∧ ∀ M12 : fxM, M12 = mset M10 (rf E a0 5) ((M10 a0 3).toNat) 0 → Q none M12) ∧ (¬ (M a0 3) < (8 : Int) → Q none M))))) : fx_At E m_X2_append 0 [some (.inr a0), some (.inl x1), some (.inl x2), some (.inl x3)] [] M Q := by
  refine x_aload_n (pc := 0) dX2_append_0 rfl rfl ?_
  refine x_geti (pc := 1) dX2_append_1 f_RX2_21 hk0 ?_
  obtain ⟨g1, h⟩ := h
  refine x_zlt (pc := 4) 16 dX2_append_4 (by decide) g1 (fun hc => ?_) (fun hc => ?_)
  · replace h := h.1 hc
    exact x_vret (pc := 16) dX2_append_16 rfl h
  · replace h := h.2 hc
    refine x_aload_n (pc := 7) dX2_append_7 rfl rfl ?_
    refine x_geti (pc := 8) dX2_append_8 f_RX2_21 hk0 ?_
    refine x_bipush (pc := 11) dX2_append_11 (by decide +kernel) ?_
    refine x_clt (pc := 13) 17 dX2_append_13 (by decide) ⟨g1, ⟨by decide, by decide⟩⟩ (fun hc => ?_) (fun hc => ?_)
    · replace h := h.1 hc
      refine x_aload_n (pc := 17) dX2_append_17 rfl rfl ?_
      refine x_getr (pc := 18) dX2_append_18 f_RX2_9 hk0 ?_
      refine x_aload_n (pc := 21) dX2_append_21 rfl rfl ?_
      refine x_geti (pc := 22) dX2_append_22 f_RX2_21 hk0 ?_
      refine x_iload_n (pc := 25) dX2_append_25 rfl rfl ?_
      obtain ⟨g2, h⟩ := h
      refine x_iast (pc := 26) dX2_append_26 (wk_2_0 hW hk0) (wl_2_0 hW hk0) g2 (fun M3 hM3 => ?_)
      replace h := h M3 hM3
      refine x_aload_n (pc := 27) dX2_append_27 rfl rfl ?_
      refine x_getr (pc := 28) dX2_append_28 f_RX2_15 hk0 ?_
      refine x_aload_n (pc := 31) dX2_append_31 rfl rfl ?_
      refine x_geti (pc := 32) dX2_append_32 f_RX2_21 hk0 ?_
      refine x_iload_n (pc := 35) dX2_append_35 rfl rfl ?_
      obtain ⟨g4, h⟩ := h
      refine x_iast (pc := 36) dX2_append_36 (wk_2_1 hW hk0) (wl_2_1 hW hk0) g4 (fun M5 hM5 => ?_)
      replace h := h M5 hM5
      refine x_aload_n (pc := 37) dX2_append_37 rfl rfl ?_
      refine x_getr (pc := 38) dX2_append_38 f_RX2_18 hk0 ?_
      refine x_aload_n (pc := 41) dX2_append_41 rfl rfl ?_
      refine x_geti (pc := 42) dX2_append_42 f_RX2_21 hk0 ?_
      refine x_iload_n (pc := 45) dX2_append_45 rfl rfl ?_
      obtain ⟨g6, h⟩ := h
      refine x_iast (pc := 46) dX2_append_46 (wk_2_2 hW hk0) (wl_2_2 hW hk0) g6 (fun M7 hM7 => ?_)
      replace h := h M7 hM7
      refine x_aload_n (pc := 47) dX2_append_47 rfl rfl ?_
      refine x_dup (pc := 48) dX2_append_48 ?_
      refine x_geti (pc := 49) dX2_append_49 f_RX2_21 hk0 ?_
      refine x_iconst (pc := 52) dX2_append_52 ?_
      refine x_iadd (pc := 53) dX2_append_53 ?_
      refine x_puti (pc := 54) dX2_append_54 f_RX2_21 hk0 (fun M8 hM8 => ?_)
      replace h := h M8 hM8
      refine x_aload_n (pc := 57) dX2_append_57 rfl rfl ?_
      refine x_getr (pc := 58) dX2_append_58 f_RX2_25 hk0 ?_
      refine x_aload_n (pc := 61) dX2_append_61 rfl rfl ?_
      refine x_geti (pc := 62) dX2_append_62 f_RX2_21 hk0 ?_
      refine x_iconst (pc := 65) dX2_append_65 ?_
      obtain ⟨g9, h⟩ := h
      refine x_iast (pc := 66) dX2_append_66 (wk_2_4 hW hk0) (wl_2_4 hW hk0) g9 (fun M10 hM10 => ?_)
      replace h := h M10 hM10
      refine x_aload_n (pc := 67) dX2_append_67 rfl rfl ?_
      refine x_getr (pc := 68) dX2_append_68 f_RX2_28 hk0 ?_
      refine x_aload_n (pc := 71) dX2_append_71 rfl rfl ?_
      refine x_geti (pc := 72) dX2_append_72 f_RX2_21 hk0 ?_
      refine x_iconst (pc := 75) dX2_append_75 ?_
      obtain ⟨g11, h⟩ := h
      refine x_iast (pc := 76) dX2_append_76 (wk_2_5 hW hk0) (wl_2_5 hW hk0) g11 (fun M12 hM12 => ?_)
      replace h := h M12 hM12
      exact x_vret (pc := 77) dX2_append_77 rfl h
    · replace h := h.2 hc
      exact x_vret (pc := 16) dX2_append_16 rfl h
theorem dX2_appendBend_0 : decode cX2_appendBend 0 = .ok (.aload_n 0, 1) := by decide +kernel
theorem dX2_appendBend_1 : decode cX2_appendBend 1 = .ok (.getfield 37, 3) := by decide +kernel
theorem dX2_appendBend_4 : decode cX2_appendBend 4 = .ok (.ifCond .lt 12, 3) := by decide +kernel
theorem dX2_appendBend_7 : decode cX2_appendBend 7 = .ok (.aload_n 0, 1) := by decide +kernel
theorem dX2_appendBend_8 : decode cX2_appendBend 8 = .ok (.getfield 37, 3) := by decide +kernel
theorem dX2_appendBend_11 : decode cX2_appendBend 11 = .ok (.bipush 6, 2) := by decide +kernel
theorem dX2_appendBend_13 : decode cX2_appendBend 13 = .ok (.if_icmp .lt 4, 3) := by decide +kernel
theorem dX2_appendBend_16 : decode cX2_appendBend 16 = .ok (.return_, 1) := by decide +kernel
theorem dX2_appendBend_17 : decode cX2_appendBend 17 = .ok (.aload_n 0, 1) := by decide +kernel
theorem dX2_appendBend_18 : decode cX2_appendBend 18 = .ok (.getfield 31, 3) := by decide +kernel
theorem dX2_appendBend_21 : decode cX2_appendBend 21 = .ok (.aload_n 0, 1) := by decide +kernel
theorem dX2_appendBend_22 : decode cX2_appendBend 22 = .ok (.getfield 37, 3) := by decide +kernel
theorem dX2_appendBend_25 : decode cX2_appendBend 25 = .ok (.iload_n 1, 1) := by decide +kernel
theorem dX2_appendBend_26 : decode cX2_appendBend 26 = .ok (.iastore, 1) := by decide +kernel
theorem dX2_appendBend_27 : decode cX2_appendBend 27 = .ok (.aload_n 0, 1) := by decide +kernel
theorem dX2_appendBend_28 : decode cX2_appendBend 28 = .ok (.getfield 34, 3) := by decide +kernel
theorem dX2_appendBend_31 : decode cX2_appendBend 31 = .ok (.aload_n 0, 1) := by decide +kernel
theorem dX2_appendBend_32 : decode cX2_appendBend 32 = .ok (.getfield 37, 3) := by decide +kernel
theorem dX2_appendBend_35 : decode cX2_appendBend 35 = .ok (.iload_n 2, 1) := by decide +kernel
theorem dX2_appendBend_36 : decode cX2_appendBend 36 = .ok (.iastore, 1) := by decide +kernel
theorem dX2_appendBend_37 : decode cX2_appendBend 37 = .ok (.aload_n 0, 1) := by decide +kernel
theorem dX2_appendBend_38 : decode cX2_appendBend 38 = .ok (.dup, 1) := by decide +kernel
theorem dX2_appendBend_39 : decode cX2_appendBend 39 = .ok (.getfield 37, 3) := by decide +kernel
theorem dX2_appendBend_42 : decode cX2_appendBend 42 = .ok (.iconst 1, 1) := by decide +kernel
theorem dX2_appendBend_43 : decode cX2_appendBend 43 = .ok (.iadd, 1) := by decide +kernel
theorem dX2_appendBend_44 : decode cX2_appendBend 44 = .ok (.putfield 37, 3) := by decide +kernel
theorem dX2_appendBend_47 : decode cX2_appendBend 47 = .ok (.return_, 1) := by decide +kernel
set_option maxRecDepth 100000 in
theorem b_X2_appendBend_0 {E : fxE} (hW : fx_Wt E) (a0 : Nat) (x1 : Int) (x2 : Int) (M : fxM) (Q : Option fxV → fxM → Prop) (hk0 : kd E a0 = 2) (h : (-2147483648 ≤ (M a0 8) ∧ (M a0 8) < 2147483648) ∧ (((M a0 8) < (0 : Int) → Q none M) ∧ (¬ (M a0 8) < (0 : Int) → (((M a0 8) < (6 : Int) → (0 ≤ (M a0 8) ∧ (M a0 8) < 6) ∧ ∀ M3 : fxM, M3 = mset M (rf E a0 6) ((M a0 8).toNat) x1 → (0 ≤ (M3 a0 8) ∧ (M3 a0 8) < 6) ∧ ∀ M5 : fxM, M5 = mset M3 (rf E a0 7) ((M3 a0 8).toNat) x2 → ∀ M6 : fxM, M6 = mset M5 a0 8 ((M5 a0 8) + 1) → Q none M6) ∧ (¬ (M a0 8) < (6 : Int) → Q none M))))) : fx_At E m_X2_appendBend 0 [some (.inr a0), some (.inl x1), some (.inl x2)] [] M Q := by
  refine x_aload_n (pc := 0) dX2_appendBend_0 rfl rfl ?_
  refine x_geti (pc := 1) dX2_appendBend_1 f_RX2_37 hk0 ?_
  obtain ⟨g1, h⟩ := h
  refine x_zlt (pc := 4) 16 dX2_appendBend_4 (by decide) g1 (fun hc => ?_) (fun hc => ?_)
  · replace h := h.1 hc
    exact x_vret (pc := 16) dX2_appendBend_16 rfl h
  · replace h := h.2 hc
    refine x_aload_n (pc := 7) dX2_appendBend_7 rfl rfl ?_
    refine x_geti (pc := 8) dX2_appendBend_8 f_RX2_37 hk0 ?_
    refine x_bipush (pc := 11) dX2_appendBend_11 (by decide +kernel) ?_
    refine x_clt (pc := 13) 17 dX2_appendBend_13 (by decide) ⟨g1, ⟨by decide, by decide⟩⟩ (fun hc => ?_) (fun hc => ?_)
    · replace h := h.1 hc
      refine x_aload_n (pc := 17) dX2_appendBend_17 rfl rfl ?_
      refine x_getr (pc := 18) dX2_appendBend_18 f_RX2_31 hk0 ?_
      refine x_aload_n (pc := 21) dX2_appendBend_21 rfl rfl ?_
      refine x_geti (pc := 22) dX2_appendBend_22 f_RX2_37 hk0 ?_
      refine x_iload_n (pc := 25) dX2_appendBend_25 rfl rfl ?_
      obtain ⟨g2, h⟩ := h
      refine x_iast (pc := 26) dX2_appendBend_26 (wk_2_6 hW hk0) (wl_2_6 hW hk0) g2 (fun M3 hM3 => ?_)
      replace h := h M3 hM3
      refine x_aload_n (pc := 27) dX2_appendBend_27 rfl rfl ?_
      refine x_getr (pc := 28) dX2_appendBend_28 f_RX2_34 hk0 ?_
      refine x_aload_n (pc := 31) dX2_appendBend_31 rfl rfl ?_
      refine x_geti (pc := 32) dX2_appendBend_32 f_RX2_37 hk0 ?_
      refine x_iload_n (pc := 35) dX2_appendBend_35 rfl rfl ?_
      obtain ⟨g4, h⟩ := h
      refine x_iast (pc := 36) dX2_appendBend_36 (wk_2_7 hW hk0) (wl_2_7 hW hk0) g4 (fun M5 hM5 => ?_)
      replace h := h M5 hM5
      refine x_aload_n (pc := 37) dX2_appendBend_37 rfl rfl ?_
      refine x_dup (pc := 38) dX2_appendBend_38 ?_
      refine x_geti (pc := 39) dX2_appendBend_39 f_RX2_37 hk0 ?_
      refine x_iconst (pc := 42) dX2_appendBend_42 ?_
      refine x_iadd (pc := 43) dX2_appendBend_43 ?_
      refine x_puti (pc := 44) dX2_appendBend_44 f_RX2_37 hk0 (fun M6 hM6 => ?_)
      replace h := h M6 hM6
      exact x_vret (pc := 47) dX2_appendBend_47 rfl h
    · replace h := h.2 hc
      exact x_vret (pc := 16) dX2_appendBend_16 rfl h
theorem dX2_dropBend_0 : decode cX2_dropBend 0 = .ok (.iload_n 1, 1) := by decide +kernel
theorem dX2_dropBend_1 : decode cX2_dropBend 1 = .ok (.ifCond .lt 11, 3) := by decide +kernel
theorem dX2_dropBend_4 : decode cX2_dropBend 4 = .ok (.iload_n 1, 1) := by decide +kernel
theorem dX2_dropBend_5 : decode cX2_dropBend 5 = .ok (.aload_n 0, 1) := by decide +kernel
theorem dX2_dropBend_6 : decode cX2_dropBend 6 = .ok (.getfield 37, 3) := by decide +kernel
theorem dX2_dropBend_9 : decode cX2_dropBend 9 = .ok (.if_icmp .lt 4, 3) := by decide +kernel
theorem dX2_dropBend_12 : decode cX2_dropBend 12 = .ok (.return_, 1) := by decide +kernel
theorem dX2_dropBend_13 : decode cX2_dropBend 13 = .ok (.aload_n 0, 1) := by decide +kernel
theorem dX2_dropBend_14 : decode cX2_dropBend 14 = .ok (.dup, 1) := by decide +kernel
theorem dX2_dropBend_15 : decode cX2_dropBend 15 = .ok (.getfield 37, 3) := by decide +kernel
theorem dX2_dropBend_18 : decode cX2_dropBend 18 = .ok (.iconst 1, 1) := by decide +kernel
theorem dX2_dropBend_19 : decode cX2_dropBend 19 = .ok (.isub, 1) := by decide +kernel
theorem dX2_dropBend_20 : decode cX2_dropBend 20 = .ok (.putfield 37, 3) := by decide +kernel
theorem dX2_dropBend_23 : decode cX2_dropBend 23 = .ok (.iload_n 1, 1) := by decide +kernel
theorem dX2_dropBend_24 : decode cX2_dropBend 24 = .ok (.istore_n 2, 1) := by decide +kernel
theorem dX2_dropBend_25 : decode cX2_dropBend 25 = .ok (.iload_n 2, 1) := by decide +kernel
theorem dX2_dropBend_26 : decode cX2_dropBend 26 = .ok (.aload_n 0, 1) := by decide +kernel
theorem dX2_dropBend_27 : decode cX2_dropBend 27 = .ok (.getfield 37, 3) := by decide +kernel
theorem dX2_dropBend_30 : decode cX2_dropBend 30 = .ok (.if_icmp .ge 37, 3) := by decide +kernel
theorem dX2_dropBend_33 : decode cX2_dropBend 33 = .ok (.aload_n 0, 1) := by decide +kernel
theorem dX2_dropBend_34 : decode cX2_dropBend 34 = .ok (.getfield 31, 3) := by decide +kernel
theorem dX2_dropBend_37 : decode cX2_dropBend 37 = .ok (.iload_n 2, 1) := by decide +kernel
theorem dX2_dropBend_38 : decode cX2_dropBend 38 = .ok (.aload_n 0, 1) := by decide +kernel
theorem dX2_dropBend_39 : decode cX2_dropBend 39 = .ok (.getfield 31, 3) := by decide +kernel
theorem dX2_dropBend_42 : decode cX2_dropBend 42 = .ok (.iload_n 2, 1) := by decide +kernel
theorem dX2_dropBend_43 : decode cX2_dropBend 43 = .ok (.iconst 1, 1) := by decide +kernel
theorem dX2_dropBend_44 : decode cX2_dropBend 44 = .ok (.iadd, 1) := by decide +kernel
theorem dX2_dropBend_45 : decode cX2_dropBend 45 = .ok (.iaload, 1) := by decide +kernel
theorem dX2_dropBend_46 : decode cX2_dropBend 46 = .ok (.iastore, 1) := by decide +kernel
theorem dX2_dropBend_47 : decode cX2_dropBend 47 = .ok (.aload_n 0, 1) := by decide +kernel
theorem dX2_dropBend_48 : decode cX2_dropBend 48 = .ok (.getfield 34, 3) := by decide +kernel
theorem dX2_dropBend_51 : decode cX2_dropBend 51 = .ok (.iload_n 2, 1) := by decide +kernel
theorem dX2_dropBend_52 : decode cX2_dropBend 52 = .ok (.aload_n 0, 1) := by decide +kernel
theorem dX2_dropBend_53 : decode cX2_dropBend 53 = .ok (.getfield 34, 3) := by decide +kernel
theorem dX2_dropBend_56 : decode cX2_dropBend 56 = .ok (.iload_n 2, 1) := by decide +kernel
theorem dX2_dropBend_57 : decode cX2_dropBend 57 = .ok (.iconst 1, 1) := by decide +kernel
theorem dX2_dropBend_58 : decode cX2_dropBend 58 = .ok (.iadd, 1) := by decide +kernel
theorem dX2_dropBend_59 : decode cX2_dropBend 59 = .ok (.iaload, 1) := by decide +kernel
theorem dX2_dropBend_60 : decode cX2_dropBend 60 = .ok (.iastore, 1) := by decide +kernel
theorem dX2_dropBend_61 : decode cX2_dropBend 61 = .ok (.iinc 2 1, 3) := by decide +kernel
theorem dX2_dropBend_64 : decode cX2_dropBend 64 = .ok (.goto (-39), 3) := by decide +kernel
theorem dX2_dropBend_67 : decode cX2_dropBend 67 = .ok (.return_, 1) := by decide +kernel
set_option maxRecDepth 100000 in
theorem b_X2_dropBend_0 {E : fxE} (hW : fx_Wt E) (a0 : Nat) (x1 : Int) (M : fxM) (Q : Option fxV → fxM → Prop) (hk0 : kd E a0 = 2) (h : (-2147483648 ≤ x1 ∧ x1 < 2147483648) ∧ ((x1 < (0 : Int) → Q none M) ∧ (¬ x1 < (0 : Int) → (-2147483648 ≤ (M a0 8) ∧ (M a0 8) < 2147483648) ∧ ((x1 < (M a0 8) → ∀ M3 : fxM, M3 = mset M a0 8 ((M a0 8) - 1) → fx_At E m_X2_dropBend 25 [some (.inr a0), some (.inl x1), some (.inl x1)] [] M3 Q) ∧ (¬ x1 < (M a0 8) → Q none M))))) : fx_At E m_X2_dropBend 0 [some (.inr a0), some (.inl x1), none] [] M Q := by
  refine x_iload_n (pc := 0) dX2_dropBend_0 rfl rfl ?_
  obtain ⟨g1, h⟩ := h
  refine x_zlt (pc := 1) 12 dX2_dropBend_1 (by decide) g1 (fun hc => ?_) (fun hc => ?_)
  · replace h := h.1 hc
    exact x_vret (pc := 12) dX2_dropBend_12 rfl h
  · replace h := h.2 hc
    refine x_iload_n (pc := 4) dX2_dropBend_4 rfl rfl ?_
    refine x_aload_n (pc := 5) dX2_dropBend_5 rfl rfl ?_
    refine x_geti (pc := 6) dX2_dropBend_6 f_RX2_37 hk0 ?_
    obtain ⟨g2, h⟩ := h
    refine x_clt (pc := 9) 13 dX2_dropBend_9 (by decide) ⟨g1, g2⟩ (fun hc => ?_) (fun hc => ?_)
    · replace h := h.1 hc
      refine x_aload_n (pc := 13) dX2_dropBend_13 rfl rfl ?_
      refine x_dup (pc := 14) dX2_dropBend_14 ?_
      refine x_geti (pc := 15) dX2_dropBend_15 f_RX2_37 hk0 ?_
      refine x_iconst (pc := 18) dX2_dropBend_18 ?_
      refine x_isub (pc := 19) dX2_dropBend_19 ?_
      refine x_puti (pc := 20) dX2_dropBend_20 f_RX2_37 hk0 (fun M3 hM3 => ?_)
      replace h := h M3 hM3
      refine x_iload_n (pc := 23) dX2_dropBend_23 rfl rfl ?_
      refine x_istore_n (pc := 24) (lv' := [some (.inr a0), some (.inl x1), some (.inl x1)]) dX2_dropBend_24 rfl (by decide) rfl ?_
      exact h
    · replace h := h.2 hc
      exact x_vret (pc := 12) dX2_dropBend_12 rfl h
set_option maxRecDepth 100000 in
theorem b_X2_dropBend_25 {E : fxE} (hW : fx_Wt E) (a0 : Nat) (x1 : Int) (x2 : Int) (M : fxM) (Q : Option fxV → fxM → Prop) (hk0 : kd E a0 = 2) (h : (-2147483648 ≤ x2 ∧ x2 < 2147483648) ∧ (-2147483648 ≤ (M a0 8) ∧ (M a0 8) < 2147483648) ∧ (((M a0 8) ≤ x2 → Q none M) ∧ (¬ (M a0 8) ≤ x2 → (0 ≤ (x2 + 1) ∧ (x2 + 1) < 6) ∧ (0 ≤ x2 ∧ x2 < 6) ∧ ∀ M5 : fxM, M5 = mset M (rf E a0 6) (x2.toNat) (M (rf E a0 6) ((x2 + 1).toNat)) → ∀ M6 : fxM, M6 = mset M5 (rf E a0 7) (x2.toNat) (M5 (rf E a0 7) ((x2 + 1).toNat)) → fx_At E m_X2_dropBend 25 [some (.inr a0), some (.inl x1), some (.inl (x2 + 1))] [] M6 Q))) : fx_At E m_X2_dropBend 25 [some (.inr a0), some (.inl x1), some (.inl x2)] [] M Q := by
  refine x_iload_n (pc := 25) dX2_dropBend_25 rfl rfl ?_
  refine x_aload_n (pc := 26) dX2_dropBend_26 rfl rfl ?_
  refine x_geti (pc := 27) dX2_dropBend_27 f_RX2_37 hk0 ?_
  obtain ⟨g1, h⟩ := h
  obtain ⟨g2, h⟩ := h
  refine x_cge (pc := 30) 67 dX2_dropBend_30 (by decide) ⟨g1, g2⟩ (fun hc => ?_) (fun hc => ?_)
  · replace h := h.1 hc
    exact x_vret (pc := 67) dX2_dropBend_67 rfl h
  · replace h := h.2 hc
    refine x_aload_n (pc := 33) dX2_dropBend_33 rfl rfl ?_
    refine x_getr (pc := 34) dX2_dropBend_34 f_RX2_31 hk0 ?_
    refine x_iload_n (pc := 37) dX2_dropBend_37 rfl rfl ?_
    refine x_aload_n (pc := 38) dX2_dropBend_38 rfl rfl ?_
    refine x_getr (pc := 39) dX2_dropBend_39 f_RX2_31 hk0 ?_
    refine x_iload_n (pc := 42) dX2_dropBend_42 rfl rfl ?_
    refine x_iconst (pc := 43) dX2_dropBend_43 ?_
    refine x_iadd (pc := 44) dX2_dropBend_44 ?_
    obtain ⟨g3, h⟩ := h
    refine x_iald (pc := 45) dX2_dropBend_45 (wk_2_6 hW hk0) (wl_2_6 hW hk0) g3 ?_
    obtain ⟨g4, h⟩ := h
    refine x_iast (pc := 46) dX2_dropBend_46 (wk_2_6 hW hk0) (wl_2_6 hW hk0) g4 (fun M5 hM5 => ?_)
    replace h := h M5 hM5
    refine x_aload_n (pc := 47) dX2_dropBend_47 rfl rfl ?_
    refine x_getr (pc := 48) dX2_dropBend_48 f_RX2_34 hk0 ?_
    refine x_iload_n (pc := 51) dX2_dropBend_51 rfl rfl ?_
    refine x_aload_n (pc := 52) dX2_dropBend_52 rfl rfl ?_
    refine x_getr (pc := 53) dX2_dropBend_53 f_RX2_34 hk0 ?_
    refine x_iload_n (pc := 56) dX2_dropBend_56 rfl rfl ?_
    refine x_iconst (pc := 57) dX2_dropBend_57 ?_
    refine x_iadd (pc := 58) dX2_dropBend_58 ?_
    refine x_iald (pc := 59) dX2_dropBend_59 (wk_2_7 hW hk0) (wl_2_7 hW hk0) g3 ?_
    refine x_iast (pc := 60) dX2_dropBend_60 (wk_2_7 hW hk0) (wl_2_7 hW hk0) g4 (fun M6 hM6 => ?_)
    replace h := h M6 hM6
    refine x_iinc (pc := 61) (lv' := [some (.inr a0), some (.inl x1), some (.inl (x2 + 1))]) dX2_dropBend_61 rfl (by decide) rfl ?_
    refine x_goto (pc := 64) 25 dX2_dropBend_64 (by decide) ?_
    exact h
theorem dX3_keep_0 : decode cX3_keep 0 = .ok (.aload_n 0, 1) := by decide +kernel
theorem dX3_keep_1 : decode cX3_keep 1 = .ok (.getfield 21, 3) := by decide +kernel
theorem dX3_keep_4 : decode cX3_keep 4 = .ok (.bipush 8, 2) := by decide +kernel
theorem dX3_keep_6 : decode cX3_keep 6 = .ok (.if_icmp .lt 24, 3) := by decide +kernel
theorem dX3_keep_9 : decode cX3_keep 9 = .ok (.aload_n 0, 1) := by decide +kernel
theorem dX3_keep_10 : decode cX3_keep 10 = .ok (.aload_n 0, 1) := by decide +kernel
theorem dX3_keep_11 : decode cX3_keep 11 = .ok (.getfield 17, 3) := by decide +kernel
theorem dX3_keep_14 : decode cX3_keep 14 = .ok (.iconst 1, 1) := by decide +kernel
theorem dX3_keep_15 : decode cX3_keep 15 = .ok (.iadd, 1) := by decide +kernel
theorem dX3_keep_16 : decode cX3_keep 16 = .ok (.bipush 8, 2) := by decide +kernel
theorem dX3_keep_18 : decode cX3_keep 18 = .ok (.invokestatic 25, 3) := by decide +kernel
theorem dX3_keep_21 : decode cX3_keep 21 = .ok (.putfield 17, 3) := by decide +kernel
theorem dX3_keep_24 : decode cX3_keep 24 = .ok (.aload_n 0, 1) := by decide +kernel
theorem dX3_keep_25 : decode cX3_keep 25 = .ok (.bipush 7, 2) := by decide +kernel
theorem dX3_keep_27 : decode cX3_keep 27 = .ok (.putfield 21, 3) := by decide +kernel
theorem dX3_keep_30 : decode cX3_keep 30 = .ok (.aload_n 0, 1) := by decide +kernel
theorem dX3_keep_31 : decode cX3_keep 31 = .ok (.getfield 11, 3) := by decide +kernel
theorem dX3_keep_34 : decode cX3_keep 34 = .ok (.aload_n 0, 1) := by decide +kernel
theorem dX3_keep_35 : decode cX3_keep 35 = .ok (.getfield 17, 3) := by decide +kernel
theorem dX3_keep_38 : decode cX3_keep 38 = .ok (.aload_n 0, 1) := by decide +kernel
theorem dX3_keep_39 : decode cX3_keep 39 = .ok (.getfield 21, 3) := by decide +kernel
theorem dX3_keep_42 : decode cX3_keep 42 = .ok (.iadd, 1) := by decide +kernel
theorem dX3_keep_43 : decode cX3_keep 43 = .ok (.bipush 8, 2) := by decide +kernel
theorem dX3_keep_45 : decode cX3_keep 45 = .ok (.invokestatic 25, 3) := by decide +kernel
theorem dX3_keep_48 : decode cX3_keep 48 = .ok (.aaload, 1) := by decide +kernel
theorem dX3_keep_49 : decode cX3_keep 49 = .ok (.aload_n 1, 1) := by decide +kernel
theorem dX3_keep_50 : decode cX3_keep 50 = .ok (.invokevirtual 31, 3) := by decide +kernel
theorem dX3_keep_53 : decode cX3_keep 53 = .ok (.aload_n 0, 1) := by decide +kernel
theorem dX3_keep_54 : decode cX3_keep 54 = .ok (.dup, 1) := by decide +kernel
theorem dX3_keep_55 : decode cX3_keep 55 = .ok (.getfield 21, 3) := by decide +kernel
theorem dX3_keep_58 : decode cX3_keep 58 = .ok (.iconst 1, 1) := by decide +kernel
theorem dX3_keep_59 : decode cX3_keep 59 = .ok (.iadd, 1) := by decide +kernel
theorem dX3_keep_60 : decode cX3_keep 60 = .ok (.putfield 21, 3) := by decide +kernel
theorem dX3_keep_63 : decode cX3_keep 63 = .ok (.return_, 1) := by decide +kernel
set_option maxRecDepth 100000 in
theorem b_X3_keep_0 {E : fxE} (hW : fx_Wt E) (a0 : Nat) (a1 : Nat) (M : fxM) (Q : Option fxV → fxM → Prop) (hk0 : kd E a0 = 3) (hk1 : kd E a1 = 5) (h : (-2147483648 ≤ (M a0 2) ∧ (M a0 2) < 2147483648) ∧ (((M a0 2) < (8 : Int) → fx_At E m_X3_keep 30 [some (.inr a0), some (.inr a1)] [] M Q) ∧ (¬ (M a0 2) < (8 : Int) → (0 ≤ ((M a0 1) + 1) ∧ ((M a0 1) + 1) < 2147483648) ∧ ∀ M3 : fxM, M3 = mset M a0 1 (((M a0 1) + 1) % 8) → ∀ M4 : fxM, M4 = mset M3 a0 2 7 → fx_At E m_X3_keep 30 [some (.inr a0), some (.inr a1)] [] M4 Q))) : fx_At E m_X3_keep 0 [some (.inr a0), some (.inr a1)] [] M Q := by
  refine x_aload_n (pc := 0) dX3_keep_0 rfl rfl ?_
  refine x_geti (pc := 1) dX3_keep_1 f_RX3_21 hk0 ?_
  refine x_bipush (pc := 4) dX3_keep_4 (by decide +kernel) ?_
  obtain ⟨g1, h⟩ := h
  refine x_clt (pc := 6) 30 dX3_keep_6 (by decide) ⟨g1, ⟨by decide, by decide⟩⟩ (fun hc => ?_) (fun hc => ?_)
  · replace h := h.1 hc
    exact h
  · replace h := h.2 hc
    refine x_aload_n (pc := 9) dX3_keep_9 rfl rfl ?_
    refine x_aload_n (pc := 10) dX3_keep_10 rfl rfl ?_
    refine x_geti (pc := 11) dX3_keep_11 f_RX3_17 hk0 ?_
    refine x_iconst (pc := 14) dX3_keep_14 ?_
    refine x_iadd (pc := 15) dX3_keep_15 ?_
    refine x_bipush (pc := 16) dX3_keep_16 (by decide +kernel) ?_
    obtain ⟨g2, h⟩ := h
    refine x_callS (pc := 18) (z := m_J9_floorMod_7cf53) (as := [.inl ((M a0 1) + 1), .inl 8]) (rest := [.inr a0]) dX3_keep_18 c_RX3_25 (by decide) rfl (Nat.le_of_ble_eq_true rfl) (ct_floorMod8 hW g2) (fun r M9 hr => ?_)
    obtain ⟨hM9, hr⟩ := hr
    rw [hM9, hr]
    clear hM9 hr
    show fx_At E m_X3_keep 21 [some (.inr a0), some (.inr a1)] [.inl (((M a0 1) + 1) % 8), .inr a0] _ Q
    refine x_puti (pc := 21) dX3_keep_21 f_RX3_17 hk0 (fun M3 hM3 => ?_)
    replace h := h M3 hM3
    refine x_aload_n (pc := 24) dX3_keep_24 rfl rfl ?_
    refine x_bipush (pc := 25) dX3_keep_25 (by decide +kernel) ?_
    refine x_puti (pc := 27) dX3_keep_27 f_RX3_21 hk0 (fun M4 hM4 => ?_)
    replace h := h M4 hM4
    exact h
set_option maxRecDepth 100000 in
theorem b_X3_keep_30 {E : fxE} (hW : fx_Wt E) (a0 : Nat) (a1 : Nat) (M : fxM) (Q : Option fxV → fxM → Prop) (hk0 : kd E a0 = 3) (hk1 : kd E a1 = 5) (h : (0 ≤ ((M a0 1) + (M a0 2)) ∧ ((M a0 1) + (M a0 2)) < 2147483648) ∧ (0 ≤ (((M a0 1) + (M a0 2)) % 8) ∧ (((M a0 1) + (M a0 2)) % 8) < 8) ∧ ∃ R3 : fxM → Prop, CtV E m_X5_copyFrom [.inr (rf E (rf E a0 0) (((M a0 1) + (M a0 2)) % 8).toNat), .inr a1] M R3 ∧ ∀ M3 : fxM, R3 M3 → ∀ M4 : fxM, M4 = mset M3 a0 2 ((M3 a0 2) + 1) → Q none M4) : fx_At E m_X3_keep 30 [some (.inr a0), some (.inr a1)] [] M Q := by
  refine x_aload_n (pc := 30) dX3_keep_30 rfl rfl ?_
  refine x_getr (pc := 31) dX3_keep_31 f_RX3_11 hk0 ?_
  refine x_aload_n (pc := 34) dX3_keep_34 rfl rfl ?_
  refine x_geti (pc := 35) dX3_keep_35 f_RX3_17 hk0 ?_
  refine x_aload_n (pc := 38) dX3_keep_38 rfl rfl ?_
  refine x_geti (pc := 39) dX3_keep_39 f_RX3_21 hk0 ?_
  refine x_iadd (pc := 42) dX3_keep_42 ?_
  refine x_bipush (pc := 43) dX3_keep_43 (by decide +kernel) ?_
  obtain ⟨g1, h⟩ := h
  refine x_callS (pc := 45) (z := m_J9_floorMod_7cf53) (as := [.inl ((M a0 1) + (M a0 2)), .inl 8]) (rest := [.inr (rf E a0 0)]) dX3_keep_45 c_RX3_25 (by decide) rfl (Nat.le_of_ble_eq_true rfl) (ct_floorMod8 hW g1) (fun r M9 hr => ?_)
  obtain ⟨hM9, hr⟩ := hr
  rw [hM9, hr]
  clear hM9 hr
  show fx_At E m_X3_keep 48 [some (.inr a0), some (.inr a1)] [.inl (((M a0 1) + (M a0 2)) % 8), .inr (rf E a0 0)] _ Q
  obtain ⟨g2, h⟩ := h
  refine x_aald (pc := 48) dX3_keep_48 (wk_3_0 hW hk0) (by decide) (by decide) (wl_3_0 hW hk0) g2 ?_
  refine x_aload_n (pc := 49) dX3_keep_49 rfl rfl ?_
  obtain ⟨R3, hc3, h⟩ := h
  refine x_callV (pc := 50) (z := m_X5_copyFrom) (b := (rf E (rf E a0 0) (((M a0 1) + (M a0 2)) % 8).toNat)) (as := [.inr a1]) (rest := []) dX3_keep_50 c_RX3_31 (by decide) (we_14 (i := ((M a0 1) + (M a0 2)) % 8) hW (wk_3_0 hW hk0) (wl_3_0 hW hk0) g2) rfl (Nat.le_of_ble_eq_true rfl) hc3 (fun r M3 hr => ?_)
  obtain ⟨rfl, hr⟩ := hr
  replace h := h M3 hr
  show fx_At E m_X3_keep 53 [some (.inr a0), some (.inr a1)] [] M3 Q
  refine x_aload_n (pc := 53) dX3_keep_53 rfl rfl ?_
  refine x_dup (pc := 54) dX3_keep_54 ?_
  refine x_geti (pc := 55) dX3_keep_55 f_RX3_21 hk0 ?_
  refine x_iconst (pc := 58) dX3_keep_58 ?_
  refine x_iadd (pc := 59) dX3_keep_59 ?_
  refine x_puti (pc := 60) dX3_keep_60 f_RX3_21 hk0 (fun M4 hM4 => ?_)
  replace h := h M4 hM4
  exact x_vret (pc := 63) dX3_keep_63 rfl h
theorem dX3_restoreLatest_0 : decode cX3_restoreLatest 0 = .ok (.aload_n 0, 1) := by decide +kernel
theorem dX3_restoreLatest_1 : decode cX3_restoreLatest 1 = .ok (.getfield 21, 3) := by decide +kernel
theorem dX3_restoreLatest_4 : decode cX3_restoreLatest 4 = .ok (.ifCond .gt 4, 3) := by decide +kernel
theorem dX3_restoreLatest_7 : decode cX3_restoreLatest 7 = .ok (.return_, 1) := by decide +kernel
theorem dX3_restoreLatest_8 : decode cX3_restoreLatest 8 = .ok (.aload_n 0, 1) := by decide +kernel
theorem dX3_restoreLatest_9 : decode cX3_restoreLatest 9 = .ok (.dup, 1) := by decide +kernel
theorem dX3_restoreLatest_10 : decode cX3_restoreLatest 10 = .ok (.getfield 21, 3) := by decide +kernel
theorem dX3_restoreLatest_13 : decode cX3_restoreLatest 13 = .ok (.iconst 1, 1) := by decide +kernel
theorem dX3_restoreLatest_14 : decode cX3_restoreLatest 14 = .ok (.isub, 1) := by decide +kernel
theorem dX3_restoreLatest_15 : decode cX3_restoreLatest 15 = .ok (.putfield 21, 3) := by decide +kernel
theorem dX3_restoreLatest_18 : decode cX3_restoreLatest 18 = .ok (.aload_n 1, 1) := by decide +kernel
theorem dX3_restoreLatest_19 : decode cX3_restoreLatest 19 = .ok (.aload_n 0, 1) := by decide +kernel
theorem dX3_restoreLatest_20 : decode cX3_restoreLatest 20 = .ok (.getfield 11, 3) := by decide +kernel
theorem dX3_restoreLatest_23 : decode cX3_restoreLatest 23 = .ok (.aload_n 0, 1) := by decide +kernel
theorem dX3_restoreLatest_24 : decode cX3_restoreLatest 24 = .ok (.getfield 17, 3) := by decide +kernel
theorem dX3_restoreLatest_27 : decode cX3_restoreLatest 27 = .ok (.aload_n 0, 1) := by decide +kernel
theorem dX3_restoreLatest_28 : decode cX3_restoreLatest 28 = .ok (.getfield 21, 3) := by decide +kernel
theorem dX3_restoreLatest_31 : decode cX3_restoreLatest 31 = .ok (.iadd, 1) := by decide +kernel
theorem dX3_restoreLatest_32 : decode cX3_restoreLatest 32 = .ok (.bipush 8, 2) := by decide +kernel
theorem dX3_restoreLatest_34 : decode cX3_restoreLatest 34 = .ok (.invokestatic 25, 3) := by decide +kernel
theorem dX3_restoreLatest_37 : decode cX3_restoreLatest 37 = .ok (.aaload, 1) := by decide +kernel
theorem dX3_restoreLatest_38 : decode cX3_restoreLatest 38 = .ok (.invokevirtual 31, 3) := by decide +kernel
theorem dX3_restoreLatest_41 : decode cX3_restoreLatest 41 = .ok (.return_, 1) := by decide +kernel
set_option maxRecDepth 100000 in
theorem b_X3_restoreLatest_0 {E : fxE} (hW : fx_Wt E) (a0 : Nat) (a1 : Nat) (M : fxM) (Q : Option fxV → fxM → Prop) (hk0 : kd E a0 = 3) (hk1 : kd E a1 = 5) (h : (-2147483648 ≤ (M a0 2) ∧ (M a0 2) < 2147483648) ∧ (((0 : Int) < (M a0 2) → ∀ M2 : fxM, M2 = mset M a0 2 ((M a0 2) - 1) → (0 ≤ ((M2 a0 1) + (M2 a0 2)) ∧ ((M2 a0 1) + (M2 a0 2)) < 2147483648) ∧ (0 ≤ (((M2 a0 1) + (M2 a0 2)) % 8) ∧ (((M2 a0 1) + (M2 a0 2)) % 8) < 8) ∧ ∃ R5 : fxM → Prop, CtV E m_X5_copyFrom [.inr a1, .inr (rf E (rf E a0 0) (((M2 a0 1) + (M2 a0 2)) % 8).toNat)] M2 R5 ∧ ∀ M5 : fxM, R5 M5 → Q none M5) ∧ (¬ (0 : Int) < (M a0 2) → Q none M))) : fx_At E m_X3_restoreLatest 0 [some (.inr a0), some (.inr a1)] [] M Q := by
  refine x_aload_n (pc := 0) dX3_restoreLatest_0 rfl rfl ?_
  refine x_geti (pc := 1) dX3_restoreLatest_1 f_RX3_21 hk0 ?_
  obtain ⟨g1, h⟩ := h
  refine x_zgt (pc := 4) 8 dX3_restoreLatest_4 (by decide) g1 (fun hc => ?_) (fun hc => ?_)
  · replace h := h.1 hc
    refine x_aload_n (pc := 8) dX3_restoreLatest_8 rfl rfl ?_
    refine x_dup (pc := 9) dX3_restoreLatest_9 ?_
    refine x_geti (pc := 10) dX3_restoreLatest_10 f_RX3_21 hk0 ?_
    refine x_iconst (pc := 13) dX3_restoreLatest_13 ?_
    refine x_isub (pc := 14) dX3_restoreLatest_14 ?_
    refine x_puti (pc := 15) dX3_restoreLatest_15 f_RX3_21 hk0 (fun M2 hM2 => ?_)
    replace h := h M2 hM2
    refine x_aload_n (pc := 18) dX3_restoreLatest_18 rfl rfl ?_
    refine x_aload_n (pc := 19) dX3_restoreLatest_19 rfl rfl ?_
    refine x_getr (pc := 20) dX3_restoreLatest_20 f_RX3_11 hk0 ?_
    refine x_aload_n (pc := 23) dX3_restoreLatest_23 rfl rfl ?_
    refine x_geti (pc := 24) dX3_restoreLatest_24 f_RX3_17 hk0 ?_
    refine x_aload_n (pc := 27) dX3_restoreLatest_27 rfl rfl ?_
    refine x_geti (pc := 28) dX3_restoreLatest_28 f_RX3_21 hk0 ?_
    refine x_iadd (pc := 31) dX3_restoreLatest_31 ?_
    refine x_bipush (pc := 32) dX3_restoreLatest_32 (by decide +kernel) ?_
    obtain ⟨g3, h⟩ := h
    refine x_callS (pc := 34) (z := m_J9_floorMod_7cf53) (as := [.inl ((M2 a0 1) + (M2 a0 2)), .inl 8]) (rest := [.inr (rf E a0 0), .inr a1]) dX3_restoreLatest_34 c_RX3_25 (by decide) rfl (Nat.le_of_ble_eq_true rfl) (ct_floorMod8 hW g3) (fun r M9 hr => ?_)
    obtain ⟨hM9, hr⟩ := hr
    rw [hM9, hr]
    clear hM9 hr
    show fx_At E m_X3_restoreLatest 37 [some (.inr a0), some (.inr a1)] [.inl (((M2 a0 1) + (M2 a0 2)) % 8), .inr (rf E a0 0), .inr a1] _ Q
    obtain ⟨g4, h⟩ := h
    refine x_aald (pc := 37) dX3_restoreLatest_37 (wk_3_0 hW hk0) (by decide) (by decide) (wl_3_0 hW hk0) g4 ?_
    obtain ⟨R5, hc5, h⟩ := h
    refine x_callV (pc := 38) (z := m_X5_copyFrom) (b := a1) (as := [.inr (rf E (rf E a0 0) (((M2 a0 1) + (M2 a0 2)) % 8).toNat)]) (rest := []) dX3_restoreLatest_38 c_RX3_31 (by decide) hk1 rfl (Nat.le_of_ble_eq_true rfl) hc5 (fun r M5 hr => ?_)
    obtain ⟨rfl, hr⟩ := hr
    replace h := h M5 hr
    show fx_At E m_X3_restoreLatest 41 [some (.inr a0), some (.inr a1)] [] M5 Q
    exact x_vret (pc := 41) dX3_restoreLatest_41 rfl h
  · replace h := h.2 hc
    exact x_vret (pc := 7) dX3_restoreLatest_7 rfl h
theorem dX4_pair_0 : decode cX4_pair 0 = .ok (.aload_n 0, 1) := by decide +kernel
theorem dX4_pair_1 : decode cX4_pair 1 = .ok (.iconst 0, 1) := by decide +kernel
theorem dX4_pair_2 : decode cX4_pair 2 = .ok (.putfield 22, 3) := by decide +kernel
theorem dX4_pair_5 : decode cX4_pair 5 = .ok (.iconst 0, 1) := by decide +kernel
theorem dX4_pair_6 : decode cX4_pair 6 = .ok (.istore 5, 2) := by decide +kernel
theorem dX4_pair_8 : decode cX4_pair 8 = .ok (.iload 5, 2) := by decide +kernel
theorem dX4_pair_10 : decode cX4_pair 10 = .ok (.aload_n 0, 1) := by decide +kernel
theorem dX4_pair_11 : decode cX4_pair 11 = .ok (.getfield 18, 3) := by decide +kernel
theorem dX4_pair_14 : decode cX4_pair 14 = .ok (.arraylength, 1) := by decide +kernel
theorem dX4_pair_15 : decode cX4_pair 15 = .ok (.if_icmp .ge 17, 3) := by decide +kernel
theorem dX4_pair_18 : decode cX4_pair 18 = .ok (.aload_n 0, 1) := by decide +kernel
theorem dX4_pair_19 : decode cX4_pair 19 = .ok (.getfield 18, 3) := by decide +kernel
theorem dX4_pair_22 : decode cX4_pair 22 = .ok (.iload 5, 2) := by decide +kernel
theorem dX4_pair_24 : decode cX4_pair 24 = .ok (.iconst 0, 1) := by decide +kernel
theorem dX4_pair_25 : decode cX4_pair 25 = .ok (.bastore, 1) := by decide +kernel
theorem dX4_pair_26 : decode cX4_pair 26 = .ok (.iinc 5 1, 3) := by decide +kernel
theorem dX4_pair_29 : decode cX4_pair 29 = .ok (.goto (-21), 3) := by decide +kernel
theorem dX4_pair_32 : decode cX4_pair 32 = .ok (.iconst 0, 1) := by decide +kernel
theorem dX4_pair_33 : decode cX4_pair 33 = .ok (.istore 5, 2) := by decide +kernel
theorem dX4_pair_35 : decode cX4_pair 35 = .ok (.iload 5, 2) := by decide +kernel
theorem dX4_pair_37 : decode cX4_pair 37 = .ok (.aload_n 1, 1) := by decide +kernel
theorem dX4_pair_38 : decode cX4_pair 38 = .ok (.getfield 26, 3) := by decide +kernel
theorem dX4_pair_41 : decode cX4_pair 41 = .ok (.if_icmp .ge 54, 3) := by decide +kernel
theorem dX4_pair_44 : decode cX4_pair 44 = .ok (.aload_n 1, 1) := by decide +kernel
theorem dX4_pair_45 : decode cX4_pair 45 = .ok (.iload 5, 2) := by decide +kernel
theorem dX4_pair_47 : decode cX4_pair 47 = .ok (.invokevirtual 29, 3) := by decide +kernel
theorem dX4_pair_50 : decode cX4_pair 50 = .ok (.ifCond .eq 20, 3) := by decide +kernel
theorem dX4_pair_53 : decode cX4_pair 53 = .ok (.aload_n 0, 1) := by decide +kernel
theorem dX4_pair_54 : decode cX4_pair 54 = .ok (.aload_n 1, 1) := by decide +kernel
theorem dX4_pair_55 : decode cX4_pair 55 = .ok (.iload 5, 2) := by decide +kernel
theorem dX4_pair_57 : decode cX4_pair 57 = .ok (.invokevirtual 33, 3) := by decide +kernel
theorem dX4_pair_60 : decode cX4_pair 60 = .ok (.aload_n 2, 1) := by decide +kernel
theorem dX4_pair_61 : decode cX4_pair 61 = .ok (.iload_n 3, 1) := by decide +kernel
theorem dX4_pair_62 : decode cX4_pair 62 = .ok (.iload 4, 2) := by decide +kernel
theorem dX4_pair_64 : decode cX4_pair 64 = .ok (.invokevirtual 37, 3) := by decide +kernel
theorem dX4_pair_67 : decode cX4_pair 67 = .ok (.goto 5, 3) := by decide +kernel
theorem dX4_pair_70 : decode cX4_pair 70 = .ok (.ldc 41, 2) := by decide +kernel
theorem dX4_pair_72 : decode cX4_pair 72 = .ok (.istore 6, 2) := by decide +kernel
theorem dX4_pair_74 : decode cX4_pair 74 = .ok (.iload 6, 2) := by decide +kernel
theorem dX4_pair_76 : decode cX4_pair 76 = .ok (.ldc 41, 2) := by decide +kernel
theorem dX4_pair_78 : decode cX4_pair 78 = .ok (.if_icmp .eq 11, 3) := by decide +kernel
theorem dX4_pair_81 : decode cX4_pair 81 = .ok (.aload_n 0, 1) := by decide +kernel
theorem dX4_pair_82 : decode cX4_pair 82 = .ok (.iload 5, 2) := by decide +kernel
theorem dX4_pair_84 : decode cX4_pair 84 = .ok (.iload 6, 2) := by decide +kernel
theorem dX4_pair_86 : decode cX4_pair 86 = .ok (.invokevirtual 42, 3) := by decide +kernel
theorem dX4_pair_89 : decode cX4_pair 89 = .ok (.iinc 5 1, 3) := by decide +kernel
theorem dX4_pair_92 : decode cX4_pair 92 = .ok (.goto (-57), 3) := by decide +kernel
theorem dX4_pair_95 : decode cX4_pair 95 = .ok (.return_, 1) := by decide +kernel
set_option maxRecDepth 100000 in
theorem b_X4_pair_0 {E : fxE} (hW : fx_Wt E) (a0 : Nat) (a1 : Nat) (a2 : Nat) (x3 : Int) (x4 : Int) (M : fxM) (Q : Option fxV → fxM → Prop) (hk0 : kd E a0 = 4) (hk1 : kd E a1 = 1) (hk2 : kd E a2 = 1) (h : ∀ M1 : fxM, M1 = mset M a0 3 0 → fx_At E m_X4_pair 8 [some (.inr a0), some (.inr a1), some (.inr a2), some (.inl x3), some (.inl x4), some (.inl 0), none] [] M1 Q) : fx_At E m_X4_pair 0 [some (.inr a0), some (.inr a1), some (.inr a2), some (.inl x3), some (.inl x4), none, none] [] M Q := by
  refine x_aload_n (pc := 0) dX4_pair_0 rfl rfl ?_
  refine x_iconst (pc := 1) dX4_pair_1 ?_
  refine x_puti (pc := 2) dX4_pair_2 f_RX4_22 hk0 (fun M1 hM1 => ?_)
  replace h := h M1 hM1
  refine x_iconst (pc := 5) dX4_pair_5 ?_
  refine x_istore (pc := 6) (lv' := [some (.inr a0), some (.inr a1), some (.inr a2), some (.inl x3), some (.inl x4), some (.inl 0), none]) dX4_pair_6 (by decide) rfl ?_
  exact h
set_option maxRecDepth 100000 in
theorem b_X4_pair_8 {E : fxE} (hW : fx_Wt E) (a0 : Nat) (a1 : Nat) (a2 : Nat) (x3 : Int) (x4 : Int) (x5 : Int) (M : fxM) (Q : Option fxV → fxM → Prop) (hk0 : kd E a0 = 4) (hk1 : kd E a1 = 1) (hk2 : kd E a2 = 1) (h : (-2147483648 ≤ x5 ∧ x5 < 2147483648) ∧ (((200 : Int) ≤ x5 → fx_At E m_X4_pair 35 [some (.inr a0), some (.inr a1), some (.inr a2), some (.inl x3), some (.inl x4), some (.inl 0), none] [] M Q) ∧ (¬ (200 : Int) ≤ x5 → (0 ≤ x5 ∧ x5 < 200) ∧ ∀ M3 : fxM, M3 = mset M (rf E a0 2) (x5.toNat) 0 → fx_At E m_X4_pair 8 [some (.inr a0), some (.inr a1), some (.inr a2), some (.inl x3), some (.inl x4), some (.inl (x5 + 1)), none] [] M3 Q))) : fx_At E m_X4_pair 8 [some (.inr a0), some (.inr a1), some (.inr a2), some (.inl x3), some (.inl x4), some (.inl x5), none] [] M Q := by
  refine x_iload (pc := 8) dX4_pair_8 rfl ?_
  refine x_aload_n (pc := 10) dX4_pair_10 rfl rfl ?_
  refine x_getr (pc := 11) dX4_pair_11 f_RX4_18 hk0 ?_
  refine x_alen (pc := 14) dX4_pair_14 (wk_4_2 hW hk0) (by decide) (by decide) (wl_4_2 hW hk0) ?_
  obtain ⟨g1, h⟩ := h
  refine x_cge (pc := 15) 32 dX4_pair_15 (by decide) ⟨g1, ⟨by decide, by decide⟩⟩ (fun hc => ?_) (fun hc => ?_)
  · replace h := h.1 hc
    refine x_iconst (pc := 32) dX4_pair_32 ?_
    refine x_istore (pc := 33) (lv' := [some (.inr a0), some (.inr a1), some (.inr a2), some (.inl x3), some (.inl x4), some (.inl 0), none]) dX4_pair_33 (by decide) rfl ?_
    exact h
  · replace h := h.2 hc
    refine x_aload_n (pc := 18) dX4_pair_18 rfl rfl ?_
    refine x_getr (pc := 19) dX4_pair_19 f_RX4_18 hk0 ?_
    refine x_iload (pc := 22) dX4_pair_22 rfl ?_
    refine x_iconst (pc := 24) dX4_pair_24 ?_
    obtain ⟨g2, h⟩ := h
    refine x_zast (pc := 25) dX4_pair_25 (wk_4_2 hW hk0) (wl_4_2 hW hk0) g2 (by decide) (fun M3 hM3 => ?_)
    replace h := h M3 hM3
    refine x_iinc (pc := 26) (lv' := [some (.inr a0), some (.inr a1), some (.inr a2), some (.inl x3), some (.inl x4), some (.inl (x5 + 1)), none]) dX4_pair_26 rfl (by decide) rfl ?_
    refine x_goto (pc := 29) 8 dX4_pair_29 (by decide) ?_
    exact h
set_option maxRecDepth 100000 in
theorem b_X4_pair_35 {E : fxE} (hW : fx_Wt E) (a0 : Nat) (a1 : Nat) (a2 : Nat) (x3 : Int) (x4 : Int) (x5 : Int) (M : fxM) (Q : Option fxV → fxM → Prop) (hk0 : kd E a0 = 4) (hk1 : kd E a1 = 1) (hk2 : kd E a2 = 1) (h : (-2147483648 ≤ x5 ∧ x5 < 2147483648) ∧ (-2147483648 ≤ (M a1 6) ∧ (M a1 6) < 2147483648) ∧ (((M a1 6) ≤ x5 → Q none M) ∧ (¬ (M a1 6) ≤ x5 → ∃ R3 : Int → fxM → Prop, CtI E m_X1_isInside [.inr a1, .inl x5] M R3 ∧ ∀ (v3 : Int) (M3 : fxM), R3 v3 M3 → (-2147483648 ≤ v3 ∧ v3 < 2147483648) ∧ ((v3 = (0 : Int) → fx_At E m_X4_pair 35 [some (.inr a0), some (.inr a1), some (.inr a2), some (.inl x3), some (.inl x4), some (.inl (x5 + 1)), none] [] M3 Q) ∧ (¬ v3 = (0 : Int) → (-2147483648 ≤ M3 a1 6 ∧ M3 a1 6 ≤ 200) ∧ ∃ R6 : Int → fxM → Prop, CtI E m_X4_partner [.inr a0, .inl (evS E M3 a1 x5), .inr a2, .inl x3, .inl x4] M3 R6 ∧ ∀ (v6 : Int) (M6 : fxM), R6 v6 M6 → (-2147483648 ≤ v6 ∧ v6 < 2147483648) ∧ ((v6 = (-1000005 : Int) → fx_At E m_X4_pair 35 [some (.inr a0), some (.inr a1), some (.inr a2), some (.inl x3), some (.inl x4), some (.inl (x5 + 1)), none] [] M6 Q) ∧ (¬ v6 = (-1000005 : Int) → ∃ R8 : fxM → Prop, CtV E m_X4_keep [.inr a0, .inl x5, .inl v6] M6 R8 ∧ ∀ M8 : fxM, R8 M8 → fx_At E m_X4_pair 35 [some (.inr a0), some (.inr a1), some (.inr a2), some (.inl x3), some (.inl x4), some (.inl (x5 + 1)), none] [] M8 Q))))))) : fx_At E m_X4_pair 35 [some (.inr a0), some (.inr a1), some (.inr a2), some (.inl x3), some (.inl x4), some (.inl x5), none] [] M Q := by
  refine x_iload (pc := 35) dX4_pair_35 rfl ?_
  refine x_aload_n (pc := 37) dX4_pair_37 rfl rfl ?_
  refine x_geti (pc := 38) dX4_pair_38 f_RX4_26 hk1 ?_
  obtain ⟨g1, h⟩ := h
  obtain ⟨g2, h⟩ := h
  refine x_cge (pc := 41) 95 dX4_pair_41 (by decide) ⟨g1, g2⟩ (fun hc => ?_) (fun hc => ?_)
  · replace h := h.1 hc
    exact x_vret (pc := 95) dX4_pair_95 rfl h
  · replace h := h.2 hc
    refine x_aload_n (pc := 44) dX4_pair_44 rfl rfl ?_
    refine x_iload (pc := 45) dX4_pair_45 rfl ?_
    obtain ⟨R3, hc3, h⟩ := h
    refine x_callV (pc := 47) (z := m_X1_isInside) (b := a1) (as := [.inl x5]) (rest := []) dX4_pair_47 c_RX4_29 (by decide) hk1 rfl (Nat.le_of_ble_eq_true rfl) hc3 (fun r M3 hr => ?_)
    obtain ⟨v3, rfl, hr⟩ := hr
    replace h := h v3 M3 hr
    show fx_At E m_X4_pair 50 [some (.inr a0), some (.inr a1), some (.inr a2), some (.inl x3), some (.inl x4), some (.inl x5), none] [.inl v3] M3 Q
    obtain ⟨g4, h⟩ := h
    refine x_zeq (pc := 50) 70 dX4_pair_50 (by decide) g4 (fun hc => ?_) (fun hc => ?_)
    · replace h := h.1 hc
      refine x_ldc (pc := 70) (n := -1000005) dX4_pair_70 k_RX4_41 rfl ?_
      refine x_istore (pc := 72) (lv' := [some (.inr a0), some (.inr a1), some (.inr a2), some (.inl x3), some (.inl x4), some (.inl x5), some (.inl (-1000005))]) dX4_pair_72 (by decide) rfl ?_
      refine x_iload (pc := 74) dX4_pair_74 rfl ?_
      refine x_ldc (pc := 76) (n := -1000005) dX4_pair_76 k_RX4_41 rfl ?_
      refine x_ceq (pc := 78) 89 dX4_pair_78 (by decide) ⟨⟨by decide, by decide⟩, ⟨by decide, by decide⟩⟩ (fun _ => ?_) (fun hx => absurd hx (by decide))
      refine x_iinc (pc := 89) (lv' := [some (.inr a0), some (.inr a1), some (.inr a2), some (.inl x3), some (.inl x4), some (.inl (x5 + 1)), some (.inl (-1000005))]) dX4_pair_89 rfl (by decide) rfl ?_
      refine x_goto (pc := 92) 35 dX4_pair_92 (by decide) ?_
      refine x_weak (lv := [some (.inr a0), some (.inr a1), some (.inr a2), some (.inl x3), some (.inl x4), some (.inl (x5 + 1)), none]) (by simp [lvle]) ?_
      exact h
    · replace h := h.2 hc
      refine x_aload_n (pc := 53) dX4_pair_53 rfl rfl ?_
      refine x_aload_n (pc := 54) dX4_pair_54 rfl rfl ?_
      refine x_iload (pc := 55) dX4_pair_55 rfl ?_
      obtain ⟨g5, h⟩ := h
      refine x_callV (pc := 57) (z := m_X1_startOf) (b := a1) (as := [.inl x5]) (rest := [.inr a0]) dX4_pair_57 c_RX4_33 (by decide) hk1 rfl (Nat.le_of_ble_eq_true rfl) (ct_X1_startOf hW hk1 g1 g5) (fun r M9 hr => ?_)
      obtain ⟨hM9, hr⟩ := hr
      rw [hM9, hr]
      clear hM9 hr
      show fx_At E m_X4_pair 60 [some (.inr a0), some (.inr a1), some (.inr a2), some (.inl x3), some (.inl x4), some (.inl x5), none] [.inl (evS E M3 a1 x5), .inr a0] _ Q
      refine x_aload_n (pc := 60) dX4_pair_60 rfl rfl ?_
      refine x_iload_n (pc := 61) dX4_pair_61 rfl rfl ?_
      refine x_iload (pc := 62) dX4_pair_62 rfl ?_
      obtain ⟨R6, hc6, h⟩ := h
      refine x_callV (pc := 64) (z := m_X4_partner) (b := a0) (as := [.inl (evS E M3 a1 x5), .inr a2, .inl x3, .inl x4]) (rest := []) dX4_pair_64 c_RX4_37 (by decide) hk0 rfl (Nat.le_of_ble_eq_true rfl) hc6 (fun r M6 hr => ?_)
      obtain ⟨v6, rfl, hr⟩ := hr
      replace h := h v6 M6 hr
      show fx_At E m_X4_pair 67 [some (.inr a0), some (.inr a1), some (.inr a2), some (.inl x3), some (.inl x4), some (.inl x5), none] [.inl v6] M6 Q
      refine x_goto (pc := 67) 72 dX4_pair_67 (by decide) ?_
      refine x_istore (pc := 72) (lv' := [some (.inr a0), some (.inr a1), some (.inr a2), some (.inl x3), some (.inl x4), some (.inl x5), some (.inl v6)]) dX4_pair_72 (by decide) rfl ?_
      refine x_iload (pc := 74) dX4_pair_74 rfl ?_
      refine x_ldc (pc := 76) (n := -1000005) dX4_pair_76 k_RX4_41 rfl ?_
      obtain ⟨g7, h⟩ := h
      refine x_ceq (pc := 78) 89 dX4_pair_78 (by decide) ⟨g7, ⟨by decide, by decide⟩⟩ (fun hc => ?_) (fun hc => ?_)
      · replace h := h.1 hc
        refine x_iinc (pc := 89) (lv' := [some (.inr a0), some (.inr a1), some (.inr a2), some (.inl x3), some (.inl x4), some (.inl (x5 + 1)), some (.inl v6)]) dX4_pair_89 rfl (by decide) rfl ?_
        refine x_goto (pc := 92) 35 dX4_pair_92 (by decide) ?_
        refine x_weak (lv := [some (.inr a0), some (.inr a1), some (.inr a2), some (.inl x3), some (.inl x4), some (.inl (x5 + 1)), none]) (by simp [lvle]) ?_
        exact h
      · replace h := h.2 hc
        refine x_aload_n (pc := 81) dX4_pair_81 rfl rfl ?_
        refine x_iload (pc := 82) dX4_pair_82 rfl ?_
        refine x_iload (pc := 84) dX4_pair_84 rfl ?_
        obtain ⟨R8, hc8, h⟩ := h
        refine x_callV (pc := 86) (z := m_X4_keep) (b := a0) (as := [.inl x5, .inl v6]) (rest := []) dX4_pair_86 c_RX4_42 (by decide) hk0 rfl (Nat.le_of_ble_eq_true rfl) hc8 (fun r M8 hr => ?_)
        obtain ⟨rfl, hr⟩ := hr
        replace h := h M8 hr
        show fx_At E m_X4_pair 89 [some (.inr a0), some (.inr a1), some (.inr a2), some (.inl x3), some (.inl x4), some (.inl x5), some (.inl v6)] [] M8 Q
        refine x_iinc (pc := 89) (lv' := [some (.inr a0), some (.inr a1), some (.inr a2), some (.inl x3), some (.inl x4), some (.inl (x5 + 1)), some (.inl v6)]) dX4_pair_89 rfl (by decide) rfl ?_
        refine x_goto (pc := 92) 35 dX4_pair_92 (by decide) ?_
        refine x_weak (lv := [some (.inr a0), some (.inr a1), some (.inr a2), some (.inl x3), some (.inl x4), some (.inl (x5 + 1)), none]) (by simp [lvle]) ?_
        exact h
theorem dX4_partner_0 : decode cX4_partner 0 = .ok (.iconst 0, 1) := by decide +kernel
theorem dX4_partner_1 : decode cX4_partner 1 = .ok (.istore 5, 2) := by decide +kernel
theorem dX4_partner_3 : decode cX4_partner 3 = .ok (.iload 5, 2) := by decide +kernel
theorem dX4_partner_5 : decode cX4_partner 5 = .ok (.aload_n 2, 1) := by decide +kernel
theorem dX4_partner_6 : decode cX4_partner 6 = .ok (.getfield 26, 3) := by decide +kernel
theorem dX4_partner_9 : decode cX4_partner 9 = .ok (.if_icmp .ge 63, 3) := by decide +kernel
theorem dX4_partner_12 : decode cX4_partner 12 = .ok (.iload 5, 2) := by decide +kernel
theorem dX4_partner_14 : decode cX4_partner 14 = .ok (.aload_n 0, 1) := by decide +kernel
theorem dX4_partner_15 : decode cX4_partner 15 = .ok (.getfield 18, 3) := by decide +kernel
theorem dX4_partner_18 : decode cX4_partner 18 = .ok (.arraylength, 1) := by decide +kernel
theorem dX4_partner_19 : decode cX4_partner 19 = .ok (.if_icmp .ge 53, 3) := by decide +kernel
theorem dX4_partner_22 : decode cX4_partner 22 = .ok (.iload_n 1, 1) := by decide +kernel
theorem dX4_partner_23 : decode cX4_partner 23 = .ok (.aload_n 2, 1) := by decide +kernel
theorem dX4_partner_24 : decode cX4_partner 24 = .ok (.iload 5, 2) := by decide +kernel
theorem dX4_partner_26 : decode cX4_partner 26 = .ok (.invokevirtual 33, 3) := by decide +kernel
theorem dX4_partner_29 : decode cX4_partner 29 = .ok (.iadd, 1) := by decide +kernel
theorem dX4_partner_30 : decode cX4_partner 30 = .ok (.iload_n 3, 1) := by decide +kernel
theorem dX4_partner_31 : decode cX4_partner 31 = .ok (.isub, 1) := by decide +kernel
theorem dX4_partner_32 : decode cX4_partner 32 = .ok (.invokestatic 46, 3) := by decide +kernel
theorem dX4_partner_35 : decode cX4_partner 35 = .ok (.istore 6, 2) := by decide +kernel
theorem dX4_partner_37 : decode cX4_partner 37 = .ok (.aload_n 0, 1) := by decide +kernel
theorem dX4_partner_38 : decode cX4_partner 38 = .ok (.getfield 18, 3) := by decide +kernel
theorem dX4_partner_41 : decode cX4_partner 41 = .ok (.iload 5, 2) := by decide +kernel
theorem dX4_partner_43 : decode cX4_partner 43 = .ok (.baload, 1) := by decide +kernel
theorem dX4_partner_44 : decode cX4_partner 44 = .ok (.ifCond .ne 22, 3) := by decide +kernel
theorem dX4_partner_47 : decode cX4_partner 47 = .ok (.aload_n 2, 1) := by decide +kernel
theorem dX4_partner_48 : decode cX4_partner 48 = .ok (.iload 5, 2) := by decide +kernel
theorem dX4_partner_50 : decode cX4_partner 50 = .ok (.invokevirtual 29, 3) := by decide +kernel
theorem dX4_partner_53 : decode cX4_partner 53 = .ok (.ifCond .eq 13, 3) := by decide +kernel
theorem dX4_partner_56 : decode cX4_partner 56 = .ok (.iload 6, 2) := by decide +kernel
theorem dX4_partner_58 : decode cX4_partner 58 = .ok (.iload 4, 2) := by decide +kernel
theorem dX4_partner_60 : decode cX4_partner 60 = .ok (.if_icmp .gt 6, 3) := by decide +kernel
theorem dX4_partner_63 : decode cX4_partner 63 = .ok (.iload 5, 2) := by decide +kernel
theorem dX4_partner_65 : decode cX4_partner 65 = .ok (.ireturn, 1) := by decide +kernel
theorem dX4_partner_66 : decode cX4_partner 66 = .ok (.iinc 5 1, 3) := by decide +kernel
theorem dX4_partner_69 : decode cX4_partner 69 = .ok (.goto (-66), 3) := by decide +kernel
theorem dX4_partner_72 : decode cX4_partner 72 = .ok (.ldc 41, 2) := by decide +kernel
theorem dX4_partner_74 : decode cX4_partner 74 = .ok (.ireturn, 1) := by decide +kernel
set_option maxRecDepth 100000 in
theorem b_X4_partner_0 {E : fxE} (hW : fx_Wt E) (a0 : Nat) (x1 : Int) (a2 : Nat) (x3 : Int) (x4 : Int) (M : fxM) (Q : Option fxV → fxM → Prop) (hk0 : kd E a0 = 4) (hk2 : kd E a2 = 1) (h : fx_At E m_X4_partner 3 [some (.inr a0), some (.inl x1), some (.inr a2), some (.inl x3), some (.inl x4), some (.inl 0), none] [] M Q) : fx_At E m_X4_partner 0 [some (.inr a0), some (.inl x1), some (.inr a2), some (.inl x3), some (.inl x4), none, none] [] M Q := by
  refine x_iconst (pc := 0) dX4_partner_0 ?_
  refine x_istore (pc := 1) (lv' := [some (.inr a0), some (.inl x1), some (.inr a2), some (.inl x3), some (.inl x4), some (.inl 0), none]) dX4_partner_1 (by decide) rfl ?_
  exact h
set_option maxRecDepth 100000 in
theorem b_X4_partner_3 {E : fxE} (hW : fx_Wt E) (a0 : Nat) (x1 : Int) (a2 : Nat) (x3 : Int) (x4 : Int) (x5 : Int) (M : fxM) (Q : Option fxV → fxM → Prop) (hk0 : kd E a0 = 4) (hk2 : kd E a2 = 1) (h : (-2147483648 ≤ x5 ∧ x5 < 2147483648) ∧ (-2147483648 ≤ (M a2 6) ∧ (M a2 6) < 2147483648) ∧ (((M a2 6) ≤ x5 → Q (some (.inl (-1000005))) M) ∧ (¬ (M a2 6) ≤ x5 → (((200 : Int) ≤ x5 → Q (some (.inl (-1000005))) M) ∧ (¬ (200 : Int) ≤ x5 → (-2147483648 ≤ M a2 6 ∧ M a2 6 ≤ 200) ∧ (-2147483648 ≤ ((x1 + (evS E M a2 x5)) - x3) ∧ ((x1 + (evS E M a2 x5)) - x3) < 2147483648) ∧ (0 ≤ x5 ∧ x5 < 200) ∧ (-2147483648 ≤ (M (rf E a0 2) (x5.toNat)) ∧ (M (rf E a0 2) (x5.toNat)) < 2147483648) ∧ ((¬ (M (rf E a0 2) (x5.toNat)) = (0 : Int) → fx_At E m_X4_partner 3 [some (.inr a0), some (.inl x1), some (.inr a2), some (.inl x3), some (.inl x4), some (.inl (x5 + 1)), none] [] M Q) ∧ ((M (rf E a0 2) (x5.toNat)) = (0 : Int) → ∃ R7 : Int → fxM → Prop, CtI E m_X1_isInside [.inr a2, .inl x5] M R7 ∧ ∀ (v7 : Int) (M7 : fxM), R7 v7 M7 → (-2147483648 ≤ v7 ∧ v7 < 2147483648) ∧ ((v7 = (0 : Int) → fx_At E m_X4_partner 3 [some (.inr a0), some (.inl x1), some (.inr a2), some (.inl x3), some (.inl x4), some (.inl (x5 + 1)), none] [] M7 Q) ∧ (¬ v7 = (0 : Int) → (-2147483648 ≤ (if 0 ≤ ((x1 + (evS E M a2 x5)) - x3) then ((x1 + (evS E M a2 x5)) - x3) else -((x1 + (evS E M a2 x5)) - x3)) ∧ (if 0 ≤ ((x1 + (evS E M a2 x5)) - x3) then ((x1 + (evS E M a2 x5)) - x3) else -((x1 + (evS E M a2 x5)) - x3)) < 2147483648) ∧ (-2147483648 ≤ x4 ∧ x4 < 2147483648) ∧ ((x4 < (if 0 ≤ ((x1 + (evS E M a2 x5)) - x3) then ((x1 + (evS E M a2 x5)) - x3) else -((x1 + (evS E M a2 x5)) - x3)) → fx_At E m_X4_partner 3 [some (.inr a0), some (.inl x1), some (.inr a2), some (.inl x3), some (.inl x4), some (.inl (x5 + 1)), none] [] M7 Q) ∧ (¬ x4 < (if 0 ≤ ((x1 + (evS E M a2 x5)) - x3) then ((x1 + (evS E M a2 x5)) - x3) else -((x1 + (evS E M a2 x5)) - x3)) → Q (some (.inl x5)) M7))))))))))) : fx_At E m_X4_partner 3 [some (.inr a0), some (.inl x1), some (.inr a2), some (.inl x3), some (.inl x4), some (.inl x5), none] [] M Q := by
  refine x_iload (pc := 3) dX4_partner_3 rfl ?_
  refine x_aload_n (pc := 5) dX4_partner_5 rfl rfl ?_
  refine x_geti (pc := 6) dX4_partner_6 f_RX4_26 hk2 ?_
  obtain ⟨g1, h⟩ := h
  obtain ⟨g2, h⟩ := h
  refine x_cge (pc := 9) 72 dX4_partner_9 (by decide) ⟨g1, g2⟩ (fun hc => ?_) (fun hc => ?_)
  · replace h := h.1 hc
    refine x_ldc (pc := 72) (n := -1000005) dX4_partner_72 k_RX4_41 rfl ?_
    exact x_iret (pc := 74) dX4_partner_74 (Or.inl rfl) h
  · replace h := h.2 hc
    refine x_iload (pc := 12) dX4_partner_12 rfl ?_
    refine x_aload_n (pc := 14) dX4_partner_14 rfl rfl ?_
    refine x_getr (pc := 15) dX4_partner_15 f_RX4_18 hk0 ?_
    refine x_alen (pc := 18) dX4_partner_18 (wk_4_2 hW hk0) (by decide) (by decide) (wl_4_2 hW hk0) ?_
    refine x_cge (pc := 19) 72 dX4_partner_19 (by decide) ⟨g1, ⟨by decide, by decide⟩⟩ (fun hc => ?_) (fun hc => ?_)
    · replace h := h.1 hc
      refine x_ldc (pc := 72) (n := -1000005) dX4_partner_72 k_RX4_41 rfl ?_
      exact x_iret (pc := 74) dX4_partner_74 (Or.inl rfl) h
    · replace h := h.2 hc
      refine x_iload_n (pc := 22) dX4_partner_22 rfl rfl ?_
      refine x_aload_n (pc := 23) dX4_partner_23 rfl rfl ?_
      refine x_iload (pc := 24) dX4_partner_24 rfl ?_
      obtain ⟨g3, h⟩ := h
      refine x_callV (pc := 26) (z := m_X1_startOf) (b := a2) (as := [.inl x5]) (rest := [.inl x1]) dX4_partner_26 c_RX4_33 (by decide) hk2 rfl (Nat.le_of_ble_eq_true rfl) (ct_X1_startOf hW hk2 g1 g3) (fun r M9 hr => ?_)
      obtain ⟨hM9, hr⟩ := hr
      rw [hM9, hr]
      clear hM9 hr
      show fx_At E m_X4_partner 29 [some (.inr a0), some (.inl x1), some (.inr a2), some (.inl x3), some (.inl x4), some (.inl x5), none] [.inl (evS E M a2 x5), .inl x1] _ Q
      refine x_iadd (pc := 29) dX4_partner_29 ?_
      refine x_iload_n (pc := 30) dX4_partner_30 rfl rfl ?_
      refine x_isub (pc := 31) dX4_partner_31 ?_
      obtain ⟨g4, h⟩ := h
      refine x_mabs (pc := 32) dX4_partner_32 c_RX4_46 ⟨Nat.le_of_ble_eq_true rfl, Nat.le_of_ble_eq_true rfl⟩ g4 ?_
      refine x_istore (pc := 35) (lv' := [some (.inr a0), some (.inl x1), some (.inr a2), some (.inl x3), some (.inl x4), some (.inl x5), some (.inl (if 0 ≤ ((x1 + (evS E M a2 x5)) - x3) then ((x1 + (evS E M a2 x5)) - x3) else -((x1 + (evS E M a2 x5)) - x3)))]) dX4_partner_35 (by decide) rfl ?_
      refine x_aload_n (pc := 37) dX4_partner_37 rfl rfl ?_
      refine x_getr (pc := 38) dX4_partner_38 f_RX4_18 hk0 ?_
      refine x_iload (pc := 41) dX4_partner_41 rfl ?_
      obtain ⟨g5, h⟩ := h
      refine x_zald (pc := 43) dX4_partner_43 (wk_4_2 hW hk0) (wl_4_2 hW hk0) g5 ?_
      obtain ⟨g6, h⟩ := h
      refine x_zne (pc := 44) 66 dX4_partner_44 (by decide) g6 (fun hc => ?_) (fun hc => ?_)
      · replace h := h.1 hc
        refine x_iinc (pc := 66) (lv' := [some (.inr a0), some (.inl x1), some (.inr a2), some (.inl x3), some (.inl x4), some (.inl (x5 + 1)), some (.inl (if 0 ≤ ((x1 + (evS E M a2 x5)) - x3) then ((x1 + (evS E M a2 x5)) - x3) else -((x1 + (evS E M a2 x5)) - x3)))]) dX4_partner_66 rfl (by decide) rfl ?_
        refine x_goto (pc := 69) 3 dX4_partner_69 (by decide) ?_
        refine x_weak (lv := [some (.inr a0), some (.inl x1), some (.inr a2), some (.inl x3), some (.inl x4), some (.inl (x5 + 1)), none]) (by simp [lvle]) ?_
        exact h
      · replace h := h.2 hc
        refine x_aload_n (pc := 47) dX4_partner_47 rfl rfl ?_
        refine x_iload (pc := 48) dX4_partner_48 rfl ?_
        obtain ⟨R7, hc7, h⟩ := h
        refine x_callV (pc := 50) (z := m_X1_isInside) (b := a2) (as := [.inl x5]) (rest := []) dX4_partner_50 c_RX4_29 (by decide) hk2 rfl (Nat.le_of_ble_eq_true rfl) hc7 (fun r M7 hr => ?_)
        obtain ⟨v7, rfl, hr⟩ := hr
        replace h := h v7 M7 hr
        show fx_At E m_X4_partner 53 [some (.inr a0), some (.inl x1), some (.inr a2), some (.inl x3), some (.inl x4), some (.inl x5), some (.inl (if 0 ≤ ((x1 + (evS E M a2 x5)) - x3) then ((x1 + (evS E M a2 x5)) - x3) else -((x1 + (evS E M a2 x5)) - x3)))] [.inl v7] M7 Q
        obtain ⟨g8, h⟩ := h
        refine x_zeq (pc := 53) 66 dX4_partner_53 (by decide) g8 (fun hc => ?_) (fun hc => ?_)
        · replace h := h.1 hc
          refine x_iinc (pc := 66) (lv' := [some (.inr a0), some (.inl x1), some (.inr a2), some (.inl x3), some (.inl x4), some (.inl (x5 + 1)), some (.inl (if 0 ≤ ((x1 + (evS E M a2 x5)) - x3) then ((x1 + (evS E M a2 x5)) - x3) else -((x1 + (evS E M a2 x5)) - x3)))]) dX4_partner_66 rfl (by decide) rfl ?_
          refine x_goto (pc := 69) 3 dX4_partner_69 (by decide) ?_
          refine x_weak (lv := [some (.inr a0), some (.inl x1), some (.inr a2), some (.inl x3), some (.inl x4), some (.inl (x5 + 1)), none]) (by simp [lvle]) ?_
          exact h
        · replace h := h.2 hc
          refine x_iload (pc := 56) dX4_partner_56 rfl ?_
          refine x_iload (pc := 58) dX4_partner_58 rfl ?_
          obtain ⟨g9, h⟩ := h
          obtain ⟨g10, h⟩ := h
          refine x_cgt (pc := 60) 66 dX4_partner_60 (by decide) ⟨g9, g10⟩ (fun hc => ?_) (fun hc => ?_)
          · replace h := h.1 hc
            refine x_iinc (pc := 66) (lv' := [some (.inr a0), some (.inl x1), some (.inr a2), some (.inl x3), some (.inl x4), some (.inl (x5 + 1)), some (.inl (if 0 ≤ ((x1 + (evS E M a2 x5)) - x3) then ((x1 + (evS E M a2 x5)) - x3) else -((x1 + (evS E M a2 x5)) - x3)))]) dX4_partner_66 rfl (by decide) rfl ?_
            refine x_goto (pc := 69) 3 dX4_partner_69 (by decide) ?_
            refine x_weak (lv := [some (.inr a0), some (.inl x1), some (.inr a2), some (.inl x3), some (.inl x4), some (.inl (x5 + 1)), none]) (by simp [lvle]) ?_
            exact h
          · replace h := h.2 hc
            refine x_iload (pc := 63) dX4_partner_63 rfl ?_
            exact x_iret (pc := 65) dX4_partner_65 (Or.inl rfl) h
theorem dX4_keep_0 : decode cX4_keep 0 = .ok (.aload_n 0, 1) := by decide +kernel
theorem dX4_keep_1 : decode cX4_keep 1 = .ok (.getfield 22, 3) := by decide +kernel
theorem dX4_keep_4 : decode cX4_keep 4 = .ok (.aload_n 0, 1) := by decide +kernel
theorem dX4_keep_5 : decode cX4_keep 5 = .ok (.getfield 9, 3) := by decide +kernel
theorem dX4_keep_8 : decode cX4_keep 8 = .ok (.arraylength, 1) := by decide +kernel
theorem dX4_keep_9 : decode cX4_keep 9 = .ok (.if_icmp .ge 16, 3) := by decide +kernel
theorem dX4_keep_12 : decode cX4_keep 12 = .ok (.iload_n 2, 1) := by decide +kernel
theorem dX4_keep_13 : decode cX4_keep 13 = .ok (.ifCond .lt 12, 3) := by decide +kernel
theorem dX4_keep_16 : decode cX4_keep 16 = .ok (.iload_n 2, 1) := by decide +kernel
theorem dX4_keep_17 : decode cX4_keep 17 = .ok (.aload_n 0, 1) := by decide +kernel
theorem dX4_keep_18 : decode cX4_keep 18 = .ok (.getfield 18, 3) := by decide +kernel
theorem dX4_keep_21 : decode cX4_keep 21 = .ok (.arraylength, 1) := by decide +kernel
theorem dX4_keep_22 : decode cX4_keep 22 = .ok (.if_icmp .lt 4, 3) := by decide +kernel
theorem dX4_keep_25 : decode cX4_keep 25 = .ok (.return_, 1) := by decide +kernel
theorem dX4_keep_26 : decode cX4_keep 26 = .ok (.aload_n 0, 1) := by decide +kernel
theorem dX4_keep_27 : decode cX4_keep 27 = .ok (.getfield 18, 3) := by decide +kernel
theorem dX4_keep_30 : decode cX4_keep 30 = .ok (.iload_n 2, 1) := by decide +kernel
theorem dX4_keep_31 : decode cX4_keep 31 = .ok (.iconst 1, 1) := by decide +kernel
theorem dX4_keep_32 : decode cX4_keep 32 = .ok (.bastore, 1) := by decide +kernel
theorem dX4_keep_33 : decode cX4_keep 33 = .ok (.aload_n 0, 1) := by decide +kernel
theorem dX4_keep_34 : decode cX4_keep 34 = .ok (.getfield 9, 3) := by decide +kernel
theorem dX4_keep_37 : decode cX4_keep 37 = .ok (.aload_n 0, 1) := by decide +kernel
theorem dX4_keep_38 : decode cX4_keep 38 = .ok (.getfield 22, 3) := by decide +kernel
theorem dX4_keep_41 : decode cX4_keep 41 = .ok (.iload_n 1, 1) := by decide +kernel
theorem dX4_keep_42 : decode cX4_keep 42 = .ok (.iastore, 1) := by decide +kernel
theorem dX4_keep_43 : decode cX4_keep 43 = .ok (.aload_n 0, 1) := by decide +kernel
theorem dX4_keep_44 : decode cX4_keep 44 = .ok (.getfield 15, 3) := by decide +kernel
theorem dX4_keep_47 : decode cX4_keep 47 = .ok (.aload_n 0, 1) := by decide +kernel
theorem dX4_keep_48 : decode cX4_keep 48 = .ok (.getfield 22, 3) := by decide +kernel
theorem dX4_keep_51 : decode cX4_keep 51 = .ok (.iload_n 2, 1) := by decide +kernel
theorem dX4_keep_52 : decode cX4_keep 52 = .ok (.iastore, 1) := by decide +kernel
theorem dX4_keep_53 : decode cX4_keep 53 = .ok (.aload_n 0, 1) := by decide +kernel
theorem dX4_keep_54 : decode cX4_keep 54 = .ok (.dup, 1) := by decide +kernel
theorem dX4_keep_55 : decode cX4_keep 55 = .ok (.getfield 22, 3) := by decide +kernel
theorem dX4_keep_58 : decode cX4_keep 58 = .ok (.iconst 1, 1) := by decide +kernel
theorem dX4_keep_59 : decode cX4_keep 59 = .ok (.iadd, 1) := by decide +kernel
theorem dX4_keep_60 : decode cX4_keep 60 = .ok (.putfield 22, 3) := by decide +kernel
theorem dX4_keep_63 : decode cX4_keep 63 = .ok (.return_, 1) := by decide +kernel
set_option maxRecDepth 100000 in
theorem b_X4_keep_0 {E : fxE} (hW : fx_Wt E) (a0 : Nat) (x1 : Int) (x2 : Int) (M : fxM) (Q : Option fxV → fxM → Prop) (hk0 : kd E a0 = 4) (h : (-2147483648 ≤ (M a0 3) ∧ (M a0 3) < 2147483648) ∧ (((200 : Int) ≤ (M a0 3) → Q none M) ∧ (¬ (200 : Int) ≤ (M a0 3) → (-2147483648 ≤ x2 ∧ x2 < 2147483648) ∧ ((x2 < (0 : Int) → Q none M) ∧ (¬ x2 < (0 : Int) → ((x2 < (200 : Int) → (0 ≤ x2 ∧ x2 < 200) ∧ ∀ M4 : fxM, M4 = mset M (rf E a0 2) (x2.toNat) 1 → (0 ≤ (M4 a0 3) ∧ (M4 a0 3) < 200) ∧ ∀ M6 : fxM, M6 = mset M4 (rf E a0 0) ((M4 a0 3).toNat) x1 → (0 ≤ (M6 a0 3) ∧ (M6 a0 3) < 200) ∧ ∀ M8 : fxM, M8 = mset M6 (rf E a0 1) ((M6 a0 3).toNat) x2 → ∀ M9 : fxM, M9 = mset M8 a0 3 ((M8 a0 3) + 1) → Q none M9) ∧ (¬ x2 < (200 : Int) → Q none M))))))) : fx_At E m_X4_keep 0 [some (.inr a0), some (.inl x1), some (.inl x2)] [] M Q := by
  refine x_aload_n (pc := 0) dX4_keep_0 rfl rfl ?_
  refine x_geti (pc := 1) dX4_keep_1 f_RX4_22 hk0 ?_
  refine x_aload_n (pc := 4) dX4_keep_4 rfl rfl ?_
  refine x_getr (pc := 5) dX4_keep_5 f_RX4_9 hk0 ?_
  refine x_alen (pc := 8) dX4_keep_8 (wk_4_0 hW hk0) (by decide) (by decide) (wl_4_0 hW hk0) ?_
  obtain ⟨g1, h⟩ := h
  refine x_cge (pc := 9) 25 dX4_keep_9 (by decide) ⟨g1, ⟨by decide, by decide⟩⟩ (fun hc => ?_) (fun hc => ?_)
  · replace h := h.1 hc
    exact x_vret (pc := 25) dX4_keep_25 rfl h
  · replace h := h.2 hc
    refine x_iload_n (pc := 12) dX4_keep_12 rfl rfl ?_
    obtain ⟨g2, h⟩ := h
    refine x_zlt (pc := 13) 25 dX4_keep_13 (by decide) g2 (fun hc => ?_) (fun hc => ?_)
    · replace h := h.1 hc
      exact x_vret (pc := 25) dX4_keep_25 rfl h
    · replace h := h.2 hc
      refine x_iload_n (pc := 16) dX4_keep_16 rfl rfl ?_
      refine x_aload_n (pc := 17) dX4_keep_17 rfl rfl ?_
      refine x_getr (pc := 18) dX4_keep_18 f_RX4_18 hk0 ?_
      refine x_alen (pc := 21) dX4_keep_21 (wk_4_2 hW hk0) (by decide) (by decide) (wl_4_2 hW hk0) ?_
      refine x_clt (pc := 22) 26 dX4_keep_22 (by decide) ⟨g2, ⟨by decide, by decide⟩⟩ (fun hc => ?_) (fun hc => ?_)
      · replace h := h.1 hc
        refine x_aload_n (pc := 26) dX4_keep_26 rfl rfl ?_
        refine x_getr (pc := 27) dX4_keep_27 f_RX4_18 hk0 ?_
        refine x_iload_n (pc := 30) dX4_keep_30 rfl rfl ?_
        refine x_iconst (pc := 31) dX4_keep_31 ?_
        obtain ⟨g3, h⟩ := h
        refine x_zast (pc := 32) dX4_keep_32 (wk_4_2 hW hk0) (wl_4_2 hW hk0) g3 (by decide) (fun M4 hM4 => ?_)
        replace h := h M4 hM4
        refine x_aload_n (pc := 33) dX4_keep_33 rfl rfl ?_
        refine x_getr (pc := 34) dX4_keep_34 f_RX4_9 hk0 ?_
        refine x_aload_n (pc := 37) dX4_keep_37 rfl rfl ?_
        refine x_geti (pc := 38) dX4_keep_38 f_RX4_22 hk0 ?_
        refine x_iload_n (pc := 41) dX4_keep_41 rfl rfl ?_
        obtain ⟨g5, h⟩ := h
        refine x_iast (pc := 42) dX4_keep_42 (wk_4_0 hW hk0) (wl_4_0 hW hk0) g5 (fun M6 hM6 => ?_)
        replace h := h M6 hM6
        refine x_aload_n (pc := 43) dX4_keep_43 rfl rfl ?_
        refine x_getr (pc := 44) dX4_keep_44 f_RX4_15 hk0 ?_
        refine x_aload_n (pc := 47) dX4_keep_47 rfl rfl ?_
        refine x_geti (pc := 48) dX4_keep_48 f_RX4_22 hk0 ?_
        refine x_iload_n (pc := 51) dX4_keep_51 rfl rfl ?_
        obtain ⟨g7, h⟩ := h
        refine x_iast (pc := 52) dX4_keep_52 (wk_4_1 hW hk0) (wl_4_1 hW hk0) g7 (fun M8 hM8 => ?_)
        replace h := h M8 hM8
        refine x_aload_n (pc := 53) dX4_keep_53 rfl rfl ?_
        refine x_dup (pc := 54) dX4_keep_54 ?_
        refine x_geti (pc := 55) dX4_keep_55 f_RX4_22 hk0 ?_
        refine x_iconst (pc := 58) dX4_keep_58 ?_
        refine x_iadd (pc := 59) dX4_keep_59 ?_
        refine x_puti (pc := 60) dX4_keep_60 f_RX4_22 hk0 (fun M9 hM9 => ?_)
        replace h := h M9 hM9
        exact x_vret (pc := 63) dX4_keep_63 rfl h
      · replace h := h.2 hc
        exact x_vret (pc := 25) dX4_keep_25 rfl h
theorem dX5_copyFrom_0 : decode cX5_copyFrom 0 = .ok (.aload_n 0, 1) := by decide +kernel
theorem dX5_copyFrom_1 : decode cX5_copyFrom 1 = .ok (.getfield 10, 3) := by decide +kernel
theorem dX5_copyFrom_4 : decode cX5_copyFrom 4 = .ok (.aload_n 1, 1) := by decide +kernel
theorem dX5_copyFrom_5 : decode cX5_copyFrom 5 = .ok (.getfield 10, 3) := by decide +kernel
theorem dX5_copyFrom_8 : decode cX5_copyFrom 8 = .ok (.invokevirtual 32, 3) := by decide +kernel
theorem dX5_copyFrom_11 : decode cX5_copyFrom 11 = .ok (.aload_n 0, 1) := by decide +kernel
theorem dX5_copyFrom_12 : decode cX5_copyFrom 12 = .ok (.getfield 19, 3) := by decide +kernel
theorem dX5_copyFrom_15 : decode cX5_copyFrom 15 = .ok (.aload_n 1, 1) := by decide +kernel
theorem dX5_copyFrom_16 : decode cX5_copyFrom 16 = .ok (.getfield 19, 3) := by decide +kernel
theorem dX5_copyFrom_19 : decode cX5_copyFrom 19 = .ok (.invokevirtual 36, 3) := by decide +kernel
theorem dX5_copyFrom_22 : decode cX5_copyFrom 22 = .ok (.aload_n 1, 1) := by decide +kernel
theorem dX5_copyFrom_23 : decode cX5_copyFrom 23 = .ok (.getfield 29, 3) := by decide +kernel
theorem dX5_copyFrom_26 : decode cX5_copyFrom 26 = .ok (.aload_n 0, 1) := by decide +kernel
theorem dX5_copyFrom_27 : decode cX5_copyFrom 27 = .ok (.getfield 29, 3) := by decide +kernel
theorem dX5_copyFrom_30 : decode cX5_copyFrom 30 = .ok (.invokestatic 39, 3) := by decide +kernel
theorem dX5_copyFrom_33 : decode cX5_copyFrom 33 = .ok (.return_, 1) := by decide +kernel
set_option maxRecDepth 100000 in
theorem b_X5_copyFrom_0 {E : fxE} (hW : fx_Wt E) (a0 : Nat) (a1 : Nat) (M : fxM) (Q : Option fxV → fxM → Prop) (hk0 : kd E a0 = 5) (hk1 : kd E a1 = 5) (h : ∃ R1 : fxM → Prop, CtV E m_X2_copyFrom [.inr (rf E a0 0), .inr (rf E a1 0)] M R1 ∧ ∀ M1 : fxM, R1 M1 → ∃ R2 : fxM → Prop, CtV E m_X0_copyFrom [.inr (rf E a0 1), .inr (rf E a1 1)] M1 R2 ∧ ∀ M2 : fxM, R2 M2 → ∃ R3 : fxM → Prop, CtV E m_X9_copyRow [.inr (rf E a1 2), .inr (rf E a0 2)] M2 R3 ∧ ∀ M3 : fxM, R3 M3 → Q none M3) : fx_At E m_X5_copyFrom 0 [some (.inr a0), some (.inr a1)] [] M Q := by
  refine x_aload_n (pc := 0) dX5_copyFrom_0 rfl rfl ?_
  refine x_getr (pc := 1) dX5_copyFrom_1 f_RX5_10 hk0 ?_
  refine x_aload_n (pc := 4) dX5_copyFrom_4 rfl rfl ?_
  refine x_getr (pc := 5) dX5_copyFrom_5 f_RX5_10 hk1 ?_
  obtain ⟨R1, hc1, h⟩ := h
  refine x_callV (pc := 8) (z := m_X2_copyFrom) (b := (rf E a0 0)) (as := [.inr (rf E a1 0)]) (rest := []) dX5_copyFrom_8 c_RX5_32 (by decide) (wk_5_0 hW hk0) rfl (Nat.le_of_ble_eq_true rfl) hc1 (fun r M1 hr => ?_)
  obtain ⟨rfl, hr⟩ := hr
  replace h := h M1 hr
  show fx_At E m_X5_copyFrom 11 [some (.inr a0), some (.inr a1)] [] M1 Q
  refine x_aload_n (pc := 11) dX5_copyFrom_11 rfl rfl ?_
  refine x_getr (pc := 12) dX5_copyFrom_12 f_RX5_19 hk0 ?_
  refine x_aload_n (pc := 15) dX5_copyFrom_15 rfl rfl ?_
  refine x_getr (pc := 16) dX5_copyFrom_16 f_RX5_19 hk1 ?_
  obtain ⟨R2, hc2, h⟩ := h
  refine x_callV (pc := 19) (z := m_X0_copyFrom) (b := (rf E a0 1)) (as := [.inr (rf E a1 1)]) (rest := []) dX5_copyFrom_19 c_RX5_36 (by decide) (wk_5_1 hW hk0) rfl (Nat.le_of_ble_eq_true rfl) hc2 (fun r M2 hr => ?_)
  obtain ⟨rfl, hr⟩ := hr
  replace h := h M2 hr
  show fx_At E m_X5_copyFrom 22 [some (.inr a0), some (.inr a1)] [] M2 Q
  refine x_aload_n (pc := 22) dX5_copyFrom_22 rfl rfl ?_
  refine x_getr (pc := 23) dX5_copyFrom_23 f_RX5_29 hk1 ?_
  refine x_aload_n (pc := 26) dX5_copyFrom_26 rfl rfl ?_
  refine x_getr (pc := 27) dX5_copyFrom_27 f_RX5_29 hk0 ?_
  obtain ⟨R3, hc3, h⟩ := h
  refine x_callN (pc := 30) (z := m_X9_copyRow) (as := [.inr (rf E a1 2), .inr (rf E a0 2)]) (rest := []) dX5_copyFrom_30 c_RX5_39 (by decide) rfl (Nat.le_of_ble_eq_true rfl) hc3 (fun r M3 hr => ?_)
  obtain ⟨rfl, hr⟩ := hr
  replace h := h M3 hr
  show fx_At E m_X5_copyFrom 33 [some (.inr a0), some (.inr a1)] [] M3 Q
  exact x_vret (pc := 33) dX5_copyFrom_33 rfl h
theorem dX6_append_0 : decode cX6_append 0 = .ok (.aload_n 0, 1) := by decide +kernel
theorem dX6_append_1 : decode cX6_append 1 = .ok (.getfield 15, 3) := by decide +kernel
theorem dX6_append_4 : decode cX6_append 4 = .ok (.ifCond .lt 35, 3) := by decide +kernel
theorem dX6_append_7 : decode cX6_append 7 = .ok (.aload_n 0, 1) := by decide +kernel
theorem dX6_append_8 : decode cX6_append 8 = .ok (.getfield 15, 3) := by decide +kernel
theorem dX6_append_11 : decode cX6_append 11 = .ok (.aload_n 0, 1) := by decide +kernel
theorem dX6_append_12 : decode cX6_append 12 = .ok (.getfield 9, 3) := by decide +kernel
theorem dX6_append_15 : decode cX6_append 15 = .ok (.arraylength, 1) := by decide +kernel
theorem dX6_append_16 : decode cX6_append 16 = .ok (.if_icmp .ge 23, 3) := by decide +kernel
theorem dX6_append_19 : decode cX6_append 19 = .ok (.aload_n 0, 1) := by decide +kernel
theorem dX6_append_20 : decode cX6_append 20 = .ok (.getfield 9, 3) := by decide +kernel
theorem dX6_append_23 : decode cX6_append 23 = .ok (.aload_n 0, 1) := by decide +kernel
theorem dX6_append_24 : decode cX6_append 24 = .ok (.getfield 15, 3) := by decide +kernel
theorem dX6_append_27 : decode cX6_append 27 = .ok (.iload_n 1, 1) := by decide +kernel
theorem dX6_append_28 : decode cX6_append 28 = .ok (.iastore, 1) := by decide +kernel
theorem dX6_append_29 : decode cX6_append 29 = .ok (.aload_n 0, 1) := by decide +kernel
theorem dX6_append_30 : decode cX6_append 30 = .ok (.dup, 1) := by decide +kernel
theorem dX6_append_31 : decode cX6_append 31 = .ok (.getfield 15, 3) := by decide +kernel
theorem dX6_append_34 : decode cX6_append 34 = .ok (.iconst 1, 1) := by decide +kernel
theorem dX6_append_35 : decode cX6_append 35 = .ok (.iadd, 1) := by decide +kernel
theorem dX6_append_36 : decode cX6_append 36 = .ok (.putfield 15, 3) := by decide +kernel
theorem dX6_append_39 : decode cX6_append 39 = .ok (.return_, 1) := by decide +kernel
set_option maxRecDepth 100000 in
theorem b_X6_append_0 {E : fxE} (hW : fx_Wt E) (a0 : Nat) (x1 : Int) (M : fxM) (Q : Option fxV → fxM → Prop) (hk0 : kd E a0 = 6) (h : (-2147483648 ≤ (M a0 1) ∧ (M a0 1) < 2147483648) ∧ (((M a0 1) < (0 : Int) → Q none M) ∧ (¬ (M a0 1) < (0 : Int) → (((120 : Int) ≤ (M a0 1) → Q none M) ∧ (¬ (120 : Int) ≤ (M a0 1) → (0 ≤ (M a0 1) ∧ (M a0 1) < 120) ∧ ∀ M3 : fxM, M3 = mset M (rf E a0 0) ((M a0 1).toNat) x1 → ∀ M4 : fxM, M4 = mset M3 a0 1 ((M3 a0 1) + 1) → Q none M4))))) : fx_At E m_X6_append 0 [some (.inr a0), some (.inl x1)] [] M Q := by
  refine x_aload_n (pc := 0) dX6_append_0 rfl rfl ?_
  refine x_geti (pc := 1) dX6_append_1 f_RX6_15 hk0 ?_
  obtain ⟨g1, h⟩ := h
  refine x_zlt (pc := 4) 39 dX6_append_4 (by decide) g1 (fun hc => ?_) (fun hc => ?_)
  · replace h := h.1 hc
    exact x_vret (pc := 39) dX6_append_39 rfl h
  · replace h := h.2 hc
    refine x_aload_n (pc := 7) dX6_append_7 rfl rfl ?_
    refine x_geti (pc := 8) dX6_append_8 f_RX6_15 hk0 ?_
    refine x_aload_n (pc := 11) dX6_append_11 rfl rfl ?_
    refine x_getr (pc := 12) dX6_append_12 f_RX6_9 hk0 ?_
    refine x_alen (pc := 15) dX6_append_15 (wk_6_0 hW hk0) (by decide) (by decide) (wl_6_0 hW hk0) ?_
    refine x_cge (pc := 16) 39 dX6_append_16 (by decide) ⟨g1, ⟨by decide, by decide⟩⟩ (fun hc => ?_) (fun hc => ?_)
    · replace h := h.1 hc
      exact x_vret (pc := 39) dX6_append_39 rfl h
    · replace h := h.2 hc
      refine x_aload_n (pc := 19) dX6_append_19 rfl rfl ?_
      refine x_getr (pc := 20) dX6_append_20 f_RX6_9 hk0 ?_
      refine x_aload_n (pc := 23) dX6_append_23 rfl rfl ?_
      refine x_geti (pc := 24) dX6_append_24 f_RX6_15 hk0 ?_
      refine x_iload_n (pc := 27) dX6_append_27 rfl rfl ?_
      obtain ⟨g2, h⟩ := h
      refine x_iast (pc := 28) dX6_append_28 (wk_6_0 hW hk0) (wl_6_0 hW hk0) g2 (fun M3 hM3 => ?_)
      replace h := h M3 hM3
      refine x_aload_n (pc := 29) dX6_append_29 rfl rfl ?_
      refine x_dup (pc := 30) dX6_append_30 ?_
      refine x_geti (pc := 31) dX6_append_31 f_RX6_15 hk0 ?_
      refine x_iconst (pc := 34) dX6_append_34 ?_
      refine x_iadd (pc := 35) dX6_append_35 ?_
      refine x_puti (pc := 36) dX6_append_36 f_RX6_15 hk0 (fun M4 hM4 => ?_)
      replace h := h M4 hM4
      exact x_vret (pc := 39) dX6_append_39 rfl h
theorem dX6_readInto_0 : decode cX6_readInto 0 = .ok (.aload_n 1, 1) := by decide +kernel
theorem dX6_readInto_1 : decode cX6_readInto 1 = .ok (.invokevirtual 28, 3) := by decide +kernel
theorem dX6_readInto_4 : decode cX6_readInto 4 = .ok (.aload_n 0, 1) := by decide +kernel
theorem dX6_readInto_5 : decode cX6_readInto 5 = .ok (.iconst 0, 1) := by decide +kernel
theorem dX6_readInto_6 : decode cX6_readInto 6 = .ok (.putfield 25, 3) := by decide +kernel
theorem dX6_readInto_9 : decode cX6_readInto 9 = .ok (.iconst 0, 1) := by decide +kernel
theorem dX6_readInto_10 : decode cX6_readInto 10 = .ok (.istore_n 2, 1) := by decide +kernel
theorem dX6_readInto_11 : decode cX6_readInto 11 = .ok (.iload_n 2, 1) := by decide +kernel
theorem dX6_readInto_12 : decode cX6_readInto 12 = .ok (.bipush 8, 2) := by decide +kernel
theorem dX6_readInto_14 : decode cX6_readInto 14 = .ok (.if_icmp .ge 32, 3) := by decide +kernel
theorem dX6_readInto_17 : decode cX6_readInto 17 = .ok (.aload_n 0, 1) := by decide +kernel
theorem dX6_readInto_18 : decode cX6_readInto 18 = .ok (.aload_n 1, 1) := by decide +kernel
theorem dX6_readInto_19 : decode cX6_readInto 19 = .ok (.invokevirtual 33, 3) := by decide +kernel
theorem dX6_readInto_22 : decode cX6_readInto 22 = .ok (.ifCond .ne 5, 3) := by decide +kernel
theorem dX6_readInto_25 : decode cX6_readInto 25 = .ok (.iconst 0, 1) := by decide +kernel
theorem dX6_readInto_26 : decode cX6_readInto 26 = .ok (.ireturn, 1) := by decide +kernel
theorem dX6_readInto_27 : decode cX6_readInto 27 = .ok (.aload_n 0, 1) := by decide +kernel
theorem dX6_readInto_28 : decode cX6_readInto 28 = .ok (.getfield 25, 3) := by decide +kernel
theorem dX6_readInto_31 : decode cX6_readInto 31 = .ok (.aload_n 0, 1) := by decide +kernel
theorem dX6_readInto_32 : decode cX6_readInto 32 = .ok (.getfield 15, 3) := by decide +kernel
theorem dX6_readInto_35 : decode cX6_readInto 35 = .ok (.if_icmp .lt 5, 3) := by decide +kernel
theorem dX6_readInto_38 : decode cX6_readInto 38 = .ok (.iconst 1, 1) := by decide +kernel
theorem dX6_readInto_39 : decode cX6_readInto 39 = .ok (.ireturn, 1) := by decide +kernel
theorem dX6_readInto_40 : decode cX6_readInto 40 = .ok (.iinc 2 1, 3) := by decide +kernel
theorem dX6_readInto_43 : decode cX6_readInto 43 = .ok (.goto (-32), 3) := by decide +kernel
theorem dX6_readInto_46 : decode cX6_readInto 46 = .ok (.aload_n 0, 1) := by decide +kernel
theorem dX6_readInto_47 : decode cX6_readInto 47 = .ok (.aload_n 0, 1) := by decide +kernel
theorem dX6_readInto_48 : decode cX6_readInto 48 = .ok (.aload_n 0, 1) := by decide +kernel
theorem dX6_readInto_49 : decode cX6_readInto 49 = .ok (.getfield 25, 3) := by decide +kernel
theorem dX6_readInto_52 : decode cX6_readInto 52 = .ok (.invokevirtual 37, 3) := by decide +kernel
theorem dX6_readInto_55 : decode cX6_readInto 55 = .ok (.ifCond .eq 7, 3) := by decide +kernel
theorem dX6_readInto_58 : decode cX6_readInto 58 = .ok (.iconst 4, 1) := by decide +kernel
theorem dX6_readInto_59 : decode cX6_readInto 59 = .ok (.goto 4, 3) := by decide +kernel
theorem dX6_readInto_62 : decode cX6_readInto 62 = .ok (.iconst 1, 1) := by decide +kernel
theorem dX6_readInto_63 : decode cX6_readInto 63 = .ok (.aload_n 0, 1) := by decide +kernel
theorem dX6_readInto_64 : decode cX6_readInto 64 = .ok (.getfield 25, 3) := by decide +kernel
theorem dX6_readInto_67 : decode cX6_readInto 67 = .ok (.invokevirtual 41, 3) := by decide +kernel
theorem dX6_readInto_70 : decode cX6_readInto 70 = .ok (.iconst 0, 1) := by decide +kernel
theorem dX6_readInto_71 : decode cX6_readInto 71 = .ok (.ireturn, 1) := by decide +kernel
set_option maxRecDepth 100000 in
theorem b_X6_readInto_0 {E : fxE} (hW : fx_Wt E) (a0 : Nat) (a1 : Nat) (M : fxM) (Q : Option fxV → fxM → Prop) (hk0 : kd E a0 = 6) (hk1 : kd E a1 = 2) (h : ∃ R1 : fxM → Prop, CtV E m_X2_clear [.inr a1] M R1 ∧ ∀ M1 : fxM, R1 M1 → ∀ M2 : fxM, M2 = mset M1 a0 4 0 → fx_At E m_X6_readInto 11 [some (.inr a0), some (.inr a1), some (.inl 0)] [] M2 Q) : fx_At E m_X6_readInto 0 [some (.inr a0), some (.inr a1), none] [] M Q := by
  refine x_aload_n (pc := 0) dX6_readInto_0 rfl rfl ?_
  obtain ⟨R1, hc1, h⟩ := h
  refine x_callV (pc := 1) (z := m_X2_clear) (b := a1) (as := []) (rest := []) dX6_readInto_1 c_RX6_28 (by decide) hk1 rfl (Nat.le_of_ble_eq_true rfl) hc1 (fun r M1 hr => ?_)
  obtain ⟨rfl, hr⟩ := hr
  replace h := h M1 hr
  show fx_At E m_X6_readInto 4 [some (.inr a0), some (.inr a1), none] [] M1 Q
  refine x_aload_n (pc := 4) dX6_readInto_4 rfl rfl ?_
  refine x_iconst (pc := 5) dX6_readInto_5 ?_
  refine x_puti (pc := 6) dX6_readInto_6 f_RX6_25 hk0 (fun M2 hM2 => ?_)
  replace h := h M2 hM2
  refine x_iconst (pc := 9) dX6_readInto_9 ?_
  refine x_istore_n (pc := 10) (lv' := [some (.inr a0), some (.inr a1), some (.inl 0)]) dX6_readInto_10 rfl (by decide) rfl ?_
  exact h
set_option maxRecDepth 100000 in
theorem b_X6_readInto_11 {E : fxE} (hW : fx_Wt E) (a0 : Nat) (a1 : Nat) (x2 : Int) (M : fxM) (Q : Option fxV → fxM → Prop) (hk0 : kd E a0 = 6) (hk1 : kd E a1 = 2) (h : (-2147483648 ≤ x2 ∧ x2 < 2147483648) ∧ (((8 : Int) ≤ x2 → ∃ R2 : Int → fxM → Prop, CtI E m_X6_isDigit [.inr a0, .inl (M a0 4)] M R2 ∧ ∀ (v2 : Int) (M2 : fxM), R2 v2 M2 → (-2147483648 ≤ v2 ∧ v2 < 2147483648) ∧ ((v2 = (0 : Int) → ∃ R4 : fxM → Prop, CtV E m_X6_blame [.inr a0, .inl 1, .inl (M2 a0 4)] M2 R4 ∧ ∀ M4 : fxM, R4 M4 → Q (some (.inl 0)) M4) ∧ (¬ v2 = (0 : Int) → ∃ R5 : fxM → Prop, CtV E m_X6_blame [.inr a0, .inl 4, .inl (M2 a0 4)] M2 R5 ∧ ∀ M5 : fxM, R5 M5 → Q (some (.inl 0)) M5))) ∧ (¬ (8 : Int) ≤ x2 → ∃ R6 : Int → fxM → Prop, CtI E m_X6_readItem [.inr a0, .inr a1] M R6 ∧ ∀ (v6 : Int) (M6 : fxM), R6 v6 M6 → (-2147483648 ≤ v6 ∧ v6 < 2147483648) ∧ ((¬ v6 = (0 : Int) → (-2147483648 ≤ (M6 a0 4) ∧ (M6 a0 4) < 2147483648) ∧ (-2147483648 ≤ (M6 a0 1) ∧ (M6 a0 1) < 2147483648) ∧ (((M6 a0 4) < (M6 a0 1) → fx_At E m_X6_readInto 11 [some (.inr a0), some (.inr a1), some (.inl (x2 + 1))] [] M6 Q) ∧ (¬ (M6 a0 4) < (M6 a0 1) → Q (some (.inl 1)) M6))) ∧ (v6 = (0 : Int) → Q (some (.inl 0)) M6))))) : fx_At E m_X6_readInto 11 [some (.inr a0), some (.inr a1), some (.inl x2)] [] M Q := by
  refine x_iload_n (pc := 11) dX6_readInto_11 rfl rfl ?_
  refine x_bipush (pc := 12) dX6_readInto_12 (by decide +kernel) ?_
  obtain ⟨g1, h⟩ := h
  refine x_cge (pc := 14) 46 dX6_readInto_14 (by decide) ⟨g1, ⟨by decide, by decide⟩⟩ (fun hc => ?_) (fun hc => ?_)
  · replace h := h.1 hc
    refine x_aload_n (pc := 46) dX6_readInto_46 rfl rfl ?_
    refine x_aload_n (pc := 47) dX6_readInto_47 rfl rfl ?_
    refine x_aload_n (pc := 48) dX6_readInto_48 rfl rfl ?_
    refine x_geti (pc := 49) dX6_readInto_49 f_RX6_25 hk0 ?_
    obtain ⟨R2, hc2, h⟩ := h
    refine x_callV (pc := 52) (z := m_X6_isDigit) (b := a0) (as := [.inl (M a0 4)]) (rest := [.inr a0]) dX6_readInto_52 c_RX6_37 (by decide) hk0 rfl (Nat.le_of_ble_eq_true rfl) hc2 (fun r M2 hr => ?_)
    obtain ⟨v2, rfl, hr⟩ := hr
    replace h := h v2 M2 hr
    show fx_At E m_X6_readInto 55 [some (.inr a0), some (.inr a1), some (.inl x2)] [.inl v2, .inr a0] M2 Q
    obtain ⟨g3, h⟩ := h
    refine x_zeq (pc := 55) 62 dX6_readInto_55 (by decide) g3 (fun hc => ?_) (fun hc => ?_)
    · replace h := h.1 hc
      refine x_iconst (pc := 62) dX6_readInto_62 ?_
      refine x_aload_n (pc := 63) dX6_readInto_63 rfl rfl ?_
      refine x_geti (pc := 64) dX6_readInto_64 f_RX6_25 hk0 ?_
      obtain ⟨R4, hc4, h⟩ := h
      refine x_callV (pc := 67) (z := m_X6_blame) (b := a0) (as := [.inl 1, .inl (M2 a0 4)]) (rest := []) dX6_readInto_67 c_RX6_41 (by decide) hk0 rfl (Nat.le_of_ble_eq_true rfl) hc4 (fun r M4 hr => ?_)
      obtain ⟨rfl, hr⟩ := hr
      replace h := h M4 hr
      show fx_At E m_X6_readInto 70 [some (.inr a0), some (.inr a1), some (.inl x2)] [] M4 Q
      refine x_iconst (pc := 70) dX6_readInto_70 ?_
      exact x_iret (pc := 71) dX6_readInto_71 (Or.inr ⟨rfl, by decide⟩) h
    · replace h := h.2 hc
      refine x_iconst (pc := 58) dX6_readInto_58 ?_
      refine x_goto (pc := 59) 63 dX6_readInto_59 (by decide) ?_
      refine x_aload_n (pc := 63) dX6_readInto_63 rfl rfl ?_
      refine x_geti (pc := 64) dX6_readInto_64 f_RX6_25 hk0 ?_
      obtain ⟨R5, hc5, h⟩ := h
      refine x_callV (pc := 67) (z := m_X6_blame) (b := a0) (as := [.inl 4, .inl (M2 a0 4)]) (rest := []) dX6_readInto_67 c_RX6_41 (by decide) hk0 rfl (Nat.le_of_ble_eq_true rfl) hc5 (fun r M5 hr => ?_)
      obtain ⟨rfl, hr⟩ := hr
      replace h := h M5 hr
      show fx_At E m_X6_readInto 70 [some (.inr a0), some (.inr a1), some (.inl x2)] [] M5 Q
      refine x_iconst (pc := 70) dX6_readInto_70 ?_
      exact x_iret (pc := 71) dX6_readInto_71 (Or.inr ⟨rfl, by decide⟩) h
  · replace h := h.2 hc
    refine x_aload_n (pc := 17) dX6_readInto_17 rfl rfl ?_
    refine x_aload_n (pc := 18) dX6_readInto_18 rfl rfl ?_
    obtain ⟨R6, hc6, h⟩ := h
    refine x_callV (pc := 19) (z := m_X6_readItem) (b := a0) (as := [.inr a1]) (rest := []) dX6_readInto_19 c_RX6_33 (by decide) hk0 rfl (Nat.le_of_ble_eq_true rfl) hc6 (fun r M6 hr => ?_)
    obtain ⟨v6, rfl, hr⟩ := hr
    replace h := h v6 M6 hr
    show fx_At E m_X6_readInto 22 [some (.inr a0), some (.inr a1), some (.inl x2)] [.inl v6] M6 Q
    obtain ⟨g7, h⟩ := h
    refine x_zne (pc := 22) 27 dX6_readInto_22 (by decide) g7 (fun hc => ?_) (fun hc => ?_)
    · replace h := h.1 hc
      refine x_aload_n (pc := 27) dX6_readInto_27 rfl rfl ?_
      refine x_geti (pc := 28) dX6_readInto_28 f_RX6_25 hk0 ?_
      refine x_aload_n (pc := 31) dX6_readInto_31 rfl rfl ?_
      refine x_geti (pc := 32) dX6_readInto_32 f_RX6_15 hk0 ?_
      obtain ⟨g8, h⟩ := h
      obtain ⟨g9, h⟩ := h
      refine x_clt (pc := 35) 40 dX6_readInto_35 (by decide) ⟨g8, g9⟩ (fun hc => ?_) (fun hc => ?_)
      · replace h := h.1 hc
        refine x_iinc (pc := 40) (lv' := [some (.inr a0), some (.inr a1), some (.inl (x2 + 1))]) dX6_readInto_40 rfl (by decide) rfl ?_
        refine x_goto (pc := 43) 11 dX6_readInto_43 (by decide) ?_
        exact h
      · replace h := h.2 hc
        refine x_iconst (pc := 38) dX6_readInto_38 ?_
        exact x_iret (pc := 39) dX6_readInto_39 (Or.inr ⟨rfl, by decide⟩) h
    · replace h := h.2 hc
      refine x_iconst (pc := 25) dX6_readInto_25 ?_
      exact x_iret (pc := 26) dX6_readInto_26 (Or.inr ⟨rfl, by decide⟩) h
theorem dX6_readItem_0 : decode cX6_readItem 0 = .ok (.aload_n 0, 1) := by decide +kernel
theorem dX6_readItem_1 : decode cX6_readItem 1 = .ok (.getfield 25, 3) := by decide +kernel
theorem dX6_readItem_4 : decode cX6_readItem 4 = .ok (.istore_n 2, 1) := by decide +kernel
theorem dX6_readItem_5 : decode cX6_readItem 5 = .ok (.aload_n 0, 1) := by decide +kernel
theorem dX6_readItem_6 : decode cX6_readItem 6 = .ok (.iconst 1, 1) := by decide +kernel
theorem dX6_readItem_7 : decode cX6_readItem 7 = .ok (.bipush 100, 2) := by decide +kernel
theorem dX6_readItem_9 : decode cX6_readItem 9 = .ok (.invokevirtual 45, 3) := by decide +kernel
theorem dX6_readItem_12 : decode cX6_readItem 12 = .ok (.istore_n 3, 1) := by decide +kernel
theorem dX6_readItem_13 : decode cX6_readItem 13 = .ok (.iload_n 3, 1) := by decide +kernel
theorem dX6_readItem_14 : decode cX6_readItem 14 = .ok (.iconst (-1), 1) := by decide +kernel
theorem dX6_readItem_15 : decode cX6_readItem 15 = .ok (.if_icmp .ne 5, 3) := by decide +kernel
theorem dX6_readItem_18 : decode cX6_readItem 18 = .ok (.iconst 0, 1) := by decide +kernel
theorem dX6_readItem_19 : decode cX6_readItem 19 = .ok (.ireturn, 1) := by decide +kernel
theorem dX6_readItem_20 : decode cX6_readItem 20 = .ok (.aload_n 1, 1) := by decide +kernel
theorem dX6_readItem_21 : decode cX6_readItem 21 = .ok (.invokevirtual 49, 3) := by decide +kernel
theorem dX6_readItem_24 : decode cX6_readItem 24 = .ok (.iload_n 3, 1) := by decide +kernel
theorem dX6_readItem_25 : decode cX6_readItem 25 = .ok (.iadd, 1) := by decide +kernel
theorem dX6_readItem_26 : decode cX6_readItem 26 = .ok (.sipush 300, 3) := by decide +kernel
theorem dX6_readItem_29 : decode cX6_readItem 29 = .ok (.if_icmp .le 11, 3) := by decide +kernel
theorem dX6_readItem_32 : decode cX6_readItem 32 = .ok (.aload_n 0, 1) := by decide +kernel
theorem dX6_readItem_33 : decode cX6_readItem 33 = .ok (.iconst 3, 1) := by decide +kernel
theorem dX6_readItem_34 : decode cX6_readItem 34 = .ok (.iload_n 2, 1) := by decide +kernel
theorem dX6_readItem_35 : decode cX6_readItem 35 = .ok (.invokevirtual 41, 3) := by decide +kernel
theorem dX6_readItem_38 : decode cX6_readItem 38 = .ok (.iconst 0, 1) := by decide +kernel
theorem dX6_readItem_39 : decode cX6_readItem 39 = .ok (.ireturn, 1) := by decide +kernel
theorem dX6_readItem_40 : decode cX6_readItem 40 = .ok (.aload_n 0, 1) := by decide +kernel
theorem dX6_readItem_41 : decode cX6_readItem 41 = .ok (.bipush 120, 2) := by decide +kernel
theorem dX6_readItem_43 : decode cX6_readItem 43 = .ok (.invokevirtual 53, 3) := by decide +kernel
theorem dX6_readItem_46 : decode cX6_readItem 46 = .ok (.ifCond .ne 5, 3) := by decide +kernel
theorem dX6_readItem_49 : decode cX6_readItem 49 = .ok (.iconst 0, 1) := by decide +kernel
theorem dX6_readItem_50 : decode cX6_readItem 50 = .ok (.ireturn, 1) := by decide +kernel
theorem dX6_readItem_51 : decode cX6_readItem 51 = .ok (.aload_n 0, 1) := by decide +kernel
theorem dX6_readItem_52 : decode cX6_readItem 52 = .ok (.iconst 1, 1) := by decide +kernel
theorem dX6_readItem_53 : decode cX6_readItem 53 = .ok (.bipush 60, 2) := by decide +kernel
theorem dX6_readItem_55 : decode cX6_readItem 55 = .ok (.invokevirtual 45, 3) := by decide +kernel
theorem dX6_readItem_58 : decode cX6_readItem 58 = .ok (.istore 4, 2) := by decide +kernel
theorem dX6_readItem_60 : decode cX6_readItem 60 = .ok (.iload 4, 2) := by decide +kernel
theorem dX6_readItem_62 : decode cX6_readItem 62 = .ok (.iconst (-1), 1) := by decide +kernel
theorem dX6_readItem_63 : decode cX6_readItem 63 = .ok (.if_icmp .eq 12, 3) := by decide +kernel
theorem dX6_readItem_66 : decode cX6_readItem 66 = .ok (.aload_n 0, 1) := by decide +kernel
theorem dX6_readItem_67 : decode cX6_readItem 67 = .ok (.bipush 98, 2) := by decide +kernel
theorem dX6_readItem_69 : decode cX6_readItem 69 = .ok (.invokevirtual 53, 3) := by decide +kernel
theorem dX6_readItem_72 : decode cX6_readItem 72 = .ok (.ifCond .ne 5, 3) := by decide +kernel
theorem dX6_readItem_75 : decode cX6_readItem 75 = .ok (.iconst 0, 1) := by decide +kernel
theorem dX6_readItem_76 : decode cX6_readItem 76 = .ok (.ireturn, 1) := by decide +kernel
theorem dX6_readItem_77 : decode cX6_readItem 77 = .ok (.aload_n 0, 1) := by decide +kernel
theorem dX6_readItem_78 : decode cX6_readItem 78 = .ok (.iconst 0, 1) := by decide +kernel
theorem dX6_readItem_79 : decode cX6_readItem 79 = .ok (.sipush 2000, 3) := by decide +kernel
theorem dX6_readItem_82 : decode cX6_readItem 82 = .ok (.invokevirtual 45, 3) := by decide +kernel
theorem dX6_readItem_85 : decode cX6_readItem 85 = .ok (.istore 5, 2) := by decide +kernel
theorem dX6_readItem_87 : decode cX6_readItem 87 = .ok (.iload 5, 2) := by decide +kernel
theorem dX6_readItem_89 : decode cX6_readItem 89 = .ok (.iconst (-1), 1) := by decide +kernel
theorem dX6_readItem_90 : decode cX6_readItem 90 = .ok (.if_icmp .eq 12, 3) := by decide +kernel
theorem dX6_readItem_93 : decode cX6_readItem 93 = .ok (.aload_n 0, 1) := by decide +kernel
theorem dX6_readItem_94 : decode cX6_readItem 94 = .ok (.bipush 59, 2) := by decide +kernel
theorem dX6_readItem_96 : decode cX6_readItem 96 = .ok (.invokevirtual 53, 3) := by decide +kernel
theorem dX6_readItem_99 : decode cX6_readItem 99 = .ok (.ifCond .ne 5, 3) := by decide +kernel
theorem dX6_readItem_102 : decode cX6_readItem 102 = .ok (.iconst 0, 1) := by decide +kernel
theorem dX6_readItem_103 : decode cX6_readItem 103 = .ok (.ireturn, 1) := by decide +kernel
theorem dX6_readItem_104 : decode cX6_readItem 104 = .ok (.aload_n 1, 1) := by decide +kernel
theorem dX6_readItem_105 : decode cX6_readItem 105 = .ok (.iload_n 3, 1) := by decide +kernel
theorem dX6_readItem_106 : decode cX6_readItem 106 = .ok (.iload 4, 2) := by decide +kernel
theorem dX6_readItem_108 : decode cX6_readItem 108 = .ok (.iload 5, 2) := by decide +kernel
theorem dX6_readItem_110 : decode cX6_readItem 110 = .ok (.invokevirtual 57, 3) := by decide +kernel
theorem dX6_readItem_113 : decode cX6_readItem 113 = .ok (.iconst 1, 1) := by decide +kernel
theorem dX6_readItem_114 : decode cX6_readItem 114 = .ok (.ireturn, 1) := by decide +kernel
set_option maxRecDepth 100000 in
theorem b_X6_readItem_0 {E : fxE} (hW : fx_Wt E) (a0 : Nat) (a1 : Nat) (M : fxM) (Q : Option fxV → fxM → Prop) (hk0 : kd E a0 = 6) (hk1 : kd E a1 = 2) (h : ∃ R1 : Int → fxM → Prop, CtI E m_X6_readNumber [.inr a0, .inl 1, .inl 100] M R1 ∧ ∀ (v1 : Int) (M1 : fxM), R1 v1 M1 → (-2147483648 ≤ v1 ∧ v1 < 2147483648) ∧ ((¬ v1 = (-1 : Int) → (0 ≤ M1 a1 3 ∧ M1 a1 3 ≤ 8) ∧ (-2147483648 ≤ ((fsum E M1 a1 (M1 a1 3).toNat) + v1) ∧ ((fsum E M1 a1 (M1 a1 3).toNat) + v1) < 2147483648) ∧ ((((fsum E M1 a1 (M1 a1 3).toNat) + v1) ≤ (300 : Int) → ∃ R5 : Int → fxM → Prop, CtI E m_X6_readSign [.inr a0, .inl 120] M1 R5 ∧ ∀ (v5 : Int) (M5 : fxM), R5 v5 M5 → (-2147483648 ≤ v5 ∧ v5 < 2147483648) ∧ ((¬ v5 = (0 : Int) → ∃ R7 : Int → fxM → Prop, CtI E m_X6_readNumber [.inr a0, .inl 1, .inl 60] M5 R7 ∧ ∀ (v7 : Int) (M7 : fxM), R7 v7 M7 → (-2147483648 ≤ v7 ∧ v7 < 2147483648) ∧ ((v7 = (-1 : Int) → Q (some (.inl 0)) M7) ∧ (¬ v7 = (-1 : Int) → ∃ R9 : Int → fxM → Prop, CtI E m_X6_readSign [.inr a0, .inl 98] M7 R9 ∧ ∀ (v9 : Int) (M9 : fxM), R9 v9 M9 → (-2147483648 ≤ v9 ∧ v9 < 2147483648) ∧ ((¬ v9 = (0 : Int) → ∃ R11 : Int → fxM → Prop, CtI E m_X6_readNumber [.inr a0, .inl 0, .inl 2000] M9 R11 ∧ ∀ (v11 : Int) (M11 : fxM), R11 v11 M11 → (-2147483648 ≤ v11 ∧ v11 < 2147483648) ∧ ((v11 = (-1 : Int) → Q (some (.inl 0)) M11) ∧ (¬ v11 = (-1 : Int) → ∃ R13 : Int → fxM → Prop, CtI E m_X6_readSign [.inr a0, .inl 59] M11 R13 ∧ ∀ (v13 : Int) (M13 : fxM), R13 v13 M13 → (-2147483648 ≤ v13 ∧ v13 < 2147483648) ∧ ((¬ v13 = (0 : Int) → ∃ R15 : fxM → Prop, CtV E m_X2_append [.inr a1, .inl v1, .inl v7, .inl v11] M13 R15 ∧ ∀ M15 : fxM, R15 M15 → Q (some (.inl 1)) M15) ∧ (v13 = (0 : Int) → Q (some (.inl 0)) M13))))) ∧ (v9 = (0 : Int) → Q (some (.inl 0)) M9))))) ∧ (v5 = (0 : Int) → Q (some (.inl 0)) M5))) ∧ (¬ ((fsum E M1 a1 (M1 a1 3).toNat) + v1) ≤ (300 : Int) → ∃ R16 : fxM → Prop, CtV E m_X6_blame [.inr a0, .inl 3, .inl (M a0 4)] M1 R16 ∧ ∀ M16 : fxM, R16 M16 → Q (some (.inl 0)) M16))) ∧ (v1 = (-1 : Int) → Q (some (.inl 0)) M1))) : fx_At E m_X6_readItem 0 [some (.inr a0), some (.inr a1), none, none, none, none] [] M Q := by
  refine x_aload_n (pc := 0) dX6_readItem_0 rfl rfl ?_
  refine x_geti (pc := 1) dX6_readItem_1 f_RX6_25 hk0 ?_
  refine x_istore_n (pc := 4) (lv' := [some (.inr a0), some (.inr a1), some (.inl (M a0 4)), none, none, none]) dX6_readItem_4 rfl (by decide) rfl ?_
  refine x_aload_n (pc := 5) dX6_readItem_5 rfl rfl ?_
  refine x_iconst (pc := 6) dX6_readItem_6 ?_
  refine x_bipush (pc := 7) dX6_readItem_7 (by decide +kernel) ?_
  obtain ⟨R1, hc1, h⟩ := h
  refine x_callV (pc := 9) (z := m_X6_readNumber) (b := a0) (as := [.inl 1, .inl 100]) (rest := []) dX6_readItem_9 c_RX6_45 (by decide) hk0 rfl (Nat.le_of_ble_eq_true rfl) hc1 (fun r M1 hr => ?_)
  obtain ⟨v1, rfl, hr⟩ := hr
  replace h := h v1 M1 hr
  show fx_At E m_X6_readItem 12 [some (.inr a0), some (.inr a1), some (.inl (M a0 4)), none, none, none] [.inl v1] M1 Q
  refine x_istore_n (pc := 12) (lv' := [some (.inr a0), some (.inr a1), some (.inl (M a0 4)), some (.inl v1), none, none]) dX6_readItem_12 rfl (by decide) rfl ?_
  refine x_iload_n (pc := 13) dX6_readItem_13 rfl rfl ?_
  refine x_iconst (pc := 14) dX6_readItem_14 ?_
  obtain ⟨g2, h⟩ := h
  refine x_cne (pc := 15) 20 dX6_readItem_15 (by decide) ⟨g2, ⟨by decide, by decide⟩⟩ (fun hc => ?_) (fun hc => ?_)
  · replace h := h.1 hc
    refine x_aload_n (pc := 20) dX6_readItem_20 rfl rfl ?_
    obtain ⟨g3, h⟩ := h
    refine x_callV (pc := 21) (z := m_X2_totalLength) (b := a1) (as := []) (rest := []) dX6_readItem_21 c_RX6_49 (by decide) hk1 rfl (Nat.le_of_ble_eq_true rfl) (ct_X2_totalLength hW hk1 g3) (fun r M9 hr => ?_)
    obtain ⟨hM9, hr⟩ := hr
    rw [hM9, hr]
    clear hM9 hr
    show fx_At E m_X6_readItem 24 [some (.inr a0), some (.inr a1), some (.inl (M a0 4)), some (.inl v1), none, none] [.inl (fsum E M1 a1 (M1 a1 3).toNat)] _ Q
    refine x_iload_n (pc := 24) dX6_readItem_24 rfl rfl ?_
    refine x_iadd (pc := 25) dX6_readItem_25 ?_
    refine x_sipush (pc := 26) dX6_readItem_26 (by decide +kernel) ?_
    obtain ⟨g4, h⟩ := h
    refine x_cle (pc := 29) 40 dX6_readItem_29 (by decide) ⟨g4, ⟨by decide, by decide⟩⟩ (fun hc => ?_) (fun hc => ?_)
    · replace h := h.1 hc
      refine x_aload_n (pc := 40) dX6_readItem_40 rfl rfl ?_
      refine x_bipush (pc := 41) dX6_readItem_41 (by decide +kernel) ?_
      obtain ⟨R5, hc5, h⟩ := h
      refine x_callV (pc := 43) (z := m_X6_readSign) (b := a0) (as := [.inl 120]) (rest := []) dX6_readItem_43 c_RX6_53 (by decide) hk0 rfl (Nat.le_of_ble_eq_true rfl) hc5 (fun r M5 hr => ?_)
      obtain ⟨v5, rfl, hr⟩ := hr
      replace h := h v5 M5 hr
      show fx_At E m_X6_readItem 46 [some (.inr a0), some (.inr a1), some (.inl (M a0 4)), some (.inl v1), none, none] [.inl v5] M5 Q
      obtain ⟨g6, h⟩ := h
      refine x_zne (pc := 46) 51 dX6_readItem_46 (by decide) g6 (fun hc => ?_) (fun hc => ?_)
      · replace h := h.1 hc
        refine x_aload_n (pc := 51) dX6_readItem_51 rfl rfl ?_
        refine x_iconst (pc := 52) dX6_readItem_52 ?_
        refine x_bipush (pc := 53) dX6_readItem_53 (by decide +kernel) ?_
        obtain ⟨R7, hc7, h⟩ := h
        refine x_callV (pc := 55) (z := m_X6_readNumber) (b := a0) (as := [.inl 1, .inl 60]) (rest := []) dX6_readItem_55 c_RX6_45 (by decide) hk0 rfl (Nat.le_of_ble_eq_true rfl) hc7 (fun r M7 hr => ?_)
        obtain ⟨v7, rfl, hr⟩ := hr
        replace h := h v7 M7 hr
        show fx_At E m_X6_readItem 58 [some (.inr a0), some (.inr a1), some (.inl (M a0 4)), some (.inl v1), none, none] [.inl v7] M7 Q
        refine x_istore (pc := 58) (lv' := [some (.inr a0), some (.inr a1), some (.inl (M a0 4)), some (.inl v1), some (.inl v7), none]) dX6_readItem_58 (by decide) rfl ?_
        refine x_iload (pc := 60) dX6_readItem_60 rfl ?_
        refine x_iconst (pc := 62) dX6_readItem_62 ?_
        obtain ⟨g8, h⟩ := h
        refine x_ceq (pc := 63) 75 dX6_readItem_63 (by decide) ⟨g8, ⟨by decide, by decide⟩⟩ (fun hc => ?_) (fun hc => ?_)
        · replace h := h.1 hc
          refine x_iconst (pc := 75) dX6_readItem_75 ?_
          exact x_iret (pc := 76) dX6_readItem_76 (Or.inr ⟨rfl, by decide⟩) h
        · replace h := h.2 hc
          refine x_aload_n (pc := 66) dX6_readItem_66 rfl rfl ?_
          refine x_bipush (pc := 67) dX6_readItem_67 (by decide +kernel) ?_
          obtain ⟨R9, hc9, h⟩ := h
          refine x_callV (pc := 69) (z := m_X6_readSign) (b := a0) (as := [.inl 98]) (rest := []) dX6_readItem_69 c_RX6_53 (by decide) hk0 rfl (Nat.le_of_ble_eq_true rfl) hc9 (fun r M9 hr => ?_)
          obtain ⟨v9, rfl, hr⟩ := hr
          replace h := h v9 M9 hr
          show fx_At E m_X6_readItem 72 [some (.inr a0), some (.inr a1), some (.inl (M a0 4)), some (.inl v1), some (.inl v7), none] [.inl v9] M9 Q
          obtain ⟨g10, h⟩ := h
          refine x_zne (pc := 72) 77 dX6_readItem_72 (by decide) g10 (fun hc => ?_) (fun hc => ?_)
          · replace h := h.1 hc
            refine x_aload_n (pc := 77) dX6_readItem_77 rfl rfl ?_
            refine x_iconst (pc := 78) dX6_readItem_78 ?_
            refine x_sipush (pc := 79) dX6_readItem_79 (by decide +kernel) ?_
            obtain ⟨R11, hc11, h⟩ := h
            refine x_callV (pc := 82) (z := m_X6_readNumber) (b := a0) (as := [.inl 0, .inl 2000]) (rest := []) dX6_readItem_82 c_RX6_45 (by decide) hk0 rfl (Nat.le_of_ble_eq_true rfl) hc11 (fun r M11 hr => ?_)
            obtain ⟨v11, rfl, hr⟩ := hr
            replace h := h v11 M11 hr
            show fx_At E m_X6_readItem 85 [some (.inr a0), some (.inr a1), some (.inl (M a0 4)), some (.inl v1), some (.inl v7), none] [.inl v11] M11 Q
            refine x_istore (pc := 85) (lv' := [some (.inr a0), some (.inr a1), some (.inl (M a0 4)), some (.inl v1), some (.inl v7), some (.inl v11)]) dX6_readItem_85 (by decide) rfl ?_
            refine x_iload (pc := 87) dX6_readItem_87 rfl ?_
            refine x_iconst (pc := 89) dX6_readItem_89 ?_
            obtain ⟨g12, h⟩ := h
            refine x_ceq (pc := 90) 102 dX6_readItem_90 (by decide) ⟨g12, ⟨by decide, by decide⟩⟩ (fun hc => ?_) (fun hc => ?_)
            · replace h := h.1 hc
              refine x_iconst (pc := 102) dX6_readItem_102 ?_
              exact x_iret (pc := 103) dX6_readItem_103 (Or.inr ⟨rfl, by decide⟩) h
            · replace h := h.2 hc
              refine x_aload_n (pc := 93) dX6_readItem_93 rfl rfl ?_
              refine x_bipush (pc := 94) dX6_readItem_94 (by decide +kernel) ?_
              obtain ⟨R13, hc13, h⟩ := h
              refine x_callV (pc := 96) (z := m_X6_readSign) (b := a0) (as := [.inl 59]) (rest := []) dX6_readItem_96 c_RX6_53 (by decide) hk0 rfl (Nat.le_of_ble_eq_true rfl) hc13 (fun r M13 hr => ?_)
              obtain ⟨v13, rfl, hr⟩ := hr
              replace h := h v13 M13 hr
              show fx_At E m_X6_readItem 99 [some (.inr a0), some (.inr a1), some (.inl (M a0 4)), some (.inl v1), some (.inl v7), some (.inl v11)] [.inl v13] M13 Q
              obtain ⟨g14, h⟩ := h
              refine x_zne (pc := 99) 104 dX6_readItem_99 (by decide) g14 (fun hc => ?_) (fun hc => ?_)
              · replace h := h.1 hc
                refine x_aload_n (pc := 104) dX6_readItem_104 rfl rfl ?_
                refine x_iload_n (pc := 105) dX6_readItem_105 rfl rfl ?_
                refine x_iload (pc := 106) dX6_readItem_106 rfl ?_
                refine x_iload (pc := 108) dX6_readItem_108 rfl ?_
                obtain ⟨R15, hc15, h⟩ := h
                refine x_callV (pc := 110) (z := m_X2_append) (b := a1) (as := [.inl v1, .inl v7, .inl v11]) (rest := []) dX6_readItem_110 c_RX6_57 (by decide) hk1 rfl (Nat.le_of_ble_eq_true rfl) hc15 (fun r M15 hr => ?_)
                obtain ⟨rfl, hr⟩ := hr
                replace h := h M15 hr
                show fx_At E m_X6_readItem 113 [some (.inr a0), some (.inr a1), some (.inl (M a0 4)), some (.inl v1), some (.inl v7), some (.inl v11)] [] M15 Q
                refine x_iconst (pc := 113) dX6_readItem_113 ?_
                exact x_iret (pc := 114) dX6_readItem_114 (Or.inr ⟨rfl, by decide⟩) h
              · replace h := h.2 hc
                refine x_iconst (pc := 102) dX6_readItem_102 ?_
                exact x_iret (pc := 103) dX6_readItem_103 (Or.inr ⟨rfl, by decide⟩) h
          · replace h := h.2 hc
            refine x_iconst (pc := 75) dX6_readItem_75 ?_
            exact x_iret (pc := 76) dX6_readItem_76 (Or.inr ⟨rfl, by decide⟩) h
      · replace h := h.2 hc
        refine x_iconst (pc := 49) dX6_readItem_49 ?_
        exact x_iret (pc := 50) dX6_readItem_50 (Or.inr ⟨rfl, by decide⟩) h
    · replace h := h.2 hc
      refine x_aload_n (pc := 32) dX6_readItem_32 rfl rfl ?_
      refine x_iconst (pc := 33) dX6_readItem_33 ?_
      refine x_iload_n (pc := 34) dX6_readItem_34 rfl rfl ?_
      obtain ⟨R16, hc16, h⟩ := h
      refine x_callV (pc := 35) (z := m_X6_blame) (b := a0) (as := [.inl 3, .inl (M a0 4)]) (rest := []) dX6_readItem_35 c_RX6_41 (by decide) hk0 rfl (Nat.le_of_ble_eq_true rfl) hc16 (fun r M16 hr => ?_)
      obtain ⟨rfl, hr⟩ := hr
      replace h := h M16 hr
      show fx_At E m_X6_readItem 38 [some (.inr a0), some (.inr a1), some (.inl (M a0 4)), some (.inl v1), none, none] [] M16 Q
      refine x_iconst (pc := 38) dX6_readItem_38 ?_
      exact x_iret (pc := 39) dX6_readItem_39 (Or.inr ⟨rfl, by decide⟩) h
  · replace h := h.2 hc
    refine x_iconst (pc := 18) dX6_readItem_18 ?_
    exact x_iret (pc := 19) dX6_readItem_19 (Or.inr ⟨rfl, by decide⟩) h
theorem dX6_readNumber_0 : decode cX6_readNumber 0 = .ok (.aload_n 0, 1) := by decide +kernel
theorem dX6_readNumber_1 : decode cX6_readNumber 1 = .ok (.getfield 25, 3) := by decide +kernel
theorem dX6_readNumber_4 : decode cX6_readNumber 4 = .ok (.istore_n 3, 1) := by decide +kernel
theorem dX6_readNumber_5 : decode cX6_readNumber 5 = .ok (.iconst 0, 1) := by decide +kernel
theorem dX6_readNumber_6 : decode cX6_readNumber 6 = .ok (.istore 4, 2) := by decide +kernel
theorem dX6_readNumber_8 : decode cX6_readNumber 8 = .ok (.aload_n 0, 1) := by decide +kernel
theorem dX6_readNumber_9 : decode cX6_readNumber 9 = .ok (.getfield 25, 3) := by decide +kernel
theorem dX6_readNumber_12 : decode cX6_readNumber 12 = .ok (.iload_n 3, 1) := by decide +kernel
theorem dX6_readNumber_13 : decode cX6_readNumber 13 = .ok (.iconst 4, 1) := by decide +kernel
theorem dX6_readNumber_14 : decode cX6_readNumber 14 = .ok (.iadd, 1) := by decide +kernel
theorem dX6_readNumber_15 : decode cX6_readNumber 15 = .ok (.if_icmp .ge 46, 3) := by decide +kernel
theorem dX6_readNumber_18 : decode cX6_readNumber 18 = .ok (.aload_n 0, 1) := by decide +kernel
theorem dX6_readNumber_19 : decode cX6_readNumber 19 = .ok (.aload_n 0, 1) := by decide +kernel
theorem dX6_readNumber_20 : decode cX6_readNumber 20 = .ok (.getfield 25, 3) := by decide +kernel
theorem dX6_readNumber_23 : decode cX6_readNumber 23 = .ok (.invokevirtual 37, 3) := by decide +kernel
theorem dX6_readNumber_26 : decode cX6_readNumber 26 = .ok (.ifCond .eq 35, 3) := by decide +kernel
theorem dX6_readNumber_29 : decode cX6_readNumber 29 = .ok (.iload 4, 2) := by decide +kernel
theorem dX6_readNumber_31 : decode cX6_readNumber 31 = .ok (.bipush 10, 2) := by decide +kernel
theorem dX6_readNumber_33 : decode cX6_readNumber 33 = .ok (.imul, 1) := by decide +kernel
theorem dX6_readNumber_34 : decode cX6_readNumber 34 = .ok (.aload_n 0, 1) := by decide +kernel
theorem dX6_readNumber_35 : decode cX6_readNumber 35 = .ok (.aload_n 0, 1) := by decide +kernel
theorem dX6_readNumber_36 : decode cX6_readNumber 36 = .ok (.getfield 25, 3) := by decide +kernel
theorem dX6_readNumber_39 : decode cX6_readNumber 39 = .ok (.invokevirtual 61, 3) := by decide +kernel
theorem dX6_readNumber_42 : decode cX6_readNumber 42 = .ok (.iadd, 1) := by decide +kernel
theorem dX6_readNumber_43 : decode cX6_readNumber 43 = .ok (.bipush 48, 2) := by decide +kernel
theorem dX6_readNumber_45 : decode cX6_readNumber 45 = .ok (.isub, 1) := by decide +kernel
theorem dX6_readNumber_46 : decode cX6_readNumber 46 = .ok (.istore 4, 2) := by decide +kernel
theorem dX6_readNumber_48 : decode cX6_readNumber 48 = .ok (.aload_n 0, 1) := by decide +kernel
theorem dX6_readNumber_49 : decode cX6_readNumber 49 = .ok (.dup, 1) := by decide +kernel
theorem dX6_readNumber_50 : decode cX6_readNumber 50 = .ok (.getfield 25, 3) := by decide +kernel
theorem dX6_readNumber_53 : decode cX6_readNumber 53 = .ok (.iconst 1, 1) := by decide +kernel
theorem dX6_readNumber_54 : decode cX6_readNumber 54 = .ok (.iadd, 1) := by decide +kernel
theorem dX6_readNumber_55 : decode cX6_readNumber 55 = .ok (.putfield 25, 3) := by decide +kernel
theorem dX6_readNumber_58 : decode cX6_readNumber 58 = .ok (.goto (-50), 3) := by decide +kernel
theorem dX6_readNumber_61 : decode cX6_readNumber 61 = .ok (.aload_n 0, 1) := by decide +kernel
theorem dX6_readNumber_62 : decode cX6_readNumber 62 = .ok (.getfield 25, 3) := by decide +kernel
theorem dX6_readNumber_65 : decode cX6_readNumber 65 = .ok (.iload_n 3, 1) := by decide +kernel
theorem dX6_readNumber_66 : decode cX6_readNumber 66 = .ok (.if_icmp .ne 14, 3) := by decide +kernel
theorem dX6_readNumber_69 : decode cX6_readNumber 69 = .ok (.aload_n 0, 1) := by decide +kernel
theorem dX6_readNumber_70 : decode cX6_readNumber 70 = .ok (.iconst 1, 1) := by decide +kernel
theorem dX6_readNumber_71 : decode cX6_readNumber 71 = .ok (.aload_n 0, 1) := by decide +kernel
theorem dX6_readNumber_72 : decode cX6_readNumber 72 = .ok (.getfield 25, 3) := by decide +kernel
theorem dX6_readNumber_75 : decode cX6_readNumber 75 = .ok (.invokevirtual 41, 3) := by decide +kernel
theorem dX6_readNumber_78 : decode cX6_readNumber 78 = .ok (.iconst (-1), 1) := by decide +kernel
theorem dX6_readNumber_79 : decode cX6_readNumber 79 = .ok (.ireturn, 1) := by decide +kernel
theorem dX6_readNumber_80 : decode cX6_readNumber 80 = .ok (.iload 4, 2) := by decide +kernel
theorem dX6_readNumber_82 : decode cX6_readNumber 82 = .ok (.iload_n 1, 1) := by decide +kernel
theorem dX6_readNumber_83 : decode cX6_readNumber 83 = .ok (.if_icmp .lt 9, 3) := by decide +kernel
theorem dX6_readNumber_86 : decode cX6_readNumber 86 = .ok (.iload 4, 2) := by decide +kernel
theorem dX6_readNumber_88 : decode cX6_readNumber 88 = .ok (.iload_n 2, 1) := by decide +kernel
theorem dX6_readNumber_89 : decode cX6_readNumber 89 = .ok (.if_icmp .le 11, 3) := by decide +kernel
theorem dX6_readNumber_92 : decode cX6_readNumber 92 = .ok (.aload_n 0, 1) := by decide +kernel
theorem dX6_readNumber_93 : decode cX6_readNumber 93 = .ok (.iconst 2, 1) := by decide +kernel
theorem dX6_readNumber_94 : decode cX6_readNumber 94 = .ok (.iload_n 3, 1) := by decide +kernel
theorem dX6_readNumber_95 : decode cX6_readNumber 95 = .ok (.invokevirtual 41, 3) := by decide +kernel
theorem dX6_readNumber_98 : decode cX6_readNumber 98 = .ok (.iconst (-1), 1) := by decide +kernel
theorem dX6_readNumber_99 : decode cX6_readNumber 99 = .ok (.ireturn, 1) := by decide +kernel
theorem dX6_readNumber_100 : decode cX6_readNumber 100 = .ok (.iload 4, 2) := by decide +kernel
theorem dX6_readNumber_102 : decode cX6_readNumber 102 = .ok (.ireturn, 1) := by decide +kernel
set_option maxRecDepth 100000 in
theorem b_X6_readNumber_0 {E : fxE} (hW : fx_Wt E) (a0 : Nat) (x1 : Int) (x2 : Int) (M : fxM) (Q : Option fxV → fxM → Prop) (hk0 : kd E a0 = 6) (h : fx_At E m_X6_readNumber 8 [some (.inr a0), some (.inl x1), some (.inl x2), some (.inl (M a0 4)), some (.inl 0)] [] M Q) : fx_At E m_X6_readNumber 0 [some (.inr a0), some (.inl x1), some (.inl x2), none, none] [] M Q := by
  refine x_aload_n (pc := 0) dX6_readNumber_0 rfl rfl ?_
  refine x_geti (pc := 1) dX6_readNumber_1 f_RX6_25 hk0 ?_
  refine x_istore_n (pc := 4) (lv' := [some (.inr a0), some (.inl x1), some (.inl x2), some (.inl (M a0 4)), none]) dX6_readNumber_4 rfl (by decide) rfl ?_
  refine x_iconst (pc := 5) dX6_readNumber_5 ?_
  refine x_istore (pc := 6) (lv' := [some (.inr a0), some (.inl x1), some (.inl x2), some (.inl (M a0 4)), some (.inl 0)]) dX6_readNumber_6 (by decide) rfl ?_
  exact h
set_option maxRecDepth 100000 in
theorem b_X6_readNumber_8 {E : fxE} (hW : fx_Wt E) (a0 : Nat) (x1 : Int) (x2 : Int) (x3 : Int) (x4 : Int) (M : fxM) (Q : Option fxV → fxM → Prop) (hk0 : kd E a0 = 6) (h : (-2147483648 ≤ (M a0 4) ∧ (M a0 4) < 2147483648) ∧ (-2147483648 ≤ (x3 + 4) ∧ (x3 + 4) < 2147483648) ∧ (((x3 + 4) ≤ (M a0 4) → fx_At E m_X6_readNumber 61 [some (.inr a0), some (.inl x1), some (.inl x2), some (.inl x3), some (.inl x4)] [] M Q) ∧ (¬ (x3 + 4) ≤ (M a0 4) → ∃ R3 : Int → fxM → Prop, CtI E m_X6_isDigit [.inr a0, .inl (M a0 4)] M R3 ∧ ∀ (v3 : Int) (M3 : fxM), R3 v3 M3 → (-2147483648 ≤ v3 ∧ v3 < 2147483648) ∧ ((v3 = (0 : Int) → fx_At E m_X6_readNumber 61 [some (.inr a0), some (.inl x1), some (.inl x2), some (.inl x3), some (.inl x4)] [] M3 Q) ∧ (¬ v3 = (0 : Int) → (-2147483648 ≤ (M3 a0 4) ∧ (M3 a0 4) < 2147483648) ∧ (-2147483648 ≤ (M3 a0 1) ∧ (M3 a0 1) < 2147483648) ∧ ∀ M7 : fxM, M7 = mset M3 a0 4 ((M3 a0 4) + 1) → fx_At E m_X6_readNumber 8 [some (.inr a0), some (.inl x1), some (.inl x2), some (.inl x3), some (.inl (((x4 * 10) + (cat E M3 a0 (M3 a0 4))) - 48))] [] M7 Q))))) : fx_At E m_X6_readNumber 8 [some (.inr a0), some (.inl x1), some (.inl x2), some (.inl x3), some (.inl x4)] [] M Q := by
  refine x_aload_n (pc := 8) dX6_readNumber_8 rfl rfl ?_
  refine x_geti (pc := 9) dX6_readNumber_9 f_RX6_25 hk0 ?_
  refine x_iload_n (pc := 12) dX6_readNumber_12 rfl rfl ?_
  refine x_iconst (pc := 13) dX6_readNumber_13 ?_
  refine x_iadd (pc := 14) dX6_readNumber_14 ?_
  obtain ⟨g1, h⟩ := h
  obtain ⟨g2, h⟩ := h
  refine x_cge (pc := 15) 61 dX6_readNumber_15 (by decide) ⟨g1, g2⟩ (fun hc => ?_) (fun hc => ?_)
  · replace h := h.1 hc
    exact h
  · replace h := h.2 hc
    refine x_aload_n (pc := 18) dX6_readNumber_18 rfl rfl ?_
    refine x_aload_n (pc := 19) dX6_readNumber_19 rfl rfl ?_
    refine x_geti (pc := 20) dX6_readNumber_20 f_RX6_25 hk0 ?_
    obtain ⟨R3, hc3, h⟩ := h
    refine x_callV (pc := 23) (z := m_X6_isDigit) (b := a0) (as := [.inl (M a0 4)]) (rest := []) dX6_readNumber_23 c_RX6_37 (by decide) hk0 rfl (Nat.le_of_ble_eq_true rfl) hc3 (fun r M3 hr => ?_)
    obtain ⟨v3, rfl, hr⟩ := hr
    replace h := h v3 M3 hr
    show fx_At E m_X6_readNumber 26 [some (.inr a0), some (.inl x1), some (.inl x2), some (.inl x3), some (.inl x4)] [.inl v3] M3 Q
    obtain ⟨g4, h⟩ := h
    refine x_zeq (pc := 26) 61 dX6_readNumber_26 (by decide) g4 (fun hc => ?_) (fun hc => ?_)
    · replace h := h.1 hc
      exact h
    · replace h := h.2 hc
      refine x_iload (pc := 29) dX6_readNumber_29 rfl ?_
      refine x_bipush (pc := 31) dX6_readNumber_31 (by decide +kernel) ?_
      refine x_imul (pc := 33) dX6_readNumber_33 ?_
      refine x_aload_n (pc := 34) dX6_readNumber_34 rfl rfl ?_
      refine x_aload_n (pc := 35) dX6_readNumber_35 rfl rfl ?_
      refine x_geti (pc := 36) dX6_readNumber_36 f_RX6_25 hk0 ?_
      obtain ⟨g5, h⟩ := h
      obtain ⟨g6, h⟩ := h
      refine x_callV (pc := 39) (z := m_X6_codeAt) (b := a0) (as := [.inl (M3 a0 4)]) (rest := [.inl (x4 * 10)]) dX6_readNumber_39 c_RX6_61 (by decide) hk0 rfl (Nat.le_of_ble_eq_true rfl) (ct_X6_codeAt hW hk0 g5 g6) (fun r M9 hr => ?_)
      obtain ⟨hM9, hr⟩ := hr
      rw [hM9, hr]
      clear hM9 hr
      show fx_At E m_X6_readNumber 42 [some (.inr a0), some (.inl x1), some (.inl x2), some (.inl x3), some (.inl x4)] [.inl (cat E M3 a0 (M3 a0 4)), .inl (x4 * 10)] _ Q
      refine x_iadd (pc := 42) dX6_readNumber_42 ?_
      refine x_bipush (pc := 43) dX6_readNumber_43 (by decide +kernel) ?_
      refine x_isub (pc := 45) dX6_readNumber_45 ?_
      refine x_istore (pc := 46) (lv' := [some (.inr a0), some (.inl x1), some (.inl x2), some (.inl x3), some (.inl (((x4 * 10) + (cat E M3 a0 (M3 a0 4))) - 48))]) dX6_readNumber_46 (by decide) rfl ?_
      refine x_aload_n (pc := 48) dX6_readNumber_48 rfl rfl ?_
      refine x_dup (pc := 49) dX6_readNumber_49 ?_
      refine x_geti (pc := 50) dX6_readNumber_50 f_RX6_25 hk0 ?_
      refine x_iconst (pc := 53) dX6_readNumber_53 ?_
      refine x_iadd (pc := 54) dX6_readNumber_54 ?_
      refine x_puti (pc := 55) dX6_readNumber_55 f_RX6_25 hk0 (fun M7 hM7 => ?_)
      replace h := h M7 hM7
      refine x_goto (pc := 58) 8 dX6_readNumber_58 (by decide) ?_
      exact h
set_option maxRecDepth 100000 in
theorem b_X6_readNumber_61 {E : fxE} (hW : fx_Wt E) (a0 : Nat) (x1 : Int) (x2 : Int) (x3 : Int) (x4 : Int) (M : fxM) (Q : Option fxV → fxM → Prop) (hk0 : kd E a0 = 6) (h : (-2147483648 ≤ (M a0 4) ∧ (M a0 4) < 2147483648) ∧ (-2147483648 ≤ x3 ∧ x3 < 2147483648) ∧ ((¬ (M a0 4) = x3 → (-2147483648 ≤ x4 ∧ x4 < 2147483648) ∧ (-2147483648 ≤ x1 ∧ x1 < 2147483648) ∧ ((x4 < x1 → ∃ R5 : fxM → Prop, CtV E m_X6_blame [.inr a0, .inl 2, .inl x3] M R5 ∧ ∀ M5 : fxM, R5 M5 → Q (some (.inl (-1))) M5) ∧ (¬ x4 < x1 → (-2147483648 ≤ x2 ∧ x2 < 2147483648) ∧ ((x4 ≤ x2 → Q (some (.inl x4)) M) ∧ (¬ x4 ≤ x2 → ∃ R7 : fxM → Prop, CtV E m_X6_blame [.inr a0, .inl 2, .inl x3] M R7 ∧ ∀ M7 : fxM, R7 M7 → Q (some (.inl (-1))) M7))))) ∧ ((M a0 4) = x3 → ∃ R8 : fxM → Prop, CtV E m_X6_blame [.inr a0, .inl 1, .inl (M a0 4)] M R8 ∧ ∀ M8 : fxM, R8 M8 → Q (some (.inl (-1))) M8))) : fx_At E m_X6_readNumber 61 [some (.inr a0), some (.inl x1), some (.inl x2), some (.inl x3), some (.inl x4)] [] M Q := by
  refine x_aload_n (pc := 61) dX6_readNumber_61 rfl rfl ?_
  refine x_geti (pc := 62) dX6_readNumber_62 f_RX6_25 hk0 ?_
  refine x_iload_n (pc := 65) dX6_readNumber_65 rfl rfl ?_
  obtain ⟨g1, h⟩ := h
  obtain ⟨g2, h⟩ := h
  refine x_cne (pc := 66) 80 dX6_readNumber_66 (by decide) ⟨g1, g2⟩ (fun hc => ?_) (fun hc => ?_)
  · replace h := h.1 hc
    refine x_iload (pc := 80) dX6_readNumber_80 rfl ?_
    refine x_iload_n (pc := 82) dX6_readNumber_82 rfl rfl ?_
    obtain ⟨g3, h⟩ := h
    obtain ⟨g4, h⟩ := h
    refine x_clt (pc := 83) 92 dX6_readNumber_83 (by decide) ⟨g3, g4⟩ (fun hc => ?_) (fun hc => ?_)
    · replace h := h.1 hc
      refine x_aload_n (pc := 92) dX6_readNumber_92 rfl rfl ?_
      refine x_iconst (pc := 93) dX6_readNumber_93 ?_
      refine x_iload_n (pc := 94) dX6_readNumber_94 rfl rfl ?_
      obtain ⟨R5, hc5, h⟩ := h
      refine x_callV (pc := 95) (z := m_X6_blame) (b := a0) (as := [.inl 2, .inl x3]) (rest := []) dX6_readNumber_95 c_RX6_41 (by decide) hk0 rfl (Nat.le_of_ble_eq_true rfl) hc5 (fun r M5 hr => ?_)
      obtain ⟨rfl, hr⟩ := hr
      replace h := h M5 hr
      show fx_At E m_X6_readNumber 98 [some (.inr a0), some (.inl x1), some (.inl x2), some (.inl x3), some (.inl x4)] [] M5 Q
      refine x_iconst (pc := 98) dX6_readNumber_98 ?_
      exact x_iret (pc := 99) dX6_readNumber_99 (Or.inl rfl) h
    · replace h := h.2 hc
      refine x_iload (pc := 86) dX6_readNumber_86 rfl ?_
      refine x_iload_n (pc := 88) dX6_readNumber_88 rfl rfl ?_
      obtain ⟨g6, h⟩ := h
      refine x_cle (pc := 89) 100 dX6_readNumber_89 (by decide) ⟨g3, g6⟩ (fun hc => ?_) (fun hc => ?_)
      · replace h := h.1 hc
        refine x_iload (pc := 100) dX6_readNumber_100 rfl ?_
        exact x_iret (pc := 102) dX6_readNumber_102 (Or.inl rfl) h
      · replace h := h.2 hc
        refine x_aload_n (pc := 92) dX6_readNumber_92 rfl rfl ?_
        refine x_iconst (pc := 93) dX6_readNumber_93 ?_
        refine x_iload_n (pc := 94) dX6_readNumber_94 rfl rfl ?_
        obtain ⟨R7, hc7, h⟩ := h
        refine x_callV (pc := 95) (z := m_X6_blame) (b := a0) (as := [.inl 2, .inl x3]) (rest := []) dX6_readNumber_95 c_RX6_41 (by decide) hk0 rfl (Nat.le_of_ble_eq_true rfl) hc7 (fun r M7 hr => ?_)
        obtain ⟨rfl, hr⟩ := hr
        replace h := h M7 hr
        show fx_At E m_X6_readNumber 98 [some (.inr a0), some (.inl x1), some (.inl x2), some (.inl x3), some (.inl x4)] [] M7 Q
        refine x_iconst (pc := 98) dX6_readNumber_98 ?_
        exact x_iret (pc := 99) dX6_readNumber_99 (Or.inl rfl) h
  · replace h := h.2 hc
    refine x_aload_n (pc := 69) dX6_readNumber_69 rfl rfl ?_
    refine x_iconst (pc := 70) dX6_readNumber_70 ?_
    refine x_aload_n (pc := 71) dX6_readNumber_71 rfl rfl ?_
    refine x_geti (pc := 72) dX6_readNumber_72 f_RX6_25 hk0 ?_
    obtain ⟨R8, hc8, h⟩ := h
    refine x_callV (pc := 75) (z := m_X6_blame) (b := a0) (as := [.inl 1, .inl (M a0 4)]) (rest := []) dX6_readNumber_75 c_RX6_41 (by decide) hk0 rfl (Nat.le_of_ble_eq_true rfl) hc8 (fun r M8 hr => ?_)
    obtain ⟨rfl, hr⟩ := hr
    replace h := h M8 hr
    show fx_At E m_X6_readNumber 78 [some (.inr a0), some (.inl x1), some (.inl x2), some (.inl x3), some (.inl x4)] [] M8 Q
    refine x_iconst (pc := 78) dX6_readNumber_78 ?_
    exact x_iret (pc := 79) dX6_readNumber_79 (Or.inl rfl) h
theorem dX6_readSign_0 : decode cX6_readSign 0 = .ok (.aload_n 0, 1) := by decide +kernel
theorem dX6_readSign_1 : decode cX6_readSign 1 = .ok (.aload_n 0, 1) := by decide +kernel
theorem dX6_readSign_2 : decode cX6_readSign 2 = .ok (.getfield 25, 3) := by decide +kernel
theorem dX6_readSign_5 : decode cX6_readSign 5 = .ok (.invokevirtual 61, 3) := by decide +kernel
theorem dX6_readSign_8 : decode cX6_readSign 8 = .ok (.iload_n 1, 1) := by decide +kernel
theorem dX6_readSign_9 : decode cX6_readSign 9 = .ok (.if_icmp .eq 14, 3) := by decide +kernel
theorem dX6_readSign_12 : decode cX6_readSign 12 = .ok (.aload_n 0, 1) := by decide +kernel
theorem dX6_readSign_13 : decode cX6_readSign 13 = .ok (.iconst 1, 1) := by decide +kernel
theorem dX6_readSign_14 : decode cX6_readSign 14 = .ok (.aload_n 0, 1) := by decide +kernel
theorem dX6_readSign_15 : decode cX6_readSign 15 = .ok (.getfield 25, 3) := by decide +kernel
theorem dX6_readSign_18 : decode cX6_readSign 18 = .ok (.invokevirtual 41, 3) := by decide +kernel
theorem dX6_readSign_21 : decode cX6_readSign 21 = .ok (.iconst 0, 1) := by decide +kernel
theorem dX6_readSign_22 : decode cX6_readSign 22 = .ok (.ireturn, 1) := by decide +kernel
theorem dX6_readSign_23 : decode cX6_readSign 23 = .ok (.aload_n 0, 1) := by decide +kernel
theorem dX6_readSign_24 : decode cX6_readSign 24 = .ok (.dup, 1) := by decide +kernel
theorem dX6_readSign_25 : decode cX6_readSign 25 = .ok (.getfield 25, 3) := by decide +kernel
theorem dX6_readSign_28 : decode cX6_readSign 28 = .ok (.iconst 1, 1) := by decide +kernel
theorem dX6_readSign_29 : decode cX6_readSign 29 = .ok (.iadd, 1) := by decide +kernel
theorem dX6_readSign_30 : decode cX6_readSign 30 = .ok (.putfield 25, 3) := by decide +kernel
theorem dX6_readSign_33 : decode cX6_readSign 33 = .ok (.iconst 1, 1) := by decide +kernel
theorem dX6_readSign_34 : decode cX6_readSign 34 = .ok (.ireturn, 1) := by decide +kernel
set_option maxRecDepth 100000 in
theorem b_X6_readSign_0 {E : fxE} (hW : fx_Wt E) (a0 : Nat) (x1 : Int) (M : fxM) (Q : Option fxV → fxM → Prop) (hk0 : kd E a0 = 6) (h : (-2147483648 ≤ (M a0 4) ∧ (M a0 4) < 2147483648) ∧ (-2147483648 ≤ (M a0 1) ∧ (M a0 1) < 2147483648) ∧ (-2147483648 ≤ (cat E M a0 (M a0 4)) ∧ (cat E M a0 (M a0 4)) < 2147483648) ∧ (-2147483648 ≤ x1 ∧ x1 < 2147483648) ∧ (((cat E M a0 (M a0 4)) = x1 → ∀ M5 : fxM, M5 = mset M a0 4 ((M a0 4) + 1) → Q (some (.inl 1)) M5) ∧ (¬ (cat E M a0 (M a0 4)) = x1 → ∃ R6 : fxM → Prop, CtV E m_X6_blame [.inr a0, .inl 1, .inl (M a0 4)] M R6 ∧ ∀ M6 : fxM, R6 M6 → Q (some (.inl 0)) M6))) : fx_At E m_X6_readSign 0 [some (.inr a0), some (.inl x1)] [] M Q := by
  refine x_aload_n (pc := 0) dX6_readSign_0 rfl rfl ?_
  refine x_aload_n (pc := 1) dX6_readSign_1 rfl rfl ?_
  refine x_geti (pc := 2) dX6_readSign_2 f_RX6_25 hk0 ?_
  obtain ⟨g1, h⟩ := h
  obtain ⟨g2, h⟩ := h
  refine x_callV (pc := 5) (z := m_X6_codeAt) (b := a0) (as := [.inl (M a0 4)]) (rest := []) dX6_readSign_5 c_RX6_61 (by decide) hk0 rfl (Nat.le_of_ble_eq_true rfl) (ct_X6_codeAt hW hk0 g1 g2) (fun r M9 hr => ?_)
  obtain ⟨hM9, hr⟩ := hr
  rw [hM9, hr]
  clear hM9 hr
  show fx_At E m_X6_readSign 8 [some (.inr a0), some (.inl x1)] [.inl (cat E M a0 (M a0 4))] _ Q
  refine x_iload_n (pc := 8) dX6_readSign_8 rfl rfl ?_
  obtain ⟨g3, h⟩ := h
  obtain ⟨g4, h⟩ := h
  refine x_ceq (pc := 9) 23 dX6_readSign_9 (by decide) ⟨g3, g4⟩ (fun hc => ?_) (fun hc => ?_)
  · replace h := h.1 hc
    refine x_aload_n (pc := 23) dX6_readSign_23 rfl rfl ?_
    refine x_dup (pc := 24) dX6_readSign_24 ?_
    refine x_geti (pc := 25) dX6_readSign_25 f_RX6_25 hk0 ?_
    refine x_iconst (pc := 28) dX6_readSign_28 ?_
    refine x_iadd (pc := 29) dX6_readSign_29 ?_
    refine x_puti (pc := 30) dX6_readSign_30 f_RX6_25 hk0 (fun M5 hM5 => ?_)
    replace h := h M5 hM5
    refine x_iconst (pc := 33) dX6_readSign_33 ?_
    exact x_iret (pc := 34) dX6_readSign_34 (Or.inr ⟨rfl, by decide⟩) h
  · replace h := h.2 hc
    refine x_aload_n (pc := 12) dX6_readSign_12 rfl rfl ?_
    refine x_iconst (pc := 13) dX6_readSign_13 ?_
    refine x_aload_n (pc := 14) dX6_readSign_14 rfl rfl ?_
    refine x_geti (pc := 15) dX6_readSign_15 f_RX6_25 hk0 ?_
    obtain ⟨R6, hc6, h⟩ := h
    refine x_callV (pc := 18) (z := m_X6_blame) (b := a0) (as := [.inl 1, .inl (M a0 4)]) (rest := []) dX6_readSign_18 c_RX6_41 (by decide) hk0 rfl (Nat.le_of_ble_eq_true rfl) hc6 (fun r M6 hr => ?_)
    obtain ⟨rfl, hr⟩ := hr
    replace h := h M6 hr
    show fx_At E m_X6_readSign 21 [some (.inr a0), some (.inl x1)] [] M6 Q
    refine x_iconst (pc := 21) dX6_readSign_21 ?_
    exact x_iret (pc := 22) dX6_readSign_22 (Or.inr ⟨rfl, by decide⟩) h
theorem dX6_isDigit_0 : decode cX6_isDigit 0 = .ok (.aload_n 0, 1) := by decide +kernel
theorem dX6_isDigit_1 : decode cX6_isDigit 1 = .ok (.iload_n 1, 1) := by decide +kernel
theorem dX6_isDigit_2 : decode cX6_isDigit 2 = .ok (.invokevirtual 61, 3) := by decide +kernel
theorem dX6_isDigit_5 : decode cX6_isDigit 5 = .ok (.bipush 48, 2) := by decide +kernel
theorem dX6_isDigit_7 : decode cX6_isDigit 7 = .ok (.if_icmp .lt 17, 3) := by decide +kernel
theorem dX6_isDigit_10 : decode cX6_isDigit 10 = .ok (.aload_n 0, 1) := by decide +kernel
theorem dX6_isDigit_11 : decode cX6_isDigit 11 = .ok (.iload_n 1, 1) := by decide +kernel
theorem dX6_isDigit_12 : decode cX6_isDigit 12 = .ok (.invokevirtual 61, 3) := by decide +kernel
theorem dX6_isDigit_15 : decode cX6_isDigit 15 = .ok (.bipush 57, 2) := by decide +kernel
theorem dX6_isDigit_17 : decode cX6_isDigit 17 = .ok (.if_icmp .gt 7, 3) := by decide +kernel
theorem dX6_isDigit_20 : decode cX6_isDigit 20 = .ok (.iconst 1, 1) := by decide +kernel
theorem dX6_isDigit_21 : decode cX6_isDigit 21 = .ok (.goto 4, 3) := by decide +kernel
theorem dX6_isDigit_24 : decode cX6_isDigit 24 = .ok (.iconst 0, 1) := by decide +kernel
theorem dX6_isDigit_25 : decode cX6_isDigit 25 = .ok (.ireturn, 1) := by decide +kernel
set_option maxRecDepth 100000 in
theorem b_X6_isDigit_0 {E : fxE} (hW : fx_Wt E) (a0 : Nat) (x1 : Int) (M : fxM) (Q : Option fxV → fxM → Prop) (hk0 : kd E a0 = 6) (h : (-2147483648 ≤ x1 ∧ x1 < 2147483648) ∧ (-2147483648 ≤ (M a0 1) ∧ (M a0 1) < 2147483648) ∧ (-2147483648 ≤ (cat E M a0 x1) ∧ (cat E M a0 x1) < 2147483648) ∧ (((cat E M a0 x1) < (48 : Int) → Q (some (.inl 0)) M) ∧ (¬ (cat E M a0 x1) < (48 : Int) → (((57 : Int) < (cat E M a0 x1) → Q (some (.inl 0)) M) ∧ (¬ (57 : Int) < (cat E M a0 x1) → Q (some (.inl 1)) M))))) : fx_At E m_X6_isDigit 0 [some (.inr a0), some (.inl x1)] [] M Q := by
  refine x_aload_n (pc := 0) dX6_isDigit_0 rfl rfl ?_
  refine x_iload_n (pc := 1) dX6_isDigit_1 rfl rfl ?_
  obtain ⟨g1, h⟩ := h
  obtain ⟨g2, h⟩ := h
  refine x_callV (pc := 2) (z := m_X6_codeAt) (b := a0) (as := [.inl x1]) (rest := []) dX6_isDigit_2 c_RX6_61 (by decide) hk0 rfl (Nat.le_of_ble_eq_true rfl) (ct_X6_codeAt hW hk0 g1 g2) (fun r M9 hr => ?_)
  obtain ⟨hM9, hr⟩ := hr
  rw [hM9, hr]
  clear hM9 hr
  show fx_At E m_X6_isDigit 5 [some (.inr a0), some (.inl x1)] [.inl (cat E M a0 x1)] _ Q
  refine x_bipush (pc := 5) dX6_isDigit_5 (by decide +kernel) ?_
  obtain ⟨g3, h⟩ := h
  refine x_clt (pc := 7) 24 dX6_isDigit_7 (by decide) ⟨g3, ⟨by decide, by decide⟩⟩ (fun hc => ?_) (fun hc => ?_)
  · replace h := h.1 hc
    refine x_iconst (pc := 24) dX6_isDigit_24 ?_
    exact x_iret (pc := 25) dX6_isDigit_25 (Or.inr ⟨rfl, by decide⟩) h
  · replace h := h.2 hc
    refine x_aload_n (pc := 10) dX6_isDigit_10 rfl rfl ?_
    refine x_iload_n (pc := 11) dX6_isDigit_11 rfl rfl ?_
    refine x_callV (pc := 12) (z := m_X6_codeAt) (b := a0) (as := [.inl x1]) (rest := []) dX6_isDigit_12 c_RX6_61 (by decide) hk0 rfl (Nat.le_of_ble_eq_true rfl) (ct_X6_codeAt hW hk0 g1 g2) (fun r M9 hr => ?_)
    obtain ⟨hM9, hr⟩ := hr
    rw [hM9, hr]
    clear hM9 hr
    show fx_At E m_X6_isDigit 15 [some (.inr a0), some (.inl x1)] [.inl (cat E M a0 x1)] _ Q
    refine x_bipush (pc := 15) dX6_isDigit_15 (by decide +kernel) ?_
    refine x_cgt (pc := 17) 24 dX6_isDigit_17 (by decide) ⟨g3, ⟨by decide, by decide⟩⟩ (fun hc => ?_) (fun hc => ?_)
    · replace h := h.1 hc
      refine x_iconst (pc := 24) dX6_isDigit_24 ?_
      exact x_iret (pc := 25) dX6_isDigit_25 (Or.inr ⟨rfl, by decide⟩) h
    · replace h := h.2 hc
      refine x_iconst (pc := 20) dX6_isDigit_20 ?_
      refine x_goto (pc := 21) 25 dX6_isDigit_21 (by decide) ?_
      exact x_iret (pc := 25) dX6_isDigit_25 (Or.inr ⟨rfl, by decide⟩) h
theorem dX6_blame_0 : decode cX6_blame 0 = .ok (.aload_n 0, 1) := by decide +kernel
theorem dX6_blame_1 : decode cX6_blame 1 = .ok (.iload_n 1, 1) := by decide +kernel
theorem dX6_blame_2 : decode cX6_blame 2 = .ok (.putfield 19, 3) := by decide +kernel
theorem dX6_blame_5 : decode cX6_blame 5 = .ok (.aload_n 0, 1) := by decide +kernel
theorem dX6_blame_6 : decode cX6_blame 6 = .ok (.iload_n 2, 1) := by decide +kernel
theorem dX6_blame_7 : decode cX6_blame 7 = .ok (.putfield 22, 3) := by decide +kernel
theorem dX6_blame_10 : decode cX6_blame 10 = .ok (.return_, 1) := by decide +kernel
set_option maxRecDepth 100000 in
theorem b_X6_blame_0 {E : fxE} (hW : fx_Wt E) (a0 : Nat) (x1 : Int) (x2 : Int) (M : fxM) (Q : Option fxV → fxM → Prop) (hk0 : kd E a0 = 6) (h : ∀ M1 : fxM, M1 = mset M a0 2 x1 → ∀ M2 : fxM, M2 = mset M1 a0 3 x2 → Q none M2) : fx_At E m_X6_blame 0 [some (.inr a0), some (.inl x1), some (.inl x2)] [] M Q := by
  refine x_aload_n (pc := 0) dX6_blame_0 rfl rfl ?_
  refine x_iload_n (pc := 1) dX6_blame_1 rfl rfl ?_
  refine x_puti (pc := 2) dX6_blame_2 f_RX6_19 hk0 (fun M1 hM1 => ?_)
  replace h := h M1 hM1
  refine x_aload_n (pc := 5) dX6_blame_5 rfl rfl ?_
  refine x_iload_n (pc := 6) dX6_blame_6 rfl rfl ?_
  refine x_puti (pc := 7) dX6_blame_7 f_RX6_22 hk0 (fun M2 hM2 => ?_)
  replace h := h M2 hM2
  exact x_vret (pc := 10) dX6_blame_10 rfl h
theorem dX7_compute_0 : decode cX7_compute 0 = .ok (.aload_n 0, 1) := by decide +kernel
theorem dX7_compute_1 : decode cX7_compute 1 = .ok (.iload_n 2, 1) := by decide +kernel
theorem dX7_compute_2 : decode cX7_compute 2 = .ok (.putfield 15, 3) := by decide +kernel
theorem dX7_compute_5 : decode cX7_compute 5 = .ok (.aload_n 0, 1) := by decide +kernel
theorem dX7_compute_6 : decode cX7_compute 6 = .ok (.getfield 9, 3) := by decide +kernel
theorem dX7_compute_9 : decode cX7_compute 9 = .ok (.sipush 5000, 3) := by decide +kernel
theorem dX7_compute_12 : decode cX7_compute 12 = .ok (.invokestatic 22, 3) := by decide +kernel
theorem dX7_compute_15 : decode cX7_compute 15 = .ok (.iconst 0, 1) := by decide +kernel
theorem dX7_compute_16 : decode cX7_compute 16 = .ok (.istore_n 3, 1) := by decide +kernel
theorem dX7_compute_17 : decode cX7_compute 17 = .ok (.iload_n 3, 1) := by decide +kernel
theorem dX7_compute_18 : decode cX7_compute 18 = .ok (.aload_n 1, 1) := by decide +kernel
theorem dX7_compute_19 : decode cX7_compute 19 = .ok (.getfield 28, 3) := by decide +kernel
theorem dX7_compute_22 : decode cX7_compute 22 = .ok (.if_icmp .ge 28, 3) := by decide +kernel
theorem dX7_compute_25 : decode cX7_compute 25 = .ok (.aload_n 0, 1) := by decide +kernel
theorem dX7_compute_26 : decode cX7_compute 26 = .ok (.iload_n 3, 1) := by decide +kernel
theorem dX7_compute_27 : decode cX7_compute 27 = .ok (.aload_n 1, 1) := by decide +kernel
theorem dX7_compute_28 : decode cX7_compute 28 = .ok (.iload_n 3, 1) := by decide +kernel
theorem dX7_compute_29 : decode cX7_compute 29 = .ok (.invokevirtual 33, 3) := by decide +kernel
theorem dX7_compute_32 : decode cX7_compute 32 = .ok (.sipush 300, 3) := by decide +kernel
theorem dX7_compute_35 : decode cX7_compute 35 = .ok (.aload_n 0, 1) := by decide +kernel
theorem dX7_compute_36 : decode cX7_compute 36 = .ok (.getfield 15, 3) := by decide +kernel
theorem dX7_compute_39 : decode cX7_compute 39 = .ok (.imul, 1) := by decide +kernel
theorem dX7_compute_40 : decode cX7_compute 40 = .ok (.iadd, 1) := by decide +kernel
theorem dX7_compute_41 : decode cX7_compute 41 = .ok (.invokevirtual 37, 3) := by decide +kernel
theorem dX7_compute_44 : decode cX7_compute 44 = .ok (.iinc 3 1, 3) := by decide +kernel
theorem dX7_compute_47 : decode cX7_compute 47 = .ok (.goto (-30), 3) := by decide +kernel
theorem dX7_compute_50 : decode cX7_compute 50 = .ok (.iconst 0, 1) := by decide +kernel
theorem dX7_compute_51 : decode cX7_compute 51 = .ok (.istore_n 3, 1) := by decide +kernel
theorem dX7_compute_52 : decode cX7_compute 52 = .ok (.iload_n 3, 1) := by decide +kernel
theorem dX7_compute_53 : decode cX7_compute 53 = .ok (.aload_n 1, 1) := by decide +kernel
theorem dX7_compute_54 : decode cX7_compute 54 = .ok (.getfield 41, 3) := by decide +kernel
theorem dX7_compute_57 : decode cX7_compute 57 = .ok (.if_icmp .ge 38, 3) := by decide +kernel
theorem dX7_compute_60 : decode cX7_compute 60 = .ok (.aload_n 0, 1) := by decide +kernel
theorem dX7_compute_61 : decode cX7_compute 61 = .ok (.aload_n 1, 1) := by decide +kernel
theorem dX7_compute_62 : decode cX7_compute 62 = .ok (.iload_n 3, 1) := by decide +kernel
theorem dX7_compute_63 : decode cX7_compute 63 = .ok (.invokevirtual 44, 3) := by decide +kernel
theorem dX7_compute_66 : decode cX7_compute 66 = .ok (.iconst 0, 1) := by decide +kernel
theorem dX7_compute_67 : decode cX7_compute 67 = .ok (.istore 4, 2) := by decide +kernel
theorem dX7_compute_69 : decode cX7_compute 69 = .ok (.iload 4, 2) := by decide +kernel
theorem dX7_compute_71 : decode cX7_compute 71 = .ok (.iload_n 3, 1) := by decide +kernel
theorem dX7_compute_72 : decode cX7_compute 72 = .ok (.if_icmp .ge 17, 3) := by decide +kernel
theorem dX7_compute_75 : decode cX7_compute 75 = .ok (.aload_n 0, 1) := by decide +kernel
theorem dX7_compute_76 : decode cX7_compute 76 = .ok (.aload_n 1, 1) := by decide +kernel
theorem dX7_compute_77 : decode cX7_compute 77 = .ok (.iload 4, 2) := by decide +kernel
theorem dX7_compute_79 : decode cX7_compute 79 = .ok (.iload_n 3, 1) := by decide +kernel
theorem dX7_compute_80 : decode cX7_compute 80 = .ok (.invokevirtual 48, 3) := by decide +kernel
theorem dX7_compute_83 : decode cX7_compute 83 = .ok (.iinc 4 1, 3) := by decide +kernel
theorem dX7_compute_86 : decode cX7_compute 86 = .ok (.goto (-17), 3) := by decide +kernel
theorem dX7_compute_89 : decode cX7_compute 89 = .ok (.iinc 3 1, 3) := by decide +kernel
theorem dX7_compute_92 : decode cX7_compute 92 = .ok (.goto (-40), 3) := by decide +kernel
theorem dX7_compute_95 : decode cX7_compute 95 = .ok (.return_, 1) := by decide +kernel
set_option maxRecDepth 100000 in
theorem b_X7_compute_0 {E : fxE} (hW : fx_Wt E) (a0 : Nat) (a1 : Nat) (x2 : Int) (M : fxM) (Q : Option fxV → fxM → Prop) (hk0 : kd E a0 = 7) (hk1 : kd E a1 = 8) (h : ∀ M1 : fxM, M1 = mset M a0 1 x2 → ∃ R2 : fxM → Prop, CtV E m_J7_fill_53178 [.inr (rf E a0 0), .inl 5000] M1 R2 ∧ ∀ M2 : fxM, R2 M2 → fx_At E m_X7_compute 17 [some (.inr a0), some (.inr a1), some (.inl x2), some (.inl 0), none] [] M2 Q) : fx_At E m_X7_compute 0 [some (.inr a0), some (.inr a1), some (.inl x2), none, none] [] M Q := by
  refine x_aload_n (pc := 0) dX7_compute_0 rfl rfl ?_
  refine x_iload_n (pc := 1) dX7_compute_1 rfl rfl ?_
  refine x_puti (pc := 2) dX7_compute_2 f_RX7_15 hk0 (fun M1 hM1 => ?_)
  replace h := h M1 hM1
  refine x_aload_n (pc := 5) dX7_compute_5 rfl rfl ?_
  refine x_getr (pc := 6) dX7_compute_6 f_RX7_9 hk0 ?_
  refine x_sipush (pc := 9) dX7_compute_9 (by decide +kernel) ?_
  obtain ⟨R2, hc2, h⟩ := h
  refine x_callS (pc := 12) (z := m_J7_fill_53178) (as := [.inr (rf E a0 0), .inl 5000]) (rest := []) dX7_compute_12 c_RX7_22 (by decide) rfl (Nat.le_of_ble_eq_true rfl) hc2 (fun r M2 hr => ?_)
  obtain ⟨rfl, hr⟩ := hr
  replace h := h M2 hr
  show fx_At E m_X7_compute 15 [some (.inr a0), some (.inr a1), some (.inl x2), none, none] [] M2 Q
  refine x_iconst (pc := 15) dX7_compute_15 ?_
  refine x_istore_n (pc := 16) (lv' := [some (.inr a0), some (.inr a1), some (.inl x2), some (.inl 0), none]) dX7_compute_16 rfl (by decide) rfl ?_
  exact h
set_option maxRecDepth 100000 in
theorem b_X7_compute_17 {E : fxE} (hW : fx_Wt E) (a0 : Nat) (a1 : Nat) (x2 : Int) (x3 : Int) (M : fxM) (Q : Option fxV → fxM → Prop) (hk0 : kd E a0 = 7) (hk1 : kd E a1 = 8) (h : (-2147483648 ≤ x3 ∧ x3 < 2147483648) ∧ (-2147483648 ≤ (M a1 7) ∧ (M a1 7) < 2147483648) ∧ (((M a1 7) ≤ x3 → fx_At E m_X7_compute 52 [some (.inr a0), some (.inr a1), some (.inl x2), some (.inl 0), none] [] M Q) ∧ (¬ (M a1 7) ≤ x3 → ∃ R3 : fxM → Prop, CtV E m_X7_raiseTo [.inr a0, .inl x3, .inl ((vlv E M a1 x3) + (300 * (M a0 1)))] M R3 ∧ ∀ M3 : fxM, R3 M3 → fx_At E m_X7_compute 17 [some (.inr a0), some (.inr a1), some (.inl x2), some (.inl (x3 + 1)), none] [] M3 Q))) : fx_At E m_X7_compute 17 [some (.inr a0), some (.inr a1), some (.inl x2), some (.inl x3), none] [] M Q := by
  refine x_iload_n (pc := 17) dX7_compute_17 rfl rfl ?_
  refine x_aload_n (pc := 18) dX7_compute_18 rfl rfl ?_
  refine x_geti (pc := 19) dX7_compute_19 f_RX7_28 hk1 ?_
  obtain ⟨g1, h⟩ := h
  obtain ⟨g2, h⟩ := h
  refine x_cge (pc := 22) 50 dX7_compute_22 (by decide) ⟨g1, g2⟩ (fun hc => ?_) (fun hc => ?_)
  · replace h := h.1 hc
    refine x_iconst (pc := 50) dX7_compute_50 ?_
    refine x_istore_n (pc := 51) (lv' := [some (.inr a0), some (.inr a1), some (.inl x2), some (.inl 0), none]) dX7_compute_51 rfl (by decide) rfl ?_
    exact h
  · replace h := h.2 hc
    refine x_aload_n (pc := 25) dX7_compute_25 rfl rfl ?_
    refine x_iload_n (pc := 26) dX7_compute_26 rfl rfl ?_
    refine x_aload_n (pc := 27) dX7_compute_27 rfl rfl ?_
    refine x_iload_n (pc := 28) dX7_compute_28 rfl rfl ?_
    refine x_callV (pc := 29) (z := m_X8_levelAt) (b := a1) (as := [.inl x3]) (rest := [.inl x3, .inr a0]) dX7_compute_29 c_RX7_33 (by decide) hk1 rfl (Nat.le_of_ble_eq_true rfl) (ct_X8_levelAt hW hk1 g1) (fun r M9 hr => ?_)
    obtain ⟨hM9, hr⟩ := hr
    rw [hM9, hr]
    clear hM9 hr
    show fx_At E m_X7_compute 32 [some (.inr a0), some (.inr a1), some (.inl x2), some (.inl x3), none] [.inl (vlv E M a1 x3), .inl x3, .inr a0] _ Q
    refine x_sipush (pc := 32) dX7_compute_32 (by decide +kernel) ?_
    refine x_aload_n (pc := 35) dX7_compute_35 rfl rfl ?_
    refine x_geti (pc := 36) dX7_compute_36 f_RX7_15 hk0 ?_
    refine x_imul (pc := 39) dX7_compute_39 ?_
    refine x_iadd (pc := 40) dX7_compute_40 ?_
    obtain ⟨R3, hc3, h⟩ := h
    refine x_callV (pc := 41) (z := m_X7_raiseTo) (b := a0) (as := [.inl x3, .inl ((vlv E M a1 x3) + (300 * (M a0 1)))]) (rest := []) dX7_compute_41 c_RX7_37 (by decide) hk0 rfl (Nat.le_of_ble_eq_true rfl) hc3 (fun r M3 hr => ?_)
    obtain ⟨rfl, hr⟩ := hr
    replace h := h M3 hr
    show fx_At E m_X7_compute 44 [some (.inr a0), some (.inr a1), some (.inl x2), some (.inl x3), none] [] M3 Q
    refine x_iinc (pc := 44) (lv' := [some (.inr a0), some (.inr a1), some (.inl x2), some (.inl (x3 + 1)), none]) dX7_compute_44 rfl (by decide) rfl ?_
    refine x_goto (pc := 47) 17 dX7_compute_47 (by decide) ?_
    exact h
set_option maxRecDepth 100000 in
theorem b_X7_compute_52 {E : fxE} (hW : fx_Wt E) (a0 : Nat) (a1 : Nat) (x2 : Int) (x3 : Int) (M : fxM) (Q : Option fxV → fxM → Prop) (hk0 : kd E a0 = 7) (hk1 : kd E a1 = 8) (h : (-2147483648 ≤ x3 ∧ x3 < 2147483648) ∧ (-2147483648 ≤ (M a1 4) ∧ (M a1 4) < 2147483648) ∧ (((M a1 4) ≤ x3 → Q none M) ∧ (¬ (M a1 4) ≤ x3 → ∃ R3 : fxM → Prop, CtV E m_X7_addReflection [.inr a0, .inr a1, .inl x3] M R3 ∧ ∀ M3 : fxM, R3 M3 → fx_At E m_X7_compute 69 [some (.inr a0), some (.inr a1), some (.inl x2), some (.inl x3), some (.inl 0)] [] M3 Q))) : fx_At E m_X7_compute 52 [some (.inr a0), some (.inr a1), some (.inl x2), some (.inl x3), none] [] M Q := by
  refine x_iload_n (pc := 52) dX7_compute_52 rfl rfl ?_
  refine x_aload_n (pc := 53) dX7_compute_53 rfl rfl ?_
  refine x_geti (pc := 54) dX7_compute_54 f_RX7_41 hk1 ?_
  obtain ⟨g1, h⟩ := h
  obtain ⟨g2, h⟩ := h
  refine x_cge (pc := 57) 95 dX7_compute_57 (by decide) ⟨g1, g2⟩ (fun hc => ?_) (fun hc => ?_)
  · replace h := h.1 hc
    exact x_vret (pc := 95) dX7_compute_95 rfl h
  · replace h := h.2 hc
    refine x_aload_n (pc := 60) dX7_compute_60 rfl rfl ?_
    refine x_aload_n (pc := 61) dX7_compute_61 rfl rfl ?_
    refine x_iload_n (pc := 62) dX7_compute_62 rfl rfl ?_
    obtain ⟨R3, hc3, h⟩ := h
    refine x_callV (pc := 63) (z := m_X7_addReflection) (b := a0) (as := [.inr a1, .inl x3]) (rest := []) dX7_compute_63 c_RX7_44 (by decide) hk0 rfl (Nat.le_of_ble_eq_true rfl) hc3 (fun r M3 hr => ?_)
    obtain ⟨rfl, hr⟩ := hr
    replace h := h M3 hr
    show fx_At E m_X7_compute 66 [some (.inr a0), some (.inr a1), some (.inl x2), some (.inl x3), none] [] M3 Q
    refine x_iconst (pc := 66) dX7_compute_66 ?_
    refine x_istore (pc := 67) (lv' := [some (.inr a0), some (.inr a1), some (.inl x2), some (.inl x3), some (.inl 0)]) dX7_compute_67 (by decide) rfl ?_
    exact h
set_option maxRecDepth 100000 in
theorem b_X7_compute_69 {E : fxE} (hW : fx_Wt E) (a0 : Nat) (a1 : Nat) (x2 : Int) (x3 : Int) (x4 : Int) (M : fxM) (Q : Option fxV → fxM → Prop) (hk0 : kd E a0 = 7) (hk1 : kd E a1 = 8) (h : (-2147483648 ≤ x4 ∧ x4 < 2147483648) ∧ (-2147483648 ≤ x3 ∧ x3 < 2147483648) ∧ ((x3 ≤ x4 → fx_At E m_X7_compute 52 [some (.inr a0), some (.inr a1), some (.inl x2), some (.inl (x3 + 1)), none] [] M Q) ∧ (¬ x3 ≤ x4 → ∃ R3 : fxM → Prop, CtV E m_X7_addGhost [.inr a0, .inr a1, .inl x4, .inl x3] M R3 ∧ ∀ M3 : fxM, R3 M3 → fx_At E m_X7_compute 69 [some (.inr a0), some (.inr a1), some (.inl x2), some (.inl x3), some (.inl (x4 + 1))] [] M3 Q))) : fx_At E m_X7_compute 69 [some (.inr a0), some (.inr a1), some (.inl x2), some (.inl x3), some (.inl x4)] [] M Q := by
  refine x_iload (pc := 69) dX7_compute_69 rfl ?_
  refine x_iload_n (pc := 71) dX7_compute_71 rfl rfl ?_
  obtain ⟨g1, h⟩ := h
  obtain ⟨g2, h⟩ := h
  refine x_cge (pc := 72) 89 dX7_compute_72 (by decide) ⟨g1, g2⟩ (fun hc => ?_) (fun hc => ?_)
  · replace h := h.1 hc
    refine x_iinc (pc := 89) (lv' := [some (.inr a0), some (.inr a1), some (.inl x2), some (.inl (x3 + 1)), some (.inl x4)]) dX7_compute_89 rfl (by decide) rfl ?_
    refine x_goto (pc := 92) 52 dX7_compute_92 (by decide) ?_
    refine x_weak (lv := [some (.inr a0), some (.inr a1), some (.inl x2), some (.inl (x3 + 1)), none]) (by simp [lvle]) ?_
    exact h
  · replace h := h.2 hc
    refine x_aload_n (pc := 75) dX7_compute_75 rfl rfl ?_
    refine x_aload_n (pc := 76) dX7_compute_76 rfl rfl ?_
    refine x_iload (pc := 77) dX7_compute_77 rfl ?_
    refine x_iload_n (pc := 79) dX7_compute_79 rfl rfl ?_
    obtain ⟨R3, hc3, h⟩ := h
    refine x_callV (pc := 80) (z := m_X7_addGhost) (b := a0) (as := [.inr a1, .inl x4, .inl x3]) (rest := []) dX7_compute_80 c_RX7_48 (by decide) hk0 rfl (Nat.le_of_ble_eq_true rfl) hc3 (fun r M3 hr => ?_)
    obtain ⟨rfl, hr⟩ := hr
    replace h := h M3 hr
    show fx_At E m_X7_compute 83 [some (.inr a0), some (.inr a1), some (.inl x2), some (.inl x3), some (.inl x4)] [] M3 Q
    refine x_iinc (pc := 83) (lv' := [some (.inr a0), some (.inr a1), some (.inl x2), some (.inl x3), some (.inl (x4 + 1))]) dX7_compute_83 rfl (by decide) rfl ?_
    refine x_goto (pc := 86) 69 dX7_compute_86 (by decide) ?_
    exact h
theorem dX7_levelBefore_0 : decode cX7_levelBefore 0 = .ok (.aload_n 1, 1) := by decide +kernel
theorem dX7_levelBefore_1 : decode cX7_levelBefore 1 = .ok (.iload_n 2, 1) := by decide +kernel
theorem dX7_levelBefore_2 : decode cX7_levelBefore 2 = .ok (.ifCond .le 9, 3) := by decide +kernel
theorem dX7_levelBefore_5 : decode cX7_levelBefore 5 = .ok (.iload_n 2, 1) := by decide +kernel
theorem dX7_levelBefore_6 : decode cX7_levelBefore 6 = .ok (.iconst 1, 1) := by decide +kernel
theorem dX7_levelBefore_7 : decode cX7_levelBefore 7 = .ok (.isub, 1) := by decide +kernel
theorem dX7_levelBefore_8 : decode cX7_levelBefore 8 = .ok (.goto 4, 3) := by decide +kernel
theorem dX7_levelBefore_11 : decode cX7_levelBefore 11 = .ok (.iconst 0, 1) := by decide +kernel
theorem dX7_levelBefore_12 : decode cX7_levelBefore 12 = .ok (.invokevirtual 33, 3) := by decide +kernel
theorem dX7_levelBefore_15 : decode cX7_levelBefore 15 = .ok (.sipush 300, 3) := by decide +kernel
theorem dX7_levelBefore_18 : decode cX7_levelBefore 18 = .ok (.aload_n 0, 1) := by decide +kernel
theorem dX7_levelBefore_19 : decode cX7_levelBefore 19 = .ok (.getfield 15, 3) := by decide +kernel
theorem dX7_levelBefore_22 : decode cX7_levelBefore 22 = .ok (.imul, 1) := by decide +kernel
theorem dX7_levelBefore_23 : decode cX7_levelBefore 23 = .ok (.iadd, 1) := by decide +kernel
theorem dX7_levelBefore_24 : decode cX7_levelBefore 24 = .ok (.ireturn, 1) := by decide +kernel
set_option maxRecDepth 100000 in
theorem b_X7_levelBefore_0 {E : fxE} (hW : fx_Wt E) (a0 : Nat) (a1 : Nat) (x2 : Int) (M : fxM) (Q : Option fxV → fxM → Prop) (hk0 : kd E a0 = 7) (hk1 : kd E a1 = 8) (h : (-2147483648 ≤ x2 ∧ x2 < 2147483648) ∧ ((x2 ≤ (0 : Int) → Q (some (.inl ((vlv E M a1 0) + (300 * (M a0 1))))) M) ∧ (¬ x2 ≤ (0 : Int) → (-2147483648 ≤ (x2 - 1) ∧ (x2 - 1) < 2147483648) ∧ Q (some (.inl ((vlv E M a1 (x2 - 1)) + (300 * (M a0 1))))) M))) : fx_At E m_X7_levelBefore 0 [some (.inr a0), some (.inr a1), some (.inl x2)] [] M Q := by
  refine x_aload_n (pc := 0) dX7_levelBefore_0 rfl rfl ?_
  refine x_iload_n (pc := 1) dX7_levelBefore_1 rfl rfl ?_
  obtain ⟨g1, h⟩ := h
  refine x_zle (pc := 2) 11 dX7_levelBefore_2 (by decide) g1 (fun hc => ?_) (fun hc => ?_)
  · replace h := h.1 hc
    refine x_iconst (pc := 11) dX7_levelBefore_11 ?_
    refine x_callV (pc := 12) (z := m_X8_levelAt) (b := a1) (as := [.inl 0]) (rest := []) dX7_levelBefore_12 c_RX7_33 (by decide) hk1 rfl (Nat.le_of_ble_eq_true rfl) (ct_X8_levelAt hW hk1 ⟨by decide, by decide⟩) (fun r M9 hr => ?_)
    obtain ⟨hM9, hr⟩ := hr
    rw [hM9, hr]
    clear hM9 hr
    show fx_At E m_X7_levelBefore 15 [some (.inr a0), some (.inr a1), some (.inl x2)] [.inl (vlv E M a1 0)] _ Q
    refine x_sipush (pc := 15) dX7_levelBefore_15 (by decide +kernel) ?_
    refine x_aload_n (pc := 18) dX7_levelBefore_18 rfl rfl ?_
    refine x_geti (pc := 19) dX7_levelBefore_19 f_RX7_15 hk0 ?_
    refine x_imul (pc := 22) dX7_levelBefore_22 ?_
    refine x_iadd (pc := 23) dX7_levelBefore_23 ?_
    exact x_iret (pc := 24) dX7_levelBefore_24 (Or.inl rfl) h
  · replace h := h.2 hc
    refine x_iload_n (pc := 5) dX7_levelBefore_5 rfl rfl ?_
    refine x_iconst (pc := 6) dX7_levelBefore_6 ?_
    refine x_isub (pc := 7) dX7_levelBefore_7 ?_
    refine x_goto (pc := 8) 12 dX7_levelBefore_8 (by decide) ?_
    obtain ⟨g2, h⟩ := h
    refine x_callV (pc := 12) (z := m_X8_levelAt) (b := a1) (as := [.inl (x2 - 1)]) (rest := []) dX7_levelBefore_12 c_RX7_33 (by decide) hk1 rfl (Nat.le_of_ble_eq_true rfl) (ct_X8_levelAt hW hk1 g2) (fun r M9 hr => ?_)
    obtain ⟨hM9, hr⟩ := hr
    rw [hM9, hr]
    clear hM9 hr
    show fx_At E m_X7_levelBefore 15 [some (.inr a0), some (.inr a1), some (.inl x2)] [.inl (vlv E M a1 (x2 - 1))] _ Q
    refine x_sipush (pc := 15) dX7_levelBefore_15 (by decide +kernel) ?_
    refine x_aload_n (pc := 18) dX7_levelBefore_18 rfl rfl ?_
    refine x_geti (pc := 19) dX7_levelBefore_19 f_RX7_15 hk0 ?_
    refine x_imul (pc := 22) dX7_levelBefore_22 ?_
    refine x_iadd (pc := 23) dX7_levelBefore_23 ?_
    exact x_iret (pc := 24) dX7_levelBefore_24 (Or.inl rfl) h
theorem dX7_raiseTo_0 : decode cX7_raiseTo 0 = .ok (.iload_n 1, 1) := by decide +kernel
theorem dX7_raiseTo_1 : decode cX7_raiseTo 1 = .ok (.ifCond .lt 29, 3) := by decide +kernel
theorem dX7_raiseTo_4 : decode cX7_raiseTo 4 = .ok (.iload_n 1, 1) := by decide +kernel
theorem dX7_raiseTo_5 : decode cX7_raiseTo 5 = .ok (.aload_n 0, 1) := by decide +kernel
theorem dX7_raiseTo_6 : decode cX7_raiseTo 6 = .ok (.getfield 9, 3) := by decide +kernel
theorem dX7_raiseTo_9 : decode cX7_raiseTo 9 = .ok (.arraylength, 1) := by decide +kernel
theorem dX7_raiseTo_10 : decode cX7_raiseTo 10 = .ok (.if_icmp .ge 20, 3) := by decide +kernel
theorem dX7_raiseTo_13 : decode cX7_raiseTo 13 = .ok (.iload_n 2, 1) := by decide +kernel
theorem dX7_raiseTo_14 : decode cX7_raiseTo 14 = .ok (.aload_n 0, 1) := by decide +kernel
theorem dX7_raiseTo_15 : decode cX7_raiseTo 15 = .ok (.getfield 9, 3) := by decide +kernel
theorem dX7_raiseTo_18 : decode cX7_raiseTo 18 = .ok (.iload_n 1, 1) := by decide +kernel
theorem dX7_raiseTo_19 : decode cX7_raiseTo 19 = .ok (.iaload, 1) := by decide +kernel
theorem dX7_raiseTo_20 : decode cX7_raiseTo 20 = .ok (.if_icmp .le 10, 3) := by decide +kernel
theorem dX7_raiseTo_23 : decode cX7_raiseTo 23 = .ok (.aload_n 0, 1) := by decide +kernel
theorem dX7_raiseTo_24 : decode cX7_raiseTo 24 = .ok (.getfield 9, 3) := by decide +kernel
theorem dX7_raiseTo_27 : decode cX7_raiseTo 27 = .ok (.iload_n 1, 1) := by decide +kernel
theorem dX7_raiseTo_28 : decode cX7_raiseTo 28 = .ok (.iload_n 2, 1) := by decide +kernel
theorem dX7_raiseTo_29 : decode cX7_raiseTo 29 = .ok (.iastore, 1) := by decide +kernel
theorem dX7_raiseTo_30 : decode cX7_raiseTo 30 = .ok (.return_, 1) := by decide +kernel
set_option maxRecDepth 100000 in
theorem b_X7_raiseTo_0 {E : fxE} (hW : fx_Wt E) (a0 : Nat) (x1 : Int) (x2 : Int) (M : fxM) (Q : Option fxV → fxM → Prop) (hk0 : kd E a0 = 7) (h : (-2147483648 ≤ x1 ∧ x1 < 2147483648) ∧ ((x1 < (0 : Int) → Q none M) ∧ (¬ x1 < (0 : Int) → (((401 : Int) ≤ x1 → Q none M) ∧ (¬ (401 : Int) ≤ x1 → (0 ≤ x1 ∧ x1 < 401) ∧ (-2147483648 ≤ x2 ∧ x2 < 2147483648) ∧ (-2147483648 ≤ (M (rf E a0 0) (x1.toNat)) ∧ (M (rf E a0 0) (x1.toNat)) < 2147483648) ∧ ((x2 ≤ (M (rf E a0 0) (x1.toNat)) → Q none M) ∧ (¬ x2 ≤ (M (rf E a0 0) (x1.toNat)) → ∀ M5 : fxM, M5 = mset M (rf E a0 0) (x1.toNat) x2 → Q none M5))))))) : fx_At E m_X7_raiseTo 0 [some (.inr a0), some (.inl x1), some (.inl x2)] [] M Q := by
  refine x_iload_n (pc := 0) dX7_raiseTo_0 rfl rfl ?_
  obtain ⟨g1, h⟩ := h
  refine x_zlt (pc := 1) 30 dX7_raiseTo_1 (by decide) g1 (fun hc => ?_) (fun hc => ?_)
  · replace h := h.1 hc
    exact x_vret (pc := 30) dX7_raiseTo_30 rfl h
  · replace h := h.2 hc
    refine x_iload_n (pc := 4) dX7_raiseTo_4 rfl rfl ?_
    refine x_aload_n (pc := 5) dX7_raiseTo_5 rfl rfl ?_
    refine x_getr (pc := 6) dX7_raiseTo_6 f_RX7_9 hk0 ?_
    refine x_alen (pc := 9) dX7_raiseTo_9 (wk_7_0 hW hk0) (by decide) (by decide) (wl_7_0 hW hk0) ?_
    refine x_cge (pc := 10) 30 dX7_raiseTo_10 (by decide) ⟨g1, ⟨by decide, by decide⟩⟩ (fun hc => ?_) (fun hc => ?_)
    · replace h := h.1 hc
      exact x_vret (pc := 30) dX7_raiseTo_30 rfl h
    · replace h := h.2 hc
      refine x_iload_n (pc := 13) dX7_raiseTo_13 rfl rfl ?_
      refine x_aload_n (pc := 14) dX7_raiseTo_14 rfl rfl ?_
      refine x_getr (pc := 15) dX7_raiseTo_15 f_RX7_9 hk0 ?_
      refine x_iload_n (pc := 18) dX7_raiseTo_18 rfl rfl ?_
      obtain ⟨g2, h⟩ := h
      refine x_iald (pc := 19) dX7_raiseTo_19 (wk_7_0 hW hk0) (wl_7_0 hW hk0) g2 ?_
      obtain ⟨g3, h⟩ := h
      obtain ⟨g4, h⟩ := h
      refine x_cle (pc := 20) 30 dX7_raiseTo_20 (by decide) ⟨g3, g4⟩ (fun hc => ?_) (fun hc => ?_)
      · replace h := h.1 hc
        exact x_vret (pc := 30) dX7_raiseTo_30 rfl h
      · replace h := h.2 hc
        refine x_aload_n (pc := 23) dX7_raiseTo_23 rfl rfl ?_
        refine x_getr (pc := 24) dX7_raiseTo_24 f_RX7_9 hk0 ?_
        refine x_iload_n (pc := 27) dX7_raiseTo_27 rfl rfl ?_
        refine x_iload_n (pc := 28) dX7_raiseTo_28 rfl rfl ?_
        refine x_iast (pc := 29) dX7_raiseTo_29 (wk_7_0 hW hk0) (wl_7_0 hW hk0) g2 (fun M5 hM5 => ?_)
        replace h := h M5 hM5
        exact x_vret (pc := 30) dX7_raiseTo_30 rfl h
theorem dX7_addReflection_0 : decode cX7_addReflection 0 = .ok (.aload_n 1, 1) := by decide +kernel
theorem dX7_addReflection_1 : decode cX7_addReflection 1 = .ok (.getfield 52, 3) := by decide +kernel
theorem dX7_addReflection_4 : decode cX7_addReflection 4 = .ok (.iload_n 2, 1) := by decide +kernel
theorem dX7_addReflection_5 : decode cX7_addReflection 5 = .ok (.iaload, 1) := by decide +kernel
theorem dX7_addReflection_6 : decode cX7_addReflection 6 = .ok (.istore_n 3, 1) := by decide +kernel
theorem dX7_addReflection_7 : decode cX7_addReflection 7 = .ok (.aload_n 0, 1) := by decide +kernel
theorem dX7_addReflection_8 : decode cX7_addReflection 8 = .ok (.aload_n 1, 1) := by decide +kernel
theorem dX7_addReflection_9 : decode cX7_addReflection 9 = .ok (.iload_n 3, 1) := by decide +kernel
theorem dX7_addReflection_10 : decode cX7_addReflection 10 = .ok (.invokevirtual 55, 3) := by decide +kernel
theorem dX7_addReflection_13 : decode cX7_addReflection 13 = .ok (.istore 4, 2) := by decide +kernel
theorem dX7_addReflection_15 : decode cX7_addReflection 15 = .ok (.iconst 0, 1) := by decide +kernel
theorem dX7_addReflection_16 : decode cX7_addReflection 16 = .ok (.istore 5, 2) := by decide +kernel
theorem dX7_addReflection_18 : decode cX7_addReflection 18 = .ok (.iload 5, 2) := by decide +kernel
theorem dX7_addReflection_20 : decode cX7_addReflection 20 = .ok (.sipush 400, 3) := by decide +kernel
theorem dX7_addReflection_23 : decode cX7_addReflection 23 = .ok (.if_icmp .gt 66, 3) := by decide +kernel
theorem dX7_addReflection_26 : decode cX7_addReflection 26 = .ok (.iload 5, 2) := by decide +kernel
theorem dX7_addReflection_28 : decode cX7_addReflection 28 = .ok (.aload_n 0, 1) := by decide +kernel
theorem dX7_addReflection_29 : decode cX7_addReflection 29 = .ok (.getfield 15, 3) := by decide +kernel
theorem dX7_addReflection_32 : decode cX7_addReflection 32 = .ok (.iconst 1, 1) := by decide +kernel
theorem dX7_addReflection_33 : decode cX7_addReflection 33 = .ok (.isub, 1) := by decide +kernel
theorem dX7_addReflection_34 : decode cX7_addReflection 34 = .ok (.invokestatic 59, 3) := by decide +kernel
theorem dX7_addReflection_37 : decode cX7_addReflection 37 = .ok (.istore 6, 2) := by decide +kernel
theorem dX7_addReflection_39 : decode cX7_addReflection 39 = .ok (.aload_n 1, 1) := by decide +kernel
theorem dX7_addReflection_40 : decode cX7_addReflection 40 = .ok (.getfield 65, 3) := by decide +kernel
theorem dX7_addReflection_43 : decode cX7_addReflection 43 = .ok (.iload_n 2, 1) := by decide +kernel
theorem dX7_addReflection_44 : decode cX7_addReflection 44 = .ok (.iaload, 1) := by decide +kernel
theorem dX7_addReflection_45 : decode cX7_addReflection 45 = .ok (.sipush 300, 3) := by decide +kernel
theorem dX7_addReflection_48 : decode cX7_addReflection 48 = .ok (.iload 6, 2) := by decide +kernel
theorem dX7_addReflection_50 : decode cX7_addReflection 50 = .ok (.imul, 1) := by decide +kernel
theorem dX7_addReflection_51 : decode cX7_addReflection 51 = .ok (.isub, 1) := by decide +kernel
theorem dX7_addReflection_52 : decode cX7_addReflection 52 = .ok (.sipush 1000, 3) := by decide +kernel
theorem dX7_addReflection_55 : decode cX7_addReflection 55 = .ok (.iload 5, 2) := by decide +kernel
theorem dX7_addReflection_57 : decode cX7_addReflection 57 = .ok (.iload 6, 2) := by decide +kernel
theorem dX7_addReflection_59 : decode cX7_addReflection 59 = .ok (.isub, 1) := by decide +kernel
theorem dX7_addReflection_60 : decode cX7_addReflection 60 = .ok (.imul, 1) := by decide +kernel
theorem dX7_addReflection_61 : decode cX7_addReflection 61 = .ok (.isub, 1) := by decide +kernel
theorem dX7_addReflection_62 : decode cX7_addReflection 62 = .ok (.istore 7, 2) := by decide +kernel
theorem dX7_addReflection_64 : decode cX7_addReflection 64 = .ok (.iload 7, 2) := by decide +kernel
theorem dX7_addReflection_66 : decode cX7_addReflection 66 = .ok (.ifCond .gt 4, 3) := by decide +kernel
theorem dX7_addReflection_69 : decode cX7_addReflection 69 = .ok (.return_, 1) := by decide +kernel
theorem dX7_addReflection_70 : decode cX7_addReflection 70 = .ok (.aload_n 0, 1) := by decide +kernel
theorem dX7_addReflection_71 : decode cX7_addReflection 71 = .ok (.iload_n 3, 1) := by decide +kernel
theorem dX7_addReflection_72 : decode cX7_addReflection 72 = .ok (.iload 5, 2) := by decide +kernel
theorem dX7_addReflection_74 : decode cX7_addReflection 74 = .ok (.iadd, 1) := by decide +kernel
theorem dX7_addReflection_75 : decode cX7_addReflection 75 = .ok (.iload 4, 2) := by decide +kernel
theorem dX7_addReflection_77 : decode cX7_addReflection 77 = .ok (.iload 7, 2) := by decide +kernel
theorem dX7_addReflection_79 : decode cX7_addReflection 79 = .ok (.iadd, 1) := by decide +kernel
theorem dX7_addReflection_80 : decode cX7_addReflection 80 = .ok (.invokevirtual 37, 3) := by decide +kernel
theorem dX7_addReflection_83 : decode cX7_addReflection 83 = .ok (.iinc 5 1, 3) := by decide +kernel
theorem dX7_addReflection_86 : decode cX7_addReflection 86 = .ok (.goto (-68), 3) := by decide +kernel
theorem dX7_addReflection_89 : decode cX7_addReflection 89 = .ok (.return_, 1) := by decide +kernel
set_option maxRecDepth 100000 in
theorem b_X7_addReflection_0 {E : fxE} (hW : fx_Wt E) (a0 : Nat) (a1 : Nat) (x2 : Int) (M : fxM) (Q : Option fxV → fxM → Prop) (hk0 : kd E a0 = 7) (hk1 : kd E a1 = 8) (h : (0 ≤ x2 ∧ x2 < 10) ∧ ∃ R2 : Int → fxM → Prop, CtI E m_X7_levelBefore [.inr a0, .inr a1, .inl (M (rf E a1 2) (x2.toNat))] M R2 ∧ ∀ (v2 : Int) (M2 : fxM), R2 v2 M2 → fx_At E m_X7_addReflection 18 [some (.inr a0), some (.inr a1), some (.inl x2), some (.inl (M (rf E a1 2) (x2.toNat))), some (.inl v2), some (.inl 0), none, none] [] M2 Q) : fx_At E m_X7_addReflection 0 [some (.inr a0), some (.inr a1), some (.inl x2), none, none, none, none, none] [] M Q := by
  refine x_aload_n (pc := 0) dX7_addReflection_0 rfl rfl ?_
  refine x_getr (pc := 1) dX7_addReflection_1 f_RX7_52 hk1 ?_
  refine x_iload_n (pc := 4) dX7_addReflection_4 rfl rfl ?_
  obtain ⟨g1, h⟩ := h
  refine x_iald (pc := 5) dX7_addReflection_5 (wk_8_2 hW hk1) (wl_8_2 hW hk1) g1 ?_
  refine x_istore_n (pc := 6) (lv' := [some (.inr a0), some (.inr a1), some (.inl x2), some (.inl (M (rf E a1 2) (x2.toNat))), none, none, none, none]) dX7_addReflection_6 rfl (by decide) rfl ?_
  refine x_aload_n (pc := 7) dX7_addReflection_7 rfl rfl ?_
  refine x_aload_n (pc := 8) dX7_addReflection_8 rfl rfl ?_
  refine x_iload_n (pc := 9) dX7_addReflection_9 rfl rfl ?_
  obtain ⟨R2, hc2, h⟩ := h
  refine x_callV (pc := 10) (z := m_X7_levelBefore) (b := a0) (as := [.inr a1, .inl (M (rf E a1 2) (x2.toNat))]) (rest := []) dX7_addReflection_10 c_RX7_55 (by decide) hk0 rfl (Nat.le_of_ble_eq_true rfl) hc2 (fun r M2 hr => ?_)
  obtain ⟨v2, rfl, hr⟩ := hr
  replace h := h v2 M2 hr
  show fx_At E m_X7_addReflection 13 [some (.inr a0), some (.inr a1), some (.inl x2), some (.inl (M (rf E a1 2) (x2.toNat))), none, none, none, none] [.inl v2] M2 Q
  refine x_istore (pc := 13) (lv' := [some (.inr a0), some (.inr a1), some (.inl x2), some (.inl (M (rf E a1 2) (x2.toNat))), some (.inl v2), none, none, none]) dX7_addReflection_13 (by decide) rfl ?_
  refine x_iconst (pc := 15) dX7_addReflection_15 ?_
  refine x_istore (pc := 16) (lv' := [some (.inr a0), some (.inr a1), some (.inl x2), some (.inl (M (rf E a1 2) (x2.toNat))), some (.inl v2), some (.inl 0), none, none]) dX7_addReflection_16 (by decide) rfl ?_
  exact h
set_option maxRecDepth 100000 in
theorem b_X7_addReflection_18 {E : fxE} (hW : fx_Wt E) (a0 : Nat) (a1 : Nat) (x2 : Int) (x3 : Int) (x4 : Int) (x5 : Int) (M : fxM) (Q : Option fxV → fxM → Prop) (hk0 : kd E a0 = 7) (hk1 : kd E a1 = 8) (h : (-2147483648 ≤ x5 ∧ x5 < 2147483648) ∧ (((400 : Int) < x5 → Q none M) ∧ (¬ (400 : Int) < x5 → (-2147483648 ≤ ((M a0 1) - 1) ∧ ((M a0 1) - 1) < 2147483648) ∧ (0 ≤ x2 ∧ x2 < 10) ∧ (-2147483648 ≤ (((M (rf E a1 3) (x2.toNat)) - (300 * (min x5 ((M a0 1) - 1)))) - (1000 * (x5 - (min x5 ((M a0 1) - 1))))) ∧ (((M (rf E a1 3) (x2.toNat)) - (300 * (min x5 ((M a0 1) - 1)))) - (1000 * (x5 - (min x5 ((M a0 1) - 1))))) < 2147483648) ∧ (((0 : Int) < (((M (rf E a1 3) (x2.toNat)) - (300 * (min x5 ((M a0 1) - 1)))) - (1000 * (x5 - (min x5 ((M a0 1) - 1))))) → ∃ R5 : fxM → Prop, CtV E m_X7_raiseTo [.inr a0, .inl (x3 + x5), .inl (x4 + (((M (rf E a1 3) (x2.toNat)) - (300 * (min x5 ((M a0 1) - 1)))) - (1000 * (x5 - (min x5 ((M a0 1) - 1))))))] M R5 ∧ ∀ M5 : fxM, R5 M5 → fx_At E m_X7_addReflection 18 [some (.inr a0), some (.inr a1), some (.inl x2), some (.inl x3), some (.inl x4), some (.inl (x5 + 1)), none, none] [] M5 Q) ∧ (¬ (0 : Int) < (((M (rf E a1 3) (x2.toNat)) - (300 * (min x5 ((M a0 1) - 1)))) - (1000 * (x5 - (min x5 ((M a0 1) - 1))))) → Q none M))))) : fx_At E m_X7_addReflection 18 [some (.inr a0), some (.inr a1), some (.inl x2), some (.inl x3), some (.inl x4), some (.inl x5), none, none] [] M Q := by
  refine x_iload (pc := 18) dX7_addReflection_18 rfl ?_
  refine x_sipush (pc := 20) dX7_addReflection_20 (by decide +kernel) ?_
  obtain ⟨g1, h⟩ := h
  refine x_cgt (pc := 23) 89 dX7_addReflection_23 (by decide) ⟨g1, ⟨by decide, by decide⟩⟩ (fun hc => ?_) (fun hc => ?_)
  · replace h := h.1 hc
    exact x_vret (pc := 89) dX7_addReflection_89 rfl h
  · replace h := h.2 hc
    refine x_iload (pc := 26) dX7_addReflection_26 rfl ?_
    refine x_aload_n (pc := 28) dX7_addReflection_28 rfl rfl ?_
    refine x_geti (pc := 29) dX7_addReflection_29 f_RX7_15 hk0 ?_
    refine x_iconst (pc := 32) dX7_addReflection_32 ?_
    refine x_isub (pc := 33) dX7_addReflection_33 ?_
    obtain ⟨g2, h⟩ := h
    refine x_mmin (pc := 34) dX7_addReflection_34 c_RX7_59 ⟨Nat.le_of_ble_eq_true rfl, Nat.le_of_ble_eq_true rfl⟩ ⟨g1, g2⟩ ?_
    refine x_istore (pc := 37) (lv' := [some (.inr a0), some (.inr a1), some (.inl x2), some (.inl x3), some (.inl x4), some (.inl x5), some (.inl (min x5 ((M a0 1) - 1))), none]) dX7_addReflection_37 (by decide) rfl ?_
    refine x_aload_n (pc := 39) dX7_addReflection_39 rfl rfl ?_
    refine x_getr (pc := 40) dX7_addReflection_40 f_RX7_65 hk1 ?_
    refine x_iload_n (pc := 43) dX7_addReflection_43 rfl rfl ?_
    obtain ⟨g3, h⟩ := h
    refine x_iald (pc := 44) dX7_addReflection_44 (wk_8_3 hW hk1) (wl_8_3 hW hk1) g3 ?_
    refine x_sipush (pc := 45) dX7_addReflection_45 (by decide +kernel) ?_
    refine x_iload (pc := 48) dX7_addReflection_48 rfl ?_
    refine x_imul (pc := 50) dX7_addReflection_50 ?_
    refine x_isub (pc := 51) dX7_addReflection_51 ?_
    refine x_sipush (pc := 52) dX7_addReflection_52 (by decide +kernel) ?_
    refine x_iload (pc := 55) dX7_addReflection_55 rfl ?_
    refine x_iload (pc := 57) dX7_addReflection_57 rfl ?_
    refine x_isub (pc := 59) dX7_addReflection_59 ?_
    refine x_imul (pc := 60) dX7_addReflection_60 ?_
    refine x_isub (pc := 61) dX7_addReflection_61 ?_
    refine x_istore (pc := 62) (lv' := [some (.inr a0), some (.inr a1), some (.inl x2), some (.inl x3), some (.inl x4), some (.inl x5), some (.inl (min x5 ((M a0 1) - 1))), some (.inl (((M (rf E a1 3) (x2.toNat)) - (300 * (min x5 ((M a0 1) - 1)))) - (1000 * (x5 - (min x5 ((M a0 1) - 1))))))]) dX7_addReflection_62 (by decide) rfl ?_
    refine x_iload (pc := 64) dX7_addReflection_64 rfl ?_
    obtain ⟨g4, h⟩ := h
    refine x_zgt (pc := 66) 70 dX7_addReflection_66 (by decide) g4 (fun hc => ?_) (fun hc => ?_)
    · replace h := h.1 hc
      refine x_aload_n (pc := 70) dX7_addReflection_70 rfl rfl ?_
      refine x_iload_n (pc := 71) dX7_addReflection_71 rfl rfl ?_
      refine x_iload (pc := 72) dX7_addReflection_72 rfl ?_
      refine x_iadd (pc := 74) dX7_addReflection_74 ?_
      refine x_iload (pc := 75) dX7_addReflection_75 rfl ?_
      refine x_iload (pc := 77) dX7_addReflection_77 rfl ?_
      refine x_iadd (pc := 79) dX7_addReflection_79 ?_
      obtain ⟨R5, hc5, h⟩ := h
      refine x_callV (pc := 80) (z := m_X7_raiseTo) (b := a0) (as := [.inl (x3 + x5), .inl (x4 + (((M (rf E a1 3) (x2.toNat)) - (300 * (min x5 ((M a0 1) - 1)))) - (1000 * (x5 - (min x5 ((M a0 1) - 1))))))]) (rest := []) dX7_addReflection_80 c_RX7_37 (by decide) hk0 rfl (Nat.le_of_ble_eq_true rfl) hc5 (fun r M5 hr => ?_)
      obtain ⟨rfl, hr⟩ := hr
      replace h := h M5 hr
      show fx_At E m_X7_addReflection 83 [some (.inr a0), some (.inr a1), some (.inl x2), some (.inl x3), some (.inl x4), some (.inl x5), some (.inl (min x5 ((M a0 1) - 1))), some (.inl (((M (rf E a1 3) (x2.toNat)) - (300 * (min x5 ((M a0 1) - 1)))) - (1000 * (x5 - (min x5 ((M a0 1) - 1))))))] [] M5 Q
      refine x_iinc (pc := 83) (lv' := [some (.inr a0), some (.inr a1), some (.inl x2), some (.inl x3), some (.inl x4), some (.inl (x5 + 1)), some (.inl (min x5 ((M a0 1) - 1))), some (.inl (((M (rf E a1 3) (x2.toNat)) - (300 * (min x5 ((M a0 1) - 1)))) - (1000 * (x5 - (min x5 ((M a0 1) - 1))))))]) dX7_addReflection_83 rfl (by decide) rfl ?_
      refine x_goto (pc := 86) 18 dX7_addReflection_86 (by decide) ?_
      refine x_weak (lv := [some (.inr a0), some (.inr a1), some (.inl x2), some (.inl x3), some (.inl x4), some (.inl (x5 + 1)), none, none]) (by simp [lvle]) ?_
      exact h
    · replace h := h.2 hc
      exact x_vret (pc := 69) dX7_addReflection_69 rfl h
theorem dX7_addGhost_0 : decode cX7_addGhost 0 = .ok (.aload_n 1, 1) := by decide +kernel
theorem dX7_addGhost_1 : decode cX7_addGhost 1 = .ok (.getfield 52, 3) := by decide +kernel
theorem dX7_addGhost_4 : decode cX7_addGhost 4 = .ok (.iload_n 2, 1) := by decide +kernel
theorem dX7_addGhost_5 : decode cX7_addGhost 5 = .ok (.iaload, 1) := by decide +kernel
theorem dX7_addGhost_6 : decode cX7_addGhost 6 = .ok (.istore 4, 2) := by decide +kernel
theorem dX7_addGhost_8 : decode cX7_addGhost 8 = .ok (.aload_n 1, 1) := by decide +kernel
theorem dX7_addGhost_9 : decode cX7_addGhost 9 = .ok (.getfield 52, 3) := by decide +kernel
theorem dX7_addGhost_12 : decode cX7_addGhost 12 = .ok (.iload_n 3, 1) := by decide +kernel
theorem dX7_addGhost_13 : decode cX7_addGhost 13 = .ok (.iaload, 1) := by decide +kernel
theorem dX7_addGhost_14 : decode cX7_addGhost 14 = .ok (.istore 5, 2) := by decide +kernel
theorem dX7_addGhost_16 : decode cX7_addGhost 16 = .ok (.aload_n 1, 1) := by decide +kernel
theorem dX7_addGhost_17 : decode cX7_addGhost 17 = .ok (.getfield 65, 3) := by decide +kernel
theorem dX7_addGhost_20 : decode cX7_addGhost 20 = .ok (.iload_n 2, 1) := by decide +kernel
theorem dX7_addGhost_21 : decode cX7_addGhost 21 = .ok (.iaload, 1) := by decide +kernel
theorem dX7_addGhost_22 : decode cX7_addGhost 22 = .ok (.iconst 2, 1) := by decide +kernel
theorem dX7_addGhost_23 : decode cX7_addGhost 23 = .ok (.aload_n 1, 1) := by decide +kernel
theorem dX7_addGhost_24 : decode cX7_addGhost 24 = .ok (.getfield 65, 3) := by decide +kernel
theorem dX7_addGhost_27 : decode cX7_addGhost 27 = .ok (.iload_n 3, 1) := by decide +kernel
theorem dX7_addGhost_28 : decode cX7_addGhost 28 = .ok (.iaload, 1) := by decide +kernel
theorem dX7_addGhost_29 : decode cX7_addGhost 29 = .ok (.imul, 1) := by decide +kernel
theorem dX7_addGhost_30 : decode cX7_addGhost 30 = .ok (.iadd, 1) := by decide +kernel
theorem dX7_addGhost_31 : decode cX7_addGhost 31 = .ok (.sipush 12000, 3) := by decide +kernel
theorem dX7_addGhost_34 : decode cX7_addGhost 34 = .ok (.isub, 1) := by decide +kernel
theorem dX7_addGhost_35 : decode cX7_addGhost 35 = .ok (.iconst 2, 1) := by decide +kernel
theorem dX7_addGhost_36 : decode cX7_addGhost 36 = .ok (.aload_n 1, 1) := by decide +kernel
theorem dX7_addGhost_37 : decode cX7_addGhost 37 = .ok (.iload 5, 2) := by decide +kernel
theorem dX7_addGhost_39 : decode cX7_addGhost 39 = .ok (.invokevirtual 68, 3) := by decide +kernel
theorem dX7_addGhost_42 : decode cX7_addGhost 42 = .ok (.aload_n 1, 1) := by decide +kernel
theorem dX7_addGhost_43 : decode cX7_addGhost 43 = .ok (.iload 4, 2) := by decide +kernel
theorem dX7_addGhost_45 : decode cX7_addGhost 45 = .ok (.invokevirtual 68, 3) := by decide +kernel
theorem dX7_addGhost_48 : decode cX7_addGhost 48 = .ok (.isub, 1) := by decide +kernel
theorem dX7_addGhost_49 : decode cX7_addGhost 49 = .ok (.imul, 1) := by decide +kernel
theorem dX7_addGhost_50 : decode cX7_addGhost 50 = .ok (.isub, 1) := by decide +kernel
theorem dX7_addGhost_51 : decode cX7_addGhost 51 = .ok (.istore 6, 2) := by decide +kernel
theorem dX7_addGhost_53 : decode cX7_addGhost 53 = .ok (.aload_n 0, 1) := by decide +kernel
theorem dX7_addGhost_54 : decode cX7_addGhost 54 = .ok (.aload_n 1, 1) := by decide +kernel
theorem dX7_addGhost_55 : decode cX7_addGhost 55 = .ok (.iload 5, 2) := by decide +kernel
theorem dX7_addGhost_57 : decode cX7_addGhost 57 = .ok (.invokevirtual 55, 3) := by decide +kernel
theorem dX7_addGhost_60 : decode cX7_addGhost 60 = .ok (.istore 7, 2) := by decide +kernel
theorem dX7_addGhost_62 : decode cX7_addGhost 62 = .ok (.iconst 0, 1) := by decide +kernel
theorem dX7_addGhost_63 : decode cX7_addGhost 63 = .ok (.istore 8, 2) := by decide +kernel
theorem dX7_addGhost_65 : decode cX7_addGhost 65 = .ok (.iload 8, 2) := by decide +kernel
theorem dX7_addGhost_67 : decode cX7_addGhost 67 = .ok (.aload_n 0, 1) := by decide +kernel
theorem dX7_addGhost_68 : decode cX7_addGhost 68 = .ok (.getfield 15, 3) := by decide +kernel
theorem dX7_addGhost_71 : decode cX7_addGhost 71 = .ok (.if_icmp .ge 45, 3) := by decide +kernel
theorem dX7_addGhost_74 : decode cX7_addGhost 74 = .ok (.iload 6, 2) := by decide +kernel
theorem dX7_addGhost_76 : decode cX7_addGhost 76 = .ok (.sipush 300, 3) := by decide +kernel
theorem dX7_addGhost_79 : decode cX7_addGhost 79 = .ok (.iload 8, 2) := by decide +kernel
theorem dX7_addGhost_81 : decode cX7_addGhost 81 = .ok (.imul, 1) := by decide +kernel
theorem dX7_addGhost_82 : decode cX7_addGhost 82 = .ok (.isub, 1) := by decide +kernel
theorem dX7_addGhost_83 : decode cX7_addGhost 83 = .ok (.istore 9, 2) := by decide +kernel
theorem dX7_addGhost_85 : decode cX7_addGhost 85 = .ok (.iload 9, 2) := by decide +kernel
theorem dX7_addGhost_87 : decode cX7_addGhost 87 = .ok (.ifCond .gt 4, 3) := by decide +kernel
theorem dX7_addGhost_90 : decode cX7_addGhost 90 = .ok (.return_, 1) := by decide +kernel
theorem dX7_addGhost_91 : decode cX7_addGhost 91 = .ok (.aload_n 0, 1) := by decide +kernel
theorem dX7_addGhost_92 : decode cX7_addGhost 92 = .ok (.iconst 2, 1) := by decide +kernel
theorem dX7_addGhost_93 : decode cX7_addGhost 93 = .ok (.iload 5, 2) := by decide +kernel
theorem dX7_addGhost_95 : decode cX7_addGhost 95 = .ok (.imul, 1) := by decide +kernel
theorem dX7_addGhost_96 : decode cX7_addGhost 96 = .ok (.iload 4, 2) := by decide +kernel
theorem dX7_addGhost_98 : decode cX7_addGhost 98 = .ok (.isub, 1) := by decide +kernel
theorem dX7_addGhost_99 : decode cX7_addGhost 99 = .ok (.iload 8, 2) := by decide +kernel
theorem dX7_addGhost_101 : decode cX7_addGhost 101 = .ok (.iadd, 1) := by decide +kernel
theorem dX7_addGhost_102 : decode cX7_addGhost 102 = .ok (.iload 7, 2) := by decide +kernel
theorem dX7_addGhost_104 : decode cX7_addGhost 104 = .ok (.iload 9, 2) := by decide +kernel
theorem dX7_addGhost_106 : decode cX7_addGhost 106 = .ok (.iadd, 1) := by decide +kernel
theorem dX7_addGhost_107 : decode cX7_addGhost 107 = .ok (.invokevirtual 37, 3) := by decide +kernel
theorem dX7_addGhost_110 : decode cX7_addGhost 110 = .ok (.iinc 8 1, 3) := by decide +kernel
theorem dX7_addGhost_113 : decode cX7_addGhost 113 = .ok (.goto (-48), 3) := by decide +kernel
theorem dX7_addGhost_116 : decode cX7_addGhost 116 = .ok (.return_, 1) := by decide +kernel
set_option maxRecDepth 100000 in
theorem b_X7_addGhost_0 {E : fxE} (hW : fx_Wt E) (a0 : Nat) (a1 : Nat) (x2 : Int) (x3 : Int) (M : fxM) (Q : Option fxV → fxM → Prop) (hk0 : kd E a0 = 7) (hk1 : kd E a1 = 8) (h : (0 ≤ x2 ∧ x2 < 10) ∧ (0 ≤ x3 ∧ x3 < 10) ∧ (-2147483648 ≤ (M (rf E a1 2) (x3.toNat)) ∧ (M (rf E a1 2) (x3.toNat)) < 2147483648) ∧ (-2147483648 ≤ (M (rf E a1 2) (x2.toNat)) ∧ (M (rf E a1 2) (x2.toNat)) < 2147483648) ∧ ∃ R5 : Int → fxM → Prop, CtI E m_X7_levelBefore [.inr a0, .inr a1, .inl (M (rf E a1 2) (x3.toNat))] M R5 ∧ ∀ (v5 : Int) (M5 : fxM), R5 v5 M5 → fx_At E m_X7_addGhost 65 [some (.inr a0), some (.inr a1), some (.inl x2), some (.inl x3), some (.inl (M (rf E a1 2) (x2.toNat))), some (.inl (M (rf E a1 2) (x3.toNat))), some (.inl ((((M (rf E a1 3) (x2.toNat)) + (2 * (M (rf E a1 3) (x3.toNat)))) - 12000) - (2 * ((vls E M a1 (M (rf E a1 2) (x3.toNat))) - (vls E M a1 (M (rf E a1 2) (x2.toNat))))))), some (.inl v5), some (.inl 0), none] [] M5 Q) : fx_At E m_X7_addGhost 0 [some (.inr a0), some (.inr a1), some (.inl x2), some (.inl x3), none, none, none, none, none, none] [] M Q := by
  refine x_aload_n (pc := 0) dX7_addGhost_0 rfl rfl ?_
  refine x_getr (pc := 1) dX7_addGhost_1 f_RX7_52 hk1 ?_
  refine x_iload_n (pc := 4) dX7_addGhost_4 rfl rfl ?_
  obtain ⟨g1, h⟩ := h
  refine x_iald (pc := 5) dX7_addGhost_5 (wk_8_2 hW hk1) (wl_8_2 hW hk1) g1 ?_
  refine x_istore (pc := 6) (lv' := [some (.inr a0), some (.inr a1), some (.inl x2), some (.inl x3), some (.inl (M (rf E a1 2) (x2.toNat))), none, none, none, none, none]) dX7_addGhost_6 (by decide) rfl ?_
  refine x_aload_n (pc := 8) dX7_addGhost_8 rfl rfl ?_
  refine x_getr (pc := 9) dX7_addGhost_9 f_RX7_52 hk1 ?_
  refine x_iload_n (pc := 12) dX7_addGhost_12 rfl rfl ?_
  obtain ⟨g2, h⟩ := h
  refine x_iald (pc := 13) dX7_addGhost_13 (wk_8_2 hW hk1) (wl_8_2 hW hk1) g2 ?_
  refine x_istore (pc := 14) (lv' := [some (.inr a0), some (.inr a1), some (.inl x2), some (.inl x3), some (.inl (M (rf E a1 2) (x2.toNat))), some (.inl (M (rf E a1 2) (x3.toNat))), none, none, none, none]) dX7_addGhost_14 (by decide) rfl ?_
  refine x_aload_n (pc := 16) dX7_addGhost_16 rfl rfl ?_
  refine x_getr (pc := 17) dX7_addGhost_17 f_RX7_65 hk1 ?_
  refine x_iload_n (pc := 20) dX7_addGhost_20 rfl rfl ?_
  refine x_iald (pc := 21) dX7_addGhost_21 (wk_8_3 hW hk1) (wl_8_3 hW hk1) g1 ?_
  refine x_iconst (pc := 22) dX7_addGhost_22 ?_
  refine x_aload_n (pc := 23) dX7_addGhost_23 rfl rfl ?_
  refine x_getr (pc := 24) dX7_addGhost_24 f_RX7_65 hk1 ?_
  refine x_iload_n (pc := 27) dX7_addGhost_27 rfl rfl ?_
  refine x_iald (pc := 28) dX7_addGhost_28 (wk_8_3 hW hk1) (wl_8_3 hW hk1) g2 ?_
  refine x_imul (pc := 29) dX7_addGhost_29 ?_
  refine x_iadd (pc := 30) dX7_addGhost_30 ?_
  refine x_sipush (pc := 31) dX7_addGhost_31 (by decide +kernel) ?_
  refine x_isub (pc := 34) dX7_addGhost_34 ?_
  refine x_iconst (pc := 35) dX7_addGhost_35 ?_
  refine x_aload_n (pc := 36) dX7_addGhost_36 rfl rfl ?_
  refine x_iload (pc := 37) dX7_addGhost_37 rfl ?_
  obtain ⟨g3, h⟩ := h
  refine x_callV (pc := 39) (z := m_X8_lossUpTo) (b := a1) (as := [.inl (M (rf E a1 2) (x3.toNat))]) (rest := [.inl 2, .inl (((M (rf E a1 3) (x2.toNat)) + (2 * (M (rf E a1 3) (x3.toNat)))) - 12000)]) dX7_addGhost_39 c_RX7_68 (by decide) hk1 rfl (Nat.le_of_ble_eq_true rfl) (ct_X8_lossUpTo hW hk1 g3) (fun r M9 hr => ?_)
  obtain ⟨hM9, hr⟩ := hr
  rw [hM9, hr]
  clear hM9 hr
  show fx_At E m_X7_addGhost 42 [some (.inr a0), some (.inr a1), some (.inl x2), some (.inl x3), some (.inl (M (rf E a1 2) (x2.toNat))), some (.inl (M (rf E a1 2) (x3.toNat))), none, none, none, none] [.inl (vls E M a1 (M (rf E a1 2) (x3.toNat))), .inl 2, .inl (((M (rf E a1 3) (x2.toNat)) + (2 * (M (rf E a1 3) (x3.toNat)))) - 12000)] _ Q
  refine x_aload_n (pc := 42) dX7_addGhost_42 rfl rfl ?_
  refine x_iload (pc := 43) dX7_addGhost_43 rfl ?_
  obtain ⟨g4, h⟩ := h
  refine x_callV (pc := 45) (z := m_X8_lossUpTo) (b := a1) (as := [.inl (M (rf E a1 2) (x2.toNat))]) (rest := [.inl (vls E M a1 (M (rf E a1 2) (x3.toNat))), .inl 2, .inl (((M (rf E a1 3) (x2.toNat)) + (2 * (M (rf E a1 3) (x3.toNat)))) - 12000)]) dX7_addGhost_45 c_RX7_68 (by decide) hk1 rfl (Nat.le_of_ble_eq_true rfl) (ct_X8_lossUpTo hW hk1 g4) (fun r M9 hr => ?_)
  obtain ⟨hM9, hr⟩ := hr
  rw [hM9, hr]
  clear hM9 hr
  show fx_At E m_X7_addGhost 48 [some (.inr a0), some (.inr a1), some (.inl x2), some (.inl x3), some (.inl (M (rf E a1 2) (x2.toNat))), some (.inl (M (rf E a1 2) (x3.toNat))), none, none, none, none] [.inl (vls E M a1 (M (rf E a1 2) (x2.toNat))), .inl (vls E M a1 (M (rf E a1 2) (x3.toNat))), .inl 2, .inl (((M (rf E a1 3) (x2.toNat)) + (2 * (M (rf E a1 3) (x3.toNat)))) - 12000)] _ Q
  refine x_isub (pc := 48) dX7_addGhost_48 ?_
  refine x_imul (pc := 49) dX7_addGhost_49 ?_
  refine x_isub (pc := 50) dX7_addGhost_50 ?_
  refine x_istore (pc := 51) (lv' := [some (.inr a0), some (.inr a1), some (.inl x2), some (.inl x3), some (.inl (M (rf E a1 2) (x2.toNat))), some (.inl (M (rf E a1 2) (x3.toNat))), some (.inl ((((M (rf E a1 3) (x2.toNat)) + (2 * (M (rf E a1 3) (x3.toNat)))) - 12000) - (2 * ((vls E M a1 (M (rf E a1 2) (x3.toNat))) - (vls E M a1 (M (rf E a1 2) (x2.toNat))))))), none, none, none]) dX7_addGhost_51 (by decide) rfl ?_
  refine x_aload_n (pc := 53) dX7_addGhost_53 rfl rfl ?_
  refine x_aload_n (pc := 54) dX7_addGhost_54 rfl rfl ?_
  refine x_iload (pc := 55) dX7_addGhost_55 rfl ?_
  obtain ⟨R5, hc5, h⟩ := h
  refine x_callV (pc := 57) (z := m_X7_levelBefore) (b := a0) (as := [.inr a1, .inl (M (rf E a1 2) (x3.toNat))]) (rest := []) dX7_addGhost_57 c_RX7_55 (by decide) hk0 rfl (Nat.le_of_ble_eq_true rfl) hc5 (fun r M5 hr => ?_)
  obtain ⟨v5, rfl, hr⟩ := hr
  replace h := h v5 M5 hr
  show fx_At E m_X7_addGhost 60 [some (.inr a0), some (.inr a1), some (.inl x2), some (.inl x3), some (.inl (M (rf E a1 2) (x2.toNat))), some (.inl (M (rf E a1 2) (x3.toNat))), some (.inl ((((M (rf E a1 3) (x2.toNat)) + (2 * (M (rf E a1 3) (x3.toNat)))) - 12000) - (2 * ((vls E M a1 (M (rf E a1 2) (x3.toNat))) - (vls E M a1 (M (rf E a1 2) (x2.toNat))))))), none, none, none] [.inl v5] M5 Q
  refine x_istore (pc := 60) (lv' := [some (.inr a0), some (.inr a1), some (.inl x2), some (.inl x3), some (.inl (M (rf E a1 2) (x2.toNat))), some (.inl (M (rf E a1 2) (x3.toNat))), some (.inl ((((M (rf E a1 3) (x2.toNat)) + (2 * (M (rf E a1 3) (x3.toNat)))) - 12000) - (2 * ((vls E M a1 (M (rf E a1 2) (x3.toNat))) - (vls E M a1 (M (rf E a1 2) (x2.toNat))))))), some (.inl v5), none, none]) dX7_addGhost_60 (by decide) rfl ?_
  refine x_iconst (pc := 62) dX7_addGhost_62 ?_
  refine x_istore (pc := 63) (lv' := [some (.inr a0), some (.inr a1), some (.inl x2), some (.inl x3), some (.inl (M (rf E a1 2) (x2.toNat))), some (.inl (M (rf E a1 2) (x3.toNat))), some (.inl ((((M (rf E a1 3) (x2.toNat)) + (2 * (M (rf E a1 3) (x3.toNat)))) - 12000) - (2 * ((vls E M a1 (M (rf E a1 2) (x3.toNat))) - (vls E M a1 (M (rf E a1 2) (x2.toNat))))))), some (.inl v5), some (.inl 0), none]) dX7_addGhost_63 (by decide) rfl ?_
  exact h
set_option maxRecDepth 100000 in
theorem b_X7_addGhost_65 {E : fxE} (hW : fx_Wt E) (a0 : Nat) (a1 : Nat) (x2 : Int) (x3 : Int) (x4 : Int) (x5 : Int) (x6 : Int) (x7 : Int) (x8 : Int) (M : fxM) (Q : Option fxV → fxM → Prop) (hk0 : kd E a0 = 7) (hk1 : kd E a1 = 8) (h : (-2147483648 ≤ x8 ∧ x8 < 2147483648) ∧ (-2147483648 ≤ (M a0 1) ∧ (M a0 1) < 2147483648) ∧ (((M a0 1) ≤ x8 → Q none M) ∧ (¬ (M a0 1) ≤ x8 → (-2147483648 ≤ (x6 - (300 * x8)) ∧ (x6 - (300 * x8)) < 2147483648) ∧ (((0 : Int) < (x6 - (300 * x8)) → ∃ R4 : fxM → Prop, CtV E m_X7_raiseTo [.inr a0, .inl (((2 * x5) - x4) + x8), .inl (x7 + (x6 - (300 * x8)))] M R4 ∧ ∀ M4 : fxM, R4 M4 → fx_At E m_X7_addGhost 65 [some (.inr a0), some (.inr a1), some (.inl x2), some (.inl x3), some (.inl x4), some (.inl x5), some (.inl x6), some (.inl x7), some (.inl (x8 + 1)), none] [] M4 Q) ∧ (¬ (0 : Int) < (x6 - (300 * x8)) → Q none M))))) : fx_At E m_X7_addGhost 65 [some (.inr a0), some (.inr a1), some (.inl x2), some (.inl x3), some (.inl x4), some (.inl x5), some (.inl x6), some (.inl x7), some (.inl x8), none] [] M Q := by
  refine x_iload (pc := 65) dX7_addGhost_65 rfl ?_
  refine x_aload_n (pc := 67) dX7_addGhost_67 rfl rfl ?_
  refine x_geti (pc := 68) dX7_addGhost_68 f_RX7_15 hk0 ?_
  obtain ⟨g1, h⟩ := h
  obtain ⟨g2, h⟩ := h
  refine x_cge (pc := 71) 116 dX7_addGhost_71 (by decide) ⟨g1, g2⟩ (fun hc => ?_) (fun hc => ?_)
  · replace h := h.1 hc
    exact x_vret (pc := 116) dX7_addGhost_116 rfl h
  · replace h := h.2 hc
    refine x_iload (pc := 74) dX7_addGhost_74 rfl ?_
    refine x_sipush (pc := 76) dX7_addGhost_76 (by decide +kernel) ?_
    refine x_iload (pc := 79) dX7_addGhost_79 rfl ?_
    refine x_imul (pc := 81) dX7_addGhost_81 ?_
    refine x_isub (pc := 82) dX7_addGhost_82 ?_
    refine x_istore (pc := 83) (lv' := [some (.inr a0), some (.inr a1), some (.inl x2), some (.inl x3), some (.inl x4), some (.inl x5), some (.inl x6), some (.inl x7), some (.inl x8), some (.inl (x6 - (300 * x8)))]) dX7_addGhost_83 (by decide) rfl ?_
    refine x_iload (pc := 85) dX7_addGhost_85 rfl ?_
    obtain ⟨g3, h⟩ := h
    refine x_zgt (pc := 87) 91 dX7_addGhost_87 (by decide) g3 (fun hc => ?_) (fun hc => ?_)
    · replace h := h.1 hc
      refine x_aload_n (pc := 91) dX7_addGhost_91 rfl rfl ?_
      refine x_iconst (pc := 92) dX7_addGhost_92 ?_
      refine x_iload (pc := 93) dX7_addGhost_93 rfl ?_
      refine x_imul (pc := 95) dX7_addGhost_95 ?_
      refine x_iload (pc := 96) dX7_addGhost_96 rfl ?_
      refine x_isub (pc := 98) dX7_addGhost_98 ?_
      refine x_iload (pc := 99) dX7_addGhost_99 rfl ?_
      refine x_iadd (pc := 101) dX7_addGhost_101 ?_
      refine x_iload (pc := 102) dX7_addGhost_102 rfl ?_
      refine x_iload (pc := 104) dX7_addGhost_104 rfl ?_
      refine x_iadd (pc := 106) dX7_addGhost_106 ?_
      obtain ⟨R4, hc4, h⟩ := h
      refine x_callV (pc := 107) (z := m_X7_raiseTo) (b := a0) (as := [.inl (((2 * x5) - x4) + x8), .inl (x7 + (x6 - (300 * x8)))]) (rest := []) dX7_addGhost_107 c_RX7_37 (by decide) hk0 rfl (Nat.le_of_ble_eq_true rfl) hc4 (fun r M4 hr => ?_)
      obtain ⟨rfl, hr⟩ := hr
      replace h := h M4 hr
      show fx_At E m_X7_addGhost 110 [some (.inr a0), some (.inr a1), some (.inl x2), some (.inl x3), some (.inl x4), some (.inl x5), some (.inl x6), some (.inl x7), some (.inl x8), some (.inl (x6 - (300 * x8)))] [] M4 Q
      refine x_iinc (pc := 110) (lv' := [some (.inr a0), some (.inr a1), some (.inl x2), some (.inl x3), some (.inl x4), some (.inl x5), some (.inl x6), some (.inl x7), some (.inl (x8 + 1)), some (.inl (x6 - (300 * x8)))]) dX7_addGhost_110 rfl (by decide) rfl ?_
      refine x_goto (pc := 113) 65 dX7_addGhost_113 (by decide) ?_
      refine x_weak (lv := [some (.inr a0), some (.inr a1), some (.inl x2), some (.inl x3), some (.inl x4), some (.inl x5), some (.inl x6), some (.inl x7), some (.inl (x8 + 1)), none]) (by simp [lvle]) ?_
      exact h
    · replace h := h.2 hc
      exact x_vret (pc := 90) dX7_addGhost_90 rfl h
theorem dX8_look_0 : decode cX8_look 0 = .ok (.aload_n 0, 1) := by decide +kernel
theorem dX8_look_1 : decode cX8_look 1 = .ok (.iload_n 2, 1) := by decide +kernel
theorem dX8_look_2 : decode cX8_look 2 = .ok (.putfield 28, 3) := by decide +kernel
theorem dX8_look_5 : decode cX8_look 5 = .ok (.aload_n 0, 1) := by decide +kernel
theorem dX8_look_6 : decode cX8_look 6 = .ok (.aload_n 1, 1) := by decide +kernel
theorem dX8_look_7 : decode cX8_look 7 = .ok (.invokevirtual 40, 3) := by decide +kernel
theorem dX8_look_10 : decode cX8_look 10 = .ok (.putfield 31, 3) := by decide +kernel
theorem dX8_look_13 : decode cX8_look 13 = .ok (.aload_n 0, 1) := by decide +kernel
theorem dX8_look_14 : decode cX8_look 14 = .ok (.aload_n 1, 1) := by decide +kernel
theorem dX8_look_15 : decode cX8_look 15 = .ok (.getfield 46, 3) := by decide +kernel
theorem dX8_look_18 : decode cX8_look 18 = .ok (.ifCond .ne 10, 3) := by decide +kernel
theorem dX8_look_21 : decode cX8_look 21 = .ok (.aload_n 0, 1) := by decide +kernel
theorem dX8_look_22 : decode cX8_look 22 = .ok (.getfield 31, 3) := by decide +kernel
theorem dX8_look_25 : decode cX8_look 25 = .ok (.goto 11, 3) := by decide +kernel
theorem dX8_look_28 : decode cX8_look 28 = .ok (.aload_n 0, 1) := by decide +kernel
theorem dX8_look_29 : decode cX8_look 29 = .ok (.aload_n 1, 1) := by decide +kernel
theorem dX8_look_30 : decode cX8_look 30 = .ok (.getfield 46, 3) := by decide +kernel
theorem dX8_look_33 : decode cX8_look 33 = .ok (.invokevirtual 49, 3) := by decide +kernel
theorem dX8_look_36 : decode cX8_look 36 = .ok (.putfield 34, 3) := by decide +kernel
theorem dX8_look_39 : decode cX8_look 39 = .ok (.aload_n 0, 1) := by decide +kernel
theorem dX8_look_40 : decode cX8_look 40 = .ok (.getfield 9, 3) := by decide +kernel
theorem dX8_look_43 : decode cX8_look 43 = .ok (.iconst 0, 1) := by decide +kernel
theorem dX8_look_44 : decode cX8_look 44 = .ok (.invokestatic 53, 3) := by decide +kernel
theorem dX8_look_47 : decode cX8_look 47 = .ok (.aload_n 0, 1) := by decide +kernel
theorem dX8_look_48 : decode cX8_look 48 = .ok (.aload_n 1, 1) := by decide +kernel
theorem dX8_look_49 : decode cX8_look 49 = .ok (.invokevirtual 59, 3) := by decide +kernel
theorem dX8_look_52 : decode cX8_look 52 = .ok (.aload_n 0, 1) := by decide +kernel
theorem dX8_look_53 : decode cX8_look 53 = .ok (.aload_n 1, 1) := by decide +kernel
theorem dX8_look_54 : decode cX8_look 54 = .ok (.invokevirtual 63, 3) := by decide +kernel
theorem dX8_look_57 : decode cX8_look 57 = .ok (.aload_n 0, 1) := by decide +kernel
theorem dX8_look_58 : decode cX8_look 58 = .ok (.aload_n 1, 1) := by decide +kernel
theorem dX8_look_59 : decode cX8_look 59 = .ok (.invokevirtual 66, 3) := by decide +kernel
theorem dX8_look_62 : decode cX8_look 62 = .ok (.iconst 1, 1) := by decide +kernel
theorem dX8_look_63 : decode cX8_look 63 = .ok (.istore_n 3, 1) := by decide +kernel
theorem dX8_look_64 : decode cX8_look 64 = .ok (.iload_n 3, 1) := by decide +kernel
theorem dX8_look_65 : decode cX8_look 65 = .ok (.aload_n 0, 1) := by decide +kernel
theorem dX8_look_66 : decode cX8_look 66 = .ok (.getfield 9, 3) := by decide +kernel
theorem dX8_look_69 : decode cX8_look 69 = .ok (.arraylength, 1) := by decide +kernel
theorem dX8_look_70 : decode cX8_look 70 = .ok (.if_icmp .ge 26, 3) := by decide +kernel
theorem dX8_look_73 : decode cX8_look 73 = .ok (.aload_n 0, 1) := by decide +kernel
theorem dX8_look_74 : decode cX8_look 74 = .ok (.getfield 9, 3) := by decide +kernel
theorem dX8_look_77 : decode cX8_look 77 = .ok (.iload_n 3, 1) := by decide +kernel
theorem dX8_look_78 : decode cX8_look 78 = .ok (.dup2, 1) := by decide +kernel
theorem dX8_look_79 : decode cX8_look 79 = .ok (.iaload, 1) := by decide +kernel
theorem dX8_look_80 : decode cX8_look 80 = .ok (.aload_n 0, 1) := by decide +kernel
theorem dX8_look_81 : decode cX8_look 81 = .ok (.getfield 9, 3) := by decide +kernel
theorem dX8_look_84 : decode cX8_look 84 = .ok (.iload_n 3, 1) := by decide +kernel
theorem dX8_look_85 : decode cX8_look 85 = .ok (.iconst 1, 1) := by decide +kernel
theorem dX8_look_86 : decode cX8_look 86 = .ok (.isub, 1) := by decide +kernel
theorem dX8_look_87 : decode cX8_look 87 = .ok (.iaload, 1) := by decide +kernel
theorem dX8_look_88 : decode cX8_look 88 = .ok (.iadd, 1) := by decide +kernel
theorem dX8_look_89 : decode cX8_look 89 = .ok (.iastore, 1) := by decide +kernel
theorem dX8_look_90 : decode cX8_look 90 = .ok (.iinc 3 1, 3) := by decide +kernel
theorem dX8_look_93 : decode cX8_look 93 = .ok (.goto (-29), 3) := by decide +kernel
theorem dX8_look_96 : decode cX8_look 96 = .ok (.iconst 0, 1) := by decide +kernel
theorem dX8_look_97 : decode cX8_look 97 = .ok (.istore_n 3, 1) := by decide +kernel
theorem dX8_look_98 : decode cX8_look 98 = .ok (.iload_n 3, 1) := by decide +kernel
theorem dX8_look_99 : decode cX8_look 99 = .ok (.aload_n 0, 1) := by decide +kernel
theorem dX8_look_100 : decode cX8_look 100 = .ok (.getfield 31, 3) := by decide +kernel
theorem dX8_look_103 : decode cX8_look 103 = .ok (.if_icmp .ge 33, 3) := by decide +kernel
theorem dX8_look_106 : decode cX8_look 106 = .ok (.iload_n 3, 1) := by decide +kernel
theorem dX8_look_107 : decode cX8_look 107 = .ok (.aload_n 0, 1) := by decide +kernel
theorem dX8_look_108 : decode cX8_look 108 = .ok (.getfield 15, 3) := by decide +kernel
theorem dX8_look_111 : decode cX8_look 111 = .ok (.arraylength, 1) := by decide +kernel
theorem dX8_look_112 : decode cX8_look 112 = .ok (.if_icmp .ge 24, 3) := by decide +kernel
theorem dX8_look_115 : decode cX8_look 115 = .ok (.aload_n 0, 1) := by decide +kernel
theorem dX8_look_116 : decode cX8_look 116 = .ok (.getfield 15, 3) := by decide +kernel
theorem dX8_look_119 : decode cX8_look 119 = .ok (.iload_n 3, 1) := by decide +kernel
theorem dX8_look_120 : decode cX8_look 120 = .ok (.dup2, 1) := by decide +kernel
theorem dX8_look_121 : decode cX8_look 121 = .ok (.iaload, 1) := by decide +kernel
theorem dX8_look_122 : decode cX8_look 122 = .ok (.aload_n 0, 1) := by decide +kernel
theorem dX8_look_123 : decode cX8_look 123 = .ok (.getfield 9, 3) := by decide +kernel
theorem dX8_look_126 : decode cX8_look 126 = .ok (.iload_n 3, 1) := by decide +kernel
theorem dX8_look_127 : decode cX8_look 127 = .ok (.iaload, 1) := by decide +kernel
theorem dX8_look_128 : decode cX8_look 128 = .ok (.isub, 1) := by decide +kernel
theorem dX8_look_129 : decode cX8_look 129 = .ok (.iastore, 1) := by decide +kernel
theorem dX8_look_130 : decode cX8_look 130 = .ok (.iinc 3 1, 3) := by decide +kernel
theorem dX8_look_133 : decode cX8_look 133 = .ok (.goto (-35), 3) := by decide +kernel
theorem dX8_look_136 : decode cX8_look 136 = .ok (.aload_n 1, 1) := by decide +kernel
theorem dX8_look_137 : decode cX8_look 137 = .ok (.getfield 46, 3) := by decide +kernel
theorem dX8_look_140 : decode cX8_look 140 = .ok (.ifCond .eq 15, 3) := by decide +kernel
theorem dX8_look_143 : decode cX8_look 143 = .ok (.aload_n 0, 1) := by decide +kernel
theorem dX8_look_144 : decode cX8_look 144 = .ok (.aload_n 0, 1) := by decide +kernel
theorem dX8_look_145 : decode cX8_look 145 = .ok (.getfield 34, 3) := by decide +kernel
theorem dX8_look_148 : decode cX8_look 148 = .ok (.aload_n 1, 1) := by decide +kernel
theorem dX8_look_149 : decode cX8_look 149 = .ok (.getfield 69, 3) := by decide +kernel
theorem dX8_look_152 : decode cX8_look 152 = .ok (.invokevirtual 72, 3) := by decide +kernel
theorem dX8_look_155 : decode cX8_look 155 = .ok (.return_, 1) := by decide +kernel
set_option maxRecDepth 100000 in
theorem b_X8_look_0 {E : fxE} (hW : fx_Wt E) (a0 : Nat) (a1 : Nat) (x2 : Int) (M : fxM) (Q : Option fxV → fxM → Prop) (hk0 : kd E a0 = 8) (hk1 : kd E a1 = 2) (h : ∀ M1 : fxM, M1 = mset M a0 5 x2 → (0 ≤ M1 a1 3 ∧ M1 a1 3 ≤ 8) ∧ ∀ M3 : fxM, M3 = mset M1 a0 6 (fsum E M1 a1 (M1 a1 3).toNat) → (-2147483648 ≤ (M3 a1 9) ∧ (M3 a1 9) < 2147483648) ∧ ((¬ (M3 a1 9) = (0 : Int) → ∃ R5 : Int → fxM → Prop, CtI E m_X8_distanceOf [.inr a0, .inl (M3 a1 9)] M3 R5 ∧ ∀ (v5 : Int) (M5 : fxM), R5 v5 M5 → fx_At E m_X8_look 36 [some (.inr a0), some (.inr a1), some (.inl x2), none] [.inl v5, .inr a0] M5 Q) ∧ ((M3 a1 9) = (0 : Int) → fx_At E m_X8_look 36 [some (.inr a0), some (.inr a1), some (.inl x2), none] [.inl (M3 a0 6), .inr a0] M3 Q))) : fx_At E m_X8_look 0 [some (.inr a0), some (.inr a1), some (.inl x2), none] [] M Q := by
  refine x_aload_n (pc := 0) dX8_look_0 rfl rfl ?_
  refine x_iload_n (pc := 1) dX8_look_1 rfl rfl ?_
  refine x_puti (pc := 2) dX8_look_2 f_RX8_28 hk0 (fun M1 hM1 => ?_)
  replace h := h M1 hM1
  refine x_aload_n (pc := 5) dX8_look_5 rfl rfl ?_
  refine x_aload_n (pc := 6) dX8_look_6 rfl rfl ?_
  obtain ⟨g2, h⟩ := h
  refine x_callV (pc := 7) (z := m_X2_totalLength) (b := a1) (as := []) (rest := [.inr a0]) dX8_look_7 c_RX8_40 (by decide) hk1 rfl (Nat.le_of_ble_eq_true rfl) (ct_X2_totalLength hW hk1 g2) (fun r M9 hr => ?_)
  obtain ⟨hM9, hr⟩ := hr
  rw [hM9, hr]
  clear hM9 hr
  show fx_At E m_X8_look 10 [some (.inr a0), some (.inr a1), some (.inl x2), none] [.inl (fsum E M1 a1 (M1 a1 3).toNat), .inr a0] _ Q
  refine x_puti (pc := 10) dX8_look_10 f_RX8_31 hk0 (fun M3 hM3 => ?_)
  replace h := h M3 hM3
  refine x_aload_n (pc := 13) dX8_look_13 rfl rfl ?_
  refine x_aload_n (pc := 14) dX8_look_14 rfl rfl ?_
  refine x_geti (pc := 15) dX8_look_15 f_RX8_46 hk1 ?_
  obtain ⟨g4, h⟩ := h
  refine x_zne (pc := 18) 28 dX8_look_18 (by decide) g4 (fun hc => ?_) (fun hc => ?_)
  · replace h := h.1 hc
    refine x_aload_n (pc := 28) dX8_look_28 rfl rfl ?_
    refine x_aload_n (pc := 29) dX8_look_29 rfl rfl ?_
    refine x_geti (pc := 30) dX8_look_30 f_RX8_46 hk1 ?_
    obtain ⟨R5, hc5, h⟩ := h
    refine x_callV (pc := 33) (z := m_X8_distanceOf) (b := a0) (as := [.inl (M3 a1 9)]) (rest := [.inr a0]) dX8_look_33 c_RX8_49 (by decide) hk0 rfl (Nat.le_of_ble_eq_true rfl) hc5 (fun r M5 hr => ?_)
    obtain ⟨v5, rfl, hr⟩ := hr
    replace h := h v5 M5 hr
    show fx_At E m_X8_look 36 [some (.inr a0), some (.inr a1), some (.inl x2), none] [.inl v5, .inr a0] M5 Q
    exact h
  · replace h := h.2 hc
    refine x_aload_n (pc := 21) dX8_look_21 rfl rfl ?_
    refine x_geti (pc := 22) dX8_look_22 f_RX8_31 hk0 ?_
    refine x_goto (pc := 25) 36 dX8_look_25 (by decide) ?_
    exact h
set_option maxRecDepth 100000 in
theorem b_X8_look_36 {E : fxE} (hW : fx_Wt E) (a0 : Nat) (a1 : Nat) (x2 : Int) (b0 : Nat) (s1 : Int) (M : fxM) (Q : Option fxV → fxM → Prop) (hk0 : kd E a0 = 8) (hk1 : kd E a1 = 2) (hs0 : kd E b0 = 8) (h : ∀ M1 : fxM, M1 = mset M b0 7 s1 → ∃ R2 : fxM → Prop, CtV E m_J7_fill_53178 [.inr (rf E a0 0), .inl 0] M1 R2 ∧ ∀ M2 : fxM, R2 M2 → ∃ R3 : fxM → Prop, CtV E m_X8_lookAtUnits [.inr a0, .inr a1] M2 R3 ∧ ∀ M3 : fxM, R3 M3 → ∃ R4 : fxM → Prop, CtV E m_X8_lookAtBends [.inr a0, .inr a1] M3 R4 ∧ ∀ M4 : fxM, R4 M4 → ∃ R5 : fxM → Prop, CtV E m_X8_lookAtJoints [.inr a0, .inr a1] M4 R5 ∧ ∀ M5 : fxM, R5 M5 → fx_At E m_X8_look 64 [some (.inr a0), some (.inr a1), some (.inl x2), some (.inl 1)] [] M5 Q) : fx_At E m_X8_look 36 [some (.inr a0), some (.inr a1), some (.inl x2), none] [.inl s1, .inr b0] M Q := by
  refine x_puti (pc := 36) dX8_look_36 f_RX8_34 hs0 (fun M1 hM1 => ?_)
  replace h := h M1 hM1
  refine x_aload_n (pc := 39) dX8_look_39 rfl rfl ?_
  refine x_getr (pc := 40) dX8_look_40 f_RX8_9 hk0 ?_
  refine x_iconst (pc := 43) dX8_look_43 ?_
  obtain ⟨R2, hc2, h⟩ := h
  refine x_callS (pc := 44) (z := m_J7_fill_53178) (as := [.inr (rf E a0 0), .inl 0]) (rest := []) dX8_look_44 c_RX8_53 (by decide) rfl (Nat.le_of_ble_eq_true rfl) hc2 (fun r M2 hr => ?_)
  obtain ⟨rfl, hr⟩ := hr
  replace h := h M2 hr
  show fx_At E m_X8_look 47 [some (.inr a0), some (.inr a1), some (.inl x2), none] [] M2 Q
  refine x_aload_n (pc := 47) dX8_look_47 rfl rfl ?_
  refine x_aload_n (pc := 48) dX8_look_48 rfl rfl ?_
  obtain ⟨R3, hc3, h⟩ := h
  refine x_callV (pc := 49) (z := m_X8_lookAtUnits) (b := a0) (as := [.inr a1]) (rest := []) dX8_look_49 c_RX8_59 (by decide) hk0 rfl (Nat.le_of_ble_eq_true rfl) hc3 (fun r M3 hr => ?_)
  obtain ⟨rfl, hr⟩ := hr
  replace h := h M3 hr
  show fx_At E m_X8_look 52 [some (.inr a0), some (.inr a1), some (.inl x2), none] [] M3 Q
  refine x_aload_n (pc := 52) dX8_look_52 rfl rfl ?_
  refine x_aload_n (pc := 53) dX8_look_53 rfl rfl ?_
  obtain ⟨R4, hc4, h⟩ := h
  refine x_callV (pc := 54) (z := m_X8_lookAtBends) (b := a0) (as := [.inr a1]) (rest := []) dX8_look_54 c_RX8_63 (by decide) hk0 rfl (Nat.le_of_ble_eq_true rfl) hc4 (fun r M4 hr => ?_)
  obtain ⟨rfl, hr⟩ := hr
  replace h := h M4 hr
  show fx_At E m_X8_look 57 [some (.inr a0), some (.inr a1), some (.inl x2), none] [] M4 Q
  refine x_aload_n (pc := 57) dX8_look_57 rfl rfl ?_
  refine x_aload_n (pc := 58) dX8_look_58 rfl rfl ?_
  obtain ⟨R5, hc5, h⟩ := h
  refine x_callV (pc := 59) (z := m_X8_lookAtJoints) (b := a0) (as := [.inr a1]) (rest := []) dX8_look_59 c_RX8_66 (by decide) hk0 rfl (Nat.le_of_ble_eq_true rfl) hc5 (fun r M5 hr => ?_)
  obtain ⟨rfl, hr⟩ := hr
  replace h := h M5 hr
  show fx_At E m_X8_look 62 [some (.inr a0), some (.inr a1), some (.inl x2), none] [] M5 Q
  refine x_iconst (pc := 62) dX8_look_62 ?_
  refine x_istore_n (pc := 63) (lv' := [some (.inr a0), some (.inr a1), some (.inl x2), some (.inl 1)]) dX8_look_63 rfl (by decide) rfl ?_
  exact h
set_option maxRecDepth 100000 in
theorem b_X8_look_64 {E : fxE} (hW : fx_Wt E) (a0 : Nat) (a1 : Nat) (x2 : Int) (x3 : Int) (M : fxM) (Q : Option fxV → fxM → Prop) (hk0 : kd E a0 = 8) (hk1 : kd E a1 = 2) (h : (-2147483648 ≤ x3 ∧ x3 < 2147483648) ∧ (((301 : Int) ≤ x3 → fx_At E m_X8_look 98 [some (.inr a0), some (.inr a1), some (.inl x2), some (.inl 0)] [] M Q) ∧ (¬ (301 : Int) ≤ x3 → (0 ≤ x3 ∧ x3 < 301) ∧ (0 ≤ (x3 - 1) ∧ (x3 - 1) < 301) ∧ ∀ M4 : fxM, M4 = mset M (rf E a0 0) (x3.toNat) ((M (rf E a0 0) (x3.toNat)) + (M (rf E a0 0) ((x3 - 1).toNat))) → fx_At E m_X8_look 64 [some (.inr a0), some (.inr a1), some (.inl x2), some (.inl (x3 + 1))] [] M4 Q))) : fx_At E m_X8_look 64 [some (.inr a0), some (.inr a1), some (.inl x2), some (.inl x3)] [] M Q := by
  refine x_iload_n (pc := 64) dX8_look_64 rfl rfl ?_
  refine x_aload_n (pc := 65) dX8_look_65 rfl rfl ?_
  refine x_getr (pc := 66) dX8_look_66 f_RX8_9 hk0 ?_
  refine x_alen (pc := 69) dX8_look_69 (wk_8_0 hW hk0) (by decide) (by decide) (wl_8_0 hW hk0) ?_
  obtain ⟨g1, h⟩ := h
  refine x_cge (pc := 70) 96 dX8_look_70 (by decide) ⟨g1, ⟨by decide, by decide⟩⟩ (fun hc => ?_) (fun hc => ?_)
  · replace h := h.1 hc
    refine x_iconst (pc := 96) dX8_look_96 ?_
    refine x_istore_n (pc := 97) (lv' := [some (.inr a0), some (.inr a1), some (.inl x2), some (.inl 0)]) dX8_look_97 rfl (by decide) rfl ?_
    exact h
  · replace h := h.2 hc
    refine x_aload_n (pc := 73) dX8_look_73 rfl rfl ?_
    refine x_getr (pc := 74) dX8_look_74 f_RX8_9 hk0 ?_
    refine x_iload_n (pc := 77) dX8_look_77 rfl rfl ?_
    refine x_dup2 (pc := 78) dX8_look_78 ?_
    obtain ⟨g2, h⟩ := h
    refine x_iald (pc := 79) dX8_look_79 (wk_8_0 hW hk0) (wl_8_0 hW hk0) g2 ?_
    refine x_aload_n (pc := 80) dX8_look_80 rfl rfl ?_
    refine x_getr (pc := 81) dX8_look_81 f_RX8_9 hk0 ?_
    refine x_iload_n (pc := 84) dX8_look_84 rfl rfl ?_
    refine x_iconst (pc := 85) dX8_look_85 ?_
    refine x_isub (pc := 86) dX8_look_86 ?_
    obtain ⟨g3, h⟩ := h
    refine x_iald (pc := 87) dX8_look_87 (wk_8_0 hW hk0) (wl_8_0 hW hk0) g3 ?_
    refine x_iadd (pc := 88) dX8_look_88 ?_
    refine x_iast (pc := 89) dX8_look_89 (wk_8_0 hW hk0) (wl_8_0 hW hk0) g2 (fun M4 hM4 => ?_)
    replace h := h M4 hM4
    refine x_iinc (pc := 90) (lv' := [some (.inr a0), some (.inr a1), some (.inl x2), some (.inl (x3 + 1))]) dX8_look_90 rfl (by decide) rfl ?_
    refine x_goto (pc := 93) 64 dX8_look_93 (by decide) ?_
    exact h
set_option maxRecDepth 100000 in
theorem b_X8_look_98 {E : fxE} (hW : fx_Wt E) (a0 : Nat) (a1 : Nat) (x2 : Int) (x3 : Int) (M : fxM) (Q : Option fxV → fxM → Prop) (hk0 : kd E a0 = 8) (hk1 : kd E a1 = 2) (h : (-2147483648 ≤ x3 ∧ x3 < 2147483648) ∧ (-2147483648 ≤ (M a0 6) ∧ (M a0 6) < 2147483648) ∧ (((M a0 6) ≤ x3 → (-2147483648 ≤ (M a1 9) ∧ (M a1 9) < 2147483648) ∧ (((M a1 9) = (0 : Int) → Q none M) ∧ (¬ (M a1 9) = (0 : Int) → ∃ R4 : fxM → Prop, CtV E m_X8_addReflector [.inr a0, .inl (M a0 7), .inl (M a1 10)] M R4 ∧ ∀ M4 : fxM, R4 M4 → Q none M4))) ∧ (¬ (M a0 6) ≤ x3 → (((300 : Int) ≤ x3 → (-2147483648 ≤ (M a1 9) ∧ (M a1 9) < 2147483648) ∧ (((M a1 9) = (0 : Int) → Q none M) ∧ (¬ (M a1 9) = (0 : Int) → ∃ R6 : fxM → Prop, CtV E m_X8_addReflector [.inr a0, .inl (M a0 7), .inl (M a1 10)] M R6 ∧ ∀ M6 : fxM, R6 M6 → Q none M6))) ∧ (¬ (300 : Int) ≤ x3 → (0 ≤ x3 ∧ x3 < 300) ∧ (0 ≤ x3 ∧ x3 < 301) ∧ ∀ M9 : fxM, M9 = mset M (rf E a0 1) (x3.toNat) ((M (rf E a0 1) (x3.toNat)) - (M (rf E a0 0) (x3.toNat))) → fx_At E m_X8_look 98 [some (.inr a0), some (.inr a1), some (.inl x2), some (.inl (x3 + 1))] [] M9 Q))))) : fx_At E m_X8_look 98 [some (.inr a0), some (.inr a1), some (.inl x2), some (.inl x3)] [] M Q := by
  refine x_iload_n (pc := 98) dX8_look_98 rfl rfl ?_
  refine x_aload_n (pc := 99) dX8_look_99 rfl rfl ?_
  refine x_geti (pc := 100) dX8_look_100 f_RX8_31 hk0 ?_
  obtain ⟨g1, h⟩ := h
  obtain ⟨g2, h⟩ := h
  refine x_cge (pc := 103) 136 dX8_look_103 (by decide) ⟨g1, g2⟩ (fun hc => ?_) (fun hc => ?_)
  · replace h := h.1 hc
    refine x_aload_n (pc := 136) dX8_look_136 rfl rfl ?_
    refine x_geti (pc := 137) dX8_look_137 f_RX8_46 hk1 ?_
    obtain ⟨g3, h⟩ := h
    refine x_zeq (pc := 140) 155 dX8_look_140 (by decide) g3 (fun hc => ?_) (fun hc => ?_)
    · replace h := h.1 hc
      exact x_vret (pc := 155) dX8_look_155 rfl h
    · replace h := h.2 hc
      refine x_aload_n (pc := 143) dX8_look_143 rfl rfl ?_
      refine x_aload_n (pc := 144) dX8_look_144 rfl rfl ?_
      refine x_geti (pc := 145) dX8_look_145 f_RX8_34 hk0 ?_
      refine x_aload_n (pc := 148) dX8_look_148 rfl rfl ?_
      refine x_geti (pc := 149) dX8_look_149 f_RX8_69 hk1 ?_
      obtain ⟨R4, hc4, h⟩ := h
      refine x_callV (pc := 152) (z := m_X8_addReflector) (b := a0) (as := [.inl (M a0 7), .inl (M a1 10)]) (rest := []) dX8_look_152 c_RX8_72 (by decide) hk0 rfl (Nat.le_of_ble_eq_true rfl) hc4 (fun r M4 hr => ?_)
      obtain ⟨rfl, hr⟩ := hr
      replace h := h M4 hr
      show fx_At E m_X8_look 155 [some (.inr a0), some (.inr a1), some (.inl x2), some (.inl x3)] [] M4 Q
      exact x_vret (pc := 155) dX8_look_155 rfl h
  · replace h := h.2 hc
    refine x_iload_n (pc := 106) dX8_look_106 rfl rfl ?_
    refine x_aload_n (pc := 107) dX8_look_107 rfl rfl ?_
    refine x_getr (pc := 108) dX8_look_108 f_RX8_15 hk0 ?_
    refine x_alen (pc := 111) dX8_look_111 (wk_8_1 hW hk0) (by decide) (by decide) (wl_8_1 hW hk0) ?_
    refine x_cge (pc := 112) 136 dX8_look_112 (by decide) ⟨g1, ⟨by decide, by decide⟩⟩ (fun hc => ?_) (fun hc => ?_)
    · replace h := h.1 hc
      refine x_aload_n (pc := 136) dX8_look_136 rfl rfl ?_
      refine x_geti (pc := 137) dX8_look_137 f_RX8_46 hk1 ?_
      obtain ⟨g5, h⟩ := h
      refine x_zeq (pc := 140) 155 dX8_look_140 (by decide) g5 (fun hc => ?_) (fun hc => ?_)
      · replace h := h.1 hc
        exact x_vret (pc := 155) dX8_look_155 rfl h
      · replace h := h.2 hc
        refine x_aload_n (pc := 143) dX8_look_143 rfl rfl ?_
        refine x_aload_n (pc := 144) dX8_look_144 rfl rfl ?_
        refine x_geti (pc := 145) dX8_look_145 f_RX8_34 hk0 ?_
        refine x_aload_n (pc := 148) dX8_look_148 rfl rfl ?_
        refine x_geti (pc := 149) dX8_look_149 f_RX8_69 hk1 ?_
        obtain ⟨R6, hc6, h⟩ := h
        refine x_callV (pc := 152) (z := m_X8_addReflector) (b := a0) (as := [.inl (M a0 7), .inl (M a1 10)]) (rest := []) dX8_look_152 c_RX8_72 (by decide) hk0 rfl (Nat.le_of_ble_eq_true rfl) hc6 (fun r M6 hr => ?_)
        obtain ⟨rfl, hr⟩ := hr
        replace h := h M6 hr
        show fx_At E m_X8_look 155 [some (.inr a0), some (.inr a1), some (.inl x2), some (.inl x3)] [] M6 Q
        exact x_vret (pc := 155) dX8_look_155 rfl h
    · replace h := h.2 hc
      refine x_aload_n (pc := 115) dX8_look_115 rfl rfl ?_
      refine x_getr (pc := 116) dX8_look_116 f_RX8_15 hk0 ?_
      refine x_iload_n (pc := 119) dX8_look_119 rfl rfl ?_
      refine x_dup2 (pc := 120) dX8_look_120 ?_
      obtain ⟨g7, h⟩ := h
      refine x_iald (pc := 121) dX8_look_121 (wk_8_1 hW hk0) (wl_8_1 hW hk0) g7 ?_
      refine x_aload_n (pc := 122) dX8_look_122 rfl rfl ?_
      refine x_getr (pc := 123) dX8_look_123 f_RX8_9 hk0 ?_
      refine x_iload_n (pc := 126) dX8_look_126 rfl rfl ?_
      obtain ⟨g8, h⟩ := h
      refine x_iald (pc := 127) dX8_look_127 (wk_8_0 hW hk0) (wl_8_0 hW hk0) g8 ?_
      refine x_isub (pc := 128) dX8_look_128 ?_
      refine x_iast (pc := 129) dX8_look_129 (wk_8_1 hW hk0) (wl_8_1 hW hk0) g7 (fun M9 hM9 => ?_)
      replace h := h M9 hM9
      refine x_iinc (pc := 130) (lv' := [some (.inr a0), some (.inr a1), some (.inl x2), some (.inl (x3 + 1))]) dX8_look_130 rfl (by decide) rfl ?_
      refine x_goto (pc := 133) 98 dX8_look_133 (by decide) ?_
      exact h
theorem dX8_distanceOf_0 : decode cX8_distanceOf 0 = .ok (.aload_n 0, 1) := by decide +kernel
theorem dX8_distanceOf_1 : decode cX8_distanceOf 1 = .ok (.getfield 28, 3) := by decide +kernel
theorem dX8_distanceOf_4 : decode cX8_distanceOf 4 = .ok (.ifCond .ne 7, 3) := by decide +kernel
theorem dX8_distanceOf_7 : decode cX8_distanceOf 7 = .ok (.iload_n 1, 1) := by decide +kernel
theorem dX8_distanceOf_8 : decode cX8_distanceOf 8 = .ok (.goto 9, 3) := by decide +kernel
theorem dX8_distanceOf_11 : decode cX8_distanceOf 11 = .ok (.aload_n 0, 1) := by decide +kernel
theorem dX8_distanceOf_12 : decode cX8_distanceOf 12 = .ok (.getfield 31, 3) := by decide +kernel
theorem dX8_distanceOf_15 : decode cX8_distanceOf 15 = .ok (.iload_n 1, 1) := by decide +kernel
theorem dX8_distanceOf_16 : decode cX8_distanceOf 16 = .ok (.isub, 1) := by decide +kernel
theorem dX8_distanceOf_17 : decode cX8_distanceOf 17 = .ok (.ireturn, 1) := by decide +kernel
set_option maxRecDepth 100000 in
theorem b_X8_distanceOf_0 {E : fxE} (hW : fx_Wt E) (a0 : Nat) (x1 : Int) (M : fxM) (Q : Option fxV → fxM → Prop) (hk0 : kd E a0 = 8) (h : (-2147483648 ≤ (M a0 5) ∧ (M a0 5) < 2147483648) ∧ ((¬ (M a0 5) = (0 : Int) → Q (some (.inl ((M a0 6) - x1))) M) ∧ ((M a0 5) = (0 : Int) → Q (some (.inl x1)) M))) : fx_At E m_X8_distanceOf 0 [some (.inr a0), some (.inl x1)] [] M Q := by
  refine x_aload_n (pc := 0) dX8_distanceOf_0 rfl rfl ?_
  refine x_geti (pc := 1) dX8_distanceOf_1 f_RX8_28 hk0 ?_
  obtain ⟨g1, h⟩ := h
  refine x_zne (pc := 4) 11 dX8_distanceOf_4 (by decide) g1 (fun hc => ?_) (fun hc => ?_)
  · replace h := h.1 hc
    refine x_aload_n (pc := 11) dX8_distanceOf_11 rfl rfl ?_
    refine x_geti (pc := 12) dX8_distanceOf_12 f_RX8_31 hk0 ?_
    refine x_iload_n (pc := 15) dX8_distanceOf_15 rfl rfl ?_
    refine x_isub (pc := 16) dX8_distanceOf_16 ?_
    exact x_iret (pc := 17) dX8_distanceOf_17 (Or.inl rfl) h
  · replace h := h.2 hc
    refine x_iload_n (pc := 7) dX8_distanceOf_7 rfl rfl ?_
    refine x_goto (pc := 8) 17 dX8_distanceOf_8 (by decide) ?_
    exact x_iret (pc := 17) dX8_distanceOf_17 (Or.inl rfl) h
theorem dX8_lookAtUnits_0 : decode cX8_lookAtUnits 0 = .ok (.iconst 0, 1) := by decide +kernel
theorem dX8_lookAtUnits_1 : decode cX8_lookAtUnits 1 = .ok (.istore_n 2, 1) := by decide +kernel
theorem dX8_lookAtUnits_2 : decode cX8_lookAtUnits 2 = .ok (.iconst 0, 1) := by decide +kernel
theorem dX8_lookAtUnits_3 : decode cX8_lookAtUnits 3 = .ok (.istore_n 3, 1) := by decide +kernel
theorem dX8_lookAtUnits_4 : decode cX8_lookAtUnits 4 = .ok (.iload_n 3, 1) := by decide +kernel
theorem dX8_lookAtUnits_5 : decode cX8_lookAtUnits 5 = .ok (.aload_n 1, 1) := by decide +kernel
theorem dX8_lookAtUnits_6 : decode cX8_lookAtUnits 6 = .ok (.getfield 76, 3) := by decide +kernel
theorem dX8_lookAtUnits_9 : decode cX8_lookAtUnits 9 = .ok (.if_icmp .ge 103, 3) := by decide +kernel
theorem dX8_lookAtUnits_12 : decode cX8_lookAtUnits 12 = .ok (.iconst 0, 1) := by decide +kernel
theorem dX8_lookAtUnits_13 : decode cX8_lookAtUnits 13 = .ok (.istore 4, 2) := by decide +kernel
theorem dX8_lookAtUnits_15 : decode cX8_lookAtUnits 15 = .ok (.iload 4, 2) := by decide +kernel
theorem dX8_lookAtUnits_17 : decode cX8_lookAtUnits 17 = .ok (.aload_n 1, 1) := by decide +kernel
theorem dX8_lookAtUnits_18 : decode cX8_lookAtUnits 18 = .ok (.getfield 79, 3) := by decide +kernel
theorem dX8_lookAtUnits_21 : decode cX8_lookAtUnits 21 = .ok (.iload_n 3, 1) := by decide +kernel
theorem dX8_lookAtUnits_22 : decode cX8_lookAtUnits 22 = .ok (.iaload, 1) := by decide +kernel
theorem dX8_lookAtUnits_23 : decode cX8_lookAtUnits 23 = .ok (.if_icmp .ge 83, 3) := by decide +kernel
theorem dX8_lookAtUnits_26 : decode cX8_lookAtUnits 26 = .ok (.aload_n 0, 1) := by decide +kernel
theorem dX8_lookAtUnits_27 : decode cX8_lookAtUnits 27 = .ok (.getfield 28, 3) := by decide +kernel
theorem dX8_lookAtUnits_30 : decode cX8_lookAtUnits 30 = .ok (.ifCond .ne 7, 3) := by decide +kernel
theorem dX8_lookAtUnits_33 : decode cX8_lookAtUnits 33 = .ok (.iload_n 2, 1) := by decide +kernel
theorem dX8_lookAtUnits_34 : decode cX8_lookAtUnits 34 = .ok (.goto 11, 3) := by decide +kernel
theorem dX8_lookAtUnits_37 : decode cX8_lookAtUnits 37 = .ok (.aload_n 0, 1) := by decide +kernel
theorem dX8_lookAtUnits_38 : decode cX8_lookAtUnits 38 = .ok (.getfield 31, 3) := by decide +kernel
theorem dX8_lookAtUnits_41 : decode cX8_lookAtUnits 41 = .ok (.iconst 1, 1) := by decide +kernel
theorem dX8_lookAtUnits_42 : decode cX8_lookAtUnits 42 = .ok (.isub, 1) := by decide +kernel
theorem dX8_lookAtUnits_43 : decode cX8_lookAtUnits 43 = .ok (.iload_n 2, 1) := by decide +kernel
theorem dX8_lookAtUnits_44 : decode cX8_lookAtUnits 44 = .ok (.isub, 1) := by decide +kernel
theorem dX8_lookAtUnits_45 : decode cX8_lookAtUnits 45 = .ok (.istore 5, 2) := by decide +kernel
theorem dX8_lookAtUnits_47 : decode cX8_lookAtUnits 47 = .ok (.iload 5, 2) := by decide +kernel
theorem dX8_lookAtUnits_49 : decode cX8_lookAtUnits 49 = .ok (.ifCond .lt 48, 3) := by decide +kernel
theorem dX8_lookAtUnits_52 : decode cX8_lookAtUnits 52 = .ok (.iload 5, 2) := by decide +kernel
theorem dX8_lookAtUnits_54 : decode cX8_lookAtUnits 54 = .ok (.aload_n 0, 1) := by decide +kernel
theorem dX8_lookAtUnits_55 : decode cX8_lookAtUnits 55 = .ok (.getfield 15, 3) := by decide +kernel
theorem dX8_lookAtUnits_58 : decode cX8_lookAtUnits 58 = .ok (.arraylength, 1) := by decide +kernel
theorem dX8_lookAtUnits_59 : decode cX8_lookAtUnits 59 = .ok (.if_icmp .ge 38, 3) := by decide +kernel
theorem dX8_lookAtUnits_62 : decode cX8_lookAtUnits 62 = .ok (.aload_n 0, 1) := by decide +kernel
theorem dX8_lookAtUnits_63 : decode cX8_lookAtUnits 63 = .ok (.getfield 15, 3) := by decide +kernel
theorem dX8_lookAtUnits_66 : decode cX8_lookAtUnits 66 = .ok (.iload 5, 2) := by decide +kernel
theorem dX8_lookAtUnits_68 : decode cX8_lookAtUnits 68 = .ok (.sipush 30000, 3) := by decide +kernel
theorem dX8_lookAtUnits_71 : decode cX8_lookAtUnits 71 = .ok (.aload_n 1, 1) := by decide +kernel
theorem dX8_lookAtUnits_72 : decode cX8_lookAtUnits 72 = .ok (.getfield 82, 3) := by decide +kernel
theorem dX8_lookAtUnits_75 : decode cX8_lookAtUnits 75 = .ok (.iload_n 3, 1) := by decide +kernel
theorem dX8_lookAtUnits_76 : decode cX8_lookAtUnits 76 = .ok (.iaload, 1) := by decide +kernel
theorem dX8_lookAtUnits_77 : decode cX8_lookAtUnits 77 = .ok (.iadd, 1) := by decide +kernel
theorem dX8_lookAtUnits_78 : decode cX8_lookAtUnits 78 = .ok (.iastore, 1) := by decide +kernel
theorem dX8_lookAtUnits_79 : decode cX8_lookAtUnits 79 = .ok (.aload_n 0, 1) := by decide +kernel
theorem dX8_lookAtUnits_80 : decode cX8_lookAtUnits 80 = .ok (.getfield 9, 3) := by decide +kernel
theorem dX8_lookAtUnits_83 : decode cX8_lookAtUnits 83 = .ok (.iload 5, 2) := by decide +kernel
theorem dX8_lookAtUnits_85 : decode cX8_lookAtUnits 85 = .ok (.iconst 1, 1) := by decide +kernel
theorem dX8_lookAtUnits_86 : decode cX8_lookAtUnits 86 = .ok (.iadd, 1) := by decide +kernel
theorem dX8_lookAtUnits_87 : decode cX8_lookAtUnits 87 = .ok (.dup2, 1) := by decide +kernel
theorem dX8_lookAtUnits_88 : decode cX8_lookAtUnits 88 = .ok (.iaload, 1) := by decide +kernel
theorem dX8_lookAtUnits_89 : decode cX8_lookAtUnits 89 = .ok (.aload_n 1, 1) := by decide +kernel
theorem dX8_lookAtUnits_90 : decode cX8_lookAtUnits 90 = .ok (.getfield 85, 3) := by decide +kernel
theorem dX8_lookAtUnits_93 : decode cX8_lookAtUnits 93 = .ok (.iload_n 3, 1) := by decide +kernel
theorem dX8_lookAtUnits_94 : decode cX8_lookAtUnits 94 = .ok (.iaload, 1) := by decide +kernel
theorem dX8_lookAtUnits_95 : decode cX8_lookAtUnits 95 = .ok (.iadd, 1) := by decide +kernel
theorem dX8_lookAtUnits_96 : decode cX8_lookAtUnits 96 = .ok (.iastore, 1) := by decide +kernel
theorem dX8_lookAtUnits_97 : decode cX8_lookAtUnits 97 = .ok (.iinc 2 1, 3) := by decide +kernel
theorem dX8_lookAtUnits_100 : decode cX8_lookAtUnits 100 = .ok (.iinc 4 1, 3) := by decide +kernel
theorem dX8_lookAtUnits_103 : decode cX8_lookAtUnits 103 = .ok (.goto (-88), 3) := by decide +kernel
theorem dX8_lookAtUnits_106 : decode cX8_lookAtUnits 106 = .ok (.iinc 3 1, 3) := by decide +kernel
theorem dX8_lookAtUnits_109 : decode cX8_lookAtUnits 109 = .ok (.goto (-105), 3) := by decide +kernel
theorem dX8_lookAtUnits_112 : decode cX8_lookAtUnits 112 = .ok (.return_, 1) := by decide +kernel
set_option maxRecDepth 100000 in
theorem b_X8_lookAtUnits_0 {E : fxE} (hW : fx_Wt E) (a0 : Nat) (a1 : Nat) (M : fxM) (Q : Option fxV → fxM → Prop) (hk0 : kd E a0 = 8) (hk1 : kd E a1 = 2) (h : fx_At E m_X8_lookAtUnits 4 [some (.inr a0), some (.inr a1), some (.inl 0), some (.inl 0), none, none] [] M Q) : fx_At E m_X8_lookAtUnits 0 [some (.inr a0), some (.inr a1), none, none, none, none] [] M Q := by
  refine x_iconst (pc := 0) dX8_lookAtUnits_0 ?_
  refine x_istore_n (pc := 1) (lv' := [some (.inr a0), some (.inr a1), some (.inl 0), none, none, none]) dX8_lookAtUnits_1 rfl (by decide) rfl ?_
  refine x_iconst (pc := 2) dX8_lookAtUnits_2 ?_
  refine x_istore_n (pc := 3) (lv' := [some (.inr a0), some (.inr a1), some (.inl 0), some (.inl 0), none, none]) dX8_lookAtUnits_3 rfl (by decide) rfl ?_
  exact h
set_option maxRecDepth 100000 in
theorem b_X8_lookAtUnits_4 {E : fxE} (hW : fx_Wt E) (a0 : Nat) (a1 : Nat) (x2 : Int) (x3 : Int) (M : fxM) (Q : Option fxV → fxM → Prop) (hk0 : kd E a0 = 8) (hk1 : kd E a1 = 2) (h : (-2147483648 ≤ x3 ∧ x3 < 2147483648) ∧ (-2147483648 ≤ (M a1 3) ∧ (M a1 3) < 2147483648) ∧ (((M a1 3) ≤ x3 → Q none M) ∧ (¬ (M a1 3) ≤ x3 → fx_At E m_X8_lookAtUnits 15 [some (.inr a0), some (.inr a1), some (.inl x2), some (.inl x3), some (.inl 0), none] [] M Q))) : fx_At E m_X8_lookAtUnits 4 [some (.inr a0), some (.inr a1), some (.inl x2), some (.inl x3), none, none] [] M Q := by
  refine x_iload_n (pc := 4) dX8_lookAtUnits_4 rfl rfl ?_
  refine x_aload_n (pc := 5) dX8_lookAtUnits_5 rfl rfl ?_
  refine x_geti (pc := 6) dX8_lookAtUnits_6 f_RX8_76 hk1 ?_
  obtain ⟨g1, h⟩ := h
  obtain ⟨g2, h⟩ := h
  refine x_cge (pc := 9) 112 dX8_lookAtUnits_9 (by decide) ⟨g1, g2⟩ (fun hc => ?_) (fun hc => ?_)
  · replace h := h.1 hc
    exact x_vret (pc := 112) dX8_lookAtUnits_112 rfl h
  · replace h := h.2 hc
    refine x_iconst (pc := 12) dX8_lookAtUnits_12 ?_
    refine x_istore (pc := 13) (lv' := [some (.inr a0), some (.inr a1), some (.inl x2), some (.inl x3), some (.inl 0), none]) dX8_lookAtUnits_13 (by decide) rfl ?_
    exact h
set_option maxRecDepth 100000 in
theorem b_X8_lookAtUnits_15 {E : fxE} (hW : fx_Wt E) (a0 : Nat) (a1 : Nat) (x2 : Int) (x3 : Int) (x4 : Int) (M : fxM) (Q : Option fxV → fxM → Prop) (hk0 : kd E a0 = 8) (hk1 : kd E a1 = 2) (h : (0 ≤ x3 ∧ x3 < 8) ∧ (-2147483648 ≤ x4 ∧ x4 < 2147483648) ∧ (-2147483648 ≤ (M (rf E a1 0) (x3.toNat)) ∧ (M (rf E a1 0) (x3.toNat)) < 2147483648) ∧ (((M (rf E a1 0) (x3.toNat)) ≤ x4 → fx_At E m_X8_lookAtUnits 4 [some (.inr a0), some (.inr a1), some (.inl x2), some (.inl (x3 + 1)), none, none] [] M Q) ∧ (¬ (M (rf E a1 0) (x3.toNat)) ≤ x4 → (-2147483648 ≤ (M a0 5) ∧ (M a0 5) < 2147483648) ∧ ((¬ (M a0 5) = (0 : Int) → fx_At E m_X8_lookAtUnits 45 [some (.inr a0), some (.inr a1), some (.inl x2), some (.inl x3), some (.inl x4), none] [.inl (((M a0 6) - 1) - x2)] M Q) ∧ ((M a0 5) = (0 : Int) → fx_At E m_X8_lookAtUnits 45 [some (.inr a0), some (.inr a1), some (.inl x2), some (.inl x3), some (.inl x4), none] [.inl x2] M Q))))) : fx_At E m_X8_lookAtUnits 15 [some (.inr a0), some (.inr a1), some (.inl x2), some (.inl x3), some (.inl x4), none] [] M Q := by
  refine x_iload (pc := 15) dX8_lookAtUnits_15 rfl ?_
  refine x_aload_n (pc := 17) dX8_lookAtUnits_17 rfl rfl ?_
  refine x_getr (pc := 18) dX8_lookAtUnits_18 f_RX8_79 hk1 ?_
  refine x_iload_n (pc := 21) dX8_lookAtUnits_21 rfl rfl ?_
  obtain ⟨g1, h⟩ := h
  refine x_iald (pc := 22) dX8_lookAtUnits_22 (wk_2_0 hW hk1) (wl_2_0 hW hk1) g1 ?_
  obtain ⟨g2, h⟩ := h
  obtain ⟨g3, h⟩ := h
  refine x_cge (pc := 23) 106 dX8_lookAtUnits_23 (by decide) ⟨g2, g3⟩ (fun hc => ?_) (fun hc => ?_)
  · replace h := h.1 hc
    refine x_iinc (pc := 106) (lv' := [some (.inr a0), some (.inr a1), some (.inl x2), some (.inl (x3 + 1)), some (.inl x4), none]) dX8_lookAtUnits_106 rfl (by decide) rfl ?_
    refine x_goto (pc := 109) 4 dX8_lookAtUnits_109 (by decide) ?_
    refine x_weak (lv := [some (.inr a0), some (.inr a1), some (.inl x2), some (.inl (x3 + 1)), none, none]) (by simp [lvle]) ?_
    exact h
  · replace h := h.2 hc
    refine x_aload_n (pc := 26) dX8_lookAtUnits_26 rfl rfl ?_
    refine x_geti (pc := 27) dX8_lookAtUnits_27 f_RX8_28 hk0 ?_
    obtain ⟨g4, h⟩ := h
    refine x_zne (pc := 30) 37 dX8_lookAtUnits_30 (by decide) g4 (fun hc => ?_) (fun hc => ?_)
    · replace h := h.1 hc
      refine x_aload_n (pc := 37) dX8_lookAtUnits_37 rfl rfl ?_
      refine x_geti (pc := 38) dX8_lookAtUnits_38 f_RX8_31 hk0 ?_
      refine x_iconst (pc := 41) dX8_lookAtUnits_41 ?_
      refine x_isub (pc := 42) dX8_lookAtUnits_42 ?_
      refine x_iload_n (pc := 43) dX8_lookAtUnits_43 rfl rfl ?_
      refine x_isub (pc := 44) dX8_lookAtUnits_44 ?_
      exact h
    · replace h := h.2 hc
      refine x_iload_n (pc := 33) dX8_lookAtUnits_33 rfl rfl ?_
      refine x_goto (pc := 34) 45 dX8_lookAtUnits_34 (by decide) ?_
      exact h
set_option maxRecDepth 100000 in
theorem b_X8_lookAtUnits_45 {E : fxE} (hW : fx_Wt E) (a0 : Nat) (a1 : Nat) (x2 : Int) (x3 : Int) (x4 : Int) (s0 : Int) (M : fxM) (Q : Option fxV → fxM → Prop) (hk0 : kd E a0 = 8) (hk1 : kd E a1 = 2) (h : (-2147483648 ≤ s0 ∧ s0 < 2147483648) ∧ ((s0 < (0 : Int) → fx_At E m_X8_lookAtUnits 15 [some (.inr a0), some (.inr a1), some (.inl (x2 + 1)), some (.inl x3), some (.inl (x4 + 1)), none] [] M Q) ∧ (¬ s0 < (0 : Int) → (((300 : Int) ≤ s0 → fx_At E m_X8_lookAtUnits 15 [some (.inr a0), some (.inr a1), some (.inl (x2 + 1)), some (.inl x3), some (.inl (x4 + 1)), none] [] M Q) ∧ (¬ (300 : Int) ≤ s0 → (0 ≤ x3 ∧ x3 < 8) ∧ (0 ≤ s0 ∧ s0 < 300) ∧ ∀ M4 : fxM, M4 = mset M (rf E a0 1) (s0.toNat) (30000 + (M (rf E a1 2) (x3.toNat))) → (0 ≤ (s0 + 1) ∧ (s0 + 1) < 301) ∧ ∀ M6 : fxM, M6 = mset M4 (rf E a0 0) ((s0 + 1).toNat) ((M4 (rf E a0 0) ((s0 + 1).toNat)) + (M4 (rf E a1 1) (x3.toNat))) → fx_At E m_X8_lookAtUnits 15 [some (.inr a0), some (.inr a1), some (.inl (x2 + 1)), some (.inl x3), some (.inl (x4 + 1)), none] [] M6 Q))))) : fx_At E m_X8_lookAtUnits 45 [some (.inr a0), some (.inr a1), some (.inl x2), some (.inl x3), some (.inl x4), none] [.inl s0] M Q := by
  refine x_istore (pc := 45) (lv' := [some (.inr a0), some (.inr a1), some (.inl x2), some (.inl x3), some (.inl x4), some (.inl s0)]) dX8_lookAtUnits_45 (by decide) rfl ?_
  refine x_iload (pc := 47) dX8_lookAtUnits_47 rfl ?_
  obtain ⟨g1, h⟩ := h
  refine x_zlt (pc := 49) 97 dX8_lookAtUnits_49 (by decide) g1 (fun hc => ?_) (fun hc => ?_)
  · replace h := h.1 hc
    refine x_iinc (pc := 97) (lv' := [some (.inr a0), some (.inr a1), some (.inl (x2 + 1)), some (.inl x3), some (.inl x4), some (.inl s0)]) dX8_lookAtUnits_97 rfl (by decide) rfl ?_
    refine x_iinc (pc := 100) (lv' := [some (.inr a0), some (.inr a1), some (.inl (x2 + 1)), some (.inl x3), some (.inl (x4 + 1)), some (.inl s0)]) dX8_lookAtUnits_100 rfl (by decide) rfl ?_
    refine x_goto (pc := 103) 15 dX8_lookAtUnits_103 (by decide) ?_
    refine x_weak (lv := [some (.inr a0), some (.inr a1), some (.inl (x2 + 1)), some (.inl x3), some (.inl (x4 + 1)), none]) (by simp [lvle]) ?_
    exact h
  · replace h := h.2 hc
    refine x_iload (pc := 52) dX8_lookAtUnits_52 rfl ?_
    refine x_aload_n (pc := 54) dX8_lookAtUnits_54 rfl rfl ?_
    refine x_getr (pc := 55) dX8_lookAtUnits_55 f_RX8_15 hk0 ?_
    refine x_alen (pc := 58) dX8_lookAtUnits_58 (wk_8_1 hW hk0) (by decide) (by decide) (wl_8_1 hW hk0) ?_
    refine x_cge (pc := 59) 97 dX8_lookAtUnits_59 (by decide) ⟨g1, ⟨by decide, by decide⟩⟩ (fun hc => ?_) (fun hc => ?_)
    · replace h := h.1 hc
      refine x_iinc (pc := 97) (lv' := [some (.inr a0), some (.inr a1), some (.inl (x2 + 1)), some (.inl x3), some (.inl x4), some (.inl s0)]) dX8_lookAtUnits_97 rfl (by decide) rfl ?_
      refine x_iinc (pc := 100) (lv' := [some (.inr a0), some (.inr a1), some (.inl (x2 + 1)), some (.inl x3), some (.inl (x4 + 1)), some (.inl s0)]) dX8_lookAtUnits_100 rfl (by decide) rfl ?_
      refine x_goto (pc := 103) 15 dX8_lookAtUnits_103 (by decide) ?_
      refine x_weak (lv := [some (.inr a0), some (.inr a1), some (.inl (x2 + 1)), some (.inl x3), some (.inl (x4 + 1)), none]) (by simp [lvle]) ?_
      exact h
    · replace h := h.2 hc
      refine x_aload_n (pc := 62) dX8_lookAtUnits_62 rfl rfl ?_
      refine x_getr (pc := 63) dX8_lookAtUnits_63 f_RX8_15 hk0 ?_
      refine x_iload (pc := 66) dX8_lookAtUnits_66 rfl ?_
      refine x_sipush (pc := 68) dX8_lookAtUnits_68 (by decide +kernel) ?_
      refine x_aload_n (pc := 71) dX8_lookAtUnits_71 rfl rfl ?_
      refine x_getr (pc := 72) dX8_lookAtUnits_72 f_RX8_82 hk1 ?_
      refine x_iload_n (pc := 75) dX8_lookAtUnits_75 rfl rfl ?_
      obtain ⟨g2, h⟩ := h
      refine x_iald (pc := 76) dX8_lookAtUnits_76 (wk_2_2 hW hk1) (wl_2_2 hW hk1) g2 ?_
      refine x_iadd (pc := 77) dX8_lookAtUnits_77 ?_
      obtain ⟨g3, h⟩ := h
      refine x_iast (pc := 78) dX8_lookAtUnits_78 (wk_8_1 hW hk0) (wl_8_1 hW hk0) g3 (fun M4 hM4 => ?_)
      replace h := h M4 hM4
      refine x_aload_n (pc := 79) dX8_lookAtUnits_79 rfl rfl ?_
      refine x_getr (pc := 80) dX8_lookAtUnits_80 f_RX8_9 hk0 ?_
      refine x_iload (pc := 83) dX8_lookAtUnits_83 rfl ?_
      refine x_iconst (pc := 85) dX8_lookAtUnits_85 ?_
      refine x_iadd (pc := 86) dX8_lookAtUnits_86 ?_
      refine x_dup2 (pc := 87) dX8_lookAtUnits_87 ?_
      obtain ⟨g5, h⟩ := h
      refine x_iald (pc := 88) dX8_lookAtUnits_88 (wk_8_0 hW hk0) (wl_8_0 hW hk0) g5 ?_
      refine x_aload_n (pc := 89) dX8_lookAtUnits_89 rfl rfl ?_
      refine x_getr (pc := 90) dX8_lookAtUnits_90 f_RX8_85 hk1 ?_
      refine x_iload_n (pc := 93) dX8_lookAtUnits_93 rfl rfl ?_
      refine x_iald (pc := 94) dX8_lookAtUnits_94 (wk_2_1 hW hk1) (wl_2_1 hW hk1) g2 ?_
      refine x_iadd (pc := 95) dX8_lookAtUnits_95 ?_
      refine x_iast (pc := 96) dX8_lookAtUnits_96 (wk_8_0 hW hk0) (wl_8_0 hW hk0) g5 (fun M6 hM6 => ?_)
      replace h := h M6 hM6
      refine x_iinc (pc := 97) (lv' := [some (.inr a0), some (.inr a1), some (.inl (x2 + 1)), some (.inl x3), some (.inl x4), some (.inl s0)]) dX8_lookAtUnits_97 rfl (by decide) rfl ?_
      refine x_iinc (pc := 100) (lv' := [some (.inr a0), some (.inr a1), some (.inl (x2 + 1)), some (.inl x3), some (.inl (x4 + 1)), some (.inl s0)]) dX8_lookAtUnits_100 rfl (by decide) rfl ?_
      refine x_goto (pc := 103) 15 dX8_lookAtUnits_103 (by decide) ?_
      refine x_weak (lv := [some (.inr a0), some (.inr a1), some (.inl (x2 + 1)), some (.inl x3), some (.inl (x4 + 1)), none]) (by simp [lvle]) ?_
      exact h
theorem dX8_lookAtBends_0 : decode cX8_lookAtBends 0 = .ok (.iconst 0, 1) := by decide +kernel
theorem dX8_lookAtBends_1 : decode cX8_lookAtBends 1 = .ok (.istore_n 2, 1) := by decide +kernel
theorem dX8_lookAtBends_2 : decode cX8_lookAtBends 2 = .ok (.iload_n 2, 1) := by decide +kernel
theorem dX8_lookAtBends_3 : decode cX8_lookAtBends 3 = .ok (.aload_n 1, 1) := by decide +kernel
theorem dX8_lookAtBends_4 : decode cX8_lookAtBends 4 = .ok (.getfield 88, 3) := by decide +kernel
theorem dX8_lookAtBends_7 : decode cX8_lookAtBends 7 = .ok (.if_icmp .ge 48, 3) := by decide +kernel
theorem dX8_lookAtBends_10 : decode cX8_lookAtBends 10 = .ok (.aload_n 0, 1) := by decide +kernel
theorem dX8_lookAtBends_11 : decode cX8_lookAtBends 11 = .ok (.aload_n 1, 1) := by decide +kernel
theorem dX8_lookAtBends_12 : decode cX8_lookAtBends 12 = .ok (.getfield 91, 3) := by decide +kernel
theorem dX8_lookAtBends_15 : decode cX8_lookAtBends 15 = .ok (.iload_n 2, 1) := by decide +kernel
theorem dX8_lookAtBends_16 : decode cX8_lookAtBends 16 = .ok (.iaload, 1) := by decide +kernel
theorem dX8_lookAtBends_17 : decode cX8_lookAtBends 17 = .ok (.invokevirtual 49, 3) := by decide +kernel
theorem dX8_lookAtBends_20 : decode cX8_lookAtBends 20 = .ok (.istore_n 3, 1) := by decide +kernel
theorem dX8_lookAtBends_21 : decode cX8_lookAtBends 21 = .ok (.iload_n 3, 1) := by decide +kernel
theorem dX8_lookAtBends_22 : decode cX8_lookAtBends 22 = .ok (.ifCond .lt 27, 3) := by decide +kernel
theorem dX8_lookAtBends_25 : decode cX8_lookAtBends 25 = .ok (.iload_n 3, 1) := by decide +kernel
theorem dX8_lookAtBends_26 : decode cX8_lookAtBends 26 = .ok (.aload_n 0, 1) := by decide +kernel
theorem dX8_lookAtBends_27 : decode cX8_lookAtBends 27 = .ok (.getfield 9, 3) := by decide +kernel
theorem dX8_lookAtBends_30 : decode cX8_lookAtBends 30 = .ok (.arraylength, 1) := by decide +kernel
theorem dX8_lookAtBends_31 : decode cX8_lookAtBends 31 = .ok (.if_icmp .ge 18, 3) := by decide +kernel
theorem dX8_lookAtBends_34 : decode cX8_lookAtBends 34 = .ok (.aload_n 0, 1) := by decide +kernel
theorem dX8_lookAtBends_35 : decode cX8_lookAtBends 35 = .ok (.getfield 9, 3) := by decide +kernel
theorem dX8_lookAtBends_38 : decode cX8_lookAtBends 38 = .ok (.iload_n 3, 1) := by decide +kernel
theorem dX8_lookAtBends_39 : decode cX8_lookAtBends 39 = .ok (.dup2, 1) := by decide +kernel
theorem dX8_lookAtBends_40 : decode cX8_lookAtBends 40 = .ok (.iaload, 1) := by decide +kernel
theorem dX8_lookAtBends_41 : decode cX8_lookAtBends 41 = .ok (.aload_n 1, 1) := by decide +kernel
theorem dX8_lookAtBends_42 : decode cX8_lookAtBends 42 = .ok (.getfield 94, 3) := by decide +kernel
theorem dX8_lookAtBends_45 : decode cX8_lookAtBends 45 = .ok (.iload_n 2, 1) := by decide +kernel
theorem dX8_lookAtBends_46 : decode cX8_lookAtBends 46 = .ok (.iaload, 1) := by decide +kernel
theorem dX8_lookAtBends_47 : decode cX8_lookAtBends 47 = .ok (.iadd, 1) := by decide +kernel
theorem dX8_lookAtBends_48 : decode cX8_lookAtBends 48 = .ok (.iastore, 1) := by decide +kernel
theorem dX8_lookAtBends_49 : decode cX8_lookAtBends 49 = .ok (.iinc 2 1, 3) := by decide +kernel
theorem dX8_lookAtBends_52 : decode cX8_lookAtBends 52 = .ok (.goto (-50), 3) := by decide +kernel
theorem dX8_lookAtBends_55 : decode cX8_lookAtBends 55 = .ok (.return_, 1) := by decide +kernel
set_option maxRecDepth 100000 in
theorem b_X8_lookAtBends_0 {E : fxE} (hW : fx_Wt E) (a0 : Nat) (a1 : Nat) (M : fxM) (Q : Option fxV → fxM → Prop) (hk0 : kd E a0 = 8) (hk1 : kd E a1 = 2) (h : fx_At E m_X8_lookAtBends 2 [some (.inr a0), some (.inr a1), some (.inl 0), none] [] M Q) : fx_At E m_X8_lookAtBends 0 [some (.inr a0), some (.inr a1), none, none] [] M Q := by
  refine x_iconst (pc := 0) dX8_lookAtBends_0 ?_
  refine x_istore_n (pc := 1) (lv' := [some (.inr a0), some (.inr a1), some (.inl 0), none]) dX8_lookAtBends_1 rfl (by decide) rfl ?_
  exact h
set_option maxRecDepth 100000 in
theorem b_X8_lookAtBends_2 {E : fxE} (hW : fx_Wt E) (a0 : Nat) (a1 : Nat) (x2 : Int) (M : fxM) (Q : Option fxV → fxM → Prop) (hk0 : kd E a0 = 8) (hk1 : kd E a1 = 2) (h : (-2147483648 ≤ x2 ∧ x2 < 2147483648) ∧ (-2147483648 ≤ (M a1 8) ∧ (M a1 8) < 2147483648) ∧ (((M a1 8) ≤ x2 → Q none M) ∧ (¬ (M a1 8) ≤ x2 → (0 ≤ x2 ∧ x2 < 6) ∧ ∃ R4 : Int → fxM → Prop, CtI E m_X8_distanceOf [.inr a0, .inl (M (rf E a1 6) (x2.toNat))] M R4 ∧ ∀ (v4 : Int) (M4 : fxM), R4 v4 M4 → (-2147483648 ≤ v4 ∧ v4 < 2147483648) ∧ ((v4 < (0 : Int) → fx_At E m_X8_lookAtBends 2 [some (.inr a0), some (.inr a1), some (.inl (x2 + 1)), none] [] M4 Q) ∧ (¬ v4 < (0 : Int) → (((301 : Int) ≤ v4 → fx_At E m_X8_lookAtBends 2 [some (.inr a0), some (.inr a1), some (.inl (x2 + 1)), none] [] M4 Q) ∧ (¬ (301 : Int) ≤ v4 → (0 ≤ v4 ∧ v4 < 301) ∧ ∀ M7 : fxM, M7 = mset M4 (rf E a0 0) (v4.toNat) ((M4 (rf E a0 0) (v4.toNat)) + (M4 (rf E a1 7) (x2.toNat))) → fx_At E m_X8_lookAtBends 2 [some (.inr a0), some (.inr a1), some (.inl (x2 + 1)), none] [] M7 Q))))))) : fx_At E m_X8_lookAtBends 2 [some (.inr a0), some (.inr a1), some (.inl x2), none] [] M Q := by
  refine x_iload_n (pc := 2) dX8_lookAtBends_2 rfl rfl ?_
  refine x_aload_n (pc := 3) dX8_lookAtBends_3 rfl rfl ?_
  refine x_geti (pc := 4) dX8_lookAtBends_4 f_RX8_88 hk1 ?_
  obtain ⟨g1, h⟩ := h
  obtain ⟨g2, h⟩ := h
  refine x_cge (pc := 7) 55 dX8_lookAtBends_7 (by decide) ⟨g1, g2⟩ (fun hc => ?_) (fun hc => ?_)
  · replace h := h.1 hc
    exact x_vret (pc := 55) dX8_lookAtBends_55 rfl h
  · replace h := h.2 hc
    refine x_aload_n (pc := 10) dX8_lookAtBends_10 rfl rfl ?_
    refine x_aload_n (pc := 11) dX8_lookAtBends_11 rfl rfl ?_
    refine x_getr (pc := 12) dX8_lookAtBends_12 f_RX8_91 hk1 ?_
    refine x_iload_n (pc := 15) dX8_lookAtBends_15 rfl rfl ?_
    obtain ⟨g3, h⟩ := h
    refine x_iald (pc := 16) dX8_lookAtBends_16 (wk_2_6 hW hk1) (wl_2_6 hW hk1) g3 ?_
    obtain ⟨R4, hc4, h⟩ := h
    refine x_callV (pc := 17) (z := m_X8_distanceOf) (b := a0) (as := [.inl (M (rf E a1 6) (x2.toNat))]) (rest := []) dX8_lookAtBends_17 c_RX8_49 (by decide) hk0 rfl (Nat.le_of_ble_eq_true rfl) hc4 (fun r M4 hr => ?_)
    obtain ⟨v4, rfl, hr⟩ := hr
    replace h := h v4 M4 hr
    show fx_At E m_X8_lookAtBends 20 [some (.inr a0), some (.inr a1), some (.inl x2), none] [.inl v4] M4 Q
    refine x_istore_n (pc := 20) (lv' := [some (.inr a0), some (.inr a1), some (.inl x2), some (.inl v4)]) dX8_lookAtBends_20 rfl (by decide) rfl ?_
    refine x_iload_n (pc := 21) dX8_lookAtBends_21 rfl rfl ?_
    obtain ⟨g5, h⟩ := h
    refine x_zlt (pc := 22) 49 dX8_lookAtBends_22 (by decide) g5 (fun hc => ?_) (fun hc => ?_)
    · replace h := h.1 hc
      refine x_iinc (pc := 49) (lv' := [some (.inr a0), some (.inr a1), some (.inl (x2 + 1)), some (.inl v4)]) dX8_lookAtBends_49 rfl (by decide) rfl ?_
      refine x_goto (pc := 52) 2 dX8_lookAtBends_52 (by decide) ?_
      refine x_weak (lv := [some (.inr a0), some (.inr a1), some (.inl (x2 + 1)), none]) (by simp [lvle]) ?_
      exact h
    · replace h := h.2 hc
      refine x_iload_n (pc := 25) dX8_lookAtBends_25 rfl rfl ?_
      refine x_aload_n (pc := 26) dX8_lookAtBends_26 rfl rfl ?_
      refine x_getr (pc := 27) dX8_lookAtBends_27 f_RX8_9 hk0 ?_
      refine x_alen (pc := 30) dX8_lookAtBends_30 (wk_8_0 hW hk0) (by decide) (by decide) (wl_8_0 hW hk0) ?_
      refine x_cge (pc := 31) 49 dX8_lookAtBends_31 (by decide) ⟨g5, ⟨by decide, by decide⟩⟩ (fun hc => ?_) (fun hc => ?_)
      · replace h := h.1 hc
        refine x_iinc (pc := 49) (lv' := [some (.inr a0), some (.inr a1), some (.inl (x2 + 1)), some (.inl v4)]) dX8_lookAtBends_49 rfl (by decide) rfl ?_
        refine x_goto (pc := 52) 2 dX8_lookAtBends_52 (by decide) ?_
        refine x_weak (lv := [some (.inr a0), some (.inr a1), some (.inl (x2 + 1)), none]) (by simp [lvle]) ?_
        exact h
      · replace h := h.2 hc
        refine x_aload_n (pc := 34) dX8_lookAtBends_34 rfl rfl ?_
        refine x_getr (pc := 35) dX8_lookAtBends_35 f_RX8_9 hk0 ?_
        refine x_iload_n (pc := 38) dX8_lookAtBends_38 rfl rfl ?_
        refine x_dup2 (pc := 39) dX8_lookAtBends_39 ?_
        obtain ⟨g6, h⟩ := h
        refine x_iald (pc := 40) dX8_lookAtBends_40 (wk_8_0 hW hk0) (wl_8_0 hW hk0) g6 ?_
        refine x_aload_n (pc := 41) dX8_lookAtBends_41 rfl rfl ?_
        refine x_getr (pc := 42) dX8_lookAtBends_42 f_RX8_94 hk1 ?_
        refine x_iload_n (pc := 45) dX8_lookAtBends_45 rfl rfl ?_
        refine x_iald (pc := 46) dX8_lookAtBends_46 (wk_2_7 hW hk1) (wl_2_7 hW hk1) g3 ?_
        refine x_iadd (pc := 47) dX8_lookAtBends_47 ?_
        refine x_iast (pc := 48) dX8_lookAtBends_48 (wk_8_0 hW hk0) (wl_8_0 hW hk0) g6 (fun M7 hM7 => ?_)
        replace h := h M7 hM7
        refine x_iinc (pc := 49) (lv' := [some (.inr a0), some (.inr a1), some (.inl (x2 + 1)), some (.inl v4)]) dX8_lookAtBends_49 rfl (by decide) rfl ?_
        refine x_goto (pc := 52) 2 dX8_lookAtBends_52 (by decide) ?_
        refine x_weak (lv := [some (.inr a0), some (.inr a1), some (.inl (x2 + 1)), none]) (by simp [lvle]) ?_
        exact h
theorem dX8_lookAtJoints_0 : decode cX8_lookAtJoints 0 = .ok (.aload_n 0, 1) := by decide +kernel
theorem dX8_lookAtJoints_1 : decode cX8_lookAtJoints 1 = .ok (.iconst 0, 1) := by decide +kernel
theorem dX8_lookAtJoints_2 : decode cX8_lookAtJoints 2 = .ok (.putfield 24, 3) := by decide +kernel
theorem dX8_lookAtJoints_5 : decode cX8_lookAtJoints 5 = .ok (.aload_n 1, 1) := by decide +kernel
theorem dX8_lookAtJoints_6 : decode cX8_lookAtJoints 6 = .ok (.getfield 46, 3) := by decide +kernel
theorem dX8_lookAtJoints_9 : decode cX8_lookAtJoints 9 = .ok (.ifCond .eq 7, 3) := by decide +kernel
theorem dX8_lookAtJoints_12 : decode cX8_lookAtJoints 12 = .ok (.iconst 1, 1) := by decide +kernel
theorem dX8_lookAtJoints_13 : decode cX8_lookAtJoints 13 = .ok (.goto 4, 3) := by decide +kernel
theorem dX8_lookAtJoints_16 : decode cX8_lookAtJoints 16 = .ok (.iconst 0, 1) := by decide +kernel
theorem dX8_lookAtJoints_17 : decode cX8_lookAtJoints 17 = .ok (.istore_n 2, 1) := by decide +kernel
theorem dX8_lookAtJoints_18 : decode cX8_lookAtJoints 18 = .ok (.iconst 0, 1) := by decide +kernel
theorem dX8_lookAtJoints_19 : decode cX8_lookAtJoints 19 = .ok (.istore_n 3, 1) := by decide +kernel
theorem dX8_lookAtJoints_20 : decode cX8_lookAtJoints 20 = .ok (.iload_n 3, 1) := by decide +kernel
theorem dX8_lookAtJoints_21 : decode cX8_lookAtJoints 21 = .ok (.aload_n 1, 1) := by decide +kernel
theorem dX8_lookAtJoints_22 : decode cX8_lookAtJoints 22 = .ok (.getfield 76, 3) := by decide +kernel
theorem dX8_lookAtJoints_25 : decode cX8_lookAtJoints 25 = .ok (.if_icmp .gt 98, 3) := by decide +kernel
theorem dX8_lookAtJoints_28 : decode cX8_lookAtJoints 28 = .ok (.aload_n 0, 1) := by decide +kernel
theorem dX8_lookAtJoints_29 : decode cX8_lookAtJoints 29 = .ok (.getfield 28, 3) := by decide +kernel
theorem dX8_lookAtJoints_32 : decode cX8_lookAtJoints 32 = .ok (.ifCond .ne 7, 3) := by decide +kernel
theorem dX8_lookAtJoints_35 : decode cX8_lookAtJoints 35 = .ok (.iload_n 3, 1) := by decide +kernel
theorem dX8_lookAtJoints_36 : decode cX8_lookAtJoints 36 = .ok (.goto 9, 3) := by decide +kernel
theorem dX8_lookAtJoints_39 : decode cX8_lookAtJoints 39 = .ok (.aload_n 1, 1) := by decide +kernel
theorem dX8_lookAtJoints_40 : decode cX8_lookAtJoints 40 = .ok (.getfield 76, 3) := by decide +kernel
theorem dX8_lookAtJoints_43 : decode cX8_lookAtJoints 43 = .ok (.iload_n 3, 1) := by decide +kernel
theorem dX8_lookAtJoints_44 : decode cX8_lookAtJoints 44 = .ok (.isub, 1) := by decide +kernel
theorem dX8_lookAtJoints_45 : decode cX8_lookAtJoints 45 = .ok (.istore 4, 2) := by decide +kernel
theorem dX8_lookAtJoints_47 : decode cX8_lookAtJoints 47 = .ok (.aload_n 0, 1) := by decide +kernel
theorem dX8_lookAtJoints_48 : decode cX8_lookAtJoints 48 = .ok (.aload_n 1, 1) := by decide +kernel
theorem dX8_lookAtJoints_49 : decode cX8_lookAtJoints 49 = .ok (.iload 4, 2) := by decide +kernel
theorem dX8_lookAtJoints_51 : decode cX8_lookAtJoints 51 = .ok (.invokevirtual 97, 3) := by decide +kernel
theorem dX8_lookAtJoints_54 : decode cX8_lookAtJoints 54 = .ok (.invokevirtual 49, 3) := by decide +kernel
theorem dX8_lookAtJoints_57 : decode cX8_lookAtJoints 57 = .ok (.istore 5, 2) := by decide +kernel
theorem dX8_lookAtJoints_59 : decode cX8_lookAtJoints 59 = .ok (.iload 5, 2) := by decide +kernel
theorem dX8_lookAtJoints_61 : decode cX8_lookAtJoints 61 = .ok (.ifCond .lt 30, 3) := by decide +kernel
theorem dX8_lookAtJoints_64 : decode cX8_lookAtJoints 64 = .ok (.iload 5, 2) := by decide +kernel
theorem dX8_lookAtJoints_66 : decode cX8_lookAtJoints 66 = .ok (.aload_n 0, 1) := by decide +kernel
theorem dX8_lookAtJoints_67 : decode cX8_lookAtJoints 67 = .ok (.getfield 9, 3) := by decide +kernel
theorem dX8_lookAtJoints_70 : decode cX8_lookAtJoints 70 = .ok (.arraylength, 1) := by decide +kernel
theorem dX8_lookAtJoints_71 : decode cX8_lookAtJoints 71 = .ok (.if_icmp .ge 20, 3) := by decide +kernel
theorem dX8_lookAtJoints_74 : decode cX8_lookAtJoints 74 = .ok (.aload_n 0, 1) := by decide +kernel
theorem dX8_lookAtJoints_75 : decode cX8_lookAtJoints 75 = .ok (.getfield 9, 3) := by decide +kernel
theorem dX8_lookAtJoints_78 : decode cX8_lookAtJoints 78 = .ok (.iload 5, 2) := by decide +kernel
theorem dX8_lookAtJoints_80 : decode cX8_lookAtJoints 80 = .ok (.dup2, 1) := by decide +kernel
theorem dX8_lookAtJoints_81 : decode cX8_lookAtJoints 81 = .ok (.iaload, 1) := by decide +kernel
theorem dX8_lookAtJoints_82 : decode cX8_lookAtJoints 82 = .ok (.aload_n 1, 1) := by decide +kernel
theorem dX8_lookAtJoints_83 : decode cX8_lookAtJoints 83 = .ok (.getfield 100, 3) := by decide +kernel
theorem dX8_lookAtJoints_86 : decode cX8_lookAtJoints 86 = .ok (.iload 4, 2) := by decide +kernel
theorem dX8_lookAtJoints_88 : decode cX8_lookAtJoints 88 = .ok (.iaload, 1) := by decide +kernel
theorem dX8_lookAtJoints_89 : decode cX8_lookAtJoints 89 = .ok (.iadd, 1) := by decide +kernel
theorem dX8_lookAtJoints_90 : decode cX8_lookAtJoints 90 = .ok (.iastore, 1) := by decide +kernel
theorem dX8_lookAtJoints_91 : decode cX8_lookAtJoints 91 = .ok (.iload 5, 2) := by decide +kernel
theorem dX8_lookAtJoints_93 : decode cX8_lookAtJoints 93 = .ok (.aload_n 0, 1) := by decide +kernel
theorem dX8_lookAtJoints_94 : decode cX8_lookAtJoints 94 = .ok (.getfield 34, 3) := by decide +kernel
theorem dX8_lookAtJoints_97 : decode cX8_lookAtJoints 97 = .ok (.if_icmp .lt 7, 3) := by decide +kernel
theorem dX8_lookAtJoints_100 : decode cX8_lookAtJoints 100 = .ok (.iload_n 2, 1) := by decide +kernel
theorem dX8_lookAtJoints_101 : decode cX8_lookAtJoints 101 = .ok (.ifCond .ne 16, 3) := by decide +kernel
theorem dX8_lookAtJoints_104 : decode cX8_lookAtJoints 104 = .ok (.aload_n 0, 1) := by decide +kernel
theorem dX8_lookAtJoints_105 : decode cX8_lookAtJoints 105 = .ok (.iload 5, 2) := by decide +kernel
theorem dX8_lookAtJoints_107 : decode cX8_lookAtJoints 107 = .ok (.aload_n 1, 1) := by decide +kernel
theorem dX8_lookAtJoints_108 : decode cX8_lookAtJoints 108 = .ok (.getfield 103, 3) := by decide +kernel
theorem dX8_lookAtJoints_111 : decode cX8_lookAtJoints 111 = .ok (.iload 4, 2) := by decide +kernel
theorem dX8_lookAtJoints_113 : decode cX8_lookAtJoints 113 = .ok (.iaload, 1) := by decide +kernel
theorem dX8_lookAtJoints_114 : decode cX8_lookAtJoints 114 = .ok (.invokevirtual 72, 3) := by decide +kernel
theorem dX8_lookAtJoints_117 : decode cX8_lookAtJoints 117 = .ok (.iinc 3 1, 3) := by decide +kernel
theorem dX8_lookAtJoints_120 : decode cX8_lookAtJoints 120 = .ok (.goto (-100), 3) := by decide +kernel
theorem dX8_lookAtJoints_123 : decode cX8_lookAtJoints 123 = .ok (.return_, 1) := by decide +kernel
set_option maxRecDepth 100000 in
theorem b_X8_lookAtJoints_0 {E : fxE} (hW : fx_Wt E) (a0 : Nat) (a1 : Nat) (M : fxM) (Q : Option fxV → fxM → Prop) (hk0 : kd E a0 = 8) (hk1 : kd E a1 = 2) (h : ∀ M1 : fxM, M1 = mset M a0 4 0 → (-2147483648 ≤ (M1 a1 9) ∧ (M1 a1 9) < 2147483648) ∧ (((M1 a1 9) = (0 : Int) → fx_At E m_X8_lookAtJoints 20 [some (.inr a0), some (.inr a1), some (.inl 0), some (.inl 0), none, none] [] M1 Q) ∧ (¬ (M1 a1 9) = (0 : Int) → fx_At E m_X8_lookAtJoints 20 [some (.inr a0), some (.inr a1), some (.inl 1), some (.inl 0), none, none] [] M1 Q))) : fx_At E m_X8_lookAtJoints 0 [some (.inr a0), some (.inr a1), none, none, none, none] [] M Q := by
  refine x_aload_n (pc := 0) dX8_lookAtJoints_0 rfl rfl ?_
  refine x_iconst (pc := 1) dX8_lookAtJoints_1 ?_
  refine x_puti (pc := 2) dX8_lookAtJoints_2 f_RX8_24 hk0 (fun M1 hM1 => ?_)
  replace h := h M1 hM1
  refine x_aload_n (pc := 5) dX8_lookAtJoints_5 rfl rfl ?_
  refine x_geti (pc := 6) dX8_lookAtJoints_6 f_RX8_46 hk1 ?_
  obtain ⟨g2, h⟩ := h
  refine x_zeq (pc := 9) 16 dX8_lookAtJoints_9 (by decide) g2 (fun hc => ?_) (fun hc => ?_)
  · replace h := h.1 hc
    refine x_iconst (pc := 16) dX8_lookAtJoints_16 ?_
    refine x_istore_n (pc := 17) (lv' := [some (.inr a0), some (.inr a1), some (.inl 0), none, none, none]) dX8_lookAtJoints_17 rfl (by decide) rfl ?_
    refine x_iconst (pc := 18) dX8_lookAtJoints_18 ?_
    refine x_istore_n (pc := 19) (lv' := [some (.inr a0), some (.inr a1), some (.inl 0), some (.inl 0), none, none]) dX8_lookAtJoints_19 rfl (by decide) rfl ?_
    exact h
  · replace h := h.2 hc
    refine x_iconst (pc := 12) dX8_lookAtJoints_12 ?_
    refine x_goto (pc := 13) 17 dX8_lookAtJoints_13 (by decide) ?_
    refine x_istore_n (pc := 17) (lv' := [some (.inr a0), some (.inr a1), some (.inl 1), none, none, none]) dX8_lookAtJoints_17 rfl (by decide) rfl ?_
    refine x_iconst (pc := 18) dX8_lookAtJoints_18 ?_
    refine x_istore_n (pc := 19) (lv' := [some (.inr a0), some (.inr a1), some (.inl 1), some (.inl 0), none, none]) dX8_lookAtJoints_19 rfl (by decide) rfl ?_
    exact h
set_option maxRecDepth 100000 in
theorem b_X8_lookAtJoints_20 {E : fxE} (hW : fx_Wt E) (a0 : Nat) (a1 : Nat) (x2 : Int) (x3 : Int) (M : fxM) (Q : Option fxV → fxM → Prop) (hk0 : kd E a0 = 8) (hk1 : kd E a1 = 2) (h : (-2147483648 ≤ x3 ∧ x3 < 2147483648) ∧ (-2147483648 ≤ (M a1 3) ∧ (M a1 3) < 2147483648) ∧ (((M a1 3) < x3 → Q none M) ∧ (¬ (M a1 3) < x3 → (-2147483648 ≤ (M a0 5) ∧ (M a0 5) < 2147483648) ∧ ((¬ (M a0 5) = (0 : Int) → fx_At E m_X8_lookAtJoints 45 [some (.inr a0), some (.inr a1), some (.inl x2), some (.inl x3), none, none] [.inl ((M a1 3) - x3)] M Q) ∧ ((M a0 5) = (0 : Int) → fx_At E m_X8_lookAtJoints 45 [some (.inr a0), some (.inr a1), some (.inl x2), some (.inl x3), none, none] [.inl x3] M Q))))) : fx_At E m_X8_lookAtJoints 20 [some (.inr a0), some (.inr a1), some (.inl x2), some (.inl x3), none, none] [] M Q := by
  refine x_iload_n (pc := 20) dX8_lookAtJoints_20 rfl rfl ?_
  refine x_aload_n (pc := 21) dX8_lookAtJoints_21 rfl rfl ?_
  refine x_geti (pc := 22) dX8_lookAtJoints_22 f_RX8_76 hk1 ?_
  obtain ⟨g1, h⟩ := h
  obtain ⟨g2, h⟩ := h
  refine x_cgt (pc := 25) 123 dX8_lookAtJoints_25 (by decide) ⟨g1, g2⟩ (fun hc => ?_) (fun hc => ?_)
  · replace h := h.1 hc
    exact x_vret (pc := 123) dX8_lookAtJoints_123 rfl h
  · replace h := h.2 hc
    refine x_aload_n (pc := 28) dX8_lookAtJoints_28 rfl rfl ?_
    refine x_geti (pc := 29) dX8_lookAtJoints_29 f_RX8_28 hk0 ?_
    obtain ⟨g3, h⟩ := h
    refine x_zne (pc := 32) 39 dX8_lookAtJoints_32 (by decide) g3 (fun hc => ?_) (fun hc => ?_)
    · replace h := h.1 hc
      refine x_aload_n (pc := 39) dX8_lookAtJoints_39 rfl rfl ?_
      refine x_geti (pc := 40) dX8_lookAtJoints_40 f_RX8_76 hk1 ?_
      refine x_iload_n (pc := 43) dX8_lookAtJoints_43 rfl rfl ?_
      refine x_isub (pc := 44) dX8_lookAtJoints_44 ?_
      exact h
    · replace h := h.2 hc
      refine x_iload_n (pc := 35) dX8_lookAtJoints_35 rfl rfl ?_
      refine x_goto (pc := 36) 45 dX8_lookAtJoints_36 (by decide) ?_
      exact h
set_option maxRecDepth 100000 in
theorem b_X8_lookAtJoints_45 {E : fxE} (hW : fx_Wt E) (a0 : Nat) (a1 : Nat) (x2 : Int) (x3 : Int) (s0 : Int) (M : fxM) (Q : Option fxV → fxM → Prop) (hk0 : kd E a0 = 8) (hk1 : kd E a1 = 2) (h : (0 ≤ s0 ∧ s0 ≤ M a1 3 ∧ M a1 3 ≤ 8) ∧ ∃ R2 : Int → fxM → Prop, CtI E m_X8_distanceOf [.inr a0, .inl (fsum E M a1 s0.toNat)] M R2 ∧ ∀ (v2 : Int) (M2 : fxM), R2 v2 M2 → (-2147483648 ≤ v2 ∧ v2 < 2147483648) ∧ ((v2 < (0 : Int) → fx_At E m_X8_lookAtJoints 91 [some (.inr a0), some (.inr a1), some (.inl x2), some (.inl x3), some (.inl s0), some (.inl v2)] [] M2 Q) ∧ (¬ v2 < (0 : Int) → (((301 : Int) ≤ v2 → fx_At E m_X8_lookAtJoints 91 [some (.inr a0), some (.inr a1), some (.inl x2), some (.inl x3), some (.inl s0), some (.inl v2)] [] M2 Q) ∧ (¬ (301 : Int) ≤ v2 → (0 ≤ v2 ∧ v2 < 301) ∧ (0 ≤ s0 ∧ s0 < 9) ∧ ∀ M6 : fxM, M6 = mset M2 (rf E a0 0) (v2.toNat) ((M2 (rf E a0 0) (v2.toNat)) + (M2 (rf E a1 4) (s0.toNat))) → fx_At E m_X8_lookAtJoints 91 [some (.inr a0), some (.inr a1), some (.inl x2), some (.inl x3), some (.inl s0), some (.inl v2)] [] M6 Q))))) : fx_At E m_X8_lookAtJoints 45 [some (.inr a0), some (.inr a1), some (.inl x2), some (.inl x3), none, none] [.inl s0] M Q := by
  refine x_istore (pc := 45) (lv' := [some (.inr a0), some (.inr a1), some (.inl x2), some (.inl x3), some (.inl s0), none]) dX8_lookAtJoints_45 (by decide) rfl ?_
  refine x_aload_n (pc := 47) dX8_lookAtJoints_47 rfl rfl ?_
  refine x_aload_n (pc := 48) dX8_lookAtJoints_48 rfl rfl ?_
  refine x_iload (pc := 49) dX8_lookAtJoints_49 rfl ?_
  obtain ⟨g1, h⟩ := h
  refine x_callV (pc := 51) (z := m_X2_placeOfJoint) (b := a1) (as := [.inl s0]) (rest := [.inr a0]) dX8_lookAtJoints_51 c_RX8_97 (by decide) hk1 rfl (Nat.le_of_ble_eq_true rfl) (ct_X2_placeOfJoint hW hk1 g1) (fun r M9 hr => ?_)
  obtain ⟨hM9, hr⟩ := hr
  rw [hM9, hr]
  clear hM9 hr
  show fx_At E m_X8_lookAtJoints 54 [some (.inr a0), some (.inr a1), some (.inl x2), some (.inl x3), some (.inl s0), none] [.inl (fsum E M a1 s0.toNat), .inr a0] _ Q
  obtain ⟨R2, hc2, h⟩ := h
  refine x_callV (pc := 54) (z := m_X8_distanceOf) (b := a0) (as := [.inl (fsum E M a1 s0.toNat)]) (rest := []) dX8_lookAtJoints_54 c_RX8_49 (by decide) hk0 rfl (Nat.le_of_ble_eq_true rfl) hc2 (fun r M2 hr => ?_)
  obtain ⟨v2, rfl, hr⟩ := hr
  replace h := h v2 M2 hr
  show fx_At E m_X8_lookAtJoints 57 [some (.inr a0), some (.inr a1), some (.inl x2), some (.inl x3), some (.inl s0), none] [.inl v2] M2 Q
  refine x_istore (pc := 57) (lv' := [some (.inr a0), some (.inr a1), some (.inl x2), some (.inl x3), some (.inl s0), some (.inl v2)]) dX8_lookAtJoints_57 (by decide) rfl ?_
  refine x_iload (pc := 59) dX8_lookAtJoints_59 rfl ?_
  obtain ⟨g3, h⟩ := h
  refine x_zlt (pc := 61) 91 dX8_lookAtJoints_61 (by decide) g3 (fun hc => ?_) (fun hc => ?_)
  · replace h := h.1 hc
    exact h
  · replace h := h.2 hc
    refine x_iload (pc := 64) dX8_lookAtJoints_64 rfl ?_
    refine x_aload_n (pc := 66) dX8_lookAtJoints_66 rfl rfl ?_
    refine x_getr (pc := 67) dX8_lookAtJoints_67 f_RX8_9 hk0 ?_
    refine x_alen (pc := 70) dX8_lookAtJoints_70 (wk_8_0 hW hk0) (by decide) (by decide) (wl_8_0 hW hk0) ?_
    refine x_cge (pc := 71) 91 dX8_lookAtJoints_71 (by decide) ⟨g3, ⟨by decide, by decide⟩⟩ (fun hc => ?_) (fun hc => ?_)
    · replace h := h.1 hc
      exact h
    · replace h := h.2 hc
      refine x_aload_n (pc := 74) dX8_lookAtJoints_74 rfl rfl ?_
      refine x_getr (pc := 75) dX8_lookAtJoints_75 f_RX8_9 hk0 ?_
      refine x_iload (pc := 78) dX8_lookAtJoints_78 rfl ?_
      refine x_dup2 (pc := 80) dX8_lookAtJoints_80 ?_
      obtain ⟨g4, h⟩ := h
      refine x_iald (pc := 81) dX8_lookAtJoints_81 (wk_8_0 hW hk0) (wl_8_0 hW hk0) g4 ?_
      refine x_aload_n (pc := 82) dX8_lookAtJoints_82 rfl rfl ?_
      refine x_getr (pc := 83) dX8_lookAtJoints_83 f_RX8_100 hk1 ?_
      refine x_iload (pc := 86) dX8_lookAtJoints_86 rfl ?_
      obtain ⟨g5, h⟩ := h
      refine x_iald (pc := 88) dX8_lookAtJoints_88 (wk_2_4 hW hk1) (wl_2_4 hW hk1) g5 ?_
      refine x_iadd (pc := 89) dX8_lookAtJoints_89 ?_
      refine x_iast (pc := 90) dX8_lookAtJoints_90 (wk_8_0 hW hk0) (wl_8_0 hW hk0) g4 (fun M6 hM6 => ?_)
      replace h := h M6 hM6
      exact h
set_option maxRecDepth 100000 in
theorem b_X8_lookAtJoints_91 {E : fxE} (hW : fx_Wt E) (a0 : Nat) (a1 : Nat) (x2 : Int) (x3 : Int) (x4 : Int) (x5 : Int) (M : fxM) (Q : Option fxV → fxM → Prop) (hk0 : kd E a0 = 8) (hk1 : kd E a1 = 2) (h : (-2147483648 ≤ x5 ∧ x5 < 2147483648) ∧ (-2147483648 ≤ (M a0 7) ∧ (M a0 7) < 2147483648) ∧ ((x5 < (M a0 7) → (0 ≤ x4 ∧ x4 < 9) ∧ ∃ R4 : fxM → Prop, CtV E m_X8_addReflector [.inr a0, .inl x5, .inl (M (rf E a1 5) (x4.toNat))] M R4 ∧ ∀ M4 : fxM, R4 M4 → fx_At E m_X8_lookAtJoints 20 [some (.inr a0), some (.inr a1), some (.inl x2), some (.inl (x3 + 1)), none, none] [] M4 Q) ∧ (¬ x5 < (M a0 7) → (-2147483648 ≤ x2 ∧ x2 < 2147483648) ∧ ((¬ x2 = (0 : Int) → fx_At E m_X8_lookAtJoints 20 [some (.inr a0), some (.inr a1), some (.inl x2), some (.inl (x3 + 1)), none, none] [] M Q) ∧ (x2 = (0 : Int) → (0 ≤ x4 ∧ x4 < 9) ∧ ∃ R7 : fxM → Prop, CtV E m_X8_addReflector [.inr a0, .inl x5, .inl (M (rf E a1 5) (x4.toNat))] M R7 ∧ ∀ M7 : fxM, R7 M7 → fx_At E m_X8_lookAtJoints 20 [some (.inr a0), some (.inr a1), some (.inl x2), some (.inl (x3 + 1)), none, none] [] M7 Q))))) : fx_At E m_X8_lookAtJoints 91 [some (.inr a0), some (.inr a1), some (.inl x2), some (.inl x3), some (.inl x4), some (.inl x5)] [] M Q := by
  refine x_iload (pc := 91) dX8_lookAtJoints_91 rfl ?_
  refine x_aload_n (pc := 93) dX8_lookAtJoints_93 rfl rfl ?_
  refine x_geti (pc := 94) dX8_lookAtJoints_94 f_RX8_34 hk0 ?_
  obtain ⟨g1, h⟩ := h
  obtain ⟨g2, h⟩ := h
  refine x_clt (pc := 97) 104 dX8_lookAtJoints_97 (by decide) ⟨g1, g2⟩ (fun hc => ?_) (fun hc => ?_)
  · replace h := h.1 hc
    refine x_aload_n (pc := 104) dX8_lookAtJoints_104 rfl rfl ?_
    refine x_iload (pc := 105) dX8_lookAtJoints_105 rfl ?_
    refine x_aload_n (pc := 107) dX8_lookAtJoints_107 rfl rfl ?_
    refine x_getr (pc := 108) dX8_lookAtJoints_108 f_RX8_103 hk1 ?_
    refine x_iload (pc := 111) dX8_lookAtJoints_111 rfl ?_
    obtain ⟨g3, h⟩ := h
    refine x_iald (pc := 113) dX8_lookAtJoints_113 (wk_2_5 hW hk1) (wl_2_5 hW hk1) g3 ?_
    obtain ⟨R4, hc4, h⟩ := h
    refine x_callV (pc := 114) (z := m_X8_addReflector) (b := a0) (as := [.inl x5, .inl (M (rf E a1 5) (x4.toNat))]) (rest := []) dX8_lookAtJoints_114 c_RX8_72 (by decide) hk0 rfl (Nat.le_of_ble_eq_true rfl) hc4 (fun r M4 hr => ?_)
    obtain ⟨rfl, hr⟩ := hr
    replace h := h M4 hr
    show fx_At E m_X8_lookAtJoints 117 [some (.inr a0), some (.inr a1), some (.inl x2), some (.inl x3), some (.inl x4), some (.inl x5)] [] M4 Q
    refine x_iinc (pc := 117) (lv' := [some (.inr a0), some (.inr a1), some (.inl x2), some (.inl (x3 + 1)), some (.inl x4), some (.inl x5)]) dX8_lookAtJoints_117 rfl (by decide) rfl ?_
    refine x_goto (pc := 120) 20 dX8_lookAtJoints_120 (by decide) ?_
    refine x_weak (lv := [some (.inr a0), some (.inr a1), some (.inl x2), some (.inl (x3 + 1)), none, none]) (by simp [lvle]) ?_
    exact h
  · replace h := h.2 hc
    refine x_iload_n (pc := 100) dX8_lookAtJoints_100 rfl rfl ?_
    obtain ⟨g5, h⟩ := h
    refine x_zne (pc := 101) 117 dX8_lookAtJoints_101 (by decide) g5 (fun hc => ?_) (fun hc => ?_)
    · replace h := h.1 hc
      refine x_iinc (pc := 117) (lv' := [some (.inr a0), some (.inr a1), some (.inl x2), some (.inl (x3 + 1)), some (.inl x4), some (.inl x5)]) dX8_lookAtJoints_117 rfl (by decide) rfl ?_
      refine x_goto (pc := 120) 20 dX8_lookAtJoints_120 (by decide) ?_
      refine x_weak (lv := [some (.inr a0), some (.inr a1), some (.inl x2), some (.inl (x3 + 1)), none, none]) (by simp [lvle]) ?_
      exact h
    · replace h := h.2 hc
      refine x_aload_n (pc := 104) dX8_lookAtJoints_104 rfl rfl ?_
      refine x_iload (pc := 105) dX8_lookAtJoints_105 rfl ?_
      refine x_aload_n (pc := 107) dX8_lookAtJoints_107 rfl rfl ?_
      refine x_getr (pc := 108) dX8_lookAtJoints_108 f_RX8_103 hk1 ?_
      refine x_iload (pc := 111) dX8_lookAtJoints_111 rfl ?_
      obtain ⟨g6, h⟩ := h
      refine x_iald (pc := 113) dX8_lookAtJoints_113 (wk_2_5 hW hk1) (wl_2_5 hW hk1) g6 ?_
      obtain ⟨R7, hc7, h⟩ := h
      refine x_callV (pc := 114) (z := m_X8_addReflector) (b := a0) (as := [.inl x5, .inl (M (rf E a1 5) (x4.toNat))]) (rest := []) dX8_lookAtJoints_114 c_RX8_72 (by decide) hk0 rfl (Nat.le_of_ble_eq_true rfl) hc7 (fun r M7 hr => ?_)
      obtain ⟨rfl, hr⟩ := hr
      replace h := h M7 hr
      show fx_At E m_X8_lookAtJoints 117 [some (.inr a0), some (.inr a1), some (.inl x2), some (.inl x3), some (.inl x4), some (.inl x5)] [] M7 Q
      refine x_iinc (pc := 117) (lv' := [some (.inr a0), some (.inr a1), some (.inl x2), some (.inl (x3 + 1)), some (.inl x4), some (.inl x5)]) dX8_lookAtJoints_117 rfl (by decide) rfl ?_
      refine x_goto (pc := 120) 20 dX8_lookAtJoints_120 (by decide) ?_
      refine x_weak (lv := [some (.inr a0), some (.inr a1), some (.inl x2), some (.inl (x3 + 1)), none, none]) (by simp [lvle]) ?_
      exact h
theorem dX8_addReflector_0 : decode cX8_addReflector 0 = .ok (.iload_n 2, 1) := by decide +kernel
theorem dX8_addReflector_1 : decode cX8_addReflector 1 = .ok (.ifCond .le 45, 3) := by decide +kernel
theorem dX8_addReflector_4 : decode cX8_addReflector 4 = .ok (.aload_n 0, 1) := by decide +kernel
theorem dX8_addReflector_5 : decode cX8_addReflector 5 = .ok (.getfield 24, 3) := by decide +kernel
theorem dX8_addReflector_8 : decode cX8_addReflector 8 = .ok (.aload_n 0, 1) := by decide +kernel
theorem dX8_addReflector_9 : decode cX8_addReflector 9 = .ok (.getfield 18, 3) := by decide +kernel
theorem dX8_addReflector_12 : decode cX8_addReflector 12 = .ok (.arraylength, 1) := by decide +kernel
theorem dX8_addReflector_13 : decode cX8_addReflector 13 = .ok (.if_icmp .ge 33, 3) := by decide +kernel
theorem dX8_addReflector_16 : decode cX8_addReflector 16 = .ok (.aload_n 0, 1) := by decide +kernel
theorem dX8_addReflector_17 : decode cX8_addReflector 17 = .ok (.getfield 18, 3) := by decide +kernel
theorem dX8_addReflector_20 : decode cX8_addReflector 20 = .ok (.aload_n 0, 1) := by decide +kernel
theorem dX8_addReflector_21 : decode cX8_addReflector 21 = .ok (.getfield 24, 3) := by decide +kernel
theorem dX8_addReflector_24 : decode cX8_addReflector 24 = .ok (.iload_n 1, 1) := by decide +kernel
theorem dX8_addReflector_25 : decode cX8_addReflector 25 = .ok (.iastore, 1) := by decide +kernel
theorem dX8_addReflector_26 : decode cX8_addReflector 26 = .ok (.aload_n 0, 1) := by decide +kernel
theorem dX8_addReflector_27 : decode cX8_addReflector 27 = .ok (.getfield 21, 3) := by decide +kernel
theorem dX8_addReflector_30 : decode cX8_addReflector 30 = .ok (.aload_n 0, 1) := by decide +kernel
theorem dX8_addReflector_31 : decode cX8_addReflector 31 = .ok (.getfield 24, 3) := by decide +kernel
theorem dX8_addReflector_34 : decode cX8_addReflector 34 = .ok (.iload_n 2, 1) := by decide +kernel
theorem dX8_addReflector_35 : decode cX8_addReflector 35 = .ok (.iastore, 1) := by decide +kernel
theorem dX8_addReflector_36 : decode cX8_addReflector 36 = .ok (.aload_n 0, 1) := by decide +kernel
theorem dX8_addReflector_37 : decode cX8_addReflector 37 = .ok (.dup, 1) := by decide +kernel
theorem dX8_addReflector_38 : decode cX8_addReflector 38 = .ok (.getfield 24, 3) := by decide +kernel
theorem dX8_addReflector_41 : decode cX8_addReflector 41 = .ok (.iconst 1, 1) := by decide +kernel
theorem dX8_addReflector_42 : decode cX8_addReflector 42 = .ok (.iadd, 1) := by decide +kernel
theorem dX8_addReflector_43 : decode cX8_addReflector 43 = .ok (.putfield 24, 3) := by decide +kernel
theorem dX8_addReflector_46 : decode cX8_addReflector 46 = .ok (.return_, 1) := by decide +kernel
set_option maxRecDepth 100000 in
theorem b_X8_addReflector_0 {E : fxE} (hW : fx_Wt E) (a0 : Nat) (x1 : Int) (x2 : Int) (M : fxM) (Q : Option fxV → fxM → Prop) (hk0 : kd E a0 = 8) (h : (-2147483648 ≤ x2 ∧ x2 < 2147483648) ∧ ((x2 ≤ (0 : Int) → Q none M) ∧ (¬ x2 ≤ (0 : Int) → (-2147483648 ≤ (M a0 4) ∧ (M a0 4) < 2147483648) ∧ (((10 : Int) ≤ (M a0 4) → Q none M) ∧ (¬ (10 : Int) ≤ (M a0 4) → (0 ≤ (M a0 4) ∧ (M a0 4) < 10) ∧ ∀ M4 : fxM, M4 = mset M (rf E a0 2) ((M a0 4).toNat) x1 → (0 ≤ (M4 a0 4) ∧ (M4 a0 4) < 10) ∧ ∀ M6 : fxM, M6 = mset M4 (rf E a0 3) ((M4 a0 4).toNat) x2 → ∀ M7 : fxM, M7 = mset M6 a0 4 ((M6 a0 4) + 1) → Q none M7))))) : fx_At E m_X8_addReflector 0 [some (.inr a0), some (.inl x1), some (.inl x2)] [] M Q := by
  refine x_iload_n (pc := 0) dX8_addReflector_0 rfl rfl ?_
  obtain ⟨g1, h⟩ := h
  refine x_zle (pc := 1) 46 dX8_addReflector_1 (by decide) g1 (fun hc => ?_) (fun hc => ?_)
  · replace h := h.1 hc
    exact x_vret (pc := 46) dX8_addReflector_46 rfl h
  · replace h := h.2 hc
    refine x_aload_n (pc := 4) dX8_addReflector_4 rfl rfl ?_
    refine x_geti (pc := 5) dX8_addReflector_5 f_RX8_24 hk0 ?_
    refine x_aload_n (pc := 8) dX8_addReflector_8 rfl rfl ?_
    refine x_getr (pc := 9) dX8_addReflector_9 f_RX8_18 hk0 ?_
    refine x_alen (pc := 12) dX8_addReflector_12 (wk_8_2 hW hk0) (by decide) (by decide) (wl_8_2 hW hk0) ?_
    obtain ⟨g2, h⟩ := h
    refine x_cge (pc := 13) 46 dX8_addReflector_13 (by decide) ⟨g2, ⟨by decide, by decide⟩⟩ (fun hc => ?_) (fun hc => ?_)
    · replace h := h.1 hc
      exact x_vret (pc := 46) dX8_addReflector_46 rfl h
    · replace h := h.2 hc
      refine x_aload_n (pc := 16) dX8_addReflector_16 rfl rfl ?_
      refine x_getr (pc := 17) dX8_addReflector_17 f_RX8_18 hk0 ?_
      refine x_aload_n (pc := 20) dX8_addReflector_20 rfl rfl ?_
      refine x_geti (pc := 21) dX8_addReflector_21 f_RX8_24 hk0 ?_
      refine x_iload_n (pc := 24) dX8_addReflector_24 rfl rfl ?_
      obtain ⟨g3, h⟩ := h
      refine x_iast (pc := 25) dX8_addReflector_25 (wk_8_2 hW hk0) (wl_8_2 hW hk0) g3 (fun M4 hM4 => ?_)
      replace h := h M4 hM4
      refine x_aload_n (pc := 26) dX8_addReflector_26 rfl rfl ?_
      refine x_getr (pc := 27) dX8_addReflector_27 f_RX8_21 hk0 ?_
      refine x_aload_n (pc := 30) dX8_addReflector_30 rfl rfl ?_
      refine x_geti (pc := 31) dX8_addReflector_31 f_RX8_24 hk0 ?_
      refine x_iload_n (pc := 34) dX8_addReflector_34 rfl rfl ?_
      obtain ⟨g5, h⟩ := h
      refine x_iast (pc := 35) dX8_addReflector_35 (wk_8_3 hW hk0) (wl_8_3 hW hk0) g5 (fun M6 hM6 => ?_)
      replace h := h M6 hM6
      refine x_aload_n (pc := 36) dX8_addReflector_36 rfl rfl ?_
      refine x_dup (pc := 37) dX8_addReflector_37 ?_
      refine x_geti (pc := 38) dX8_addReflector_38 f_RX8_24 hk0 ?_
      refine x_iconst (pc := 41) dX8_addReflector_41 ?_
      refine x_iadd (pc := 42) dX8_addReflector_42 ?_
      refine x_puti (pc := 43) dX8_addReflector_43 f_RX8_24 hk0 (fun M7 hM7 => ?_)
      replace h := h M7 hM7
      exact x_vret (pc := 46) dX8_addReflector_46 rfl h
