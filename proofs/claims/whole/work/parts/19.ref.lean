theorem dX10_clearFibre_0 : decode cX10_clearFibre 0 = .ok (.iconst 0, 1) := by decide +kernel
theorem dX10_clearFibre_1 : decode cX10_clearFibre 1 = .ok (.istore_n 1, 1) := by decide +kernel
theorem dX10_clearFibre_2 : decode cX10_clearFibre 2 = .ok (.iload_n 1, 1) := by decide +kernel
theorem dX10_clearFibre_3 : decode cX10_clearFibre 3 = .ok (.bipush 58, 2) := by decide +kernel
theorem dX10_clearFibre_5 : decode cX10_clearFibre 5 = .ok (.if_icmp .ge 16, 3) := by decide +kernel
theorem dX10_clearFibre_8 : decode cX10_clearFibre 8 = .ok (.aload_n 0, 1) := by decide +kernel
theorem dX10_clearFibre_9 : decode cX10_clearFibre 9 = .ok (.getfield 7, 3) := by decide +kernel
theorem dX10_clearFibre_12 : decode cX10_clearFibre 12 = .ok (.iload_n 1, 1) := by decide +kernel
theorem dX10_clearFibre_13 : decode cX10_clearFibre 13 = .ok (.iconst 0, 1) := by decide +kernel
theorem dX10_clearFibre_14 : decode cX10_clearFibre 14 = .ok (.iastore, 1) := by decide +kernel
theorem dX10_clearFibre_15 : decode cX10_clearFibre 15 = .ok (.iinc 1 1, 3) := by decide +kernel
theorem dX10_clearFibre_18 : decode cX10_clearFibre 18 = .ok (.goto (-16), 3) := by decide +kernel
theorem dX10_clearFibre_21 : decode cX10_clearFibre 21 = .ok (.return_, 1) := by decide +kernel
set_option maxRecDepth 100000 in
theorem b_X10_clearFibre_0 {E : fxE} (hW : fx_Wt E) (a0 : Nat) (M : fxM) (Q : Option fxV → fxM → Prop) (hk0 : kd E a0 = 10) (h : fx_At E m_X10_clearFibre 2 [some (.inr a0), some (.inl 0)] [] M Q) : fx_At E m_X10_clearFibre 0 [some (.inr a0), none] [] M Q := by
  refine x_iconst (pc := 0) dX10_clearFibre_0 ?_
  refine x_istore_n (pc := 1) (lv' := [some (.inr a0), some (.inl 0)]) dX10_clearFibre_1 rfl (by decide) rfl ?_
  exact h
set_option maxRecDepth 100000 in
theorem b_X10_clearFibre_2 {E : fxE} (hW : fx_Wt E) (a0 : Nat) (x1 : Int) (M : fxM) (Q : Option fxV → fxM → Prop) (hk0 : kd E a0 = 10) (h : (-2147483648 ≤ x1 ∧ x1 < 2147483648) ∧ (((58 : Int) ≤ x1 → Q none M) ∧ (¬ (58 : Int) ≤ x1 → (0 ≤ x1 ∧ x1 < 84) ∧ ∀ M3 : fxM, M3 = mset M (rf E a0 0) (x1.toNat) 0 → fx_At E m_X10_clearFibre 2 [some (.inr a0), some (.inl (x1 + 1))] [] M3 Q))) : fx_At E m_X10_clearFibre 2 [some (.inr a0), some (.inl x1)] [] M Q := by
  refine x_iload_n (pc := 2) dX10_clearFibre_2 rfl rfl ?_
  refine x_bipush (pc := 3) dX10_clearFibre_3 (by decide +kernel) ?_
  obtain ⟨g1, h⟩ := h
  refine x_cge (pc := 5) 21 dX10_clearFibre_5 (by decide) ⟨g1, ⟨by decide, by decide⟩⟩ (fun hc => ?_) (fun hc => ?_)
  · replace h := h.1 hc
    exact x_vret (pc := 21) dX10_clearFibre_21 rfl h
  · replace h := h.2 hc
    refine x_aload_n (pc := 8) dX10_clearFibre_8 rfl rfl ?_
    refine x_getr (pc := 9) dX10_clearFibre_9 f_RX10_7 hk0 ?_
    refine x_iload_n (pc := 12) dX10_clearFibre_12 rfl rfl ?_
    refine x_iconst (pc := 13) dX10_clearFibre_13 ?_
    obtain ⟨g2, h⟩ := h
    refine x_iast (pc := 14) dX10_clearFibre_14 (wk_10_0 hW hk0) (wl_10_0 hW hk0) g2 (fun M3 hM3 => ?_)
    replace h := h M3 hM3
    refine x_iinc (pc := 15) (lv' := [some (.inr a0), some (.inl (x1 + 1))]) dX10_clearFibre_15 rfl (by decide) rfl ?_
    refine x_goto (pc := 18) 2 dX10_clearFibre_18 (by decide) ?_
    exact h
theorem dX10_append_0 : decode cX10_append 0 = .ok (.iconst 1, 1) := by decide +kernel
theorem dX10_append_1 : decode cX10_append 1 = .ok (.iconst 3, 1) := by decide +kernel
theorem dX10_append_2 : decode cX10_append 2 = .ok (.aload_n 0, 1) := by decide +kernel
theorem dX10_append_3 : decode cX10_append 3 = .ok (.getfield 7, 3) := by decide +kernel
theorem dX10_append_6 : decode cX10_append 6 = .ok (.iconst 0, 1) := by decide +kernel
theorem dX10_append_7 : decode cX10_append 7 = .ok (.iaload, 1) := by decide +kernel
theorem dX10_append_8 : decode cX10_append 8 = .ok (.imul, 1) := by decide +kernel
theorem dX10_append_9 : decode cX10_append 9 = .ok (.iadd, 1) := by decide +kernel
theorem dX10_append_10 : decode cX10_append 10 = .ok (.istore 4, 2) := by decide +kernel
theorem dX10_append_12 : decode cX10_append 12 = .ok (.aload_n 0, 1) := by decide +kernel
theorem dX10_append_13 : decode cX10_append 13 = .ok (.getfield 7, 3) := by decide +kernel
theorem dX10_append_16 : decode cX10_append 16 = .ok (.iload 4, 2) := by decide +kernel
theorem dX10_append_18 : decode cX10_append 18 = .ok (.iload_n 1, 1) := by decide +kernel
theorem dX10_append_19 : decode cX10_append 19 = .ok (.iastore, 1) := by decide +kernel
theorem dX10_append_20 : decode cX10_append 20 = .ok (.aload_n 0, 1) := by decide +kernel
theorem dX10_append_21 : decode cX10_append 21 = .ok (.getfield 7, 3) := by decide +kernel
theorem dX10_append_24 : decode cX10_append 24 = .ok (.iload 4, 2) := by decide +kernel
theorem dX10_append_26 : decode cX10_append 26 = .ok (.iconst 1, 1) := by decide +kernel
theorem dX10_append_27 : decode cX10_append 27 = .ok (.iadd, 1) := by decide +kernel
theorem dX10_append_28 : decode cX10_append 28 = .ok (.iload_n 2, 1) := by decide +kernel
theorem dX10_append_29 : decode cX10_append 29 = .ok (.iastore, 1) := by decide +kernel
theorem dX10_append_30 : decode cX10_append 30 = .ok (.aload_n 0, 1) := by decide +kernel
theorem dX10_append_31 : decode cX10_append 31 = .ok (.getfield 7, 3) := by decide +kernel
theorem dX10_append_34 : decode cX10_append 34 = .ok (.iload 4, 2) := by decide +kernel
theorem dX10_append_36 : decode cX10_append 36 = .ok (.iconst 2, 1) := by decide +kernel
theorem dX10_append_37 : decode cX10_append 37 = .ok (.iadd, 1) := by decide +kernel
theorem dX10_append_38 : decode cX10_append 38 = .ok (.iload_n 3, 1) := by decide +kernel
theorem dX10_append_39 : decode cX10_append 39 = .ok (.iastore, 1) := by decide +kernel
theorem dX10_append_40 : decode cX10_append 40 = .ok (.aload_n 0, 1) := by decide +kernel
theorem dX10_append_41 : decode cX10_append 41 = .ok (.getfield 7, 3) := by decide +kernel
theorem dX10_append_44 : decode cX10_append 44 = .ok (.iconst 0, 1) := by decide +kernel
theorem dX10_append_45 : decode cX10_append 45 = .ok (.dup2, 1) := by decide +kernel
theorem dX10_append_46 : decode cX10_append 46 = .ok (.iaload, 1) := by decide +kernel
theorem dX10_append_47 : decode cX10_append 47 = .ok (.iconst 1, 1) := by decide +kernel
theorem dX10_append_48 : decode cX10_append 48 = .ok (.iadd, 1) := by decide +kernel
theorem dX10_append_49 : decode cX10_append 49 = .ok (.iastore, 1) := by decide +kernel
theorem dX10_append_50 : decode cX10_append 50 = .ok (.aload_n 0, 1) := by decide +kernel
theorem dX10_append_51 : decode cX10_append 51 = .ok (.getfield 7, 3) := by decide +kernel
theorem dX10_append_54 : decode cX10_append 54 = .ok (.bipush 25, 2) := by decide +kernel
theorem dX10_append_56 : decode cX10_append 56 = .ok (.iconst 2, 1) := by decide +kernel
theorem dX10_append_57 : decode cX10_append 57 = .ok (.aload_n 0, 1) := by decide +kernel
theorem dX10_append_58 : decode cX10_append 58 = .ok (.getfield 7, 3) := by decide +kernel
theorem dX10_append_61 : decode cX10_append 61 = .ok (.iconst 0, 1) := by decide +kernel
theorem dX10_append_62 : decode cX10_append 62 = .ok (.iaload, 1) := by decide +kernel
theorem dX10_append_63 : decode cX10_append 63 = .ok (.imul, 1) := by decide +kernel
theorem dX10_append_64 : decode cX10_append 64 = .ok (.iadd, 1) := by decide +kernel
theorem dX10_append_65 : decode cX10_append 65 = .ok (.iconst 0, 1) := by decide +kernel
theorem dX10_append_66 : decode cX10_append 66 = .ok (.iastore, 1) := by decide +kernel
theorem dX10_append_67 : decode cX10_append 67 = .ok (.aload_n 0, 1) := by decide +kernel
theorem dX10_append_68 : decode cX10_append 68 = .ok (.getfield 7, 3) := by decide +kernel
theorem dX10_append_71 : decode cX10_append 71 = .ok (.bipush 25, 2) := by decide +kernel
theorem dX10_append_73 : decode cX10_append 73 = .ok (.iconst 2, 1) := by decide +kernel
theorem dX10_append_74 : decode cX10_append 74 = .ok (.aload_n 0, 1) := by decide +kernel
theorem dX10_append_75 : decode cX10_append 75 = .ok (.getfield 7, 3) := by decide +kernel
theorem dX10_append_78 : decode cX10_append 78 = .ok (.iconst 0, 1) := by decide +kernel
theorem dX10_append_79 : decode cX10_append 79 = .ok (.iaload, 1) := by decide +kernel
theorem dX10_append_80 : decode cX10_append 80 = .ok (.imul, 1) := by decide +kernel
theorem dX10_append_81 : decode cX10_append 81 = .ok (.iadd, 1) := by decide +kernel
theorem dX10_append_82 : decode cX10_append 82 = .ok (.iconst 1, 1) := by decide +kernel
theorem dX10_append_83 : decode cX10_append 83 = .ok (.iadd, 1) := by decide +kernel
theorem dX10_append_84 : decode cX10_append 84 = .ok (.iconst 0, 1) := by decide +kernel
theorem dX10_append_85 : decode cX10_append 85 = .ok (.iastore, 1) := by decide +kernel
theorem dX10_append_86 : decode cX10_append 86 = .ok (.return_, 1) := by decide +kernel
set_option maxRecDepth 100000 in
theorem b_X10_append_0 {E : fxE} (hW : fx_Wt E) (a0 : Nat) (x1 : Int) (x2 : Int) (x3 : Int) (M : fxM) (Q : Option fxV → fxM → Prop) (hk0 : kd E a0 = 10) (h : (0 ≤ (1 + (3 * (M (rf E a0 0) 0))) ∧ (1 + (3 * (M (rf E a0 0) 0))) < 84) ∧ ∀ M2 : fxM, M2 = mset M (rf E a0 0) ((1 + (3 * (M (rf E a0 0) 0))).toNat) x1 → (0 ≤ ((1 + (3 * (M (rf E a0 0) 0))) + 1) ∧ ((1 + (3 * (M (rf E a0 0) 0))) + 1) < 84) ∧ ∀ M4 : fxM, M4 = mset M2 (rf E a0 0) (((1 + (3 * (M (rf E a0 0) 0))) + 1).toNat) x2 → (0 ≤ ((1 + (3 * (M (rf E a0 0) 0))) + 2) ∧ ((1 + (3 * (M (rf E a0 0) 0))) + 2) < 84) ∧ ∀ M6 : fxM, M6 = mset M4 (rf E a0 0) (((1 + (3 * (M (rf E a0 0) 0))) + 2).toNat) x3 → ∀ M7 : fxM, M7 = mset M6 (rf E a0 0) 0 ((M6 (rf E a0 0) 0) + 1) → (0 ≤ (25 + (2 * (M7 (rf E a0 0) 0))) ∧ (25 + (2 * (M7 (rf E a0 0) 0))) < 84) ∧ ∀ M9 : fxM, M9 = mset M7 (rf E a0 0) ((25 + (2 * (M7 (rf E a0 0) 0))).toNat) 0 → (0 ≤ ((25 + (2 * (M9 (rf E a0 0) 0))) + 1) ∧ ((25 + (2 * (M9 (rf E a0 0) 0))) + 1) < 84) ∧ ∀ M11 : fxM, M11 = mset M9 (rf E a0 0) (((25 + (2 * (M9 (rf E a0 0) 0))) + 1).toNat) 0 → Q none M11) : fx_At E m_X10_append 0 [some (.inr a0), some (.inl x1), some (.inl x2), some (.inl x3), none] [] M Q := by
  refine x_iconst (pc := 0) dX10_append_0 ?_
  refine x_iconst (pc := 1) dX10_append_1 ?_
  refine x_aload_n (pc := 2) dX10_append_2 rfl rfl ?_
  refine x_getr (pc := 3) dX10_append_3 f_RX10_7 hk0 ?_
  refine x_iconst (pc := 6) dX10_append_6 ?_
  refine x_iald (pc := 7) dX10_append_7 (wk_10_0 hW hk0) (wl_10_0 hW hk0) ⟨by decide, by decide⟩ ?_
  refine x_imul (pc := 8) dX10_append_8 ?_
  refine x_iadd (pc := 9) dX10_append_9 ?_
  refine x_istore (pc := 10) (lv' := [some (.inr a0), some (.inl x1), some (.inl x2), some (.inl x3), some (.inl (1 + (3 * (M (rf E a0 0) 0))))]) dX10_append_10 (by decide) rfl ?_
  refine x_aload_n (pc := 12) dX10_append_12 rfl rfl ?_
  refine x_getr (pc := 13) dX10_append_13 f_RX10_7 hk0 ?_
  refine x_iload (pc := 16) dX10_append_16 rfl ?_
  refine x_iload_n (pc := 18) dX10_append_18 rfl rfl ?_
  obtain ⟨g1, h⟩ := h
  refine x_iast (pc := 19) dX10_append_19 (wk_10_0 hW hk0) (wl_10_0 hW hk0) g1 (fun M2 hM2 => ?_)
  replace h := h M2 hM2
  refine x_aload_n (pc := 20) dX10_append_20 rfl rfl ?_
  refine x_getr (pc := 21) dX10_append_21 f_RX10_7 hk0 ?_
  refine x_iload (pc := 24) dX10_append_24 rfl ?_
  refine x_iconst (pc := 26) dX10_append_26 ?_
  refine x_iadd (pc := 27) dX10_append_27 ?_
  refine x_iload_n (pc := 28) dX10_append_28 rfl rfl ?_
  obtain ⟨g3, h⟩ := h
  refine x_iast (pc := 29) dX10_append_29 (wk_10_0 hW hk0) (wl_10_0 hW hk0) g3 (fun M4 hM4 => ?_)
  replace h := h M4 hM4
  refine x_aload_n (pc := 30) dX10_append_30 rfl rfl ?_
  refine x_getr (pc := 31) dX10_append_31 f_RX10_7 hk0 ?_
  refine x_iload (pc := 34) dX10_append_34 rfl ?_
  refine x_iconst (pc := 36) dX10_append_36 ?_
  refine x_iadd (pc := 37) dX10_append_37 ?_
  refine x_iload_n (pc := 38) dX10_append_38 rfl rfl ?_
  obtain ⟨g5, h⟩ := h
  refine x_iast (pc := 39) dX10_append_39 (wk_10_0 hW hk0) (wl_10_0 hW hk0) g5 (fun M6 hM6 => ?_)
  replace h := h M6 hM6
  refine x_aload_n (pc := 40) dX10_append_40 rfl rfl ?_
  refine x_getr (pc := 41) dX10_append_41 f_RX10_7 hk0 ?_
  refine x_iconst (pc := 44) dX10_append_44 ?_
  refine x_dup2 (pc := 45) dX10_append_45 ?_
  refine x_iald (pc := 46) dX10_append_46 (wk_10_0 hW hk0) (wl_10_0 hW hk0) ⟨by decide, by decide⟩ ?_
  refine x_iconst (pc := 47) dX10_append_47 ?_
  refine x_iadd (pc := 48) dX10_append_48 ?_
  refine x_iast (pc := 49) dX10_append_49 (wk_10_0 hW hk0) (wl_10_0 hW hk0) ⟨by decide, by decide⟩ (fun M7 hM7 => ?_)
  replace h := h M7 hM7
  refine x_aload_n (pc := 50) dX10_append_50 rfl rfl ?_
  refine x_getr (pc := 51) dX10_append_51 f_RX10_7 hk0 ?_
  refine x_bipush (pc := 54) dX10_append_54 (by decide +kernel) ?_
  refine x_iconst (pc := 56) dX10_append_56 ?_
  refine x_aload_n (pc := 57) dX10_append_57 rfl rfl ?_
  refine x_getr (pc := 58) dX10_append_58 f_RX10_7 hk0 ?_
  refine x_iconst (pc := 61) dX10_append_61 ?_
  refine x_iald (pc := 62) dX10_append_62 (wk_10_0 hW hk0) (wl_10_0 hW hk0) ⟨by decide, by decide⟩ ?_
  refine x_imul (pc := 63) dX10_append_63 ?_
  refine x_iadd (pc := 64) dX10_append_64 ?_
  refine x_iconst (pc := 65) dX10_append_65 ?_
  obtain ⟨g8, h⟩ := h
  refine x_iast (pc := 66) dX10_append_66 (wk_10_0 hW hk0) (wl_10_0 hW hk0) g8 (fun M9 hM9 => ?_)
  replace h := h M9 hM9
  refine x_aload_n (pc := 67) dX10_append_67 rfl rfl ?_
  refine x_getr (pc := 68) dX10_append_68 f_RX10_7 hk0 ?_
  refine x_bipush (pc := 71) dX10_append_71 (by decide +kernel) ?_
  refine x_iconst (pc := 73) dX10_append_73 ?_
  refine x_aload_n (pc := 74) dX10_append_74 rfl rfl ?_
  refine x_getr (pc := 75) dX10_append_75 f_RX10_7 hk0 ?_
  refine x_iconst (pc := 78) dX10_append_78 ?_
  refine x_iald (pc := 79) dX10_append_79 (wk_10_0 hW hk0) (wl_10_0 hW hk0) ⟨by decide, by decide⟩ ?_
  refine x_imul (pc := 80) dX10_append_80 ?_
  refine x_iadd (pc := 81) dX10_append_81 ?_
  refine x_iconst (pc := 82) dX10_append_82 ?_
  refine x_iadd (pc := 83) dX10_append_83 ?_
  refine x_iconst (pc := 84) dX10_append_84 ?_
  obtain ⟨g10, h⟩ := h
  refine x_iast (pc := 85) dX10_append_85 (wk_10_0 hW hk0) (wl_10_0 hW hk0) g10 (fun M11 hM11 => ?_)
  replace h := h M11 hM11
  exact x_vret (pc := 86) dX10_append_86 rfl h
theorem dX10_renew_0 : decode cX10_renew 0 = .ok (.aload_n 0, 1) := by decide +kernel
theorem dX10_renew_1 : decode cX10_renew 1 = .ok (.invokevirtual 61, 3) := by decide +kernel
theorem dX10_renew_4 : decode cX10_renew 4 = .ok (.aload_n 0, 1) := by decide +kernel
theorem dX10_renew_5 : decode cX10_renew 5 = .ok (.iload_n 1, 1) := by decide +kernel
theorem dX10_renew_6 : decode cX10_renew 6 = .ok (.iload_n 2, 1) := by decide +kernel
theorem dX10_renew_7 : decode cX10_renew 7 = .ok (.iload_n 3, 1) := by decide +kernel
theorem dX10_renew_8 : decode cX10_renew 8 = .ok (.invokevirtual 64, 3) := by decide +kernel
theorem dX10_renew_11 : decode cX10_renew 11 = .ok (.return_, 1) := by decide +kernel
set_option maxRecDepth 100000 in
theorem b_X10_renew_0 {E : fxE} (hW : fx_Wt E) (a0 : Nat) (x1 : Int) (x2 : Int) (x3 : Int) (M : fxM) (Q : Option fxV → fxM → Prop) (hk0 : kd E a0 = 10) (h : ∃ R1 : fxM → Prop, CtV E m_X10_clearFibre [.inr a0] M R1 ∧ ∀ M1 : fxM, R1 M1 → ∃ R2 : fxM → Prop, CtV E m_X10_append [.inr a0, .inl x1, .inl x2, .inl x3] M1 R2 ∧ ∀ M2 : fxM, R2 M2 → Q none M2) : fx_At E m_X10_renew 0 [some (.inr a0), some (.inl x1), some (.inl x2), some (.inl x3)] [] M Q := by
  refine x_aload_n (pc := 0) dX10_renew_0 rfl rfl ?_
  obtain ⟨R1, hc1, h⟩ := h
  refine x_callV (pc := 1) (z := m_X10_clearFibre) (b := a0) (as := []) (rest := []) dX10_renew_1 c_RX10_61 (by decide) hk0 rfl (Nat.le_of_ble_eq_true rfl) hc1 (fun r M1 hr => ?_)
  obtain ⟨rfl, hr⟩ := hr
  replace h := h M1 hr
  show fx_At E m_X10_renew 4 [some (.inr a0), some (.inl x1), some (.inl x2), some (.inl x3)] [] M1 Q
  refine x_aload_n (pc := 4) dX10_renew_4 rfl rfl ?_
  refine x_iload_n (pc := 5) dX10_renew_5 rfl rfl ?_
  refine x_iload_n (pc := 6) dX10_renew_6 rfl rfl ?_
  refine x_iload_n (pc := 7) dX10_renew_7 rfl rfl ?_
  obtain ⟨R2, hc2, h⟩ := h
  refine x_callV (pc := 8) (z := m_X10_append) (b := a0) (as := [.inl x1, .inl x2, .inl x3]) (rest := []) dX10_renew_8 c_RX10_64 (by decide) hk0 rfl (Nat.le_of_ble_eq_true rfl) hc2 (fun r M2 hr => ?_)
  obtain ⟨rfl, hr⟩ := hr
  replace h := h M2 hr
  show fx_At E m_X10_renew 11 [some (.inr a0), some (.inl x1), some (.inl x2), some (.inl x3)] [] M2 Q
  exact x_vret (pc := 11) dX10_renew_11 rfl h
theorem dX10_keep_0 : decode cX10_keep 0 = .ok (.aload_n 0, 1) := by decide +kernel
theorem dX10_keep_1 : decode cX10_keep 1 = .ok (.iconst (-1), 1) := by decide +kernel
theorem dX10_keep_2 : decode cX10_keep 2 = .ok (.putfield 16, 3) := by decide +kernel
theorem dX10_keep_5 : decode cX10_keep 5 = .ok (.aload_n 0, 1) := by decide +kernel
theorem dX10_keep_6 : decode cX10_keep 6 = .ok (.getfield 71, 3) := by decide +kernel
theorem dX10_keep_9 : decode cX10_keep 9 = .ok (.bipush 8, 2) := by decide +kernel
theorem dX10_keep_11 : decode cX10_keep 11 = .ok (.if_icmp .ne 43, 3) := by decide +kernel
theorem dX10_keep_14 : decode cX10_keep 14 = .ok (.iconst 0, 1) := by decide +kernel
theorem dX10_keep_15 : decode cX10_keep 15 = .ok (.istore_n 1, 1) := by decide +kernel
theorem dX10_keep_16 : decode cX10_keep 16 = .ok (.iload_n 1, 1) := by decide +kernel
theorem dX10_keep_17 : decode cX10_keep 17 = .ok (.sipush 588, 3) := by decide +kernel
theorem dX10_keep_20 : decode cX10_keep 20 = .ok (.if_icmp .ge 24, 3) := by decide +kernel
theorem dX10_keep_23 : decode cX10_keep 23 = .ok (.aload_n 0, 1) := by decide +kernel
theorem dX10_keep_24 : decode cX10_keep 24 = .ok (.getfield 13, 3) := by decide +kernel
theorem dX10_keep_27 : decode cX10_keep 27 = .ok (.iload_n 1, 1) := by decide +kernel
theorem dX10_keep_28 : decode cX10_keep 28 = .ok (.aload_n 0, 1) := by decide +kernel
theorem dX10_keep_29 : decode cX10_keep 29 = .ok (.getfield 13, 3) := by decide +kernel
theorem dX10_keep_32 : decode cX10_keep 32 = .ok (.iload_n 1, 1) := by decide +kernel
theorem dX10_keep_33 : decode cX10_keep 33 = .ok (.bipush 84, 2) := by decide +kernel
theorem dX10_keep_35 : decode cX10_keep 35 = .ok (.iadd, 1) := by decide +kernel
theorem dX10_keep_36 : decode cX10_keep 36 = .ok (.iaload, 1) := by decide +kernel
theorem dX10_keep_37 : decode cX10_keep 37 = .ok (.iastore, 1) := by decide +kernel
theorem dX10_keep_38 : decode cX10_keep 38 = .ok (.iinc 1 1, 3) := by decide +kernel
theorem dX10_keep_41 : decode cX10_keep 41 = .ok (.goto (-25), 3) := by decide +kernel
theorem dX10_keep_44 : decode cX10_keep 44 = .ok (.aload_n 0, 1) := by decide +kernel
theorem dX10_keep_45 : decode cX10_keep 45 = .ok (.dup, 1) := by decide +kernel
theorem dX10_keep_46 : decode cX10_keep 46 = .ok (.getfield 71, 3) := by decide +kernel
theorem dX10_keep_49 : decode cX10_keep 49 = .ok (.iconst 1, 1) := by decide +kernel
theorem dX10_keep_50 : decode cX10_keep 50 = .ok (.isub, 1) := by decide +kernel
theorem dX10_keep_51 : decode cX10_keep 51 = .ok (.putfield 71, 3) := by decide +kernel
theorem dX10_keep_54 : decode cX10_keep 54 = .ok (.iconst 0, 1) := by decide +kernel
theorem dX10_keep_55 : decode cX10_keep 55 = .ok (.istore_n 1, 1) := by decide +kernel
theorem dX10_keep_56 : decode cX10_keep 56 = .ok (.iload_n 1, 1) := by decide +kernel
theorem dX10_keep_57 : decode cX10_keep 57 = .ok (.bipush 84, 2) := by decide +kernel
theorem dX10_keep_59 : decode cX10_keep 59 = .ok (.if_icmp .ge 29, 3) := by decide +kernel
theorem dX10_keep_62 : decode cX10_keep 62 = .ok (.aload_n 0, 1) := by decide +kernel
theorem dX10_keep_63 : decode cX10_keep 63 = .ok (.getfield 13, 3) := by decide +kernel
theorem dX10_keep_66 : decode cX10_keep 66 = .ok (.bipush 84, 2) := by decide +kernel
theorem dX10_keep_68 : decode cX10_keep 68 = .ok (.aload_n 0, 1) := by decide +kernel
theorem dX10_keep_69 : decode cX10_keep 69 = .ok (.getfield 71, 3) := by decide +kernel
theorem dX10_keep_72 : decode cX10_keep 72 = .ok (.imul, 1) := by decide +kernel
theorem dX10_keep_73 : decode cX10_keep 73 = .ok (.iload_n 1, 1) := by decide +kernel
theorem dX10_keep_74 : decode cX10_keep 74 = .ok (.iadd, 1) := by decide +kernel
theorem dX10_keep_75 : decode cX10_keep 75 = .ok (.aload_n 0, 1) := by decide +kernel
theorem dX10_keep_76 : decode cX10_keep 76 = .ok (.getfield 7, 3) := by decide +kernel
theorem dX10_keep_79 : decode cX10_keep 79 = .ok (.iload_n 1, 1) := by decide +kernel
theorem dX10_keep_80 : decode cX10_keep 80 = .ok (.iaload, 1) := by decide +kernel
theorem dX10_keep_81 : decode cX10_keep 81 = .ok (.iastore, 1) := by decide +kernel
theorem dX10_keep_82 : decode cX10_keep 82 = .ok (.iinc 1 1, 3) := by decide +kernel
theorem dX10_keep_85 : decode cX10_keep 85 = .ok (.goto (-29), 3) := by decide +kernel
theorem dX10_keep_88 : decode cX10_keep 88 = .ok (.aload_n 0, 1) := by decide +kernel
theorem dX10_keep_89 : decode cX10_keep 89 = .ok (.dup, 1) := by decide +kernel
theorem dX10_keep_90 : decode cX10_keep 90 = .ok (.getfield 71, 3) := by decide +kernel
theorem dX10_keep_93 : decode cX10_keep 93 = .ok (.iconst 1, 1) := by decide +kernel
theorem dX10_keep_94 : decode cX10_keep 94 = .ok (.iadd, 1) := by decide +kernel
theorem dX10_keep_95 : decode cX10_keep 95 = .ok (.putfield 71, 3) := by decide +kernel
theorem dX10_keep_98 : decode cX10_keep 98 = .ok (.return_, 1) := by decide +kernel
set_option maxRecDepth 100000 in
theorem b_X10_keep_0 {E : fxE} (hW : fx_Wt E) (a0 : Nat) (M : fxM) (Q : Option fxV → fxM → Prop) (hk0 : kd E a0 = 10) (h : ∀ M1 : fxM, M1 = mset M a0 3 (-1) → (-2147483648 ≤ (M1 a0 2) ∧ (M1 a0 2) < 2147483648) ∧ ((¬ (M1 a0 2) = (8 : Int) → fx_At E m_X10_keep 56 [some (.inr a0), some (.inl 0)] [] M1 Q) ∧ ((M1 a0 2) = (8 : Int) → fx_At E m_X10_keep 16 [some (.inr a0), some (.inl 0)] [] M1 Q))) : fx_At E m_X10_keep 0 [some (.inr a0), none] [] M Q := by
  refine x_aload_n (pc := 0) dX10_keep_0 rfl rfl ?_
  refine x_iconst (pc := 1) dX10_keep_1 ?_
  refine x_puti (pc := 2) dX10_keep_2 f_RX10_16 hk0 (fun M1 hM1 => ?_)
  replace h := h M1 hM1
  refine x_aload_n (pc := 5) dX10_keep_5 rfl rfl ?_
  refine x_geti (pc := 6) dX10_keep_6 f_RX10_71 hk0 ?_
  refine x_bipush (pc := 9) dX10_keep_9 (by decide +kernel) ?_
  obtain ⟨g2, h⟩ := h
  refine x_cne (pc := 11) 54 dX10_keep_11 (by decide) ⟨g2, ⟨by decide, by decide⟩⟩ (fun hc => ?_) (fun hc => ?_)
  · replace h := h.1 hc
    refine x_iconst (pc := 54) dX10_keep_54 ?_
    refine x_istore_n (pc := 55) (lv' := [some (.inr a0), some (.inl 0)]) dX10_keep_55 rfl (by decide) rfl ?_
    exact h
  · replace h := h.2 hc
    refine x_iconst (pc := 14) dX10_keep_14 ?_
    refine x_istore_n (pc := 15) (lv' := [some (.inr a0), some (.inl 0)]) dX10_keep_15 rfl (by decide) rfl ?_
    exact h
set_option maxRecDepth 100000 in
theorem b_X10_keep_16 {E : fxE} (hW : fx_Wt E) (a0 : Nat) (x1 : Int) (M : fxM) (Q : Option fxV → fxM → Prop) (hk0 : kd E a0 = 10) (h : (-2147483648 ≤ x1 ∧ x1 < 2147483648) ∧ (((588 : Int) ≤ x1 → ∀ M2 : fxM, M2 = mset M a0 2 ((M a0 2) - 1) → fx_At E m_X10_keep 56 [some (.inr a0), some (.inl 0)] [] M2 Q) ∧ (¬ (588 : Int) ≤ x1 → (0 ≤ (x1 + 84) ∧ (x1 + 84) < 672) ∧ (0 ≤ x1 ∧ x1 < 672) ∧ ∀ M5 : fxM, M5 = mset M (rf E a0 1) (x1.toNat) (M (rf E a0 1) ((x1 + 84).toNat)) → fx_At E m_X10_keep 16 [some (.inr a0), some (.inl (x1 + 1))] [] M5 Q))) : fx_At E m_X10_keep 16 [some (.inr a0), some (.inl x1)] [] M Q := by
  refine x_iload_n (pc := 16) dX10_keep_16 rfl rfl ?_
  refine x_sipush (pc := 17) dX10_keep_17 (by decide +kernel) ?_
  obtain ⟨g1, h⟩ := h
  refine x_cge (pc := 20) 44 dX10_keep_20 (by decide) ⟨g1, ⟨by decide, by decide⟩⟩ (fun hc => ?_) (fun hc => ?_)
  · replace h := h.1 hc
    refine x_aload_n (pc := 44) dX10_keep_44 rfl rfl ?_
    refine x_dup (pc := 45) dX10_keep_45 ?_
    refine x_geti (pc := 46) dX10_keep_46 f_RX10_71 hk0 ?_
    refine x_iconst (pc := 49) dX10_keep_49 ?_
    refine x_isub (pc := 50) dX10_keep_50 ?_
    refine x_puti (pc := 51) dX10_keep_51 f_RX10_71 hk0 (fun M2 hM2 => ?_)
    replace h := h M2 hM2
    refine x_iconst (pc := 54) dX10_keep_54 ?_
    refine x_istore_n (pc := 55) (lv' := [some (.inr a0), some (.inl 0)]) dX10_keep_55 rfl (by decide) rfl ?_
    exact h
  · replace h := h.2 hc
    refine x_aload_n (pc := 23) dX10_keep_23 rfl rfl ?_
    refine x_getr (pc := 24) dX10_keep_24 f_RX10_13 hk0 ?_
    refine x_iload_n (pc := 27) dX10_keep_27 rfl rfl ?_
    refine x_aload_n (pc := 28) dX10_keep_28 rfl rfl ?_
    refine x_getr (pc := 29) dX10_keep_29 f_RX10_13 hk0 ?_
    refine x_iload_n (pc := 32) dX10_keep_32 rfl rfl ?_
    refine x_bipush (pc := 33) dX10_keep_33 (by decide +kernel) ?_
    refine x_iadd (pc := 35) dX10_keep_35 ?_
    obtain ⟨g3, h⟩ := h
    refine x_iald (pc := 36) dX10_keep_36 (wk_10_1 hW hk0) (wl_10_1 hW hk0) g3 ?_
    obtain ⟨g4, h⟩ := h
    refine x_iast (pc := 37) dX10_keep_37 (wk_10_1 hW hk0) (wl_10_1 hW hk0) g4 (fun M5 hM5 => ?_)
    replace h := h M5 hM5
    refine x_iinc (pc := 38) (lv' := [some (.inr a0), some (.inl (x1 + 1))]) dX10_keep_38 rfl (by decide) rfl ?_
    refine x_goto (pc := 41) 16 dX10_keep_41 (by decide) ?_
    exact h
set_option maxRecDepth 100000 in
theorem b_X10_keep_56 {E : fxE} (hW : fx_Wt E) (a0 : Nat) (x1 : Int) (M : fxM) (Q : Option fxV → fxM → Prop) (hk0 : kd E a0 = 10) (h : (-2147483648 ≤ x1 ∧ x1 < 2147483648) ∧ (((84 : Int) ≤ x1 → ∀ M2 : fxM, M2 = mset M a0 2 ((M a0 2) + 1) → Q none M2) ∧ (¬ (84 : Int) ≤ x1 → (0 ≤ x1 ∧ x1 < 84) ∧ (0 ≤ ((84 * (M a0 2)) + x1) ∧ ((84 * (M a0 2)) + x1) < 672) ∧ ∀ M5 : fxM, M5 = mset M (rf E a0 1) (((84 * (M a0 2)) + x1).toNat) (M (rf E a0 0) (x1.toNat)) → fx_At E m_X10_keep 56 [some (.inr a0), some (.inl (x1 + 1))] [] M5 Q))) : fx_At E m_X10_keep 56 [some (.inr a0), some (.inl x1)] [] M Q := by
  refine x_iload_n (pc := 56) dX10_keep_56 rfl rfl ?_
  refine x_bipush (pc := 57) dX10_keep_57 (by decide +kernel) ?_
  obtain ⟨g1, h⟩ := h
  refine x_cge (pc := 59) 88 dX10_keep_59 (by decide) ⟨g1, ⟨by decide, by decide⟩⟩ (fun hc => ?_) (fun hc => ?_)
  · replace h := h.1 hc
    refine x_aload_n (pc := 88) dX10_keep_88 rfl rfl ?_
    refine x_dup (pc := 89) dX10_keep_89 ?_
    refine x_geti (pc := 90) dX10_keep_90 f_RX10_71 hk0 ?_
    refine x_iconst (pc := 93) dX10_keep_93 ?_
    refine x_iadd (pc := 94) dX10_keep_94 ?_
    refine x_puti (pc := 95) dX10_keep_95 f_RX10_71 hk0 (fun M2 hM2 => ?_)
    replace h := h M2 hM2
    exact x_vret (pc := 98) dX10_keep_98 rfl h
  · replace h := h.2 hc
    refine x_aload_n (pc := 62) dX10_keep_62 rfl rfl ?_
    refine x_getr (pc := 63) dX10_keep_63 f_RX10_13 hk0 ?_
    refine x_bipush (pc := 66) dX10_keep_66 (by decide +kernel) ?_
    refine x_aload_n (pc := 68) dX10_keep_68 rfl rfl ?_
    refine x_geti (pc := 69) dX10_keep_69 f_RX10_71 hk0 ?_
    refine x_imul (pc := 72) dX10_keep_72 ?_
    refine x_iload_n (pc := 73) dX10_keep_73 rfl rfl ?_
    refine x_iadd (pc := 74) dX10_keep_74 ?_
    refine x_aload_n (pc := 75) dX10_keep_75 rfl rfl ?_
    refine x_getr (pc := 76) dX10_keep_76 f_RX10_7 hk0 ?_
    refine x_iload_n (pc := 79) dX10_keep_79 rfl rfl ?_
    obtain ⟨g3, h⟩ := h
    refine x_iald (pc := 80) dX10_keep_80 (wk_10_0 hW hk0) (wl_10_0 hW hk0) g3 ?_
    obtain ⟨g4, h⟩ := h
    refine x_iast (pc := 81) dX10_keep_81 (wk_10_1 hW hk0) (wl_10_1 hW hk0) g4 (fun M5 hM5 => ?_)
    replace h := h M5 hM5
    refine x_iinc (pc := 82) (lv' := [some (.inr a0), some (.inl (x1 + 1))]) dX10_keep_82 rfl (by decide) rfl ?_
    refine x_goto (pc := 85) 56 dX10_keep_85 (by decide) ?_
    exact h
theorem dX10_begin_0 : decode cX10_begin 0 = .ok (.iload_n 1, 1) := by decide +kernel
theorem dX10_begin_1 : decode cX10_begin 1 = .ok (.iload_n 2, 1) := by decide +kernel
theorem dX10_begin_2 : decode cX10_begin 2 = .ok (.iload_n 3, 1) := by decide +kernel
theorem dX10_begin_3 : decode cX10_begin 3 = .ok (.invokestatic 78, 3) := by decide +kernel
theorem dX10_begin_6 : decode cX10_begin 6 = .ok (.ifCond .ne 6, 3) := by decide +kernel
theorem dX10_begin_9 : decode cX10_begin 9 = .ok (.ldc 81, 2) := by decide +kernel
theorem dX10_begin_11 : decode cX10_begin 11 = .ok (.ireturn, 1) := by decide +kernel
theorem dX10_begin_12 : decode cX10_begin 12 = .ok (.aload_n 0, 1) := by decide +kernel
theorem dX10_begin_13 : decode cX10_begin 13 = .ok (.invokevirtual 82, 3) := by decide +kernel
theorem dX10_begin_16 : decode cX10_begin 16 = .ok (.aload_n 0, 1) := by decide +kernel
theorem dX10_begin_17 : decode cX10_begin 17 = .ok (.invokevirtual 85, 3) := by decide +kernel
theorem dX10_begin_20 : decode cX10_begin 20 = .ok (.istore 4, 2) := by decide +kernel
theorem dX10_begin_22 : decode cX10_begin 22 = .ok (.aload_n 0, 1) := by decide +kernel
theorem dX10_begin_23 : decode cX10_begin 23 = .ok (.iload_n 1, 1) := by decide +kernel
theorem dX10_begin_24 : decode cX10_begin 24 = .ok (.iload_n 2, 1) := by decide +kernel
theorem dX10_begin_25 : decode cX10_begin 25 = .ok (.iload_n 3, 1) := by decide +kernel
theorem dX10_begin_26 : decode cX10_begin 26 = .ok (.invokevirtual 57, 3) := by decide +kernel
theorem dX10_begin_29 : decode cX10_begin 29 = .ok (.iload 4, 2) := by decide +kernel
theorem dX10_begin_31 : decode cX10_begin 31 = .ok (.ireturn, 1) := by decide +kernel
set_option maxRecDepth 100000 in
theorem b_X10_begin_0 {E : fxE} (hW : fx_Wt E) (a0 : Nat) (x1 : Int) (x2 : Int) (x3 : Int) (M : fxM) (Q : Option fxV → fxM → Prop) (hk0 : kd E a0 = 10) (h : (-2147483648 ≤ x1 ∧ x1 < 2147483648) ∧ (-2147483648 ≤ x2 ∧ x2 < 2147483648) ∧ (-2147483648 ≤ x3 ∧ x3 < 2147483648) ∧ ((okSec x1 x2 x3 → ∃ R5 : fxM → Prop, CtV E m_X10_keep [.inr a0] M R5 ∧ ∀ M5 : fxM, R5 M5 → (0 ≤ M5 (rf E a0 0) 0 ∧ M5 (rf E a0 0) 0 ≤ 8) ∧ ∃ R7 : fxM → Prop, CtV E m_X10_renew [.inr a0, .inl x1, .inl x2, .inl x3] M5 R7 ∧ ∀ M7 : fxM, R7 M7 → Q (some (.inl (wsum (M5 (rf E a0 0)) (M5 (rf E a0 0) 0).toNat))) M7) ∧ (¬ (okSec x1 x2 x3) → Q (some (.inl (-1000002))) M))) : fx_At E m_X10_begin 0 [some (.inr a0), some (.inl x1), some (.inl x2), some (.inl x3), none] [] M Q := by
  refine x_iload_n (pc := 0) dX10_begin_0 rfl rfl ?_
  refine x_iload_n (pc := 1) dX10_begin_1 rfl rfl ?_
  refine x_iload_n (pc := 2) dX10_begin_2 rfl rfl ?_
  obtain ⟨g1, h⟩ := h
  obtain ⟨g2, h⟩ := h
  obtain ⟨g3, h⟩ := h
  refine x_callS (pc := 3) (z := m_X10_isSection) (as := [.inl x1, .inl x2, .inl x3]) (rest := []) dX10_begin_3 c_RX10_78 (by decide) rfl (Nat.le_of_ble_eq_true rfl) (ct_X10_isSection hW g1 g2 g3) (fun r M9 hr => ?_)
  obtain ⟨hM9, hr⟩ := hr
  rw [hM9]
  clear hM9
  obtain ⟨hc, rfl⟩ | ⟨hc, rfl⟩ := hr
  · replace h := h.1 hc
    show fx_At E m_X10_begin 6 [some (.inr a0), some (.inl x1), some (.inl x2), some (.inl x3), none] [.inl 1] _ Q
    refine x_zne (pc := 6) 12 dX10_begin_6 (by decide) ⟨by decide, by decide⟩ (fun _ => ?_) (fun hx => absurd hx (by decide))
    refine x_aload_n (pc := 12) dX10_begin_12 rfl rfl ?_
    obtain ⟨R5, hc5, h⟩ := h
    refine x_callV (pc := 13) (z := m_X10_keep) (b := a0) (as := []) (rest := []) dX10_begin_13 c_RX10_82 (by decide) hk0 rfl (Nat.le_of_ble_eq_true rfl) hc5 (fun r M5 hr => ?_)
    obtain ⟨rfl, hr⟩ := hr
    replace h := h M5 hr
    show fx_At E m_X10_begin 16 [some (.inr a0), some (.inl x1), some (.inl x2), some (.inl x3), none] [] M5 Q
    refine x_aload_n (pc := 16) dX10_begin_16 rfl rfl ?_
    obtain ⟨g6, h⟩ := h
    refine x_callV (pc := 17) (z := m_X10_whole) (b := a0) (as := []) (rest := []) dX10_begin_17 c_RX10_85 (by decide) hk0 rfl (Nat.le_of_ble_eq_true rfl) (ct_X10_whole hW hk0 g6) (fun r M9 hr => ?_)
    obtain ⟨hM9, hr⟩ := hr
    rw [hM9, hr]
    clear hM9 hr
    show fx_At E m_X10_begin 20 [some (.inr a0), some (.inl x1), some (.inl x2), some (.inl x3), none] [.inl (wsum (M5 (rf E a0 0)) (M5 (rf E a0 0) 0).toNat)] _ Q
    refine x_istore (pc := 20) (lv' := [some (.inr a0), some (.inl x1), some (.inl x2), some (.inl x3), some (.inl (wsum (M5 (rf E a0 0)) (M5 (rf E a0 0) 0).toNat))]) dX10_begin_20 (by decide) rfl ?_
    refine x_aload_n (pc := 22) dX10_begin_22 rfl rfl ?_
    refine x_iload_n (pc := 23) dX10_begin_23 rfl rfl ?_
    refine x_iload_n (pc := 24) dX10_begin_24 rfl rfl ?_
    refine x_iload_n (pc := 25) dX10_begin_25 rfl rfl ?_
    obtain ⟨R7, hc7, h⟩ := h
    refine x_callV (pc := 26) (z := m_X10_renew) (b := a0) (as := [.inl x1, .inl x2, .inl x3]) (rest := []) dX10_begin_26 c_RX10_57 (by decide) hk0 rfl (Nat.le_of_ble_eq_true rfl) hc7 (fun r M7 hr => ?_)
    obtain ⟨rfl, hr⟩ := hr
    replace h := h M7 hr
    show fx_At E m_X10_begin 29 [some (.inr a0), some (.inl x1), some (.inl x2), some (.inl x3), some (.inl (wsum (M5 (rf E a0 0)) (M5 (rf E a0 0) 0).toNat))] [] M7 Q
    refine x_iload (pc := 29) dX10_begin_29 rfl ?_
    exact x_iret (pc := 31) dX10_begin_31 (Or.inl rfl) h
  · replace h := h.2 hc
    show fx_At E m_X10_begin 6 [some (.inr a0), some (.inl x1), some (.inl x2), some (.inl x3), none] [.inl 0] _ Q
    refine x_zne (pc := 6) 12 dX10_begin_6 (by decide) ⟨by decide, by decide⟩ (fun hx => absurd hx (by decide)) (fun _ => ?_)
    refine x_ldc (pc := 9) (n := -1000002) dX10_begin_9 k_RX10_81 rfl ?_
    exact x_iret (pc := 11) dX10_begin_11 (Or.inl rfl) h
theorem dX10_addSection_0 : decode cX10_addSection 0 = .ok (.iload_n 1, 1) := by decide +kernel
theorem dX10_addSection_1 : decode cX10_addSection 1 = .ok (.iload_n 2, 1) := by decide +kernel
theorem dX10_addSection_2 : decode cX10_addSection 2 = .ok (.iload_n 3, 1) := by decide +kernel
theorem dX10_addSection_3 : decode cX10_addSection 3 = .ok (.invokestatic 78, 3) := by decide +kernel
theorem dX10_addSection_6 : decode cX10_addSection 6 = .ok (.ifCond .ne 6, 3) := by decide +kernel
theorem dX10_addSection_9 : decode cX10_addSection 9 = .ok (.ldc 81, 2) := by decide +kernel
theorem dX10_addSection_11 : decode cX10_addSection 11 = .ok (.ireturn, 1) := by decide +kernel
theorem dX10_addSection_12 : decode cX10_addSection 12 = .ok (.aload_n 0, 1) := by decide +kernel
theorem dX10_addSection_13 : decode cX10_addSection 13 = .ok (.getfield 7, 3) := by decide +kernel
theorem dX10_addSection_16 : decode cX10_addSection 16 = .ok (.iconst 0, 1) := by decide +kernel
theorem dX10_addSection_17 : decode cX10_addSection 17 = .ok (.iaload, 1) := by decide +kernel
theorem dX10_addSection_18 : decode cX10_addSection 18 = .ok (.bipush 8, 2) := by decide +kernel
theorem dX10_addSection_20 : decode cX10_addSection 20 = .ok (.if_icmp .eq 15, 3) := by decide +kernel
theorem dX10_addSection_23 : decode cX10_addSection 23 = .ok (.aload_n 0, 1) := by decide +kernel
theorem dX10_addSection_24 : decode cX10_addSection 24 = .ok (.invokevirtual 85, 3) := by decide +kernel
theorem dX10_addSection_27 : decode cX10_addSection 27 = .ok (.iload_n 1, 1) := by decide +kernel
theorem dX10_addSection_28 : decode cX10_addSection 28 = .ok (.iadd, 1) := by decide +kernel
theorem dX10_addSection_29 : decode cX10_addSection 29 = .ok (.sipush 300, 3) := by decide +kernel
theorem dX10_addSection_32 : decode cX10_addSection 32 = .ok (.if_icmp .le 6, 3) := by decide +kernel
theorem dX10_addSection_35 : decode cX10_addSection 35 = .ok (.ldc 89, 2) := by decide +kernel
theorem dX10_addSection_37 : decode cX10_addSection 37 = .ok (.ireturn, 1) := by decide +kernel
theorem dX10_addSection_38 : decode cX10_addSection 38 = .ok (.aload_n 0, 1) := by decide +kernel
theorem dX10_addSection_39 : decode cX10_addSection 39 = .ok (.invokevirtual 82, 3) := by decide +kernel
theorem dX10_addSection_42 : decode cX10_addSection 42 = .ok (.aload_n 0, 1) := by decide +kernel
theorem dX10_addSection_43 : decode cX10_addSection 43 = .ok (.iload_n 1, 1) := by decide +kernel
theorem dX10_addSection_44 : decode cX10_addSection 44 = .ok (.iload_n 2, 1) := by decide +kernel
theorem dX10_addSection_45 : decode cX10_addSection 45 = .ok (.iload_n 3, 1) := by decide +kernel
theorem dX10_addSection_46 : decode cX10_addSection 46 = .ok (.invokevirtual 64, 3) := by decide +kernel
theorem dX10_addSection_49 : decode cX10_addSection 49 = .ok (.aload_n 0, 1) := by decide +kernel
theorem dX10_addSection_50 : decode cX10_addSection 50 = .ok (.getfield 7, 3) := by decide +kernel
theorem dX10_addSection_53 : decode cX10_addSection 53 = .ok (.iconst 0, 1) := by decide +kernel
theorem dX10_addSection_54 : decode cX10_addSection 54 = .ok (.iaload, 1) := by decide +kernel
theorem dX10_addSection_55 : decode cX10_addSection 55 = .ok (.iconst 1, 1) := by decide +kernel
theorem dX10_addSection_56 : decode cX10_addSection 56 = .ok (.isub, 1) := by decide +kernel
theorem dX10_addSection_57 : decode cX10_addSection 57 = .ok (.ireturn, 1) := by decide +kernel
set_option maxRecDepth 100000 in
theorem b_X10_addSection_0 {E : fxE} (hW : fx_Wt E) (a0 : Nat) (x1 : Int) (x2 : Int) (x3 : Int) (M : fxM) (Q : Option fxV → fxM → Prop) (hk0 : kd E a0 = 10) (h : (-2147483648 ≤ x1 ∧ x1 < 2147483648) ∧ (-2147483648 ≤ x2 ∧ x2 < 2147483648) ∧ (-2147483648 ≤ x3 ∧ x3 < 2147483648) ∧ ((okSec x1 x2 x3 → (-2147483648 ≤ (M (rf E a0 0) 0) ∧ (M (rf E a0 0) 0) < 2147483648) ∧ (((M (rf E a0 0) 0) = (8 : Int) → Q (some (.inl (-1000003))) M) ∧ (¬ (M (rf E a0 0) 0) = (8 : Int) → (0 ≤ M (rf E a0 0) 0 ∧ M (rf E a0 0) 0 ≤ 8) ∧ (-2147483648 ≤ ((wsum (M (rf E a0 0)) (M (rf E a0 0) 0).toNat) + x1) ∧ ((wsum (M (rf E a0 0)) (M (rf E a0 0) 0).toNat) + x1) < 2147483648) ∧ ((((wsum (M (rf E a0 0)) (M (rf E a0 0) 0).toNat) + x1) ≤ (300 : Int) → ∃ R8 : fxM → Prop, CtV E m_X10_keep [.inr a0] M R8 ∧ ∀ M8 : fxM, R8 M8 → ∃ R9 : fxM → Prop, CtV E m_X10_append [.inr a0, .inl x1, .inl x2, .inl x3] M8 R9 ∧ ∀ M9 : fxM, R9 M9 → Q (some (.inl ((M9 (rf E a0 0) 0) - 1))) M9) ∧ (¬ ((wsum (M (rf E a0 0)) (M (rf E a0 0) 0).toNat) + x1) ≤ (300 : Int) → Q (some (.inl (-1000003))) M))))) ∧ (¬ (okSec x1 x2 x3) → Q (some (.inl (-1000002))) M))) : fx_At E m_X10_addSection 0 [some (.inr a0), some (.inl x1), some (.inl x2), some (.inl x3)] [] M Q := by
  refine x_iload_n (pc := 0) dX10_addSection_0 rfl rfl ?_
  refine x_iload_n (pc := 1) dX10_addSection_1 rfl rfl ?_
  refine x_iload_n (pc := 2) dX10_addSection_2 rfl rfl ?_
  obtain ⟨g1, h⟩ := h
  obtain ⟨g2, h⟩ := h
  obtain ⟨g3, h⟩ := h
  refine x_callS (pc := 3) (z := m_X10_isSection) (as := [.inl x1, .inl x2, .inl x3]) (rest := []) dX10_addSection_3 c_RX10_78 (by decide) rfl (Nat.le_of_ble_eq_true rfl) (ct_X10_isSection hW g1 g2 g3) (fun r M9 hr => ?_)
  obtain ⟨hM9, hr⟩ := hr
  rw [hM9]
  clear hM9
  obtain ⟨hc, rfl⟩ | ⟨hc, rfl⟩ := hr
  · replace h := h.1 hc
    show fx_At E m_X10_addSection 6 [some (.inr a0), some (.inl x1), some (.inl x2), some (.inl x3)] [.inl 1] _ Q
    refine x_zne (pc := 6) 12 dX10_addSection_6 (by decide) ⟨by decide, by decide⟩ (fun _ => ?_) (fun hx => absurd hx (by decide))
    refine x_aload_n (pc := 12) dX10_addSection_12 rfl rfl ?_
    refine x_getr (pc := 13) dX10_addSection_13 f_RX10_7 hk0 ?_
    refine x_iconst (pc := 16) dX10_addSection_16 ?_
    refine x_iald (pc := 17) dX10_addSection_17 (wk_10_0 hW hk0) (wl_10_0 hW hk0) ⟨by decide, by decide⟩ ?_
    refine x_bipush (pc := 18) dX10_addSection_18 (by decide +kernel) ?_
    obtain ⟨g5, h⟩ := h
    refine x_ceq (pc := 20) 35 dX10_addSection_20 (by decide) ⟨g5, ⟨by decide, by decide⟩⟩ (fun hc => ?_) (fun hc => ?_)
    · replace h := h.1 hc
      refine x_ldc (pc := 35) (n := -1000003) dX10_addSection_35 k_RX10_89 rfl ?_
      exact x_iret (pc := 37) dX10_addSection_37 (Or.inl rfl) h
    · replace h := h.2 hc
      refine x_aload_n (pc := 23) dX10_addSection_23 rfl rfl ?_
      obtain ⟨g6, h⟩ := h
      refine x_callV (pc := 24) (z := m_X10_whole) (b := a0) (as := []) (rest := []) dX10_addSection_24 c_RX10_85 (by decide) hk0 rfl (Nat.le_of_ble_eq_true rfl) (ct_X10_whole hW hk0 g6) (fun r M9 hr => ?_)
      obtain ⟨hM9, hr⟩ := hr
      rw [hM9, hr]
      clear hM9 hr
      show fx_At E m_X10_addSection 27 [some (.inr a0), some (.inl x1), some (.inl x2), some (.inl x3)] [.inl (wsum (M (rf E a0 0)) (M (rf E a0 0) 0).toNat)] _ Q
      refine x_iload_n (pc := 27) dX10_addSection_27 rfl rfl ?_
      refine x_iadd (pc := 28) dX10_addSection_28 ?_
      refine x_sipush (pc := 29) dX10_addSection_29 (by decide +kernel) ?_
      obtain ⟨g7, h⟩ := h
      refine x_cle (pc := 32) 38 dX10_addSection_32 (by decide) ⟨g7, ⟨by decide, by decide⟩⟩ (fun hc => ?_) (fun hc => ?_)
      · replace h := h.1 hc
        refine x_aload_n (pc := 38) dX10_addSection_38 rfl rfl ?_
        obtain ⟨R8, hc8, h⟩ := h
        refine x_callV (pc := 39) (z := m_X10_keep) (b := a0) (as := []) (rest := []) dX10_addSection_39 c_RX10_82 (by decide) hk0 rfl (Nat.le_of_ble_eq_true rfl) hc8 (fun r M8 hr => ?_)
        obtain ⟨rfl, hr⟩ := hr
        replace h := h M8 hr
        show fx_At E m_X10_addSection 42 [some (.inr a0), some (.inl x1), some (.inl x2), some (.inl x3)] [] M8 Q
        refine x_aload_n (pc := 42) dX10_addSection_42 rfl rfl ?_
        refine x_iload_n (pc := 43) dX10_addSection_43 rfl rfl ?_
        refine x_iload_n (pc := 44) dX10_addSection_44 rfl rfl ?_
        refine x_iload_n (pc := 45) dX10_addSection_45 rfl rfl ?_
        obtain ⟨R9, hc9, h⟩ := h
        refine x_callV (pc := 46) (z := m_X10_append) (b := a0) (as := [.inl x1, .inl x2, .inl x3]) (rest := []) dX10_addSection_46 c_RX10_64 (by decide) hk0 rfl (Nat.le_of_ble_eq_true rfl) hc9 (fun r M9 hr => ?_)
        obtain ⟨rfl, hr⟩ := hr
        replace h := h M9 hr
        show fx_At E m_X10_addSection 49 [some (.inr a0), some (.inl x1), some (.inl x2), some (.inl x3)] [] M9 Q
        refine x_aload_n (pc := 49) dX10_addSection_49 rfl rfl ?_
        refine x_getr (pc := 50) dX10_addSection_50 f_RX10_7 hk0 ?_
        refine x_iconst (pc := 53) dX10_addSection_53 ?_
        refine x_iald (pc := 54) dX10_addSection_54 (wk_10_0 hW hk0) (wl_10_0 hW hk0) ⟨by decide, by decide⟩ ?_
        refine x_iconst (pc := 55) dX10_addSection_55 ?_
        refine x_isub (pc := 56) dX10_addSection_56 ?_
        exact x_iret (pc := 57) dX10_addSection_57 (Or.inl rfl) h
      · replace h := h.2 hc
        refine x_ldc (pc := 35) (n := -1000003) dX10_addSection_35 k_RX10_89 rfl ?_
        exact x_iret (pc := 37) dX10_addSection_37 (Or.inl rfl) h
  · replace h := h.2 hc
    show fx_At E m_X10_addSection 6 [some (.inr a0), some (.inl x1), some (.inl x2), some (.inl x3)] [.inl 0] _ Q
    refine x_zne (pc := 6) 12 dX10_addSection_6 (by decide) ⟨by decide, by decide⟩ (fun hx => absurd hx (by decide)) (fun _ => ?_)
    refine x_ldc (pc := 9) (n := -1000002) dX10_addSection_9 k_RX10_81 rfl ?_
    exact x_iret (pc := 11) dX10_addSection_11 (Or.inl rfl) h
theorem dX10_setJoint_0 : decode cX10_setJoint 0 = .ok (.aload_n 0, 1) := by decide +kernel
theorem dX10_setJoint_1 : decode cX10_setJoint 1 = .ok (.iload_n 1, 1) := by decide +kernel
theorem dX10_setJoint_2 : decode cX10_setJoint 2 = .ok (.invokevirtual 90, 3) := by decide +kernel
theorem dX10_setJoint_5 : decode cX10_setJoint 5 = .ok (.ifCond .ne 6, 3) := by decide +kernel
theorem dX10_setJoint_8 : decode cX10_setJoint 8 = .ok (.ldc 94, 2) := by decide +kernel
theorem dX10_setJoint_10 : decode cX10_setJoint 10 = .ok (.ireturn, 1) := by decide +kernel
theorem dX10_setJoint_11 : decode cX10_setJoint 11 = .ok (.iload_n 2, 1) := by decide +kernel
theorem dX10_setJoint_12 : decode cX10_setJoint 12 = .ok (.iconst 0, 1) := by decide +kernel
theorem dX10_setJoint_13 : decode cX10_setJoint 13 = .ok (.sipush 3000, 3) := by decide +kernel
theorem dX10_setJoint_16 : decode cX10_setJoint 16 = .ok (.invokestatic 74, 3) := by decide +kernel
theorem dX10_setJoint_19 : decode cX10_setJoint 19 = .ok (.ifCond .eq 14, 3) := by decide +kernel
theorem dX10_setJoint_22 : decode cX10_setJoint 22 = .ok (.iload_n 3, 1) := by decide +kernel
theorem dX10_setJoint_23 : decode cX10_setJoint 23 = .ok (.iconst 0, 1) := by decide +kernel
theorem dX10_setJoint_24 : decode cX10_setJoint 24 = .ok (.sipush 9000, 3) := by decide +kernel
theorem dX10_setJoint_27 : decode cX10_setJoint 27 = .ok (.invokestatic 74, 3) := by decide +kernel
theorem dX10_setJoint_30 : decode cX10_setJoint 30 = .ok (.ifCond .ne 6, 3) := by decide +kernel
theorem dX10_setJoint_33 : decode cX10_setJoint 33 = .ok (.ldc 81, 2) := by decide +kernel
theorem dX10_setJoint_35 : decode cX10_setJoint 35 = .ok (.ireturn, 1) := by decide +kernel
theorem dX10_setJoint_36 : decode cX10_setJoint 36 = .ok (.aload_n 0, 1) := by decide +kernel
theorem dX10_setJoint_37 : decode cX10_setJoint 37 = .ok (.invokevirtual 82, 3) := by decide +kernel
theorem dX10_setJoint_40 : decode cX10_setJoint 40 = .ok (.aload_n 0, 1) := by decide +kernel
theorem dX10_setJoint_41 : decode cX10_setJoint 41 = .ok (.getfield 7, 3) := by decide +kernel
theorem dX10_setJoint_44 : decode cX10_setJoint 44 = .ok (.bipush 25, 2) := by decide +kernel
theorem dX10_setJoint_46 : decode cX10_setJoint 46 = .ok (.iconst 2, 1) := by decide +kernel
theorem dX10_setJoint_47 : decode cX10_setJoint 47 = .ok (.iload_n 1, 1) := by decide +kernel
theorem dX10_setJoint_48 : decode cX10_setJoint 48 = .ok (.imul, 1) := by decide +kernel
theorem dX10_setJoint_49 : decode cX10_setJoint 49 = .ok (.iadd, 1) := by decide +kernel
theorem dX10_setJoint_50 : decode cX10_setJoint 50 = .ok (.iaload, 1) := by decide +kernel
theorem dX10_setJoint_51 : decode cX10_setJoint 51 = .ok (.istore 4, 2) := by decide +kernel
theorem dX10_setJoint_53 : decode cX10_setJoint 53 = .ok (.aload_n 0, 1) := by decide +kernel
theorem dX10_setJoint_54 : decode cX10_setJoint 54 = .ok (.getfield 7, 3) := by decide +kernel
theorem dX10_setJoint_57 : decode cX10_setJoint 57 = .ok (.bipush 25, 2) := by decide +kernel
theorem dX10_setJoint_59 : decode cX10_setJoint 59 = .ok (.iconst 2, 1) := by decide +kernel
theorem dX10_setJoint_60 : decode cX10_setJoint 60 = .ok (.iload_n 1, 1) := by decide +kernel
theorem dX10_setJoint_61 : decode cX10_setJoint 61 = .ok (.imul, 1) := by decide +kernel
theorem dX10_setJoint_62 : decode cX10_setJoint 62 = .ok (.iadd, 1) := by decide +kernel
theorem dX10_setJoint_63 : decode cX10_setJoint 63 = .ok (.iload_n 2, 1) := by decide +kernel
theorem dX10_setJoint_64 : decode cX10_setJoint 64 = .ok (.iastore, 1) := by decide +kernel
theorem dX10_setJoint_65 : decode cX10_setJoint 65 = .ok (.aload_n 0, 1) := by decide +kernel
theorem dX10_setJoint_66 : decode cX10_setJoint 66 = .ok (.getfield 7, 3) := by decide +kernel
theorem dX10_setJoint_69 : decode cX10_setJoint 69 = .ok (.bipush 25, 2) := by decide +kernel
theorem dX10_setJoint_71 : decode cX10_setJoint 71 = .ok (.iconst 2, 1) := by decide +kernel
theorem dX10_setJoint_72 : decode cX10_setJoint 72 = .ok (.iload_n 1, 1) := by decide +kernel
theorem dX10_setJoint_73 : decode cX10_setJoint 73 = .ok (.imul, 1) := by decide +kernel
theorem dX10_setJoint_74 : decode cX10_setJoint 74 = .ok (.iadd, 1) := by decide +kernel
theorem dX10_setJoint_75 : decode cX10_setJoint 75 = .ok (.iconst 1, 1) := by decide +kernel
theorem dX10_setJoint_76 : decode cX10_setJoint 76 = .ok (.iadd, 1) := by decide +kernel
theorem dX10_setJoint_77 : decode cX10_setJoint 77 = .ok (.iload_n 3, 1) := by decide +kernel
theorem dX10_setJoint_78 : decode cX10_setJoint 78 = .ok (.iastore, 1) := by decide +kernel
theorem dX10_setJoint_79 : decode cX10_setJoint 79 = .ok (.iload 4, 2) := by decide +kernel
theorem dX10_setJoint_81 : decode cX10_setJoint 81 = .ok (.ireturn, 1) := by decide +kernel
set_option maxRecDepth 100000 in
theorem b_X10_setJoint_0 {E : fxE} (hW : fx_Wt E) (a0 : Nat) (x1 : Int) (x2 : Int) (x3 : Int) (M : fxM) (Q : Option fxV → fxM → Prop) (hk0 : kd E a0 = 10) (h : (-2147483648 ≤ x1 ∧ x1 < 2147483648) ∧ (-2147483648 ≤ (M (rf E a0 0) 0) ∧ (M (rf E a0 0) 0) < 2147483648) ∧ (((0 : Int) ≤ x1 ∧ x1 ≤ M (rf E a0 0) 0 → (-2147483648 ≤ x2 ∧ x2 < 2147483648) ∧ (((0 : Int) ≤ x2 ∧ x2 ≤ (3000 : Int) → (-2147483648 ≤ x3 ∧ x3 < 2147483648) ∧ (((0 : Int) ≤ x3 ∧ x3 ≤ (9000 : Int) → ∃ R8 : fxM → Prop, CtV E m_X10_keep [.inr a0] M R8 ∧ ∀ M8 : fxM, R8 M8 → (0 ≤ (25 + (2 * x1)) ∧ (25 + (2 * x1)) < 84) ∧ ∀ M10 : fxM, M10 = mset M8 (rf E a0 0) ((25 + (2 * x1)).toNat) x2 → (0 ≤ ((25 + (2 * x1)) + 1) ∧ ((25 + (2 * x1)) + 1) < 84) ∧ ∀ M12 : fxM, M12 = mset M10 (rf E a0 0) (((25 + (2 * x1)) + 1).toNat) x3 → Q (some (.inl (M8 (rf E a0 0) ((25 + (2 * x1)).toNat)))) M12) ∧ (¬ ((0 : Int) ≤ x3 ∧ x3 ≤ (9000 : Int)) → Q (some (.inl (-1000002))) M))) ∧ (¬ ((0 : Int) ≤ x2 ∧ x2 ≤ (3000 : Int)) → Q (some (.inl (-1000002))) M))) ∧ (¬ ((0 : Int) ≤ x1 ∧ x1 ≤ M (rf E a0 0) 0) → Q (some (.inl (-1000001))) M))) : fx_At E m_X10_setJoint 0 [some (.inr a0), some (.inl x1), some (.inl x2), some (.inl x3), none] [] M Q := by
  refine x_aload_n (pc := 0) dX10_setJoint_0 rfl rfl ?_
  refine x_iload_n (pc := 1) dX10_setJoint_1 rfl rfl ?_
  obtain ⟨g1, h⟩ := h
  obtain ⟨g2, h⟩ := h
  refine x_callV (pc := 2) (z := m_X10_isJoint) (b := a0) (as := [.inl x1]) (rest := []) dX10_setJoint_2 c_RX10_90 (by decide) hk0 rfl (Nat.le_of_ble_eq_true rfl) (ct_X10_isJoint hW hk0 g1 g2) (fun r M9 hr => ?_)
  obtain ⟨hM9, hr⟩ := hr
  rw [hM9]
  clear hM9
  obtain ⟨hc, rfl⟩ | ⟨hc, rfl⟩ := hr
  · replace h := h.1 hc
    show fx_At E m_X10_setJoint 5 [some (.inr a0), some (.inl x1), some (.inl x2), some (.inl x3), none] [.inl 1] _ Q
    refine x_zne (pc := 5) 11 dX10_setJoint_5 (by decide) ⟨by decide, by decide⟩ (fun _ => ?_) (fun hx => absurd hx (by decide))
    refine x_iload_n (pc := 11) dX10_setJoint_11 rfl rfl ?_
    refine x_iconst (pc := 12) dX10_setJoint_12 ?_
    refine x_sipush (pc := 13) dX10_setJoint_13 (by decide +kernel) ?_
    obtain ⟨g4, h⟩ := h
    refine x_callS (pc := 16) (z := m_X10_isIn) (as := [.inl x2, .inl 0, .inl 3000]) (rest := []) dX10_setJoint_16 c_RX10_74 (by decide) rfl (Nat.le_of_ble_eq_true rfl) (ct_isIn hW g4 ⟨by decide, by decide⟩ ⟨by decide, by decide⟩) (fun r M9 hr => ?_)
    obtain ⟨hM9, hr⟩ := hr
    rw [hM9]
    clear hM9
    obtain ⟨hc, rfl⟩ | ⟨hc, rfl⟩ := hr
    · replace h := h.1 hc
      show fx_At E m_X10_setJoint 19 [some (.inr a0), some (.inl x1), some (.inl x2), some (.inl x3), none] [.inl 1] _ Q
      refine x_zeq (pc := 19) 33 dX10_setJoint_19 (by decide) ⟨by decide, by decide⟩ (fun hx => absurd hx (by decide)) (fun _ => ?_)
      refine x_iload_n (pc := 22) dX10_setJoint_22 rfl rfl ?_
      refine x_iconst (pc := 23) dX10_setJoint_23 ?_
      refine x_sipush (pc := 24) dX10_setJoint_24 (by decide +kernel) ?_
      obtain ⟨g6, h⟩ := h
      refine x_callS (pc := 27) (z := m_X10_isIn) (as := [.inl x3, .inl 0, .inl 9000]) (rest := []) dX10_setJoint_27 c_RX10_74 (by decide) rfl (Nat.le_of_ble_eq_true rfl) (ct_isIn hW g6 ⟨by decide, by decide⟩ ⟨by decide, by decide⟩) (fun r M9 hr => ?_)
      obtain ⟨hM9, hr⟩ := hr
      rw [hM9]
      clear hM9
      obtain ⟨hc, rfl⟩ | ⟨hc, rfl⟩ := hr
      · replace h := h.1 hc
        show fx_At E m_X10_setJoint 30 [some (.inr a0), some (.inl x1), some (.inl x2), some (.inl x3), none] [.inl 1] _ Q
        refine x_zne (pc := 30) 36 dX10_setJoint_30 (by decide) ⟨by decide, by decide⟩ (fun _ => ?_) (fun hx => absurd hx (by decide))
        refine x_aload_n (pc := 36) dX10_setJoint_36 rfl rfl ?_
        obtain ⟨R8, hc8, h⟩ := h
        refine x_callV (pc := 37) (z := m_X10_keep) (b := a0) (as := []) (rest := []) dX10_setJoint_37 c_RX10_82 (by decide) hk0 rfl (Nat.le_of_ble_eq_true rfl) hc8 (fun r M8 hr => ?_)
        obtain ⟨rfl, hr⟩ := hr
        replace h := h M8 hr
        show fx_At E m_X10_setJoint 40 [some (.inr a0), some (.inl x1), some (.inl x2), some (.inl x3), none] [] M8 Q
        refine x_aload_n (pc := 40) dX10_setJoint_40 rfl rfl ?_
        refine x_getr (pc := 41) dX10_setJoint_41 f_RX10_7 hk0 ?_
        refine x_bipush (pc := 44) dX10_setJoint_44 (by decide +kernel) ?_
        refine x_iconst (pc := 46) dX10_setJoint_46 ?_
        refine x_iload_n (pc := 47) dX10_setJoint_47 rfl rfl ?_
        refine x_imul (pc := 48) dX10_setJoint_48 ?_
        refine x_iadd (pc := 49) dX10_setJoint_49 ?_
        obtain ⟨g9, h⟩ := h
        refine x_iald (pc := 50) dX10_setJoint_50 (wk_10_0 hW hk0) (wl_10_0 hW hk0) g9 ?_
        refine x_istore (pc := 51) (lv' := [some (.inr a0), some (.inl x1), some (.inl x2), some (.inl x3), some (.inl (M8 (rf E a0 0) ((25 + (2 * x1)).toNat)))]) dX10_setJoint_51 (by decide) rfl ?_
        refine x_aload_n (pc := 53) dX10_setJoint_53 rfl rfl ?_
        refine x_getr (pc := 54) dX10_setJoint_54 f_RX10_7 hk0 ?_
        refine x_bipush (pc := 57) dX10_setJoint_57 (by decide +kernel) ?_
        refine x_iconst (pc := 59) dX10_setJoint_59 ?_
        refine x_iload_n (pc := 60) dX10_setJoint_60 rfl rfl ?_
        refine x_imul (pc := 61) dX10_setJoint_61 ?_
        refine x_iadd (pc := 62) dX10_setJoint_62 ?_
        refine x_iload_n (pc := 63) dX10_setJoint_63 rfl rfl ?_
        refine x_iast (pc := 64) dX10_setJoint_64 (wk_10_0 hW hk0) (wl_10_0 hW hk0) g9 (fun M10 hM10 => ?_)
        replace h := h M10 hM10
        refine x_aload_n (pc := 65) dX10_setJoint_65 rfl rfl ?_
        refine x_getr (pc := 66) dX10_setJoint_66 f_RX10_7 hk0 ?_
        refine x_bipush (pc := 69) dX10_setJoint_69 (by decide +kernel) ?_
        refine x_iconst (pc := 71) dX10_setJoint_71 ?_
        refine x_iload_n (pc := 72) dX10_setJoint_72 rfl rfl ?_
        refine x_imul (pc := 73) dX10_setJoint_73 ?_
        refine x_iadd (pc := 74) dX10_setJoint_74 ?_
        refine x_iconst (pc := 75) dX10_setJoint_75 ?_
        refine x_iadd (pc := 76) dX10_setJoint_76 ?_
        refine x_iload_n (pc := 77) dX10_setJoint_77 rfl rfl ?_
        obtain ⟨g11, h⟩ := h
        refine x_iast (pc := 78) dX10_setJoint_78 (wk_10_0 hW hk0) (wl_10_0 hW hk0) g11 (fun M12 hM12 => ?_)
        replace h := h M12 hM12
        refine x_iload (pc := 79) dX10_setJoint_79 rfl ?_
        exact x_iret (pc := 81) dX10_setJoint_81 (Or.inl rfl) h
      · replace h := h.2 hc
        show fx_At E m_X10_setJoint 30 [some (.inr a0), some (.inl x1), some (.inl x2), some (.inl x3), none] [.inl 0] _ Q
        refine x_zne (pc := 30) 36 dX10_setJoint_30 (by decide) ⟨by decide, by decide⟩ (fun hx => absurd hx (by decide)) (fun _ => ?_)
        refine x_ldc (pc := 33) (n := -1000002) dX10_setJoint_33 k_RX10_81 rfl ?_
        exact x_iret (pc := 35) dX10_setJoint_35 (Or.inl rfl) h
    · replace h := h.2 hc
      show fx_At E m_X10_setJoint 19 [some (.inr a0), some (.inl x1), some (.inl x2), some (.inl x3), none] [.inl 0] _ Q
      refine x_zeq (pc := 19) 33 dX10_setJoint_19 (by decide) ⟨by decide, by decide⟩ (fun _ => ?_) (fun hx => absurd hx (by decide))
      refine x_ldc (pc := 33) (n := -1000002) dX10_setJoint_33 k_RX10_81 rfl ?_
      exact x_iret (pc := 35) dX10_setJoint_35 (Or.inl rfl) h
  · replace h := h.2 hc
    show fx_At E m_X10_setJoint 5 [some (.inr a0), some (.inl x1), some (.inl x2), some (.inl x3), none] [.inl 0] _ Q
    refine x_zne (pc := 5) 11 dX10_setJoint_5 (by decide) ⟨by decide, by decide⟩ (fun hx => absurd hx (by decide)) (fun _ => ?_)
    refine x_ldc (pc := 8) (n := -1000001) dX10_setJoint_8 k_RX10_94 rfl ?_
    exact x_iret (pc := 10) dX10_setJoint_10 (Or.inl rfl) h
theorem dX10_addBend_0 : decode cX10_addBend 0 = .ok (.iload_n 1, 1) := by decide +kernel
theorem dX10_addBend_1 : decode cX10_addBend 1 = .ok (.iconst 1, 1) := by decide +kernel
theorem dX10_addBend_2 : decode cX10_addBend 2 = .ok (.aload_n 0, 1) := by decide +kernel
theorem dX10_addBend_3 : decode cX10_addBend 3 = .ok (.invokevirtual 85, 3) := by decide +kernel
theorem dX10_addBend_6 : decode cX10_addBend 6 = .ok (.iconst 1, 1) := by decide +kernel
theorem dX10_addBend_7 : decode cX10_addBend 7 = .ok (.isub, 1) := by decide +kernel
theorem dX10_addBend_8 : decode cX10_addBend 8 = .ok (.invokestatic 74, 3) := by decide +kernel
theorem dX10_addBend_11 : decode cX10_addBend 11 = .ok (.ifCond .eq 14, 3) := by decide +kernel
theorem dX10_addBend_14 : decode cX10_addBend 14 = .ok (.iload_n 2, 1) := by decide +kernel
theorem dX10_addBend_15 : decode cX10_addBend 15 = .ok (.iconst 1, 1) := by decide +kernel
theorem dX10_addBend_16 : decode cX10_addBend 16 = .ok (.sipush 3000, 3) := by decide +kernel
theorem dX10_addBend_19 : decode cX10_addBend 19 = .ok (.invokestatic 74, 3) := by decide +kernel
theorem dX10_addBend_22 : decode cX10_addBend 22 = .ok (.ifCond .ne 6, 3) := by decide +kernel
theorem dX10_addBend_25 : decode cX10_addBend 25 = .ok (.ldc 81, 2) := by decide +kernel
theorem dX10_addBend_27 : decode cX10_addBend 27 = .ok (.ireturn, 1) := by decide +kernel
theorem dX10_addBend_28 : decode cX10_addBend 28 = .ok (.aload_n 0, 1) := by decide +kernel
theorem dX10_addBend_29 : decode cX10_addBend 29 = .ok (.getfield 7, 3) := by decide +kernel
theorem dX10_addBend_32 : decode cX10_addBend 32 = .ok (.bipush 43, 2) := by decide +kernel
theorem dX10_addBend_34 : decode cX10_addBend 34 = .ok (.iaload, 1) := by decide +kernel
theorem dX10_addBend_35 : decode cX10_addBend 35 = .ok (.bipush 6, 2) := by decide +kernel
theorem dX10_addBend_37 : decode cX10_addBend 37 = .ok (.if_icmp .ne 6, 3) := by decide +kernel
theorem dX10_addBend_40 : decode cX10_addBend 40 = .ok (.ldc 89, 2) := by decide +kernel
theorem dX10_addBend_42 : decode cX10_addBend 42 = .ok (.ireturn, 1) := by decide +kernel
theorem dX10_addBend_43 : decode cX10_addBend 43 = .ok (.aload_n 0, 1) := by decide +kernel
theorem dX10_addBend_44 : decode cX10_addBend 44 = .ok (.invokevirtual 82, 3) := by decide +kernel
theorem dX10_addBend_47 : decode cX10_addBend 47 = .ok (.aload_n 0, 1) := by decide +kernel
theorem dX10_addBend_48 : decode cX10_addBend 48 = .ok (.getfield 7, 3) := by decide +kernel
theorem dX10_addBend_51 : decode cX10_addBend 51 = .ok (.bipush 44, 2) := by decide +kernel
theorem dX10_addBend_53 : decode cX10_addBend 53 = .ok (.iconst 2, 1) := by decide +kernel
theorem dX10_addBend_54 : decode cX10_addBend 54 = .ok (.aload_n 0, 1) := by decide +kernel
theorem dX10_addBend_55 : decode cX10_addBend 55 = .ok (.getfield 7, 3) := by decide +kernel
theorem dX10_addBend_58 : decode cX10_addBend 58 = .ok (.bipush 43, 2) := by decide +kernel
theorem dX10_addBend_60 : decode cX10_addBend 60 = .ok (.iaload, 1) := by decide +kernel
theorem dX10_addBend_61 : decode cX10_addBend 61 = .ok (.imul, 1) := by decide +kernel
theorem dX10_addBend_62 : decode cX10_addBend 62 = .ok (.iadd, 1) := by decide +kernel
theorem dX10_addBend_63 : decode cX10_addBend 63 = .ok (.iload_n 1, 1) := by decide +kernel
theorem dX10_addBend_64 : decode cX10_addBend 64 = .ok (.iastore, 1) := by decide +kernel
theorem dX10_addBend_65 : decode cX10_addBend 65 = .ok (.aload_n 0, 1) := by decide +kernel
theorem dX10_addBend_66 : decode cX10_addBend 66 = .ok (.getfield 7, 3) := by decide +kernel
theorem dX10_addBend_69 : decode cX10_addBend 69 = .ok (.bipush 44, 2) := by decide +kernel
theorem dX10_addBend_71 : decode cX10_addBend 71 = .ok (.iconst 2, 1) := by decide +kernel
theorem dX10_addBend_72 : decode cX10_addBend 72 = .ok (.aload_n 0, 1) := by decide +kernel
theorem dX10_addBend_73 : decode cX10_addBend 73 = .ok (.getfield 7, 3) := by decide +kernel
theorem dX10_addBend_76 : decode cX10_addBend 76 = .ok (.bipush 43, 2) := by decide +kernel
theorem dX10_addBend_78 : decode cX10_addBend 78 = .ok (.iaload, 1) := by decide +kernel
theorem dX10_addBend_79 : decode cX10_addBend 79 = .ok (.imul, 1) := by decide +kernel
theorem dX10_addBend_80 : decode cX10_addBend 80 = .ok (.iadd, 1) := by decide +kernel
theorem dX10_addBend_81 : decode cX10_addBend 81 = .ok (.iconst 1, 1) := by decide +kernel
theorem dX10_addBend_82 : decode cX10_addBend 82 = .ok (.iadd, 1) := by decide +kernel
theorem dX10_addBend_83 : decode cX10_addBend 83 = .ok (.iload_n 2, 1) := by decide +kernel
theorem dX10_addBend_84 : decode cX10_addBend 84 = .ok (.iastore, 1) := by decide +kernel
theorem dX10_addBend_85 : decode cX10_addBend 85 = .ok (.aload_n 0, 1) := by decide +kernel
theorem dX10_addBend_86 : decode cX10_addBend 86 = .ok (.getfield 7, 3) := by decide +kernel
theorem dX10_addBend_89 : decode cX10_addBend 89 = .ok (.bipush 43, 2) := by decide +kernel
theorem dX10_addBend_91 : decode cX10_addBend 91 = .ok (.dup2, 1) := by decide +kernel
theorem dX10_addBend_92 : decode cX10_addBend 92 = .ok (.iaload, 1) := by decide +kernel
theorem dX10_addBend_93 : decode cX10_addBend 93 = .ok (.iconst 1, 1) := by decide +kernel
theorem dX10_addBend_94 : decode cX10_addBend 94 = .ok (.iadd, 1) := by decide +kernel
theorem dX10_addBend_95 : decode cX10_addBend 95 = .ok (.iastore, 1) := by decide +kernel
theorem dX10_addBend_96 : decode cX10_addBend 96 = .ok (.aload_n 0, 1) := by decide +kernel
theorem dX10_addBend_97 : decode cX10_addBend 97 = .ok (.getfield 7, 3) := by decide +kernel
theorem dX10_addBend_100 : decode cX10_addBend 100 = .ok (.bipush 43, 2) := by decide +kernel
theorem dX10_addBend_102 : decode cX10_addBend 102 = .ok (.iaload, 1) := by decide +kernel
theorem dX10_addBend_103 : decode cX10_addBend 103 = .ok (.iconst 1, 1) := by decide +kernel
theorem dX10_addBend_104 : decode cX10_addBend 104 = .ok (.isub, 1) := by decide +kernel
theorem dX10_addBend_105 : decode cX10_addBend 105 = .ok (.ireturn, 1) := by decide +kernel
set_option maxRecDepth 100000 in
theorem b_X10_addBend_0 {E : fxE} (hW : fx_Wt E) (a0 : Nat) (x1 : Int) (x2 : Int) (M : fxM) (Q : Option fxV → fxM → Prop) (hk0 : kd E a0 = 10) (h : (0 ≤ M (rf E a0 0) 0 ∧ M (rf E a0 0) 0 ≤ 8) ∧ (-2147483648 ≤ x1 ∧ x1 < 2147483648) ∧ (-2147483648 ≤ ((wsum (M (rf E a0 0)) (M (rf E a0 0) 0).toNat) - 1) ∧ ((wsum (M (rf E a0 0)) (M (rf E a0 0) 0).toNat) - 1) < 2147483648) ∧ (((1 : Int) ≤ x1 ∧ x1 ≤ ((wsum (M (rf E a0 0)) (M (rf E a0 0) 0).toNat) - 1) → (-2147483648 ≤ x2 ∧ x2 < 2147483648) ∧ (((1 : Int) ≤ x2 ∧ x2 ≤ (3000 : Int) → (-2147483648 ≤ (M (rf E a0 0) 43) ∧ (M (rf E a0 0) 43) < 2147483648) ∧ ((¬ (M (rf E a0 0) 43) = (6 : Int) → ∃ R8 : fxM → Prop, CtV E m_X10_keep [.inr a0] M R8 ∧ ∀ M8 : fxM, R8 M8 → (0 ≤ (44 + (2 * (M8 (rf E a0 0) 43))) ∧ (44 + (2 * (M8 (rf E a0 0) 43))) < 84) ∧ ∀ M10 : fxM, M10 = mset M8 (rf E a0 0) ((44 + (2 * (M8 (rf E a0 0) 43))).toNat) x1 → (0 ≤ ((44 + (2 * (M10 (rf E a0 0) 43))) + 1) ∧ ((44 + (2 * (M10 (rf E a0 0) 43))) + 1) < 84) ∧ ∀ M12 : fxM, M12 = mset M10 (rf E a0 0) (((44 + (2 * (M10 (rf E a0 0) 43))) + 1).toNat) x2 → ∀ M13 : fxM, M13 = mset M12 (rf E a0 0) 43 ((M12 (rf E a0 0) 43) + 1) → Q (some (.inl ((M13 (rf E a0 0) 43) - 1))) M13) ∧ ((M (rf E a0 0) 43) = (6 : Int) → Q (some (.inl (-1000003))) M))) ∧ (¬ ((1 : Int) ≤ x2 ∧ x2 ≤ (3000 : Int)) → Q (some (.inl (-1000002))) M))) ∧ (¬ ((1 : Int) ≤ x1 ∧ x1 ≤ ((wsum (M (rf E a0 0)) (M (rf E a0 0) 0).toNat) - 1)) → Q (some (.inl (-1000002))) M))) : fx_At E m_X10_addBend 0 [some (.inr a0), some (.inl x1), some (.inl x2)] [] M Q := by
  refine x_iload_n (pc := 0) dX10_addBend_0 rfl rfl ?_
  refine x_iconst (pc := 1) dX10_addBend_1 ?_
  refine x_aload_n (pc := 2) dX10_addBend_2 rfl rfl ?_
  obtain ⟨g1, h⟩ := h
  refine x_callV (pc := 3) (z := m_X10_whole) (b := a0) (as := []) (rest := [.inl 1, .inl x1]) dX10_addBend_3 c_RX10_85 (by decide) hk0 rfl (Nat.le_of_ble_eq_true rfl) (ct_X10_whole hW hk0 g1) (fun r M9 hr => ?_)
  obtain ⟨hM9, hr⟩ := hr
  rw [hM9, hr]
  clear hM9 hr
  show fx_At E m_X10_addBend 6 [some (.inr a0), some (.inl x1), some (.inl x2)] [.inl (wsum (M (rf E a0 0)) (M (rf E a0 0) 0).toNat), .inl 1, .inl x1] _ Q
  refine x_iconst (pc := 6) dX10_addBend_6 ?_
  refine x_isub (pc := 7) dX10_addBend_7 ?_
  obtain ⟨g2, h⟩ := h
  obtain ⟨g3, h⟩ := h
  refine x_callS (pc := 8) (z := m_X10_isIn) (as := [.inl x1, .inl 1, .inl ((wsum (M (rf E a0 0)) (M (rf E a0 0) 0).toNat) - 1)]) (rest := []) dX10_addBend_8 c_RX10_74 (by decide) rfl (Nat.le_of_ble_eq_true rfl) (ct_isIn hW g2 ⟨by decide, by decide⟩ g3) (fun r M9 hr => ?_)
  obtain ⟨hM9, hr⟩ := hr
  rw [hM9]
  clear hM9
  obtain ⟨hc, rfl⟩ | ⟨hc, rfl⟩ := hr
  · replace h := h.1 hc
    show fx_At E m_X10_addBend 11 [some (.inr a0), some (.inl x1), some (.inl x2)] [.inl 1] _ Q
    refine x_zeq (pc := 11) 25 dX10_addBend_11 (by decide) ⟨by decide, by decide⟩ (fun hx => absurd hx (by decide)) (fun _ => ?_)
    refine x_iload_n (pc := 14) dX10_addBend_14 rfl rfl ?_
    refine x_iconst (pc := 15) dX10_addBend_15 ?_
    refine x_sipush (pc := 16) dX10_addBend_16 (by decide +kernel) ?_
    obtain ⟨g5, h⟩ := h
    refine x_callS (pc := 19) (z := m_X10_isIn) (as := [.inl x2, .inl 1, .inl 3000]) (rest := []) dX10_addBend_19 c_RX10_74 (by decide) rfl (Nat.le_of_ble_eq_true rfl) (ct_isIn hW g5 ⟨by decide, by decide⟩ ⟨by decide, by decide⟩) (fun r M9 hr => ?_)
    obtain ⟨hM9, hr⟩ := hr
    rw [hM9]
    clear hM9
    obtain ⟨hc, rfl⟩ | ⟨hc, rfl⟩ := hr
    · replace h := h.1 hc
      show fx_At E m_X10_addBend 22 [some (.inr a0), some (.inl x1), some (.inl x2)] [.inl 1] _ Q
      refine x_zne (pc := 22) 28 dX10_addBend_22 (by decide) ⟨by decide, by decide⟩ (fun _ => ?_) (fun hx => absurd hx (by decide))
      refine x_aload_n (pc := 28) dX10_addBend_28 rfl rfl ?_
      refine x_getr (pc := 29) dX10_addBend_29 f_RX10_7 hk0 ?_
      refine x_bipush (pc := 32) dX10_addBend_32 (by decide +kernel) ?_
      refine x_iald (pc := 34) dX10_addBend_34 (wk_10_0 hW hk0) (wl_10_0 hW hk0) ⟨by decide, by decide⟩ ?_
      refine x_bipush (pc := 35) dX10_addBend_35 (by decide +kernel) ?_
      obtain ⟨g7, h⟩ := h
      refine x_cne (pc := 37) 43 dX10_addBend_37 (by decide) ⟨g7, ⟨by decide, by decide⟩⟩ (fun hc => ?_) (fun hc => ?_)
      · replace h := h.1 hc
        refine x_aload_n (pc := 43) dX10_addBend_43 rfl rfl ?_
        obtain ⟨R8, hc8, h⟩ := h
        refine x_callV (pc := 44) (z := m_X10_keep) (b := a0) (as := []) (rest := []) dX10_addBend_44 c_RX10_82 (by decide) hk0 rfl (Nat.le_of_ble_eq_true rfl) hc8 (fun r M8 hr => ?_)
        obtain ⟨rfl, hr⟩ := hr
        replace h := h M8 hr
        show fx_At E m_X10_addBend 47 [some (.inr a0), some (.inl x1), some (.inl x2)] [] M8 Q
        refine x_aload_n (pc := 47) dX10_addBend_47 rfl rfl ?_
        refine x_getr (pc := 48) dX10_addBend_48 f_RX10_7 hk0 ?_
        refine x_bipush (pc := 51) dX10_addBend_51 (by decide +kernel) ?_
        refine x_iconst (pc := 53) dX10_addBend_53 ?_
        refine x_aload_n (pc := 54) dX10_addBend_54 rfl rfl ?_
        refine x_getr (pc := 55) dX10_addBend_55 f_RX10_7 hk0 ?_
        refine x_bipush (pc := 58) dX10_addBend_58 (by decide +kernel) ?_
        refine x_iald (pc := 60) dX10_addBend_60 (wk_10_0 hW hk0) (wl_10_0 hW hk0) ⟨by decide, by decide⟩ ?_
        refine x_imul (pc := 61) dX10_addBend_61 ?_
        refine x_iadd (pc := 62) dX10_addBend_62 ?_
        refine x_iload_n (pc := 63) dX10_addBend_63 rfl rfl ?_
        obtain ⟨g9, h⟩ := h
        refine x_iast (pc := 64) dX10_addBend_64 (wk_10_0 hW hk0) (wl_10_0 hW hk0) g9 (fun M10 hM10 => ?_)
        replace h := h M10 hM10
        refine x_aload_n (pc := 65) dX10_addBend_65 rfl rfl ?_
        refine x_getr (pc := 66) dX10_addBend_66 f_RX10_7 hk0 ?_
        refine x_bipush (pc := 69) dX10_addBend_69 (by decide +kernel) ?_
        refine x_iconst (pc := 71) dX10_addBend_71 ?_
        refine x_aload_n (pc := 72) dX10_addBend_72 rfl rfl ?_
        refine x_getr (pc := 73) dX10_addBend_73 f_RX10_7 hk0 ?_
        refine x_bipush (pc := 76) dX10_addBend_76 (by decide +kernel) ?_
        refine x_iald (pc := 78) dX10_addBend_78 (wk_10_0 hW hk0) (wl_10_0 hW hk0) ⟨by decide, by decide⟩ ?_
        refine x_imul (pc := 79) dX10_addBend_79 ?_
        refine x_iadd (pc := 80) dX10_addBend_80 ?_
        refine x_iconst (pc := 81) dX10_addBend_81 ?_
        refine x_iadd (pc := 82) dX10_addBend_82 ?_
        refine x_iload_n (pc := 83) dX10_addBend_83 rfl rfl ?_
        obtain ⟨g11, h⟩ := h
        refine x_iast (pc := 84) dX10_addBend_84 (wk_10_0 hW hk0) (wl_10_0 hW hk0) g11 (fun M12 hM12 => ?_)
        replace h := h M12 hM12
        refine x_aload_n (pc := 85) dX10_addBend_85 rfl rfl ?_
        refine x_getr (pc := 86) dX10_addBend_86 f_RX10_7 hk0 ?_
        refine x_bipush (pc := 89) dX10_addBend_89 (by decide +kernel) ?_
        refine x_dup2 (pc := 91) dX10_addBend_91 ?_
        refine x_iald (pc := 92) dX10_addBend_92 (wk_10_0 hW hk0) (wl_10_0 hW hk0) ⟨by decide, by decide⟩ ?_
        refine x_iconst (pc := 93) dX10_addBend_93 ?_
        refine x_iadd (pc := 94) dX10_addBend_94 ?_
        refine x_iast (pc := 95) dX10_addBend_95 (wk_10_0 hW hk0) (wl_10_0 hW hk0) ⟨by decide, by decide⟩ (fun M13 hM13 => ?_)
        replace h := h M13 hM13
        refine x_aload_n (pc := 96) dX10_addBend_96 rfl rfl ?_
        refine x_getr (pc := 97) dX10_addBend_97 f_RX10_7 hk0 ?_
        refine x_bipush (pc := 100) dX10_addBend_100 (by decide +kernel) ?_
        refine x_iald (pc := 102) dX10_addBend_102 (wk_10_0 hW hk0) (wl_10_0 hW hk0) ⟨by decide, by decide⟩ ?_
        refine x_iconst (pc := 103) dX10_addBend_103 ?_
        refine x_isub (pc := 104) dX10_addBend_104 ?_
        exact x_iret (pc := 105) dX10_addBend_105 (Or.inl rfl) h
      · replace h := h.2 hc
        refine x_ldc (pc := 40) (n := -1000003) dX10_addBend_40 k_RX10_89 rfl ?_
        exact x_iret (pc := 42) dX10_addBend_42 (Or.inl rfl) h
    · replace h := h.2 hc
      show fx_At E m_X10_addBend 22 [some (.inr a0), some (.inl x1), some (.inl x2)] [.inl 0] _ Q
      refine x_zne (pc := 22) 28 dX10_addBend_22 (by decide) ⟨by decide, by decide⟩ (fun hx => absurd hx (by decide)) (fun _ => ?_)
      refine x_ldc (pc := 25) (n := -1000002) dX10_addBend_25 k_RX10_81 rfl ?_
      exact x_iret (pc := 27) dX10_addBend_27 (Or.inl rfl) h
  · replace h := h.2 hc
    show fx_At E m_X10_addBend 11 [some (.inr a0), some (.inl x1), some (.inl x2)] [.inl 0] _ Q
    refine x_zeq (pc := 11) 25 dX10_addBend_11 (by decide) ⟨by decide, by decide⟩ (fun _ => ?_) (fun hx => absurd hx (by decide))
    refine x_ldc (pc := 25) (n := -1000002) dX10_addBend_25 k_RX10_81 rfl ?_
    exact x_iret (pc := 27) dX10_addBend_27 (Or.inl rfl) h
theorem dX10_removeBend_0 : decode cX10_removeBend 0 = .ok (.aload_n 0, 1) := by decide +kernel
theorem dX10_removeBend_1 : decode cX10_removeBend 1 = .ok (.iload_n 1, 1) := by decide +kernel
theorem dX10_removeBend_2 : decode cX10_removeBend 2 = .ok (.invokevirtual 95, 3) := by decide +kernel
theorem dX10_removeBend_5 : decode cX10_removeBend 5 = .ok (.ifCond .ne 6, 3) := by decide +kernel
theorem dX10_removeBend_8 : decode cX10_removeBend 8 = .ok (.ldc 94, 2) := by decide +kernel
theorem dX10_removeBend_10 : decode cX10_removeBend 10 = .ok (.ireturn, 1) := by decide +kernel
theorem dX10_removeBend_11 : decode cX10_removeBend 11 = .ok (.aload_n 0, 1) := by decide +kernel
theorem dX10_removeBend_12 : decode cX10_removeBend 12 = .ok (.invokevirtual 82, 3) := by decide +kernel
theorem dX10_removeBend_15 : decode cX10_removeBend 15 = .ok (.aload_n 0, 1) := by decide +kernel
theorem dX10_removeBend_16 : decode cX10_removeBend 16 = .ok (.getfield 7, 3) := by decide +kernel
theorem dX10_removeBend_19 : decode cX10_removeBend 19 = .ok (.bipush 44, 2) := by decide +kernel
theorem dX10_removeBend_21 : decode cX10_removeBend 21 = .ok (.iconst 2, 1) := by decide +kernel
theorem dX10_removeBend_22 : decode cX10_removeBend 22 = .ok (.iload_n 1, 1) := by decide +kernel
theorem dX10_removeBend_23 : decode cX10_removeBend 23 = .ok (.imul, 1) := by decide +kernel
theorem dX10_removeBend_24 : decode cX10_removeBend 24 = .ok (.iadd, 1) := by decide +kernel
theorem dX10_removeBend_25 : decode cX10_removeBend 25 = .ok (.iconst 1, 1) := by decide +kernel
theorem dX10_removeBend_26 : decode cX10_removeBend 26 = .ok (.iadd, 1) := by decide +kernel
theorem dX10_removeBend_27 : decode cX10_removeBend 27 = .ok (.iaload, 1) := by decide +kernel
theorem dX10_removeBend_28 : decode cX10_removeBend 28 = .ok (.istore_n 2, 1) := by decide +kernel
theorem dX10_removeBend_29 : decode cX10_removeBend 29 = .ok (.aload_n 0, 1) := by decide +kernel
theorem dX10_removeBend_30 : decode cX10_removeBend 30 = .ok (.getfield 7, 3) := by decide +kernel
theorem dX10_removeBend_33 : decode cX10_removeBend 33 = .ok (.bipush 43, 2) := by decide +kernel
theorem dX10_removeBend_35 : decode cX10_removeBend 35 = .ok (.dup2, 1) := by decide +kernel
theorem dX10_removeBend_36 : decode cX10_removeBend 36 = .ok (.iaload, 1) := by decide +kernel
theorem dX10_removeBend_37 : decode cX10_removeBend 37 = .ok (.iconst 1, 1) := by decide +kernel
theorem dX10_removeBend_38 : decode cX10_removeBend 38 = .ok (.isub, 1) := by decide +kernel
theorem dX10_removeBend_39 : decode cX10_removeBend 39 = .ok (.iastore, 1) := by decide +kernel
theorem dX10_removeBend_40 : decode cX10_removeBend 40 = .ok (.bipush 44, 2) := by decide +kernel
theorem dX10_removeBend_42 : decode cX10_removeBend 42 = .ok (.iconst 2, 1) := by decide +kernel
theorem dX10_removeBend_43 : decode cX10_removeBend 43 = .ok (.iload_n 1, 1) := by decide +kernel
theorem dX10_removeBend_44 : decode cX10_removeBend 44 = .ok (.imul, 1) := by decide +kernel
theorem dX10_removeBend_45 : decode cX10_removeBend 45 = .ok (.iadd, 1) := by decide +kernel
theorem dX10_removeBend_46 : decode cX10_removeBend 46 = .ok (.istore_n 3, 1) := by decide +kernel
theorem dX10_removeBend_47 : decode cX10_removeBend 47 = .ok (.iload_n 3, 1) := by decide +kernel
theorem dX10_removeBend_48 : decode cX10_removeBend 48 = .ok (.bipush 44, 2) := by decide +kernel
theorem dX10_removeBend_50 : decode cX10_removeBend 50 = .ok (.iconst 2, 1) := by decide +kernel
theorem dX10_removeBend_51 : decode cX10_removeBend 51 = .ok (.aload_n 0, 1) := by decide +kernel
theorem dX10_removeBend_52 : decode cX10_removeBend 52 = .ok (.getfield 7, 3) := by decide +kernel
theorem dX10_removeBend_55 : decode cX10_removeBend 55 = .ok (.bipush 43, 2) := by decide +kernel
theorem dX10_removeBend_57 : decode cX10_removeBend 57 = .ok (.iaload, 1) := by decide +kernel
theorem dX10_removeBend_58 : decode cX10_removeBend 58 = .ok (.imul, 1) := by decide +kernel
theorem dX10_removeBend_59 : decode cX10_removeBend 59 = .ok (.iadd, 1) := by decide +kernel
theorem dX10_removeBend_60 : decode cX10_removeBend 60 = .ok (.if_icmp .ge 23, 3) := by decide +kernel
theorem dX10_removeBend_63 : decode cX10_removeBend 63 = .ok (.aload_n 0, 1) := by decide +kernel
theorem dX10_removeBend_64 : decode cX10_removeBend 64 = .ok (.getfield 7, 3) := by decide +kernel
theorem dX10_removeBend_67 : decode cX10_removeBend 67 = .ok (.iload_n 3, 1) := by decide +kernel
theorem dX10_removeBend_68 : decode cX10_removeBend 68 = .ok (.aload_n 0, 1) := by decide +kernel
theorem dX10_removeBend_69 : decode cX10_removeBend 69 = .ok (.getfield 7, 3) := by decide +kernel
theorem dX10_removeBend_72 : decode cX10_removeBend 72 = .ok (.iload_n 3, 1) := by decide +kernel
theorem dX10_removeBend_73 : decode cX10_removeBend 73 = .ok (.iconst 2, 1) := by decide +kernel
theorem dX10_removeBend_74 : decode cX10_removeBend 74 = .ok (.iadd, 1) := by decide +kernel
theorem dX10_removeBend_75 : decode cX10_removeBend 75 = .ok (.iaload, 1) := by decide +kernel
theorem dX10_removeBend_76 : decode cX10_removeBend 76 = .ok (.iastore, 1) := by decide +kernel
theorem dX10_removeBend_77 : decode cX10_removeBend 77 = .ok (.iinc 3 1, 3) := by decide +kernel
theorem dX10_removeBend_80 : decode cX10_removeBend 80 = .ok (.goto (-33), 3) := by decide +kernel
theorem dX10_removeBend_83 : decode cX10_removeBend 83 = .ok (.iload_n 2, 1) := by decide +kernel
theorem dX10_removeBend_84 : decode cX10_removeBend 84 = .ok (.ireturn, 1) := by decide +kernel
set_option maxRecDepth 100000 in
theorem b_X10_removeBend_0 {E : fxE} (hW : fx_Wt E) (a0 : Nat) (x1 : Int) (M : fxM) (Q : Option fxV → fxM → Prop) (hk0 : kd E a0 = 10) (h : (-2147483648 ≤ x1 ∧ x1 < 2147483648) ∧ (-2147483648 ≤ (M (rf E a0 0) 43 - 1) ∧ (M (rf E a0 0) 43 - 1) < 2147483648) ∧ (((0 : Int) ≤ x1 ∧ x1 ≤ M (rf E a0 0) 43 - 1 → ∃ R4 : fxM → Prop, CtV E m_X10_keep [.inr a0] M R4 ∧ ∀ M4 : fxM, R4 M4 → (0 ≤ ((44 + (2 * x1)) + 1) ∧ ((44 + (2 * x1)) + 1) < 84) ∧ ∀ M6 : fxM, M6 = mset M4 (rf E a0 0) 43 ((M4 (rf E a0 0) 43) - 1) → fx_At E m_X10_removeBend 47 [some (.inr a0), some (.inl x1), some (.inl (M4 (rf E a0 0) (((44 + (2 * x1)) + 1).toNat))), some (.inl (44 + (2 * x1)))] [] M6 Q) ∧ (¬ ((0 : Int) ≤ x1 ∧ x1 ≤ M (rf E a0 0) 43 - 1) → Q (some (.inl (-1000001))) M))) : fx_At E m_X10_removeBend 0 [some (.inr a0), some (.inl x1), none, none] [] M Q := by
  refine x_aload_n (pc := 0) dX10_removeBend_0 rfl rfl ?_
  refine x_iload_n (pc := 1) dX10_removeBend_1 rfl rfl ?_
  obtain ⟨g1, h⟩ := h
  obtain ⟨g2, h⟩ := h
  refine x_callV (pc := 2) (z := m_X10_isBend) (b := a0) (as := [.inl x1]) (rest := []) dX10_removeBend_2 c_RX10_95 (by decide) hk0 rfl (Nat.le_of_ble_eq_true rfl) (ct_X10_isBend hW hk0 g1 g2) (fun r M9 hr => ?_)
  obtain ⟨hM9, hr⟩ := hr
  rw [hM9]
  clear hM9
  obtain ⟨hc, rfl⟩ | ⟨hc, rfl⟩ := hr
  · replace h := h.1 hc
    show fx_At E m_X10_removeBend 5 [some (.inr a0), some (.inl x1), none, none] [.inl 1] _ Q
    refine x_zne (pc := 5) 11 dX10_removeBend_5 (by decide) ⟨by decide, by decide⟩ (fun _ => ?_) (fun hx => absurd hx (by decide))
    refine x_aload_n (pc := 11) dX10_removeBend_11 rfl rfl ?_
    obtain ⟨R4, hc4, h⟩ := h
    refine x_callV (pc := 12) (z := m_X10_keep) (b := a0) (as := []) (rest := []) dX10_removeBend_12 c_RX10_82 (by decide) hk0 rfl (Nat.le_of_ble_eq_true rfl) hc4 (fun r M4 hr => ?_)
    obtain ⟨rfl, hr⟩ := hr
    replace h := h M4 hr
    show fx_At E m_X10_removeBend 15 [some (.inr a0), some (.inl x1), none, none] [] M4 Q
    refine x_aload_n (pc := 15) dX10_removeBend_15 rfl rfl ?_
    refine x_getr (pc := 16) dX10_removeBend_16 f_RX10_7 hk0 ?_
    refine x_bipush (pc := 19) dX10_removeBend_19 (by decide +kernel) ?_
    refine x_iconst (pc := 21) dX10_removeBend_21 ?_
    refine x_iload_n (pc := 22) dX10_removeBend_22 rfl rfl ?_
    refine x_imul (pc := 23) dX10_removeBend_23 ?_
    refine x_iadd (pc := 24) dX10_removeBend_24 ?_
    refine x_iconst (pc := 25) dX10_removeBend_25 ?_
    refine x_iadd (pc := 26) dX10_removeBend_26 ?_
    obtain ⟨g5, h⟩ := h
    refine x_iald (pc := 27) dX10_removeBend_27 (wk_10_0 hW hk0) (wl_10_0 hW hk0) g5 ?_
    refine x_istore_n (pc := 28) (lv' := [some (.inr a0), some (.inl x1), some (.inl (M4 (rf E a0 0) (((44 + (2 * x1)) + 1).toNat))), none]) dX10_removeBend_28 rfl (by decide) rfl ?_
    refine x_aload_n (pc := 29) dX10_removeBend_29 rfl rfl ?_
    refine x_getr (pc := 30) dX10_removeBend_30 f_RX10_7 hk0 ?_
    refine x_bipush (pc := 33) dX10_removeBend_33 (by decide +kernel) ?_
    refine x_dup2 (pc := 35) dX10_removeBend_35 ?_
    refine x_iald (pc := 36) dX10_removeBend_36 (wk_10_0 hW hk0) (wl_10_0 hW hk0) ⟨by decide, by decide⟩ ?_
    refine x_iconst (pc := 37) dX10_removeBend_37 ?_
    refine x_isub (pc := 38) dX10_removeBend_38 ?_
    refine x_iast (pc := 39) dX10_removeBend_39 (wk_10_0 hW hk0) (wl_10_0 hW hk0) ⟨by decide, by decide⟩ (fun M6 hM6 => ?_)
    replace h := h M6 hM6
    refine x_bipush (pc := 40) dX10_removeBend_40 (by decide +kernel) ?_
    refine x_iconst (pc := 42) dX10_removeBend_42 ?_
    refine x_iload_n (pc := 43) dX10_removeBend_43 rfl rfl ?_
    refine x_imul (pc := 44) dX10_removeBend_44 ?_
    refine x_iadd (pc := 45) dX10_removeBend_45 ?_
    refine x_istore_n (pc := 46) (lv' := [some (.inr a0), some (.inl x1), some (.inl (M4 (rf E a0 0) (((44 + (2 * x1)) + 1).toNat))), some (.inl (44 + (2 * x1)))]) dX10_removeBend_46 rfl (by decide) rfl ?_
    exact h
  · replace h := h.2 hc
    show fx_At E m_X10_removeBend 5 [some (.inr a0), some (.inl x1), none, none] [.inl 0] _ Q
    refine x_zne (pc := 5) 11 dX10_removeBend_5 (by decide) ⟨by decide, by decide⟩ (fun hx => absurd hx (by decide)) (fun _ => ?_)
    refine x_ldc (pc := 8) (n := -1000001) dX10_removeBend_8 k_RX10_94 rfl ?_
    exact x_iret (pc := 10) dX10_removeBend_10 (Or.inl rfl) h
set_option maxRecDepth 100000 in
theorem b_X10_removeBend_47 {E : fxE} (hW : fx_Wt E) (a0 : Nat) (x1 : Int) (x2 : Int) (x3 : Int) (M : fxM) (Q : Option fxV → fxM → Prop) (hk0 : kd E a0 = 10) (h : (-2147483648 ≤ x3 ∧ x3 < 2147483648) ∧ (-2147483648 ≤ (44 + (2 * (M (rf E a0 0) 43))) ∧ (44 + (2 * (M (rf E a0 0) 43))) < 2147483648) ∧ (((44 + (2 * (M (rf E a0 0) 43))) ≤ x3 → Q (some (.inl x2)) M) ∧ (¬ (44 + (2 * (M (rf E a0 0) 43))) ≤ x3 → (0 ≤ (x3 + 2) ∧ (x3 + 2) < 84) ∧ (0 ≤ x3 ∧ x3 < 84) ∧ ∀ M5 : fxM, M5 = mset M (rf E a0 0) (x3.toNat) (M (rf E a0 0) ((x3 + 2).toNat)) → fx_At E m_X10_removeBend 47 [some (.inr a0), some (.inl x1), some (.inl x2), some (.inl (x3 + 1))] [] M5 Q))) : fx_At E m_X10_removeBend 47 [some (.inr a0), some (.inl x1), some (.inl x2), some (.inl x3)] [] M Q := by
  refine x_iload_n (pc := 47) dX10_removeBend_47 rfl rfl ?_
  refine x_bipush (pc := 48) dX10_removeBend_48 (by decide +kernel) ?_
  refine x_iconst (pc := 50) dX10_removeBend_50 ?_
  refine x_aload_n (pc := 51) dX10_removeBend_51 rfl rfl ?_
  refine x_getr (pc := 52) dX10_removeBend_52 f_RX10_7 hk0 ?_
  refine x_bipush (pc := 55) dX10_removeBend_55 (by decide +kernel) ?_
  refine x_iald (pc := 57) dX10_removeBend_57 (wk_10_0 hW hk0) (wl_10_0 hW hk0) ⟨by decide, by decide⟩ ?_
  refine x_imul (pc := 58) dX10_removeBend_58 ?_
  refine x_iadd (pc := 59) dX10_removeBend_59 ?_
  obtain ⟨g1, h⟩ := h
  obtain ⟨g2, h⟩ := h
  refine x_cge (pc := 60) 83 dX10_removeBend_60 (by decide) ⟨g1, g2⟩ (fun hc => ?_) (fun hc => ?_)
  · replace h := h.1 hc
    refine x_iload_n (pc := 83) dX10_removeBend_83 rfl rfl ?_
    exact x_iret (pc := 84) dX10_removeBend_84 (Or.inl rfl) h
  · replace h := h.2 hc
    refine x_aload_n (pc := 63) dX10_removeBend_63 rfl rfl ?_
    refine x_getr (pc := 64) dX10_removeBend_64 f_RX10_7 hk0 ?_
    refine x_iload_n (pc := 67) dX10_removeBend_67 rfl rfl ?_
    refine x_aload_n (pc := 68) dX10_removeBend_68 rfl rfl ?_
    refine x_getr (pc := 69) dX10_removeBend_69 f_RX10_7 hk0 ?_
    refine x_iload_n (pc := 72) dX10_removeBend_72 rfl rfl ?_
    refine x_iconst (pc := 73) dX10_removeBend_73 ?_
    refine x_iadd (pc := 74) dX10_removeBend_74 ?_
    obtain ⟨g3, h⟩ := h
    refine x_iald (pc := 75) dX10_removeBend_75 (wk_10_0 hW hk0) (wl_10_0 hW hk0) g3 ?_
    obtain ⟨g4, h⟩ := h
    refine x_iast (pc := 76) dX10_removeBend_76 (wk_10_0 hW hk0) (wl_10_0 hW hk0) g4 (fun M5 hM5 => ?_)
    replace h := h M5 hM5
    refine x_iinc (pc := 77) (lv' := [some (.inr a0), some (.inl x1), some (.inl x2), some (.inl (x3 + 1))]) dX10_removeBend_77 rfl (by decide) rfl ?_
    refine x_goto (pc := 80) 47 dX10_removeBend_80 (by decide) ?_
    exact h
theorem dX10_setBreak_0 : decode cX10_setBreak 0 = .ok (.iload_n 1, 1) := by decide +kernel
theorem dX10_setBreak_1 : decode cX10_setBreak 1 = .ok (.ifCond .eq 17, 3) := by decide +kernel
theorem dX10_setBreak_4 : decode cX10_setBreak 4 = .ok (.iload_n 1, 1) := by decide +kernel
theorem dX10_setBreak_5 : decode cX10_setBreak 5 = .ok (.iconst 1, 1) := by decide +kernel
theorem dX10_setBreak_6 : decode cX10_setBreak 6 = .ok (.aload_n 0, 1) := by decide +kernel
theorem dX10_setBreak_7 : decode cX10_setBreak 7 = .ok (.invokevirtual 85, 3) := by decide +kernel
theorem dX10_setBreak_10 : decode cX10_setBreak 10 = .ok (.iconst 1, 1) := by decide +kernel
theorem dX10_setBreak_11 : decode cX10_setBreak 11 = .ok (.isub, 1) := by decide +kernel
theorem dX10_setBreak_12 : decode cX10_setBreak 12 = .ok (.invokestatic 74, 3) := by decide +kernel
theorem dX10_setBreak_15 : decode cX10_setBreak 15 = .ok (.ifCond .eq 14, 3) := by decide +kernel
theorem dX10_setBreak_18 : decode cX10_setBreak 18 = .ok (.iload_n 2, 1) := by decide +kernel
theorem dX10_setBreak_19 : decode cX10_setBreak 19 = .ok (.iconst 0, 1) := by decide +kernel
theorem dX10_setBreak_20 : decode cX10_setBreak 20 = .ok (.sipush 9000, 3) := by decide +kernel
theorem dX10_setBreak_23 : decode cX10_setBreak 23 = .ok (.invokestatic 74, 3) := by decide +kernel
theorem dX10_setBreak_26 : decode cX10_setBreak 26 = .ok (.ifCond .ne 6, 3) := by decide +kernel
theorem dX10_setBreak_29 : decode cX10_setBreak 29 = .ok (.ldc 81, 2) := by decide +kernel
theorem dX10_setBreak_31 : decode cX10_setBreak 31 = .ok (.ireturn, 1) := by decide +kernel
theorem dX10_setBreak_32 : decode cX10_setBreak 32 = .ok (.iload_n 1, 1) := by decide +kernel
theorem dX10_setBreak_33 : decode cX10_setBreak 33 = .ok (.ifCond .ne 16, 3) := by decide +kernel
theorem dX10_setBreak_36 : decode cX10_setBreak 36 = .ok (.aload_n 0, 1) := by decide +kernel
theorem dX10_setBreak_37 : decode cX10_setBreak 37 = .ok (.getfield 7, 3) := by decide +kernel
theorem dX10_setBreak_40 : decode cX10_setBreak 40 = .ok (.bipush 56, 2) := by decide +kernel
theorem dX10_setBreak_42 : decode cX10_setBreak 42 = .ok (.iaload, 1) := by decide +kernel
theorem dX10_setBreak_43 : decode cX10_setBreak 43 = .ok (.ifCond .ne 6, 3) := by decide +kernel
theorem dX10_setBreak_46 : decode cX10_setBreak 46 = .ok (.ldc 98, 2) := by decide +kernel
theorem dX10_setBreak_48 : decode cX10_setBreak 48 = .ok (.ireturn, 1) := by decide +kernel
theorem dX10_setBreak_49 : decode cX10_setBreak 49 = .ok (.aload_n 0, 1) := by decide +kernel
theorem dX10_setBreak_50 : decode cX10_setBreak 50 = .ok (.invokevirtual 82, 3) := by decide +kernel
theorem dX10_setBreak_53 : decode cX10_setBreak 53 = .ok (.aload_n 0, 1) := by decide +kernel
theorem dX10_setBreak_54 : decode cX10_setBreak 54 = .ok (.getfield 7, 3) := by decide +kernel
theorem dX10_setBreak_57 : decode cX10_setBreak 57 = .ok (.bipush 56, 2) := by decide +kernel
theorem dX10_setBreak_59 : decode cX10_setBreak 59 = .ok (.iaload, 1) := by decide +kernel
theorem dX10_setBreak_60 : decode cX10_setBreak 60 = .ok (.istore_n 3, 1) := by decide +kernel
theorem dX10_setBreak_61 : decode cX10_setBreak 61 = .ok (.aload_n 0, 1) := by decide +kernel
theorem dX10_setBreak_62 : decode cX10_setBreak 62 = .ok (.getfield 7, 3) := by decide +kernel
theorem dX10_setBreak_65 : decode cX10_setBreak 65 = .ok (.bipush 56, 2) := by decide +kernel
theorem dX10_setBreak_67 : decode cX10_setBreak 67 = .ok (.iload_n 1, 1) := by decide +kernel
theorem dX10_setBreak_68 : decode cX10_setBreak 68 = .ok (.iastore, 1) := by decide +kernel
theorem dX10_setBreak_69 : decode cX10_setBreak 69 = .ok (.aload_n 0, 1) := by decide +kernel
theorem dX10_setBreak_70 : decode cX10_setBreak 70 = .ok (.getfield 7, 3) := by decide +kernel
theorem dX10_setBreak_73 : decode cX10_setBreak 73 = .ok (.bipush 57, 2) := by decide +kernel
theorem dX10_setBreak_75 : decode cX10_setBreak 75 = .ok (.iload_n 1, 1) := by decide +kernel
theorem dX10_setBreak_76 : decode cX10_setBreak 76 = .ok (.ifCond .ne 7, 3) := by decide +kernel
theorem dX10_setBreak_79 : decode cX10_setBreak 79 = .ok (.iconst 0, 1) := by decide +kernel
theorem dX10_setBreak_80 : decode cX10_setBreak 80 = .ok (.goto 4, 3) := by decide +kernel
theorem dX10_setBreak_83 : decode cX10_setBreak 83 = .ok (.iload_n 2, 1) := by decide +kernel
theorem dX10_setBreak_84 : decode cX10_setBreak 84 = .ok (.iastore, 1) := by decide +kernel
theorem dX10_setBreak_85 : decode cX10_setBreak 85 = .ok (.iload_n 3, 1) := by decide +kernel
theorem dX10_setBreak_86 : decode cX10_setBreak 86 = .ok (.ireturn, 1) := by decide +kernel
set_option maxRecDepth 100000 in
theorem b_X10_setBreak_0 {E : fxE} (hW : fx_Wt E) (a0 : Nat) (x1 : Int) (x2 : Int) (M : fxM) (Q : Option fxV → fxM → Prop) (hk0 : kd E a0 = 10) (h : (-2147483648 ≤ x1 ∧ x1 < 2147483648) ∧ ((x1 = (0 : Int) → fx_At E m_X10_setBreak 18 [some (.inr a0), some (.inl x1), some (.inl x2), none] [] M Q) ∧ (¬ x1 = (0 : Int) → (0 ≤ M (rf E a0 0) 0 ∧ M (rf E a0 0) 0 ≤ 8) ∧ (-2147483648 ≤ ((wsum (M (rf E a0 0)) (M (rf E a0 0) 0).toNat) - 1) ∧ ((wsum (M (rf E a0 0)) (M (rf E a0 0) 0).toNat) - 1) < 2147483648) ∧ (((1 : Int) ≤ x1 ∧ x1 ≤ ((wsum (M (rf E a0 0)) (M (rf E a0 0) 0).toNat) - 1) → fx_At E m_X10_setBreak 18 [some (.inr a0), some (.inl x1), some (.inl x2), none] [] M Q) ∧ (¬ ((1 : Int) ≤ x1 ∧ x1 ≤ ((wsum (M (rf E a0 0)) (M (rf E a0 0) 0).toNat) - 1)) → Q (some (.inl (-1000002))) M))))) : fx_At E m_X10_setBreak 0 [some (.inr a0), some (.inl x1), some (.inl x2), none] [] M Q := by
  refine x_iload_n (pc := 0) dX10_setBreak_0 rfl rfl ?_
  obtain ⟨g1, h⟩ := h
  refine x_zeq (pc := 1) 18 dX10_setBreak_1 (by decide) g1 (fun hc => ?_) (fun hc => ?_)
  · replace h := h.1 hc
    exact h
  · replace h := h.2 hc
    refine x_iload_n (pc := 4) dX10_setBreak_4 rfl rfl ?_
    refine x_iconst (pc := 5) dX10_setBreak_5 ?_
    refine x_aload_n (pc := 6) dX10_setBreak_6 rfl rfl ?_
    obtain ⟨g2, h⟩ := h
    refine x_callV (pc := 7) (z := m_X10_whole) (b := a0) (as := []) (rest := [.inl 1, .inl x1]) dX10_setBreak_7 c_RX10_85 (by decide) hk0 rfl (Nat.le_of_ble_eq_true rfl) (ct_X10_whole hW hk0 g2) (fun r M9 hr => ?_)
    obtain ⟨hM9, hr⟩ := hr
    rw [hM9, hr]
    clear hM9 hr
    show fx_At E m_X10_setBreak 10 [some (.inr a0), some (.inl x1), some (.inl x2), none] [.inl (wsum (M (rf E a0 0)) (M (rf E a0 0) 0).toNat), .inl 1, .inl x1] _ Q
    refine x_iconst (pc := 10) dX10_setBreak_10 ?_
    refine x_isub (pc := 11) dX10_setBreak_11 ?_
    obtain ⟨g3, h⟩ := h
    refine x_callS (pc := 12) (z := m_X10_isIn) (as := [.inl x1, .inl 1, .inl ((wsum (M (rf E a0 0)) (M (rf E a0 0) 0).toNat) - 1)]) (rest := []) dX10_setBreak_12 c_RX10_74 (by decide) rfl (Nat.le_of_ble_eq_true rfl) (ct_isIn hW g1 ⟨by decide, by decide⟩ g3) (fun r M9 hr => ?_)
    obtain ⟨hM9, hr⟩ := hr
    rw [hM9]
    clear hM9
    obtain ⟨hc, rfl⟩ | ⟨hc, rfl⟩ := hr
    · replace h := h.1 hc
      show fx_At E m_X10_setBreak 15 [some (.inr a0), some (.inl x1), some (.inl x2), none] [.inl 1] _ Q
      refine x_zeq (pc := 15) 29 dX10_setBreak_15 (by decide) ⟨by decide, by decide⟩ (fun hx => absurd hx (by decide)) (fun _ => ?_)
      exact h
    · replace h := h.2 hc
      show fx_At E m_X10_setBreak 15 [some (.inr a0), some (.inl x1), some (.inl x2), none] [.inl 0] _ Q
      refine x_zeq (pc := 15) 29 dX10_setBreak_15 (by decide) ⟨by decide, by decide⟩ (fun _ => ?_) (fun hx => absurd hx (by decide))
      refine x_ldc (pc := 29) (n := -1000002) dX10_setBreak_29 k_RX10_81 rfl ?_
      exact x_iret (pc := 31) dX10_setBreak_31 (Or.inl rfl) h
set_option maxRecDepth 100000 in
theorem b_X10_setBreak_18 {E : fxE} (hW : fx_Wt E) (a0 : Nat) (x1 : Int) (x2 : Int) (M : fxM) (Q : Option fxV → fxM → Prop) (hk0 : kd E a0 = 10) (h : (-2147483648 ≤ x2 ∧ x2 < 2147483648) ∧ (((0 : Int) ≤ x2 ∧ x2 ≤ (9000 : Int) → (-2147483648 ≤ x1 ∧ x1 < 2147483648) ∧ ((¬ x1 = (0 : Int) → fx_At E m_X10_setBreak 49 [some (.inr a0), some (.inl x1), some (.inl x2), none] [] M Q) ∧ (x1 = (0 : Int) → (-2147483648 ≤ (M (rf E a0 0) 56) ∧ (M (rf E a0 0) 56) < 2147483648) ∧ ((¬ (M (rf E a0 0) 56) = (0 : Int) → fx_At E m_X10_setBreak 49 [some (.inr a0), some (.inl x1), some (.inl x2), none] [] M Q) ∧ ((M (rf E a0 0) 56) = (0 : Int) → Q (some (.inl (-1000004))) M))))) ∧ (¬ ((0 : Int) ≤ x2 ∧ x2 ≤ (9000 : Int)) → Q (some (.inl (-1000002))) M))) : fx_At E m_X10_setBreak 18 [some (.inr a0), some (.inl x1), some (.inl x2), none] [] M Q := by
  refine x_iload_n (pc := 18) dX10_setBreak_18 rfl rfl ?_
  refine x_iconst (pc := 19) dX10_setBreak_19 ?_
  refine x_sipush (pc := 20) dX10_setBreak_20 (by decide +kernel) ?_
  obtain ⟨g1, h⟩ := h
  refine x_callS (pc := 23) (z := m_X10_isIn) (as := [.inl x2, .inl 0, .inl 9000]) (rest := []) dX10_setBreak_23 c_RX10_74 (by decide) rfl (Nat.le_of_ble_eq_true rfl) (ct_isIn hW g1 ⟨by decide, by decide⟩ ⟨by decide, by decide⟩) (fun r M9 hr => ?_)
  obtain ⟨hM9, hr⟩ := hr
  rw [hM9]
  clear hM9
  obtain ⟨hc, rfl⟩ | ⟨hc, rfl⟩ := hr
  · replace h := h.1 hc
    show fx_At E m_X10_setBreak 26 [some (.inr a0), some (.inl x1), some (.inl x2), none] [.inl 1] _ Q
    refine x_zne (pc := 26) 32 dX10_setBreak_26 (by decide) ⟨by decide, by decide⟩ (fun _ => ?_) (fun hx => absurd hx (by decide))
    refine x_iload_n (pc := 32) dX10_setBreak_32 rfl rfl ?_
    obtain ⟨g3, h⟩ := h
    refine x_zne (pc := 33) 49 dX10_setBreak_33 (by decide) g3 (fun hc => ?_) (fun hc => ?_)
    · replace h := h.1 hc
      exact h
    · replace h := h.2 hc
      refine x_aload_n (pc := 36) dX10_setBreak_36 rfl rfl ?_
      refine x_getr (pc := 37) dX10_setBreak_37 f_RX10_7 hk0 ?_
      refine x_bipush (pc := 40) dX10_setBreak_40 (by decide +kernel) ?_
      refine x_iald (pc := 42) dX10_setBreak_42 (wk_10_0 hW hk0) (wl_10_0 hW hk0) ⟨by decide, by decide⟩ ?_
      obtain ⟨g4, h⟩ := h
      refine x_zne (pc := 43) 49 dX10_setBreak_43 (by decide) g4 (fun hc => ?_) (fun hc => ?_)
      · replace h := h.1 hc
        exact h
      · replace h := h.2 hc
        refine x_ldc (pc := 46) (n := -1000004) dX10_setBreak_46 k_RX10_98 rfl ?_
        exact x_iret (pc := 48) dX10_setBreak_48 (Or.inl rfl) h
  · replace h := h.2 hc
    show fx_At E m_X10_setBreak 26 [some (.inr a0), some (.inl x1), some (.inl x2), none] [.inl 0] _ Q
    refine x_zne (pc := 26) 32 dX10_setBreak_26 (by decide) ⟨by decide, by decide⟩ (fun hx => absurd hx (by decide)) (fun _ => ?_)
    refine x_ldc (pc := 29) (n := -1000002) dX10_setBreak_29 k_RX10_81 rfl ?_
    exact x_iret (pc := 31) dX10_setBreak_31 (Or.inl rfl) h
set_option maxRecDepth 100000 in
theorem b_X10_setBreak_49 {E : fxE} (hW : fx_Wt E) (a0 : Nat) (x1 : Int) (x2 : Int) (M : fxM) (Q : Option fxV → fxM → Prop) (hk0 : kd E a0 = 10) (h : ∃ R1 : fxM → Prop, CtV E m_X10_keep [.inr a0] M R1 ∧ ∀ M1 : fxM, R1 M1 → ∀ M2 : fxM, M2 = mset M1 (rf E a0 0) 56 x1 → (-2147483648 ≤ x1 ∧ x1 < 2147483648) ∧ ((¬ x1 = (0 : Int) → ∀ M4 : fxM, M4 = mset M2 (rf E a0 0) 57 x2 → Q (some (.inl (M1 (rf E a0 0) 56))) M4) ∧ (x1 = (0 : Int) → ∀ M5 : fxM, M5 = mset M2 (rf E a0 0) 57 0 → Q (some (.inl (M1 (rf E a0 0) 56))) M5))) : fx_At E m_X10_setBreak 49 [some (.inr a0), some (.inl x1), some (.inl x2), none] [] M Q := by
  refine x_aload_n (pc := 49) dX10_setBreak_49 rfl rfl ?_
  obtain ⟨R1, hc1, h⟩ := h
  refine x_callV (pc := 50) (z := m_X10_keep) (b := a0) (as := []) (rest := []) dX10_setBreak_50 c_RX10_82 (by decide) hk0 rfl (Nat.le_of_ble_eq_true rfl) hc1 (fun r M1 hr => ?_)
  obtain ⟨rfl, hr⟩ := hr
  replace h := h M1 hr
  show fx_At E m_X10_setBreak 53 [some (.inr a0), some (.inl x1), some (.inl x2), none] [] M1 Q
  refine x_aload_n (pc := 53) dX10_setBreak_53 rfl rfl ?_
  refine x_getr (pc := 54) dX10_setBreak_54 f_RX10_7 hk0 ?_
  refine x_bipush (pc := 57) dX10_setBreak_57 (by decide +kernel) ?_
  refine x_iald (pc := 59) dX10_setBreak_59 (wk_10_0 hW hk0) (wl_10_0 hW hk0) ⟨by decide, by decide⟩ ?_
  refine x_istore_n (pc := 60) (lv' := [some (.inr a0), some (.inl x1), some (.inl x2), some (.inl (M1 (rf E a0 0) 56))]) dX10_setBreak_60 rfl (by decide) rfl ?_
  refine x_aload_n (pc := 61) dX10_setBreak_61 rfl rfl ?_
  refine x_getr (pc := 62) dX10_setBreak_62 f_RX10_7 hk0 ?_
  refine x_bipush (pc := 65) dX10_setBreak_65 (by decide +kernel) ?_
  refine x_iload_n (pc := 67) dX10_setBreak_67 rfl rfl ?_
  refine x_iast (pc := 68) dX10_setBreak_68 (wk_10_0 hW hk0) (wl_10_0 hW hk0) ⟨by decide, by decide⟩ (fun M2 hM2 => ?_)
  replace h := h M2 hM2
  refine x_aload_n (pc := 69) dX10_setBreak_69 rfl rfl ?_
  refine x_getr (pc := 70) dX10_setBreak_70 f_RX10_7 hk0 ?_
  refine x_bipush (pc := 73) dX10_setBreak_73 (by decide +kernel) ?_
  refine x_iload_n (pc := 75) dX10_setBreak_75 rfl rfl ?_
  obtain ⟨g3, h⟩ := h
  refine x_zne (pc := 76) 83 dX10_setBreak_76 (by decide) g3 (fun hc => ?_) (fun hc => ?_)
  · replace h := h.1 hc
    refine x_iload_n (pc := 83) dX10_setBreak_83 rfl rfl ?_
    refine x_iast (pc := 84) dX10_setBreak_84 (wk_10_0 hW hk0) (wl_10_0 hW hk0) ⟨by decide, by decide⟩ (fun M4 hM4 => ?_)
    replace h := h M4 hM4
    refine x_iload_n (pc := 85) dX10_setBreak_85 rfl rfl ?_
    exact x_iret (pc := 86) dX10_setBreak_86 (Or.inl rfl) h
  · replace h := h.2 hc
    refine x_iconst (pc := 79) dX10_setBreak_79 ?_
    refine x_goto (pc := 80) 84 dX10_setBreak_80 (by decide) ?_
    refine x_iast (pc := 84) dX10_setBreak_84 (wk_10_0 hW hk0) (wl_10_0 hW hk0) ⟨by decide, by decide⟩ (fun M5 hM5 => ?_)
    replace h := h M5 hM5
    refine x_iload_n (pc := 85) dX10_setBreak_85 rfl rfl ?_
    exact x_iret (pc := 86) dX10_setBreak_86 (Or.inl rfl) h
theorem dX10_set_0 : decode cX10_set 0 = .ok (.iload_n 1, 1) := by decide +kernel
theorem dX10_set_1 : decode cX10_set 1 = .ok (.iconst 0, 1) := by decide +kernel
theorem dX10_set_2 : decode cX10_set 2 = .ok (.iconst 3, 1) := by decide +kernel
theorem dX10_set_3 : decode cX10_set 3 = .ok (.invokestatic 74, 3) := by decide +kernel
theorem dX10_set_6 : decode cX10_set 6 = .ok (.ifCond .ne 6, 3) := by decide +kernel
theorem dX10_set_9 : decode cX10_set 9 = .ok (.ldc 94, 2) := by decide +kernel
theorem dX10_set_11 : decode cX10_set 11 = .ok (.ireturn, 1) := by decide +kernel
theorem dX10_set_12 : decode cX10_set 12 = .ok (.iload_n 1, 1) := by decide +kernel
theorem dX10_set_13 : decode cX10_set 13 = .ok (.ifCond .ne 8, 3) := by decide +kernel
theorem dX10_set_16 : decode cX10_set 16 = .ok (.bipush 60, 2) := by decide +kernel
theorem dX10_set_18 : decode cX10_set 18 = .ok (.goto 27, 3) := by decide +kernel
theorem dX10_set_21 : decode cX10_set 21 = .ok (.iload_n 1, 1) := by decide +kernel
theorem dX10_set_22 : decode cX10_set 22 = .ok (.iconst 1, 1) := by decide +kernel
theorem dX10_set_23 : decode cX10_set 23 = .ok (.if_icmp .ne 9, 3) := by decide +kernel
theorem dX10_set_26 : decode cX10_set 26 = .ok (.sipush 5000, 3) := by decide +kernel
theorem dX10_set_29 : decode cX10_set 29 = .ok (.goto 16, 3) := by decide +kernel
theorem dX10_set_32 : decode cX10_set 32 = .ok (.iload_n 1, 1) := by decide +kernel
theorem dX10_set_33 : decode cX10_set 33 = .ok (.iconst 2, 1) := by decide +kernel
theorem dX10_set_34 : decode cX10_set 34 = .ok (.if_icmp .ne 8, 3) := by decide +kernel
theorem dX10_set_37 : decode cX10_set 37 = .ok (.bipush 20, 2) := by decide +kernel
theorem dX10_set_39 : decode cX10_set 39 = .ok (.goto 6, 3) := by decide +kernel
theorem dX10_set_42 : decode cX10_set 42 = .ok (.sipush 9000, 3) := by decide +kernel
theorem dX10_set_45 : decode cX10_set 45 = .ok (.istore_n 3, 1) := by decide +kernel
theorem dX10_set_46 : decode cX10_set 46 = .ok (.iload_n 2, 1) := by decide +kernel
theorem dX10_set_47 : decode cX10_set 47 = .ok (.iload_n 1, 1) := by decide +kernel
theorem dX10_set_48 : decode cX10_set 48 = .ok (.iconst 1, 1) := by decide +kernel
theorem dX10_set_49 : decode cX10_set 49 = .ok (.if_icmp .ne 7, 3) := by decide +kernel
theorem dX10_set_52 : decode cX10_set 52 = .ok (.iconst 1, 1) := by decide +kernel
theorem dX10_set_53 : decode cX10_set 53 = .ok (.goto 4, 3) := by decide +kernel
theorem dX10_set_56 : decode cX10_set 56 = .ok (.iconst 0, 1) := by decide +kernel
theorem dX10_set_57 : decode cX10_set 57 = .ok (.iload_n 3, 1) := by decide +kernel
theorem dX10_set_58 : decode cX10_set 58 = .ok (.invokestatic 74, 3) := by decide +kernel
theorem dX10_set_61 : decode cX10_set 61 = .ok (.ifCond .ne 6, 3) := by decide +kernel
theorem dX10_set_64 : decode cX10_set 64 = .ok (.ldc 81, 2) := by decide +kernel
theorem dX10_set_66 : decode cX10_set 66 = .ok (.ireturn, 1) := by decide +kernel
theorem dX10_set_67 : decode cX10_set 67 = .ok (.aload_n 0, 1) := by decide +kernel
theorem dX10_set_68 : decode cX10_set 68 = .ok (.invokevirtual 82, 3) := by decide +kernel
theorem dX10_set_71 : decode cX10_set 71 = .ok (.aload_n 0, 1) := by decide +kernel
theorem dX10_set_72 : decode cX10_set 72 = .ok (.getfield 7, 3) := by decide +kernel
theorem dX10_set_75 : decode cX10_set 75 = .ok (.bipush 58, 2) := by decide +kernel
theorem dX10_set_77 : decode cX10_set 77 = .ok (.iload_n 1, 1) := by decide +kernel
theorem dX10_set_78 : decode cX10_set 78 = .ok (.iadd, 1) := by decide +kernel
theorem dX10_set_79 : decode cX10_set 79 = .ok (.iaload, 1) := by decide +kernel
theorem dX10_set_80 : decode cX10_set 80 = .ok (.istore 4, 2) := by decide +kernel
theorem dX10_set_82 : decode cX10_set 82 = .ok (.aload_n 0, 1) := by decide +kernel
theorem dX10_set_83 : decode cX10_set 83 = .ok (.getfield 7, 3) := by decide +kernel
theorem dX10_set_86 : decode cX10_set 86 = .ok (.bipush 58, 2) := by decide +kernel
theorem dX10_set_88 : decode cX10_set 88 = .ok (.iload_n 1, 1) := by decide +kernel
theorem dX10_set_89 : decode cX10_set 89 = .ok (.iadd, 1) := by decide +kernel
theorem dX10_set_90 : decode cX10_set 90 = .ok (.iload_n 2, 1) := by decide +kernel
theorem dX10_set_91 : decode cX10_set 91 = .ok (.iastore, 1) := by decide +kernel
theorem dX10_set_92 : decode cX10_set 92 = .ok (.iload 4, 2) := by decide +kernel
theorem dX10_set_94 : decode cX10_set 94 = .ok (.ireturn, 1) := by decide +kernel
set_option maxRecDepth 100000 in
theorem b_X10_set_0 {E : fxE} (hW : fx_Wt E) (a0 : Nat) (x1 : Int) (x2 : Int) (M : fxM) (Q : Option fxV → fxM → Prop) (hk0 : kd E a0 = 10) (h : (-2147483648 ≤ x1 ∧ x1 < 2147483648) ∧ (((0 : Int) ≤ x1 ∧ x1 ≤ (3 : Int) → ((¬ x1 = (0 : Int) → ((¬ x1 = (1 : Int) → ((¬ x1 = (2 : Int) → ((¬ x1 = (1 : Int) → fx_At E m_X10_set 57 [some (.inr a0), some (.inl x1), some (.inl x2), some (.inl 9000), none] [.inl 0, .inl x2] M Q) ∧ (x1 = (1 : Int) → fx_At E m_X10_set 57 [some (.inr a0), some (.inl x1), some (.inl x2), some (.inl 9000), none] [.inl 1, .inl x2] M Q))) ∧ (x1 = (2 : Int) → ((¬ x1 = (1 : Int) → fx_At E m_X10_set 57 [some (.inr a0), some (.inl x1), some (.inl x2), some (.inl 20), none] [.inl 0, .inl x2] M Q) ∧ (x1 = (1 : Int) → fx_At E m_X10_set 57 [some (.inr a0), some (.inl x1), some (.inl x2), some (.inl 20), none] [.inl 1, .inl x2] M Q))))) ∧ (x1 = (1 : Int) → ((¬ x1 = (1 : Int) → fx_At E m_X10_set 57 [some (.inr a0), some (.inl x1), some (.inl x2), some (.inl 5000), none] [.inl 0, .inl x2] M Q) ∧ (x1 = (1 : Int) → fx_At E m_X10_set 57 [some (.inr a0), some (.inl x1), some (.inl x2), some (.inl 5000), none] [.inl 1, .inl x2] M Q))))) ∧ (x1 = (0 : Int) → ((¬ x1 = (1 : Int) → fx_At E m_X10_set 57 [some (.inr a0), some (.inl x1), some (.inl x2), some (.inl 60), none] [.inl 0, .inl x2] M Q) ∧ (x1 = (1 : Int) → fx_At E m_X10_set 57 [some (.inr a0), some (.inl x1), some (.inl x2), some (.inl 60), none] [.inl 1, .inl x2] M Q))))) ∧ (¬ ((0 : Int) ≤ x1 ∧ x1 ≤ (3 : Int)) → Q (some (.inl (-1000001))) M))) : fx_At E m_X10_set 0 [some (.inr a0), some (.inl x1), some (.inl x2), none, none] [] M Q := by
  refine x_iload_n (pc := 0) dX10_set_0 rfl rfl ?_
  refine x_iconst (pc := 1) dX10_set_1 ?_
  refine x_iconst (pc := 2) dX10_set_2 ?_
  obtain ⟨g1, h⟩ := h
  refine x_callS (pc := 3) (z := m_X10_isIn) (as := [.inl x1, .inl 0, .inl 3]) (rest := []) dX10_set_3 c_RX10_74 (by decide) rfl (Nat.le_of_ble_eq_true rfl) (ct_isIn hW g1 ⟨by decide, by decide⟩ ⟨by decide, by decide⟩) (fun r M9 hr => ?_)
  obtain ⟨hM9, hr⟩ := hr
  rw [hM9]
  clear hM9
  obtain ⟨hc, rfl⟩ | ⟨hc, rfl⟩ := hr
  · replace h := h.1 hc
    show fx_At E m_X10_set 6 [some (.inr a0), some (.inl x1), some (.inl x2), none, none] [.inl 1] _ Q
    refine x_zne (pc := 6) 12 dX10_set_6 (by decide) ⟨by decide, by decide⟩ (fun _ => ?_) (fun hx => absurd hx (by decide))
    refine x_iload_n (pc := 12) dX10_set_12 rfl rfl ?_
    refine x_zne (pc := 13) 21 dX10_set_13 (by decide) g1 (fun hc => ?_) (fun hc => ?_)
    · replace h := h.1 hc
      refine x_iload_n (pc := 21) dX10_set_21 rfl rfl ?_
      refine x_iconst (pc := 22) dX10_set_22 ?_
      refine x_cne (pc := 23) 32 dX10_set_23 (by decide) ⟨g1, ⟨by decide, by decide⟩⟩ (fun hc => ?_) (fun hc => ?_)
      · replace h := h.1 hc
        refine x_iload_n (pc := 32) dX10_set_32 rfl rfl ?_
        refine x_iconst (pc := 33) dX10_set_33 ?_
        refine x_cne (pc := 34) 42 dX10_set_34 (by decide) ⟨g1, ⟨by decide, by decide⟩⟩ (fun hc => ?_) (fun hc => ?_)
        · replace h := h.1 hc
          refine x_sipush (pc := 42) dX10_set_42 (by decide +kernel) ?_
          refine x_istore_n (pc := 45) (lv' := [some (.inr a0), some (.inl x1), some (.inl x2), some (.inl 9000), none]) dX10_set_45 rfl (by decide) rfl ?_
          refine x_iload_n (pc := 46) dX10_set_46 rfl rfl ?_
          refine x_iload_n (pc := 47) dX10_set_47 rfl rfl ?_
          refine x_iconst (pc := 48) dX10_set_48 ?_
          refine x_cne (pc := 49) 56 dX10_set_49 (by decide) ⟨g1, ⟨by decide, by decide⟩⟩ (fun hc => ?_) (fun hc => ?_)
          · replace h := h.1 hc
            refine x_iconst (pc := 56) dX10_set_56 ?_
            exact h
          · replace h := h.2 hc
            refine x_iconst (pc := 52) dX10_set_52 ?_
            refine x_goto (pc := 53) 57 dX10_set_53 (by decide) ?_
            exact h
        · replace h := h.2 hc
          refine x_bipush (pc := 37) dX10_set_37 (by decide +kernel) ?_
          refine x_goto (pc := 39) 45 dX10_set_39 (by decide) ?_
          refine x_istore_n (pc := 45) (lv' := [some (.inr a0), some (.inl x1), some (.inl x2), some (.inl 20), none]) dX10_set_45 rfl (by decide) rfl ?_
          refine x_iload_n (pc := 46) dX10_set_46 rfl rfl ?_
          refine x_iload_n (pc := 47) dX10_set_47 rfl rfl ?_
          refine x_iconst (pc := 48) dX10_set_48 ?_
          refine x_cne (pc := 49) 56 dX10_set_49 (by decide) ⟨g1, ⟨by decide, by decide⟩⟩ (fun hc => ?_) (fun hc => ?_)
          · replace h := h.1 hc
            refine x_iconst (pc := 56) dX10_set_56 ?_
            exact h
          · replace h := h.2 hc
            refine x_iconst (pc := 52) dX10_set_52 ?_
            refine x_goto (pc := 53) 57 dX10_set_53 (by decide) ?_
            exact h
      · replace h := h.2 hc
        refine x_sipush (pc := 26) dX10_set_26 (by decide +kernel) ?_
        refine x_goto (pc := 29) 45 dX10_set_29 (by decide) ?_
        refine x_istore_n (pc := 45) (lv' := [some (.inr a0), some (.inl x1), some (.inl x2), some (.inl 5000), none]) dX10_set_45 rfl (by decide) rfl ?_
        refine x_iload_n (pc := 46) dX10_set_46 rfl rfl ?_
        refine x_iload_n (pc := 47) dX10_set_47 rfl rfl ?_
        refine x_iconst (pc := 48) dX10_set_48 ?_
        refine x_cne (pc := 49) 56 dX10_set_49 (by decide) ⟨g1, ⟨by decide, by decide⟩⟩ (fun hc => ?_) (fun hc => ?_)
        · replace h := h.1 hc
          refine x_iconst (pc := 56) dX10_set_56 ?_
          exact h
        · replace h := h.2 hc
          refine x_iconst (pc := 52) dX10_set_52 ?_
          refine x_goto (pc := 53) 57 dX10_set_53 (by decide) ?_
          exact h
    · replace h := h.2 hc
      refine x_bipush (pc := 16) dX10_set_16 (by decide +kernel) ?_
      refine x_goto (pc := 18) 45 dX10_set_18 (by decide) ?_
      refine x_istore_n (pc := 45) (lv' := [some (.inr a0), some (.inl x1), some (.inl x2), some (.inl 60), none]) dX10_set_45 rfl (by decide) rfl ?_
      refine x_iload_n (pc := 46) dX10_set_46 rfl rfl ?_
      refine x_iload_n (pc := 47) dX10_set_47 rfl rfl ?_
      refine x_iconst (pc := 48) dX10_set_48 ?_
      refine x_cne (pc := 49) 56 dX10_set_49 (by decide) ⟨g1, ⟨by decide, by decide⟩⟩ (fun hc => ?_) (fun hc => ?_)
      · replace h := h.1 hc
        refine x_iconst (pc := 56) dX10_set_56 ?_
        exact h
      · replace h := h.2 hc
        refine x_iconst (pc := 52) dX10_set_52 ?_
        refine x_goto (pc := 53) 57 dX10_set_53 (by decide) ?_
        exact h
  · replace h := h.2 hc
    show fx_At E m_X10_set 6 [some (.inr a0), some (.inl x1), some (.inl x2), none, none] [.inl 0] _ Q
    refine x_zne (pc := 6) 12 dX10_set_6 (by decide) ⟨by decide, by decide⟩ (fun hx => absurd hx (by decide)) (fun _ => ?_)
    refine x_ldc (pc := 9) (n := -1000001) dX10_set_9 k_RX10_94 rfl ?_
    exact x_iret (pc := 11) dX10_set_11 (Or.inl rfl) h
set_option maxRecDepth 100000 in
theorem b_X10_set_57 {E : fxE} (hW : fx_Wt E) (a0 : Nat) (x1 : Int) (x2 : Int) (x3 : Int) (s0 : Int) (s1 : Int) (M : fxM) (Q : Option fxV → fxM → Prop) (hk0 : kd E a0 = 10) (h : (-2147483648 ≤ s0 ∧ s0 < 2147483648) ∧ (-2147483648 ≤ s1 ∧ s1 < 2147483648) ∧ (-2147483648 ≤ x3 ∧ x3 < 2147483648) ∧ ((s1 ≤ s0 ∧ s0 ≤ x3 → ∃ R5 : fxM → Prop, CtV E m_X10_keep [.inr a0] M R5 ∧ ∀ M5 : fxM, R5 M5 → (0 ≤ (58 + x1) ∧ (58 + x1) < 84) ∧ ∀ M7 : fxM, M7 = mset M5 (rf E a0 0) ((58 + x1).toNat) x2 → Q (some (.inl (M5 (rf E a0 0) ((58 + x1).toNat)))) M7) ∧ (¬ (s1 ≤ s0 ∧ s0 ≤ x3) → Q (some (.inl (-1000002))) M))) : fx_At E m_X10_set 57 [some (.inr a0), some (.inl x1), some (.inl x2), some (.inl x3), none] [.inl s1, .inl s0] M Q := by
  refine x_iload_n (pc := 57) dX10_set_57 rfl rfl ?_
  obtain ⟨g1, h⟩ := h
  obtain ⟨g2, h⟩ := h
  obtain ⟨g3, h⟩ := h
  refine x_callS (pc := 58) (z := m_X10_isIn) (as := [.inl s0, .inl s1, .inl x3]) (rest := []) dX10_set_58 c_RX10_74 (by decide) rfl (Nat.le_of_ble_eq_true rfl) (ct_isIn hW g1 g2 g3) (fun r M9 hr => ?_)
  obtain ⟨hM9, hr⟩ := hr
  rw [hM9]
  clear hM9
  obtain ⟨hc, rfl⟩ | ⟨hc, rfl⟩ := hr
  · replace h := h.1 hc
    show fx_At E m_X10_set 61 [some (.inr a0), some (.inl x1), some (.inl x2), some (.inl x3), none] [.inl 1] _ Q
    refine x_zne (pc := 61) 67 dX10_set_61 (by decide) ⟨by decide, by decide⟩ (fun _ => ?_) (fun hx => absurd hx (by decide))
    refine x_aload_n (pc := 67) dX10_set_67 rfl rfl ?_
    obtain ⟨R5, hc5, h⟩ := h
    refine x_callV (pc := 68) (z := m_X10_keep) (b := a0) (as := []) (rest := []) dX10_set_68 c_RX10_82 (by decide) hk0 rfl (Nat.le_of_ble_eq_true rfl) hc5 (fun r M5 hr => ?_)
    obtain ⟨rfl, hr⟩ := hr
    replace h := h M5 hr
    show fx_At E m_X10_set 71 [some (.inr a0), some (.inl x1), some (.inl x2), some (.inl x3), none] [] M5 Q
    refine x_aload_n (pc := 71) dX10_set_71 rfl rfl ?_
    refine x_getr (pc := 72) dX10_set_72 f_RX10_7 hk0 ?_
    refine x_bipush (pc := 75) dX10_set_75 (by decide +kernel) ?_
    refine x_iload_n (pc := 77) dX10_set_77 rfl rfl ?_
    refine x_iadd (pc := 78) dX10_set_78 ?_
    obtain ⟨g6, h⟩ := h
    refine x_iald (pc := 79) dX10_set_79 (wk_10_0 hW hk0) (wl_10_0 hW hk0) g6 ?_
    refine x_istore (pc := 80) (lv' := [some (.inr a0), some (.inl x1), some (.inl x2), some (.inl x3), some (.inl (M5 (rf E a0 0) ((58 + x1).toNat)))]) dX10_set_80 (by decide) rfl ?_
    refine x_aload_n (pc := 82) dX10_set_82 rfl rfl ?_
    refine x_getr (pc := 83) dX10_set_83 f_RX10_7 hk0 ?_
    refine x_bipush (pc := 86) dX10_set_86 (by decide +kernel) ?_
    refine x_iload_n (pc := 88) dX10_set_88 rfl rfl ?_
    refine x_iadd (pc := 89) dX10_set_89 ?_
    refine x_iload_n (pc := 90) dX10_set_90 rfl rfl ?_
    refine x_iast (pc := 91) dX10_set_91 (wk_10_0 hW hk0) (wl_10_0 hW hk0) g6 (fun M7 hM7 => ?_)
    replace h := h M7 hM7
    refine x_iload (pc := 92) dX10_set_92 rfl ?_
    exact x_iret (pc := 94) dX10_set_94 (Or.inl rfl) h
  · replace h := h.2 hc
    show fx_At E m_X10_set 61 [some (.inr a0), some (.inl x1), some (.inl x2), some (.inl x3), none] [.inl 0] _ Q
    refine x_zne (pc := 61) 67 dX10_set_61 (by decide) ⟨by decide, by decide⟩ (fun hx => absurd hx (by decide)) (fun _ => ?_)
    refine x_ldc (pc := 64) (n := -1000002) dX10_set_64 k_RX10_81 rfl ?_
    exact x_iret (pc := 66) dX10_set_66 (Or.inl rfl) h
theorem dX10_undo_0 : decode cX10_undo 0 = .ok (.aload_n 0, 1) := by decide +kernel
theorem dX10_undo_1 : decode cX10_undo 1 = .ok (.getfield 71, 3) := by decide +kernel
theorem dX10_undo_4 : decode cX10_undo 4 = .ok (.ifCond .ne 6, 3) := by decide +kernel
theorem dX10_undo_7 : decode cX10_undo 7 = .ok (.ldc 98, 2) := by decide +kernel
theorem dX10_undo_9 : decode cX10_undo 9 = .ok (.ireturn, 1) := by decide +kernel
theorem dX10_undo_10 : decode cX10_undo 10 = .ok (.aload_n 0, 1) := by decide +kernel
theorem dX10_undo_11 : decode cX10_undo 11 = .ok (.dup, 1) := by decide +kernel
theorem dX10_undo_12 : decode cX10_undo 12 = .ok (.getfield 71, 3) := by decide +kernel
theorem dX10_undo_15 : decode cX10_undo 15 = .ok (.iconst 1, 1) := by decide +kernel
theorem dX10_undo_16 : decode cX10_undo 16 = .ok (.isub, 1) := by decide +kernel
theorem dX10_undo_17 : decode cX10_undo 17 = .ok (.putfield 71, 3) := by decide +kernel
theorem dX10_undo_20 : decode cX10_undo 20 = .ok (.aload_n 0, 1) := by decide +kernel
theorem dX10_undo_21 : decode cX10_undo 21 = .ok (.iconst (-1), 1) := by decide +kernel
theorem dX10_undo_22 : decode cX10_undo 22 = .ok (.putfield 16, 3) := by decide +kernel
theorem dX10_undo_25 : decode cX10_undo 25 = .ok (.iconst 0, 1) := by decide +kernel
theorem dX10_undo_26 : decode cX10_undo 26 = .ok (.istore_n 1, 1) := by decide +kernel
theorem dX10_undo_27 : decode cX10_undo 27 = .ok (.iload_n 1, 1) := by decide +kernel
theorem dX10_undo_28 : decode cX10_undo 28 = .ok (.bipush 84, 2) := by decide +kernel
theorem dX10_undo_30 : decode cX10_undo 30 = .ok (.if_icmp .ge 29, 3) := by decide +kernel
theorem dX10_undo_33 : decode cX10_undo 33 = .ok (.aload_n 0, 1) := by decide +kernel
theorem dX10_undo_34 : decode cX10_undo 34 = .ok (.getfield 7, 3) := by decide +kernel
theorem dX10_undo_37 : decode cX10_undo 37 = .ok (.iload_n 1, 1) := by decide +kernel
theorem dX10_undo_38 : decode cX10_undo 38 = .ok (.aload_n 0, 1) := by decide +kernel
theorem dX10_undo_39 : decode cX10_undo 39 = .ok (.getfield 13, 3) := by decide +kernel
theorem dX10_undo_42 : decode cX10_undo 42 = .ok (.bipush 84, 2) := by decide +kernel
theorem dX10_undo_44 : decode cX10_undo 44 = .ok (.aload_n 0, 1) := by decide +kernel
theorem dX10_undo_45 : decode cX10_undo 45 = .ok (.getfield 71, 3) := by decide +kernel
theorem dX10_undo_48 : decode cX10_undo 48 = .ok (.imul, 1) := by decide +kernel
theorem dX10_undo_49 : decode cX10_undo 49 = .ok (.iload_n 1, 1) := by decide +kernel
theorem dX10_undo_50 : decode cX10_undo 50 = .ok (.iadd, 1) := by decide +kernel
theorem dX10_undo_51 : decode cX10_undo 51 = .ok (.iaload, 1) := by decide +kernel
theorem dX10_undo_52 : decode cX10_undo 52 = .ok (.iastore, 1) := by decide +kernel
theorem dX10_undo_53 : decode cX10_undo 53 = .ok (.iinc 1 1, 3) := by decide +kernel
theorem dX10_undo_56 : decode cX10_undo 56 = .ok (.goto (-29), 3) := by decide +kernel
theorem dX10_undo_59 : decode cX10_undo 59 = .ok (.aload_n 0, 1) := by decide +kernel
theorem dX10_undo_60 : decode cX10_undo 60 = .ok (.getfield 71, 3) := by decide +kernel
theorem dX10_undo_63 : decode cX10_undo 63 = .ok (.ireturn, 1) := by decide +kernel
set_option maxRecDepth 100000 in
theorem b_X10_undo_0 {E : fxE} (hW : fx_Wt E) (a0 : Nat) (M : fxM) (Q : Option fxV → fxM → Prop) (hk0 : kd E a0 = 10) (h : (-2147483648 ≤ (M a0 2) ∧ (M a0 2) < 2147483648) ∧ ((¬ (M a0 2) = (0 : Int) → ∀ M2 : fxM, M2 = mset M a0 2 ((M a0 2) - 1) → ∀ M3 : fxM, M3 = mset M2 a0 3 (-1) → fx_At E m_X10_undo 27 [some (.inr a0), some (.inl 0)] [] M3 Q) ∧ ((M a0 2) = (0 : Int) → Q (some (.inl (-1000004))) M))) : fx_At E m_X10_undo 0 [some (.inr a0), none] [] M Q := by
  refine x_aload_n (pc := 0) dX10_undo_0 rfl rfl ?_
  refine x_geti (pc := 1) dX10_undo_1 f_RX10_71 hk0 ?_
  obtain ⟨g1, h⟩ := h
  refine x_zne (pc := 4) 10 dX10_undo_4 (by decide) g1 (fun hc => ?_) (fun hc => ?_)
  · replace h := h.1 hc
    refine x_aload_n (pc := 10) dX10_undo_10 rfl rfl ?_
    refine x_dup (pc := 11) dX10_undo_11 ?_
    refine x_geti (pc := 12) dX10_undo_12 f_RX10_71 hk0 ?_
    refine x_iconst (pc := 15) dX10_undo_15 ?_
    refine x_isub (pc := 16) dX10_undo_16 ?_
    refine x_puti (pc := 17) dX10_undo_17 f_RX10_71 hk0 (fun M2 hM2 => ?_)
    replace h := h M2 hM2
    refine x_aload_n (pc := 20) dX10_undo_20 rfl rfl ?_
    refine x_iconst (pc := 21) dX10_undo_21 ?_
    refine x_puti (pc := 22) dX10_undo_22 f_RX10_16 hk0 (fun M3 hM3 => ?_)
    replace h := h M3 hM3
    refine x_iconst (pc := 25) dX10_undo_25 ?_
    refine x_istore_n (pc := 26) (lv' := [some (.inr a0), some (.inl 0)]) dX10_undo_26 rfl (by decide) rfl ?_
    exact h
  · replace h := h.2 hc
    refine x_ldc (pc := 7) (n := -1000004) dX10_undo_7 k_RX10_98 rfl ?_
    exact x_iret (pc := 9) dX10_undo_9 (Or.inl rfl) h
set_option maxRecDepth 100000 in
theorem b_X10_undo_27 {E : fxE} (hW : fx_Wt E) (a0 : Nat) (x1 : Int) (M : fxM) (Q : Option fxV → fxM → Prop) (hk0 : kd E a0 = 10) (h : (-2147483648 ≤ x1 ∧ x1 < 2147483648) ∧ (((84 : Int) ≤ x1 → Q (some (.inl (M a0 2))) M) ∧ (¬ (84 : Int) ≤ x1 → (0 ≤ ((84 * (M a0 2)) + x1) ∧ ((84 * (M a0 2)) + x1) < 672) ∧ (0 ≤ x1 ∧ x1 < 84) ∧ ∀ M4 : fxM, M4 = mset M (rf E a0 0) (x1.toNat) (M (rf E a0 1) (((84 * (M a0 2)) + x1).toNat)) → fx_At E m_X10_undo 27 [some (.inr a0), some (.inl (x1 + 1))] [] M4 Q))) : fx_At E m_X10_undo 27 [some (.inr a0), some (.inl x1)] [] M Q := by
  refine x_iload_n (pc := 27) dX10_undo_27 rfl rfl ?_
  refine x_bipush (pc := 28) dX10_undo_28 (by decide +kernel) ?_
  obtain ⟨g1, h⟩ := h
  refine x_cge (pc := 30) 59 dX10_undo_30 (by decide) ⟨g1, ⟨by decide, by decide⟩⟩ (fun hc => ?_) (fun hc => ?_)
  · replace h := h.1 hc
    refine x_aload_n (pc := 59) dX10_undo_59 rfl rfl ?_
    refine x_geti (pc := 60) dX10_undo_60 f_RX10_71 hk0 ?_
    exact x_iret (pc := 63) dX10_undo_63 (Or.inl rfl) h
  · replace h := h.2 hc
    refine x_aload_n (pc := 33) dX10_undo_33 rfl rfl ?_
    refine x_getr (pc := 34) dX10_undo_34 f_RX10_7 hk0 ?_
    refine x_iload_n (pc := 37) dX10_undo_37 rfl rfl ?_
    refine x_aload_n (pc := 38) dX10_undo_38 rfl rfl ?_
    refine x_getr (pc := 39) dX10_undo_39 f_RX10_13 hk0 ?_
    refine x_bipush (pc := 42) dX10_undo_42 (by decide +kernel) ?_
    refine x_aload_n (pc := 44) dX10_undo_44 rfl rfl ?_
    refine x_geti (pc := 45) dX10_undo_45 f_RX10_71 hk0 ?_
    refine x_imul (pc := 48) dX10_undo_48 ?_
    refine x_iload_n (pc := 49) dX10_undo_49 rfl rfl ?_
    refine x_iadd (pc := 50) dX10_undo_50 ?_
    obtain ⟨g2, h⟩ := h
    refine x_iald (pc := 51) dX10_undo_51 (wk_10_1 hW hk0) (wl_10_1 hW hk0) g2 ?_
    obtain ⟨g3, h⟩ := h
    refine x_iast (pc := 52) dX10_undo_52 (wk_10_0 hW hk0) (wl_10_0 hW hk0) g3 (fun M4 hM4 => ?_)
    replace h := h M4 hM4
    refine x_iinc (pc := 53) (lv' := [some (.inr a0), some (.inl (x1 + 1))]) dX10_undo_53 rfl (by decide) rfl ?_
    refine x_goto (pc := 56) 27 dX10_undo_56 (by decide) ?_
    exact h
theorem dX10_told_0 : decode cX10_told 0 = .ok (.iload_n 1, 1) := by decide +kernel
theorem dX10_told_1 : decode cX10_told 1 = .ok (.tableswitch 104 0 7 #[47, 52, 59, 67, 75, 83, 91, 99], 47) := by decide +kernel
theorem dX10_told_48 : decode cX10_told 48 = .ok (.aload_n 0, 1) := by decide +kernel
theorem dX10_told_49 : decode cX10_told 49 = .ok (.invokevirtual 85, 3) := by decide +kernel
theorem dX10_told_52 : decode cX10_told 52 = .ok (.ireturn, 1) := by decide +kernel
theorem dX10_told_53 : decode cX10_told 53 = .ok (.aload_n 0, 1) := by decide +kernel
theorem dX10_told_54 : decode cX10_told 54 = .ok (.getfield 7, 3) := by decide +kernel
theorem dX10_told_57 : decode cX10_told 57 = .ok (.iconst 0, 1) := by decide +kernel
theorem dX10_told_58 : decode cX10_told 58 = .ok (.iaload, 1) := by decide +kernel
theorem dX10_told_59 : decode cX10_told 59 = .ok (.ireturn, 1) := by decide +kernel
theorem dX10_told_60 : decode cX10_told 60 = .ok (.aload_n 0, 1) := by decide +kernel
theorem dX10_told_61 : decode cX10_told 61 = .ok (.getfield 7, 3) := by decide +kernel
theorem dX10_told_64 : decode cX10_told 64 = .ok (.bipush 43, 2) := by decide +kernel
theorem dX10_told_66 : decode cX10_told 66 = .ok (.iaload, 1) := by decide +kernel
theorem dX10_told_67 : decode cX10_told 67 = .ok (.ireturn, 1) := by decide +kernel
theorem dX10_told_68 : decode cX10_told 68 = .ok (.aload_n 0, 1) := by decide +kernel
theorem dX10_told_69 : decode cX10_told 69 = .ok (.getfield 7, 3) := by decide +kernel
theorem dX10_told_72 : decode cX10_told 72 = .ok (.bipush 56, 2) := by decide +kernel
theorem dX10_told_74 : decode cX10_told 74 = .ok (.iaload, 1) := by decide +kernel
theorem dX10_told_75 : decode cX10_told 75 = .ok (.ireturn, 1) := by decide +kernel
theorem dX10_told_76 : decode cX10_told 76 = .ok (.aload_n 0, 1) := by decide +kernel
theorem dX10_told_77 : decode cX10_told 77 = .ok (.getfield 7, 3) := by decide +kernel
theorem dX10_told_80 : decode cX10_told 80 = .ok (.bipush 57, 2) := by decide +kernel
theorem dX10_told_82 : decode cX10_told 82 = .ok (.iaload, 1) := by decide +kernel
theorem dX10_told_83 : decode cX10_told 83 = .ok (.ireturn, 1) := by decide +kernel
theorem dX10_told_84 : decode cX10_told 84 = .ok (.aload_n 0, 1) := by decide +kernel
theorem dX10_told_85 : decode cX10_told 85 = .ok (.getfield 7, 3) := by decide +kernel
theorem dX10_told_88 : decode cX10_told 88 = .ok (.bipush 62, 2) := by decide +kernel
theorem dX10_told_90 : decode cX10_told 90 = .ok (.iaload, 1) := by decide +kernel
theorem dX10_told_91 : decode cX10_told 91 = .ok (.ireturn, 1) := by decide +kernel
theorem dX10_told_92 : decode cX10_told 92 = .ok (.aload_n 0, 1) := by decide +kernel
theorem dX10_told_93 : decode cX10_told 93 = .ok (.getfield 7, 3) := by decide +kernel
theorem dX10_told_96 : decode cX10_told 96 = .ok (.bipush 83, 2) := by decide +kernel
theorem dX10_told_98 : decode cX10_told 98 = .ok (.iaload, 1) := by decide +kernel
theorem dX10_told_99 : decode cX10_told 99 = .ok (.ireturn, 1) := by decide +kernel
theorem dX10_told_100 : decode cX10_told 100 = .ok (.aload_n 0, 1) := by decide +kernel
theorem dX10_told_101 : decode cX10_told 101 = .ok (.getfield 99, 3) := by decide +kernel
theorem dX10_told_104 : decode cX10_told 104 = .ok (.ireturn, 1) := by decide +kernel
theorem dX10_told_105 : decode cX10_told 105 = .ok (.ldc 81, 2) := by decide +kernel
theorem dX10_told_107 : decode cX10_told 107 = .ok (.ireturn, 1) := by decide +kernel
set_option maxRecDepth 100000 in
theorem b_X10_told_0 {E : fxE} (hW : fx_Wt E) (a0 : Nat) (x1 : Int) (M : fxM) (Q : Option fxV → fxM → Prop) (hk0 : kd E a0 = 10) (h : (-2147483648 ≤ x1 ∧ x1 < 2147483648) ∧ ((x1 = 0 → (0 ≤ M (rf E a0 0) 0 ∧ M (rf E a0 0) 0 ≤ 8) ∧ Q (some (.inl (wsum (M (rf E a0 0)) (M (rf E a0 0) 0).toNat))) M) ∧ (x1 = 1 → Q (some (.inl (M (rf E a0 0) 0))) M) ∧ (x1 = 2 → Q (some (.inl (M (rf E a0 0) 43))) M) ∧ (x1 = 3 → Q (some (.inl (M (rf E a0 0) 56))) M) ∧ (x1 = 4 → Q (some (.inl (M (rf E a0 0) 57))) M) ∧ (x1 = 5 → Q (some (.inl (M (rf E a0 0) 62))) M) ∧ (x1 = 6 → Q (some (.inl (M (rf E a0 0) 83))) M) ∧ (x1 = 7 → Q (some (.inl (M a0 6))) M) ∧ (x1 < (0 : Int) ∨ (7 : Int) < x1 → Q (some (.inl (-1000002))) M))) : fx_At E m_X10_told 0 [some (.inr a0), some (.inl x1)] [] M Q := by
  refine x_iload_n (pc := 0) dX10_told_0 rfl rfl ?_
  obtain ⟨g1, h⟩ := h
  refine x_tsw (pc := 1) 105 [48, 53, 60, 68, 76, 84, 92, 100] dX10_told_1 g1 (by decide) (by decide) (by decide) (fun j t hj ha => ?_) (fun hc => ?_)
  · match j, hj, ha with
    | 0, hj, ha =>
      cases hj
      replace h := h.1 ha
      refine x_aload_n (pc := 48) dX10_told_48 rfl rfl ?_
      obtain ⟨g2, h⟩ := h
      refine x_callV (pc := 49) (z := m_X10_whole) (b := a0) (as := []) (rest := []) dX10_told_49 c_RX10_85 (by decide) hk0 rfl (Nat.le_of_ble_eq_true rfl) (ct_X10_whole hW hk0 g2) (fun r M9 hr => ?_)
      obtain ⟨hM9, hr⟩ := hr
      rw [hM9, hr]
      clear hM9 hr
      show fx_At E m_X10_told 52 [some (.inr a0), some (.inl x1)] [.inl (wsum (M (rf E a0 0)) (M (rf E a0 0) 0).toNat)] _ Q
      exact x_iret (pc := 52) dX10_told_52 (Or.inl rfl) h
    | 1, hj, ha =>
      cases hj
      replace h := h.2.1 ha
      refine x_aload_n (pc := 53) dX10_told_53 rfl rfl ?_
      refine x_getr (pc := 54) dX10_told_54 f_RX10_7 hk0 ?_
      refine x_iconst (pc := 57) dX10_told_57 ?_
      refine x_iald (pc := 58) dX10_told_58 (wk_10_0 hW hk0) (wl_10_0 hW hk0) ⟨by decide, by decide⟩ ?_
      exact x_iret (pc := 59) dX10_told_59 (Or.inl rfl) h
    | 2, hj, ha =>
      cases hj
      replace h := h.2.2.1 ha
      refine x_aload_n (pc := 60) dX10_told_60 rfl rfl ?_
      refine x_getr (pc := 61) dX10_told_61 f_RX10_7 hk0 ?_
      refine x_bipush (pc := 64) dX10_told_64 (by decide +kernel) ?_
      refine x_iald (pc := 66) dX10_told_66 (wk_10_0 hW hk0) (wl_10_0 hW hk0) ⟨by decide, by decide⟩ ?_
      exact x_iret (pc := 67) dX10_told_67 (Or.inl rfl) h
    | 3, hj, ha =>
      cases hj
      replace h := h.2.2.2.1 ha
      refine x_aload_n (pc := 68) dX10_told_68 rfl rfl ?_
      refine x_getr (pc := 69) dX10_told_69 f_RX10_7 hk0 ?_
      refine x_bipush (pc := 72) dX10_told_72 (by decide +kernel) ?_
      refine x_iald (pc := 74) dX10_told_74 (wk_10_0 hW hk0) (wl_10_0 hW hk0) ⟨by decide, by decide⟩ ?_
      exact x_iret (pc := 75) dX10_told_75 (Or.inl rfl) h
    | 4, hj, ha =>
      cases hj
      replace h := h.2.2.2.2.1 ha
      refine x_aload_n (pc := 76) dX10_told_76 rfl rfl ?_
      refine x_getr (pc := 77) dX10_told_77 f_RX10_7 hk0 ?_
      refine x_bipush (pc := 80) dX10_told_80 (by decide +kernel) ?_
      refine x_iald (pc := 82) dX10_told_82 (wk_10_0 hW hk0) (wl_10_0 hW hk0) ⟨by decide, by decide⟩ ?_
      exact x_iret (pc := 83) dX10_told_83 (Or.inl rfl) h
    | 5, hj, ha =>
      cases hj
      replace h := h.2.2.2.2.2.1 ha
      refine x_aload_n (pc := 84) dX10_told_84 rfl rfl ?_
      refine x_getr (pc := 85) dX10_told_85 f_RX10_7 hk0 ?_
      refine x_bipush (pc := 88) dX10_told_88 (by decide +kernel) ?_
      refine x_iald (pc := 90) dX10_told_90 (wk_10_0 hW hk0) (wl_10_0 hW hk0) ⟨by decide, by decide⟩ ?_
      exact x_iret (pc := 91) dX10_told_91 (Or.inl rfl) h
    | 6, hj, ha =>
      cases hj
      replace h := h.2.2.2.2.2.2.1 ha
      refine x_aload_n (pc := 92) dX10_told_92 rfl rfl ?_
      refine x_getr (pc := 93) dX10_told_93 f_RX10_7 hk0 ?_
      refine x_bipush (pc := 96) dX10_told_96 (by decide +kernel) ?_
      refine x_iald (pc := 98) dX10_told_98 (wk_10_0 hW hk0) (wl_10_0 hW hk0) ⟨by decide, by decide⟩ ?_
      exact x_iret (pc := 99) dX10_told_99 (Or.inl rfl) h
    | 7, hj, ha =>
      cases hj
      replace h := h.2.2.2.2.2.2.2.1 ha
      refine x_aload_n (pc := 100) dX10_told_100 rfl rfl ?_
      refine x_geti (pc := 101) dX10_told_101 f_RX10_99 hk0 ?_
      exact x_iret (pc := 104) dX10_told_104 (Or.inl rfl) h
    | j + 8, hj, ha => simp at hj
  · replace h := h.2.2.2.2.2.2.2.2 hc
    refine x_ldc (pc := 105) (n := -1000002) dX10_told_105 k_RX10_81 rfl ?_
    exact x_iret (pc := 107) dX10_told_107 (Or.inl rfl) h
theorem dX10_section_0 : decode cX10_section 0 = .ok (.iload_n 1, 1) := by decide +kernel
theorem dX10_section_1 : decode cX10_section 1 = .ok (.iconst 0, 1) := by decide +kernel
theorem dX10_section_2 : decode cX10_section 2 = .ok (.aload_n 0, 1) := by decide +kernel
theorem dX10_section_3 : decode cX10_section 3 = .ok (.getfield 7, 3) := by decide +kernel
theorem dX10_section_6 : decode cX10_section 6 = .ok (.iconst 0, 1) := by decide +kernel
theorem dX10_section_7 : decode cX10_section 7 = .ok (.iaload, 1) := by decide +kernel
theorem dX10_section_8 : decode cX10_section 8 = .ok (.iconst 1, 1) := by decide +kernel
theorem dX10_section_9 : decode cX10_section 9 = .ok (.isub, 1) := by decide +kernel
theorem dX10_section_10 : decode cX10_section 10 = .ok (.invokestatic 74, 3) := by decide +kernel
theorem dX10_section_13 : decode cX10_section 13 = .ok (.ifCond .ne 6, 3) := by decide +kernel
theorem dX10_section_16 : decode cX10_section 16 = .ok (.ldc 94, 2) := by decide +kernel
theorem dX10_section_18 : decode cX10_section 18 = .ok (.ireturn, 1) := by decide +kernel
theorem dX10_section_19 : decode cX10_section 19 = .ok (.iload_n 2, 1) := by decide +kernel
theorem dX10_section_20 : decode cX10_section 20 = .ok (.iconst 0, 1) := by decide +kernel
theorem dX10_section_21 : decode cX10_section 21 = .ok (.iconst 3, 1) := by decide +kernel
theorem dX10_section_22 : decode cX10_section 22 = .ok (.invokestatic 74, 3) := by decide +kernel
theorem dX10_section_25 : decode cX10_section 25 = .ok (.ifCond .ne 6, 3) := by decide +kernel
theorem dX10_section_28 : decode cX10_section 28 = .ok (.ldc 81, 2) := by decide +kernel
theorem dX10_section_30 : decode cX10_section 30 = .ok (.ireturn, 1) := by decide +kernel
theorem dX10_section_31 : decode cX10_section 31 = .ok (.iload_n 2, 1) := by decide +kernel
theorem dX10_section_32 : decode cX10_section 32 = .ok (.iconst 3, 1) := by decide +kernel
theorem dX10_section_33 : decode cX10_section 33 = .ok (.if_icmp .ne 11, 3) := by decide +kernel
theorem dX10_section_36 : decode cX10_section 36 = .ok (.aload_n 0, 1) := by decide +kernel
theorem dX10_section_37 : decode cX10_section 37 = .ok (.iload_n 1, 1) := by decide +kernel
theorem dX10_section_38 : decode cX10_section 38 = .ok (.invokevirtual 67, 3) := by decide +kernel
theorem dX10_section_41 : decode cX10_section 41 = .ok (.goto 15, 3) := by decide +kernel
theorem dX10_section_44 : decode cX10_section 44 = .ok (.aload_n 0, 1) := by decide +kernel
theorem dX10_section_45 : decode cX10_section 45 = .ok (.getfield 7, 3) := by decide +kernel
theorem dX10_section_48 : decode cX10_section 48 = .ok (.iconst 1, 1) := by decide +kernel
theorem dX10_section_49 : decode cX10_section 49 = .ok (.iconst 3, 1) := by decide +kernel
theorem dX10_section_50 : decode cX10_section 50 = .ok (.iload_n 1, 1) := by decide +kernel
theorem dX10_section_51 : decode cX10_section 51 = .ok (.imul, 1) := by decide +kernel
theorem dX10_section_52 : decode cX10_section 52 = .ok (.iadd, 1) := by decide +kernel
theorem dX10_section_53 : decode cX10_section 53 = .ok (.iload_n 2, 1) := by decide +kernel
theorem dX10_section_54 : decode cX10_section 54 = .ok (.iadd, 1) := by decide +kernel
theorem dX10_section_55 : decode cX10_section 55 = .ok (.iaload, 1) := by decide +kernel
theorem dX10_section_56 : decode cX10_section 56 = .ok (.ireturn, 1) := by decide +kernel
set_option maxRecDepth 100000 in
theorem b_X10_section_0 {E : fxE} (hW : fx_Wt E) (a0 : Nat) (x1 : Int) (x2 : Int) (M : fxM) (Q : Option fxV → fxM → Prop) (hk0 : kd E a0 = 10) (h : (-2147483648 ≤ x1 ∧ x1 < 2147483648) ∧ (-2147483648 ≤ ((M (rf E a0 0) 0) - 1) ∧ ((M (rf E a0 0) 0) - 1) < 2147483648) ∧ (((0 : Int) ≤ x1 ∧ x1 ≤ ((M (rf E a0 0) 0) - 1) → (-2147483648 ≤ x2 ∧ x2 < 2147483648) ∧ (((0 : Int) ≤ x2 ∧ x2 ≤ (3 : Int) → ((¬ x2 = (3 : Int) → (0 ≤ ((1 + (3 * x1)) + x2) ∧ ((1 + (3 * x1)) + x2) < 84) ∧ Q (some (.inl (M (rf E a0 0) (((1 + (3 * x1)) + x2).toNat)))) M) ∧ (x2 = (3 : Int) → (0 ≤ x1 ∧ x1 ≤ 8) ∧ Q (some (.inl (wsum (M (rf E a0 0)) x1.toNat))) M))) ∧ (¬ ((0 : Int) ≤ x2 ∧ x2 ≤ (3 : Int)) → Q (some (.inl (-1000002))) M))) ∧ (¬ ((0 : Int) ≤ x1 ∧ x1 ≤ ((M (rf E a0 0) 0) - 1)) → Q (some (.inl (-1000001))) M))) : fx_At E m_X10_section 0 [some (.inr a0), some (.inl x1), some (.inl x2)] [] M Q := by
  refine x_iload_n (pc := 0) dX10_section_0 rfl rfl ?_
  refine x_iconst (pc := 1) dX10_section_1 ?_
  refine x_aload_n (pc := 2) dX10_section_2 rfl rfl ?_
  refine x_getr (pc := 3) dX10_section_3 f_RX10_7 hk0 ?_
  refine x_iconst (pc := 6) dX10_section_6 ?_
  refine x_iald (pc := 7) dX10_section_7 (wk_10_0 hW hk0) (wl_10_0 hW hk0) ⟨by decide, by decide⟩ ?_
  refine x_iconst (pc := 8) dX10_section_8 ?_
  refine x_isub (pc := 9) dX10_section_9 ?_
  obtain ⟨g1, h⟩ := h
  obtain ⟨g2, h⟩ := h
  refine x_callS (pc := 10) (z := m_X10_isIn) (as := [.inl x1, .inl 0, .inl ((M (rf E a0 0) 0) - 1)]) (rest := []) dX10_section_10 c_RX10_74 (by decide) rfl (Nat.le_of_ble_eq_true rfl) (ct_isIn hW g1 ⟨by decide, by decide⟩ g2) (fun r M9 hr => ?_)
  obtain ⟨hM9, hr⟩ := hr
  rw [hM9]
  clear hM9
  obtain ⟨hc, rfl⟩ | ⟨hc, rfl⟩ := hr
  · replace h := h.1 hc
    show fx_At E m_X10_section 13 [some (.inr a0), some (.inl x1), some (.inl x2)] [.inl 1] _ Q
    refine x_zne (pc := 13) 19 dX10_section_13 (by decide) ⟨by decide, by decide⟩ (fun _ => ?_) (fun hx => absurd hx (by decide))
    refine x_iload_n (pc := 19) dX10_section_19 rfl rfl ?_
    refine x_iconst (pc := 20) dX10_section_20 ?_
    refine x_iconst (pc := 21) dX10_section_21 ?_
    obtain ⟨g4, h⟩ := h
    refine x_callS (pc := 22) (z := m_X10_isIn) (as := [.inl x2, .inl 0, .inl 3]) (rest := []) dX10_section_22 c_RX10_74 (by decide) rfl (Nat.le_of_ble_eq_true rfl) (ct_isIn hW g4 ⟨by decide, by decide⟩ ⟨by decide, by decide⟩) (fun r M9 hr => ?_)
    obtain ⟨hM9, hr⟩ := hr
    rw [hM9]
    clear hM9
    obtain ⟨hc, rfl⟩ | ⟨hc, rfl⟩ := hr
    · replace h := h.1 hc
      show fx_At E m_X10_section 25 [some (.inr a0), some (.inl x1), some (.inl x2)] [.inl 1] _ Q
      refine x_zne (pc := 25) 31 dX10_section_25 (by decide) ⟨by decide, by decide⟩ (fun _ => ?_) (fun hx => absurd hx (by decide))
      refine x_iload_n (pc := 31) dX10_section_31 rfl rfl ?_
      refine x_iconst (pc := 32) dX10_section_32 ?_
      refine x_cne (pc := 33) 44 dX10_section_33 (by decide) ⟨g4, ⟨by decide, by decide⟩⟩ (fun hc => ?_) (fun hc => ?_)
      · replace h := h.1 hc
        refine x_aload_n (pc := 44) dX10_section_44 rfl rfl ?_
        refine x_getr (pc := 45) dX10_section_45 f_RX10_7 hk0 ?_
        refine x_iconst (pc := 48) dX10_section_48 ?_
        refine x_iconst (pc := 49) dX10_section_49 ?_
        refine x_iload_n (pc := 50) dX10_section_50 rfl rfl ?_
        refine x_imul (pc := 51) dX10_section_51 ?_
        refine x_iadd (pc := 52) dX10_section_52 ?_
        refine x_iload_n (pc := 53) dX10_section_53 rfl rfl ?_
        refine x_iadd (pc := 54) dX10_section_54 ?_
        obtain ⟨g6, h⟩ := h
        refine x_iald (pc := 55) dX10_section_55 (wk_10_0 hW hk0) (wl_10_0 hW hk0) g6 ?_
        exact x_iret (pc := 56) dX10_section_56 (Or.inl rfl) h
      · replace h := h.2 hc
        refine x_aload_n (pc := 36) dX10_section_36 rfl rfl ?_
        refine x_iload_n (pc := 37) dX10_section_37 rfl rfl ?_
        obtain ⟨g7, h⟩ := h
        refine x_callV (pc := 38) (z := m_X10_placeOf) (b := a0) (as := [.inl x1]) (rest := []) dX10_section_38 c_RX10_67 (by decide) hk0 rfl (Nat.le_of_ble_eq_true rfl) (ct_X10_placeOf hW hk0 g7) (fun r M9 hr => ?_)
        obtain ⟨hM9, hr⟩ := hr
        rw [hM9, hr]
        clear hM9 hr
        show fx_At E m_X10_section 41 [some (.inr a0), some (.inl x1), some (.inl x2)] [.inl (wsum (M (rf E a0 0)) x1.toNat)] _ Q
        refine x_goto (pc := 41) 56 dX10_section_41 (by decide) ?_
        exact x_iret (pc := 56) dX10_section_56 (Or.inl rfl) h
    · replace h := h.2 hc
      show fx_At E m_X10_section 25 [some (.inr a0), some (.inl x1), some (.inl x2)] [.inl 0] _ Q
      refine x_zne (pc := 25) 31 dX10_section_25 (by decide) ⟨by decide, by decide⟩ (fun hx => absurd hx (by decide)) (fun _ => ?_)
      refine x_ldc (pc := 28) (n := -1000002) dX10_section_28 k_RX10_81 rfl ?_
      exact x_iret (pc := 30) dX10_section_30 (Or.inl rfl) h
  · replace h := h.2 hc
    show fx_At E m_X10_section 13 [some (.inr a0), some (.inl x1), some (.inl x2)] [.inl 0] _ Q
    refine x_zne (pc := 13) 19 dX10_section_13 (by decide) ⟨by decide, by decide⟩ (fun hx => absurd hx (by decide)) (fun _ => ?_)
    refine x_ldc (pc := 16) (n := -1000001) dX10_section_16 k_RX10_94 rfl ?_
    exact x_iret (pc := 18) dX10_section_18 (Or.inl rfl) h
theorem dX10_joint_0 : decode cX10_joint 0 = .ok (.aload_n 0, 1) := by decide +kernel
theorem dX10_joint_1 : decode cX10_joint 1 = .ok (.iload_n 1, 1) := by decide +kernel
theorem dX10_joint_2 : decode cX10_joint 2 = .ok (.invokevirtual 90, 3) := by decide +kernel
theorem dX10_joint_5 : decode cX10_joint 5 = .ok (.ifCond .ne 6, 3) := by decide +kernel
theorem dX10_joint_8 : decode cX10_joint 8 = .ok (.ldc 94, 2) := by decide +kernel
theorem dX10_joint_10 : decode cX10_joint 10 = .ok (.ireturn, 1) := by decide +kernel
theorem dX10_joint_11 : decode cX10_joint 11 = .ok (.iload_n 2, 1) := by decide +kernel
theorem dX10_joint_12 : decode cX10_joint 12 = .ok (.iconst 0, 1) := by decide +kernel
theorem dX10_joint_13 : decode cX10_joint 13 = .ok (.iconst 2, 1) := by decide +kernel
theorem dX10_joint_14 : decode cX10_joint 14 = .ok (.invokestatic 74, 3) := by decide +kernel
theorem dX10_joint_17 : decode cX10_joint 17 = .ok (.ifCond .ne 6, 3) := by decide +kernel
theorem dX10_joint_20 : decode cX10_joint 20 = .ok (.ldc 81, 2) := by decide +kernel
theorem dX10_joint_22 : decode cX10_joint 22 = .ok (.ireturn, 1) := by decide +kernel
theorem dX10_joint_23 : decode cX10_joint 23 = .ok (.iload_n 2, 1) := by decide +kernel
theorem dX10_joint_24 : decode cX10_joint 24 = .ok (.iconst 2, 1) := by decide +kernel
theorem dX10_joint_25 : decode cX10_joint 25 = .ok (.if_icmp .ne 11, 3) := by decide +kernel
theorem dX10_joint_28 : decode cX10_joint 28 = .ok (.aload_n 0, 1) := by decide +kernel
theorem dX10_joint_29 : decode cX10_joint 29 = .ok (.iload_n 1, 1) := by decide +kernel
theorem dX10_joint_30 : decode cX10_joint 30 = .ok (.invokevirtual 67, 3) := by decide +kernel
theorem dX10_joint_33 : decode cX10_joint 33 = .ok (.goto 16, 3) := by decide +kernel
theorem dX10_joint_36 : decode cX10_joint 36 = .ok (.aload_n 0, 1) := by decide +kernel
theorem dX10_joint_37 : decode cX10_joint 37 = .ok (.getfield 7, 3) := by decide +kernel
theorem dX10_joint_40 : decode cX10_joint 40 = .ok (.bipush 25, 2) := by decide +kernel
theorem dX10_joint_42 : decode cX10_joint 42 = .ok (.iconst 2, 1) := by decide +kernel
theorem dX10_joint_43 : decode cX10_joint 43 = .ok (.iload_n 1, 1) := by decide +kernel
theorem dX10_joint_44 : decode cX10_joint 44 = .ok (.imul, 1) := by decide +kernel
theorem dX10_joint_45 : decode cX10_joint 45 = .ok (.iadd, 1) := by decide +kernel
theorem dX10_joint_46 : decode cX10_joint 46 = .ok (.iload_n 2, 1) := by decide +kernel
theorem dX10_joint_47 : decode cX10_joint 47 = .ok (.iadd, 1) := by decide +kernel
theorem dX10_joint_48 : decode cX10_joint 48 = .ok (.iaload, 1) := by decide +kernel
theorem dX10_joint_49 : decode cX10_joint 49 = .ok (.ireturn, 1) := by decide +kernel
set_option maxRecDepth 100000 in
theorem b_X10_joint_0 {E : fxE} (hW : fx_Wt E) (a0 : Nat) (x1 : Int) (x2 : Int) (M : fxM) (Q : Option fxV → fxM → Prop) (hk0 : kd E a0 = 10) (h : (-2147483648 ≤ x1 ∧ x1 < 2147483648) ∧ (-2147483648 ≤ (M (rf E a0 0) 0) ∧ (M (rf E a0 0) 0) < 2147483648) ∧ (((0 : Int) ≤ x1 ∧ x1 ≤ M (rf E a0 0) 0 → (-2147483648 ≤ x2 ∧ x2 < 2147483648) ∧ (((0 : Int) ≤ x2 ∧ x2 ≤ (2 : Int) → ((¬ x2 = (2 : Int) → (0 ≤ ((25 + (2 * x1)) + x2) ∧ ((25 + (2 * x1)) + x2) < 84) ∧ Q (some (.inl (M (rf E a0 0) (((25 + (2 * x1)) + x2).toNat)))) M) ∧ (x2 = (2 : Int) → (0 ≤ x1 ∧ x1 ≤ 8) ∧ Q (some (.inl (wsum (M (rf E a0 0)) x1.toNat))) M))) ∧ (¬ ((0 : Int) ≤ x2 ∧ x2 ≤ (2 : Int)) → Q (some (.inl (-1000002))) M))) ∧ (¬ ((0 : Int) ≤ x1 ∧ x1 ≤ M (rf E a0 0) 0) → Q (some (.inl (-1000001))) M))) : fx_At E m_X10_joint 0 [some (.inr a0), some (.inl x1), some (.inl x2)] [] M Q := by
  refine x_aload_n (pc := 0) dX10_joint_0 rfl rfl ?_
  refine x_iload_n (pc := 1) dX10_joint_1 rfl rfl ?_
  obtain ⟨g1, h⟩ := h
  obtain ⟨g2, h⟩ := h
  refine x_callV (pc := 2) (z := m_X10_isJoint) (b := a0) (as := [.inl x1]) (rest := []) dX10_joint_2 c_RX10_90 (by decide) hk0 rfl (Nat.le_of_ble_eq_true rfl) (ct_X10_isJoint hW hk0 g1 g2) (fun r M9 hr => ?_)
  obtain ⟨hM9, hr⟩ := hr
  rw [hM9]
  clear hM9
  obtain ⟨hc, rfl⟩ | ⟨hc, rfl⟩ := hr
  · replace h := h.1 hc
    show fx_At E m_X10_joint 5 [some (.inr a0), some (.inl x1), some (.inl x2)] [.inl 1] _ Q
    refine x_zne (pc := 5) 11 dX10_joint_5 (by decide) ⟨by decide, by decide⟩ (fun _ => ?_) (fun hx => absurd hx (by decide))
    refine x_iload_n (pc := 11) dX10_joint_11 rfl rfl ?_
    refine x_iconst (pc := 12) dX10_joint_12 ?_
    refine x_iconst (pc := 13) dX10_joint_13 ?_
    obtain ⟨g4, h⟩ := h
    refine x_callS (pc := 14) (z := m_X10_isIn) (as := [.inl x2, .inl 0, .inl 2]) (rest := []) dX10_joint_14 c_RX10_74 (by decide) rfl (Nat.le_of_ble_eq_true rfl) (ct_isIn hW g4 ⟨by decide, by decide⟩ ⟨by decide, by decide⟩) (fun r M9 hr => ?_)
    obtain ⟨hM9, hr⟩ := hr
    rw [hM9]
    clear hM9
    obtain ⟨hc, rfl⟩ | ⟨hc, rfl⟩ := hr
    · replace h := h.1 hc
      show fx_At E m_X10_joint 17 [some (.inr a0), some (.inl x1), some (.inl x2)] [.inl 1] _ Q
      refine x_zne (pc := 17) 23 dX10_joint_17 (by decide) ⟨by decide, by decide⟩ (fun _ => ?_) (fun hx => absurd hx (by decide))
      refine x_iload_n (pc := 23) dX10_joint_23 rfl rfl ?_
      refine x_iconst (pc := 24) dX10_joint_24 ?_
      refine x_cne (pc := 25) 36 dX10_joint_25 (by decide) ⟨g4, ⟨by decide, by decide⟩⟩ (fun hc => ?_) (fun hc => ?_)
      · replace h := h.1 hc
        refine x_aload_n (pc := 36) dX10_joint_36 rfl rfl ?_
        refine x_getr (pc := 37) dX10_joint_37 f_RX10_7 hk0 ?_
        refine x_bipush (pc := 40) dX10_joint_40 (by decide +kernel) ?_
        refine x_iconst (pc := 42) dX10_joint_42 ?_
        refine x_iload_n (pc := 43) dX10_joint_43 rfl rfl ?_
        refine x_imul (pc := 44) dX10_joint_44 ?_
        refine x_iadd (pc := 45) dX10_joint_45 ?_
        refine x_iload_n (pc := 46) dX10_joint_46 rfl rfl ?_
        refine x_iadd (pc := 47) dX10_joint_47 ?_
        obtain ⟨g6, h⟩ := h
        refine x_iald (pc := 48) dX10_joint_48 (wk_10_0 hW hk0) (wl_10_0 hW hk0) g6 ?_
        exact x_iret (pc := 49) dX10_joint_49 (Or.inl rfl) h
      · replace h := h.2 hc
        refine x_aload_n (pc := 28) dX10_joint_28 rfl rfl ?_
        refine x_iload_n (pc := 29) dX10_joint_29 rfl rfl ?_
        obtain ⟨g7, h⟩ := h
        refine x_callV (pc := 30) (z := m_X10_placeOf) (b := a0) (as := [.inl x1]) (rest := []) dX10_joint_30 c_RX10_67 (by decide) hk0 rfl (Nat.le_of_ble_eq_true rfl) (ct_X10_placeOf hW hk0 g7) (fun r M9 hr => ?_)
        obtain ⟨hM9, hr⟩ := hr
        rw [hM9, hr]
        clear hM9 hr
        show fx_At E m_X10_joint 33 [some (.inr a0), some (.inl x1), some (.inl x2)] [.inl (wsum (M (rf E a0 0)) x1.toNat)] _ Q
        refine x_goto (pc := 33) 49 dX10_joint_33 (by decide) ?_
        exact x_iret (pc := 49) dX10_joint_49 (Or.inl rfl) h
    · replace h := h.2 hc
      show fx_At E m_X10_joint 17 [some (.inr a0), some (.inl x1), some (.inl x2)] [.inl 0] _ Q
      refine x_zne (pc := 17) 23 dX10_joint_17 (by decide) ⟨by decide, by decide⟩ (fun hx => absurd hx (by decide)) (fun _ => ?_)
      refine x_ldc (pc := 20) (n := -1000002) dX10_joint_20 k_RX10_81 rfl ?_
      exact x_iret (pc := 22) dX10_joint_22 (Or.inl rfl) h
  · replace h := h.2 hc
    show fx_At E m_X10_joint 5 [some (.inr a0), some (.inl x1), some (.inl x2)] [.inl 0] _ Q
    refine x_zne (pc := 5) 11 dX10_joint_5 (by decide) ⟨by decide, by decide⟩ (fun hx => absurd hx (by decide)) (fun _ => ?_)
    refine x_ldc (pc := 8) (n := -1000001) dX10_joint_8 k_RX10_94 rfl ?_
    exact x_iret (pc := 10) dX10_joint_10 (Or.inl rfl) h
theorem dX10_bend_0 : decode cX10_bend 0 = .ok (.aload_n 0, 1) := by decide +kernel
theorem dX10_bend_1 : decode cX10_bend 1 = .ok (.iload_n 1, 1) := by decide +kernel
theorem dX10_bend_2 : decode cX10_bend 2 = .ok (.invokevirtual 95, 3) := by decide +kernel
theorem dX10_bend_5 : decode cX10_bend 5 = .ok (.ifCond .ne 6, 3) := by decide +kernel
theorem dX10_bend_8 : decode cX10_bend 8 = .ok (.ldc 94, 2) := by decide +kernel
theorem dX10_bend_10 : decode cX10_bend 10 = .ok (.ireturn, 1) := by decide +kernel
theorem dX10_bend_11 : decode cX10_bend 11 = .ok (.iload_n 2, 1) := by decide +kernel
theorem dX10_bend_12 : decode cX10_bend 12 = .ok (.iconst 0, 1) := by decide +kernel
theorem dX10_bend_13 : decode cX10_bend 13 = .ok (.iconst 1, 1) := by decide +kernel
theorem dX10_bend_14 : decode cX10_bend 14 = .ok (.invokestatic 74, 3) := by decide +kernel
theorem dX10_bend_17 : decode cX10_bend 17 = .ok (.ifCond .ne 8, 3) := by decide +kernel
theorem dX10_bend_20 : decode cX10_bend 20 = .ok (.ldc 81, 2) := by decide +kernel
theorem dX10_bend_22 : decode cX10_bend 22 = .ok (.goto 18, 3) := by decide +kernel
theorem dX10_bend_25 : decode cX10_bend 25 = .ok (.aload_n 0, 1) := by decide +kernel
theorem dX10_bend_26 : decode cX10_bend 26 = .ok (.getfield 7, 3) := by decide +kernel
theorem dX10_bend_29 : decode cX10_bend 29 = .ok (.bipush 44, 2) := by decide +kernel
theorem dX10_bend_31 : decode cX10_bend 31 = .ok (.iconst 2, 1) := by decide +kernel
theorem dX10_bend_32 : decode cX10_bend 32 = .ok (.iload_n 1, 1) := by decide +kernel
theorem dX10_bend_33 : decode cX10_bend 33 = .ok (.imul, 1) := by decide +kernel
theorem dX10_bend_34 : decode cX10_bend 34 = .ok (.iadd, 1) := by decide +kernel
theorem dX10_bend_35 : decode cX10_bend 35 = .ok (.iconst 1, 1) := by decide +kernel
theorem dX10_bend_36 : decode cX10_bend 36 = .ok (.iadd, 1) := by decide +kernel
theorem dX10_bend_37 : decode cX10_bend 37 = .ok (.iload_n 2, 1) := by decide +kernel
theorem dX10_bend_38 : decode cX10_bend 38 = .ok (.isub, 1) := by decide +kernel
theorem dX10_bend_39 : decode cX10_bend 39 = .ok (.iaload, 1) := by decide +kernel
theorem dX10_bend_40 : decode cX10_bend 40 = .ok (.ireturn, 1) := by decide +kernel
set_option maxRecDepth 100000 in
theorem b_X10_bend_0 {E : fxE} (hW : fx_Wt E) (a0 : Nat) (x1 : Int) (x2 : Int) (M : fxM) (Q : Option fxV → fxM → Prop) (hk0 : kd E a0 = 10) (h : (-2147483648 ≤ x1 ∧ x1 < 2147483648) ∧ (-2147483648 ≤ (M (rf E a0 0) 43 - 1) ∧ (M (rf E a0 0) 43 - 1) < 2147483648) ∧ (((0 : Int) ≤ x1 ∧ x1 ≤ M (rf E a0 0) 43 - 1 → (-2147483648 ≤ x2 ∧ x2 < 2147483648) ∧ (((0 : Int) ≤ x2 ∧ x2 ≤ (1 : Int) → (0 ≤ (((44 + (2 * x1)) + 1) - x2) ∧ (((44 + (2 * x1)) + 1) - x2) < 84) ∧ Q (some (.inl (M (rf E a0 0) ((((44 + (2 * x1)) + 1) - x2).toNat)))) M) ∧ (¬ ((0 : Int) ≤ x2 ∧ x2 ≤ (1 : Int)) → Q (some (.inl (-1000002))) M))) ∧ (¬ ((0 : Int) ≤ x1 ∧ x1 ≤ M (rf E a0 0) 43 - 1) → Q (some (.inl (-1000001))) M))) : fx_At E m_X10_bend 0 [some (.inr a0), some (.inl x1), some (.inl x2)] [] M Q := by
  refine x_aload_n (pc := 0) dX10_bend_0 rfl rfl ?_
  refine x_iload_n (pc := 1) dX10_bend_1 rfl rfl ?_
  obtain ⟨g1, h⟩ := h
  obtain ⟨g2, h⟩ := h
  refine x_callV (pc := 2) (z := m_X10_isBend) (b := a0) (as := [.inl x1]) (rest := []) dX10_bend_2 c_RX10_95 (by decide) hk0 rfl (Nat.le_of_ble_eq_true rfl) (ct_X10_isBend hW hk0 g1 g2) (fun r M9 hr => ?_)
  obtain ⟨hM9, hr⟩ := hr
  rw [hM9]
  clear hM9
  obtain ⟨hc, rfl⟩ | ⟨hc, rfl⟩ := hr
  · replace h := h.1 hc
    show fx_At E m_X10_bend 5 [some (.inr a0), some (.inl x1), some (.inl x2)] [.inl 1] _ Q
    refine x_zne (pc := 5) 11 dX10_bend_5 (by decide) ⟨by decide, by decide⟩ (fun _ => ?_) (fun hx => absurd hx (by decide))
    refine x_iload_n (pc := 11) dX10_bend_11 rfl rfl ?_
    refine x_iconst (pc := 12) dX10_bend_12 ?_
    refine x_iconst (pc := 13) dX10_bend_13 ?_
    obtain ⟨g4, h⟩ := h
    refine x_callS (pc := 14) (z := m_X10_isIn) (as := [.inl x2, .inl 0, .inl 1]) (rest := []) dX10_bend_14 c_RX10_74 (by decide) rfl (Nat.le_of_ble_eq_true rfl) (ct_isIn hW g4 ⟨by decide, by decide⟩ ⟨by decide, by decide⟩) (fun r M9 hr => ?_)
    obtain ⟨hM9, hr⟩ := hr
    rw [hM9]
    clear hM9
    obtain ⟨hc, rfl⟩ | ⟨hc, rfl⟩ := hr
    · replace h := h.1 hc
      show fx_At E m_X10_bend 17 [some (.inr a0), some (.inl x1), some (.inl x2)] [.inl 1] _ Q
      refine x_zne (pc := 17) 25 dX10_bend_17 (by decide) ⟨by decide, by decide⟩ (fun _ => ?_) (fun hx => absurd hx (by decide))
      refine x_aload_n (pc := 25) dX10_bend_25 rfl rfl ?_
      refine x_getr (pc := 26) dX10_bend_26 f_RX10_7 hk0 ?_
      refine x_bipush (pc := 29) dX10_bend_29 (by decide +kernel) ?_
      refine x_iconst (pc := 31) dX10_bend_31 ?_
      refine x_iload_n (pc := 32) dX10_bend_32 rfl rfl ?_
      refine x_imul (pc := 33) dX10_bend_33 ?_
      refine x_iadd (pc := 34) dX10_bend_34 ?_
      refine x_iconst (pc := 35) dX10_bend_35 ?_
      refine x_iadd (pc := 36) dX10_bend_36 ?_
      refine x_iload_n (pc := 37) dX10_bend_37 rfl rfl ?_
      refine x_isub (pc := 38) dX10_bend_38 ?_
      obtain ⟨g6, h⟩ := h
      refine x_iald (pc := 39) dX10_bend_39 (wk_10_0 hW hk0) (wl_10_0 hW hk0) g6 ?_
      exact x_iret (pc := 40) dX10_bend_40 (Or.inl rfl) h
    · replace h := h.2 hc
      show fx_At E m_X10_bend 17 [some (.inr a0), some (.inl x1), some (.inl x2)] [.inl 0] _ Q
      refine x_zne (pc := 17) 25 dX10_bend_17 (by decide) ⟨by decide, by decide⟩ (fun hx => absurd hx (by decide)) (fun _ => ?_)
      refine x_ldc (pc := 20) (n := -1000002) dX10_bend_20 k_RX10_81 rfl ?_
      refine x_goto (pc := 22) 40 dX10_bend_22 (by decide) ?_
      exact x_iret (pc := 40) dX10_bend_40 (Or.inl rfl) h
  · replace h := h.2 hc
    show fx_At E m_X10_bend 5 [some (.inr a0), some (.inl x1), some (.inl x2)] [.inl 0] _ Q
    refine x_zne (pc := 5) 11 dX10_bend_5 (by decide) ⟨by decide, by decide⟩ (fun hx => absurd hx (by decide)) (fun _ => ?_)
    refine x_ldc (pc := 8) (n := -1000001) dX10_bend_8 k_RX10_94 rfl ?_
    exact x_iret (pc := 10) dX10_bend_10 (Or.inl rfl) h
theorem dX10_far_0 : decode cX10_far 0 = .ok (.iload_n 1, 1) := by decide +kernel
theorem dX10_far_1 : decode cX10_far 1 = .ok (.ifCond .ne 7, 3) := by decide +kernel
theorem dX10_far_4 : decode cX10_far 4 = .ok (.iload_n 2, 1) := by decide +kernel
theorem dX10_far_5 : decode cX10_far 5 = .ok (.goto 9, 3) := by decide +kernel
theorem dX10_far_8 : decode cX10_far 8 = .ok (.aload_n 0, 1) := by decide +kernel
theorem dX10_far_9 : decode cX10_far 9 = .ok (.invokevirtual 85, 3) := by decide +kernel
theorem dX10_far_12 : decode cX10_far 12 = .ok (.iload_n 2, 1) := by decide +kernel
theorem dX10_far_13 : decode cX10_far 13 = .ok (.isub, 1) := by decide +kernel
theorem dX10_far_14 : decode cX10_far 14 = .ok (.ireturn, 1) := by decide +kernel
set_option maxRecDepth 100000 in
theorem b_X10_far_0 {E : fxE} (hW : fx_Wt E) (a0 : Nat) (x1 : Int) (x2 : Int) (M : fxM) (Q : Option fxV → fxM → Prop) (hk0 : kd E a0 = 10) (h : (-2147483648 ≤ x1 ∧ x1 < 2147483648) ∧ ((¬ x1 = (0 : Int) → (0 ≤ M (rf E a0 0) 0 ∧ M (rf E a0 0) 0 ≤ 8) ∧ Q (some (.inl ((wsum (M (rf E a0 0)) (M (rf E a0 0) 0).toNat) - x2))) M) ∧ (x1 = (0 : Int) → Q (some (.inl x2)) M))) : fx_At E m_X10_far 0 [some (.inr a0), some (.inl x1), some (.inl x2)] [] M Q := by
  refine x_iload_n (pc := 0) dX10_far_0 rfl rfl ?_
  obtain ⟨g1, h⟩ := h
  refine x_zne (pc := 1) 8 dX10_far_1 (by decide) g1 (fun hc => ?_) (fun hc => ?_)
  · replace h := h.1 hc
    refine x_aload_n (pc := 8) dX10_far_8 rfl rfl ?_
    obtain ⟨g2, h⟩ := h
    refine x_callV (pc := 9) (z := m_X10_whole) (b := a0) (as := []) (rest := []) dX10_far_9 c_RX10_85 (by decide) hk0 rfl (Nat.le_of_ble_eq_true rfl) (ct_X10_whole hW hk0 g2) (fun r M9 hr => ?_)
    obtain ⟨hM9, hr⟩ := hr
    rw [hM9, hr]
    clear hM9 hr
    show fx_At E m_X10_far 12 [some (.inr a0), some (.inl x1), some (.inl x2)] [.inl (wsum (M (rf E a0 0)) (M (rf E a0 0) 0).toNat)] _ Q
    refine x_iload_n (pc := 12) dX10_far_12 rfl rfl ?_
    refine x_isub (pc := 13) dX10_far_13 ?_
    exact x_iret (pc := 14) dX10_far_14 (Or.inl rfl) h
  · replace h := h.2 hc
    refine x_iload_n (pc := 4) dX10_far_4 rfl rfl ?_
    refine x_goto (pc := 5) 14 dX10_far_5 (by decide) ?_
    exact x_iret (pc := 14) dX10_far_14 (Or.inl rfl) h
theorem dX10_sectionOf_0 : decode cX10_sectionOf 0 = .ok (.iload_n 1, 1) := by decide +kernel
theorem dX10_sectionOf_1 : decode cX10_sectionOf 1 = .ok (.ifCond .ne 7, 3) := by decide +kernel
theorem dX10_sectionOf_4 : decode cX10_sectionOf 4 = .ok (.iload_n 2, 1) := by decide +kernel
theorem dX10_sectionOf_5 : decode cX10_sectionOf 5 = .ok (.goto 11, 3) := by decide +kernel
theorem dX10_sectionOf_8 : decode cX10_sectionOf 8 = .ok (.aload_n 0, 1) := by decide +kernel
theorem dX10_sectionOf_9 : decode cX10_sectionOf 9 = .ok (.invokevirtual 85, 3) := by decide +kernel
theorem dX10_sectionOf_12 : decode cX10_sectionOf 12 = .ok (.iconst 1, 1) := by decide +kernel
theorem dX10_sectionOf_13 : decode cX10_sectionOf 13 = .ok (.isub, 1) := by decide +kernel
theorem dX10_sectionOf_14 : decode cX10_sectionOf 14 = .ok (.iload_n 2, 1) := by decide +kernel
theorem dX10_sectionOf_15 : decode cX10_sectionOf 15 = .ok (.isub, 1) := by decide +kernel
theorem dX10_sectionOf_16 : decode cX10_sectionOf 16 = .ok (.istore_n 3, 1) := by decide +kernel
theorem dX10_sectionOf_17 : decode cX10_sectionOf 17 = .ok (.iconst 0, 1) := by decide +kernel
theorem dX10_sectionOf_18 : decode cX10_sectionOf 18 = .ok (.istore 4, 2) := by decide +kernel
theorem dX10_sectionOf_20 : decode cX10_sectionOf 20 = .ok (.aload_n 0, 1) := by decide +kernel
theorem dX10_sectionOf_21 : decode cX10_sectionOf 21 = .ok (.iload 4, 2) := by decide +kernel
theorem dX10_sectionOf_23 : decode cX10_sectionOf 23 = .ok (.iconst 1, 1) := by decide +kernel
theorem dX10_sectionOf_24 : decode cX10_sectionOf 24 = .ok (.iadd, 1) := by decide +kernel
theorem dX10_sectionOf_25 : decode cX10_sectionOf 25 = .ok (.invokevirtual 67, 3) := by decide +kernel
theorem dX10_sectionOf_28 : decode cX10_sectionOf 28 = .ok (.iload_n 3, 1) := by decide +kernel
theorem dX10_sectionOf_29 : decode cX10_sectionOf 29 = .ok (.if_icmp .gt 9, 3) := by decide +kernel
theorem dX10_sectionOf_32 : decode cX10_sectionOf 32 = .ok (.iinc 4 1, 3) := by decide +kernel
theorem dX10_sectionOf_35 : decode cX10_sectionOf 35 = .ok (.goto (-15), 3) := by decide +kernel
theorem dX10_sectionOf_38 : decode cX10_sectionOf 38 = .ok (.iload 4, 2) := by decide +kernel
theorem dX10_sectionOf_40 : decode cX10_sectionOf 40 = .ok (.ireturn, 1) := by decide +kernel
set_option maxRecDepth 100000 in
theorem b_X10_sectionOf_0 {E : fxE} (hW : fx_Wt E) (a0 : Nat) (x1 : Int) (x2 : Int) (M : fxM) (Q : Option fxV → fxM → Prop) (hk0 : kd E a0 = 10) (h : (-2147483648 ≤ x1 ∧ x1 < 2147483648) ∧ ((¬ x1 = (0 : Int) → (0 ≤ M (rf E a0 0) 0 ∧ M (rf E a0 0) 0 ≤ 8) ∧ fx_At E m_X10_sectionOf 20 [some (.inr a0), some (.inl x1), some (.inl x2), some (.inl (((wsum (M (rf E a0 0)) (M (rf E a0 0) 0).toNat) - 1) - x2)), some (.inl 0)] [] M Q) ∧ (x1 = (0 : Int) → fx_At E m_X10_sectionOf 20 [some (.inr a0), some (.inl x1), some (.inl x2), some (.inl x2), some (.inl 0)] [] M Q))) : fx_At E m_X10_sectionOf 0 [some (.inr a0), some (.inl x1), some (.inl x2), none, none] [] M Q := by
  refine x_iload_n (pc := 0) dX10_sectionOf_0 rfl rfl ?_
  obtain ⟨g1, h⟩ := h
  refine x_zne (pc := 1) 8 dX10_sectionOf_1 (by decide) g1 (fun hc => ?_) (fun hc => ?_)
  · replace h := h.1 hc
    refine x_aload_n (pc := 8) dX10_sectionOf_8 rfl rfl ?_
    obtain ⟨g2, h⟩ := h
    refine x_callV (pc := 9) (z := m_X10_whole) (b := a0) (as := []) (rest := []) dX10_sectionOf_9 c_RX10_85 (by decide) hk0 rfl (Nat.le_of_ble_eq_true rfl) (ct_X10_whole hW hk0 g2) (fun r M9 hr => ?_)
    obtain ⟨hM9, hr⟩ := hr
    rw [hM9, hr]
    clear hM9 hr
    show fx_At E m_X10_sectionOf 12 [some (.inr a0), some (.inl x1), some (.inl x2), none, none] [.inl (wsum (M (rf E a0 0)) (M (rf E a0 0) 0).toNat)] _ Q
    refine x_iconst (pc := 12) dX10_sectionOf_12 ?_
    refine x_isub (pc := 13) dX10_sectionOf_13 ?_
    refine x_iload_n (pc := 14) dX10_sectionOf_14 rfl rfl ?_
    refine x_isub (pc := 15) dX10_sectionOf_15 ?_
    refine x_istore_n (pc := 16) (lv' := [some (.inr a0), some (.inl x1), some (.inl x2), some (.inl (((wsum (M (rf E a0 0)) (M (rf E a0 0) 0).toNat) - 1) - x2)), none]) dX10_sectionOf_16 rfl (by decide) rfl ?_
    refine x_iconst (pc := 17) dX10_sectionOf_17 ?_
    refine x_istore (pc := 18) (lv' := [some (.inr a0), some (.inl x1), some (.inl x2), some (.inl (((wsum (M (rf E a0 0)) (M (rf E a0 0) 0).toNat) - 1) - x2)), some (.inl 0)]) dX10_sectionOf_18 (by decide) rfl ?_
    exact h
  · replace h := h.2 hc
    refine x_iload_n (pc := 4) dX10_sectionOf_4 rfl rfl ?_
    refine x_goto (pc := 5) 16 dX10_sectionOf_5 (by decide) ?_
    refine x_istore_n (pc := 16) (lv' := [some (.inr a0), some (.inl x1), some (.inl x2), some (.inl x2), none]) dX10_sectionOf_16 rfl (by decide) rfl ?_
    refine x_iconst (pc := 17) dX10_sectionOf_17 ?_
    refine x_istore (pc := 18) (lv' := [some (.inr a0), some (.inl x1), some (.inl x2), some (.inl x2), some (.inl 0)]) dX10_sectionOf_18 (by decide) rfl ?_
    exact h
set_option maxRecDepth 100000 in
theorem b_X10_sectionOf_20 {E : fxE} (hW : fx_Wt E) (a0 : Nat) (x1 : Int) (x2 : Int) (x3 : Int) (x4 : Int) (M : fxM) (Q : Option fxV → fxM → Prop) (hk0 : kd E a0 = 10) (h : (0 ≤ (x4 + 1) ∧ (x4 + 1) ≤ 8) ∧ (-2147483648 ≤ (wsum (M (rf E a0 0)) (x4 + 1).toNat) ∧ (wsum (M (rf E a0 0)) (x4 + 1).toNat) < 2147483648) ∧ (-2147483648 ≤ x3 ∧ x3 < 2147483648) ∧ ((x3 < (wsum (M (rf E a0 0)) (x4 + 1).toNat) → Q (some (.inl x4)) M) ∧ (¬ x3 < (wsum (M (rf E a0 0)) (x4 + 1).toNat) → fx_At E m_X10_sectionOf 20 [some (.inr a0), some (.inl x1), some (.inl x2), some (.inl x3), some (.inl (x4 + 1))] [] M Q))) : fx_At E m_X10_sectionOf 20 [some (.inr a0), some (.inl x1), some (.inl x2), some (.inl x3), some (.inl x4)] [] M Q := by
  refine x_aload_n (pc := 20) dX10_sectionOf_20 rfl rfl ?_
  refine x_iload (pc := 21) dX10_sectionOf_21 rfl ?_
  refine x_iconst (pc := 23) dX10_sectionOf_23 ?_
  refine x_iadd (pc := 24) dX10_sectionOf_24 ?_
  obtain ⟨g1, h⟩ := h
  refine x_callV (pc := 25) (z := m_X10_placeOf) (b := a0) (as := [.inl (x4 + 1)]) (rest := []) dX10_sectionOf_25 c_RX10_67 (by decide) hk0 rfl (Nat.le_of_ble_eq_true rfl) (ct_X10_placeOf hW hk0 g1) (fun r M9 hr => ?_)
  obtain ⟨hM9, hr⟩ := hr
  rw [hM9, hr]
  clear hM9 hr
  show fx_At E m_X10_sectionOf 28 [some (.inr a0), some (.inl x1), some (.inl x2), some (.inl x3), some (.inl x4)] [.inl (wsum (M (rf E a0 0)) (x4 + 1).toNat)] _ Q
  refine x_iload_n (pc := 28) dX10_sectionOf_28 rfl rfl ?_
  obtain ⟨g2, h⟩ := h
  obtain ⟨g3, h⟩ := h
  refine x_cgt (pc := 29) 38 dX10_sectionOf_29 (by decide) ⟨g2, g3⟩ (fun hc => ?_) (fun hc => ?_)
  · replace h := h.1 hc
    refine x_iload (pc := 38) dX10_sectionOf_38 rfl ?_
    exact x_iret (pc := 40) dX10_sectionOf_40 (Or.inl rfl) h
  · replace h := h.2 hc
    refine x_iinc (pc := 32) (lv' := [some (.inr a0), some (.inl x1), some (.inl x2), some (.inl x3), some (.inl (x4 + 1))]) dX10_sectionOf_32 rfl (by decide) rfl ?_
    refine x_goto (pc := 35) 20 dX10_sectionOf_35 (by decide) ?_
    exact h
theorem dX10_layLosses_0 : decode cX10_layLosses 0 = .ok (.aload_n 0, 1) := by decide +kernel
theorem dX10_layLosses_1 : decode cX10_layLosses 1 = .ok (.invokevirtual 85, 3) := by decide +kernel
theorem dX10_layLosses_4 : decode cX10_layLosses 4 = .ok (.istore_n 2, 1) := by decide +kernel
theorem dX10_layLosses_5 : decode cX10_layLosses 5 = .ok (.iconst 0, 1) := by decide +kernel
theorem dX10_layLosses_6 : decode cX10_layLosses 6 = .ok (.istore_n 3, 1) := by decide +kernel
theorem dX10_layLosses_7 : decode cX10_layLosses 7 = .ok (.iconst 0, 1) := by decide +kernel
theorem dX10_layLosses_8 : decode cX10_layLosses 8 = .ok (.istore 4, 2) := by decide +kernel
theorem dX10_layLosses_10 : decode cX10_layLosses 10 = .ok (.iload 4, 2) := by decide +kernel
theorem dX10_layLosses_12 : decode cX10_layLosses 12 = .ok (.iload_n 2, 1) := by decide +kernel
theorem dX10_layLosses_13 : decode cX10_layLosses 13 = .ok (.if_icmp .gt 199, 3) := by decide +kernel
theorem dX10_layLosses_16 : decode cX10_layLosses 16 = .ok (.iload_n 3, 1) := by decide +kernel
theorem dX10_layLosses_17 : decode cX10_layLosses 17 = .ok (.iload 4, 2) := by decide +kernel
theorem dX10_layLosses_19 : decode cX10_layLosses 19 = .ok (.ifCond .ne 7, 3) := by decide +kernel
theorem dX10_layLosses_22 : decode cX10_layLosses 22 = .ok (.iconst 0, 1) := by decide +kernel
theorem dX10_layLosses_23 : decode cX10_layLosses 23 = .ok (.goto 23, 3) := by decide +kernel
theorem dX10_layLosses_26 : decode cX10_layLosses 26 = .ok (.aload_n 0, 1) := by decide +kernel
theorem dX10_layLosses_27 : decode cX10_layLosses 27 = .ok (.getfield 7, 3) := by decide +kernel
theorem dX10_layLosses_30 : decode cX10_layLosses 30 = .ok (.iconst 1, 1) := by decide +kernel
theorem dX10_layLosses_31 : decode cX10_layLosses 31 = .ok (.iconst 3, 1) := by decide +kernel
theorem dX10_layLosses_32 : decode cX10_layLosses 32 = .ok (.aload_n 0, 1) := by decide +kernel
theorem dX10_layLosses_33 : decode cX10_layLosses 33 = .ok (.iload_n 1, 1) := by decide +kernel
theorem dX10_layLosses_34 : decode cX10_layLosses 34 = .ok (.iload 4, 2) := by decide +kernel
theorem dX10_layLosses_36 : decode cX10_layLosses 36 = .ok (.iconst 1, 1) := by decide +kernel
theorem dX10_layLosses_37 : decode cX10_layLosses 37 = .ok (.isub, 1) := by decide +kernel
theorem dX10_layLosses_38 : decode cX10_layLosses 38 = .ok (.invokevirtual 102, 3) := by decide +kernel
theorem dX10_layLosses_41 : decode cX10_layLosses 41 = .ok (.imul, 1) := by decide +kernel
theorem dX10_layLosses_42 : decode cX10_layLosses 42 = .ok (.iadd, 1) := by decide +kernel
theorem dX10_layLosses_43 : decode cX10_layLosses 43 = .ok (.iconst 1, 1) := by decide +kernel
theorem dX10_layLosses_44 : decode cX10_layLosses 44 = .ok (.iadd, 1) := by decide +kernel
theorem dX10_layLosses_45 : decode cX10_layLosses 45 = .ok (.iaload, 1) := by decide +kernel
theorem dX10_layLosses_46 : decode cX10_layLosses 46 = .ok (.iadd, 1) := by decide +kernel
theorem dX10_layLosses_47 : decode cX10_layLosses 47 = .ok (.istore_n 3, 1) := by decide +kernel
theorem dX10_layLosses_48 : decode cX10_layLosses 48 = .ok (.iconst 0, 1) := by decide +kernel
theorem dX10_layLosses_49 : decode cX10_layLosses 49 = .ok (.istore 5, 2) := by decide +kernel
theorem dX10_layLosses_51 : decode cX10_layLosses 51 = .ok (.iload 5, 2) := by decide +kernel
theorem dX10_layLosses_53 : decode cX10_layLosses 53 = .ok (.aload_n 0, 1) := by decide +kernel
theorem dX10_layLosses_54 : decode cX10_layLosses 54 = .ok (.getfield 7, 3) := by decide +kernel
theorem dX10_layLosses_57 : decode cX10_layLosses 57 = .ok (.iconst 0, 1) := by decide +kernel
theorem dX10_layLosses_58 : decode cX10_layLosses 58 = .ok (.iaload, 1) := by decide +kernel
theorem dX10_layLosses_59 : decode cX10_layLosses 59 = .ok (.if_icmp .gt 44, 3) := by decide +kernel
theorem dX10_layLosses_62 : decode cX10_layLosses 62 = .ok (.iload_n 3, 1) := by decide +kernel
theorem dX10_layLosses_63 : decode cX10_layLosses 63 = .ok (.aload_n 0, 1) := by decide +kernel
theorem dX10_layLosses_64 : decode cX10_layLosses 64 = .ok (.iload_n 1, 1) := by decide +kernel
theorem dX10_layLosses_65 : decode cX10_layLosses 65 = .ok (.aload_n 0, 1) := by decide +kernel
theorem dX10_layLosses_66 : decode cX10_layLosses 66 = .ok (.iload 5, 2) := by decide +kernel
theorem dX10_layLosses_68 : decode cX10_layLosses 68 = .ok (.invokevirtual 67, 3) := by decide +kernel
theorem dX10_layLosses_71 : decode cX10_layLosses 71 = .ok (.invokevirtual 106, 3) := by decide +kernel
theorem dX10_layLosses_74 : decode cX10_layLosses 74 = .ok (.iload 4, 2) := by decide +kernel
theorem dX10_layLosses_76 : decode cX10_layLosses 76 = .ok (.if_icmp .ne 18, 3) := by decide +kernel
theorem dX10_layLosses_79 : decode cX10_layLosses 79 = .ok (.aload_n 0, 1) := by decide +kernel
theorem dX10_layLosses_80 : decode cX10_layLosses 80 = .ok (.getfield 7, 3) := by decide +kernel
theorem dX10_layLosses_83 : decode cX10_layLosses 83 = .ok (.bipush 25, 2) := by decide +kernel
theorem dX10_layLosses_85 : decode cX10_layLosses 85 = .ok (.iconst 2, 1) := by decide +kernel
theorem dX10_layLosses_86 : decode cX10_layLosses 86 = .ok (.iload 5, 2) := by decide +kernel
theorem dX10_layLosses_88 : decode cX10_layLosses 88 = .ok (.imul, 1) := by decide +kernel
theorem dX10_layLosses_89 : decode cX10_layLosses 89 = .ok (.iadd, 1) := by decide +kernel
theorem dX10_layLosses_90 : decode cX10_layLosses 90 = .ok (.iaload, 1) := by decide +kernel
theorem dX10_layLosses_91 : decode cX10_layLosses 91 = .ok (.goto 4, 3) := by decide +kernel
theorem dX10_layLosses_94 : decode cX10_layLosses 94 = .ok (.iconst 0, 1) := by decide +kernel
theorem dX10_layLosses_95 : decode cX10_layLosses 95 = .ok (.iadd, 1) := by decide +kernel
theorem dX10_layLosses_96 : decode cX10_layLosses 96 = .ok (.istore_n 3, 1) := by decide +kernel
theorem dX10_layLosses_97 : decode cX10_layLosses 97 = .ok (.iinc 5 1, 3) := by decide +kernel
theorem dX10_layLosses_100 : decode cX10_layLosses 100 = .ok (.goto (-49), 3) := by decide +kernel
theorem dX10_layLosses_103 : decode cX10_layLosses 103 = .ok (.iconst 0, 1) := by decide +kernel
theorem dX10_layLosses_104 : decode cX10_layLosses 104 = .ok (.istore 5, 2) := by decide +kernel
theorem dX10_layLosses_106 : decode cX10_layLosses 106 = .ok (.iload 5, 2) := by decide +kernel
theorem dX10_layLosses_108 : decode cX10_layLosses 108 = .ok (.aload_n 0, 1) := by decide +kernel
theorem dX10_layLosses_109 : decode cX10_layLosses 109 = .ok (.getfield 7, 3) := by decide +kernel
theorem dX10_layLosses_112 : decode cX10_layLosses 112 = .ok (.bipush 43, 2) := by decide +kernel
theorem dX10_layLosses_114 : decode cX10_layLosses 114 = .ok (.iaload, 1) := by decide +kernel
theorem dX10_layLosses_115 : decode cX10_layLosses 115 = .ok (.if_icmp .ge 52, 3) := by decide +kernel
theorem dX10_layLosses_118 : decode cX10_layLosses 118 = .ok (.iload_n 3, 1) := by decide +kernel
theorem dX10_layLosses_119 : decode cX10_layLosses 119 = .ok (.aload_n 0, 1) := by decide +kernel
theorem dX10_layLosses_120 : decode cX10_layLosses 120 = .ok (.iload_n 1, 1) := by decide +kernel
theorem dX10_layLosses_121 : decode cX10_layLosses 121 = .ok (.aload_n 0, 1) := by decide +kernel
theorem dX10_layLosses_122 : decode cX10_layLosses 122 = .ok (.getfield 7, 3) := by decide +kernel
theorem dX10_layLosses_125 : decode cX10_layLosses 125 = .ok (.bipush 44, 2) := by decide +kernel
theorem dX10_layLosses_127 : decode cX10_layLosses 127 = .ok (.iconst 2, 1) := by decide +kernel
theorem dX10_layLosses_128 : decode cX10_layLosses 128 = .ok (.iload 5, 2) := by decide +kernel
theorem dX10_layLosses_130 : decode cX10_layLosses 130 = .ok (.imul, 1) := by decide +kernel
theorem dX10_layLosses_131 : decode cX10_layLosses 131 = .ok (.iadd, 1) := by decide +kernel
theorem dX10_layLosses_132 : decode cX10_layLosses 132 = .ok (.iaload, 1) := by decide +kernel
theorem dX10_layLosses_133 : decode cX10_layLosses 133 = .ok (.invokevirtual 106, 3) := by decide +kernel
theorem dX10_layLosses_136 : decode cX10_layLosses 136 = .ok (.iload 4, 2) := by decide +kernel
theorem dX10_layLosses_138 : decode cX10_layLosses 138 = .ok (.if_icmp .ne 20, 3) := by decide +kernel
theorem dX10_layLosses_141 : decode cX10_layLosses 141 = .ok (.aload_n 0, 1) := by decide +kernel
theorem dX10_layLosses_142 : decode cX10_layLosses 142 = .ok (.getfield 7, 3) := by decide +kernel
theorem dX10_layLosses_145 : decode cX10_layLosses 145 = .ok (.bipush 44, 2) := by decide +kernel
theorem dX10_layLosses_147 : decode cX10_layLosses 147 = .ok (.iconst 2, 1) := by decide +kernel
theorem dX10_layLosses_148 : decode cX10_layLosses 148 = .ok (.iload 5, 2) := by decide +kernel
theorem dX10_layLosses_150 : decode cX10_layLosses 150 = .ok (.imul, 1) := by decide +kernel
theorem dX10_layLosses_151 : decode cX10_layLosses 151 = .ok (.iadd, 1) := by decide +kernel
theorem dX10_layLosses_152 : decode cX10_layLosses 152 = .ok (.iconst 1, 1) := by decide +kernel
theorem dX10_layLosses_153 : decode cX10_layLosses 153 = .ok (.iadd, 1) := by decide +kernel
theorem dX10_layLosses_154 : decode cX10_layLosses 154 = .ok (.iaload, 1) := by decide +kernel
theorem dX10_layLosses_155 : decode cX10_layLosses 155 = .ok (.goto 4, 3) := by decide +kernel
theorem dX10_layLosses_158 : decode cX10_layLosses 158 = .ok (.iconst 0, 1) := by decide +kernel
theorem dX10_layLosses_159 : decode cX10_layLosses 159 = .ok (.iadd, 1) := by decide +kernel
theorem dX10_layLosses_160 : decode cX10_layLosses 160 = .ok (.istore_n 3, 1) := by decide +kernel
theorem dX10_layLosses_161 : decode cX10_layLosses 161 = .ok (.iinc 5 1, 3) := by decide +kernel
theorem dX10_layLosses_164 : decode cX10_layLosses 164 = .ok (.goto (-58), 3) := by decide +kernel
theorem dX10_layLosses_167 : decode cX10_layLosses 167 = .ok (.aload_n 0, 1) := by decide +kernel
theorem dX10_layLosses_168 : decode cX10_layLosses 168 = .ok (.getfield 30, 3) := by decide +kernel
theorem dX10_layLosses_171 : decode cX10_layLosses 171 = .ok (.iload 4, 2) := by decide +kernel
theorem dX10_layLosses_173 : decode cX10_layLosses 173 = .ok (.iload_n 3, 1) := by decide +kernel
theorem dX10_layLosses_174 : decode cX10_layLosses 174 = .ok (.iastore, 1) := by decide +kernel
theorem dX10_layLosses_175 : decode cX10_layLosses 175 = .ok (.iload 4, 2) := by decide +kernel
theorem dX10_layLosses_177 : decode cX10_layLosses 177 = .ok (.iload_n 2, 1) := by decide +kernel
theorem dX10_layLosses_178 : decode cX10_layLosses 178 = .ok (.if_icmp .ge 28, 3) := by decide +kernel
theorem dX10_layLosses_181 : decode cX10_layLosses 181 = .ok (.aload_n 0, 1) := by decide +kernel
theorem dX10_layLosses_182 : decode cX10_layLosses 182 = .ok (.getfield 33, 3) := by decide +kernel
theorem dX10_layLosses_185 : decode cX10_layLosses 185 = .ok (.iload 4, 2) := by decide +kernel
theorem dX10_layLosses_187 : decode cX10_layLosses 187 = .ok (.aload_n 0, 1) := by decide +kernel
theorem dX10_layLosses_188 : decode cX10_layLosses 188 = .ok (.getfield 7, 3) := by decide +kernel
theorem dX10_layLosses_191 : decode cX10_layLosses 191 = .ok (.iconst 1, 1) := by decide +kernel
theorem dX10_layLosses_192 : decode cX10_layLosses 192 = .ok (.iconst 3, 1) := by decide +kernel
theorem dX10_layLosses_193 : decode cX10_layLosses 193 = .ok (.aload_n 0, 1) := by decide +kernel
theorem dX10_layLosses_194 : decode cX10_layLosses 194 = .ok (.iload_n 1, 1) := by decide +kernel
theorem dX10_layLosses_195 : decode cX10_layLosses 195 = .ok (.iload 4, 2) := by decide +kernel
theorem dX10_layLosses_197 : decode cX10_layLosses 197 = .ok (.invokevirtual 102, 3) := by decide +kernel
theorem dX10_layLosses_200 : decode cX10_layLosses 200 = .ok (.imul, 1) := by decide +kernel
theorem dX10_layLosses_201 : decode cX10_layLosses 201 = .ok (.iadd, 1) := by decide +kernel
theorem dX10_layLosses_202 : decode cX10_layLosses 202 = .ok (.iconst 2, 1) := by decide +kernel
theorem dX10_layLosses_203 : decode cX10_layLosses 203 = .ok (.iadd, 1) := by decide +kernel
theorem dX10_layLosses_204 : decode cX10_layLosses 204 = .ok (.iaload, 1) := by decide +kernel
theorem dX10_layLosses_205 : decode cX10_layLosses 205 = .ok (.iastore, 1) := by decide +kernel
theorem dX10_layLosses_206 : decode cX10_layLosses 206 = .ok (.iinc 4 1, 3) := by decide +kernel
theorem dX10_layLosses_209 : decode cX10_layLosses 209 = .ok (.goto (-199), 3) := by decide +kernel
theorem dX10_layLosses_212 : decode cX10_layLosses 212 = .ok (.return_, 1) := by decide +kernel
set_option maxRecDepth 100000 in
theorem b_X10_layLosses_0 {E : fxE} (hW : fx_Wt E) (a0 : Nat) (x1 : Int) (M : fxM) (Q : Option fxV → fxM → Prop) (hk0 : kd E a0 = 10) (h : (0 ≤ M (rf E a0 0) 0 ∧ M (rf E a0 0) 0 ≤ 8) ∧ fx_At E m_X10_layLosses 10 [some (.inr a0), some (.inl x1), some (.inl (wsum (M (rf E a0 0)) (M (rf E a0 0) 0).toNat)), some (.inl 0), some (.inl 0), none] [] M Q) : fx_At E m_X10_layLosses 0 [some (.inr a0), some (.inl x1), none, none, none, none] [] M Q := by
  refine x_aload_n (pc := 0) dX10_layLosses_0 rfl rfl ?_
  obtain ⟨g1, h⟩ := h
  refine x_callV (pc := 1) (z := m_X10_whole) (b := a0) (as := []) (rest := []) dX10_layLosses_1 c_RX10_85 (by decide) hk0 rfl (Nat.le_of_ble_eq_true rfl) (ct_X10_whole hW hk0 g1) (fun r M9 hr => ?_)
  obtain ⟨hM9, hr⟩ := hr
  rw [hM9, hr]
  clear hM9 hr
  show fx_At E m_X10_layLosses 4 [some (.inr a0), some (.inl x1), none, none, none, none] [.inl (wsum (M (rf E a0 0)) (M (rf E a0 0) 0).toNat)] _ Q
  refine x_istore_n (pc := 4) (lv' := [some (.inr a0), some (.inl x1), some (.inl (wsum (M (rf E a0 0)) (M (rf E a0 0) 0).toNat)), none, none, none]) dX10_layLosses_4 rfl (by decide) rfl ?_
  refine x_iconst (pc := 5) dX10_layLosses_5 ?_
  refine x_istore_n (pc := 6) (lv' := [some (.inr a0), some (.inl x1), some (.inl (wsum (M (rf E a0 0)) (M (rf E a0 0) 0).toNat)), some (.inl 0), none, none]) dX10_layLosses_6 rfl (by decide) rfl ?_
  refine x_iconst (pc := 7) dX10_layLosses_7 ?_
  refine x_istore (pc := 8) (lv' := [some (.inr a0), some (.inl x1), some (.inl (wsum (M (rf E a0 0)) (M (rf E a0 0) 0).toNat)), some (.inl 0), some (.inl 0), none]) dX10_layLosses_8 (by decide) rfl ?_
  exact h
set_option maxRecDepth 100000 in
theorem b_X10_layLosses_10 {E : fxE} (hW : fx_Wt E) (a0 : Nat) (x1 : Int) (x2 : Int) (x3 : Int) (x4 : Int) (M : fxM) (Q : Option fxV → fxM → Prop) (hk0 : kd E a0 = 10) (h : (-2147483648 ≤ x4 ∧ x4 < 2147483648) ∧ (-2147483648 ≤ x2 ∧ x2 < 2147483648) ∧ ((x2 < x4 → Q none M) ∧ (¬ x2 < x4 → ((¬ x4 = (0 : Int) → ∃ R3 : Int → fxM → Prop, CtI E m_X10_sectionOf [.inr a0, .inl x1, .inl (x4 - 1)] M R3 ∧ ∀ (v3 : Int) (M3 : fxM), R3 v3 M3 → (0 ≤ ((1 + (3 * v3)) + 1) ∧ ((1 + (3 * v3)) + 1) < 84) ∧ fx_At E m_X10_layLosses 51 [some (.inr a0), some (.inl x1), some (.inl x2), some (.inl (x3 + (M3 (rf E a0 0) (((1 + (3 * v3)) + 1).toNat)))), some (.inl x4), some (.inl 0)] [] M3 Q) ∧ (x4 = (0 : Int) → fx_At E m_X10_layLosses 51 [some (.inr a0), some (.inl x1), some (.inl x2), some (.inl (x3 + 0)), some (.inl x4), some (.inl 0)] [] M Q))))) : fx_At E m_X10_layLosses 10 [some (.inr a0), some (.inl x1), some (.inl x2), some (.inl x3), some (.inl x4), none] [] M Q := by
  refine x_iload (pc := 10) dX10_layLosses_10 rfl ?_
  refine x_iload_n (pc := 12) dX10_layLosses_12 rfl rfl ?_
  obtain ⟨g1, h⟩ := h
  obtain ⟨g2, h⟩ := h
  refine x_cgt (pc := 13) 212 dX10_layLosses_13 (by decide) ⟨g1, g2⟩ (fun hc => ?_) (fun hc => ?_)
  · replace h := h.1 hc
    exact x_vret (pc := 212) dX10_layLosses_212 rfl h
  · replace h := h.2 hc
    refine x_iload_n (pc := 16) dX10_layLosses_16 rfl rfl ?_
    refine x_iload (pc := 17) dX10_layLosses_17 rfl ?_
    refine x_zne (pc := 19) 26 dX10_layLosses_19 (by decide) g1 (fun hc => ?_) (fun hc => ?_)
    · replace h := h.1 hc
      refine x_aload_n (pc := 26) dX10_layLosses_26 rfl rfl ?_
      refine x_getr (pc := 27) dX10_layLosses_27 f_RX10_7 hk0 ?_
      refine x_iconst (pc := 30) dX10_layLosses_30 ?_
      refine x_iconst (pc := 31) dX10_layLosses_31 ?_
      refine x_aload_n (pc := 32) dX10_layLosses_32 rfl rfl ?_
      refine x_iload_n (pc := 33) dX10_layLosses_33 rfl rfl ?_
      refine x_iload (pc := 34) dX10_layLosses_34 rfl ?_
      refine x_iconst (pc := 36) dX10_layLosses_36 ?_
      refine x_isub (pc := 37) dX10_layLosses_37 ?_
      obtain ⟨R3, hc3, h⟩ := h
      refine x_callV (pc := 38) (z := m_X10_sectionOf) (b := a0) (as := [.inl x1, .inl (x4 - 1)]) (rest := [.inl 3, .inl 1, .inr (rf E a0 0), .inl x3]) dX10_layLosses_38 c_RX10_102 (by decide) hk0 rfl (Nat.le_of_ble_eq_true rfl) hc3 (fun r M3 hr => ?_)
      obtain ⟨v3, rfl, hr⟩ := hr
      replace h := h v3 M3 hr
      show fx_At E m_X10_layLosses 41 [some (.inr a0), some (.inl x1), some (.inl x2), some (.inl x3), some (.inl x4), none] [.inl v3, .inl 3, .inl 1, .inr (rf E a0 0), .inl x3] M3 Q
      refine x_imul (pc := 41) dX10_layLosses_41 ?_
      refine x_iadd (pc := 42) dX10_layLosses_42 ?_
      refine x_iconst (pc := 43) dX10_layLosses_43 ?_
      refine x_iadd (pc := 44) dX10_layLosses_44 ?_
      obtain ⟨g4, h⟩ := h
      refine x_iald (pc := 45) dX10_layLosses_45 (wk_10_0 hW hk0) (wl_10_0 hW hk0) g4 ?_
      refine x_iadd (pc := 46) dX10_layLosses_46 ?_
      refine x_istore_n (pc := 47) (lv' := [some (.inr a0), some (.inl x1), some (.inl x2), some (.inl (x3 + (M3 (rf E a0 0) (((1 + (3 * v3)) + 1).toNat)))), some (.inl x4), none]) dX10_layLosses_47 rfl (by decide) rfl ?_
      refine x_iconst (pc := 48) dX10_layLosses_48 ?_
      refine x_istore (pc := 49) (lv' := [some (.inr a0), some (.inl x1), some (.inl x2), some (.inl (x3 + (M3 (rf E a0 0) (((1 + (3 * v3)) + 1).toNat)))), some (.inl x4), some (.inl 0)]) dX10_layLosses_49 (by decide) rfl ?_
      exact h
    · replace h := h.2 hc
      refine x_iconst (pc := 22) dX10_layLosses_22 ?_
      refine x_goto (pc := 23) 46 dX10_layLosses_23 (by decide) ?_
      refine x_iadd (pc := 46) dX10_layLosses_46 ?_
      refine x_istore_n (pc := 47) (lv' := [some (.inr a0), some (.inl x1), some (.inl x2), some (.inl (x3 + 0)), some (.inl x4), none]) dX10_layLosses_47 rfl (by decide) rfl ?_
      refine x_iconst (pc := 48) dX10_layLosses_48 ?_
      refine x_istore (pc := 49) (lv' := [some (.inr a0), some (.inl x1), some (.inl x2), some (.inl (x3 + 0)), some (.inl x4), some (.inl 0)]) dX10_layLosses_49 (by decide) rfl ?_
      exact h
set_option maxRecDepth 100000 in
theorem b_X10_layLosses_51 {E : fxE} (hW : fx_Wt E) (a0 : Nat) (x1 : Int) (x2 : Int) (x3 : Int) (x4 : Int) (x5 : Int) (M : fxM) (Q : Option fxV → fxM → Prop) (hk0 : kd E a0 = 10) (h : (-2147483648 ≤ x5 ∧ x5 < 2147483648) ∧ (-2147483648 ≤ (M (rf E a0 0) 0) ∧ (M (rf E a0 0) 0) < 2147483648) ∧ (((M (rf E a0 0) 0) < x5 → fx_At E m_X10_layLosses 106 [some (.inr a0), some (.inl x1), some (.inl x2), some (.inl x3), some (.inl x4), some (.inl 0)] [] M Q) ∧ (¬ (M (rf E a0 0) 0) < x5 → (0 ≤ x5 ∧ x5 ≤ 8) ∧ ∃ R4 : Int → fxM → Prop, CtI E m_X10_far [.inr a0, .inl x1, .inl (wsum (M (rf E a0 0)) x5.toNat)] M R4 ∧ ∀ (v4 : Int) (M4 : fxM), R4 v4 M4 → (-2147483648 ≤ v4 ∧ v4 < 2147483648) ∧ (-2147483648 ≤ x4 ∧ x4 < 2147483648) ∧ ((¬ v4 = x4 → fx_At E m_X10_layLosses 51 [some (.inr a0), some (.inl x1), some (.inl x2), some (.inl (x3 + 0)), some (.inl x4), some (.inl (x5 + 1))] [] M4 Q) ∧ (v4 = x4 → (0 ≤ (25 + (2 * x5)) ∧ (25 + (2 * x5)) < 84) ∧ fx_At E m_X10_layLosses 51 [some (.inr a0), some (.inl x1), some (.inl x2), some (.inl (x3 + (M4 (rf E a0 0) ((25 + (2 * x5)).toNat)))), some (.inl x4), some (.inl (x5 + 1))] [] M4 Q))))) : fx_At E m_X10_layLosses 51 [some (.inr a0), some (.inl x1), some (.inl x2), some (.inl x3), some (.inl x4), some (.inl x5)] [] M Q := by
  refine x_iload (pc := 51) dX10_layLosses_51 rfl ?_
  refine x_aload_n (pc := 53) dX10_layLosses_53 rfl rfl ?_
  refine x_getr (pc := 54) dX10_layLosses_54 f_RX10_7 hk0 ?_
  refine x_iconst (pc := 57) dX10_layLosses_57 ?_
  refine x_iald (pc := 58) dX10_layLosses_58 (wk_10_0 hW hk0) (wl_10_0 hW hk0) ⟨by decide, by decide⟩ ?_
  obtain ⟨g1, h⟩ := h
  obtain ⟨g2, h⟩ := h
  refine x_cgt (pc := 59) 103 dX10_layLosses_59 (by decide) ⟨g1, g2⟩ (fun hc => ?_) (fun hc => ?_)
  · replace h := h.1 hc
    refine x_iconst (pc := 103) dX10_layLosses_103 ?_
    refine x_istore (pc := 104) (lv' := [some (.inr a0), some (.inl x1), some (.inl x2), some (.inl x3), some (.inl x4), some (.inl 0)]) dX10_layLosses_104 (by decide) rfl ?_
    exact h
  · replace h := h.2 hc
    refine x_iload_n (pc := 62) dX10_layLosses_62 rfl rfl ?_
    refine x_aload_n (pc := 63) dX10_layLosses_63 rfl rfl ?_
    refine x_iload_n (pc := 64) dX10_layLosses_64 rfl rfl ?_
    refine x_aload_n (pc := 65) dX10_layLosses_65 rfl rfl ?_
    refine x_iload (pc := 66) dX10_layLosses_66 rfl ?_
    obtain ⟨g3, h⟩ := h
    refine x_callV (pc := 68) (z := m_X10_placeOf) (b := a0) (as := [.inl x5]) (rest := [.inl x1, .inr a0, .inl x3]) dX10_layLosses_68 c_RX10_67 (by decide) hk0 rfl (Nat.le_of_ble_eq_true rfl) (ct_X10_placeOf hW hk0 g3) (fun r M9 hr => ?_)
    obtain ⟨hM9, hr⟩ := hr
    rw [hM9, hr]
    clear hM9 hr
    show fx_At E m_X10_layLosses 71 [some (.inr a0), some (.inl x1), some (.inl x2), some (.inl x3), some (.inl x4), some (.inl x5)] [.inl (wsum (M (rf E a0 0)) x5.toNat), .inl x1, .inr a0, .inl x3] _ Q
    obtain ⟨R4, hc4, h⟩ := h
    refine x_callV (pc := 71) (z := m_X10_far) (b := a0) (as := [.inl x1, .inl (wsum (M (rf E a0 0)) x5.toNat)]) (rest := [.inl x3]) dX10_layLosses_71 c_RX10_106 (by decide) hk0 rfl (Nat.le_of_ble_eq_true rfl) hc4 (fun r M4 hr => ?_)
    obtain ⟨v4, rfl, hr⟩ := hr
    replace h := h v4 M4 hr
    show fx_At E m_X10_layLosses 74 [some (.inr a0), some (.inl x1), some (.inl x2), some (.inl x3), some (.inl x4), some (.inl x5)] [.inl v4, .inl x3] M4 Q
    refine x_iload (pc := 74) dX10_layLosses_74 rfl ?_
    obtain ⟨g5, h⟩ := h
    obtain ⟨g6, h⟩ := h
    refine x_cne (pc := 76) 94 dX10_layLosses_76 (by decide) ⟨g5, g6⟩ (fun hc => ?_) (fun hc => ?_)
    · replace h := h.1 hc
      refine x_iconst (pc := 94) dX10_layLosses_94 ?_
      refine x_iadd (pc := 95) dX10_layLosses_95 ?_
      refine x_istore_n (pc := 96) (lv' := [some (.inr a0), some (.inl x1), some (.inl x2), some (.inl (x3 + 0)), some (.inl x4), some (.inl x5)]) dX10_layLosses_96 rfl (by decide) rfl ?_
      refine x_iinc (pc := 97) (lv' := [some (.inr a0), some (.inl x1), some (.inl x2), some (.inl (x3 + 0)), some (.inl x4), some (.inl (x5 + 1))]) dX10_layLosses_97 rfl (by decide) rfl ?_
      refine x_goto (pc := 100) 51 dX10_layLosses_100 (by decide) ?_
      exact h
    · replace h := h.2 hc
      refine x_aload_n (pc := 79) dX10_layLosses_79 rfl rfl ?_
      refine x_getr (pc := 80) dX10_layLosses_80 f_RX10_7 hk0 ?_
      refine x_bipush (pc := 83) dX10_layLosses_83 (by decide +kernel) ?_
      refine x_iconst (pc := 85) dX10_layLosses_85 ?_
      refine x_iload (pc := 86) dX10_layLosses_86 rfl ?_
      refine x_imul (pc := 88) dX10_layLosses_88 ?_
      refine x_iadd (pc := 89) dX10_layLosses_89 ?_
      obtain ⟨g7, h⟩ := h
      refine x_iald (pc := 90) dX10_layLosses_90 (wk_10_0 hW hk0) (wl_10_0 hW hk0) g7 ?_
      refine x_goto (pc := 91) 95 dX10_layLosses_91 (by decide) ?_
      refine x_iadd (pc := 95) dX10_layLosses_95 ?_
      refine x_istore_n (pc := 96) (lv' := [some (.inr a0), some (.inl x1), some (.inl x2), some (.inl (x3 + (M4 (rf E a0 0) ((25 + (2 * x5)).toNat)))), some (.inl x4), some (.inl x5)]) dX10_layLosses_96 rfl (by decide) rfl ?_
      refine x_iinc (pc := 97) (lv' := [some (.inr a0), some (.inl x1), some (.inl x2), some (.inl (x3 + (M4 (rf E a0 0) ((25 + (2 * x5)).toNat)))), some (.inl x4), some (.inl (x5 + 1))]) dX10_layLosses_97 rfl (by decide) rfl ?_
      refine x_goto (pc := 100) 51 dX10_layLosses_100 (by decide) ?_
      exact h
set_option maxRecDepth 100000 in
theorem b_X10_layLosses_106 {E : fxE} (hW : fx_Wt E) (a0 : Nat) (x1 : Int) (x2 : Int) (x3 : Int) (x4 : Int) (x5 : Int) (M : fxM) (Q : Option fxV → fxM → Prop) (hk0 : kd E a0 = 10) (h : (-2147483648 ≤ x5 ∧ x5 < 2147483648) ∧ (-2147483648 ≤ (M (rf E a0 0) 43) ∧ (M (rf E a0 0) 43) < 2147483648) ∧ (((M (rf E a0 0) 43) ≤ x5 → (0 ≤ x4 ∧ x4 < 301) ∧ ∀ M4 : fxM, M4 = mset M (rf E a0 9) (x4.toNat) x3 → (-2147483648 ≤ x4 ∧ x4 < 2147483648) ∧ (-2147483648 ≤ x2 ∧ x2 < 2147483648) ∧ ((x2 ≤ x4 → fx_At E m_X10_layLosses 10 [some (.inr a0), some (.inl x1), some (.inl x2), some (.inl x3), some (.inl (x4 + 1)), none] [] M4 Q) ∧ (¬ x2 ≤ x4 → ∃ R7 : Int → fxM → Prop, CtI E m_X10_sectionOf [.inr a0, .inl x1, .inl x4] M4 R7 ∧ ∀ (v7 : Int) (M7 : fxM), R7 v7 M7 → (0 ≤ ((1 + (3 * v7)) + 2) ∧ ((1 + (3 * v7)) + 2) < 84) ∧ (0 ≤ x4 ∧ x4 < 300) ∧ ∀ M10 : fxM, M10 = mset M7 (rf E a0 10) (x4.toNat) (M7 (rf E a0 0) (((1 + (3 * v7)) + 2).toNat)) → fx_At E m_X10_layLosses 10 [some (.inr a0), some (.inl x1), some (.inl x2), some (.inl x3), some (.inl (x4 + 1)), none] [] M10 Q))) ∧ (¬ (M (rf E a0 0) 43) ≤ x5 → (0 ≤ (44 + (2 * x5)) ∧ (44 + (2 * x5)) < 84) ∧ ∃ R12 : Int → fxM → Prop, CtI E m_X10_far [.inr a0, .inl x1, .inl (M (rf E a0 0) ((44 + (2 * x5)).toNat))] M R12 ∧ ∀ (v12 : Int) (M12 : fxM), R12 v12 M12 → (-2147483648 ≤ v12 ∧ v12 < 2147483648) ∧ (-2147483648 ≤ x4 ∧ x4 < 2147483648) ∧ ((¬ v12 = x4 → fx_At E m_X10_layLosses 106 [some (.inr a0), some (.inl x1), some (.inl x2), some (.inl (x3 + 0)), some (.inl x4), some (.inl (x5 + 1))] [] M12 Q) ∧ (v12 = x4 → (0 ≤ ((44 + (2 * x5)) + 1) ∧ ((44 + (2 * x5)) + 1) < 84) ∧ fx_At E m_X10_layLosses 106 [some (.inr a0), some (.inl x1), some (.inl x2), some (.inl (x3 + (M12 (rf E a0 0) (((44 + (2 * x5)) + 1).toNat)))), some (.inl x4), some (.inl (x5 + 1))] [] M12 Q))))) : fx_At E m_X10_layLosses 106 [some (.inr a0), some (.inl x1), some (.inl x2), some (.inl x3), some (.inl x4), some (.inl x5)] [] M Q := by
  refine x_iload (pc := 106) dX10_layLosses_106 rfl ?_
  refine x_aload_n (pc := 108) dX10_layLosses_108 rfl rfl ?_
  refine x_getr (pc := 109) dX10_layLosses_109 f_RX10_7 hk0 ?_
  refine x_bipush (pc := 112) dX10_layLosses_112 (by decide +kernel) ?_
  refine x_iald (pc := 114) dX10_layLosses_114 (wk_10_0 hW hk0) (wl_10_0 hW hk0) ⟨by decide, by decide⟩ ?_
  obtain ⟨g1, h⟩ := h
  obtain ⟨g2, h⟩ := h
  refine x_cge (pc := 115) 167 dX10_layLosses_115 (by decide) ⟨g1, g2⟩ (fun hc => ?_) (fun hc => ?_)
  · replace h := h.1 hc
    refine x_aload_n (pc := 167) dX10_layLosses_167 rfl rfl ?_
    refine x_getr (pc := 168) dX10_layLosses_168 f_RX10_30 hk0 ?_
    refine x_iload (pc := 171) dX10_layLosses_171 rfl ?_
    refine x_iload_n (pc := 173) dX10_layLosses_173 rfl rfl ?_
    obtain ⟨g3, h⟩ := h
    refine x_iast (pc := 174) dX10_layLosses_174 (wk_10_9 hW hk0) (wl_10_9 hW hk0) g3 (fun M4 hM4 => ?_)
    replace h := h M4 hM4
    refine x_iload (pc := 175) dX10_layLosses_175 rfl ?_
    refine x_iload_n (pc := 177) dX10_layLosses_177 rfl rfl ?_
    obtain ⟨g5, h⟩ := h
    obtain ⟨g6, h⟩ := h
    refine x_cge (pc := 178) 206 dX10_layLosses_178 (by decide) ⟨g5, g6⟩ (fun hc => ?_) (fun hc => ?_)
    · replace h := h.1 hc
      refine x_iinc (pc := 206) (lv' := [some (.inr a0), some (.inl x1), some (.inl x2), some (.inl x3), some (.inl (x4 + 1)), some (.inl x5)]) dX10_layLosses_206 rfl (by decide) rfl ?_
      refine x_goto (pc := 209) 10 dX10_layLosses_209 (by decide) ?_
      refine x_weak (lv := [some (.inr a0), some (.inl x1), some (.inl x2), some (.inl x3), some (.inl (x4 + 1)), none]) (by simp [lvle]) ?_
      exact h
    · replace h := h.2 hc
      refine x_aload_n (pc := 181) dX10_layLosses_181 rfl rfl ?_
      refine x_getr (pc := 182) dX10_layLosses_182 f_RX10_33 hk0 ?_
      refine x_iload (pc := 185) dX10_layLosses_185 rfl ?_
      refine x_aload_n (pc := 187) dX10_layLosses_187 rfl rfl ?_
      refine x_getr (pc := 188) dX10_layLosses_188 f_RX10_7 hk0 ?_
      refine x_iconst (pc := 191) dX10_layLosses_191 ?_
      refine x_iconst (pc := 192) dX10_layLosses_192 ?_
      refine x_aload_n (pc := 193) dX10_layLosses_193 rfl rfl ?_
      refine x_iload_n (pc := 194) dX10_layLosses_194 rfl rfl ?_
      refine x_iload (pc := 195) dX10_layLosses_195 rfl ?_
      obtain ⟨R7, hc7, h⟩ := h
      refine x_callV (pc := 197) (z := m_X10_sectionOf) (b := a0) (as := [.inl x1, .inl x4]) (rest := [.inl 3, .inl 1, .inr (rf E a0 0), .inl x4, .inr (rf E a0 10)]) dX10_layLosses_197 c_RX10_102 (by decide) hk0 rfl (Nat.le_of_ble_eq_true rfl) hc7 (fun r M7 hr => ?_)
      obtain ⟨v7, rfl, hr⟩ := hr
      replace h := h v7 M7 hr
      show fx_At E m_X10_layLosses 200 [some (.inr a0), some (.inl x1), some (.inl x2), some (.inl x3), some (.inl x4), some (.inl x5)] [.inl v7, .inl 3, .inl 1, .inr (rf E a0 0), .inl x4, .inr (rf E a0 10)] M7 Q
      refine x_imul (pc := 200) dX10_layLosses_200 ?_
      refine x_iadd (pc := 201) dX10_layLosses_201 ?_
      refine x_iconst (pc := 202) dX10_layLosses_202 ?_
      refine x_iadd (pc := 203) dX10_layLosses_203 ?_
      obtain ⟨g8, h⟩ := h
      refine x_iald (pc := 204) dX10_layLosses_204 (wk_10_0 hW hk0) (wl_10_0 hW hk0) g8 ?_
      obtain ⟨g9, h⟩ := h
      refine x_iast (pc := 205) dX10_layLosses_205 (wk_10_10 hW hk0) (wl_10_10 hW hk0) g9 (fun M10 hM10 => ?_)
      replace h := h M10 hM10
      refine x_iinc (pc := 206) (lv' := [some (.inr a0), some (.inl x1), some (.inl x2), some (.inl x3), some (.inl (x4 + 1)), some (.inl x5)]) dX10_layLosses_206 rfl (by decide) rfl ?_
      refine x_goto (pc := 209) 10 dX10_layLosses_209 (by decide) ?_
      refine x_weak (lv := [some (.inr a0), some (.inl x1), some (.inl x2), some (.inl x3), some (.inl (x4 + 1)), none]) (by simp [lvle]) ?_
      exact h
  · replace h := h.2 hc
    refine x_iload_n (pc := 118) dX10_layLosses_118 rfl rfl ?_
    refine x_aload_n (pc := 119) dX10_layLosses_119 rfl rfl ?_
    refine x_iload_n (pc := 120) dX10_layLosses_120 rfl rfl ?_
    refine x_aload_n (pc := 121) dX10_layLosses_121 rfl rfl ?_
    refine x_getr (pc := 122) dX10_layLosses_122 f_RX10_7 hk0 ?_
    refine x_bipush (pc := 125) dX10_layLosses_125 (by decide +kernel) ?_
    refine x_iconst (pc := 127) dX10_layLosses_127 ?_
    refine x_iload (pc := 128) dX10_layLosses_128 rfl ?_
    refine x_imul (pc := 130) dX10_layLosses_130 ?_
    refine x_iadd (pc := 131) dX10_layLosses_131 ?_
    obtain ⟨g11, h⟩ := h
    refine x_iald (pc := 132) dX10_layLosses_132 (wk_10_0 hW hk0) (wl_10_0 hW hk0) g11 ?_
    obtain ⟨R12, hc12, h⟩ := h
    refine x_callV (pc := 133) (z := m_X10_far) (b := a0) (as := [.inl x1, .inl (M (rf E a0 0) ((44 + (2 * x5)).toNat))]) (rest := [.inl x3]) dX10_layLosses_133 c_RX10_106 (by decide) hk0 rfl (Nat.le_of_ble_eq_true rfl) hc12 (fun r M12 hr => ?_)
    obtain ⟨v12, rfl, hr⟩ := hr
    replace h := h v12 M12 hr
    show fx_At E m_X10_layLosses 136 [some (.inr a0), some (.inl x1), some (.inl x2), some (.inl x3), some (.inl x4), some (.inl x5)] [.inl v12, .inl x3] M12 Q
    refine x_iload (pc := 136) dX10_layLosses_136 rfl ?_
    obtain ⟨g13, h⟩ := h
    obtain ⟨g14, h⟩ := h
    refine x_cne (pc := 138) 158 dX10_layLosses_138 (by decide) ⟨g13, g14⟩ (fun hc => ?_) (fun hc => ?_)
    · replace h := h.1 hc
      refine x_iconst (pc := 158) dX10_layLosses_158 ?_
      refine x_iadd (pc := 159) dX10_layLosses_159 ?_
      refine x_istore_n (pc := 160) (lv' := [some (.inr a0), some (.inl x1), some (.inl x2), some (.inl (x3 + 0)), some (.inl x4), some (.inl x5)]) dX10_layLosses_160 rfl (by decide) rfl ?_
      refine x_iinc (pc := 161) (lv' := [some (.inr a0), some (.inl x1), some (.inl x2), some (.inl (x3 + 0)), some (.inl x4), some (.inl (x5 + 1))]) dX10_layLosses_161 rfl (by decide) rfl ?_
      refine x_goto (pc := 164) 106 dX10_layLosses_164 (by decide) ?_
      exact h
    · replace h := h.2 hc
      refine x_aload_n (pc := 141) dX10_layLosses_141 rfl rfl ?_
      refine x_getr (pc := 142) dX10_layLosses_142 f_RX10_7 hk0 ?_
      refine x_bipush (pc := 145) dX10_layLosses_145 (by decide +kernel) ?_
      refine x_iconst (pc := 147) dX10_layLosses_147 ?_
      refine x_iload (pc := 148) dX10_layLosses_148 rfl ?_
      refine x_imul (pc := 150) dX10_layLosses_150 ?_
      refine x_iadd (pc := 151) dX10_layLosses_151 ?_
      refine x_iconst (pc := 152) dX10_layLosses_152 ?_
      refine x_iadd (pc := 153) dX10_layLosses_153 ?_
      obtain ⟨g15, h⟩ := h
      refine x_iald (pc := 154) dX10_layLosses_154 (wk_10_0 hW hk0) (wl_10_0 hW hk0) g15 ?_
      refine x_goto (pc := 155) 159 dX10_layLosses_155 (by decide) ?_
      refine x_iadd (pc := 159) dX10_layLosses_159 ?_
      refine x_istore_n (pc := 160) (lv' := [some (.inr a0), some (.inl x1), some (.inl x2), some (.inl (x3 + (M12 (rf E a0 0) (((44 + (2 * x5)) + 1).toNat)))), some (.inl x4), some (.inl x5)]) dX10_layLosses_160 rfl (by decide) rfl ?_
      refine x_iinc (pc := 161) (lv' := [some (.inr a0), some (.inl x1), some (.inl x2), some (.inl (x3 + (M12 (rf E a0 0) (((44 + (2 * x5)) + 1).toNat)))), some (.inl x4), some (.inl (x5 + 1))]) dX10_layLosses_161 rfl (by decide) rfl ?_
      refine x_goto (pc := 164) 106 dX10_layLosses_164 (by decide) ?_
      exact h
theorem dX10_lossTo_0 : decode cX10_lossTo 0 = .ok (.iload_n 1, 1) := by decide +kernel
theorem dX10_lossTo_1 : decode cX10_lossTo 1 = .ok (.invokestatic 109, 3) := by decide +kernel
theorem dX10_lossTo_4 : decode cX10_lossTo 4 = .ok (.ifCond .eq 15, 3) := by decide +kernel
theorem dX10_lossTo_7 : decode cX10_lossTo 7 = .ok (.iload_n 2, 1) := by decide +kernel
theorem dX10_lossTo_8 : decode cX10_lossTo 8 = .ok (.iconst 0, 1) := by decide +kernel
theorem dX10_lossTo_9 : decode cX10_lossTo 9 = .ok (.aload_n 0, 1) := by decide +kernel
theorem dX10_lossTo_10 : decode cX10_lossTo 10 = .ok (.invokevirtual 85, 3) := by decide +kernel
theorem dX10_lossTo_13 : decode cX10_lossTo 13 = .ok (.invokestatic 74, 3) := by decide +kernel
theorem dX10_lossTo_16 : decode cX10_lossTo 16 = .ok (.ifCond .ne 6, 3) := by decide +kernel
theorem dX10_lossTo_19 : decode cX10_lossTo 19 = .ok (.ldc 81, 2) := by decide +kernel
theorem dX10_lossTo_21 : decode cX10_lossTo 21 = .ok (.ireturn, 1) := by decide +kernel
theorem dX10_lossTo_22 : decode cX10_lossTo 22 = .ok (.aload_n 0, 1) := by decide +kernel
theorem dX10_lossTo_23 : decode cX10_lossTo 23 = .ok (.iload_n 1, 1) := by decide +kernel
theorem dX10_lossTo_24 : decode cX10_lossTo 24 = .ok (.invokevirtual 112, 3) := by decide +kernel
theorem dX10_lossTo_27 : decode cX10_lossTo 27 = .ok (.aload_n 0, 1) := by decide +kernel
theorem dX10_lossTo_28 : decode cX10_lossTo 28 = .ok (.getfield 30, 3) := by decide +kernel
theorem dX10_lossTo_31 : decode cX10_lossTo 31 = .ok (.iload_n 2, 1) := by decide +kernel
theorem dX10_lossTo_32 : decode cX10_lossTo 32 = .ok (.iaload, 1) := by decide +kernel
theorem dX10_lossTo_33 : decode cX10_lossTo 33 = .ok (.ireturn, 1) := by decide +kernel
set_option maxRecDepth 100000 in
theorem b_X10_lossTo_0 {E : fxE} (hW : fx_Wt E) (a0 : Nat) (x1 : Int) (x2 : Int) (M : fxM) (Q : Option fxV → fxM → Prop) (hk0 : kd E a0 = 10) (h : (-2147483648 ≤ x1 ∧ x1 < 2147483648) ∧ (((0 : Int) ≤ x1 ∧ x1 ≤ (1 : Int) → (0 ≤ M (rf E a0 0) 0 ∧ M (rf E a0 0) 0 ≤ 8) ∧ (-2147483648 ≤ x2 ∧ x2 < 2147483648) ∧ (-2147483648 ≤ (wsum (M (rf E a0 0)) (M (rf E a0 0) 0).toNat) ∧ (wsum (M (rf E a0 0)) (M (rf E a0 0) 0).toNat) < 2147483648) ∧ (((0 : Int) ≤ x2 ∧ x2 ≤ (wsum (M (rf E a0 0)) (M (rf E a0 0) 0).toNat) → ∃ R7 : fxM → Prop, CtV E m_X10_layLosses [.inr a0, .inl x1] M R7 ∧ ∀ M7 : fxM, R7 M7 → (0 ≤ x2 ∧ x2 < 301) ∧ Q (some (.inl (M7 (rf E a0 9) (x2.toNat)))) M7) ∧ (¬ ((0 : Int) ≤ x2 ∧ x2 ≤ (wsum (M (rf E a0 0)) (M (rf E a0 0) 0).toNat)) → Q (some (.inl (-1000002))) M))) ∧ (¬ ((0 : Int) ≤ x1 ∧ x1 ≤ (1 : Int)) → Q (some (.inl (-1000002))) M))) : fx_At E m_X10_lossTo 0 [some (.inr a0), some (.inl x1), some (.inl x2)] [] M Q := by
  refine x_iload_n (pc := 0) dX10_lossTo_0 rfl rfl ?_
  obtain ⟨g1, h⟩ := h
  refine x_callS (pc := 1) (z := m_X10_isSide) (as := [.inl x1]) (rest := []) dX10_lossTo_1 c_RX10_109 (by decide) rfl (Nat.le_of_ble_eq_true rfl) (ct_X10_isSide hW g1) (fun r M9 hr => ?_)
  obtain ⟨hM9, hr⟩ := hr
  rw [hM9]
  clear hM9
  obtain ⟨hc, rfl⟩ | ⟨hc, rfl⟩ := hr
  · replace h := h.1 hc
    show fx_At E m_X10_lossTo 4 [some (.inr a0), some (.inl x1), some (.inl x2)] [.inl 1] _ Q
    refine x_zeq (pc := 4) 19 dX10_lossTo_4 (by decide) ⟨by decide, by decide⟩ (fun hx => absurd hx (by decide)) (fun _ => ?_)
    refine x_iload_n (pc := 7) dX10_lossTo_7 rfl rfl ?_
    refine x_iconst (pc := 8) dX10_lossTo_8 ?_
    refine x_aload_n (pc := 9) dX10_lossTo_9 rfl rfl ?_
    obtain ⟨g3, h⟩ := h
    refine x_callV (pc := 10) (z := m_X10_whole) (b := a0) (as := []) (rest := [.inl 0, .inl x2]) dX10_lossTo_10 c_RX10_85 (by decide) hk0 rfl (Nat.le_of_ble_eq_true rfl) (ct_X10_whole hW hk0 g3) (fun r M9 hr => ?_)
    obtain ⟨hM9, hr⟩ := hr
    rw [hM9, hr]
    clear hM9 hr
    show fx_At E m_X10_lossTo 13 [some (.inr a0), some (.inl x1), some (.inl x2)] [.inl (wsum (M (rf E a0 0)) (M (rf E a0 0) 0).toNat), .inl 0, .inl x2] _ Q
    obtain ⟨g4, h⟩ := h
    obtain ⟨g5, h⟩ := h
    refine x_callS (pc := 13) (z := m_X10_isIn) (as := [.inl x2, .inl 0, .inl (wsum (M (rf E a0 0)) (M (rf E a0 0) 0).toNat)]) (rest := []) dX10_lossTo_13 c_RX10_74 (by decide) rfl (Nat.le_of_ble_eq_true rfl) (ct_isIn hW g4 ⟨by decide, by decide⟩ g5) (fun r M9 hr => ?_)
    obtain ⟨hM9, hr⟩ := hr
    rw [hM9]
    clear hM9
    obtain ⟨hc, rfl⟩ | ⟨hc, rfl⟩ := hr
    · replace h := h.1 hc
      show fx_At E m_X10_lossTo 16 [some (.inr a0), some (.inl x1), some (.inl x2)] [.inl 1] _ Q
      refine x_zne (pc := 16) 22 dX10_lossTo_16 (by decide) ⟨by decide, by decide⟩ (fun _ => ?_) (fun hx => absurd hx (by decide))
      refine x_aload_n (pc := 22) dX10_lossTo_22 rfl rfl ?_
      refine x_iload_n (pc := 23) dX10_lossTo_23 rfl rfl ?_
      obtain ⟨R7, hc7, h⟩ := h
      refine x_callV (pc := 24) (z := m_X10_layLosses) (b := a0) (as := [.inl x1]) (rest := []) dX10_lossTo_24 c_RX10_112 (by decide) hk0 rfl (Nat.le_of_ble_eq_true rfl) hc7 (fun r M7 hr => ?_)
      obtain ⟨rfl, hr⟩ := hr
      replace h := h M7 hr
      show fx_At E m_X10_lossTo 27 [some (.inr a0), some (.inl x1), some (.inl x2)] [] M7 Q
      refine x_aload_n (pc := 27) dX10_lossTo_27 rfl rfl ?_
      refine x_getr (pc := 28) dX10_lossTo_28 f_RX10_30 hk0 ?_
      refine x_iload_n (pc := 31) dX10_lossTo_31 rfl rfl ?_
      obtain ⟨g8, h⟩ := h
      refine x_iald (pc := 32) dX10_lossTo_32 (wk_10_9 hW hk0) (wl_10_9 hW hk0) g8 ?_
      exact x_iret (pc := 33) dX10_lossTo_33 (Or.inl rfl) h
    · replace h := h.2 hc
      show fx_At E m_X10_lossTo 16 [some (.inr a0), some (.inl x1), some (.inl x2)] [.inl 0] _ Q
      refine x_zne (pc := 16) 22 dX10_lossTo_16 (by decide) ⟨by decide, by decide⟩ (fun hx => absurd hx (by decide)) (fun _ => ?_)
      refine x_ldc (pc := 19) (n := -1000002) dX10_lossTo_19 k_RX10_81 rfl ?_
      exact x_iret (pc := 21) dX10_lossTo_21 (Or.inl rfl) h
  · replace h := h.2 hc
    show fx_At E m_X10_lossTo 4 [some (.inr a0), some (.inl x1), some (.inl x2)] [.inl 0] _ Q
    refine x_zeq (pc := 4) 19 dX10_lossTo_4 (by decide) ⟨by decide, by decide⟩ (fun _ => ?_) (fun hx => absurd hx (by decide))
    refine x_ldc (pc := 19) (n := -1000002) dX10_lossTo_19 k_RX10_81 rfl ?_
    exact x_iret (pc := 21) dX10_lossTo_21 (Or.inl rfl) h
theorem dX10_before_0 : decode cX10_before 0 = .ok (.aload_n 0, 1) := by decide +kernel
theorem dX10_before_1 : decode cX10_before 1 = .ok (.iload_n 1, 1) := by decide +kernel
theorem dX10_before_2 : decode cX10_before 2 = .ok (.iload_n 2, 1) := by decide +kernel
theorem dX10_before_3 : decode cX10_before 3 = .ok (.ifCond .ne 7, 3) := by decide +kernel
theorem dX10_before_6 : decode cX10_before 6 = .ok (.iconst 0, 1) := by decide +kernel
theorem dX10_before_7 : decode cX10_before 7 = .ok (.goto 6, 3) := by decide +kernel
theorem dX10_before_10 : decode cX10_before 10 = .ok (.iload_n 2, 1) := by decide +kernel
theorem dX10_before_11 : decode cX10_before 11 = .ok (.iconst 1, 1) := by decide +kernel
theorem dX10_before_12 : decode cX10_before 12 = .ok (.isub, 1) := by decide +kernel
theorem dX10_before_13 : decode cX10_before 13 = .ok (.invokevirtual 116, 3) := by decide +kernel
theorem dX10_before_16 : decode cX10_before 16 = .ok (.ireturn, 1) := by decide +kernel
set_option maxRecDepth 100000 in
theorem b_X10_before_0 {E : fxE} (hW : fx_Wt E) (a0 : Nat) (x1 : Int) (x2 : Int) (M : fxM) (Q : Option fxV → fxM → Prop) (hk0 : kd E a0 = 10) (h : (-2147483648 ≤ x2 ∧ x2 < 2147483648) ∧ ((¬ x2 = (0 : Int) → (0 ≤ (x2 - 1) ∧ (x2 - 1) < 300) ∧ Q (some (.inl (rsc E M a0 x1 (x2 - 1)))) M) ∧ (x2 = (0 : Int) → (0 ≤ (0 : Int) ∧ (0 : Int) < 300) ∧ Q (some (.inl (rsc E M a0 x1 0))) M))) : fx_At E m_X10_before 0 [some (.inr a0), some (.inl x1), some (.inl x2)] [] M Q := by
  refine x_aload_n (pc := 0) dX10_before_0 rfl rfl ?_
  refine x_iload_n (pc := 1) dX10_before_1 rfl rfl ?_
  refine x_iload_n (pc := 2) dX10_before_2 rfl rfl ?_
  obtain ⟨g1, h⟩ := h
  refine x_zne (pc := 3) 10 dX10_before_3 (by decide) g1 (fun hc => ?_) (fun hc => ?_)
  · replace h := h.1 hc
    refine x_iload_n (pc := 10) dX10_before_10 rfl rfl ?_
    refine x_iconst (pc := 11) dX10_before_11 ?_
    refine x_isub (pc := 12) dX10_before_12 ?_
    obtain ⟨g2, h⟩ := h
    refine x_callV (pc := 13) (z := m_X10_scattered) (b := a0) (as := [.inl x1, .inl (x2 - 1)]) (rest := []) dX10_before_13 c_RX10_116 (by decide) hk0 rfl (Nat.le_of_ble_eq_true rfl) (ct_X10_scattered hW hk0 g2) (fun r M9 hr => ?_)
    obtain ⟨hM9, hr⟩ := hr
    rw [hM9, hr]
    clear hM9 hr
    show fx_At E m_X10_before 16 [some (.inr a0), some (.inl x1), some (.inl x2)] [.inl (rsc E M a0 x1 (x2 - 1))] _ Q
    exact x_iret (pc := 16) dX10_before_16 (Or.inl rfl) h
  · replace h := h.2 hc
    refine x_iconst (pc := 6) dX10_before_6 ?_
    refine x_goto (pc := 7) 13 dX10_before_7 (by decide) ?_
    obtain ⟨g3, h⟩ := h
    refine x_callV (pc := 13) (z := m_X10_scattered) (b := a0) (as := [.inl x1, .inl 0]) (rest := []) dX10_before_13 c_RX10_116 (by decide) hk0 rfl (Nat.le_of_ble_eq_true rfl) (ct_X10_scattered hW hk0 g3) (fun r M9 hr => ?_)
    obtain ⟨hM9, hr⟩ := hr
    rw [hM9, hr]
    clear hM9 hr
    show fx_At E m_X10_before 16 [some (.inr a0), some (.inl x1), some (.inl x2)] [.inl (rsc E M a0 x1 0)] _ Q
    exact x_iret (pc := 16) dX10_before_16 (Or.inl rfl) h
theorem dX10_reflect_0 : decode cX10_reflect 0 = .ok (.aload_n 0, 1) := by decide +kernel
theorem dX10_reflect_1 : decode cX10_reflect 1 = .ok (.getfield 36, 3) := by decide +kernel
theorem dX10_reflect_4 : decode cX10_reflect 4 = .ok (.iconst 2, 1) := by decide +kernel
theorem dX10_reflect_5 : decode cX10_reflect 5 = .ok (.aload_n 0, 1) := by decide +kernel
theorem dX10_reflect_6 : decode cX10_reflect 6 = .ok (.getfield 119, 3) := by decide +kernel
theorem dX10_reflect_9 : decode cX10_reflect 9 = .ok (.imul, 1) := by decide +kernel
theorem dX10_reflect_10 : decode cX10_reflect 10 = .ok (.iload_n 1, 1) := by decide +kernel
theorem dX10_reflect_11 : decode cX10_reflect 11 = .ok (.iastore, 1) := by decide +kernel
theorem dX10_reflect_12 : decode cX10_reflect 12 = .ok (.aload_n 0, 1) := by decide +kernel
theorem dX10_reflect_13 : decode cX10_reflect 13 = .ok (.getfield 36, 3) := by decide +kernel
theorem dX10_reflect_16 : decode cX10_reflect 16 = .ok (.iconst 2, 1) := by decide +kernel
theorem dX10_reflect_17 : decode cX10_reflect 17 = .ok (.aload_n 0, 1) := by decide +kernel
theorem dX10_reflect_18 : decode cX10_reflect 18 = .ok (.getfield 119, 3) := by decide +kernel
theorem dX10_reflect_21 : decode cX10_reflect 21 = .ok (.imul, 1) := by decide +kernel
theorem dX10_reflect_22 : decode cX10_reflect 22 = .ok (.iconst 1, 1) := by decide +kernel
theorem dX10_reflect_23 : decode cX10_reflect 23 = .ok (.iadd, 1) := by decide +kernel
theorem dX10_reflect_24 : decode cX10_reflect 24 = .ok (.iload_n 2, 1) := by decide +kernel
theorem dX10_reflect_25 : decode cX10_reflect 25 = .ok (.iastore, 1) := by decide +kernel
theorem dX10_reflect_26 : decode cX10_reflect 26 = .ok (.aload_n 0, 1) := by decide +kernel
theorem dX10_reflect_27 : decode cX10_reflect 27 = .ok (.dup, 1) := by decide +kernel
theorem dX10_reflect_28 : decode cX10_reflect 28 = .ok (.getfield 119, 3) := by decide +kernel
theorem dX10_reflect_31 : decode cX10_reflect 31 = .ok (.iconst 1, 1) := by decide +kernel
theorem dX10_reflect_32 : decode cX10_reflect 32 = .ok (.iadd, 1) := by decide +kernel
theorem dX10_reflect_33 : decode cX10_reflect 33 = .ok (.putfield 119, 3) := by decide +kernel
theorem dX10_reflect_36 : decode cX10_reflect 36 = .ok (.return_, 1) := by decide +kernel
set_option maxRecDepth 100000 in
theorem b_X10_reflect_0 {E : fxE} (hW : fx_Wt E) (a0 : Nat) (x1 : Int) (x2 : Int) (M : fxM) (Q : Option fxV → fxM → Prop) (hk0 : kd E a0 = 10) (h : (0 ≤ (2 * (M a0 12)) ∧ (2 * (M a0 12)) < 20) ∧ ∀ M2 : fxM, M2 = mset M (rf E a0 11) ((2 * (M a0 12)).toNat) x1 → (0 ≤ ((2 * (M2 a0 12)) + 1) ∧ ((2 * (M2 a0 12)) + 1) < 20) ∧ ∀ M4 : fxM, M4 = mset M2 (rf E a0 11) (((2 * (M2 a0 12)) + 1).toNat) x2 → ∀ M5 : fxM, M5 = mset M4 a0 12 ((M4 a0 12) + 1) → Q none M5) : fx_At E m_X10_reflect 0 [some (.inr a0), some (.inl x1), some (.inl x2)] [] M Q := by
  refine x_aload_n (pc := 0) dX10_reflect_0 rfl rfl ?_
  refine x_getr (pc := 1) dX10_reflect_1 f_RX10_36 hk0 ?_
  refine x_iconst (pc := 4) dX10_reflect_4 ?_
  refine x_aload_n (pc := 5) dX10_reflect_5 rfl rfl ?_
  refine x_geti (pc := 6) dX10_reflect_6 f_RX10_119 hk0 ?_
  refine x_imul (pc := 9) dX10_reflect_9 ?_
  refine x_iload_n (pc := 10) dX10_reflect_10 rfl rfl ?_
  obtain ⟨g1, h⟩ := h
  refine x_iast (pc := 11) dX10_reflect_11 (wk_10_11 hW hk0) (wl_10_11 hW hk0) g1 (fun M2 hM2 => ?_)
  replace h := h M2 hM2
  refine x_aload_n (pc := 12) dX10_reflect_12 rfl rfl ?_
  refine x_getr (pc := 13) dX10_reflect_13 f_RX10_36 hk0 ?_
  refine x_iconst (pc := 16) dX10_reflect_16 ?_
  refine x_aload_n (pc := 17) dX10_reflect_17 rfl rfl ?_
  refine x_geti (pc := 18) dX10_reflect_18 f_RX10_119 hk0 ?_
  refine x_imul (pc := 21) dX10_reflect_21 ?_
  refine x_iconst (pc := 22) dX10_reflect_22 ?_
  refine x_iadd (pc := 23) dX10_reflect_23 ?_
  refine x_iload_n (pc := 24) dX10_reflect_24 rfl rfl ?_
  obtain ⟨g3, h⟩ := h
  refine x_iast (pc := 25) dX10_reflect_25 (wk_10_11 hW hk0) (wl_10_11 hW hk0) g3 (fun M4 hM4 => ?_)
  replace h := h M4 hM4
  refine x_aload_n (pc := 26) dX10_reflect_26 rfl rfl ?_
  refine x_dup (pc := 27) dX10_reflect_27 ?_
  refine x_geti (pc := 28) dX10_reflect_28 f_RX10_119 hk0 ?_
  refine x_iconst (pc := 31) dX10_reflect_31 ?_
  refine x_iadd (pc := 32) dX10_reflect_32 ?_
  refine x_puti (pc := 33) dX10_reflect_33 f_RX10_119 hk0 (fun M5 hM5 => ?_)
  replace h := h M5 hM5
  exact x_vret (pc := 36) dX10_reflect_36 rfl h
theorem dX10_layReflectors_0 : decode cX10_layReflectors 0 = .ok (.aload_n 0, 1) := by decide +kernel
theorem dX10_layReflectors_1 : decode cX10_layReflectors 1 = .ok (.iconst 0, 1) := by decide +kernel
theorem dX10_layReflectors_2 : decode cX10_layReflectors 2 = .ok (.putfield 119, 3) := by decide +kernel
theorem dX10_layReflectors_5 : decode cX10_layReflectors 5 = .ok (.iconst 0, 1) := by decide +kernel
theorem dX10_layReflectors_6 : decode cX10_layReflectors 6 = .ok (.istore_n 3, 1) := by decide +kernel
theorem dX10_layReflectors_7 : decode cX10_layReflectors 7 = .ok (.iload_n 3, 1) := by decide +kernel
theorem dX10_layReflectors_8 : decode cX10_layReflectors 8 = .ok (.aload_n 0, 1) := by decide +kernel
theorem dX10_layReflectors_9 : decode cX10_layReflectors 9 = .ok (.getfield 7, 3) := by decide +kernel
theorem dX10_layReflectors_12 : decode cX10_layReflectors 12 = .ok (.iconst 0, 1) := by decide +kernel
theorem dX10_layReflectors_13 : decode cX10_layReflectors 13 = .ok (.iaload, 1) := by decide +kernel
theorem dX10_layReflectors_14 : decode cX10_layReflectors 14 = .ok (.if_icmp .gt 71, 3) := by decide +kernel
theorem dX10_layReflectors_17 : decode cX10_layReflectors 17 = .ok (.aload_n 0, 1) := by decide +kernel
theorem dX10_layReflectors_18 : decode cX10_layReflectors 18 = .ok (.iload_n 1, 1) := by decide +kernel
theorem dX10_layReflectors_19 : decode cX10_layReflectors 19 = .ok (.aload_n 0, 1) := by decide +kernel
theorem dX10_layReflectors_20 : decode cX10_layReflectors 20 = .ok (.iload_n 3, 1) := by decide +kernel
theorem dX10_layReflectors_21 : decode cX10_layReflectors 21 = .ok (.invokevirtual 67, 3) := by decide +kernel
theorem dX10_layReflectors_24 : decode cX10_layReflectors 24 = .ok (.invokevirtual 106, 3) := by decide +kernel
theorem dX10_layReflectors_27 : decode cX10_layReflectors 27 = .ok (.istore 4, 2) := by decide +kernel
theorem dX10_layReflectors_29 : decode cX10_layReflectors 29 = .ok (.aload_n 0, 1) := by decide +kernel
theorem dX10_layReflectors_30 : decode cX10_layReflectors 30 = .ok (.getfield 7, 3) := by decide +kernel
theorem dX10_layReflectors_33 : decode cX10_layReflectors 33 = .ok (.bipush 25, 2) := by decide +kernel
theorem dX10_layReflectors_35 : decode cX10_layReflectors 35 = .ok (.iconst 2, 1) := by decide +kernel
theorem dX10_layReflectors_36 : decode cX10_layReflectors 36 = .ok (.iload_n 3, 1) := by decide +kernel
theorem dX10_layReflectors_37 : decode cX10_layReflectors 37 = .ok (.imul, 1) := by decide +kernel
theorem dX10_layReflectors_38 : decode cX10_layReflectors 38 = .ok (.iadd, 1) := by decide +kernel
theorem dX10_layReflectors_39 : decode cX10_layReflectors 39 = .ok (.iconst 1, 1) := by decide +kernel
theorem dX10_layReflectors_40 : decode cX10_layReflectors 40 = .ok (.iadd, 1) := by decide +kernel
theorem dX10_layReflectors_41 : decode cX10_layReflectors 41 = .ok (.iaload, 1) := by decide +kernel
theorem dX10_layReflectors_42 : decode cX10_layReflectors 42 = .ok (.istore 5, 2) := by decide +kernel
theorem dX10_layReflectors_44 : decode cX10_layReflectors 44 = .ok (.iload 5, 2) := by decide +kernel
theorem dX10_layReflectors_46 : decode cX10_layReflectors 46 = .ok (.ifCond .le 33, 3) := by decide +kernel
theorem dX10_layReflectors_49 : decode cX10_layReflectors 49 = .ok (.iload 4, 2) := by decide +kernel
theorem dX10_layReflectors_51 : decode cX10_layReflectors 51 = .ok (.iload_n 2, 1) := by decide +kernel
theorem dX10_layReflectors_52 : decode cX10_layReflectors 52 = .ok (.if_icmp .lt 19, 3) := by decide +kernel
theorem dX10_layReflectors_55 : decode cX10_layReflectors 55 = .ok (.aload_n 0, 1) := by decide +kernel
theorem dX10_layReflectors_56 : decode cX10_layReflectors 56 = .ok (.getfield 7, 3) := by decide +kernel
theorem dX10_layReflectors_59 : decode cX10_layReflectors 59 = .ok (.bipush 56, 2) := by decide +kernel
theorem dX10_layReflectors_61 : decode cX10_layReflectors 61 = .ok (.iaload, 1) := by decide +kernel
theorem dX10_layReflectors_62 : decode cX10_layReflectors 62 = .ok (.ifCond .ne 17, 3) := by decide +kernel
theorem dX10_layReflectors_65 : decode cX10_layReflectors 65 = .ok (.iload 4, 2) := by decide +kernel
theorem dX10_layReflectors_67 : decode cX10_layReflectors 67 = .ok (.iload_n 2, 1) := by decide +kernel
theorem dX10_layReflectors_68 : decode cX10_layReflectors 68 = .ok (.if_icmp .ne 11, 3) := by decide +kernel
theorem dX10_layReflectors_71 : decode cX10_layReflectors 71 = .ok (.aload_n 0, 1) := by decide +kernel
theorem dX10_layReflectors_72 : decode cX10_layReflectors 72 = .ok (.iload 4, 2) := by decide +kernel
theorem dX10_layReflectors_74 : decode cX10_layReflectors 74 = .ok (.iload 5, 2) := by decide +kernel
theorem dX10_layReflectors_76 : decode cX10_layReflectors 76 = .ok (.invokevirtual 122, 3) := by decide +kernel
theorem dX10_layReflectors_79 : decode cX10_layReflectors 79 = .ok (.iinc 3 1, 3) := by decide +kernel
theorem dX10_layReflectors_82 : decode cX10_layReflectors 82 = .ok (.goto (-75), 3) := by decide +kernel
theorem dX10_layReflectors_85 : decode cX10_layReflectors 85 = .ok (.aload_n 0, 1) := by decide +kernel
theorem dX10_layReflectors_86 : decode cX10_layReflectors 86 = .ok (.getfield 7, 3) := by decide +kernel
theorem dX10_layReflectors_89 : decode cX10_layReflectors 89 = .ok (.bipush 56, 2) := by decide +kernel
theorem dX10_layReflectors_91 : decode cX10_layReflectors 91 = .ok (.iaload, 1) := by decide +kernel
theorem dX10_layReflectors_92 : decode cX10_layReflectors 92 = .ok (.ifCond .le 25, 3) := by decide +kernel
theorem dX10_layReflectors_95 : decode cX10_layReflectors 95 = .ok (.aload_n 0, 1) := by decide +kernel
theorem dX10_layReflectors_96 : decode cX10_layReflectors 96 = .ok (.getfield 7, 3) := by decide +kernel
theorem dX10_layReflectors_99 : decode cX10_layReflectors 99 = .ok (.bipush 57, 2) := by decide +kernel
theorem dX10_layReflectors_101 : decode cX10_layReflectors 101 = .ok (.iaload, 1) := by decide +kernel
theorem dX10_layReflectors_102 : decode cX10_layReflectors 102 = .ok (.ifCond .le 15, 3) := by decide +kernel
theorem dX10_layReflectors_105 : decode cX10_layReflectors 105 = .ok (.aload_n 0, 1) := by decide +kernel
theorem dX10_layReflectors_106 : decode cX10_layReflectors 106 = .ok (.iload_n 2, 1) := by decide +kernel
theorem dX10_layReflectors_107 : decode cX10_layReflectors 107 = .ok (.aload_n 0, 1) := by decide +kernel
theorem dX10_layReflectors_108 : decode cX10_layReflectors 108 = .ok (.getfield 7, 3) := by decide +kernel
theorem dX10_layReflectors_111 : decode cX10_layReflectors 111 = .ok (.bipush 57, 2) := by decide +kernel
theorem dX10_layReflectors_113 : decode cX10_layReflectors 113 = .ok (.iaload, 1) := by decide +kernel
theorem dX10_layReflectors_114 : decode cX10_layReflectors 114 = .ok (.invokevirtual 122, 3) := by decide +kernel
theorem dX10_layReflectors_117 : decode cX10_layReflectors 117 = .ok (.return_, 1) := by decide +kernel
set_option maxRecDepth 100000 in
theorem b_X10_layReflectors_0 {E : fxE} (hW : fx_Wt E) (a0 : Nat) (x1 : Int) (x2 : Int) (M : fxM) (Q : Option fxV → fxM → Prop) (hk0 : kd E a0 = 10) (h : ∀ M1 : fxM, M1 = mset M a0 12 0 → fx_At E m_X10_layReflectors 7 [some (.inr a0), some (.inl x1), some (.inl x2), some (.inl 0), none, none] [] M1 Q) : fx_At E m_X10_layReflectors 0 [some (.inr a0), some (.inl x1), some (.inl x2), none, none, none] [] M Q := by
  refine x_aload_n (pc := 0) dX10_layReflectors_0 rfl rfl ?_
  refine x_iconst (pc := 1) dX10_layReflectors_1 ?_
  refine x_puti (pc := 2) dX10_layReflectors_2 f_RX10_119 hk0 (fun M1 hM1 => ?_)
  replace h := h M1 hM1
  refine x_iconst (pc := 5) dX10_layReflectors_5 ?_
  refine x_istore_n (pc := 6) (lv' := [some (.inr a0), some (.inl x1), some (.inl x2), some (.inl 0), none, none]) dX10_layReflectors_6 rfl (by decide) rfl ?_
  exact h
set_option maxRecDepth 100000 in
theorem b_X10_layReflectors_7 {E : fxE} (hW : fx_Wt E) (a0 : Nat) (x1 : Int) (x2 : Int) (x3 : Int) (M : fxM) (Q : Option fxV → fxM → Prop) (hk0 : kd E a0 = 10) (h : (-2147483648 ≤ x3 ∧ x3 < 2147483648) ∧ (-2147483648 ≤ (M (rf E a0 0) 0) ∧ (M (rf E a0 0) 0) < 2147483648) ∧ (((M (rf E a0 0) 0) < x3 → (-2147483648 ≤ (M (rf E a0 0) 56) ∧ (M (rf E a0 0) 56) < 2147483648) ∧ (((M (rf E a0 0) 56) ≤ (0 : Int) → Q none M) ∧ (¬ (M (rf E a0 0) 56) ≤ (0 : Int) → (-2147483648 ≤ (M (rf E a0 0) 57) ∧ (M (rf E a0 0) 57) < 2147483648) ∧ (((M (rf E a0 0) 57) ≤ (0 : Int) → Q none M) ∧ (¬ (M (rf E a0 0) 57) ≤ (0 : Int) → ∃ R5 : fxM → Prop, CtV E m_X10_reflect [.inr a0, .inl x2, .inl (M (rf E a0 0) 57)] M R5 ∧ ∀ M5 : fxM, R5 M5 → Q none M5))))) ∧ (¬ (M (rf E a0 0) 0) < x3 → (0 ≤ x3 ∧ x3 ≤ 8) ∧ ∃ R7 : Int → fxM → Prop, CtI E m_X10_far [.inr a0, .inl x1, .inl (wsum (M (rf E a0 0)) x3.toNat)] M R7 ∧ ∀ (v7 : Int) (M7 : fxM), R7 v7 M7 → (0 ≤ ((25 + (2 * x3)) + 1) ∧ ((25 + (2 * x3)) + 1) < 84) ∧ (-2147483648 ≤ (M7 (rf E a0 0) (((25 + (2 * x3)) + 1).toNat)) ∧ (M7 (rf E a0 0) (((25 + (2 * x3)) + 1).toNat)) < 2147483648) ∧ (((M7 (rf E a0 0) (((25 + (2 * x3)) + 1).toNat)) ≤ (0 : Int) → fx_At E m_X10_layReflectors 7 [some (.inr a0), some (.inl x1), some (.inl x2), some (.inl (x3 + 1)), none, none] [] M7 Q) ∧ (¬ (M7 (rf E a0 0) (((25 + (2 * x3)) + 1).toNat)) ≤ (0 : Int) → (-2147483648 ≤ v7 ∧ v7 < 2147483648) ∧ (-2147483648 ≤ x2 ∧ x2 < 2147483648) ∧ ((v7 < x2 → ∃ R12 : fxM → Prop, CtV E m_X10_reflect [.inr a0, .inl v7, .inl (M7 (rf E a0 0) (((25 + (2 * x3)) + 1).toNat))] M7 R12 ∧ ∀ M12 : fxM, R12 M12 → fx_At E m_X10_layReflectors 7 [some (.inr a0), some (.inl x1), some (.inl x2), some (.inl (x3 + 1)), none, none] [] M12 Q) ∧ (¬ v7 < x2 → (-2147483648 ≤ (M7 (rf E a0 0) 56) ∧ (M7 (rf E a0 0) 56) < 2147483648) ∧ ((¬ (M7 (rf E a0 0) 56) = (0 : Int) → fx_At E m_X10_layReflectors 7 [some (.inr a0), some (.inl x1), some (.inl x2), some (.inl (x3 + 1)), none, none] [] M7 Q) ∧ ((M7 (rf E a0 0) 56) = (0 : Int) → ((¬ v7 = x2 → fx_At E m_X10_layReflectors 7 [some (.inr a0), some (.inl x1), some (.inl x2), some (.inl (x3 + 1)), none, none] [] M7 Q) ∧ (v7 = x2 → ∃ R14 : fxM → Prop, CtV E m_X10_reflect [.inr a0, .inl v7, .inl (M7 (rf E a0 0) (((25 + (2 * x3)) + 1).toNat))] M7 R14 ∧ ∀ M14 : fxM, R14 M14 → fx_At E m_X10_layReflectors 7 [some (.inr a0), some (.inl x1), some (.inl x2), some (.inl (x3 + 1)), none, none] [] M14 Q))))))))))) : fx_At E m_X10_layReflectors 7 [some (.inr a0), some (.inl x1), some (.inl x2), some (.inl x3), none, none] [] M Q := by
  refine x_iload_n (pc := 7) dX10_layReflectors_7 rfl rfl ?_
  refine x_aload_n (pc := 8) dX10_layReflectors_8 rfl rfl ?_
  refine x_getr (pc := 9) dX10_layReflectors_9 f_RX10_7 hk0 ?_
  refine x_iconst (pc := 12) dX10_layReflectors_12 ?_
  refine x_iald (pc := 13) dX10_layReflectors_13 (wk_10_0 hW hk0) (wl_10_0 hW hk0) ⟨by decide, by decide⟩ ?_
  obtain ⟨g1, h⟩ := h
  obtain ⟨g2, h⟩ := h
  refine x_cgt (pc := 14) 85 dX10_layReflectors_14 (by decide) ⟨g1, g2⟩ (fun hc => ?_) (fun hc => ?_)
  · replace h := h.1 hc
    refine x_aload_n (pc := 85) dX10_layReflectors_85 rfl rfl ?_
    refine x_getr (pc := 86) dX10_layReflectors_86 f_RX10_7 hk0 ?_
    refine x_bipush (pc := 89) dX10_layReflectors_89 (by decide +kernel) ?_
    refine x_iald (pc := 91) dX10_layReflectors_91 (wk_10_0 hW hk0) (wl_10_0 hW hk0) ⟨by decide, by decide⟩ ?_
    obtain ⟨g3, h⟩ := h
    refine x_zle (pc := 92) 117 dX10_layReflectors_92 (by decide) g3 (fun hc => ?_) (fun hc => ?_)
    · replace h := h.1 hc
      exact x_vret (pc := 117) dX10_layReflectors_117 rfl h
    · replace h := h.2 hc
      refine x_aload_n (pc := 95) dX10_layReflectors_95 rfl rfl ?_
      refine x_getr (pc := 96) dX10_layReflectors_96 f_RX10_7 hk0 ?_
      refine x_bipush (pc := 99) dX10_layReflectors_99 (by decide +kernel) ?_
      refine x_iald (pc := 101) dX10_layReflectors_101 (wk_10_0 hW hk0) (wl_10_0 hW hk0) ⟨by decide, by decide⟩ ?_
      obtain ⟨g4, h⟩ := h
      refine x_zle (pc := 102) 117 dX10_layReflectors_102 (by decide) g4 (fun hc => ?_) (fun hc => ?_)
      · replace h := h.1 hc
        exact x_vret (pc := 117) dX10_layReflectors_117 rfl h
      · replace h := h.2 hc
        refine x_aload_n (pc := 105) dX10_layReflectors_105 rfl rfl ?_
        refine x_iload_n (pc := 106) dX10_layReflectors_106 rfl rfl ?_
        refine x_aload_n (pc := 107) dX10_layReflectors_107 rfl rfl ?_
        refine x_getr (pc := 108) dX10_layReflectors_108 f_RX10_7 hk0 ?_
        refine x_bipush (pc := 111) dX10_layReflectors_111 (by decide +kernel) ?_
        refine x_iald (pc := 113) dX10_layReflectors_113 (wk_10_0 hW hk0) (wl_10_0 hW hk0) ⟨by decide, by decide⟩ ?_
        obtain ⟨R5, hc5, h⟩ := h
        refine x_callV (pc := 114) (z := m_X10_reflect) (b := a0) (as := [.inl x2, .inl (M (rf E a0 0) 57)]) (rest := []) dX10_layReflectors_114 c_RX10_122 (by decide) hk0 rfl (Nat.le_of_ble_eq_true rfl) hc5 (fun r M5 hr => ?_)
        obtain ⟨rfl, hr⟩ := hr
        replace h := h M5 hr
        show fx_At E m_X10_layReflectors 117 [some (.inr a0), some (.inl x1), some (.inl x2), some (.inl x3), none, none] [] M5 Q
        exact x_vret (pc := 117) dX10_layReflectors_117 rfl h
  · replace h := h.2 hc
    refine x_aload_n (pc := 17) dX10_layReflectors_17 rfl rfl ?_
    refine x_iload_n (pc := 18) dX10_layReflectors_18 rfl rfl ?_
    refine x_aload_n (pc := 19) dX10_layReflectors_19 rfl rfl ?_
    refine x_iload_n (pc := 20) dX10_layReflectors_20 rfl rfl ?_
    obtain ⟨g6, h⟩ := h
    refine x_callV (pc := 21) (z := m_X10_placeOf) (b := a0) (as := [.inl x3]) (rest := [.inl x1, .inr a0]) dX10_layReflectors_21 c_RX10_67 (by decide) hk0 rfl (Nat.le_of_ble_eq_true rfl) (ct_X10_placeOf hW hk0 g6) (fun r M9 hr => ?_)
    obtain ⟨hM9, hr⟩ := hr
    rw [hM9, hr]
    clear hM9 hr
    show fx_At E m_X10_layReflectors 24 [some (.inr a0), some (.inl x1), some (.inl x2), some (.inl x3), none, none] [.inl (wsum (M (rf E a0 0)) x3.toNat), .inl x1, .inr a0] _ Q
    obtain ⟨R7, hc7, h⟩ := h
    refine x_callV (pc := 24) (z := m_X10_far) (b := a0) (as := [.inl x1, .inl (wsum (M (rf E a0 0)) x3.toNat)]) (rest := []) dX10_layReflectors_24 c_RX10_106 (by decide) hk0 rfl (Nat.le_of_ble_eq_true rfl) hc7 (fun r M7 hr => ?_)
    obtain ⟨v7, rfl, hr⟩ := hr
    replace h := h v7 M7 hr
    show fx_At E m_X10_layReflectors 27 [some (.inr a0), some (.inl x1), some (.inl x2), some (.inl x3), none, none] [.inl v7] M7 Q
    refine x_istore (pc := 27) (lv' := [some (.inr a0), some (.inl x1), some (.inl x2), some (.inl x3), some (.inl v7), none]) dX10_layReflectors_27 (by decide) rfl ?_
    refine x_aload_n (pc := 29) dX10_layReflectors_29 rfl rfl ?_
    refine x_getr (pc := 30) dX10_layReflectors_30 f_RX10_7 hk0 ?_
    refine x_bipush (pc := 33) dX10_layReflectors_33 (by decide +kernel) ?_
    refine x_iconst (pc := 35) dX10_layReflectors_35 ?_
    refine x_iload_n (pc := 36) dX10_layReflectors_36 rfl rfl ?_
    refine x_imul (pc := 37) dX10_layReflectors_37 ?_
    refine x_iadd (pc := 38) dX10_layReflectors_38 ?_
    refine x_iconst (pc := 39) dX10_layReflectors_39 ?_
    refine x_iadd (pc := 40) dX10_layReflectors_40 ?_
    obtain ⟨g8, h⟩ := h
    refine x_iald (pc := 41) dX10_layReflectors_41 (wk_10_0 hW hk0) (wl_10_0 hW hk0) g8 ?_
    refine x_istore (pc := 42) (lv' := [some (.inr a0), some (.inl x1), some (.inl x2), some (.inl x3), some (.inl v7), some (.inl (M7 (rf E a0 0) (((25 + (2 * x3)) + 1).toNat)))]) dX10_layReflectors_42 (by decide) rfl ?_
    refine x_iload (pc := 44) dX10_layReflectors_44 rfl ?_
    obtain ⟨g9, h⟩ := h
    refine x_zle (pc := 46) 79 dX10_layReflectors_46 (by decide) g9 (fun hc => ?_) (fun hc => ?_)
    · replace h := h.1 hc
      refine x_iinc (pc := 79) (lv' := [some (.inr a0), some (.inl x1), some (.inl x2), some (.inl (x3 + 1)), some (.inl v7), some (.inl (M7 (rf E a0 0) (((25 + (2 * x3)) + 1).toNat)))]) dX10_layReflectors_79 rfl (by decide) rfl ?_
      refine x_goto (pc := 82) 7 dX10_layReflectors_82 (by decide) ?_
      refine x_weak (lv := [some (.inr a0), some (.inl x1), some (.inl x2), some (.inl (x3 + 1)), none, none]) (by simp [lvle]) ?_
      exact h
    · replace h := h.2 hc
      refine x_iload (pc := 49) dX10_layReflectors_49 rfl ?_
      refine x_iload_n (pc := 51) dX10_layReflectors_51 rfl rfl ?_
      obtain ⟨g10, h⟩ := h
      obtain ⟨g11, h⟩ := h
      refine x_clt (pc := 52) 71 dX10_layReflectors_52 (by decide) ⟨g10, g11⟩ (fun hc => ?_) (fun hc => ?_)
      · replace h := h.1 hc
        refine x_aload_n (pc := 71) dX10_layReflectors_71 rfl rfl ?_
        refine x_iload (pc := 72) dX10_layReflectors_72 rfl ?_
        refine x_iload (pc := 74) dX10_layReflectors_74 rfl ?_
        obtain ⟨R12, hc12, h⟩ := h
        refine x_callV (pc := 76) (z := m_X10_reflect) (b := a0) (as := [.inl v7, .inl (M7 (rf E a0 0) (((25 + (2 * x3)) + 1).toNat))]) (rest := []) dX10_layReflectors_76 c_RX10_122 (by decide) hk0 rfl (Nat.le_of_ble_eq_true rfl) hc12 (fun r M12 hr => ?_)
        obtain ⟨rfl, hr⟩ := hr
        replace h := h M12 hr
        show fx_At E m_X10_layReflectors 79 [some (.inr a0), some (.inl x1), some (.inl x2), some (.inl x3), some (.inl v7), some (.inl (M7 (rf E a0 0) (((25 + (2 * x3)) + 1).toNat)))] [] M12 Q
        refine x_iinc (pc := 79) (lv' := [some (.inr a0), some (.inl x1), some (.inl x2), some (.inl (x3 + 1)), some (.inl v7), some (.inl (M7 (rf E a0 0) (((25 + (2 * x3)) + 1).toNat)))]) dX10_layReflectors_79 rfl (by decide) rfl ?_
        refine x_goto (pc := 82) 7 dX10_layReflectors_82 (by decide) ?_
        refine x_weak (lv := [some (.inr a0), some (.inl x1), some (.inl x2), some (.inl (x3 + 1)), none, none]) (by simp [lvle]) ?_
        exact h
      · replace h := h.2 hc
        refine x_aload_n (pc := 55) dX10_layReflectors_55 rfl rfl ?_
        refine x_getr (pc := 56) dX10_layReflectors_56 f_RX10_7 hk0 ?_
        refine x_bipush (pc := 59) dX10_layReflectors_59 (by decide +kernel) ?_
        refine x_iald (pc := 61) dX10_layReflectors_61 (wk_10_0 hW hk0) (wl_10_0 hW hk0) ⟨by decide, by decide⟩ ?_
        obtain ⟨g13, h⟩ := h
        refine x_zne (pc := 62) 79 dX10_layReflectors_62 (by decide) g13 (fun hc => ?_) (fun hc => ?_)
        · replace h := h.1 hc
          refine x_iinc (pc := 79) (lv' := [some (.inr a0), some (.inl x1), some (.inl x2), some (.inl (x3 + 1)), some (.inl v7), some (.inl (M7 (rf E a0 0) (((25 + (2 * x3)) + 1).toNat)))]) dX10_layReflectors_79 rfl (by decide) rfl ?_
          refine x_goto (pc := 82) 7 dX10_layReflectors_82 (by decide) ?_
          refine x_weak (lv := [some (.inr a0), some (.inl x1), some (.inl x2), some (.inl (x3 + 1)), none, none]) (by simp [lvle]) ?_
          exact h
        · replace h := h.2 hc
          refine x_iload (pc := 65) dX10_layReflectors_65 rfl ?_
          refine x_iload_n (pc := 67) dX10_layReflectors_67 rfl rfl ?_
          refine x_cne (pc := 68) 79 dX10_layReflectors_68 (by decide) ⟨g10, g11⟩ (fun hc => ?_) (fun hc => ?_)
          · replace h := h.1 hc
            refine x_iinc (pc := 79) (lv' := [some (.inr a0), some (.inl x1), some (.inl x2), some (.inl (x3 + 1)), some (.inl v7), some (.inl (M7 (rf E a0 0) (((25 + (2 * x3)) + 1).toNat)))]) dX10_layReflectors_79 rfl (by decide) rfl ?_
            refine x_goto (pc := 82) 7 dX10_layReflectors_82 (by decide) ?_
            refine x_weak (lv := [some (.inr a0), some (.inl x1), some (.inl x2), some (.inl (x3 + 1)), none, none]) (by simp [lvle]) ?_
            exact h
          · replace h := h.2 hc
            refine x_aload_n (pc := 71) dX10_layReflectors_71 rfl rfl ?_
            refine x_iload (pc := 72) dX10_layReflectors_72 rfl ?_
            refine x_iload (pc := 74) dX10_layReflectors_74 rfl ?_
            obtain ⟨R14, hc14, h⟩ := h
            refine x_callV (pc := 76) (z := m_X10_reflect) (b := a0) (as := [.inl v7, .inl (M7 (rf E a0 0) (((25 + (2 * x3)) + 1).toNat))]) (rest := []) dX10_layReflectors_76 c_RX10_122 (by decide) hk0 rfl (Nat.le_of_ble_eq_true rfl) hc14 (fun r M14 hr => ?_)
            obtain ⟨rfl, hr⟩ := hr
            replace h := h M14 hr
            show fx_At E m_X10_layReflectors 79 [some (.inr a0), some (.inl x1), some (.inl x2), some (.inl x3), some (.inl v7), some (.inl (M7 (rf E a0 0) (((25 + (2 * x3)) + 1).toNat)))] [] M14 Q
            refine x_iinc (pc := 79) (lv' := [some (.inr a0), some (.inl x1), some (.inl x2), some (.inl (x3 + 1)), some (.inl v7), some (.inl (M7 (rf E a0 0) (((25 + (2 * x3)) + 1).toNat)))]) dX10_layReflectors_79 rfl (by decide) rfl ?_
            refine x_goto (pc := 82) 7 dX10_layReflectors_82 (by decide) ?_
            refine x_weak (lv := [some (.inr a0), some (.inl x1), some (.inl x2), some (.inl (x3 + 1)), none, none]) (by simp [lvle]) ?_
            exact h
theorem dX10_raise_0 : decode cX10_raise 0 = .ok (.iload_n 1, 1) := by decide +kernel
theorem dX10_raise_1 : decode cX10_raise 1 = .ok (.sipush 400, 3) := by decide +kernel
theorem dX10_raise_4 : decode cX10_raise 4 = .ok (.if_icmp .gt 20, 3) := by decide +kernel
theorem dX10_raise_7 : decode cX10_raise 7 = .ok (.iload_n 2, 1) := by decide +kernel
theorem dX10_raise_8 : decode cX10_raise 8 = .ok (.aload_n 0, 1) := by decide +kernel
theorem dX10_raise_9 : decode cX10_raise 9 = .ok (.getfield 39, 3) := by decide +kernel
theorem dX10_raise_12 : decode cX10_raise 12 = .ok (.iload_n 1, 1) := by decide +kernel
theorem dX10_raise_13 : decode cX10_raise 13 = .ok (.iaload, 1) := by decide +kernel
theorem dX10_raise_14 : decode cX10_raise 14 = .ok (.if_icmp .le 10, 3) := by decide +kernel
theorem dX10_raise_17 : decode cX10_raise 17 = .ok (.aload_n 0, 1) := by decide +kernel
theorem dX10_raise_18 : decode cX10_raise 18 = .ok (.getfield 39, 3) := by decide +kernel
theorem dX10_raise_21 : decode cX10_raise 21 = .ok (.iload_n 1, 1) := by decide +kernel
theorem dX10_raise_22 : decode cX10_raise 22 = .ok (.iload_n 2, 1) := by decide +kernel
theorem dX10_raise_23 : decode cX10_raise 23 = .ok (.iastore, 1) := by decide +kernel
theorem dX10_raise_24 : decode cX10_raise 24 = .ok (.return_, 1) := by decide +kernel
set_option maxRecDepth 100000 in
theorem b_X10_raise_0 {E : fxE} (hW : fx_Wt E) (a0 : Nat) (x1 : Int) (x2 : Int) (M : fxM) (Q : Option fxV → fxM → Prop) (hk0 : kd E a0 = 10) (h : (-2147483648 ≤ x1 ∧ x1 < 2147483648) ∧ (((400 : Int) < x1 → Q none M) ∧ (¬ (400 : Int) < x1 → (0 ≤ x1 ∧ x1 < 401) ∧ (-2147483648 ≤ x2 ∧ x2 < 2147483648) ∧ (-2147483648 ≤ (M (rf E a0 13) (x1.toNat)) ∧ (M (rf E a0 13) (x1.toNat)) < 2147483648) ∧ ((x2 ≤ (M (rf E a0 13) (x1.toNat)) → Q none M) ∧ (¬ x2 ≤ (M (rf E a0 13) (x1.toNat)) → ∀ M5 : fxM, M5 = mset M (rf E a0 13) (x1.toNat) x2 → Q none M5))))) : fx_At E m_X10_raise 0 [some (.inr a0), some (.inl x1), some (.inl x2)] [] M Q := by
  refine x_iload_n (pc := 0) dX10_raise_0 rfl rfl ?_
  refine x_sipush (pc := 1) dX10_raise_1 (by decide +kernel) ?_
  obtain ⟨g1, h⟩ := h
  refine x_cgt (pc := 4) 24 dX10_raise_4 (by decide) ⟨g1, ⟨by decide, by decide⟩⟩ (fun hc => ?_) (fun hc => ?_)
  · replace h := h.1 hc
    exact x_vret (pc := 24) dX10_raise_24 rfl h
  · replace h := h.2 hc
    refine x_iload_n (pc := 7) dX10_raise_7 rfl rfl ?_
    refine x_aload_n (pc := 8) dX10_raise_8 rfl rfl ?_
    refine x_getr (pc := 9) dX10_raise_9 f_RX10_39 hk0 ?_
    refine x_iload_n (pc := 12) dX10_raise_12 rfl rfl ?_
    obtain ⟨g2, h⟩ := h
    refine x_iald (pc := 13) dX10_raise_13 (wk_10_13 hW hk0) (wl_10_13 hW hk0) g2 ?_
    obtain ⟨g3, h⟩ := h
    obtain ⟨g4, h⟩ := h
    refine x_cle (pc := 14) 24 dX10_raise_14 (by decide) ⟨g3, g4⟩ (fun hc => ?_) (fun hc => ?_)
    · replace h := h.1 hc
      exact x_vret (pc := 24) dX10_raise_24 rfl h
    · replace h := h.2 hc
      refine x_aload_n (pc := 17) dX10_raise_17 rfl rfl ?_
      refine x_getr (pc := 18) dX10_raise_18 f_RX10_39 hk0 ?_
      refine x_iload_n (pc := 21) dX10_raise_21 rfl rfl ?_
      refine x_iload_n (pc := 22) dX10_raise_22 rfl rfl ?_
      refine x_iast (pc := 23) dX10_raise_23 (wk_10_13 hW hk0) (wl_10_13 hW hk0) g2 (fun M5 hM5 => ?_)
      replace h := h M5 hM5
      exact x_vret (pc := 24) dX10_raise_24 rfl h
theorem dX10_addReflector_0 : decode cX10_addReflector 0 = .ok (.aload_n 0, 1) := by decide +kernel
theorem dX10_addReflector_1 : decode cX10_addReflector 1 = .ok (.iload_n 1, 1) := by decide +kernel
theorem dX10_addReflector_2 : decode cX10_addReflector 2 = .ok (.iload_n 2, 1) := by decide +kernel
theorem dX10_addReflector_3 : decode cX10_addReflector 3 = .ok (.invokevirtual 126, 3) := by decide +kernel
theorem dX10_addReflector_6 : decode cX10_addReflector 6 = .ok (.istore 4, 2) := by decide +kernel
theorem dX10_addReflector_8 : decode cX10_addReflector 8 = .ok (.iconst 0, 1) := by decide +kernel
theorem dX10_addReflector_9 : decode cX10_addReflector 9 = .ok (.istore 5, 2) := by decide +kernel
theorem dX10_addReflector_11 : decode cX10_addReflector 11 = .ok (.iload 5, 2) := by decide +kernel
theorem dX10_addReflector_13 : decode cX10_addReflector 13 = .ok (.iload_n 1, 1) := by decide +kernel
theorem dX10_addReflector_14 : decode cX10_addReflector 14 = .ok (.if_icmp .ge 37, 3) := by decide +kernel
theorem dX10_addReflector_17 : decode cX10_addReflector 17 = .ok (.iload_n 3, 1) := by decide +kernel
theorem dX10_addReflector_18 : decode cX10_addReflector 18 = .ok (.sipush 300, 3) := by decide +kernel
theorem dX10_addReflector_21 : decode cX10_addReflector 21 = .ok (.iload 5, 2) := by decide +kernel
theorem dX10_addReflector_23 : decode cX10_addReflector 23 = .ok (.imul, 1) := by decide +kernel
theorem dX10_addReflector_24 : decode cX10_addReflector 24 = .ok (.isub, 1) := by decide +kernel
theorem dX10_addReflector_25 : decode cX10_addReflector 25 = .ok (.istore 6, 2) := by decide +kernel
theorem dX10_addReflector_27 : decode cX10_addReflector 27 = .ok (.iload 6, 2) := by decide +kernel
theorem dX10_addReflector_29 : decode cX10_addReflector 29 = .ok (.ifCond .le 16, 3) := by decide +kernel
theorem dX10_addReflector_32 : decode cX10_addReflector 32 = .ok (.aload_n 0, 1) := by decide +kernel
theorem dX10_addReflector_33 : decode cX10_addReflector 33 = .ok (.iload_n 2, 1) := by decide +kernel
theorem dX10_addReflector_34 : decode cX10_addReflector 34 = .ok (.iload 5, 2) := by decide +kernel
theorem dX10_addReflector_36 : decode cX10_addReflector 36 = .ok (.iadd, 1) := by decide +kernel
theorem dX10_addReflector_37 : decode cX10_addReflector 37 = .ok (.iload 4, 2) := by decide +kernel
theorem dX10_addReflector_39 : decode cX10_addReflector 39 = .ok (.iload 6, 2) := by decide +kernel
theorem dX10_addReflector_41 : decode cX10_addReflector 41 = .ok (.iadd, 1) := by decide +kernel
theorem dX10_addReflector_42 : decode cX10_addReflector 42 = .ok (.invokevirtual 129, 3) := by decide +kernel
theorem dX10_addReflector_45 : decode cX10_addReflector 45 = .ok (.iinc 5 1, 3) := by decide +kernel
theorem dX10_addReflector_48 : decode cX10_addReflector 48 = .ok (.goto (-37), 3) := by decide +kernel
theorem dX10_addReflector_51 : decode cX10_addReflector 51 = .ok (.iload_n 3, 1) := by decide +kernel
theorem dX10_addReflector_52 : decode cX10_addReflector 52 = .ok (.sipush 300, 3) := by decide +kernel
theorem dX10_addReflector_55 : decode cX10_addReflector 55 = .ok (.iload_n 1, 1) := by decide +kernel
theorem dX10_addReflector_56 : decode cX10_addReflector 56 = .ok (.iconst 1, 1) := by decide +kernel
theorem dX10_addReflector_57 : decode cX10_addReflector 57 = .ok (.isub, 1) := by decide +kernel
theorem dX10_addReflector_58 : decode cX10_addReflector 58 = .ok (.imul, 1) := by decide +kernel
theorem dX10_addReflector_59 : decode cX10_addReflector 59 = .ok (.isub, 1) := by decide +kernel
theorem dX10_addReflector_60 : decode cX10_addReflector 60 = .ok (.sipush 1000, 3) := by decide +kernel
theorem dX10_addReflector_63 : decode cX10_addReflector 63 = .ok (.isub, 1) := by decide +kernel
theorem dX10_addReflector_64 : decode cX10_addReflector 64 = .ok (.istore 5, 2) := by decide +kernel
theorem dX10_addReflector_66 : decode cX10_addReflector 66 = .ok (.iconst 1, 1) := by decide +kernel
theorem dX10_addReflector_67 : decode cX10_addReflector 67 = .ok (.istore 6, 2) := by decide +kernel
theorem dX10_addReflector_69 : decode cX10_addReflector 69 = .ok (.iload 5, 2) := by decide +kernel
theorem dX10_addReflector_71 : decode cX10_addReflector 71 = .ok (.ifCond .le 32, 3) := by decide +kernel
theorem dX10_addReflector_74 : decode cX10_addReflector 74 = .ok (.aload_n 0, 1) := by decide +kernel
theorem dX10_addReflector_75 : decode cX10_addReflector 75 = .ok (.iload_n 2, 1) := by decide +kernel
theorem dX10_addReflector_76 : decode cX10_addReflector 76 = .ok (.iload_n 1, 1) := by decide +kernel
theorem dX10_addReflector_77 : decode cX10_addReflector 77 = .ok (.iadd, 1) := by decide +kernel
theorem dX10_addReflector_78 : decode cX10_addReflector 78 = .ok (.iconst 1, 1) := by decide +kernel
theorem dX10_addReflector_79 : decode cX10_addReflector 79 = .ok (.isub, 1) := by decide +kernel
theorem dX10_addReflector_80 : decode cX10_addReflector 80 = .ok (.iload 6, 2) := by decide +kernel
theorem dX10_addReflector_82 : decode cX10_addReflector 82 = .ok (.iadd, 1) := by decide +kernel
theorem dX10_addReflector_83 : decode cX10_addReflector 83 = .ok (.iload 4, 2) := by decide +kernel
theorem dX10_addReflector_85 : decode cX10_addReflector 85 = .ok (.iload 5, 2) := by decide +kernel
theorem dX10_addReflector_87 : decode cX10_addReflector 87 = .ok (.iadd, 1) := by decide +kernel
theorem dX10_addReflector_88 : decode cX10_addReflector 88 = .ok (.invokevirtual 129, 3) := by decide +kernel
theorem dX10_addReflector_91 : decode cX10_addReflector 91 = .ok (.iinc 5 (-1000), 6) := by decide +kernel
theorem dX10_addReflector_97 : decode cX10_addReflector 97 = .ok (.iinc 6 1, 3) := by decide +kernel
theorem dX10_addReflector_100 : decode cX10_addReflector 100 = .ok (.goto (-31), 3) := by decide +kernel
theorem dX10_addReflector_103 : decode cX10_addReflector 103 = .ok (.return_, 1) := by decide +kernel
set_option maxRecDepth 100000 in
theorem b_X10_addReflector_0 {E : fxE} (hW : fx_Wt E) (a0 : Nat) (x1 : Int) (x2 : Int) (x3 : Int) (M : fxM) (Q : Option fxV → fxM → Prop) (hk0 : kd E a0 = 10) (h : ∃ R1 : Int → fxM → Prop, CtI E m_X10_before [.inr a0, .inl x1, .inl x2] M R1 ∧ ∀ (v1 : Int) (M1 : fxM), R1 v1 M1 → fx_At E m_X10_addReflector 11 [some (.inr a0), some (.inl x1), some (.inl x2), some (.inl x3), some (.inl v1), some (.inl 0), none] [] M1 Q) : fx_At E m_X10_addReflector 0 [some (.inr a0), some (.inl x1), some (.inl x2), some (.inl x3), none, none, none] [] M Q := by
  refine x_aload_n (pc := 0) dX10_addReflector_0 rfl rfl ?_
  refine x_iload_n (pc := 1) dX10_addReflector_1 rfl rfl ?_
  refine x_iload_n (pc := 2) dX10_addReflector_2 rfl rfl ?_
  obtain ⟨R1, hc1, h⟩ := h
  refine x_callV (pc := 3) (z := m_X10_before) (b := a0) (as := [.inl x1, .inl x2]) (rest := []) dX10_addReflector_3 c_RX10_126 (by decide) hk0 rfl (Nat.le_of_ble_eq_true rfl) hc1 (fun r M1 hr => ?_)
  obtain ⟨v1, rfl, hr⟩ := hr
  replace h := h v1 M1 hr
  show fx_At E m_X10_addReflector 6 [some (.inr a0), some (.inl x1), some (.inl x2), some (.inl x3), none, none, none] [.inl v1] M1 Q
  refine x_istore (pc := 6) (lv' := [some (.inr a0), some (.inl x1), some (.inl x2), some (.inl x3), some (.inl v1), none, none]) dX10_addReflector_6 (by decide) rfl ?_
  refine x_iconst (pc := 8) dX10_addReflector_8 ?_
  refine x_istore (pc := 9) (lv' := [some (.inr a0), some (.inl x1), some (.inl x2), some (.inl x3), some (.inl v1), some (.inl 0), none]) dX10_addReflector_9 (by decide) rfl ?_
  exact h
set_option maxRecDepth 100000 in
theorem b_X10_addReflector_11 {E : fxE} (hW : fx_Wt E) (a0 : Nat) (x1 : Int) (x2 : Int) (x3 : Int) (x4 : Int) (x5 : Int) (M : fxM) (Q : Option fxV → fxM → Prop) (hk0 : kd E a0 = 10) (h : (-2147483648 ≤ x5 ∧ x5 < 2147483648) ∧ (-2147483648 ≤ x1 ∧ x1 < 2147483648) ∧ ((x1 ≤ x5 → fx_At E m_X10_addReflector 69 [some (.inr a0), some (.inl x1), some (.inl x2), some (.inl x3), some (.inl x4), some (.inl ((x3 - (300 * (x1 - 1))) - 1000)), some (.inl 1)] [] M Q) ∧ (¬ x1 ≤ x5 → (-2147483648 ≤ (x3 - (300 * x5)) ∧ (x3 - (300 * x5)) < 2147483648) ∧ (((x3 - (300 * x5)) ≤ (0 : Int) → fx_At E m_X10_addReflector 11 [some (.inr a0), some (.inl x1), some (.inl x2), some (.inl x3), some (.inl x4), some (.inl (x5 + 1)), none] [] M Q) ∧ (¬ (x3 - (300 * x5)) ≤ (0 : Int) → ∃ R4 : fxM → Prop, CtV E m_X10_raise [.inr a0, .inl (x2 + x5), .inl (x4 + (x3 - (300 * x5)))] M R4 ∧ ∀ M4 : fxM, R4 M4 → fx_At E m_X10_addReflector 11 [some (.inr a0), some (.inl x1), some (.inl x2), some (.inl x3), some (.inl x4), some (.inl (x5 + 1)), none] [] M4 Q))))) : fx_At E m_X10_addReflector 11 [some (.inr a0), some (.inl x1), some (.inl x2), some (.inl x3), some (.inl x4), some (.inl x5), none] [] M Q := by
  refine x_iload (pc := 11) dX10_addReflector_11 rfl ?_
  refine x_iload_n (pc := 13) dX10_addReflector_13 rfl rfl ?_
  obtain ⟨g1, h⟩ := h
  obtain ⟨g2, h⟩ := h
  refine x_cge (pc := 14) 51 dX10_addReflector_14 (by decide) ⟨g1, g2⟩ (fun hc => ?_) (fun hc => ?_)
  · replace h := h.1 hc
    refine x_iload_n (pc := 51) dX10_addReflector_51 rfl rfl ?_
    refine x_sipush (pc := 52) dX10_addReflector_52 (by decide +kernel) ?_
    refine x_iload_n (pc := 55) dX10_addReflector_55 rfl rfl ?_
    refine x_iconst (pc := 56) dX10_addReflector_56 ?_
    refine x_isub (pc := 57) dX10_addReflector_57 ?_
    refine x_imul (pc := 58) dX10_addReflector_58 ?_
    refine x_isub (pc := 59) dX10_addReflector_59 ?_
    refine x_sipush (pc := 60) dX10_addReflector_60 (by decide +kernel) ?_
    refine x_isub (pc := 63) dX10_addReflector_63 ?_
    refine x_istore (pc := 64) (lv' := [some (.inr a0), some (.inl x1), some (.inl x2), some (.inl x3), some (.inl x4), some (.inl ((x3 - (300 * (x1 - 1))) - 1000)), none]) dX10_addReflector_64 (by decide) rfl ?_
    refine x_iconst (pc := 66) dX10_addReflector_66 ?_
    refine x_istore (pc := 67) (lv' := [some (.inr a0), some (.inl x1), some (.inl x2), some (.inl x3), some (.inl x4), some (.inl ((x3 - (300 * (x1 - 1))) - 1000)), some (.inl 1)]) dX10_addReflector_67 (by decide) rfl ?_
    exact h
  · replace h := h.2 hc
    refine x_iload_n (pc := 17) dX10_addReflector_17 rfl rfl ?_
    refine x_sipush (pc := 18) dX10_addReflector_18 (by decide +kernel) ?_
    refine x_iload (pc := 21) dX10_addReflector_21 rfl ?_
    refine x_imul (pc := 23) dX10_addReflector_23 ?_
    refine x_isub (pc := 24) dX10_addReflector_24 ?_
    refine x_istore (pc := 25) (lv' := [some (.inr a0), some (.inl x1), some (.inl x2), some (.inl x3), some (.inl x4), some (.inl x5), some (.inl (x3 - (300 * x5)))]) dX10_addReflector_25 (by decide) rfl ?_
    refine x_iload (pc := 27) dX10_addReflector_27 rfl ?_
    obtain ⟨g3, h⟩ := h
    refine x_zle (pc := 29) 45 dX10_addReflector_29 (by decide) g3 (fun hc => ?_) (fun hc => ?_)
    · replace h := h.1 hc
      refine x_iinc (pc := 45) (lv' := [some (.inr a0), some (.inl x1), some (.inl x2), some (.inl x3), some (.inl x4), some (.inl (x5 + 1)), some (.inl (x3 - (300 * x5)))]) dX10_addReflector_45 rfl (by decide) rfl ?_
      refine x_goto (pc := 48) 11 dX10_addReflector_48 (by decide) ?_
      refine x_weak (lv := [some (.inr a0), some (.inl x1), some (.inl x2), some (.inl x3), some (.inl x4), some (.inl (x5 + 1)), none]) (by simp [lvle]) ?_
      exact h
    · replace h := h.2 hc
      refine x_aload_n (pc := 32) dX10_addReflector_32 rfl rfl ?_
      refine x_iload_n (pc := 33) dX10_addReflector_33 rfl rfl ?_
      refine x_iload (pc := 34) dX10_addReflector_34 rfl ?_
      refine x_iadd (pc := 36) dX10_addReflector_36 ?_
      refine x_iload (pc := 37) dX10_addReflector_37 rfl ?_
      refine x_iload (pc := 39) dX10_addReflector_39 rfl ?_
      refine x_iadd (pc := 41) dX10_addReflector_41 ?_
      obtain ⟨R4, hc4, h⟩ := h
      refine x_callV (pc := 42) (z := m_X10_raise) (b := a0) (as := [.inl (x2 + x5), .inl (x4 + (x3 - (300 * x5)))]) (rest := []) dX10_addReflector_42 c_RX10_129 (by decide) hk0 rfl (Nat.le_of_ble_eq_true rfl) hc4 (fun r M4 hr => ?_)
      obtain ⟨rfl, hr⟩ := hr
      replace h := h M4 hr
      show fx_At E m_X10_addReflector 45 [some (.inr a0), some (.inl x1), some (.inl x2), some (.inl x3), some (.inl x4), some (.inl x5), some (.inl (x3 - (300 * x5)))] [] M4 Q
      refine x_iinc (pc := 45) (lv' := [some (.inr a0), some (.inl x1), some (.inl x2), some (.inl x3), some (.inl x4), some (.inl (x5 + 1)), some (.inl (x3 - (300 * x5)))]) dX10_addReflector_45 rfl (by decide) rfl ?_
      refine x_goto (pc := 48) 11 dX10_addReflector_48 (by decide) ?_
      refine x_weak (lv := [some (.inr a0), some (.inl x1), some (.inl x2), some (.inl x3), some (.inl x4), some (.inl (x5 + 1)), none]) (by simp [lvle]) ?_
      exact h
set_option maxRecDepth 100000 in
theorem b_X10_addReflector_69 {E : fxE} (hW : fx_Wt E) (a0 : Nat) (x1 : Int) (x2 : Int) (x3 : Int) (x4 : Int) (x5 : Int) (x6 : Int) (M : fxM) (Q : Option fxV → fxM → Prop) (hk0 : kd E a0 = 10) (h : (-2147483648 ≤ x5 ∧ x5 < 2147483648) ∧ ((x5 ≤ (0 : Int) → Q none M) ∧ (¬ x5 ≤ (0 : Int) → ∃ R2 : fxM → Prop, CtV E m_X10_raise [.inr a0, .inl (((x2 + x1) - 1) + x6), .inl (x4 + x5)] M R2 ∧ ∀ M2 : fxM, R2 M2 → fx_At E m_X10_addReflector 69 [some (.inr a0), some (.inl x1), some (.inl x2), some (.inl x3), some (.inl x4), some (.inl (x5 + (-1000))), some (.inl (x6 + 1))] [] M2 Q))) : fx_At E m_X10_addReflector 69 [some (.inr a0), some (.inl x1), some (.inl x2), some (.inl x3), some (.inl x4), some (.inl x5), some (.inl x6)] [] M Q := by
  refine x_iload (pc := 69) dX10_addReflector_69 rfl ?_
  obtain ⟨g1, h⟩ := h
  refine x_zle (pc := 71) 103 dX10_addReflector_71 (by decide) g1 (fun hc => ?_) (fun hc => ?_)
  · replace h := h.1 hc
    exact x_vret (pc := 103) dX10_addReflector_103 rfl h
  · replace h := h.2 hc
    refine x_aload_n (pc := 74) dX10_addReflector_74 rfl rfl ?_
    refine x_iload_n (pc := 75) dX10_addReflector_75 rfl rfl ?_
    refine x_iload_n (pc := 76) dX10_addReflector_76 rfl rfl ?_
    refine x_iadd (pc := 77) dX10_addReflector_77 ?_
    refine x_iconst (pc := 78) dX10_addReflector_78 ?_
    refine x_isub (pc := 79) dX10_addReflector_79 ?_
    refine x_iload (pc := 80) dX10_addReflector_80 rfl ?_
    refine x_iadd (pc := 82) dX10_addReflector_82 ?_
    refine x_iload (pc := 83) dX10_addReflector_83 rfl ?_
    refine x_iload (pc := 85) dX10_addReflector_85 rfl ?_
    refine x_iadd (pc := 87) dX10_addReflector_87 ?_
    obtain ⟨R2, hc2, h⟩ := h
    refine x_callV (pc := 88) (z := m_X10_raise) (b := a0) (as := [.inl (((x2 + x1) - 1) + x6), .inl (x4 + x5)]) (rest := []) dX10_addReflector_88 c_RX10_129 (by decide) hk0 rfl (Nat.le_of_ble_eq_true rfl) hc2 (fun r M2 hr => ?_)
    obtain ⟨rfl, hr⟩ := hr
    replace h := h M2 hr
    show fx_At E m_X10_addReflector 91 [some (.inr a0), some (.inl x1), some (.inl x2), some (.inl x3), some (.inl x4), some (.inl x5), some (.inl x6)] [] M2 Q
    refine x_iincw (pc := 91) (lv' := [some (.inr a0), some (.inl x1), some (.inl x2), some (.inl x3), some (.inl x4), some (.inl (x5 + (-1000))), some (.inl x6)]) dX10_addReflector_91 rfl (by decide) rfl ?_
    refine x_iinc (pc := 97) (lv' := [some (.inr a0), some (.inl x1), some (.inl x2), some (.inl x3), some (.inl x4), some (.inl (x5 + (-1000))), some (.inl (x6 + 1))]) dX10_addReflector_97 rfl (by decide) rfl ?_
    refine x_goto (pc := 100) 69 dX10_addReflector_100 (by decide) ?_
    exact h
theorem dX10_addGhost_0 : decode cX10_addGhost 0 = .ok (.aload_n 0, 1) := by decide +kernel
theorem dX10_addGhost_1 : decode cX10_addGhost 1 = .ok (.getfield 36, 3) := by decide +kernel
theorem dX10_addGhost_4 : decode cX10_addGhost 4 = .ok (.iconst 2, 1) := by decide +kernel
theorem dX10_addGhost_5 : decode cX10_addGhost 5 = .ok (.iload_n 2, 1) := by decide +kernel
theorem dX10_addGhost_6 : decode cX10_addGhost 6 = .ok (.imul, 1) := by decide +kernel
theorem dX10_addGhost_7 : decode cX10_addGhost 7 = .ok (.iaload, 1) := by decide +kernel
theorem dX10_addGhost_8 : decode cX10_addGhost 8 = .ok (.istore 4, 2) := by decide +kernel
theorem dX10_addGhost_10 : decode cX10_addGhost 10 = .ok (.aload_n 0, 1) := by decide +kernel
theorem dX10_addGhost_11 : decode cX10_addGhost 11 = .ok (.getfield 36, 3) := by decide +kernel
theorem dX10_addGhost_14 : decode cX10_addGhost 14 = .ok (.iconst 2, 1) := by decide +kernel
theorem dX10_addGhost_15 : decode cX10_addGhost 15 = .ok (.iload_n 3, 1) := by decide +kernel
theorem dX10_addGhost_16 : decode cX10_addGhost 16 = .ok (.imul, 1) := by decide +kernel
theorem dX10_addGhost_17 : decode cX10_addGhost 17 = .ok (.iaload, 1) := by decide +kernel
theorem dX10_addGhost_18 : decode cX10_addGhost 18 = .ok (.istore 5, 2) := by decide +kernel
theorem dX10_addGhost_20 : decode cX10_addGhost 20 = .ok (.aload_n 0, 1) := by decide +kernel
theorem dX10_addGhost_21 : decode cX10_addGhost 21 = .ok (.getfield 36, 3) := by decide +kernel
theorem dX10_addGhost_24 : decode cX10_addGhost 24 = .ok (.iconst 2, 1) := by decide +kernel
theorem dX10_addGhost_25 : decode cX10_addGhost 25 = .ok (.iload_n 2, 1) := by decide +kernel
theorem dX10_addGhost_26 : decode cX10_addGhost 26 = .ok (.imul, 1) := by decide +kernel
theorem dX10_addGhost_27 : decode cX10_addGhost 27 = .ok (.iconst 1, 1) := by decide +kernel
theorem dX10_addGhost_28 : decode cX10_addGhost 28 = .ok (.iadd, 1) := by decide +kernel
theorem dX10_addGhost_29 : decode cX10_addGhost 29 = .ok (.iaload, 1) := by decide +kernel
theorem dX10_addGhost_30 : decode cX10_addGhost 30 = .ok (.iconst 2, 1) := by decide +kernel
theorem dX10_addGhost_31 : decode cX10_addGhost 31 = .ok (.aload_n 0, 1) := by decide +kernel
theorem dX10_addGhost_32 : decode cX10_addGhost 32 = .ok (.getfield 36, 3) := by decide +kernel
theorem dX10_addGhost_35 : decode cX10_addGhost 35 = .ok (.iconst 2, 1) := by decide +kernel
theorem dX10_addGhost_36 : decode cX10_addGhost 36 = .ok (.iload_n 3, 1) := by decide +kernel
theorem dX10_addGhost_37 : decode cX10_addGhost 37 = .ok (.imul, 1) := by decide +kernel
theorem dX10_addGhost_38 : decode cX10_addGhost 38 = .ok (.iconst 1, 1) := by decide +kernel
theorem dX10_addGhost_39 : decode cX10_addGhost 39 = .ok (.iadd, 1) := by decide +kernel
theorem dX10_addGhost_40 : decode cX10_addGhost 40 = .ok (.iaload, 1) := by decide +kernel
theorem dX10_addGhost_41 : decode cX10_addGhost 41 = .ok (.imul, 1) := by decide +kernel
theorem dX10_addGhost_42 : decode cX10_addGhost 42 = .ok (.iadd, 1) := by decide +kernel
theorem dX10_addGhost_43 : decode cX10_addGhost 43 = .ok (.sipush 12000, 3) := by decide +kernel
theorem dX10_addGhost_46 : decode cX10_addGhost 46 = .ok (.isub, 1) := by decide +kernel
theorem dX10_addGhost_47 : decode cX10_addGhost 47 = .ok (.iconst 2, 1) := by decide +kernel
theorem dX10_addGhost_48 : decode cX10_addGhost 48 = .ok (.aload_n 0, 1) := by decide +kernel
theorem dX10_addGhost_49 : decode cX10_addGhost 49 = .ok (.getfield 30, 3) := by decide +kernel
theorem dX10_addGhost_52 : decode cX10_addGhost 52 = .ok (.iload 5, 2) := by decide +kernel
theorem dX10_addGhost_54 : decode cX10_addGhost 54 = .ok (.iaload, 1) := by decide +kernel
theorem dX10_addGhost_55 : decode cX10_addGhost 55 = .ok (.aload_n 0, 1) := by decide +kernel
theorem dX10_addGhost_56 : decode cX10_addGhost 56 = .ok (.getfield 30, 3) := by decide +kernel
theorem dX10_addGhost_59 : decode cX10_addGhost 59 = .ok (.iload 4, 2) := by decide +kernel
theorem dX10_addGhost_61 : decode cX10_addGhost 61 = .ok (.iaload, 1) := by decide +kernel
theorem dX10_addGhost_62 : decode cX10_addGhost 62 = .ok (.isub, 1) := by decide +kernel
theorem dX10_addGhost_63 : decode cX10_addGhost 63 = .ok (.imul, 1) := by decide +kernel
theorem dX10_addGhost_64 : decode cX10_addGhost 64 = .ok (.isub, 1) := by decide +kernel
theorem dX10_addGhost_65 : decode cX10_addGhost 65 = .ok (.istore 6, 2) := by decide +kernel
theorem dX10_addGhost_67 : decode cX10_addGhost 67 = .ok (.iconst 0, 1) := by decide +kernel
theorem dX10_addGhost_68 : decode cX10_addGhost 68 = .ok (.istore 7, 2) := by decide +kernel
theorem dX10_addGhost_70 : decode cX10_addGhost 70 = .ok (.iload 7, 2) := by decide +kernel
theorem dX10_addGhost_72 : decode cX10_addGhost 72 = .ok (.iload_n 1, 1) := by decide +kernel
theorem dX10_addGhost_73 : decode cX10_addGhost 73 = .ok (.if_icmp .ge 52, 3) := by decide +kernel
theorem dX10_addGhost_76 : decode cX10_addGhost 76 = .ok (.iload 6, 2) := by decide +kernel
theorem dX10_addGhost_78 : decode cX10_addGhost 78 = .ok (.sipush 300, 3) := by decide +kernel
theorem dX10_addGhost_81 : decode cX10_addGhost 81 = .ok (.iload 7, 2) := by decide +kernel
theorem dX10_addGhost_83 : decode cX10_addGhost 83 = .ok (.imul, 1) := by decide +kernel
theorem dX10_addGhost_84 : decode cX10_addGhost 84 = .ok (.isub, 1) := by decide +kernel
theorem dX10_addGhost_85 : decode cX10_addGhost 85 = .ok (.ifCond .le 34, 3) := by decide +kernel
theorem dX10_addGhost_88 : decode cX10_addGhost 88 = .ok (.aload_n 0, 1) := by decide +kernel
theorem dX10_addGhost_89 : decode cX10_addGhost 89 = .ok (.iconst 2, 1) := by decide +kernel
theorem dX10_addGhost_90 : decode cX10_addGhost 90 = .ok (.iload 5, 2) := by decide +kernel
theorem dX10_addGhost_92 : decode cX10_addGhost 92 = .ok (.imul, 1) := by decide +kernel
theorem dX10_addGhost_93 : decode cX10_addGhost 93 = .ok (.iload 4, 2) := by decide +kernel
theorem dX10_addGhost_95 : decode cX10_addGhost 95 = .ok (.isub, 1) := by decide +kernel
theorem dX10_addGhost_96 : decode cX10_addGhost 96 = .ok (.iload 7, 2) := by decide +kernel
theorem dX10_addGhost_98 : decode cX10_addGhost 98 = .ok (.iadd, 1) := by decide +kernel
theorem dX10_addGhost_99 : decode cX10_addGhost 99 = .ok (.aload_n 0, 1) := by decide +kernel
theorem dX10_addGhost_100 : decode cX10_addGhost 100 = .ok (.iload_n 1, 1) := by decide +kernel
theorem dX10_addGhost_101 : decode cX10_addGhost 101 = .ok (.iload 5, 2) := by decide +kernel
theorem dX10_addGhost_103 : decode cX10_addGhost 103 = .ok (.invokevirtual 126, 3) := by decide +kernel
theorem dX10_addGhost_106 : decode cX10_addGhost 106 = .ok (.iload 6, 2) := by decide +kernel
theorem dX10_addGhost_108 : decode cX10_addGhost 108 = .ok (.iadd, 1) := by decide +kernel
theorem dX10_addGhost_109 : decode cX10_addGhost 109 = .ok (.sipush 300, 3) := by decide +kernel
theorem dX10_addGhost_112 : decode cX10_addGhost 112 = .ok (.iload 7, 2) := by decide +kernel
theorem dX10_addGhost_114 : decode cX10_addGhost 114 = .ok (.imul, 1) := by decide +kernel
theorem dX10_addGhost_115 : decode cX10_addGhost 115 = .ok (.isub, 1) := by decide +kernel
theorem dX10_addGhost_116 : decode cX10_addGhost 116 = .ok (.invokevirtual 129, 3) := by decide +kernel
theorem dX10_addGhost_119 : decode cX10_addGhost 119 = .ok (.iinc 7 1, 3) := by decide +kernel
theorem dX10_addGhost_122 : decode cX10_addGhost 122 = .ok (.goto (-52), 3) := by decide +kernel
theorem dX10_addGhost_125 : decode cX10_addGhost 125 = .ok (.return_, 1) := by decide +kernel
set_option maxRecDepth 100000 in
theorem b_X10_addGhost_0 {E : fxE} (hW : fx_Wt E) (a0 : Nat) (x1 : Int) (x2 : Int) (x3 : Int) (M : fxM) (Q : Option fxV → fxM → Prop) (hk0 : kd E a0 = 10) (h : (0 ≤ (2 * x2) ∧ (2 * x2) < 20) ∧ (0 ≤ (2 * x3) ∧ (2 * x3) < 20) ∧ (0 ≤ ((2 * x2) + 1) ∧ ((2 * x2) + 1) < 20) ∧ (0 ≤ ((2 * x3) + 1) ∧ ((2 * x3) + 1) < 20) ∧ (0 ≤ (M (rf E a0 11) ((2 * x3).toNat)) ∧ (M (rf E a0 11) ((2 * x3).toNat)) < 301) ∧ (0 ≤ (M (rf E a0 11) ((2 * x2).toNat)) ∧ (M (rf E a0 11) ((2 * x2).toNat)) < 301) ∧ fx_At E m_X10_addGhost 70 [some (.inr a0), some (.inl x1), some (.inl x2), some (.inl x3), some (.inl (M (rf E a0 11) ((2 * x2).toNat))), some (.inl (M (rf E a0 11) ((2 * x3).toNat))), some (.inl ((((M (rf E a0 11) (((2 * x2) + 1).toNat)) + (2 * (M (rf E a0 11) (((2 * x3) + 1).toNat)))) - 12000) - (2 * ((M (rf E a0 9) ((M (rf E a0 11) ((2 * x3).toNat)).toNat)) - (M (rf E a0 9) ((M (rf E a0 11) ((2 * x2).toNat)).toNat)))))), some (.inl 0)] [] M Q) : fx_At E m_X10_addGhost 0 [some (.inr a0), some (.inl x1), some (.inl x2), some (.inl x3), none, none, none, none] [] M Q := by
  refine x_aload_n (pc := 0) dX10_addGhost_0 rfl rfl ?_
  refine x_getr (pc := 1) dX10_addGhost_1 f_RX10_36 hk0 ?_
  refine x_iconst (pc := 4) dX10_addGhost_4 ?_
  refine x_iload_n (pc := 5) dX10_addGhost_5 rfl rfl ?_
  refine x_imul (pc := 6) dX10_addGhost_6 ?_
  obtain ⟨g1, h⟩ := h
  refine x_iald (pc := 7) dX10_addGhost_7 (wk_10_11 hW hk0) (wl_10_11 hW hk0) g1 ?_
  refine x_istore (pc := 8) (lv' := [some (.inr a0), some (.inl x1), some (.inl x2), some (.inl x3), some (.inl (M (rf E a0 11) ((2 * x2).toNat))), none, none, none]) dX10_addGhost_8 (by decide) rfl ?_
  refine x_aload_n (pc := 10) dX10_addGhost_10 rfl rfl ?_
  refine x_getr (pc := 11) dX10_addGhost_11 f_RX10_36 hk0 ?_
  refine x_iconst (pc := 14) dX10_addGhost_14 ?_
  refine x_iload_n (pc := 15) dX10_addGhost_15 rfl rfl ?_
  refine x_imul (pc := 16) dX10_addGhost_16 ?_
  obtain ⟨g2, h⟩ := h
  refine x_iald (pc := 17) dX10_addGhost_17 (wk_10_11 hW hk0) (wl_10_11 hW hk0) g2 ?_
  refine x_istore (pc := 18) (lv' := [some (.inr a0), some (.inl x1), some (.inl x2), some (.inl x3), some (.inl (M (rf E a0 11) ((2 * x2).toNat))), some (.inl (M (rf E a0 11) ((2 * x3).toNat))), none, none]) dX10_addGhost_18 (by decide) rfl ?_
  refine x_aload_n (pc := 20) dX10_addGhost_20 rfl rfl ?_
  refine x_getr (pc := 21) dX10_addGhost_21 f_RX10_36 hk0 ?_
  refine x_iconst (pc := 24) dX10_addGhost_24 ?_
  refine x_iload_n (pc := 25) dX10_addGhost_25 rfl rfl ?_
  refine x_imul (pc := 26) dX10_addGhost_26 ?_
  refine x_iconst (pc := 27) dX10_addGhost_27 ?_
  refine x_iadd (pc := 28) dX10_addGhost_28 ?_
  obtain ⟨g3, h⟩ := h
  refine x_iald (pc := 29) dX10_addGhost_29 (wk_10_11 hW hk0) (wl_10_11 hW hk0) g3 ?_
  refine x_iconst (pc := 30) dX10_addGhost_30 ?_
  refine x_aload_n (pc := 31) dX10_addGhost_31 rfl rfl ?_
  refine x_getr (pc := 32) dX10_addGhost_32 f_RX10_36 hk0 ?_
  refine x_iconst (pc := 35) dX10_addGhost_35 ?_
  refine x_iload_n (pc := 36) dX10_addGhost_36 rfl rfl ?_
  refine x_imul (pc := 37) dX10_addGhost_37 ?_
  refine x_iconst (pc := 38) dX10_addGhost_38 ?_
  refine x_iadd (pc := 39) dX10_addGhost_39 ?_
  obtain ⟨g4, h⟩ := h
  refine x_iald (pc := 40) dX10_addGhost_40 (wk_10_11 hW hk0) (wl_10_11 hW hk0) g4 ?_
  refine x_imul (pc := 41) dX10_addGhost_41 ?_
  refine x_iadd (pc := 42) dX10_addGhost_42 ?_
  refine x_sipush (pc := 43) dX10_addGhost_43 (by decide +kernel) ?_
  refine x_isub (pc := 46) dX10_addGhost_46 ?_
  refine x_iconst (pc := 47) dX10_addGhost_47 ?_
  refine x_aload_n (pc := 48) dX10_addGhost_48 rfl rfl ?_
  refine x_getr (pc := 49) dX10_addGhost_49 f_RX10_30 hk0 ?_
  refine x_iload (pc := 52) dX10_addGhost_52 rfl ?_
  obtain ⟨g5, h⟩ := h
  refine x_iald (pc := 54) dX10_addGhost_54 (wk_10_9 hW hk0) (wl_10_9 hW hk0) g5 ?_
  refine x_aload_n (pc := 55) dX10_addGhost_55 rfl rfl ?_
  refine x_getr (pc := 56) dX10_addGhost_56 f_RX10_30 hk0 ?_
  refine x_iload (pc := 59) dX10_addGhost_59 rfl ?_
  obtain ⟨g6, h⟩ := h
  refine x_iald (pc := 61) dX10_addGhost_61 (wk_10_9 hW hk0) (wl_10_9 hW hk0) g6 ?_
  refine x_isub (pc := 62) dX10_addGhost_62 ?_
  refine x_imul (pc := 63) dX10_addGhost_63 ?_
  refine x_isub (pc := 64) dX10_addGhost_64 ?_
  refine x_istore (pc := 65) (lv' := [some (.inr a0), some (.inl x1), some (.inl x2), some (.inl x3), some (.inl (M (rf E a0 11) ((2 * x2).toNat))), some (.inl (M (rf E a0 11) ((2 * x3).toNat))), some (.inl ((((M (rf E a0 11) (((2 * x2) + 1).toNat)) + (2 * (M (rf E a0 11) (((2 * x3) + 1).toNat)))) - 12000) - (2 * ((M (rf E a0 9) ((M (rf E a0 11) ((2 * x3).toNat)).toNat)) - (M (rf E a0 9) ((M (rf E a0 11) ((2 * x2).toNat)).toNat)))))), none]) dX10_addGhost_65 (by decide) rfl ?_
  refine x_iconst (pc := 67) dX10_addGhost_67 ?_
  refine x_istore (pc := 68) (lv' := [some (.inr a0), some (.inl x1), some (.inl x2), some (.inl x3), some (.inl (M (rf E a0 11) ((2 * x2).toNat))), some (.inl (M (rf E a0 11) ((2 * x3).toNat))), some (.inl ((((M (rf E a0 11) (((2 * x2) + 1).toNat)) + (2 * (M (rf E a0 11) (((2 * x3) + 1).toNat)))) - 12000) - (2 * ((M (rf E a0 9) ((M (rf E a0 11) ((2 * x3).toNat)).toNat)) - (M (rf E a0 9) ((M (rf E a0 11) ((2 * x2).toNat)).toNat)))))), some (.inl 0)]) dX10_addGhost_68 (by decide) rfl ?_
  exact h
set_option maxRecDepth 100000 in
theorem b_X10_addGhost_70 {E : fxE} (hW : fx_Wt E) (a0 : Nat) (x1 : Int) (x2 : Int) (x3 : Int) (x4 : Int) (x5 : Int) (x6 : Int) (x7 : Int) (M : fxM) (Q : Option fxV → fxM → Prop) (hk0 : kd E a0 = 10) (h : (-2147483648 ≤ x7 ∧ x7 < 2147483648) ∧ (-2147483648 ≤ x1 ∧ x1 < 2147483648) ∧ ((x1 ≤ x7 → Q none M) ∧ (¬ x1 ≤ x7 → (-2147483648 ≤ (x6 - (300 * x7)) ∧ (x6 - (300 * x7)) < 2147483648) ∧ (((x6 - (300 * x7)) ≤ (0 : Int) → fx_At E m_X10_addGhost 70 [some (.inr a0), some (.inl x1), some (.inl x2), some (.inl x3), some (.inl x4), some (.inl x5), some (.inl x6), some (.inl (x7 + 1))] [] M Q) ∧ (¬ (x6 - (300 * x7)) ≤ (0 : Int) → ∃ R4 : Int → fxM → Prop, CtI E m_X10_before [.inr a0, .inl x1, .inl x5] M R4 ∧ ∀ (v4 : Int) (M4 : fxM), R4 v4 M4 → ∃ R5 : fxM → Prop, CtV E m_X10_raise [.inr a0, .inl (((2 * x5) - x4) + x7), .inl ((v4 + x6) - (300 * x7))] M4 R5 ∧ ∀ M5 : fxM, R5 M5 → fx_At E m_X10_addGhost 70 [some (.inr a0), some (.inl x1), some (.inl x2), some (.inl x3), some (.inl x4), some (.inl x5), some (.inl x6), some (.inl (x7 + 1))] [] M5 Q))))) : fx_At E m_X10_addGhost 70 [some (.inr a0), some (.inl x1), some (.inl x2), some (.inl x3), some (.inl x4), some (.inl x5), some (.inl x6), some (.inl x7)] [] M Q := by
  refine x_iload (pc := 70) dX10_addGhost_70 rfl ?_
  refine x_iload_n (pc := 72) dX10_addGhost_72 rfl rfl ?_
  obtain ⟨g1, h⟩ := h
  obtain ⟨g2, h⟩ := h
  refine x_cge (pc := 73) 125 dX10_addGhost_73 (by decide) ⟨g1, g2⟩ (fun hc => ?_) (fun hc => ?_)
  · replace h := h.1 hc
    exact x_vret (pc := 125) dX10_addGhost_125 rfl h
  · replace h := h.2 hc
    refine x_iload (pc := 76) dX10_addGhost_76 rfl ?_
    refine x_sipush (pc := 78) dX10_addGhost_78 (by decide +kernel) ?_
    refine x_iload (pc := 81) dX10_addGhost_81 rfl ?_
    refine x_imul (pc := 83) dX10_addGhost_83 ?_
    refine x_isub (pc := 84) dX10_addGhost_84 ?_
    obtain ⟨g3, h⟩ := h
    refine x_zle (pc := 85) 119 dX10_addGhost_85 (by decide) g3 (fun hc => ?_) (fun hc => ?_)
    · replace h := h.1 hc
      refine x_iinc (pc := 119) (lv' := [some (.inr a0), some (.inl x1), some (.inl x2), some (.inl x3), some (.inl x4), some (.inl x5), some (.inl x6), some (.inl (x7 + 1))]) dX10_addGhost_119 rfl (by decide) rfl ?_
      refine x_goto (pc := 122) 70 dX10_addGhost_122 (by decide) ?_
      exact h
    · replace h := h.2 hc
      refine x_aload_n (pc := 88) dX10_addGhost_88 rfl rfl ?_
      refine x_iconst (pc := 89) dX10_addGhost_89 ?_
      refine x_iload (pc := 90) dX10_addGhost_90 rfl ?_
      refine x_imul (pc := 92) dX10_addGhost_92 ?_
      refine x_iload (pc := 93) dX10_addGhost_93 rfl ?_
      refine x_isub (pc := 95) dX10_addGhost_95 ?_
      refine x_iload (pc := 96) dX10_addGhost_96 rfl ?_
      refine x_iadd (pc := 98) dX10_addGhost_98 ?_
      refine x_aload_n (pc := 99) dX10_addGhost_99 rfl rfl ?_
      refine x_iload_n (pc := 100) dX10_addGhost_100 rfl rfl ?_
      refine x_iload (pc := 101) dX10_addGhost_101 rfl ?_
      obtain ⟨R4, hc4, h⟩ := h
      refine x_callV (pc := 103) (z := m_X10_before) (b := a0) (as := [.inl x1, .inl x5]) (rest := [.inl (((2 * x5) - x4) + x7), .inr a0]) dX10_addGhost_103 c_RX10_126 (by decide) hk0 rfl (Nat.le_of_ble_eq_true rfl) hc4 (fun r M4 hr => ?_)
      obtain ⟨v4, rfl, hr⟩ := hr
      replace h := h v4 M4 hr
      show fx_At E m_X10_addGhost 106 [some (.inr a0), some (.inl x1), some (.inl x2), some (.inl x3), some (.inl x4), some (.inl x5), some (.inl x6), some (.inl x7)] [.inl v4, .inl (((2 * x5) - x4) + x7), .inr a0] M4 Q
      refine x_iload (pc := 106) dX10_addGhost_106 rfl ?_
      refine x_iadd (pc := 108) dX10_addGhost_108 ?_
      refine x_sipush (pc := 109) dX10_addGhost_109 (by decide +kernel) ?_
      refine x_iload (pc := 112) dX10_addGhost_112 rfl ?_
      refine x_imul (pc := 114) dX10_addGhost_114 ?_
      refine x_isub (pc := 115) dX10_addGhost_115 ?_
      obtain ⟨R5, hc5, h⟩ := h
      refine x_callV (pc := 116) (z := m_X10_raise) (b := a0) (as := [.inl (((2 * x5) - x4) + x7), .inl ((v4 + x6) - (300 * x7))]) (rest := []) dX10_addGhost_116 c_RX10_129 (by decide) hk0 rfl (Nat.le_of_ble_eq_true rfl) hc5 (fun r M5 hr => ?_)
      obtain ⟨rfl, hr⟩ := hr
      replace h := h M5 hr
      show fx_At E m_X10_addGhost 119 [some (.inr a0), some (.inl x1), some (.inl x2), some (.inl x3), some (.inl x4), some (.inl x5), some (.inl x6), some (.inl x7)] [] M5 Q
      refine x_iinc (pc := 119) (lv' := [some (.inr a0), some (.inl x1), some (.inl x2), some (.inl x3), some (.inl x4), some (.inl x5), some (.inl x6), some (.inl (x7 + 1))]) dX10_addGhost_119 rfl (by decide) rfl ?_
      refine x_goto (pc := 122) 70 dX10_addGhost_122 (by decide) ?_
      exact h
theorem dX10_layTrace_0 : decode cX10_layTrace 0 = .ok (.iload_n 1, 1) := by decide +kernel
theorem dX10_layTrace_1 : decode cX10_layTrace 1 = .ok (.aload_n 0, 1) := by decide +kernel
theorem dX10_layTrace_2 : decode cX10_layTrace 2 = .ok (.getfield 16, 3) := by decide +kernel
theorem dX10_layTrace_5 : decode cX10_layTrace 5 = .ok (.if_icmp .ne 12, 3) := by decide +kernel
theorem dX10_layTrace_8 : decode cX10_layTrace 8 = .ok (.iload_n 2, 1) := by decide +kernel
theorem dX10_layTrace_9 : decode cX10_layTrace 9 = .ok (.aload_n 0, 1) := by decide +kernel
theorem dX10_layTrace_10 : decode cX10_layTrace 10 = .ok (.getfield 132, 3) := by decide +kernel
theorem dX10_layTrace_13 : decode cX10_layTrace 13 = .ok (.if_icmp .ne 4, 3) := by decide +kernel
theorem dX10_layTrace_16 : decode cX10_layTrace 16 = .ok (.return_, 1) := by decide +kernel
theorem dX10_layTrace_17 : decode cX10_layTrace 17 = .ok (.aload_n 0, 1) := by decide +kernel
theorem dX10_layTrace_18 : decode cX10_layTrace 18 = .ok (.iload_n 1, 1) := by decide +kernel
theorem dX10_layTrace_19 : decode cX10_layTrace 19 = .ok (.putfield 16, 3) := by decide +kernel
theorem dX10_layTrace_22 : decode cX10_layTrace 22 = .ok (.aload_n 0, 1) := by decide +kernel
theorem dX10_layTrace_23 : decode cX10_layTrace 23 = .ok (.iload_n 2, 1) := by decide +kernel
theorem dX10_layTrace_24 : decode cX10_layTrace 24 = .ok (.putfield 132, 3) := by decide +kernel
theorem dX10_layTrace_27 : decode cX10_layTrace 27 = .ok (.aload_n 0, 1) := by decide +kernel
theorem dX10_layTrace_28 : decode cX10_layTrace 28 = .ok (.iload_n 1, 1) := by decide +kernel
theorem dX10_layTrace_29 : decode cX10_layTrace 29 = .ok (.invokevirtual 112, 3) := by decide +kernel
theorem dX10_layTrace_32 : decode cX10_layTrace 32 = .ok (.aload_n 0, 1) := by decide +kernel
theorem dX10_layTrace_33 : decode cX10_layTrace 33 = .ok (.getfield 7, 3) := by decide +kernel
theorem dX10_layTrace_36 : decode cX10_layTrace 36 = .ok (.bipush 56, 2) := by decide +kernel
theorem dX10_layTrace_38 : decode cX10_layTrace 38 = .ok (.iaload, 1) := by decide +kernel
theorem dX10_layTrace_39 : decode cX10_layTrace 39 = .ok (.ifCond .le 18, 3) := by decide +kernel
theorem dX10_layTrace_42 : decode cX10_layTrace 42 = .ok (.aload_n 0, 1) := by decide +kernel
theorem dX10_layTrace_43 : decode cX10_layTrace 43 = .ok (.iload_n 1, 1) := by decide +kernel
theorem dX10_layTrace_44 : decode cX10_layTrace 44 = .ok (.aload_n 0, 1) := by decide +kernel
theorem dX10_layTrace_45 : decode cX10_layTrace 45 = .ok (.getfield 7, 3) := by decide +kernel
theorem dX10_layTrace_48 : decode cX10_layTrace 48 = .ok (.bipush 56, 2) := by decide +kernel
theorem dX10_layTrace_50 : decode cX10_layTrace 50 = .ok (.iaload, 1) := by decide +kernel
theorem dX10_layTrace_51 : decode cX10_layTrace 51 = .ok (.invokevirtual 106, 3) := by decide +kernel
theorem dX10_layTrace_54 : decode cX10_layTrace 54 = .ok (.goto 7, 3) := by decide +kernel
theorem dX10_layTrace_57 : decode cX10_layTrace 57 = .ok (.aload_n 0, 1) := by decide +kernel
theorem dX10_layTrace_58 : decode cX10_layTrace 58 = .ok (.invokevirtual 85, 3) := by decide +kernel
theorem dX10_layTrace_61 : decode cX10_layTrace 61 = .ok (.istore_n 3, 1) := by decide +kernel
theorem dX10_layTrace_62 : decode cX10_layTrace 62 = .ok (.aload_n 0, 1) := by decide +kernel
theorem dX10_layTrace_63 : decode cX10_layTrace 63 = .ok (.iload_n 1, 1) := by decide +kernel
theorem dX10_layTrace_64 : decode cX10_layTrace 64 = .ok (.iload_n 3, 1) := by decide +kernel
theorem dX10_layTrace_65 : decode cX10_layTrace 65 = .ok (.invokevirtual 135, 3) := by decide +kernel
theorem dX10_layTrace_68 : decode cX10_layTrace 68 = .ok (.iconst 0, 1) := by decide +kernel
theorem dX10_layTrace_69 : decode cX10_layTrace 69 = .ok (.istore 4, 2) := by decide +kernel
theorem dX10_layTrace_71 : decode cX10_layTrace 71 = .ok (.iload 4, 2) := by decide +kernel
theorem dX10_layTrace_73 : decode cX10_layTrace 73 = .ok (.sipush 400, 3) := by decide +kernel
theorem dX10_layTrace_76 : decode cX10_layTrace 76 = .ok (.if_icmp .gt 38, 3) := by decide +kernel
theorem dX10_layTrace_79 : decode cX10_layTrace 79 = .ok (.aload_n 0, 1) := by decide +kernel
theorem dX10_layTrace_80 : decode cX10_layTrace 80 = .ok (.getfield 39, 3) := by decide +kernel
theorem dX10_layTrace_83 : decode cX10_layTrace 83 = .ok (.iload 4, 2) := by decide +kernel
theorem dX10_layTrace_85 : decode cX10_layTrace 85 = .ok (.sipush 5000, 3) := by decide +kernel
theorem dX10_layTrace_88 : decode cX10_layTrace 88 = .ok (.iastore, 1) := by decide +kernel
theorem dX10_layTrace_89 : decode cX10_layTrace 89 = .ok (.iload 4, 2) := by decide +kernel
theorem dX10_layTrace_91 : decode cX10_layTrace 91 = .ok (.iload_n 3, 1) := by decide +kernel
theorem dX10_layTrace_92 : decode cX10_layTrace 92 = .ok (.if_icmp .ge 16, 3) := by decide +kernel
theorem dX10_layTrace_95 : decode cX10_layTrace 95 = .ok (.aload_n 0, 1) := by decide +kernel
theorem dX10_layTrace_96 : decode cX10_layTrace 96 = .ok (.iload 4, 2) := by decide +kernel
theorem dX10_layTrace_98 : decode cX10_layTrace 98 = .ok (.aload_n 0, 1) := by decide +kernel
theorem dX10_layTrace_99 : decode cX10_layTrace 99 = .ok (.iload_n 2, 1) := by decide +kernel
theorem dX10_layTrace_100 : decode cX10_layTrace 100 = .ok (.iload 4, 2) := by decide +kernel
theorem dX10_layTrace_102 : decode cX10_layTrace 102 = .ok (.invokevirtual 116, 3) := by decide +kernel
theorem dX10_layTrace_105 : decode cX10_layTrace 105 = .ok (.invokevirtual 129, 3) := by decide +kernel
theorem dX10_layTrace_108 : decode cX10_layTrace 108 = .ok (.iinc 4 1, 3) := by decide +kernel
theorem dX10_layTrace_111 : decode cX10_layTrace 111 = .ok (.goto (-40), 3) := by decide +kernel
theorem dX10_layTrace_114 : decode cX10_layTrace 114 = .ok (.iconst 0, 1) := by decide +kernel
theorem dX10_layTrace_115 : decode cX10_layTrace 115 = .ok (.istore 4, 2) := by decide +kernel
theorem dX10_layTrace_117 : decode cX10_layTrace 117 = .ok (.iload 4, 2) := by decide +kernel
theorem dX10_layTrace_119 : decode cX10_layTrace 119 = .ok (.aload_n 0, 1) := by decide +kernel
theorem dX10_layTrace_120 : decode cX10_layTrace 120 = .ok (.getfield 119, 3) := by decide +kernel
theorem dX10_layTrace_123 : decode cX10_layTrace 123 = .ok (.if_icmp .ge 82, 3) := by decide +kernel
theorem dX10_layTrace_126 : decode cX10_layTrace 126 = .ok (.aload_n 0, 1) := by decide +kernel
theorem dX10_layTrace_127 : decode cX10_layTrace 127 = .ok (.iload_n 2, 1) := by decide +kernel
theorem dX10_layTrace_128 : decode cX10_layTrace 128 = .ok (.aload_n 0, 1) := by decide +kernel
theorem dX10_layTrace_129 : decode cX10_layTrace 129 = .ok (.getfield 36, 3) := by decide +kernel
theorem dX10_layTrace_132 : decode cX10_layTrace 132 = .ok (.iconst 2, 1) := by decide +kernel
theorem dX10_layTrace_133 : decode cX10_layTrace 133 = .ok (.iload 4, 2) := by decide +kernel
theorem dX10_layTrace_135 : decode cX10_layTrace 135 = .ok (.imul, 1) := by decide +kernel
theorem dX10_layTrace_136 : decode cX10_layTrace 136 = .ok (.iaload, 1) := by decide +kernel
theorem dX10_layTrace_137 : decode cX10_layTrace 137 = .ok (.aload_n 0, 1) := by decide +kernel
theorem dX10_layTrace_138 : decode cX10_layTrace 138 = .ok (.getfield 36, 3) := by decide +kernel
theorem dX10_layTrace_141 : decode cX10_layTrace 141 = .ok (.iconst 2, 1) := by decide +kernel
theorem dX10_layTrace_142 : decode cX10_layTrace 142 = .ok (.iload 4, 2) := by decide +kernel
theorem dX10_layTrace_144 : decode cX10_layTrace 144 = .ok (.imul, 1) := by decide +kernel
theorem dX10_layTrace_145 : decode cX10_layTrace 145 = .ok (.iconst 1, 1) := by decide +kernel
theorem dX10_layTrace_146 : decode cX10_layTrace 146 = .ok (.iadd, 1) := by decide +kernel
theorem dX10_layTrace_147 : decode cX10_layTrace 147 = .ok (.iaload, 1) := by decide +kernel
theorem dX10_layTrace_148 : decode cX10_layTrace 148 = .ok (.invokevirtual 138, 3) := by decide +kernel
theorem dX10_layTrace_151 : decode cX10_layTrace 151 = .ok (.iconst 0, 1) := by decide +kernel
theorem dX10_layTrace_152 : decode cX10_layTrace 152 = .ok (.istore 5, 2) := by decide +kernel
theorem dX10_layTrace_154 : decode cX10_layTrace 154 = .ok (.iload 5, 2) := by decide +kernel
theorem dX10_layTrace_156 : decode cX10_layTrace 156 = .ok (.aload_n 0, 1) := by decide +kernel
theorem dX10_layTrace_157 : decode cX10_layTrace 157 = .ok (.getfield 119, 3) := by decide +kernel
theorem dX10_layTrace_160 : decode cX10_layTrace 160 = .ok (.if_icmp .ge 39, 3) := by decide +kernel
theorem dX10_layTrace_163 : decode cX10_layTrace 163 = .ok (.aload_n 0, 1) := by decide +kernel
theorem dX10_layTrace_164 : decode cX10_layTrace 164 = .ok (.getfield 36, 3) := by decide +kernel
theorem dX10_layTrace_167 : decode cX10_layTrace 167 = .ok (.iconst 2, 1) := by decide +kernel
theorem dX10_layTrace_168 : decode cX10_layTrace 168 = .ok (.iload 4, 2) := by decide +kernel
theorem dX10_layTrace_170 : decode cX10_layTrace 170 = .ok (.imul, 1) := by decide +kernel
theorem dX10_layTrace_171 : decode cX10_layTrace 171 = .ok (.iaload, 1) := by decide +kernel
theorem dX10_layTrace_172 : decode cX10_layTrace 172 = .ok (.aload_n 0, 1) := by decide +kernel
theorem dX10_layTrace_173 : decode cX10_layTrace 173 = .ok (.getfield 36, 3) := by decide +kernel
theorem dX10_layTrace_176 : decode cX10_layTrace 176 = .ok (.iconst 2, 1) := by decide +kernel
theorem dX10_layTrace_177 : decode cX10_layTrace 177 = .ok (.iload 5, 2) := by decide +kernel
theorem dX10_layTrace_179 : decode cX10_layTrace 179 = .ok (.imul, 1) := by decide +kernel
theorem dX10_layTrace_180 : decode cX10_layTrace 180 = .ok (.iaload, 1) := by decide +kernel
theorem dX10_layTrace_181 : decode cX10_layTrace 181 = .ok (.if_icmp .ge 12, 3) := by decide +kernel
theorem dX10_layTrace_184 : decode cX10_layTrace 184 = .ok (.aload_n 0, 1) := by decide +kernel
theorem dX10_layTrace_185 : decode cX10_layTrace 185 = .ok (.iload_n 2, 1) := by decide +kernel
theorem dX10_layTrace_186 : decode cX10_layTrace 186 = .ok (.iload 4, 2) := by decide +kernel
theorem dX10_layTrace_188 : decode cX10_layTrace 188 = .ok (.iload 5, 2) := by decide +kernel
theorem dX10_layTrace_190 : decode cX10_layTrace 190 = .ok (.invokevirtual 141, 3) := by decide +kernel
theorem dX10_layTrace_193 : decode cX10_layTrace 193 = .ok (.iinc 5 1, 3) := by decide +kernel
theorem dX10_layTrace_196 : decode cX10_layTrace 196 = .ok (.goto (-42), 3) := by decide +kernel
theorem dX10_layTrace_199 : decode cX10_layTrace 199 = .ok (.iinc 4 1, 3) := by decide +kernel
theorem dX10_layTrace_202 : decode cX10_layTrace 202 = .ok (.goto (-85), 3) := by decide +kernel
theorem dX10_layTrace_205 : decode cX10_layTrace 205 = .ok (.return_, 1) := by decide +kernel
set_option maxRecDepth 100000 in
theorem b_X10_layTrace_0 {E : fxE} (hW : fx_Wt E) (a0 : Nat) (x1 : Int) (x2 : Int) (M : fxM) (Q : Option fxV → fxM → Prop) (hk0 : kd E a0 = 10) (h : (-2147483648 ≤ x1 ∧ x1 < 2147483648) ∧ (-2147483648 ≤ (M a0 3) ∧ (M a0 3) < 2147483648) ∧ ((¬ x1 = (M a0 3) → fx_At E m_X10_layTrace 17 [some (.inr a0), some (.inl x1), some (.inl x2), none, none, none] [] M Q) ∧ (x1 = (M a0 3) → (-2147483648 ≤ x2 ∧ x2 < 2147483648) ∧ (-2147483648 ≤ (M a0 4) ∧ (M a0 4) < 2147483648) ∧ ((¬ x2 = (M a0 4) → fx_At E m_X10_layTrace 17 [some (.inr a0), some (.inl x1), some (.inl x2), none, none, none] [] M Q) ∧ (x2 = (M a0 4) → Q none M))))) : fx_At E m_X10_layTrace 0 [some (.inr a0), some (.inl x1), some (.inl x2), none, none, none] [] M Q := by
  refine x_iload_n (pc := 0) dX10_layTrace_0 rfl rfl ?_
  refine x_aload_n (pc := 1) dX10_layTrace_1 rfl rfl ?_
  refine x_geti (pc := 2) dX10_layTrace_2 f_RX10_16 hk0 ?_
  obtain ⟨g1, h⟩ := h
  obtain ⟨g2, h⟩ := h
  refine x_cne (pc := 5) 17 dX10_layTrace_5 (by decide) ⟨g1, g2⟩ (fun hc => ?_) (fun hc => ?_)
  · replace h := h.1 hc
    exact h
  · replace h := h.2 hc
    refine x_iload_n (pc := 8) dX10_layTrace_8 rfl rfl ?_
    refine x_aload_n (pc := 9) dX10_layTrace_9 rfl rfl ?_
    refine x_geti (pc := 10) dX10_layTrace_10 f_RX10_132 hk0 ?_
    obtain ⟨g3, h⟩ := h
    obtain ⟨g4, h⟩ := h
    refine x_cne (pc := 13) 17 dX10_layTrace_13 (by decide) ⟨g3, g4⟩ (fun hc => ?_) (fun hc => ?_)
    · replace h := h.1 hc
      exact h
    · replace h := h.2 hc
      exact x_vret (pc := 16) dX10_layTrace_16 rfl h
set_option maxRecDepth 100000 in
theorem b_X10_layTrace_17 {E : fxE} (hW : fx_Wt E) (a0 : Nat) (x1 : Int) (x2 : Int) (M : fxM) (Q : Option fxV → fxM → Prop) (hk0 : kd E a0 = 10) (h : ∀ M1 : fxM, M1 = mset M a0 3 x1 → ∀ M2 : fxM, M2 = mset M1 a0 4 x2 → ∃ R3 : fxM → Prop, CtV E m_X10_layLosses [.inr a0, .inl x1] M2 R3 ∧ ∀ M3 : fxM, R3 M3 → (-2147483648 ≤ (M3 (rf E a0 0) 56) ∧ (M3 (rf E a0 0) 56) < 2147483648) ∧ (((M3 (rf E a0 0) 56) ≤ (0 : Int) → (0 ≤ M3 (rf E a0 0) 0 ∧ M3 (rf E a0 0) 0 ≤ 8) ∧ ∃ R6 : fxM → Prop, CtV E m_X10_layReflectors [.inr a0, .inl x1, .inl (wsum (M3 (rf E a0 0)) (M3 (rf E a0 0) 0).toNat)] M3 R6 ∧ ∀ M6 : fxM, R6 M6 → fx_At E m_X10_layTrace 71 [some (.inr a0), some (.inl x1), some (.inl x2), some (.inl (wsum (M3 (rf E a0 0)) (M3 (rf E a0 0) 0).toNat)), some (.inl 0), none] [] M6 Q) ∧ (¬ (M3 (rf E a0 0) 56) ≤ (0 : Int) → ∃ R7 : Int → fxM → Prop, CtI E m_X10_far [.inr a0, .inl x1, .inl (M3 (rf E a0 0) 56)] M3 R7 ∧ ∀ (v7 : Int) (M7 : fxM), R7 v7 M7 → ∃ R8 : fxM → Prop, CtV E m_X10_layReflectors [.inr a0, .inl x1, .inl v7] M7 R8 ∧ ∀ M8 : fxM, R8 M8 → fx_At E m_X10_layTrace 71 [some (.inr a0), some (.inl x1), some (.inl x2), some (.inl v7), some (.inl 0), none] [] M8 Q))) : fx_At E m_X10_layTrace 17 [some (.inr a0), some (.inl x1), some (.inl x2), none, none, none] [] M Q := by
  refine x_aload_n (pc := 17) dX10_layTrace_17 rfl rfl ?_
  refine x_iload_n (pc := 18) dX10_layTrace_18 rfl rfl ?_
  refine x_puti (pc := 19) dX10_layTrace_19 f_RX10_16 hk0 (fun M1 hM1 => ?_)
  replace h := h M1 hM1
  refine x_aload_n (pc := 22) dX10_layTrace_22 rfl rfl ?_
  refine x_iload_n (pc := 23) dX10_layTrace_23 rfl rfl ?_
  refine x_puti (pc := 24) dX10_layTrace_24 f_RX10_132 hk0 (fun M2 hM2 => ?_)
  replace h := h M2 hM2
  refine x_aload_n (pc := 27) dX10_layTrace_27 rfl rfl ?_
  refine x_iload_n (pc := 28) dX10_layTrace_28 rfl rfl ?_
  obtain ⟨R3, hc3, h⟩ := h
  refine x_callV (pc := 29) (z := m_X10_layLosses) (b := a0) (as := [.inl x1]) (rest := []) dX10_layTrace_29 c_RX10_112 (by decide) hk0 rfl (Nat.le_of_ble_eq_true rfl) hc3 (fun r M3 hr => ?_)
  obtain ⟨rfl, hr⟩ := hr
  replace h := h M3 hr
  show fx_At E m_X10_layTrace 32 [some (.inr a0), some (.inl x1), some (.inl x2), none, none, none] [] M3 Q
  refine x_aload_n (pc := 32) dX10_layTrace_32 rfl rfl ?_
  refine x_getr (pc := 33) dX10_layTrace_33 f_RX10_7 hk0 ?_
  refine x_bipush (pc := 36) dX10_layTrace_36 (by decide +kernel) ?_
  refine x_iald (pc := 38) dX10_layTrace_38 (wk_10_0 hW hk0) (wl_10_0 hW hk0) ⟨by decide, by decide⟩ ?_
  obtain ⟨g4, h⟩ := h
  refine x_zle (pc := 39) 57 dX10_layTrace_39 (by decide) g4 (fun hc => ?_) (fun hc => ?_)
  · replace h := h.1 hc
    refine x_aload_n (pc := 57) dX10_layTrace_57 rfl rfl ?_
    obtain ⟨g5, h⟩ := h
    refine x_callV (pc := 58) (z := m_X10_whole) (b := a0) (as := []) (rest := []) dX10_layTrace_58 c_RX10_85 (by decide) hk0 rfl (Nat.le_of_ble_eq_true rfl) (ct_X10_whole hW hk0 g5) (fun r M9 hr => ?_)
    obtain ⟨hM9, hr⟩ := hr
    rw [hM9, hr]
    clear hM9 hr
    show fx_At E m_X10_layTrace 61 [some (.inr a0), some (.inl x1), some (.inl x2), none, none, none] [.inl (wsum (M3 (rf E a0 0)) (M3 (rf E a0 0) 0).toNat)] _ Q
    refine x_istore_n (pc := 61) (lv' := [some (.inr a0), some (.inl x1), some (.inl x2), some (.inl (wsum (M3 (rf E a0 0)) (M3 (rf E a0 0) 0).toNat)), none, none]) dX10_layTrace_61 rfl (by decide) rfl ?_
    refine x_aload_n (pc := 62) dX10_layTrace_62 rfl rfl ?_
    refine x_iload_n (pc := 63) dX10_layTrace_63 rfl rfl ?_
    refine x_iload_n (pc := 64) dX10_layTrace_64 rfl rfl ?_
    obtain ⟨R6, hc6, h⟩ := h
    refine x_callV (pc := 65) (z := m_X10_layReflectors) (b := a0) (as := [.inl x1, .inl (wsum (M3 (rf E a0 0)) (M3 (rf E a0 0) 0).toNat)]) (rest := []) dX10_layTrace_65 c_RX10_135 (by decide) hk0 rfl (Nat.le_of_ble_eq_true rfl) hc6 (fun r M6 hr => ?_)
    obtain ⟨rfl, hr⟩ := hr
    replace h := h M6 hr
    show fx_At E m_X10_layTrace 68 [some (.inr a0), some (.inl x1), some (.inl x2), some (.inl (wsum (M3 (rf E a0 0)) (M3 (rf E a0 0) 0).toNat)), none, none] [] M6 Q
    refine x_iconst (pc := 68) dX10_layTrace_68 ?_
    refine x_istore (pc := 69) (lv' := [some (.inr a0), some (.inl x1), some (.inl x2), some (.inl (wsum (M3 (rf E a0 0)) (M3 (rf E a0 0) 0).toNat)), some (.inl 0), none]) dX10_layTrace_69 (by decide) rfl ?_
    exact h
  · replace h := h.2 hc
    refine x_aload_n (pc := 42) dX10_layTrace_42 rfl rfl ?_
    refine x_iload_n (pc := 43) dX10_layTrace_43 rfl rfl ?_
    refine x_aload_n (pc := 44) dX10_layTrace_44 rfl rfl ?_
    refine x_getr (pc := 45) dX10_layTrace_45 f_RX10_7 hk0 ?_
    refine x_bipush (pc := 48) dX10_layTrace_48 (by decide +kernel) ?_
    refine x_iald (pc := 50) dX10_layTrace_50 (wk_10_0 hW hk0) (wl_10_0 hW hk0) ⟨by decide, by decide⟩ ?_
    obtain ⟨R7, hc7, h⟩ := h
    refine x_callV (pc := 51) (z := m_X10_far) (b := a0) (as := [.inl x1, .inl (M3 (rf E a0 0) 56)]) (rest := []) dX10_layTrace_51 c_RX10_106 (by decide) hk0 rfl (Nat.le_of_ble_eq_true rfl) hc7 (fun r M7 hr => ?_)
    obtain ⟨v7, rfl, hr⟩ := hr
    replace h := h v7 M7 hr
    show fx_At E m_X10_layTrace 54 [some (.inr a0), some (.inl x1), some (.inl x2), none, none, none] [.inl v7] M7 Q
    refine x_goto (pc := 54) 61 dX10_layTrace_54 (by decide) ?_
    refine x_istore_n (pc := 61) (lv' := [some (.inr a0), some (.inl x1), some (.inl x2), some (.inl v7), none, none]) dX10_layTrace_61 rfl (by decide) rfl ?_
    refine x_aload_n (pc := 62) dX10_layTrace_62 rfl rfl ?_
    refine x_iload_n (pc := 63) dX10_layTrace_63 rfl rfl ?_
    refine x_iload_n (pc := 64) dX10_layTrace_64 rfl rfl ?_
    obtain ⟨R8, hc8, h⟩ := h
    refine x_callV (pc := 65) (z := m_X10_layReflectors) (b := a0) (as := [.inl x1, .inl v7]) (rest := []) dX10_layTrace_65 c_RX10_135 (by decide) hk0 rfl (Nat.le_of_ble_eq_true rfl) hc8 (fun r M8 hr => ?_)
    obtain ⟨rfl, hr⟩ := hr
    replace h := h M8 hr
    show fx_At E m_X10_layTrace 68 [some (.inr a0), some (.inl x1), some (.inl x2), some (.inl v7), none, none] [] M8 Q
    refine x_iconst (pc := 68) dX10_layTrace_68 ?_
    refine x_istore (pc := 69) (lv' := [some (.inr a0), some (.inl x1), some (.inl x2), some (.inl v7), some (.inl 0), none]) dX10_layTrace_69 (by decide) rfl ?_
    exact h
set_option maxRecDepth 100000 in
theorem b_X10_layTrace_71 {E : fxE} (hW : fx_Wt E) (a0 : Nat) (x1 : Int) (x2 : Int) (x3 : Int) (x4 : Int) (M : fxM) (Q : Option fxV → fxM → Prop) (hk0 : kd E a0 = 10) (h : (-2147483648 ≤ x4 ∧ x4 < 2147483648) ∧ (((400 : Int) < x4 → fx_At E m_X10_layTrace 117 [some (.inr a0), some (.inl x1), some (.inl x2), some (.inl x3), some (.inl 0), none] [] M Q) ∧ (¬ (400 : Int) < x4 → (0 ≤ x4 ∧ x4 < 401) ∧ ∀ M3 : fxM, M3 = mset M (rf E a0 13) (x4.toNat) 5000 → (-2147483648 ≤ x3 ∧ x3 < 2147483648) ∧ ((x3 ≤ x4 → fx_At E m_X10_layTrace 71 [some (.inr a0), some (.inl x1), some (.inl x2), some (.inl x3), some (.inl (x4 + 1)), none] [] M3 Q) ∧ (¬ x3 ≤ x4 → (0 ≤ x4 ∧ x4 < 300) ∧ ∃ R6 : fxM → Prop, CtV E m_X10_raise [.inr a0, .inl x4, .inl (rsc E M3 a0 x2 x4)] M3 R6 ∧ ∀ M6 : fxM, R6 M6 → fx_At E m_X10_layTrace 71 [some (.inr a0), some (.inl x1), some (.inl x2), some (.inl x3), some (.inl (x4 + 1)), none] [] M6 Q))))) : fx_At E m_X10_layTrace 71 [some (.inr a0), some (.inl x1), some (.inl x2), some (.inl x3), some (.inl x4), none] [] M Q := by
  refine x_iload (pc := 71) dX10_layTrace_71 rfl ?_
  refine x_sipush (pc := 73) dX10_layTrace_73 (by decide +kernel) ?_
  obtain ⟨g1, h⟩ := h
  refine x_cgt (pc := 76) 114 dX10_layTrace_76 (by decide) ⟨g1, ⟨by decide, by decide⟩⟩ (fun hc => ?_) (fun hc => ?_)
  · replace h := h.1 hc
    refine x_iconst (pc := 114) dX10_layTrace_114 ?_
    refine x_istore (pc := 115) (lv' := [some (.inr a0), some (.inl x1), some (.inl x2), some (.inl x3), some (.inl 0), none]) dX10_layTrace_115 (by decide) rfl ?_
    exact h
  · replace h := h.2 hc
    refine x_aload_n (pc := 79) dX10_layTrace_79 rfl rfl ?_
    refine x_getr (pc := 80) dX10_layTrace_80 f_RX10_39 hk0 ?_
    refine x_iload (pc := 83) dX10_layTrace_83 rfl ?_
    refine x_sipush (pc := 85) dX10_layTrace_85 (by decide +kernel) ?_
    obtain ⟨g2, h⟩ := h
    refine x_iast (pc := 88) dX10_layTrace_88 (wk_10_13 hW hk0) (wl_10_13 hW hk0) g2 (fun M3 hM3 => ?_)
    replace h := h M3 hM3
    refine x_iload (pc := 89) dX10_layTrace_89 rfl ?_
    refine x_iload_n (pc := 91) dX10_layTrace_91 rfl rfl ?_
    obtain ⟨g4, h⟩ := h
    refine x_cge (pc := 92) 108 dX10_layTrace_92 (by decide) ⟨g1, g4⟩ (fun hc => ?_) (fun hc => ?_)
    · replace h := h.1 hc
      refine x_iinc (pc := 108) (lv' := [some (.inr a0), some (.inl x1), some (.inl x2), some (.inl x3), some (.inl (x4 + 1)), none]) dX10_layTrace_108 rfl (by decide) rfl ?_
      refine x_goto (pc := 111) 71 dX10_layTrace_111 (by decide) ?_
      exact h
    · replace h := h.2 hc
      refine x_aload_n (pc := 95) dX10_layTrace_95 rfl rfl ?_
      refine x_iload (pc := 96) dX10_layTrace_96 rfl ?_
      refine x_aload_n (pc := 98) dX10_layTrace_98 rfl rfl ?_
      refine x_iload_n (pc := 99) dX10_layTrace_99 rfl rfl ?_
      refine x_iload (pc := 100) dX10_layTrace_100 rfl ?_
      obtain ⟨g5, h⟩ := h
      refine x_callV (pc := 102) (z := m_X10_scattered) (b := a0) (as := [.inl x2, .inl x4]) (rest := [.inl x4, .inr a0]) dX10_layTrace_102 c_RX10_116 (by decide) hk0 rfl (Nat.le_of_ble_eq_true rfl) (ct_X10_scattered hW hk0 g5) (fun r M9 hr => ?_)
      obtain ⟨hM9, hr⟩ := hr
      rw [hM9, hr]
      clear hM9 hr
      show fx_At E m_X10_layTrace 105 [some (.inr a0), some (.inl x1), some (.inl x2), some (.inl x3), some (.inl x4), none] [.inl (rsc E M3 a0 x2 x4), .inl x4, .inr a0] _ Q
      obtain ⟨R6, hc6, h⟩ := h
      refine x_callV (pc := 105) (z := m_X10_raise) (b := a0) (as := [.inl x4, .inl (rsc E M3 a0 x2 x4)]) (rest := []) dX10_layTrace_105 c_RX10_129 (by decide) hk0 rfl (Nat.le_of_ble_eq_true rfl) hc6 (fun r M6 hr => ?_)
      obtain ⟨rfl, hr⟩ := hr
      replace h := h M6 hr
      show fx_At E m_X10_layTrace 108 [some (.inr a0), some (.inl x1), some (.inl x2), some (.inl x3), some (.inl x4), none] [] M6 Q
      refine x_iinc (pc := 108) (lv' := [some (.inr a0), some (.inl x1), some (.inl x2), some (.inl x3), some (.inl (x4 + 1)), none]) dX10_layTrace_108 rfl (by decide) rfl ?_
      refine x_goto (pc := 111) 71 dX10_layTrace_111 (by decide) ?_
      exact h
set_option maxRecDepth 100000 in
theorem b_X10_layTrace_117 {E : fxE} (hW : fx_Wt E) (a0 : Nat) (x1 : Int) (x2 : Int) (x3 : Int) (x4 : Int) (M : fxM) (Q : Option fxV → fxM → Prop) (hk0 : kd E a0 = 10) (h : (-2147483648 ≤ x4 ∧ x4 < 2147483648) ∧ (-2147483648 ≤ (M a0 12) ∧ (M a0 12) < 2147483648) ∧ (((M a0 12) ≤ x4 → Q none M) ∧ (¬ (M a0 12) ≤ x4 → (0 ≤ (2 * x4) ∧ (2 * x4) < 20) ∧ (0 ≤ ((2 * x4) + 1) ∧ ((2 * x4) + 1) < 20) ∧ ∃ R5 : fxM → Prop, CtV E m_X10_addReflector [.inr a0, .inl x2, .inl (M (rf E a0 11) ((2 * x4).toNat)), .inl (M (rf E a0 11) (((2 * x4) + 1).toNat))] M R5 ∧ ∀ M5 : fxM, R5 M5 → fx_At E m_X10_layTrace 154 [some (.inr a0), some (.inl x1), some (.inl x2), some (.inl x3), some (.inl x4), some (.inl 0)] [] M5 Q))) : fx_At E m_X10_layTrace 117 [some (.inr a0), some (.inl x1), some (.inl x2), some (.inl x3), some (.inl x4), none] [] M Q := by
  refine x_iload (pc := 117) dX10_layTrace_117 rfl ?_
  refine x_aload_n (pc := 119) dX10_layTrace_119 rfl rfl ?_
  refine x_geti (pc := 120) dX10_layTrace_120 f_RX10_119 hk0 ?_
  obtain ⟨g1, h⟩ := h
  obtain ⟨g2, h⟩ := h
  refine x_cge (pc := 123) 205 dX10_layTrace_123 (by decide) ⟨g1, g2⟩ (fun hc => ?_) (fun hc => ?_)
  · replace h := h.1 hc
    exact x_vret (pc := 205) dX10_layTrace_205 rfl h
  · replace h := h.2 hc
    refine x_aload_n (pc := 126) dX10_layTrace_126 rfl rfl ?_
    refine x_iload_n (pc := 127) dX10_layTrace_127 rfl rfl ?_
    refine x_aload_n (pc := 128) dX10_layTrace_128 rfl rfl ?_
    refine x_getr (pc := 129) dX10_layTrace_129 f_RX10_36 hk0 ?_
    refine x_iconst (pc := 132) dX10_layTrace_132 ?_
    refine x_iload (pc := 133) dX10_layTrace_133 rfl ?_
    refine x_imul (pc := 135) dX10_layTrace_135 ?_
    obtain ⟨g3, h⟩ := h
    refine x_iald (pc := 136) dX10_layTrace_136 (wk_10_11 hW hk0) (wl_10_11 hW hk0) g3 ?_
    refine x_aload_n (pc := 137) dX10_layTrace_137 rfl rfl ?_
    refine x_getr (pc := 138) dX10_layTrace_138 f_RX10_36 hk0 ?_
    refine x_iconst (pc := 141) dX10_layTrace_141 ?_
    refine x_iload (pc := 142) dX10_layTrace_142 rfl ?_
    refine x_imul (pc := 144) dX10_layTrace_144 ?_
    refine x_iconst (pc := 145) dX10_layTrace_145 ?_
    refine x_iadd (pc := 146) dX10_layTrace_146 ?_
    obtain ⟨g4, h⟩ := h
    refine x_iald (pc := 147) dX10_layTrace_147 (wk_10_11 hW hk0) (wl_10_11 hW hk0) g4 ?_
    obtain ⟨R5, hc5, h⟩ := h
    refine x_callV (pc := 148) (z := m_X10_addReflector) (b := a0) (as := [.inl x2, .inl (M (rf E a0 11) ((2 * x4).toNat)), .inl (M (rf E a0 11) (((2 * x4) + 1).toNat))]) (rest := []) dX10_layTrace_148 c_RX10_138 (by decide) hk0 rfl (Nat.le_of_ble_eq_true rfl) hc5 (fun r M5 hr => ?_)
    obtain ⟨rfl, hr⟩ := hr
    replace h := h M5 hr
    show fx_At E m_X10_layTrace 151 [some (.inr a0), some (.inl x1), some (.inl x2), some (.inl x3), some (.inl x4), none] [] M5 Q
    refine x_iconst (pc := 151) dX10_layTrace_151 ?_
    refine x_istore (pc := 152) (lv' := [some (.inr a0), some (.inl x1), some (.inl x2), some (.inl x3), some (.inl x4), some (.inl 0)]) dX10_layTrace_152 (by decide) rfl ?_
    exact h
set_option maxRecDepth 100000 in
theorem b_X10_layTrace_154 {E : fxE} (hW : fx_Wt E) (a0 : Nat) (x1 : Int) (x2 : Int) (x3 : Int) (x4 : Int) (x5 : Int) (M : fxM) (Q : Option fxV → fxM → Prop) (hk0 : kd E a0 = 10) (h : (-2147483648 ≤ x5 ∧ x5 < 2147483648) ∧ (-2147483648 ≤ (M a0 12) ∧ (M a0 12) < 2147483648) ∧ (((M a0 12) ≤ x5 → fx_At E m_X10_layTrace 117 [some (.inr a0), some (.inl x1), some (.inl x2), some (.inl x3), some (.inl (x4 + 1)), none] [] M Q) ∧ (¬ (M a0 12) ≤ x5 → (0 ≤ (2 * x4) ∧ (2 * x4) < 20) ∧ (0 ≤ (2 * x5) ∧ (2 * x5) < 20) ∧ (-2147483648 ≤ (M (rf E a0 11) ((2 * x4).toNat)) ∧ (M (rf E a0 11) ((2 * x4).toNat)) < 2147483648) ∧ (-2147483648 ≤ (M (rf E a0 11) ((2 * x5).toNat)) ∧ (M (rf E a0 11) ((2 * x5).toNat)) < 2147483648) ∧ (((M (rf E a0 11) ((2 * x5).toNat)) ≤ (M (rf E a0 11) ((2 * x4).toNat)) → fx_At E m_X10_layTrace 154 [some (.inr a0), some (.inl x1), some (.inl x2), some (.inl x3), some (.inl x4), some (.inl (x5 + 1))] [] M Q) ∧ (¬ (M (rf E a0 11) ((2 * x5).toNat)) ≤ (M (rf E a0 11) ((2 * x4).toNat)) → ∃ R7 : fxM → Prop, CtV E m_X10_addGhost [.inr a0, .inl x2, .inl x4, .inl x5] M R7 ∧ ∀ M7 : fxM, R7 M7 → fx_At E m_X10_layTrace 154 [some (.inr a0), some (.inl x1), some (.inl x2), some (.inl x3), some (.inl x4), some (.inl (x5 + 1))] [] M7 Q))))) : fx_At E m_X10_layTrace 154 [some (.inr a0), some (.inl x1), some (.inl x2), some (.inl x3), some (.inl x4), some (.inl x5)] [] M Q := by
  refine x_iload (pc := 154) dX10_layTrace_154 rfl ?_
  refine x_aload_n (pc := 156) dX10_layTrace_156 rfl rfl ?_
  refine x_geti (pc := 157) dX10_layTrace_157 f_RX10_119 hk0 ?_
  obtain ⟨g1, h⟩ := h
  obtain ⟨g2, h⟩ := h
  refine x_cge (pc := 160) 199 dX10_layTrace_160 (by decide) ⟨g1, g2⟩ (fun hc => ?_) (fun hc => ?_)
  · replace h := h.1 hc
    refine x_iinc (pc := 199) (lv' := [some (.inr a0), some (.inl x1), some (.inl x2), some (.inl x3), some (.inl (x4 + 1)), some (.inl x5)]) dX10_layTrace_199 rfl (by decide) rfl ?_
    refine x_goto (pc := 202) 117 dX10_layTrace_202 (by decide) ?_
    refine x_weak (lv := [some (.inr a0), some (.inl x1), some (.inl x2), some (.inl x3), some (.inl (x4 + 1)), none]) (by simp [lvle]) ?_
    exact h
  · replace h := h.2 hc
    refine x_aload_n (pc := 163) dX10_layTrace_163 rfl rfl ?_
    refine x_getr (pc := 164) dX10_layTrace_164 f_RX10_36 hk0 ?_
    refine x_iconst (pc := 167) dX10_layTrace_167 ?_
    refine x_iload (pc := 168) dX10_layTrace_168 rfl ?_
    refine x_imul (pc := 170) dX10_layTrace_170 ?_
    obtain ⟨g3, h⟩ := h
    refine x_iald (pc := 171) dX10_layTrace_171 (wk_10_11 hW hk0) (wl_10_11 hW hk0) g3 ?_
    refine x_aload_n (pc := 172) dX10_layTrace_172 rfl rfl ?_
    refine x_getr (pc := 173) dX10_layTrace_173 f_RX10_36 hk0 ?_
    refine x_iconst (pc := 176) dX10_layTrace_176 ?_
    refine x_iload (pc := 177) dX10_layTrace_177 rfl ?_
    refine x_imul (pc := 179) dX10_layTrace_179 ?_
    obtain ⟨g4, h⟩ := h
    refine x_iald (pc := 180) dX10_layTrace_180 (wk_10_11 hW hk0) (wl_10_11 hW hk0) g4 ?_
    obtain ⟨g5, h⟩ := h
    obtain ⟨g6, h⟩ := h
    refine x_cge (pc := 181) 193 dX10_layTrace_181 (by decide) ⟨g5, g6⟩ (fun hc => ?_) (fun hc => ?_)
    · replace h := h.1 hc
      refine x_iinc (pc := 193) (lv' := [some (.inr a0), some (.inl x1), some (.inl x2), some (.inl x3), some (.inl x4), some (.inl (x5 + 1))]) dX10_layTrace_193 rfl (by decide) rfl ?_
      refine x_goto (pc := 196) 154 dX10_layTrace_196 (by decide) ?_
      exact h
    · replace h := h.2 hc
      refine x_aload_n (pc := 184) dX10_layTrace_184 rfl rfl ?_
      refine x_iload_n (pc := 185) dX10_layTrace_185 rfl rfl ?_
      refine x_iload (pc := 186) dX10_layTrace_186 rfl ?_
      refine x_iload (pc := 188) dX10_layTrace_188 rfl ?_
      obtain ⟨R7, hc7, h⟩ := h
      refine x_callV (pc := 190) (z := m_X10_addGhost) (b := a0) (as := [.inl x2, .inl x4, .inl x5]) (rest := []) dX10_layTrace_190 c_RX10_141 (by decide) hk0 rfl (Nat.le_of_ble_eq_true rfl) hc7 (fun r M7 hr => ?_)
      obtain ⟨rfl, hr⟩ := hr
      replace h := h M7 hr
      show fx_At E m_X10_layTrace 193 [some (.inr a0), some (.inl x1), some (.inl x2), some (.inl x3), some (.inl x4), some (.inl x5)] [] M7 Q
      refine x_iinc (pc := 193) (lv' := [some (.inr a0), some (.inl x1), some (.inl x2), some (.inl x3), some (.inl x4), some (.inl (x5 + 1))]) dX10_layTrace_193 rfl (by decide) rfl ?_
      refine x_goto (pc := 196) 154 dX10_layTrace_196 (by decide) ?_
      exact h
theorem dX10_sample_0 : decode cX10_sample 0 = .ok (.iload_n 1, 1) := by decide +kernel
theorem dX10_sample_1 : decode cX10_sample 1 = .ok (.iload_n 2, 1) := by decide +kernel
theorem dX10_sample_2 : decode cX10_sample 2 = .ok (.invokestatic 144, 3) := by decide +kernel
theorem dX10_sample_5 : decode cX10_sample 5 = .ok (.ifCond .eq 14, 3) := by decide +kernel
theorem dX10_sample_8 : decode cX10_sample 8 = .ok (.iload_n 3, 1) := by decide +kernel
theorem dX10_sample_9 : decode cX10_sample 9 = .ok (.iconst 0, 1) := by decide +kernel
theorem dX10_sample_10 : decode cX10_sample 10 = .ok (.sipush 400, 3) := by decide +kernel
theorem dX10_sample_13 : decode cX10_sample 13 = .ok (.invokestatic 74, 3) := by decide +kernel
theorem dX10_sample_16 : decode cX10_sample 16 = .ok (.ifCond .ne 6, 3) := by decide +kernel
theorem dX10_sample_19 : decode cX10_sample 19 = .ok (.ldc 81, 2) := by decide +kernel
theorem dX10_sample_21 : decode cX10_sample 21 = .ok (.ireturn, 1) := by decide +kernel
theorem dX10_sample_22 : decode cX10_sample 22 = .ok (.aload_n 0, 1) := by decide +kernel
theorem dX10_sample_23 : decode cX10_sample 23 = .ok (.iload_n 1, 1) := by decide +kernel
theorem dX10_sample_24 : decode cX10_sample 24 = .ok (.iload_n 2, 1) := by decide +kernel
theorem dX10_sample_25 : decode cX10_sample 25 = .ok (.invokevirtual 148, 3) := by decide +kernel
theorem dX10_sample_28 : decode cX10_sample 28 = .ok (.aload_n 0, 1) := by decide +kernel
theorem dX10_sample_29 : decode cX10_sample 29 = .ok (.getfield 39, 3) := by decide +kernel
theorem dX10_sample_32 : decode cX10_sample 32 = .ok (.iload_n 3, 1) := by decide +kernel
theorem dX10_sample_33 : decode cX10_sample 33 = .ok (.iaload, 1) := by decide +kernel
theorem dX10_sample_34 : decode cX10_sample 34 = .ok (.ireturn, 1) := by decide +kernel
set_option maxRecDepth 100000 in
theorem b_X10_sample_0 {E : fxE} (hW : fx_Wt E) (a0 : Nat) (x1 : Int) (x2 : Int) (x3 : Int) (M : fxM) (Q : Option fxV → fxM → Prop) (hk0 : kd E a0 = 10) (h : (-2147483648 ≤ x1 ∧ x1 < 2147483648) ∧ (-2147483648 ≤ x2 ∧ x2 < 2147483648) ∧ ((okTr x1 x2 → (-2147483648 ≤ x3 ∧ x3 < 2147483648) ∧ (((0 : Int) ≤ x3 ∧ x3 ≤ (400 : Int) → ∃ R6 : fxM → Prop, CtV E m_X10_layTrace [.inr a0, .inl x1, .inl x2] M R6 ∧ ∀ M6 : fxM, R6 M6 → (0 ≤ x3 ∧ x3 < 401) ∧ Q (some (.inl (M6 (rf E a0 13) (x3.toNat)))) M6) ∧ (¬ ((0 : Int) ≤ x3 ∧ x3 ≤ (400 : Int)) → Q (some (.inl (-1000002))) M))) ∧ (¬ (okTr x1 x2) → Q (some (.inl (-1000002))) M))) : fx_At E m_X10_sample 0 [some (.inr a0), some (.inl x1), some (.inl x2), some (.inl x3)] [] M Q := by
  refine x_iload_n (pc := 0) dX10_sample_0 rfl rfl ?_
  refine x_iload_n (pc := 1) dX10_sample_1 rfl rfl ?_
  obtain ⟨g1, h⟩ := h
  obtain ⟨g2, h⟩ := h
  refine x_callS (pc := 2) (z := m_X10_isTrace) (as := [.inl x1, .inl x2]) (rest := []) dX10_sample_2 c_RX10_144 (by decide) rfl (Nat.le_of_ble_eq_true rfl) (ct_X10_isTrace hW g1 g2) (fun r M9 hr => ?_)
  obtain ⟨hM9, hr⟩ := hr
  rw [hM9]
  clear hM9
  obtain ⟨hc, rfl⟩ | ⟨hc, rfl⟩ := hr
  · replace h := h.1 hc
    show fx_At E m_X10_sample 5 [some (.inr a0), some (.inl x1), some (.inl x2), some (.inl x3)] [.inl 1] _ Q
    refine x_zeq (pc := 5) 19 dX10_sample_5 (by decide) ⟨by decide, by decide⟩ (fun hx => absurd hx (by decide)) (fun _ => ?_)
    refine x_iload_n (pc := 8) dX10_sample_8 rfl rfl ?_
    refine x_iconst (pc := 9) dX10_sample_9 ?_
    refine x_sipush (pc := 10) dX10_sample_10 (by decide +kernel) ?_
    obtain ⟨g4, h⟩ := h
    refine x_callS (pc := 13) (z := m_X10_isIn) (as := [.inl x3, .inl 0, .inl 400]) (rest := []) dX10_sample_13 c_RX10_74 (by decide) rfl (Nat.le_of_ble_eq_true rfl) (ct_isIn hW g4 ⟨by decide, by decide⟩ ⟨by decide, by decide⟩) (fun r M9 hr => ?_)
    obtain ⟨hM9, hr⟩ := hr
    rw [hM9]
    clear hM9
    obtain ⟨hc, rfl⟩ | ⟨hc, rfl⟩ := hr
    · replace h := h.1 hc
      show fx_At E m_X10_sample 16 [some (.inr a0), some (.inl x1), some (.inl x2), some (.inl x3)] [.inl 1] _ Q
      refine x_zne (pc := 16) 22 dX10_sample_16 (by decide) ⟨by decide, by decide⟩ (fun _ => ?_) (fun hx => absurd hx (by decide))
      refine x_aload_n (pc := 22) dX10_sample_22 rfl rfl ?_
      refine x_iload_n (pc := 23) dX10_sample_23 rfl rfl ?_
      refine x_iload_n (pc := 24) dX10_sample_24 rfl rfl ?_
      obtain ⟨R6, hc6, h⟩ := h
      refine x_callV (pc := 25) (z := m_X10_layTrace) (b := a0) (as := [.inl x1, .inl x2]) (rest := []) dX10_sample_25 c_RX10_148 (by decide) hk0 rfl (Nat.le_of_ble_eq_true rfl) hc6 (fun r M6 hr => ?_)
      obtain ⟨rfl, hr⟩ := hr
      replace h := h M6 hr
      show fx_At E m_X10_sample 28 [some (.inr a0), some (.inl x1), some (.inl x2), some (.inl x3)] [] M6 Q
      refine x_aload_n (pc := 28) dX10_sample_28 rfl rfl ?_
      refine x_getr (pc := 29) dX10_sample_29 f_RX10_39 hk0 ?_
      refine x_iload_n (pc := 32) dX10_sample_32 rfl rfl ?_
      obtain ⟨g7, h⟩ := h
      refine x_iald (pc := 33) dX10_sample_33 (wk_10_13 hW hk0) (wl_10_13 hW hk0) g7 ?_
      exact x_iret (pc := 34) dX10_sample_34 (Or.inl rfl) h
    · replace h := h.2 hc
      show fx_At E m_X10_sample 16 [some (.inr a0), some (.inl x1), some (.inl x2), some (.inl x3)] [.inl 0] _ Q
      refine x_zne (pc := 16) 22 dX10_sample_16 (by decide) ⟨by decide, by decide⟩ (fun hx => absurd hx (by decide)) (fun _ => ?_)
      refine x_ldc (pc := 19) (n := -1000002) dX10_sample_19 k_RX10_81 rfl ?_
      exact x_iret (pc := 21) dX10_sample_21 (Or.inl rfl) h
  · replace h := h.2 hc
    show fx_At E m_X10_sample 5 [some (.inr a0), some (.inl x1), some (.inl x2), some (.inl x3)] [.inl 0] _ Q
    refine x_zeq (pc := 5) 19 dX10_sample_5 (by decide) ⟨by decide, by decide⟩ (fun _ => ?_) (fun hx => absurd hx (by decide))
    refine x_ldc (pc := 19) (n := -1000002) dX10_sample_19 k_RX10_81 rfl ?_
    exact x_iret (pc := 21) dX10_sample_21 (Or.inl rfl) h
theorem dX10_visible_0 : decode cX10_visible 0 = .ok (.iload_n 1, 1) := by decide +kernel
theorem dX10_visible_1 : decode cX10_visible 1 = .ok (.iload_n 2, 1) := by decide +kernel
theorem dX10_visible_2 : decode cX10_visible 2 = .ok (.invokestatic 144, 3) := by decide +kernel
theorem dX10_visible_5 : decode cX10_visible 5 = .ok (.ifCond .ne 6, 3) := by decide +kernel
theorem dX10_visible_8 : decode cX10_visible 8 = .ok (.ldc 81, 2) := by decide +kernel
theorem dX10_visible_10 : decode cX10_visible 10 = .ok (.ireturn, 1) := by decide +kernel
theorem dX10_visible_11 : decode cX10_visible 11 = .ok (.aload_n 0, 1) := by decide +kernel
theorem dX10_visible_12 : decode cX10_visible 12 = .ok (.iload_n 1, 1) := by decide +kernel
theorem dX10_visible_13 : decode cX10_visible 13 = .ok (.iload_n 2, 1) := by decide +kernel
theorem dX10_visible_14 : decode cX10_visible 14 = .ok (.invokevirtual 148, 3) := by decide +kernel
theorem dX10_visible_17 : decode cX10_visible 17 = .ok (.iconst 0, 1) := by decide +kernel
theorem dX10_visible_18 : decode cX10_visible 18 = .ok (.istore_n 3, 1) := by decide +kernel
theorem dX10_visible_19 : decode cX10_visible 19 = .ok (.iload_n 3, 1) := by decide +kernel
theorem dX10_visible_20 : decode cX10_visible 20 = .ok (.sipush 400, 3) := by decide +kernel
theorem dX10_visible_23 : decode cX10_visible 23 = .ok (.if_icmp .gt 21, 3) := by decide +kernel
theorem dX10_visible_26 : decode cX10_visible 26 = .ok (.aload_n 0, 1) := by decide +kernel
theorem dX10_visible_27 : decode cX10_visible 27 = .ok (.getfield 39, 3) := by decide +kernel
theorem dX10_visible_30 : decode cX10_visible 30 = .ok (.iload_n 3, 1) := by decide +kernel
theorem dX10_visible_31 : decode cX10_visible 31 = .ok (.iaload, 1) := by decide +kernel
theorem dX10_visible_32 : decode cX10_visible 32 = .ok (.sipush 5000, 3) := by decide +kernel
theorem dX10_visible_35 : decode cX10_visible 35 = .ok (.if_icmp .le 9, 3) := by decide +kernel
theorem dX10_visible_38 : decode cX10_visible 38 = .ok (.iinc 3 1, 3) := by decide +kernel
theorem dX10_visible_41 : decode cX10_visible 41 = .ok (.goto (-22), 3) := by decide +kernel
theorem dX10_visible_44 : decode cX10_visible 44 = .ok (.iload_n 3, 1) := by decide +kernel
theorem dX10_visible_45 : decode cX10_visible 45 = .ok (.ireturn, 1) := by decide +kernel
set_option maxRecDepth 100000 in
theorem b_X10_visible_0 {E : fxE} (hW : fx_Wt E) (a0 : Nat) (x1 : Int) (x2 : Int) (M : fxM) (Q : Option fxV → fxM → Prop) (hk0 : kd E a0 = 10) (h : (-2147483648 ≤ x1 ∧ x1 < 2147483648) ∧ (-2147483648 ≤ x2 ∧ x2 < 2147483648) ∧ ((okTr x1 x2 → ∃ R4 : fxM → Prop, CtV E m_X10_layTrace [.inr a0, .inl x1, .inl x2] M R4 ∧ ∀ M4 : fxM, R4 M4 → fx_At E m_X10_visible 19 [some (.inr a0), some (.inl x1), some (.inl x2), some (.inl 0)] [] M4 Q) ∧ (¬ (okTr x1 x2) → Q (some (.inl (-1000002))) M))) : fx_At E m_X10_visible 0 [some (.inr a0), some (.inl x1), some (.inl x2), none] [] M Q := by
  refine x_iload_n (pc := 0) dX10_visible_0 rfl rfl ?_
  refine x_iload_n (pc := 1) dX10_visible_1 rfl rfl ?_
  obtain ⟨g1, h⟩ := h
  obtain ⟨g2, h⟩ := h
  refine x_callS (pc := 2) (z := m_X10_isTrace) (as := [.inl x1, .inl x2]) (rest := []) dX10_visible_2 c_RX10_144 (by decide) rfl (Nat.le_of_ble_eq_true rfl) (ct_X10_isTrace hW g1 g2) (fun r M9 hr => ?_)
  obtain ⟨hM9, hr⟩ := hr
  rw [hM9]
  clear hM9
  obtain ⟨hc, rfl⟩ | ⟨hc, rfl⟩ := hr
  · replace h := h.1 hc
    show fx_At E m_X10_visible 5 [some (.inr a0), some (.inl x1), some (.inl x2), none] [.inl 1] _ Q
    refine x_zne (pc := 5) 11 dX10_visible_5 (by decide) ⟨by decide, by decide⟩ (fun _ => ?_) (fun hx => absurd hx (by decide))
    refine x_aload_n (pc := 11) dX10_visible_11 rfl rfl ?_
    refine x_iload_n (pc := 12) dX10_visible_12 rfl rfl ?_
    refine x_iload_n (pc := 13) dX10_visible_13 rfl rfl ?_
    obtain ⟨R4, hc4, h⟩ := h
    refine x_callV (pc := 14) (z := m_X10_layTrace) (b := a0) (as := [.inl x1, .inl x2]) (rest := []) dX10_visible_14 c_RX10_148 (by decide) hk0 rfl (Nat.le_of_ble_eq_true rfl) hc4 (fun r M4 hr => ?_)
    obtain ⟨rfl, hr⟩ := hr
    replace h := h M4 hr
    show fx_At E m_X10_visible 17 [some (.inr a0), some (.inl x1), some (.inl x2), none] [] M4 Q
    refine x_iconst (pc := 17) dX10_visible_17 ?_
    refine x_istore_n (pc := 18) (lv' := [some (.inr a0), some (.inl x1), some (.inl x2), some (.inl 0)]) dX10_visible_18 rfl (by decide) rfl ?_
    exact h
  · replace h := h.2 hc
    show fx_At E m_X10_visible 5 [some (.inr a0), some (.inl x1), some (.inl x2), none] [.inl 0] _ Q
    refine x_zne (pc := 5) 11 dX10_visible_5 (by decide) ⟨by decide, by decide⟩ (fun hx => absurd hx (by decide)) (fun _ => ?_)
    refine x_ldc (pc := 8) (n := -1000002) dX10_visible_8 k_RX10_81 rfl ?_
    exact x_iret (pc := 10) dX10_visible_10 (Or.inl rfl) h
set_option maxRecDepth 100000 in
theorem b_X10_visible_19 {E : fxE} (hW : fx_Wt E) (a0 : Nat) (x1 : Int) (x2 : Int) (x3 : Int) (M : fxM) (Q : Option fxV → fxM → Prop) (hk0 : kd E a0 = 10) (h : (-2147483648 ≤ x3 ∧ x3 < 2147483648) ∧ (((400 : Int) < x3 → Q (some (.inl x3)) M) ∧ (¬ (400 : Int) < x3 → (0 ≤ x3 ∧ x3 < 401) ∧ (-2147483648 ≤ (M (rf E a0 13) (x3.toNat)) ∧ (M (rf E a0 13) (x3.toNat)) < 2147483648) ∧ (((M (rf E a0 13) (x3.toNat)) ≤ (5000 : Int) → Q (some (.inl x3)) M) ∧ (¬ (M (rf E a0 13) (x3.toNat)) ≤ (5000 : Int) → fx_At E m_X10_visible 19 [some (.inr a0), some (.inl x1), some (.inl x2), some (.inl (x3 + 1))] [] M Q))))) : fx_At E m_X10_visible 19 [some (.inr a0), some (.inl x1), some (.inl x2), some (.inl x3)] [] M Q := by
  refine x_iload_n (pc := 19) dX10_visible_19 rfl rfl ?_
  refine x_sipush (pc := 20) dX10_visible_20 (by decide +kernel) ?_
  obtain ⟨g1, h⟩ := h
  refine x_cgt (pc := 23) 44 dX10_visible_23 (by decide) ⟨g1, ⟨by decide, by decide⟩⟩ (fun hc => ?_) (fun hc => ?_)
  · replace h := h.1 hc
    refine x_iload_n (pc := 44) dX10_visible_44 rfl rfl ?_
    exact x_iret (pc := 45) dX10_visible_45 (Or.inl rfl) h
  · replace h := h.2 hc
    refine x_aload_n (pc := 26) dX10_visible_26 rfl rfl ?_
    refine x_getr (pc := 27) dX10_visible_27 f_RX10_39 hk0 ?_
    refine x_iload_n (pc := 30) dX10_visible_30 rfl rfl ?_
    obtain ⟨g2, h⟩ := h
    refine x_iald (pc := 31) dX10_visible_31 (wk_10_13 hW hk0) (wl_10_13 hW hk0) g2 ?_
    refine x_sipush (pc := 32) dX10_visible_32 (by decide +kernel) ?_
    obtain ⟨g3, h⟩ := h
    refine x_cle (pc := 35) 44 dX10_visible_35 (by decide) ⟨g3, ⟨by decide, by decide⟩⟩ (fun hc => ?_) (fun hc => ?_)
    · replace h := h.1 hc
      refine x_iload_n (pc := 44) dX10_visible_44 rfl rfl ?_
      exact x_iret (pc := 45) dX10_visible_45 (Or.inl rfl) h
    · replace h := h.2 hc
      refine x_iinc (pc := 38) (lv' := [some (.inr a0), some (.inl x1), some (.inl x2), some (.inl (x3 + 1))]) dX10_visible_38 rfl (by decide) rfl ?_
      refine x_goto (pc := 41) 19 dX10_visible_41 (by decide) ?_
      exact h
theorem dX10_stitch_0 : decode cX10_stitch 0 = .ok (.aload_n 0, 1) := by decide +kernel
theorem dX10_stitch_1 : decode cX10_stitch 1 = .ok (.iload_n 1, 1) := by decide +kernel
theorem dX10_stitch_2 : decode cX10_stitch 2 = .ok (.iload_n 2, 1) := by decide +kernel
theorem dX10_stitch_3 : decode cX10_stitch 3 = .ok (.invokevirtual 148, 3) := by decide +kernel
theorem dX10_stitch_6 : decode cX10_stitch 6 = .ok (.iconst 0, 1) := by decide +kernel
theorem dX10_stitch_7 : decode cX10_stitch 7 = .ok (.istore_n 3, 1) := by decide +kernel
theorem dX10_stitch_8 : decode cX10_stitch 8 = .ok (.iload_n 3, 1) := by decide +kernel
theorem dX10_stitch_9 : decode cX10_stitch 9 = .ok (.sipush 400, 3) := by decide +kernel
theorem dX10_stitch_12 : decode cX10_stitch 12 = .ok (.if_icmp .gt 79, 3) := by decide +kernel
theorem dX10_stitch_15 : decode cX10_stitch 15 = .ok (.aload_n 0, 1) := by decide +kernel
theorem dX10_stitch_16 : decode cX10_stitch 16 = .ok (.getfield 42, 3) := by decide +kernel
theorem dX10_stitch_19 : decode cX10_stitch 19 = .ok (.iload_n 3, 1) := by decide +kernel
theorem dX10_stitch_20 : decode cX10_stitch 20 = .ok (.iaload, 1) := by decide +kernel
theorem dX10_stitch_21 : decode cX10_stitch 21 = .ok (.ldc 23, 2) := by decide +kernel
theorem dX10_stitch_23 : decode cX10_stitch 23 = .ok (.if_icmp .ne 27, 3) := by decide +kernel
theorem dX10_stitch_26 : decode cX10_stitch 26 = .ok (.aload_n 0, 1) := by decide +kernel
theorem dX10_stitch_27 : decode cX10_stitch 27 = .ok (.getfield 39, 3) := by decide +kernel
theorem dX10_stitch_30 : decode cX10_stitch 30 = .ok (.iload_n 3, 1) := by decide +kernel
theorem dX10_stitch_31 : decode cX10_stitch 31 = .ok (.iaload, 1) := by decide +kernel
theorem dX10_stitch_32 : decode cX10_stitch 32 = .ok (.sipush 5000, 3) := by decide +kernel
theorem dX10_stitch_35 : decode cX10_stitch 35 = .ok (.aload_n 0, 1) := by decide +kernel
theorem dX10_stitch_36 : decode cX10_stitch 36 = .ok (.getfield 7, 3) := by decide +kernel
theorem dX10_stitch_39 : decode cX10_stitch 39 = .ok (.bipush 61, 2) := by decide +kernel
theorem dX10_stitch_41 : decode cX10_stitch 41 = .ok (.iaload, 1) := by decide +kernel
theorem dX10_stitch_42 : decode cX10_stitch 42 = .ok (.iadd, 1) := by decide +kernel
theorem dX10_stitch_43 : decode cX10_stitch 43 = .ok (.if_icmp .lt 7, 3) := by decide +kernel
theorem dX10_stitch_46 : decode cX10_stitch 46 = .ok (.iconst 1, 1) := by decide +kernel
theorem dX10_stitch_47 : decode cX10_stitch 47 = .ok (.goto 4, 3) := by decide +kernel
theorem dX10_stitch_50 : decode cX10_stitch 50 = .ok (.iconst 0, 1) := by decide +kernel
theorem dX10_stitch_51 : decode cX10_stitch 51 = .ok (.istore 4, 2) := by decide +kernel
theorem dX10_stitch_53 : decode cX10_stitch 53 = .ok (.aload_n 0, 1) := by decide +kernel
theorem dX10_stitch_54 : decode cX10_stitch 54 = .ok (.getfield 42, 3) := by decide +kernel
theorem dX10_stitch_57 : decode cX10_stitch 57 = .ok (.iload_n 3, 1) := by decide +kernel
theorem dX10_stitch_58 : decode cX10_stitch 58 = .ok (.iload 4, 2) := by decide +kernel
theorem dX10_stitch_60 : decode cX10_stitch 60 = .ok (.ifCond .eq 18, 3) := by decide +kernel
theorem dX10_stitch_63 : decode cX10_stitch 63 = .ok (.aload_n 0, 1) := by decide +kernel
theorem dX10_stitch_64 : decode cX10_stitch 64 = .ok (.getfield 39, 3) := by decide +kernel
theorem dX10_stitch_67 : decode cX10_stitch 67 = .ok (.iload_n 3, 1) := by decide +kernel
theorem dX10_stitch_68 : decode cX10_stitch 68 = .ok (.iaload, 1) := by decide +kernel
theorem dX10_stitch_69 : decode cX10_stitch 69 = .ok (.sipush 300, 3) := by decide +kernel
theorem dX10_stitch_72 : decode cX10_stitch 72 = .ok (.iload_n 2, 1) := by decide +kernel
theorem dX10_stitch_73 : decode cX10_stitch 73 = .ok (.imul, 1) := by decide +kernel
theorem dX10_stitch_74 : decode cX10_stitch 74 = .ok (.isub, 1) := by decide +kernel
theorem dX10_stitch_75 : decode cX10_stitch 75 = .ok (.goto 9, 3) := by decide +kernel
theorem dX10_stitch_78 : decode cX10_stitch 78 = .ok (.aload_n 0, 1) := by decide +kernel
theorem dX10_stitch_79 : decode cX10_stitch 79 = .ok (.getfield 42, 3) := by decide +kernel
theorem dX10_stitch_82 : decode cX10_stitch 82 = .ok (.iload_n 3, 1) := by decide +kernel
theorem dX10_stitch_83 : decode cX10_stitch 83 = .ok (.iaload, 1) := by decide +kernel
theorem dX10_stitch_84 : decode cX10_stitch 84 = .ok (.iastore, 1) := by decide +kernel
theorem dX10_stitch_85 : decode cX10_stitch 85 = .ok (.iinc 3 1, 3) := by decide +kernel
theorem dX10_stitch_88 : decode cX10_stitch 88 = .ok (.goto (-80), 3) := by decide +kernel
theorem dX10_stitch_91 : decode cX10_stitch 91 = .ok (.return_, 1) := by decide +kernel
set_option maxRecDepth 100000 in
theorem b_X10_stitch_0 {E : fxE} (hW : fx_Wt E) (a0 : Nat) (x1 : Int) (x2 : Int) (M : fxM) (Q : Option fxV → fxM → Prop) (hk0 : kd E a0 = 10) (h : ∃ R1 : fxM → Prop, CtV E m_X10_layTrace [.inr a0, .inl x1, .inl x2] M R1 ∧ ∀ M1 : fxM, R1 M1 → fx_At E m_X10_stitch 8 [some (.inr a0), some (.inl x1), some (.inl x2), some (.inl 0), none] [] M1 Q) : fx_At E m_X10_stitch 0 [some (.inr a0), some (.inl x1), some (.inl x2), none, none] [] M Q := by
  refine x_aload_n (pc := 0) dX10_stitch_0 rfl rfl ?_
  refine x_iload_n (pc := 1) dX10_stitch_1 rfl rfl ?_
  refine x_iload_n (pc := 2) dX10_stitch_2 rfl rfl ?_
  obtain ⟨R1, hc1, h⟩ := h
  refine x_callV (pc := 3) (z := m_X10_layTrace) (b := a0) (as := [.inl x1, .inl x2]) (rest := []) dX10_stitch_3 c_RX10_148 (by decide) hk0 rfl (Nat.le_of_ble_eq_true rfl) hc1 (fun r M1 hr => ?_)
  obtain ⟨rfl, hr⟩ := hr
  replace h := h M1 hr
  show fx_At E m_X10_stitch 6 [some (.inr a0), some (.inl x1), some (.inl x2), none, none] [] M1 Q
  refine x_iconst (pc := 6) dX10_stitch_6 ?_
  refine x_istore_n (pc := 7) (lv' := [some (.inr a0), some (.inl x1), some (.inl x2), some (.inl 0), none]) dX10_stitch_7 rfl (by decide) rfl ?_
  exact h
set_option maxRecDepth 100000 in
theorem b_X10_stitch_8 {E : fxE} (hW : fx_Wt E) (a0 : Nat) (x1 : Int) (x2 : Int) (x3 : Int) (M : fxM) (Q : Option fxV → fxM → Prop) (hk0 : kd E a0 = 10) (h : (-2147483648 ≤ x3 ∧ x3 < 2147483648) ∧ (((400 : Int) < x3 → Q none M) ∧ (¬ (400 : Int) < x3 → (0 ≤ x3 ∧ x3 < 401) ∧ (-2147483648 ≤ (M (rf E a0 14) (x3.toNat)) ∧ (M (rf E a0 14) (x3.toNat)) < 2147483648) ∧ ((¬ (M (rf E a0 14) (x3.toNat)) = (-1000005 : Int) → fx_At E m_X10_stitch 51 [some (.inr a0), some (.inl x1), some (.inl x2), some (.inl x3), none] [.inl 0] M Q) ∧ ((M (rf E a0 14) (x3.toNat)) = (-1000005 : Int) → (-2147483648 ≤ (M (rf E a0 13) (x3.toNat)) ∧ (M (rf E a0 13) (x3.toNat)) < 2147483648) ∧ (-2147483648 ≤ (5000 + (M (rf E a0 0) 61)) ∧ (5000 + (M (rf E a0 0) 61)) < 2147483648) ∧ (((M (rf E a0 13) (x3.toNat)) < (5000 + (M (rf E a0 0) 61)) → fx_At E m_X10_stitch 51 [some (.inr a0), some (.inl x1), some (.inl x2), some (.inl x3), none] [.inl 0] M Q) ∧ (¬ (M (rf E a0 13) (x3.toNat)) < (5000 + (M (rf E a0 0) 61)) → fx_At E m_X10_stitch 51 [some (.inr a0), some (.inl x1), some (.inl x2), some (.inl x3), none] [.inl 1] M Q))))))) : fx_At E m_X10_stitch 8 [some (.inr a0), some (.inl x1), some (.inl x2), some (.inl x3), none] [] M Q := by
  refine x_iload_n (pc := 8) dX10_stitch_8 rfl rfl ?_
  refine x_sipush (pc := 9) dX10_stitch_9 (by decide +kernel) ?_
  obtain ⟨g1, h⟩ := h
  refine x_cgt (pc := 12) 91 dX10_stitch_12 (by decide) ⟨g1, ⟨by decide, by decide⟩⟩ (fun hc => ?_) (fun hc => ?_)
  · replace h := h.1 hc
    exact x_vret (pc := 91) dX10_stitch_91 rfl h
  · replace h := h.2 hc
    refine x_aload_n (pc := 15) dX10_stitch_15 rfl rfl ?_
    refine x_getr (pc := 16) dX10_stitch_16 f_RX10_42 hk0 ?_
    refine x_iload_n (pc := 19) dX10_stitch_19 rfl rfl ?_
    obtain ⟨g2, h⟩ := h
    refine x_iald (pc := 20) dX10_stitch_20 (wk_10_14 hW hk0) (wl_10_14 hW hk0) g2 ?_
    refine x_ldc (pc := 21) (n := -1000005) dX10_stitch_21 k_RX10_23 rfl ?_
    obtain ⟨g3, h⟩ := h
    refine x_cne (pc := 23) 50 dX10_stitch_23 (by decide) ⟨g3, ⟨by decide, by decide⟩⟩ (fun hc => ?_) (fun hc => ?_)
    · replace h := h.1 hc
      refine x_iconst (pc := 50) dX10_stitch_50 ?_
      exact h
    · replace h := h.2 hc
      refine x_aload_n (pc := 26) dX10_stitch_26 rfl rfl ?_
      refine x_getr (pc := 27) dX10_stitch_27 f_RX10_39 hk0 ?_
      refine x_iload_n (pc := 30) dX10_stitch_30 rfl rfl ?_
      refine x_iald (pc := 31) dX10_stitch_31 (wk_10_13 hW hk0) (wl_10_13 hW hk0) g2 ?_
      refine x_sipush (pc := 32) dX10_stitch_32 (by decide +kernel) ?_
      refine x_aload_n (pc := 35) dX10_stitch_35 rfl rfl ?_
      refine x_getr (pc := 36) dX10_stitch_36 f_RX10_7 hk0 ?_
      refine x_bipush (pc := 39) dX10_stitch_39 (by decide +kernel) ?_
      refine x_iald (pc := 41) dX10_stitch_41 (wk_10_0 hW hk0) (wl_10_0 hW hk0) ⟨by decide, by decide⟩ ?_
      refine x_iadd (pc := 42) dX10_stitch_42 ?_
      obtain ⟨g4, h⟩ := h
      obtain ⟨g5, h⟩ := h
      refine x_clt (pc := 43) 50 dX10_stitch_43 (by decide) ⟨g4, g5⟩ (fun hc => ?_) (fun hc => ?_)
      · replace h := h.1 hc
        refine x_iconst (pc := 50) dX10_stitch_50 ?_
        exact h
      · replace h := h.2 hc
        refine x_iconst (pc := 46) dX10_stitch_46 ?_
        refine x_goto (pc := 47) 51 dX10_stitch_47 (by decide) ?_
        exact h
set_option maxRecDepth 100000 in
theorem b_X10_stitch_51 {E : fxE} (hW : fx_Wt E) (a0 : Nat) (x1 : Int) (x2 : Int) (x3 : Int) (s0 : Int) (M : fxM) (Q : Option fxV → fxM → Prop) (hk0 : kd E a0 = 10) (h : (-2147483648 ≤ s0 ∧ s0 < 2147483648) ∧ ((s0 = (0 : Int) → (0 ≤ x3 ∧ x3 < 401) ∧ ∀ M3 : fxM, M3 = mset M (rf E a0 14) (x3.toNat) (M (rf E a0 14) (x3.toNat)) → fx_At E m_X10_stitch 8 [some (.inr a0), some (.inl x1), some (.inl x2), some (.inl (x3 + 1)), none] [] M3 Q) ∧ (¬ s0 = (0 : Int) → (0 ≤ x3 ∧ x3 < 401) ∧ ∀ M5 : fxM, M5 = mset M (rf E a0 14) (x3.toNat) ((M (rf E a0 13) (x3.toNat)) - (300 * x2)) → fx_At E m_X10_stitch 8 [some (.inr a0), some (.inl x1), some (.inl x2), some (.inl (x3 + 1)), none] [] M5 Q))) : fx_At E m_X10_stitch 51 [some (.inr a0), some (.inl x1), some (.inl x2), some (.inl x3), none] [.inl s0] M Q := by
  refine x_istore (pc := 51) (lv' := [some (.inr a0), some (.inl x1), some (.inl x2), some (.inl x3), some (.inl s0)]) dX10_stitch_51 (by decide) rfl ?_
  refine x_aload_n (pc := 53) dX10_stitch_53 rfl rfl ?_
  refine x_getr (pc := 54) dX10_stitch_54 f_RX10_42 hk0 ?_
  refine x_iload_n (pc := 57) dX10_stitch_57 rfl rfl ?_
  refine x_iload (pc := 58) dX10_stitch_58 rfl ?_
  obtain ⟨g1, h⟩ := h
  refine x_zeq (pc := 60) 78 dX10_stitch_60 (by decide) g1 (fun hc => ?_) (fun hc => ?_)
  · replace h := h.1 hc
    refine x_aload_n (pc := 78) dX10_stitch_78 rfl rfl ?_
    refine x_getr (pc := 79) dX10_stitch_79 f_RX10_42 hk0 ?_
    refine x_iload_n (pc := 82) dX10_stitch_82 rfl rfl ?_
    obtain ⟨g2, h⟩ := h
    refine x_iald (pc := 83) dX10_stitch_83 (wk_10_14 hW hk0) (wl_10_14 hW hk0) g2 ?_
    refine x_iast (pc := 84) dX10_stitch_84 (wk_10_14 hW hk0) (wl_10_14 hW hk0) g2 (fun M3 hM3 => ?_)
    replace h := h M3 hM3
    refine x_iinc (pc := 85) (lv' := [some (.inr a0), some (.inl x1), some (.inl x2), some (.inl (x3 + 1)), some (.inl s0)]) dX10_stitch_85 rfl (by decide) rfl ?_
    refine x_goto (pc := 88) 8 dX10_stitch_88 (by decide) ?_
    refine x_weak (lv := [some (.inr a0), some (.inl x1), some (.inl x2), some (.inl (x3 + 1)), none]) (by simp [lvle]) ?_
    exact h
  · replace h := h.2 hc
    refine x_aload_n (pc := 63) dX10_stitch_63 rfl rfl ?_
    refine x_getr (pc := 64) dX10_stitch_64 f_RX10_39 hk0 ?_
    refine x_iload_n (pc := 67) dX10_stitch_67 rfl rfl ?_
    obtain ⟨g4, h⟩ := h
    refine x_iald (pc := 68) dX10_stitch_68 (wk_10_13 hW hk0) (wl_10_13 hW hk0) g4 ?_
    refine x_sipush (pc := 69) dX10_stitch_69 (by decide +kernel) ?_
    refine x_iload_n (pc := 72) dX10_stitch_72 rfl rfl ?_
    refine x_imul (pc := 73) dX10_stitch_73 ?_
    refine x_isub (pc := 74) dX10_stitch_74 ?_
    refine x_goto (pc := 75) 84 dX10_stitch_75 (by decide) ?_
    refine x_iast (pc := 84) dX10_stitch_84 (wk_10_14 hW hk0) (wl_10_14 hW hk0) g4 (fun M5 hM5 => ?_)
    replace h := h M5 hM5
    refine x_iinc (pc := 85) (lv' := [some (.inr a0), some (.inl x1), some (.inl x2), some (.inl (x3 + 1)), some (.inl s0)]) dX10_stitch_85 rfl (by decide) rfl ?_
    refine x_goto (pc := 88) 8 dX10_stitch_88 (by decide) ?_
    refine x_weak (lv := [some (.inr a0), some (.inl x1), some (.inl x2), some (.inl (x3 + 1)), none]) (by simp [lvle]) ?_
    exact h
theorem dX10_layStitches_0 : decode cX10_layStitches 0 = .ok (.iconst 0, 1) := by decide +kernel
theorem dX10_layStitches_1 : decode cX10_layStitches 1 = .ok (.istore_n 2, 1) := by decide +kernel
theorem dX10_layStitches_2 : decode cX10_layStitches 2 = .ok (.iload_n 2, 1) := by decide +kernel
theorem dX10_layStitches_3 : decode cX10_layStitches 3 = .ok (.sipush 400, 3) := by decide +kernel
theorem dX10_layStitches_6 : decode cX10_layStitches 6 = .ok (.if_icmp .gt 17, 3) := by decide +kernel
theorem dX10_layStitches_9 : decode cX10_layStitches 9 = .ok (.aload_n 0, 1) := by decide +kernel
theorem dX10_layStitches_10 : decode cX10_layStitches 10 = .ok (.getfield 42, 3) := by decide +kernel
theorem dX10_layStitches_13 : decode cX10_layStitches 13 = .ok (.iload_n 2, 1) := by decide +kernel
theorem dX10_layStitches_14 : decode cX10_layStitches 14 = .ok (.ldc 23, 2) := by decide +kernel
theorem dX10_layStitches_16 : decode cX10_layStitches 16 = .ok (.iastore, 1) := by decide +kernel
theorem dX10_layStitches_17 : decode cX10_layStitches 17 = .ok (.iinc 2 1, 3) := by decide +kernel
theorem dX10_layStitches_20 : decode cX10_layStitches 20 = .ok (.goto (-18), 3) := by decide +kernel
theorem dX10_layStitches_23 : decode cX10_layStitches 23 = .ok (.aload_n 0, 1) := by decide +kernel
theorem dX10_layStitches_24 : decode cX10_layStitches 24 = .ok (.iload_n 1, 1) := by decide +kernel
theorem dX10_layStitches_25 : decode cX10_layStitches 25 = .ok (.iconst 1, 1) := by decide +kernel
theorem dX10_layStitches_26 : decode cX10_layStitches 26 = .ok (.invokevirtual 152, 3) := by decide +kernel
theorem dX10_layStitches_29 : decode cX10_layStitches 29 = .ok (.aload_n 0, 1) := by decide +kernel
theorem dX10_layStitches_30 : decode cX10_layStitches 30 = .ok (.iload_n 1, 1) := by decide +kernel
theorem dX10_layStitches_31 : decode cX10_layStitches 31 = .ok (.iconst 3, 1) := by decide +kernel
theorem dX10_layStitches_32 : decode cX10_layStitches 32 = .ok (.invokevirtual 152, 3) := by decide +kernel
theorem dX10_layStitches_35 : decode cX10_layStitches 35 = .ok (.aload_n 0, 1) := by decide +kernel
theorem dX10_layStitches_36 : decode cX10_layStitches 36 = .ok (.iload_n 1, 1) := by decide +kernel
theorem dX10_layStitches_37 : decode cX10_layStitches 37 = .ok (.bipush 9, 2) := by decide +kernel
theorem dX10_layStitches_39 : decode cX10_layStitches 39 = .ok (.invokevirtual 152, 3) := by decide +kernel
theorem dX10_layStitches_42 : decode cX10_layStitches 42 = .ok (.return_, 1) := by decide +kernel
set_option maxRecDepth 100000 in
theorem b_X10_layStitches_0 {E : fxE} (hW : fx_Wt E) (a0 : Nat) (x1 : Int) (M : fxM) (Q : Option fxV → fxM → Prop) (hk0 : kd E a0 = 10) (h : fx_At E m_X10_layStitches 2 [some (.inr a0), some (.inl x1), some (.inl 0)] [] M Q) : fx_At E m_X10_layStitches 0 [some (.inr a0), some (.inl x1), none] [] M Q := by
  refine x_iconst (pc := 0) dX10_layStitches_0 ?_
  refine x_istore_n (pc := 1) (lv' := [some (.inr a0), some (.inl x1), some (.inl 0)]) dX10_layStitches_1 rfl (by decide) rfl ?_
  exact h
set_option maxRecDepth 100000 in
theorem b_X10_layStitches_2 {E : fxE} (hW : fx_Wt E) (a0 : Nat) (x1 : Int) (x2 : Int) (M : fxM) (Q : Option fxV → fxM → Prop) (hk0 : kd E a0 = 10) (h : (-2147483648 ≤ x2 ∧ x2 < 2147483648) ∧ (((400 : Int) < x2 → ∃ R2 : fxM → Prop, CtV E m_X10_stitch [.inr a0, .inl x1, .inl 1] M R2 ∧ ∀ M2 : fxM, R2 M2 → ∃ R3 : fxM → Prop, CtV E m_X10_stitch [.inr a0, .inl x1, .inl 3] M2 R3 ∧ ∀ M3 : fxM, R3 M3 → ∃ R4 : fxM → Prop, CtV E m_X10_stitch [.inr a0, .inl x1, .inl 9] M3 R4 ∧ ∀ M4 : fxM, R4 M4 → Q none M4) ∧ (¬ (400 : Int) < x2 → (0 ≤ x2 ∧ x2 < 401) ∧ ∀ M6 : fxM, M6 = mset M (rf E a0 14) (x2.toNat) (-1000005) → fx_At E m_X10_layStitches 2 [some (.inr a0), some (.inl x1), some (.inl (x2 + 1))] [] M6 Q))) : fx_At E m_X10_layStitches 2 [some (.inr a0), some (.inl x1), some (.inl x2)] [] M Q := by
  refine x_iload_n (pc := 2) dX10_layStitches_2 rfl rfl ?_
  refine x_sipush (pc := 3) dX10_layStitches_3 (by decide +kernel) ?_
  obtain ⟨g1, h⟩ := h
  refine x_cgt (pc := 6) 23 dX10_layStitches_6 (by decide) ⟨g1, ⟨by decide, by decide⟩⟩ (fun hc => ?_) (fun hc => ?_)
  · replace h := h.1 hc
    refine x_aload_n (pc := 23) dX10_layStitches_23 rfl rfl ?_
    refine x_iload_n (pc := 24) dX10_layStitches_24 rfl rfl ?_
    refine x_iconst (pc := 25) dX10_layStitches_25 ?_
    obtain ⟨R2, hc2, h⟩ := h
    refine x_callV (pc := 26) (z := m_X10_stitch) (b := a0) (as := [.inl x1, .inl 1]) (rest := []) dX10_layStitches_26 c_RX10_152 (by decide) hk0 rfl (Nat.le_of_ble_eq_true rfl) hc2 (fun r M2 hr => ?_)
    obtain ⟨rfl, hr⟩ := hr
    replace h := h M2 hr
    show fx_At E m_X10_layStitches 29 [some (.inr a0), some (.inl x1), some (.inl x2)] [] M2 Q
    refine x_aload_n (pc := 29) dX10_layStitches_29 rfl rfl ?_
    refine x_iload_n (pc := 30) dX10_layStitches_30 rfl rfl ?_
    refine x_iconst (pc := 31) dX10_layStitches_31 ?_
    obtain ⟨R3, hc3, h⟩ := h
    refine x_callV (pc := 32) (z := m_X10_stitch) (b := a0) (as := [.inl x1, .inl 3]) (rest := []) dX10_layStitches_32 c_RX10_152 (by decide) hk0 rfl (Nat.le_of_ble_eq_true rfl) hc3 (fun r M3 hr => ?_)
    obtain ⟨rfl, hr⟩ := hr
    replace h := h M3 hr
    show fx_At E m_X10_layStitches 35 [some (.inr a0), some (.inl x1), some (.inl x2)] [] M3 Q
    refine x_aload_n (pc := 35) dX10_layStitches_35 rfl rfl ?_
    refine x_iload_n (pc := 36) dX10_layStitches_36 rfl rfl ?_
    refine x_bipush (pc := 37) dX10_layStitches_37 (by decide +kernel) ?_
    obtain ⟨R4, hc4, h⟩ := h
    refine x_callV (pc := 39) (z := m_X10_stitch) (b := a0) (as := [.inl x1, .inl 9]) (rest := []) dX10_layStitches_39 c_RX10_152 (by decide) hk0 rfl (Nat.le_of_ble_eq_true rfl) hc4 (fun r M4 hr => ?_)
    obtain ⟨rfl, hr⟩ := hr
    replace h := h M4 hr
    show fx_At E m_X10_layStitches 42 [some (.inr a0), some (.inl x1), some (.inl x2)] [] M4 Q
    exact x_vret (pc := 42) dX10_layStitches_42 rfl h
  · replace h := h.2 hc
    refine x_aload_n (pc := 9) dX10_layStitches_9 rfl rfl ?_
    refine x_getr (pc := 10) dX10_layStitches_10 f_RX10_42 hk0 ?_
    refine x_iload_n (pc := 13) dX10_layStitches_13 rfl rfl ?_
    refine x_ldc (pc := 14) (n := -1000005) dX10_layStitches_14 k_RX10_23 rfl ?_
    obtain ⟨g5, h⟩ := h
    refine x_iast (pc := 16) dX10_layStitches_16 (wk_10_14 hW hk0) (wl_10_14 hW hk0) g5 (fun M6 hM6 => ?_)
    replace h := h M6 hM6
    refine x_iinc (pc := 17) (lv' := [some (.inr a0), some (.inl x1), some (.inl (x2 + 1))]) dX10_layStitches_17 rfl (by decide) rfl ?_
    refine x_goto (pc := 20) 2 dX10_layStitches_20 (by decide) ?_
    exact h
theorem dX10_stitched_0 : decode cX10_stitched 0 = .ok (.iload_n 1, 1) := by decide +kernel
theorem dX10_stitched_1 : decode cX10_stitched 1 = .ok (.invokestatic 109, 3) := by decide +kernel
theorem dX10_stitched_4 : decode cX10_stitched 4 = .ok (.ifCond .eq 14, 3) := by decide +kernel
theorem dX10_stitched_7 : decode cX10_stitched 7 = .ok (.iload_n 2, 1) := by decide +kernel
theorem dX10_stitched_8 : decode cX10_stitched 8 = .ok (.iconst 0, 1) := by decide +kernel
theorem dX10_stitched_9 : decode cX10_stitched 9 = .ok (.sipush 400, 3) := by decide +kernel
theorem dX10_stitched_12 : decode cX10_stitched 12 = .ok (.invokestatic 74, 3) := by decide +kernel
theorem dX10_stitched_15 : decode cX10_stitched 15 = .ok (.ifCond .ne 6, 3) := by decide +kernel
theorem dX10_stitched_18 : decode cX10_stitched 18 = .ok (.ldc 81, 2) := by decide +kernel
theorem dX10_stitched_20 : decode cX10_stitched 20 = .ok (.ireturn, 1) := by decide +kernel
theorem dX10_stitched_21 : decode cX10_stitched 21 = .ok (.aload_n 0, 1) := by decide +kernel
theorem dX10_stitched_22 : decode cX10_stitched 22 = .ok (.iload_n 1, 1) := by decide +kernel
theorem dX10_stitched_23 : decode cX10_stitched 23 = .ok (.invokevirtual 155, 3) := by decide +kernel
theorem dX10_stitched_26 : decode cX10_stitched 26 = .ok (.aload_n 0, 1) := by decide +kernel
theorem dX10_stitched_27 : decode cX10_stitched 27 = .ok (.getfield 42, 3) := by decide +kernel
theorem dX10_stitched_30 : decode cX10_stitched 30 = .ok (.iload_n 2, 1) := by decide +kernel
theorem dX10_stitched_31 : decode cX10_stitched 31 = .ok (.iaload, 1) := by decide +kernel
theorem dX10_stitched_32 : decode cX10_stitched 32 = .ok (.ireturn, 1) := by decide +kernel
set_option maxRecDepth 100000 in
theorem b_X10_stitched_0 {E : fxE} (hW : fx_Wt E) (a0 : Nat) (x1 : Int) (x2 : Int) (M : fxM) (Q : Option fxV → fxM → Prop) (hk0 : kd E a0 = 10) (h : (-2147483648 ≤ x1 ∧ x1 < 2147483648) ∧ (((0 : Int) ≤ x1 ∧ x1 ≤ (1 : Int) → (-2147483648 ≤ x2 ∧ x2 < 2147483648) ∧ (((0 : Int) ≤ x2 ∧ x2 ≤ (400 : Int) → ∃ R5 : fxM → Prop, CtV E m_X10_layStitches [.inr a0, .inl x1] M R5 ∧ ∀ M5 : fxM, R5 M5 → (0 ≤ x2 ∧ x2 < 401) ∧ Q (some (.inl (M5 (rf E a0 14) (x2.toNat)))) M5) ∧ (¬ ((0 : Int) ≤ x2 ∧ x2 ≤ (400 : Int)) → Q (some (.inl (-1000002))) M))) ∧ (¬ ((0 : Int) ≤ x1 ∧ x1 ≤ (1 : Int)) → Q (some (.inl (-1000002))) M))) : fx_At E m_X10_stitched 0 [some (.inr a0), some (.inl x1), some (.inl x2)] [] M Q := by
  refine x_iload_n (pc := 0) dX10_stitched_0 rfl rfl ?_
  obtain ⟨g1, h⟩ := h
  refine x_callS (pc := 1) (z := m_X10_isSide) (as := [.inl x1]) (rest := []) dX10_stitched_1 c_RX10_109 (by decide) rfl (Nat.le_of_ble_eq_true rfl) (ct_X10_isSide hW g1) (fun r M9 hr => ?_)
  obtain ⟨hM9, hr⟩ := hr
  rw [hM9]
  clear hM9
  obtain ⟨hc, rfl⟩ | ⟨hc, rfl⟩ := hr
  · replace h := h.1 hc
    show fx_At E m_X10_stitched 4 [some (.inr a0), some (.inl x1), some (.inl x2)] [.inl 1] _ Q
    refine x_zeq (pc := 4) 18 dX10_stitched_4 (by decide) ⟨by decide, by decide⟩ (fun hx => absurd hx (by decide)) (fun _ => ?_)
    refine x_iload_n (pc := 7) dX10_stitched_7 rfl rfl ?_
    refine x_iconst (pc := 8) dX10_stitched_8 ?_
    refine x_sipush (pc := 9) dX10_stitched_9 (by decide +kernel) ?_
    obtain ⟨g3, h⟩ := h
    refine x_callS (pc := 12) (z := m_X10_isIn) (as := [.inl x2, .inl 0, .inl 400]) (rest := []) dX10_stitched_12 c_RX10_74 (by decide) rfl (Nat.le_of_ble_eq_true rfl) (ct_isIn hW g3 ⟨by decide, by decide⟩ ⟨by decide, by decide⟩) (fun r M9 hr => ?_)
    obtain ⟨hM9, hr⟩ := hr
    rw [hM9]
    clear hM9
    obtain ⟨hc, rfl⟩ | ⟨hc, rfl⟩ := hr
    · replace h := h.1 hc
      show fx_At E m_X10_stitched 15 [some (.inr a0), some (.inl x1), some (.inl x2)] [.inl 1] _ Q
      refine x_zne (pc := 15) 21 dX10_stitched_15 (by decide) ⟨by decide, by decide⟩ (fun _ => ?_) (fun hx => absurd hx (by decide))
      refine x_aload_n (pc := 21) dX10_stitched_21 rfl rfl ?_
      refine x_iload_n (pc := 22) dX10_stitched_22 rfl rfl ?_
      obtain ⟨R5, hc5, h⟩ := h
      refine x_callV (pc := 23) (z := m_X10_layStitches) (b := a0) (as := [.inl x1]) (rest := []) dX10_stitched_23 c_RX10_155 (by decide) hk0 rfl (Nat.le_of_ble_eq_true rfl) hc5 (fun r M5 hr => ?_)
      obtain ⟨rfl, hr⟩ := hr
      replace h := h M5 hr
      show fx_At E m_X10_stitched 26 [some (.inr a0), some (.inl x1), some (.inl x2)] [] M5 Q
      refine x_aload_n (pc := 26) dX10_stitched_26 rfl rfl ?_
      refine x_getr (pc := 27) dX10_stitched_27 f_RX10_42 hk0 ?_
      refine x_iload_n (pc := 30) dX10_stitched_30 rfl rfl ?_
      obtain ⟨g6, h⟩ := h
      refine x_iald (pc := 31) dX10_stitched_31 (wk_10_14 hW hk0) (wl_10_14 hW hk0) g6 ?_
      exact x_iret (pc := 32) dX10_stitched_32 (Or.inl rfl) h
    · replace h := h.2 hc
      show fx_At E m_X10_stitched 15 [some (.inr a0), some (.inl x1), some (.inl x2)] [.inl 0] _ Q
      refine x_zne (pc := 15) 21 dX10_stitched_15 (by decide) ⟨by decide, by decide⟩ (fun hx => absurd hx (by decide)) (fun _ => ?_)
      refine x_ldc (pc := 18) (n := -1000002) dX10_stitched_18 k_RX10_81 rfl ?_
      exact x_iret (pc := 20) dX10_stitched_20 (Or.inl rfl) h
  · replace h := h.2 hc
    show fx_At E m_X10_stitched 4 [some (.inr a0), some (.inl x1), some (.inl x2)] [.inl 0] _ Q
    refine x_zeq (pc := 4) 18 dX10_stitched_4 (by decide) ⟨by decide, by decide⟩ (fun _ => ?_) (fun hx => absurd hx (by decide))
    refine x_ldc (pc := 18) (n := -1000002) dX10_stitched_18 k_RX10_81 rfl ?_
    exact x_iret (pc := 20) dX10_stitched_20 (Or.inl rfl) h
theorem dX10_stitchedCount_0 : decode cX10_stitchedCount 0 = .ok (.iload_n 1, 1) := by decide +kernel
theorem dX10_stitchedCount_1 : decode cX10_stitchedCount 1 = .ok (.invokestatic 109, 3) := by decide +kernel
theorem dX10_stitchedCount_4 : decode cX10_stitchedCount 4 = .ok (.ifCond .ne 6, 3) := by decide +kernel
theorem dX10_stitchedCount_7 : decode cX10_stitchedCount 7 = .ok (.ldc 81, 2) := by decide +kernel
theorem dX10_stitchedCount_9 : decode cX10_stitchedCount 9 = .ok (.ireturn, 1) := by decide +kernel
theorem dX10_stitchedCount_10 : decode cX10_stitchedCount 10 = .ok (.aload_n 0, 1) := by decide +kernel
theorem dX10_stitchedCount_11 : decode cX10_stitchedCount 11 = .ok (.iload_n 1, 1) := by decide +kernel
theorem dX10_stitchedCount_12 : decode cX10_stitchedCount 12 = .ok (.invokevirtual 155, 3) := by decide +kernel
theorem dX10_stitchedCount_15 : decode cX10_stitchedCount 15 = .ok (.iconst 0, 1) := by decide +kernel
theorem dX10_stitchedCount_16 : decode cX10_stitchedCount 16 = .ok (.istore_n 2, 1) := by decide +kernel
theorem dX10_stitchedCount_17 : decode cX10_stitchedCount 17 = .ok (.iconst 0, 1) := by decide +kernel
theorem dX10_stitchedCount_18 : decode cX10_stitchedCount 18 = .ok (.istore_n 3, 1) := by decide +kernel
theorem dX10_stitchedCount_19 : decode cX10_stitchedCount 19 = .ok (.iload_n 3, 1) := by decide +kernel
theorem dX10_stitchedCount_20 : decode cX10_stitchedCount 20 = .ok (.sipush 400, 3) := by decide +kernel
theorem dX10_stitchedCount_23 : decode cX10_stitchedCount 23 = .ok (.if_icmp .gt 28, 3) := by decide +kernel
theorem dX10_stitchedCount_26 : decode cX10_stitchedCount 26 = .ok (.iload_n 2, 1) := by decide +kernel
theorem dX10_stitchedCount_27 : decode cX10_stitchedCount 27 = .ok (.aload_n 0, 1) := by decide +kernel
theorem dX10_stitchedCount_28 : decode cX10_stitchedCount 28 = .ok (.getfield 42, 3) := by decide +kernel
theorem dX10_stitchedCount_31 : decode cX10_stitchedCount 31 = .ok (.iload_n 3, 1) := by decide +kernel
theorem dX10_stitchedCount_32 : decode cX10_stitchedCount 32 = .ok (.iaload, 1) := by decide +kernel
theorem dX10_stitchedCount_33 : decode cX10_stitchedCount 33 = .ok (.ldc 23, 2) := by decide +kernel
theorem dX10_stitchedCount_35 : decode cX10_stitchedCount 35 = .ok (.if_icmp .eq 7, 3) := by decide +kernel
theorem dX10_stitchedCount_38 : decode cX10_stitchedCount 38 = .ok (.iconst 1, 1) := by decide +kernel
theorem dX10_stitchedCount_39 : decode cX10_stitchedCount 39 = .ok (.goto 4, 3) := by decide +kernel
theorem dX10_stitchedCount_42 : decode cX10_stitchedCount 42 = .ok (.iconst 0, 1) := by decide +kernel
theorem dX10_stitchedCount_43 : decode cX10_stitchedCount 43 = .ok (.iadd, 1) := by decide +kernel
theorem dX10_stitchedCount_44 : decode cX10_stitchedCount 44 = .ok (.istore_n 2, 1) := by decide +kernel
theorem dX10_stitchedCount_45 : decode cX10_stitchedCount 45 = .ok (.iinc 3 1, 3) := by decide +kernel
theorem dX10_stitchedCount_48 : decode cX10_stitchedCount 48 = .ok (.goto (-29), 3) := by decide +kernel
theorem dX10_stitchedCount_51 : decode cX10_stitchedCount 51 = .ok (.iload_n 2, 1) := by decide +kernel
theorem dX10_stitchedCount_52 : decode cX10_stitchedCount 52 = .ok (.ireturn, 1) := by decide +kernel
set_option maxRecDepth 100000 in
theorem b_X10_stitchedCount_0 {E : fxE} (hW : fx_Wt E) (a0 : Nat) (x1 : Int) (M : fxM) (Q : Option fxV → fxM → Prop) (hk0 : kd E a0 = 10) (h : (-2147483648 ≤ x1 ∧ x1 < 2147483648) ∧ (((0 : Int) ≤ x1 ∧ x1 ≤ (1 : Int) → ∃ R3 : fxM → Prop, CtV E m_X10_layStitches [.inr a0, .inl x1] M R3 ∧ ∀ M3 : fxM, R3 M3 → fx_At E m_X10_stitchedCount 19 [some (.inr a0), some (.inl x1), some (.inl 0), some (.inl 0)] [] M3 Q) ∧ (¬ ((0 : Int) ≤ x1 ∧ x1 ≤ (1 : Int)) → Q (some (.inl (-1000002))) M))) : fx_At E m_X10_stitchedCount 0 [some (.inr a0), some (.inl x1), none, none] [] M Q := by
  refine x_iload_n (pc := 0) dX10_stitchedCount_0 rfl rfl ?_
  obtain ⟨g1, h⟩ := h
  refine x_callS (pc := 1) (z := m_X10_isSide) (as := [.inl x1]) (rest := []) dX10_stitchedCount_1 c_RX10_109 (by decide) rfl (Nat.le_of_ble_eq_true rfl) (ct_X10_isSide hW g1) (fun r M9 hr => ?_)
  obtain ⟨hM9, hr⟩ := hr
  rw [hM9]
  clear hM9
  obtain ⟨hc, rfl⟩ | ⟨hc, rfl⟩ := hr
  · replace h := h.1 hc
    show fx_At E m_X10_stitchedCount 4 [some (.inr a0), some (.inl x1), none, none] [.inl 1] _ Q
    refine x_zne (pc := 4) 10 dX10_stitchedCount_4 (by decide) ⟨by decide, by decide⟩ (fun _ => ?_) (fun hx => absurd hx (by decide))
    refine x_aload_n (pc := 10) dX10_stitchedCount_10 rfl rfl ?_
    refine x_iload_n (pc := 11) dX10_stitchedCount_11 rfl rfl ?_
    obtain ⟨R3, hc3, h⟩ := h
    refine x_callV (pc := 12) (z := m_X10_layStitches) (b := a0) (as := [.inl x1]) (rest := []) dX10_stitchedCount_12 c_RX10_155 (by decide) hk0 rfl (Nat.le_of_ble_eq_true rfl) hc3 (fun r M3 hr => ?_)
    obtain ⟨rfl, hr⟩ := hr
    replace h := h M3 hr
    show fx_At E m_X10_stitchedCount 15 [some (.inr a0), some (.inl x1), none, none] [] M3 Q
    refine x_iconst (pc := 15) dX10_stitchedCount_15 ?_
    refine x_istore_n (pc := 16) (lv' := [some (.inr a0), some (.inl x1), some (.inl 0), none]) dX10_stitchedCount_16 rfl (by decide) rfl ?_
    refine x_iconst (pc := 17) dX10_stitchedCount_17 ?_
    refine x_istore_n (pc := 18) (lv' := [some (.inr a0), some (.inl x1), some (.inl 0), some (.inl 0)]) dX10_stitchedCount_18 rfl (by decide) rfl ?_
    exact h
  · replace h := h.2 hc
    show fx_At E m_X10_stitchedCount 4 [some (.inr a0), some (.inl x1), none, none] [.inl 0] _ Q
    refine x_zne (pc := 4) 10 dX10_stitchedCount_4 (by decide) ⟨by decide, by decide⟩ (fun hx => absurd hx (by decide)) (fun _ => ?_)
    refine x_ldc (pc := 7) (n := -1000002) dX10_stitchedCount_7 k_RX10_81 rfl ?_
    exact x_iret (pc := 9) dX10_stitchedCount_9 (Or.inl rfl) h
set_option maxRecDepth 100000 in
theorem b_X10_stitchedCount_19 {E : fxE} (hW : fx_Wt E) (a0 : Nat) (x1 : Int) (x2 : Int) (x3 : Int) (M : fxM) (Q : Option fxV → fxM → Prop) (hk0 : kd E a0 = 10) (h : (-2147483648 ≤ x3 ∧ x3 < 2147483648) ∧ (((400 : Int) < x3 → Q (some (.inl x2)) M) ∧ (¬ (400 : Int) < x3 → (0 ≤ x3 ∧ x3 < 401) ∧ (-2147483648 ≤ (M (rf E a0 14) (x3.toNat)) ∧ (M (rf E a0 14) (x3.toNat)) < 2147483648) ∧ (((M (rf E a0 14) (x3.toNat)) = (-1000005 : Int) → fx_At E m_X10_stitchedCount 19 [some (.inr a0), some (.inl x1), some (.inl (x2 + 0)), some (.inl (x3 + 1))] [] M Q) ∧ (¬ (M (rf E a0 14) (x3.toNat)) = (-1000005 : Int) → fx_At E m_X10_stitchedCount 19 [some (.inr a0), some (.inl x1), some (.inl (x2 + 1)), some (.inl (x3 + 1))] [] M Q))))) : fx_At E m_X10_stitchedCount 19 [some (.inr a0), some (.inl x1), some (.inl x2), some (.inl x3)] [] M Q := by
  refine x_iload_n (pc := 19) dX10_stitchedCount_19 rfl rfl ?_
  refine x_sipush (pc := 20) dX10_stitchedCount_20 (by decide +kernel) ?_
  obtain ⟨g1, h⟩ := h
  refine x_cgt (pc := 23) 51 dX10_stitchedCount_23 (by decide) ⟨g1, ⟨by decide, by decide⟩⟩ (fun hc => ?_) (fun hc => ?_)
  · replace h := h.1 hc
    refine x_iload_n (pc := 51) dX10_stitchedCount_51 rfl rfl ?_
    exact x_iret (pc := 52) dX10_stitchedCount_52 (Or.inl rfl) h
  · replace h := h.2 hc
    refine x_iload_n (pc := 26) dX10_stitchedCount_26 rfl rfl ?_
    refine x_aload_n (pc := 27) dX10_stitchedCount_27 rfl rfl ?_
    refine x_getr (pc := 28) dX10_stitchedCount_28 f_RX10_42 hk0 ?_
    refine x_iload_n (pc := 31) dX10_stitchedCount_31 rfl rfl ?_
    obtain ⟨g2, h⟩ := h
    refine x_iald (pc := 32) dX10_stitchedCount_32 (wk_10_14 hW hk0) (wl_10_14 hW hk0) g2 ?_
    refine x_ldc (pc := 33) (n := -1000005) dX10_stitchedCount_33 k_RX10_23 rfl ?_
    obtain ⟨g3, h⟩ := h
    refine x_ceq (pc := 35) 42 dX10_stitchedCount_35 (by decide) ⟨g3, ⟨by decide, by decide⟩⟩ (fun hc => ?_) (fun hc => ?_)
    · replace h := h.1 hc
      refine x_iconst (pc := 42) dX10_stitchedCount_42 ?_
      refine x_iadd (pc := 43) dX10_stitchedCount_43 ?_
      refine x_istore_n (pc := 44) (lv' := [some (.inr a0), some (.inl x1), some (.inl (x2 + 0)), some (.inl x3)]) dX10_stitchedCount_44 rfl (by decide) rfl ?_
      refine x_iinc (pc := 45) (lv' := [some (.inr a0), some (.inl x1), some (.inl (x2 + 0)), some (.inl (x3 + 1))]) dX10_stitchedCount_45 rfl (by decide) rfl ?_
      refine x_goto (pc := 48) 19 dX10_stitchedCount_48 (by decide) ?_
      exact h
    · replace h := h.2 hc
      refine x_iconst (pc := 38) dX10_stitchedCount_38 ?_
      refine x_goto (pc := 39) 43 dX10_stitchedCount_39 (by decide) ?_
      refine x_iadd (pc := 43) dX10_stitchedCount_43 ?_
      refine x_istore_n (pc := 44) (lv' := [some (.inr a0), some (.inl x1), some (.inl (x2 + 1)), some (.inl x3)]) dX10_stitchedCount_44 rfl (by decide) rfl ?_
      refine x_iinc (pc := 45) (lv' := [some (.inr a0), some (.inl x1), some (.inl (x2 + 1)), some (.inl (x3 + 1))]) dX10_stitchedCount_45 rfl (by decide) rfl ?_
      refine x_goto (pc := 48) 19 dX10_stitchedCount_48 (by decide) ?_
      exact h
theorem dX10_isMarked_0 : decode cX10_isMarked 0 = .ok (.aload_n 0, 1) := by decide +kernel
theorem dX10_isMarked_1 : decode cX10_isMarked 1 = .ok (.iload_n 1, 1) := by decide +kernel
theorem dX10_isMarked_2 : decode cX10_isMarked 2 = .ok (.invokevirtual 158, 3) := by decide +kernel
theorem dX10_isMarked_5 : decode cX10_isMarked 5 = .ok (.istore_n 2, 1) := by decide +kernel
theorem dX10_isMarked_6 : decode cX10_isMarked 6 = .ok (.iload_n 2, 1) := by decide +kernel
theorem dX10_isMarked_7 : decode cX10_isMarked 7 = .ok (.aload_n 0, 1) := by decide +kernel
theorem dX10_isMarked_8 : decode cX10_isMarked 8 = .ok (.getfield 7, 3) := by decide +kernel
theorem dX10_isMarked_11 : decode cX10_isMarked 11 = .ok (.bipush 59, 2) := by decide +kernel
theorem dX10_isMarked_13 : decode cX10_isMarked 13 = .ok (.iaload, 1) := by decide +kernel
theorem dX10_isMarked_14 : decode cX10_isMarked 14 = .ok (.if_icmp .ge 15, 3) := by decide +kernel
theorem dX10_isMarked_17 : decode cX10_isMarked 17 = .ok (.iload_n 2, 1) := by decide +kernel
theorem dX10_isMarked_18 : decode cX10_isMarked 18 = .ok (.aload_n 0, 1) := by decide +kernel
theorem dX10_isMarked_19 : decode cX10_isMarked 19 = .ok (.getfield 7, 3) := by decide +kernel
theorem dX10_isMarked_22 : decode cX10_isMarked 22 = .ok (.bipush 59, 2) := by decide +kernel
theorem dX10_isMarked_24 : decode cX10_isMarked 24 = .ok (.iaload, 1) := by decide +kernel
theorem dX10_isMarked_25 : decode cX10_isMarked 25 = .ok (.ineg, 1) := by decide +kernel
theorem dX10_isMarked_26 : decode cX10_isMarked 26 = .ok (.if_icmp .gt 7, 3) := by decide +kernel
theorem dX10_isMarked_29 : decode cX10_isMarked 29 = .ok (.iconst 1, 1) := by decide +kernel
theorem dX10_isMarked_30 : decode cX10_isMarked 30 = .ok (.goto 4, 3) := by decide +kernel
theorem dX10_isMarked_33 : decode cX10_isMarked 33 = .ok (.iconst 0, 1) := by decide +kernel
theorem dX10_isMarked_34 : decode cX10_isMarked 34 = .ok (.istore_n 3, 1) := by decide +kernel
theorem dX10_isMarked_35 : decode cX10_isMarked 35 = .ok (.iload_n 3, 1) := by decide +kernel
theorem dX10_isMarked_36 : decode cX10_isMarked 36 = .ok (.ifCond .eq 33, 3) := by decide +kernel
theorem dX10_isMarked_39 : decode cX10_isMarked 39 = .ok (.aload_n 0, 1) := by decide +kernel
theorem dX10_isMarked_40 : decode cX10_isMarked 40 = .ok (.getfield 39, 3) := by decide +kernel
theorem dX10_isMarked_43 : decode cX10_isMarked 43 = .ok (.iload_n 1, 1) := by decide +kernel
theorem dX10_isMarked_44 : decode cX10_isMarked 44 = .ok (.iaload, 1) := by decide +kernel
theorem dX10_isMarked_45 : decode cX10_isMarked 45 = .ok (.sipush 5000, 3) := by decide +kernel
theorem dX10_isMarked_48 : decode cX10_isMarked 48 = .ok (.if_icmp .gt 17, 3) := by decide +kernel
theorem dX10_isMarked_51 : decode cX10_isMarked 51 = .ok (.aload_n 0, 1) := by decide +kernel
theorem dX10_isMarked_52 : decode cX10_isMarked 52 = .ok (.getfield 39, 3) := by decide +kernel
theorem dX10_isMarked_55 : decode cX10_isMarked 55 = .ok (.iload_n 1, 1) := by decide +kernel
theorem dX10_isMarked_56 : decode cX10_isMarked 56 = .ok (.iconst 1, 1) := by decide +kernel
theorem dX10_isMarked_57 : decode cX10_isMarked 57 = .ok (.isub, 1) := by decide +kernel
theorem dX10_isMarked_58 : decode cX10_isMarked 58 = .ok (.iaload, 1) := by decide +kernel
theorem dX10_isMarked_59 : decode cX10_isMarked 59 = .ok (.sipush 5000, 3) := by decide +kernel
theorem dX10_isMarked_62 : decode cX10_isMarked 62 = .ok (.if_icmp .le 7, 3) := by decide +kernel
theorem dX10_isMarked_65 : decode cX10_isMarked 65 = .ok (.iconst 1, 1) := by decide +kernel
theorem dX10_isMarked_66 : decode cX10_isMarked 66 = .ok (.goto 4, 3) := by decide +kernel
theorem dX10_isMarked_69 : decode cX10_isMarked 69 = .ok (.iconst 0, 1) := by decide +kernel
theorem dX10_isMarked_70 : decode cX10_isMarked 70 = .ok (.ireturn, 1) := by decide +kernel
set_option maxRecDepth 100000 in
theorem b_X10_isMarked_0 {E : fxE} (hW : fx_Wt E) (a0 : Nat) (x1 : Int) (M : fxM) (Q : Option fxV → fxM → Prop) (hk0 : kd E a0 = 10) (h : (1 ≤ x1 ∧ x1 ≤ 400) ∧ (-2147483648 ≤ (rdev E M a0 x1) ∧ (rdev E M a0 x1) < 2147483648) ∧ (-2147483648 ≤ (M (rf E a0 0) 59) ∧ (M (rf E a0 0) 59) < 2147483648) ∧ (((M (rf E a0 0) 59) ≤ (rdev E M a0 x1) → fx_At E m_X10_isMarked 34 [some (.inr a0), some (.inl x1), some (.inl (rdev E M a0 x1)), none] [.inl 1] M Q) ∧ (¬ (M (rf E a0 0) 59) ≤ (rdev E M a0 x1) → (-2147483648 ≤ (-(M (rf E a0 0) 59)) ∧ (-(M (rf E a0 0) 59)) < 2147483648) ∧ (((-(M (rf E a0 0) 59)) < (rdev E M a0 x1) → fx_At E m_X10_isMarked 34 [some (.inr a0), some (.inl x1), some (.inl (rdev E M a0 x1)), none] [.inl 0] M Q) ∧ (¬ (-(M (rf E a0 0) 59)) < (rdev E M a0 x1) → fx_At E m_X10_isMarked 34 [some (.inr a0), some (.inl x1), some (.inl (rdev E M a0 x1)), none] [.inl 1] M Q))))) : fx_At E m_X10_isMarked 0 [some (.inr a0), some (.inl x1), none, none] [] M Q := by
  refine x_aload_n (pc := 0) dX10_isMarked_0 rfl rfl ?_
  refine x_iload_n (pc := 1) dX10_isMarked_1 rfl rfl ?_
  obtain ⟨g1, h⟩ := h
  refine x_callV (pc := 2) (z := m_X10_deviation) (b := a0) (as := [.inl x1]) (rest := []) dX10_isMarked_2 c_RX10_158 (by decide) hk0 rfl (Nat.le_of_ble_eq_true rfl) (ct_X10_deviation hW hk0 g1) (fun r M9 hr => ?_)
  obtain ⟨hM9, hr⟩ := hr
  rw [hM9, hr]
  clear hM9 hr
  show fx_At E m_X10_isMarked 5 [some (.inr a0), some (.inl x1), none, none] [.inl (rdev E M a0 x1)] _ Q
  refine x_istore_n (pc := 5) (lv' := [some (.inr a0), some (.inl x1), some (.inl (rdev E M a0 x1)), none]) dX10_isMarked_5 rfl (by decide) rfl ?_
  refine x_iload_n (pc := 6) dX10_isMarked_6 rfl rfl ?_
  refine x_aload_n (pc := 7) dX10_isMarked_7 rfl rfl ?_
  refine x_getr (pc := 8) dX10_isMarked_8 f_RX10_7 hk0 ?_
  refine x_bipush (pc := 11) dX10_isMarked_11 (by decide +kernel) ?_
  refine x_iald (pc := 13) dX10_isMarked_13 (wk_10_0 hW hk0) (wl_10_0 hW hk0) ⟨by decide, by decide⟩ ?_
  obtain ⟨g2, h⟩ := h
  obtain ⟨g3, h⟩ := h
  refine x_cge (pc := 14) 29 dX10_isMarked_14 (by decide) ⟨g2, g3⟩ (fun hc => ?_) (fun hc => ?_)
  · replace h := h.1 hc
    refine x_iconst (pc := 29) dX10_isMarked_29 ?_
    refine x_goto (pc := 30) 34 dX10_isMarked_30 (by decide) ?_
    exact h
  · replace h := h.2 hc
    refine x_iload_n (pc := 17) dX10_isMarked_17 rfl rfl ?_
    refine x_aload_n (pc := 18) dX10_isMarked_18 rfl rfl ?_
    refine x_getr (pc := 19) dX10_isMarked_19 f_RX10_7 hk0 ?_
    refine x_bipush (pc := 22) dX10_isMarked_22 (by decide +kernel) ?_
    refine x_iald (pc := 24) dX10_isMarked_24 (wk_10_0 hW hk0) (wl_10_0 hW hk0) ⟨by decide, by decide⟩ ?_
    refine x_ineg (pc := 25) dX10_isMarked_25 ?_
    obtain ⟨g4, h⟩ := h
    refine x_cgt (pc := 26) 33 dX10_isMarked_26 (by decide) ⟨g2, g4⟩ (fun hc => ?_) (fun hc => ?_)
    · replace h := h.1 hc
      refine x_iconst (pc := 33) dX10_isMarked_33 ?_
      exact h
    · replace h := h.2 hc
      refine x_iconst (pc := 29) dX10_isMarked_29 ?_
      refine x_goto (pc := 30) 34 dX10_isMarked_30 (by decide) ?_
      exact h
set_option maxRecDepth 100000 in
theorem b_X10_isMarked_34 {E : fxE} (hW : fx_Wt E) (a0 : Nat) (x1 : Int) (x2 : Int) (s0 : Int) (M : fxM) (Q : Option fxV → fxM → Prop) (hk0 : kd E a0 = 10) (h : (-2147483648 ≤ s0 ∧ s0 < 2147483648) ∧ ((s0 = (0 : Int) → Q (some (.inl 0)) M) ∧ (¬ s0 = (0 : Int) → (0 ≤ x1 ∧ x1 < 401) ∧ (-2147483648 ≤ (M (rf E a0 13) (x1.toNat)) ∧ (M (rf E a0 13) (x1.toNat)) < 2147483648) ∧ (((5000 : Int) < (M (rf E a0 13) (x1.toNat)) → Q (some (.inl 1)) M) ∧ (¬ (5000 : Int) < (M (rf E a0 13) (x1.toNat)) → (0 ≤ (x1 - 1) ∧ (x1 - 1) < 401) ∧ (-2147483648 ≤ (M (rf E a0 13) ((x1 - 1).toNat)) ∧ (M (rf E a0 13) ((x1 - 1).toNat)) < 2147483648) ∧ (((M (rf E a0 13) ((x1 - 1).toNat)) ≤ (5000 : Int) → Q (some (.inl 0)) M) ∧ (¬ (M (rf E a0 13) ((x1 - 1).toNat)) ≤ (5000 : Int) → Q (some (.inl 1)) M))))))) : fx_At E m_X10_isMarked 34 [some (.inr a0), some (.inl x1), some (.inl x2), none] [.inl s0] M Q := by
  refine x_istore_n (pc := 34) (lv' := [some (.inr a0), some (.inl x1), some (.inl x2), some (.inl s0)]) dX10_isMarked_34 rfl (by decide) rfl ?_
  refine x_iload_n (pc := 35) dX10_isMarked_35 rfl rfl ?_
  obtain ⟨g1, h⟩ := h
  refine x_zeq (pc := 36) 69 dX10_isMarked_36 (by decide) g1 (fun hc => ?_) (fun hc => ?_)
  · replace h := h.1 hc
    refine x_iconst (pc := 69) dX10_isMarked_69 ?_
    exact x_iret (pc := 70) dX10_isMarked_70 (Or.inr ⟨rfl, by decide⟩) h
  · replace h := h.2 hc
    refine x_aload_n (pc := 39) dX10_isMarked_39 rfl rfl ?_
    refine x_getr (pc := 40) dX10_isMarked_40 f_RX10_39 hk0 ?_
    refine x_iload_n (pc := 43) dX10_isMarked_43 rfl rfl ?_
    obtain ⟨g2, h⟩ := h
    refine x_iald (pc := 44) dX10_isMarked_44 (wk_10_13 hW hk0) (wl_10_13 hW hk0) g2 ?_
    refine x_sipush (pc := 45) dX10_isMarked_45 (by decide +kernel) ?_
    obtain ⟨g3, h⟩ := h
    refine x_cgt (pc := 48) 65 dX10_isMarked_48 (by decide) ⟨g3, ⟨by decide, by decide⟩⟩ (fun hc => ?_) (fun hc => ?_)
    · replace h := h.1 hc
      refine x_iconst (pc := 65) dX10_isMarked_65 ?_
      refine x_goto (pc := 66) 70 dX10_isMarked_66 (by decide) ?_
      exact x_iret (pc := 70) dX10_isMarked_70 (Or.inr ⟨rfl, by decide⟩) h
    · replace h := h.2 hc
      refine x_aload_n (pc := 51) dX10_isMarked_51 rfl rfl ?_
      refine x_getr (pc := 52) dX10_isMarked_52 f_RX10_39 hk0 ?_
      refine x_iload_n (pc := 55) dX10_isMarked_55 rfl rfl ?_
      refine x_iconst (pc := 56) dX10_isMarked_56 ?_
      refine x_isub (pc := 57) dX10_isMarked_57 ?_
      obtain ⟨g4, h⟩ := h
      refine x_iald (pc := 58) dX10_isMarked_58 (wk_10_13 hW hk0) (wl_10_13 hW hk0) g4 ?_
      refine x_sipush (pc := 59) dX10_isMarked_59 (by decide +kernel) ?_
      obtain ⟨g5, h⟩ := h
      refine x_cle (pc := 62) 69 dX10_isMarked_62 (by decide) ⟨g5, ⟨by decide, by decide⟩⟩ (fun hc => ?_) (fun hc => ?_)
      · replace h := h.1 hc
        refine x_iconst (pc := 69) dX10_isMarked_69 ?_
        exact x_iret (pc := 70) dX10_isMarked_70 (Or.inr ⟨rfl, by decide⟩) h
      · replace h := h.2 hc
        refine x_iconst (pc := 65) dX10_isMarked_65 ?_
        refine x_goto (pc := 66) 70 dX10_isMarked_66 (by decide) ?_
        exact x_iret (pc := 70) dX10_isMarked_70 (Or.inr ⟨rfl, by decide⟩) h
theorem dX10_addEvent_0 : decode cX10_addEvent 0 = .ok (.aload_n 0, 1) := by decide +kernel
theorem dX10_addEvent_1 : decode cX10_addEvent 1 = .ok (.getfield 39, 3) := by decide +kernel
theorem dX10_addEvent_4 : decode cX10_addEvent 4 = .ok (.iload_n 1, 1) := by decide +kernel
theorem dX10_addEvent_5 : decode cX10_addEvent 5 = .ok (.iaload, 1) := by decide +kernel
theorem dX10_addEvent_6 : decode cX10_addEvent 6 = .ok (.istore_n 3, 1) := by decide +kernel
theorem dX10_addEvent_7 : decode cX10_addEvent 7 = .ok (.iload_n 1, 1) := by decide +kernel
theorem dX10_addEvent_8 : decode cX10_addEvent 8 = .ok (.istore 4, 2) := by decide +kernel
theorem dX10_addEvent_10 : decode cX10_addEvent 10 = .ok (.iload 4, 2) := by decide +kernel
theorem dX10_addEvent_12 : decode cX10_addEvent 12 = .ok (.iload_n 2, 1) := by decide +kernel
theorem dX10_addEvent_13 : decode cX10_addEvent 13 = .ok (.if_icmp .gt 32, 3) := by decide +kernel
theorem dX10_addEvent_16 : decode cX10_addEvent 16 = .ok (.aload_n 0, 1) := by decide +kernel
theorem dX10_addEvent_17 : decode cX10_addEvent 17 = .ok (.getfield 39, 3) := by decide +kernel
theorem dX10_addEvent_20 : decode cX10_addEvent 20 = .ok (.iload 4, 2) := by decide +kernel
theorem dX10_addEvent_22 : decode cX10_addEvent 22 = .ok (.iaload, 1) := by decide +kernel
theorem dX10_addEvent_23 : decode cX10_addEvent 23 = .ok (.iload_n 3, 1) := by decide +kernel
theorem dX10_addEvent_24 : decode cX10_addEvent 24 = .ok (.if_icmp .le 13, 3) := by decide +kernel
theorem dX10_addEvent_27 : decode cX10_addEvent 27 = .ok (.aload_n 0, 1) := by decide +kernel
theorem dX10_addEvent_28 : decode cX10_addEvent 28 = .ok (.getfield 39, 3) := by decide +kernel
theorem dX10_addEvent_31 : decode cX10_addEvent 31 = .ok (.iload 4, 2) := by decide +kernel
theorem dX10_addEvent_33 : decode cX10_addEvent 33 = .ok (.iaload, 1) := by decide +kernel
theorem dX10_addEvent_34 : decode cX10_addEvent 34 = .ok (.goto 4, 3) := by decide +kernel
theorem dX10_addEvent_37 : decode cX10_addEvent 37 = .ok (.iload_n 3, 1) := by decide +kernel
theorem dX10_addEvent_38 : decode cX10_addEvent 38 = .ok (.istore_n 3, 1) := by decide +kernel
theorem dX10_addEvent_39 : decode cX10_addEvent 39 = .ok (.iinc 4 1, 3) := by decide +kernel
theorem dX10_addEvent_42 : decode cX10_addEvent 42 = .ok (.goto (-32), 3) := by decide +kernel
theorem dX10_addEvent_45 : decode cX10_addEvent 45 = .ok (.bipush 7, 2) := by decide +kernel
theorem dX10_addEvent_47 : decode cX10_addEvent 47 = .ok (.aload_n 0, 1) := by decide +kernel
theorem dX10_addEvent_48 : decode cX10_addEvent 48 = .ok (.getfield 161, 3) := by decide +kernel
theorem dX10_addEvent_51 : decode cX10_addEvent 51 = .ok (.imul, 1) := by decide +kernel
theorem dX10_addEvent_52 : decode cX10_addEvent 52 = .ok (.istore 4, 2) := by decide +kernel
theorem dX10_addEvent_54 : decode cX10_addEvent 54 = .ok (.aload_n 0, 1) := by decide +kernel
theorem dX10_addEvent_55 : decode cX10_addEvent 55 = .ok (.getfield 45, 3) := by decide +kernel
theorem dX10_addEvent_58 : decode cX10_addEvent 58 = .ok (.iload 4, 2) := by decide +kernel
theorem dX10_addEvent_60 : decode cX10_addEvent 60 = .ok (.iconst 0, 1) := by decide +kernel
theorem dX10_addEvent_61 : decode cX10_addEvent 61 = .ok (.iadd, 1) := by decide +kernel
theorem dX10_addEvent_62 : decode cX10_addEvent 62 = .ok (.iload_n 1, 1) := by decide +kernel
theorem dX10_addEvent_63 : decode cX10_addEvent 63 = .ok (.iastore, 1) := by decide +kernel
theorem dX10_addEvent_64 : decode cX10_addEvent 64 = .ok (.aload_n 0, 1) := by decide +kernel
theorem dX10_addEvent_65 : decode cX10_addEvent 65 = .ok (.getfield 45, 3) := by decide +kernel
theorem dX10_addEvent_68 : decode cX10_addEvent 68 = .ok (.iload 4, 2) := by decide +kernel
theorem dX10_addEvent_70 : decode cX10_addEvent 70 = .ok (.iconst 1, 1) := by decide +kernel
theorem dX10_addEvent_71 : decode cX10_addEvent 71 = .ok (.iadd, 1) := by decide +kernel
theorem dX10_addEvent_72 : decode cX10_addEvent 72 = .ok (.iload_n 2, 1) := by decide +kernel
theorem dX10_addEvent_73 : decode cX10_addEvent 73 = .ok (.iastore, 1) := by decide +kernel
theorem dX10_addEvent_74 : decode cX10_addEvent 74 = .ok (.aload_n 0, 1) := by decide +kernel
theorem dX10_addEvent_75 : decode cX10_addEvent 75 = .ok (.getfield 45, 3) := by decide +kernel
theorem dX10_addEvent_78 : decode cX10_addEvent 78 = .ok (.iload 4, 2) := by decide +kernel
theorem dX10_addEvent_80 : decode cX10_addEvent 80 = .ok (.iconst 2, 1) := by decide +kernel
theorem dX10_addEvent_81 : decode cX10_addEvent 81 = .ok (.iadd, 1) := by decide +kernel
theorem dX10_addEvent_82 : decode cX10_addEvent 82 = .ok (.aload_n 0, 1) := by decide +kernel
theorem dX10_addEvent_83 : decode cX10_addEvent 83 = .ok (.getfield 39, 3) := by decide +kernel
theorem dX10_addEvent_86 : decode cX10_addEvent 86 = .ok (.iload_n 2, 1) := by decide +kernel
theorem dX10_addEvent_87 : decode cX10_addEvent 87 = .ok (.iaload, 1) := by decide +kernel
theorem dX10_addEvent_88 : decode cX10_addEvent 88 = .ok (.sipush 5000, 3) := by decide +kernel
theorem dX10_addEvent_91 : decode cX10_addEvent 91 = .ok (.if_icmp .ne 7, 3) := by decide +kernel
theorem dX10_addEvent_94 : decode cX10_addEvent 94 = .ok (.iconst 2, 1) := by decide +kernel
theorem dX10_addEvent_95 : decode cX10_addEvent 95 = .ok (.goto 16, 3) := by decide +kernel
theorem dX10_addEvent_98 : decode cX10_addEvent 98 = .ok (.aload_n 0, 1) := by decide +kernel
theorem dX10_addEvent_99 : decode cX10_addEvent 99 = .ok (.iload_n 1, 1) := by decide +kernel
theorem dX10_addEvent_100 : decode cX10_addEvent 100 = .ok (.invokevirtual 158, 3) := by decide +kernel
theorem dX10_addEvent_103 : decode cX10_addEvent 103 = .ok (.ifCond .le 7, 3) := by decide +kernel
theorem dX10_addEvent_106 : decode cX10_addEvent 106 = .ok (.iconst 1, 1) := by decide +kernel
theorem dX10_addEvent_107 : decode cX10_addEvent 107 = .ok (.goto 4, 3) := by decide +kernel
theorem dX10_addEvent_110 : decode cX10_addEvent 110 = .ok (.iconst 0, 1) := by decide +kernel
theorem dX10_addEvent_111 : decode cX10_addEvent 111 = .ok (.iastore, 1) := by decide +kernel
theorem dX10_addEvent_112 : decode cX10_addEvent 112 = .ok (.aload_n 0, 1) := by decide +kernel
theorem dX10_addEvent_113 : decode cX10_addEvent 113 = .ok (.getfield 45, 3) := by decide +kernel
theorem dX10_addEvent_116 : decode cX10_addEvent 116 = .ok (.iload 4, 2) := by decide +kernel
theorem dX10_addEvent_118 : decode cX10_addEvent 118 = .ok (.iconst 3, 1) := by decide +kernel
theorem dX10_addEvent_119 : decode cX10_addEvent 119 = .ok (.iadd, 1) := by decide +kernel
theorem dX10_addEvent_120 : decode cX10_addEvent 120 = .ok (.aload_n 0, 1) := by decide +kernel
theorem dX10_addEvent_121 : decode cX10_addEvent 121 = .ok (.getfield 39, 3) := by decide +kernel
theorem dX10_addEvent_124 : decode cX10_addEvent 124 = .ok (.iload_n 1, 1) := by decide +kernel
theorem dX10_addEvent_125 : decode cX10_addEvent 125 = .ok (.iconst 1, 1) := by decide +kernel
theorem dX10_addEvent_126 : decode cX10_addEvent 126 = .ok (.isub, 1) := by decide +kernel
theorem dX10_addEvent_127 : decode cX10_addEvent 127 = .ok (.iaload, 1) := by decide +kernel
theorem dX10_addEvent_128 : decode cX10_addEvent 128 = .ok (.aload_n 0, 1) := by decide +kernel
theorem dX10_addEvent_129 : decode cX10_addEvent 129 = .ok (.getfield 39, 3) := by decide +kernel
theorem dX10_addEvent_132 : decode cX10_addEvent 132 = .ok (.iload_n 2, 1) := by decide +kernel
theorem dX10_addEvent_133 : decode cX10_addEvent 133 = .ok (.iaload, 1) := by decide +kernel
theorem dX10_addEvent_134 : decode cX10_addEvent 134 = .ok (.isub, 1) := by decide +kernel
theorem dX10_addEvent_135 : decode cX10_addEvent 135 = .ok (.aload_n 0, 1) := by decide +kernel
theorem dX10_addEvent_136 : decode cX10_addEvent 136 = .ok (.getfield 7, 3) := by decide +kernel
theorem dX10_addEvent_139 : decode cX10_addEvent 139 = .ok (.bipush 58, 2) := by decide +kernel
theorem dX10_addEvent_141 : decode cX10_addEvent 141 = .ok (.iaload, 1) := by decide +kernel
theorem dX10_addEvent_142 : decode cX10_addEvent 142 = .ok (.iload_n 2, 1) := by decide +kernel
theorem dX10_addEvent_143 : decode cX10_addEvent 143 = .ok (.iload_n 1, 1) := by decide +kernel
theorem dX10_addEvent_144 : decode cX10_addEvent 144 = .ok (.isub, 1) := by decide +kernel
theorem dX10_addEvent_145 : decode cX10_addEvent 145 = .ok (.iconst 1, 1) := by decide +kernel
theorem dX10_addEvent_146 : decode cX10_addEvent 146 = .ok (.iadd, 1) := by decide +kernel
theorem dX10_addEvent_147 : decode cX10_addEvent 147 = .ok (.imul, 1) := by decide +kernel
theorem dX10_addEvent_148 : decode cX10_addEvent 148 = .ok (.isub, 1) := by decide +kernel
theorem dX10_addEvent_149 : decode cX10_addEvent 149 = .ok (.iastore, 1) := by decide +kernel
theorem dX10_addEvent_150 : decode cX10_addEvent 150 = .ok (.aload_n 0, 1) := by decide +kernel
theorem dX10_addEvent_151 : decode cX10_addEvent 151 = .ok (.getfield 45, 3) := by decide +kernel
theorem dX10_addEvent_154 : decode cX10_addEvent 154 = .ok (.iload 4, 2) := by decide +kernel
theorem dX10_addEvent_156 : decode cX10_addEvent 156 = .ok (.iconst 4, 1) := by decide +kernel
theorem dX10_addEvent_157 : decode cX10_addEvent 157 = .ok (.iadd, 1) := by decide +kernel
theorem dX10_addEvent_158 : decode cX10_addEvent 158 = .ok (.iload_n 3, 1) := by decide +kernel
theorem dX10_addEvent_159 : decode cX10_addEvent 159 = .ok (.aload_n 0, 1) := by decide +kernel
theorem dX10_addEvent_160 : decode cX10_addEvent 160 = .ok (.getfield 39, 3) := by decide +kernel
theorem dX10_addEvent_163 : decode cX10_addEvent 163 = .ok (.iload_n 1, 1) := by decide +kernel
theorem dX10_addEvent_164 : decode cX10_addEvent 164 = .ok (.iconst 1, 1) := by decide +kernel
theorem dX10_addEvent_165 : decode cX10_addEvent 165 = .ok (.isub, 1) := by decide +kernel
theorem dX10_addEvent_166 : decode cX10_addEvent 166 = .ok (.iaload, 1) := by decide +kernel
theorem dX10_addEvent_167 : decode cX10_addEvent 167 = .ok (.isub, 1) := by decide +kernel
theorem dX10_addEvent_168 : decode cX10_addEvent 168 = .ok (.iastore, 1) := by decide +kernel
theorem dX10_addEvent_169 : decode cX10_addEvent 169 = .ok (.aload_n 0, 1) := by decide +kernel
theorem dX10_addEvent_170 : decode cX10_addEvent 170 = .ok (.getfield 45, 3) := by decide +kernel
theorem dX10_addEvent_173 : decode cX10_addEvent 173 = .ok (.iload 4, 2) := by decide +kernel
theorem dX10_addEvent_175 : decode cX10_addEvent 175 = .ok (.iconst 5, 1) := by decide +kernel
theorem dX10_addEvent_176 : decode cX10_addEvent 176 = .ok (.iadd, 1) := by decide +kernel
theorem dX10_addEvent_177 : decode cX10_addEvent 177 = .ok (.ldc 23, 2) := by decide +kernel
theorem dX10_addEvent_179 : decode cX10_addEvent 179 = .ok (.iastore, 1) := by decide +kernel
theorem dX10_addEvent_180 : decode cX10_addEvent 180 = .ok (.aload_n 0, 1) := by decide +kernel
theorem dX10_addEvent_181 : decode cX10_addEvent 181 = .ok (.getfield 45, 3) := by decide +kernel
theorem dX10_addEvent_184 : decode cX10_addEvent 184 = .ok (.iload 4, 2) := by decide +kernel
theorem dX10_addEvent_186 : decode cX10_addEvent 186 = .ok (.bipush 6, 2) := by decide +kernel
theorem dX10_addEvent_188 : decode cX10_addEvent 188 = .ok (.iadd, 1) := by decide +kernel
theorem dX10_addEvent_189 : decode cX10_addEvent 189 = .ok (.ldc 23, 2) := by decide +kernel
theorem dX10_addEvent_191 : decode cX10_addEvent 191 = .ok (.iastore, 1) := by decide +kernel
theorem dX10_addEvent_192 : decode cX10_addEvent 192 = .ok (.aload_n 0, 1) := by decide +kernel
theorem dX10_addEvent_193 : decode cX10_addEvent 193 = .ok (.dup, 1) := by decide +kernel
theorem dX10_addEvent_194 : decode cX10_addEvent 194 = .ok (.getfield 161, 3) := by decide +kernel
theorem dX10_addEvent_197 : decode cX10_addEvent 197 = .ok (.iconst 1, 1) := by decide +kernel
theorem dX10_addEvent_198 : decode cX10_addEvent 198 = .ok (.iadd, 1) := by decide +kernel
theorem dX10_addEvent_199 : decode cX10_addEvent 199 = .ok (.putfield 161, 3) := by decide +kernel
theorem dX10_addEvent_202 : decode cX10_addEvent 202 = .ok (.return_, 1) := by decide +kernel
set_option maxRecDepth 100000 in
theorem b_X10_addEvent_0 {E : fxE} (hW : fx_Wt E) (a0 : Nat) (x1 : Int) (x2 : Int) (M : fxM) (Q : Option fxV → fxM → Prop) (hk0 : kd E a0 = 10) (h : (0 ≤ x1 ∧ x1 < 401) ∧ fx_At E m_X10_addEvent 10 [some (.inr a0), some (.inl x1), some (.inl x2), some (.inl (M (rf E a0 13) (x1.toNat))), some (.inl x1)] [] M Q) : fx_At E m_X10_addEvent 0 [some (.inr a0), some (.inl x1), some (.inl x2), none, none] [] M Q := by
  refine x_aload_n (pc := 0) dX10_addEvent_0 rfl rfl ?_
  refine x_getr (pc := 1) dX10_addEvent_1 f_RX10_39 hk0 ?_
  refine x_iload_n (pc := 4) dX10_addEvent_4 rfl rfl ?_
  obtain ⟨g1, h⟩ := h
  refine x_iald (pc := 5) dX10_addEvent_5 (wk_10_13 hW hk0) (wl_10_13 hW hk0) g1 ?_
  refine x_istore_n (pc := 6) (lv' := [some (.inr a0), some (.inl x1), some (.inl x2), some (.inl (M (rf E a0 13) (x1.toNat))), none]) dX10_addEvent_6 rfl (by decide) rfl ?_
  refine x_iload_n (pc := 7) dX10_addEvent_7 rfl rfl ?_
  refine x_istore (pc := 8) (lv' := [some (.inr a0), some (.inl x1), some (.inl x2), some (.inl (M (rf E a0 13) (x1.toNat))), some (.inl x1)]) dX10_addEvent_8 (by decide) rfl ?_
  exact h
set_option maxRecDepth 100000 in
theorem b_X10_addEvent_10 {E : fxE} (hW : fx_Wt E) (a0 : Nat) (x1 : Int) (x2 : Int) (x3 : Int) (x4 : Int) (M : fxM) (Q : Option fxV → fxM → Prop) (hk0 : kd E a0 = 10) (h : (-2147483648 ≤ x4 ∧ x4 < 2147483648) ∧ (-2147483648 ≤ x2 ∧ x2 < 2147483648) ∧ ((x2 < x4 → (0 ≤ ((7 * (M a0 16)) + 0) ∧ ((7 * (M a0 16)) + 0) < 2814) ∧ ∀ M4 : fxM, M4 = mset M (rf E a0 15) (((7 * (M a0 16)) + 0).toNat) x1 → (0 ≤ ((7 * (M a0 16)) + 1) ∧ ((7 * (M a0 16)) + 1) < 2814) ∧ ∀ M6 : fxM, M6 = mset M4 (rf E a0 15) (((7 * (M a0 16)) + 1).toNat) x2 → (0 ≤ x2 ∧ x2 < 401) ∧ (-2147483648 ≤ (M6 (rf E a0 13) (x2.toNat)) ∧ (M6 (rf E a0 13) (x2.toNat)) < 2147483648) ∧ ((¬ (M6 (rf E a0 13) (x2.toNat)) = (5000 : Int) → (1 ≤ x1 ∧ x1 ≤ 400) ∧ (-2147483648 ≤ (rdev E M6 a0 x1) ∧ (rdev E M6 a0 x1) < 2147483648) ∧ (((rdev E M6 a0 x1) ≤ (0 : Int) → fx_At E m_X10_addEvent 111 [some (.inr a0), some (.inl x1), some (.inl x2), some (.inl x3), some (.inl (7 * (M a0 16)))] [.inl 0, .inl ((7 * (M a0 16)) + 2), .inr (rf E a0 15)] M6 Q) ∧ (¬ (rdev E M6 a0 x1) ≤ (0 : Int) → fx_At E m_X10_addEvent 111 [some (.inr a0), some (.inl x1), some (.inl x2), some (.inl x3), some (.inl (7 * (M a0 16)))] [.inl 1, .inl ((7 * (M a0 16)) + 2), .inr (rf E a0 15)] M6 Q))) ∧ ((M6 (rf E a0 13) (x2.toNat)) = (5000 : Int) → fx_At E m_X10_addEvent 111 [some (.inr a0), some (.inl x1), some (.inl x2), some (.inl x3), some (.inl (7 * (M a0 16)))] [.inl 2, .inl ((7 * (M a0 16)) + 2), .inr (rf E a0 15)] M6 Q))) ∧ (¬ x2 < x4 → (0 ≤ x4 ∧ x4 < 401) ∧ (-2147483648 ≤ (M (rf E a0 13) (x4.toNat)) ∧ (M (rf E a0 13) (x4.toNat)) < 2147483648) ∧ (-2147483648 ≤ x3 ∧ x3 < 2147483648) ∧ (((M (rf E a0 13) (x4.toNat)) ≤ x3 → fx_At E m_X10_addEvent 10 [some (.inr a0), some (.inl x1), some (.inl x2), some (.inl x3), some (.inl (x4 + 1))] [] M Q) ∧ (¬ (M (rf E a0 13) (x4.toNat)) ≤ x3 → fx_At E m_X10_addEvent 10 [some (.inr a0), some (.inl x1), some (.inl x2), some (.inl (M (rf E a0 13) (x4.toNat))), some (.inl (x4 + 1))] [] M Q))))) : fx_At E m_X10_addEvent 10 [some (.inr a0), some (.inl x1), some (.inl x2), some (.inl x3), some (.inl x4)] [] M Q := by
  refine x_iload (pc := 10) dX10_addEvent_10 rfl ?_
  refine x_iload_n (pc := 12) dX10_addEvent_12 rfl rfl ?_
  obtain ⟨g1, h⟩ := h
  obtain ⟨g2, h⟩ := h
  refine x_cgt (pc := 13) 45 dX10_addEvent_13 (by decide) ⟨g1, g2⟩ (fun hc => ?_) (fun hc => ?_)
  · replace h := h.1 hc
    refine x_bipush (pc := 45) dX10_addEvent_45 (by decide +kernel) ?_
    refine x_aload_n (pc := 47) dX10_addEvent_47 rfl rfl ?_
    refine x_geti (pc := 48) dX10_addEvent_48 f_RX10_161 hk0 ?_
    refine x_imul (pc := 51) dX10_addEvent_51 ?_
    refine x_istore (pc := 52) (lv' := [some (.inr a0), some (.inl x1), some (.inl x2), some (.inl x3), some (.inl (7 * (M a0 16)))]) dX10_addEvent_52 (by decide) rfl ?_
    refine x_aload_n (pc := 54) dX10_addEvent_54 rfl rfl ?_
    refine x_getr (pc := 55) dX10_addEvent_55 f_RX10_45 hk0 ?_
    refine x_iload (pc := 58) dX10_addEvent_58 rfl ?_
    refine x_iconst (pc := 60) dX10_addEvent_60 ?_
    refine x_iadd (pc := 61) dX10_addEvent_61 ?_
    refine x_iload_n (pc := 62) dX10_addEvent_62 rfl rfl ?_
    obtain ⟨g3, h⟩ := h
    refine x_iast (pc := 63) dX10_addEvent_63 (wk_10_15 hW hk0) (wl_10_15 hW hk0) g3 (fun M4 hM4 => ?_)
    replace h := h M4 hM4
    refine x_aload_n (pc := 64) dX10_addEvent_64 rfl rfl ?_
    refine x_getr (pc := 65) dX10_addEvent_65 f_RX10_45 hk0 ?_
    refine x_iload (pc := 68) dX10_addEvent_68 rfl ?_
    refine x_iconst (pc := 70) dX10_addEvent_70 ?_
    refine x_iadd (pc := 71) dX10_addEvent_71 ?_
    refine x_iload_n (pc := 72) dX10_addEvent_72 rfl rfl ?_
    obtain ⟨g5, h⟩ := h
    refine x_iast (pc := 73) dX10_addEvent_73 (wk_10_15 hW hk0) (wl_10_15 hW hk0) g5 (fun M6 hM6 => ?_)
    replace h := h M6 hM6
    refine x_aload_n (pc := 74) dX10_addEvent_74 rfl rfl ?_
    refine x_getr (pc := 75) dX10_addEvent_75 f_RX10_45 hk0 ?_
    refine x_iload (pc := 78) dX10_addEvent_78 rfl ?_
    refine x_iconst (pc := 80) dX10_addEvent_80 ?_
    refine x_iadd (pc := 81) dX10_addEvent_81 ?_
    refine x_aload_n (pc := 82) dX10_addEvent_82 rfl rfl ?_
    refine x_getr (pc := 83) dX10_addEvent_83 f_RX10_39 hk0 ?_
    refine x_iload_n (pc := 86) dX10_addEvent_86 rfl rfl ?_
    obtain ⟨g7, h⟩ := h
    refine x_iald (pc := 87) dX10_addEvent_87 (wk_10_13 hW hk0) (wl_10_13 hW hk0) g7 ?_
    refine x_sipush (pc := 88) dX10_addEvent_88 (by decide +kernel) ?_
    obtain ⟨g8, h⟩ := h
    refine x_cne (pc := 91) 98 dX10_addEvent_91 (by decide) ⟨g8, ⟨by decide, by decide⟩⟩ (fun hc => ?_) (fun hc => ?_)
    · replace h := h.1 hc
      refine x_aload_n (pc := 98) dX10_addEvent_98 rfl rfl ?_
      refine x_iload_n (pc := 99) dX10_addEvent_99 rfl rfl ?_
      obtain ⟨g9, h⟩ := h
      refine x_callV (pc := 100) (z := m_X10_deviation) (b := a0) (as := [.inl x1]) (rest := [.inl ((7 * (M a0 16)) + 2), .inr (rf E a0 15)]) dX10_addEvent_100 c_RX10_158 (by decide) hk0 rfl (Nat.le_of_ble_eq_true rfl) (ct_X10_deviation hW hk0 g9) (fun r M9 hr => ?_)
      obtain ⟨hM9, hr⟩ := hr
      rw [hM9, hr]
      clear hM9 hr
      show fx_At E m_X10_addEvent 103 [some (.inr a0), some (.inl x1), some (.inl x2), some (.inl x3), some (.inl (7 * (M a0 16)))] [.inl (rdev E M6 a0 x1), .inl ((7 * (M a0 16)) + 2), .inr (rf E a0 15)] _ Q
      obtain ⟨g10, h⟩ := h
      refine x_zle (pc := 103) 110 dX10_addEvent_103 (by decide) g10 (fun hc => ?_) (fun hc => ?_)
      · replace h := h.1 hc
        refine x_iconst (pc := 110) dX10_addEvent_110 ?_
        exact h
      · replace h := h.2 hc
        refine x_iconst (pc := 106) dX10_addEvent_106 ?_
        refine x_goto (pc := 107) 111 dX10_addEvent_107 (by decide) ?_
        exact h
    · replace h := h.2 hc
      refine x_iconst (pc := 94) dX10_addEvent_94 ?_
      refine x_goto (pc := 95) 111 dX10_addEvent_95 (by decide) ?_
      exact h
  · replace h := h.2 hc
    refine x_aload_n (pc := 16) dX10_addEvent_16 rfl rfl ?_
    refine x_getr (pc := 17) dX10_addEvent_17 f_RX10_39 hk0 ?_
    refine x_iload (pc := 20) dX10_addEvent_20 rfl ?_
    obtain ⟨g11, h⟩ := h
    refine x_iald (pc := 22) dX10_addEvent_22 (wk_10_13 hW hk0) (wl_10_13 hW hk0) g11 ?_
    refine x_iload_n (pc := 23) dX10_addEvent_23 rfl rfl ?_
    obtain ⟨g12, h⟩ := h
    obtain ⟨g13, h⟩ := h
    refine x_cle (pc := 24) 37 dX10_addEvent_24 (by decide) ⟨g12, g13⟩ (fun hc => ?_) (fun hc => ?_)
    · replace h := h.1 hc
      refine x_iload_n (pc := 37) dX10_addEvent_37 rfl rfl ?_
      refine x_istore_n (pc := 38) (lv' := [some (.inr a0), some (.inl x1), some (.inl x2), some (.inl x3), some (.inl x4)]) dX10_addEvent_38 rfl (by decide) rfl ?_
      refine x_iinc (pc := 39) (lv' := [some (.inr a0), some (.inl x1), some (.inl x2), some (.inl x3), some (.inl (x4 + 1))]) dX10_addEvent_39 rfl (by decide) rfl ?_
      refine x_goto (pc := 42) 10 dX10_addEvent_42 (by decide) ?_
      exact h
    · replace h := h.2 hc
      refine x_aload_n (pc := 27) dX10_addEvent_27 rfl rfl ?_
      refine x_getr (pc := 28) dX10_addEvent_28 f_RX10_39 hk0 ?_
      refine x_iload (pc := 31) dX10_addEvent_31 rfl ?_
      refine x_iald (pc := 33) dX10_addEvent_33 (wk_10_13 hW hk0) (wl_10_13 hW hk0) g11 ?_
      refine x_goto (pc := 34) 38 dX10_addEvent_34 (by decide) ?_
      refine x_istore_n (pc := 38) (lv' := [some (.inr a0), some (.inl x1), some (.inl x2), some (.inl (M (rf E a0 13) (x4.toNat))), some (.inl x4)]) dX10_addEvent_38 rfl (by decide) rfl ?_
      refine x_iinc (pc := 39) (lv' := [some (.inr a0), some (.inl x1), some (.inl x2), some (.inl (M (rf E a0 13) (x4.toNat))), some (.inl (x4 + 1))]) dX10_addEvent_39 rfl (by decide) rfl ?_
      refine x_goto (pc := 42) 10 dX10_addEvent_42 (by decide) ?_
      exact h
set_option maxRecDepth 100000 in
theorem b_X10_addEvent_111 {E : fxE} (hW : fx_Wt E) (a0 : Nat) (x1 : Int) (x2 : Int) (x3 : Int) (x4 : Int) (b0 : Nat) (s1 : Int) (s2 : Int) (M : fxM) (Q : Option fxV → fxM → Prop) (hk0 : kd E a0 = 10) (hs0 : kd E b0 = 11) (h : (0 ≤ s1 ∧ s1 < (ln E b0 : Int)) ∧ ∀ M2 : fxM, M2 = mset M b0 (s1.toNat) s2 → (0 ≤ (x1 - 1) ∧ (x1 - 1) < 401) ∧ (0 ≤ x2 ∧ x2 < 401) ∧ (0 ≤ (x4 + 3) ∧ (x4 + 3) < 2814) ∧ ∀ M6 : fxM, M6 = mset M2 (rf E a0 15) ((x4 + 3).toNat) (((M2 (rf E a0 13) ((x1 - 1).toNat)) - (M2 (rf E a0 13) (x2.toNat))) - ((M2 (rf E a0 0) 58) * ((x2 - x1) + 1))) → (0 ≤ (x4 + 4) ∧ (x4 + 4) < 2814) ∧ ∀ M8 : fxM, M8 = mset M6 (rf E a0 15) ((x4 + 4).toNat) (x3 - (M6 (rf E a0 13) ((x1 - 1).toNat))) → (0 ≤ (x4 + 5) ∧ (x4 + 5) < 2814) ∧ ∀ M10 : fxM, M10 = mset M8 (rf E a0 15) ((x4 + 5).toNat) (-1000005) → (0 ≤ (x4 + 6) ∧ (x4 + 6) < 2814) ∧ ∀ M12 : fxM, M12 = mset M10 (rf E a0 15) ((x4 + 6).toNat) (-1000005) → ∀ M13 : fxM, M13 = mset M12 a0 16 ((M12 a0 16) + 1) → Q none M13) : fx_At E m_X10_addEvent 111 [some (.inr a0), some (.inl x1), some (.inl x2), some (.inl x3), some (.inl x4)] [.inl s2, .inl s1, .inr b0] M Q := by
  obtain ⟨g1, h⟩ := h
  refine x_iast (pc := 111) dX10_addEvent_111 hs0 rfl g1 (fun M2 hM2 => ?_)
  replace h := h M2 hM2
  refine x_aload_n (pc := 112) dX10_addEvent_112 rfl rfl ?_
  refine x_getr (pc := 113) dX10_addEvent_113 f_RX10_45 hk0 ?_
  refine x_iload (pc := 116) dX10_addEvent_116 rfl ?_
  refine x_iconst (pc := 118) dX10_addEvent_118 ?_
  refine x_iadd (pc := 119) dX10_addEvent_119 ?_
  refine x_aload_n (pc := 120) dX10_addEvent_120 rfl rfl ?_
  refine x_getr (pc := 121) dX10_addEvent_121 f_RX10_39 hk0 ?_
  refine x_iload_n (pc := 124) dX10_addEvent_124 rfl rfl ?_
  refine x_iconst (pc := 125) dX10_addEvent_125 ?_
  refine x_isub (pc := 126) dX10_addEvent_126 ?_
  obtain ⟨g3, h⟩ := h
  refine x_iald (pc := 127) dX10_addEvent_127 (wk_10_13 hW hk0) (wl_10_13 hW hk0) g3 ?_
  refine x_aload_n (pc := 128) dX10_addEvent_128 rfl rfl ?_
  refine x_getr (pc := 129) dX10_addEvent_129 f_RX10_39 hk0 ?_
  refine x_iload_n (pc := 132) dX10_addEvent_132 rfl rfl ?_
  obtain ⟨g4, h⟩ := h
  refine x_iald (pc := 133) dX10_addEvent_133 (wk_10_13 hW hk0) (wl_10_13 hW hk0) g4 ?_
  refine x_isub (pc := 134) dX10_addEvent_134 ?_
  refine x_aload_n (pc := 135) dX10_addEvent_135 rfl rfl ?_
  refine x_getr (pc := 136) dX10_addEvent_136 f_RX10_7 hk0 ?_
  refine x_bipush (pc := 139) dX10_addEvent_139 (by decide +kernel) ?_
  refine x_iald (pc := 141) dX10_addEvent_141 (wk_10_0 hW hk0) (wl_10_0 hW hk0) ⟨by decide, by decide⟩ ?_
  refine x_iload_n (pc := 142) dX10_addEvent_142 rfl rfl ?_
  refine x_iload_n (pc := 143) dX10_addEvent_143 rfl rfl ?_
  refine x_isub (pc := 144) dX10_addEvent_144 ?_
  refine x_iconst (pc := 145) dX10_addEvent_145 ?_
  refine x_iadd (pc := 146) dX10_addEvent_146 ?_
  refine x_imul (pc := 147) dX10_addEvent_147 ?_
  refine x_isub (pc := 148) dX10_addEvent_148 ?_
  obtain ⟨g5, h⟩ := h
  refine x_iast (pc := 149) dX10_addEvent_149 (wk_10_15 hW hk0) (wl_10_15 hW hk0) g5 (fun M6 hM6 => ?_)
  replace h := h M6 hM6
  refine x_aload_n (pc := 150) dX10_addEvent_150 rfl rfl ?_
  refine x_getr (pc := 151) dX10_addEvent_151 f_RX10_45 hk0 ?_
  refine x_iload (pc := 154) dX10_addEvent_154 rfl ?_
  refine x_iconst (pc := 156) dX10_addEvent_156 ?_
  refine x_iadd (pc := 157) dX10_addEvent_157 ?_
  refine x_iload_n (pc := 158) dX10_addEvent_158 rfl rfl ?_
  refine x_aload_n (pc := 159) dX10_addEvent_159 rfl rfl ?_
  refine x_getr (pc := 160) dX10_addEvent_160 f_RX10_39 hk0 ?_
  refine x_iload_n (pc := 163) dX10_addEvent_163 rfl rfl ?_
  refine x_iconst (pc := 164) dX10_addEvent_164 ?_
  refine x_isub (pc := 165) dX10_addEvent_165 ?_
  refine x_iald (pc := 166) dX10_addEvent_166 (wk_10_13 hW hk0) (wl_10_13 hW hk0) g3 ?_
  refine x_isub (pc := 167) dX10_addEvent_167 ?_
  obtain ⟨g7, h⟩ := h
  refine x_iast (pc := 168) dX10_addEvent_168 (wk_10_15 hW hk0) (wl_10_15 hW hk0) g7 (fun M8 hM8 => ?_)
  replace h := h M8 hM8
  refine x_aload_n (pc := 169) dX10_addEvent_169 rfl rfl ?_
  refine x_getr (pc := 170) dX10_addEvent_170 f_RX10_45 hk0 ?_
  refine x_iload (pc := 173) dX10_addEvent_173 rfl ?_
  refine x_iconst (pc := 175) dX10_addEvent_175 ?_
  refine x_iadd (pc := 176) dX10_addEvent_176 ?_
  refine x_ldc (pc := 177) (n := -1000005) dX10_addEvent_177 k_RX10_23 rfl ?_
  obtain ⟨g9, h⟩ := h
  refine x_iast (pc := 179) dX10_addEvent_179 (wk_10_15 hW hk0) (wl_10_15 hW hk0) g9 (fun M10 hM10 => ?_)
  replace h := h M10 hM10
  refine x_aload_n (pc := 180) dX10_addEvent_180 rfl rfl ?_
  refine x_getr (pc := 181) dX10_addEvent_181 f_RX10_45 hk0 ?_
  refine x_iload (pc := 184) dX10_addEvent_184 rfl ?_
  refine x_bipush (pc := 186) dX10_addEvent_186 (by decide +kernel) ?_
  refine x_iadd (pc := 188) dX10_addEvent_188 ?_
  refine x_ldc (pc := 189) (n := -1000005) dX10_addEvent_189 k_RX10_23 rfl ?_
  obtain ⟨g11, h⟩ := h
  refine x_iast (pc := 191) dX10_addEvent_191 (wk_10_15 hW hk0) (wl_10_15 hW hk0) g11 (fun M12 hM12 => ?_)
  replace h := h M12 hM12
  refine x_aload_n (pc := 192) dX10_addEvent_192 rfl rfl ?_
  refine x_dup (pc := 193) dX10_addEvent_193 ?_
  refine x_geti (pc := 194) dX10_addEvent_194 f_RX10_161 hk0 ?_
  refine x_iconst (pc := 197) dX10_addEvent_197 ?_
  refine x_iadd (pc := 198) dX10_addEvent_198 ?_
  refine x_puti (pc := 199) dX10_addEvent_199 f_RX10_161 hk0 (fun M13 hM13 => ?_)
  replace h := h M13 hM13
  exact x_vret (pc := 202) dX10_addEvent_202 rfl h
theorem dX10_name_0 : decode cX10_name 0 = .ok (.aload_n 0, 1) := by decide +kernel
theorem dX10_name_1 : decode cX10_name 1 = .ok (.aload_n 0, 1) := by decide +kernel
theorem dX10_name_2 : decode cX10_name 2 = .ok (.iload_n 1, 1) := by decide +kernel
theorem dX10_name_3 : decode cX10_name 3 = .ok (.iconst 0, 1) := by decide +kernel
theorem dX10_name_4 : decode cX10_name 4 = .ok (.invokevirtual 164, 3) := by decide +kernel
theorem dX10_name_7 : decode cX10_name 7 = .ok (.invokevirtual 158, 3) := by decide +kernel
theorem dX10_name_10 : decode cX10_name 10 = .ok (.ifCond .gt 4, 3) := by decide +kernel
theorem dX10_name_13 : decode cX10_name 13 = .ok (.return_, 1) := by decide +kernel
theorem dX10_name_14 : decode cX10_name 14 = .ok (.iload_n 2, 1) := by decide +kernel
theorem dX10_name_15 : decode cX10_name 15 = .ok (.istore_n 3, 1) := by decide +kernel
theorem dX10_name_16 : decode cX10_name 16 = .ok (.iload_n 3, 1) := by decide +kernel
theorem dX10_name_17 : decode cX10_name 17 = .ok (.iload_n 1, 1) := by decide +kernel
theorem dX10_name_18 : decode cX10_name 18 = .ok (.if_icmp .ge 147, 3) := by decide +kernel
theorem dX10_name_21 : decode cX10_name 21 = .ok (.aload_n 0, 1) := by decide +kernel
theorem dX10_name_22 : decode cX10_name 22 = .ok (.iload_n 3, 1) := by decide +kernel
theorem dX10_name_23 : decode cX10_name 23 = .ok (.iconst 0, 1) := by decide +kernel
theorem dX10_name_24 : decode cX10_name 24 = .ok (.invokevirtual 164, 3) := by decide +kernel
theorem dX10_name_27 : decode cX10_name 27 = .ok (.istore 4, 2) := by decide +kernel
theorem dX10_name_29 : decode cX10_name 29 = .ok (.iconst 2, 1) := by decide +kernel
theorem dX10_name_30 : decode cX10_name 30 = .ok (.iload 4, 2) := by decide +kernel
theorem dX10_name_32 : decode cX10_name 32 = .ok (.imul, 1) := by decide +kernel
theorem dX10_name_33 : decode cX10_name 33 = .ok (.aload_n 0, 1) := by decide +kernel
theorem dX10_name_34 : decode cX10_name 34 = .ok (.iload_n 1, 1) := by decide +kernel
theorem dX10_name_35 : decode cX10_name 35 = .ok (.iconst 0, 1) := by decide +kernel
theorem dX10_name_36 : decode cX10_name 36 = .ok (.invokevirtual 164, 3) := by decide +kernel
theorem dX10_name_39 : decode cX10_name 39 = .ok (.isub, 1) := by decide +kernel
theorem dX10_name_40 : decode cX10_name 40 = .ok (.istore 5, 2) := by decide +kernel
theorem dX10_name_42 : decode cX10_name 42 = .ok (.iload 5, 2) := by decide +kernel
theorem dX10_name_44 : decode cX10_name 44 = .ok (.ifCond .ne 7, 3) := by decide +kernel
theorem dX10_name_47 : decode cX10_name 47 = .ok (.iconst 1, 1) := by decide +kernel
theorem dX10_name_48 : decode cX10_name 48 = .ok (.goto 4, 3) := by decide +kernel
theorem dX10_name_51 : decode cX10_name 51 = .ok (.iconst 0, 1) := by decide +kernel
theorem dX10_name_52 : decode cX10_name 52 = .ok (.istore 6, 2) := by decide +kernel
theorem dX10_name_54 : decode cX10_name 54 = .ok (.iload_n 2, 1) := by decide +kernel
theorem dX10_name_55 : decode cX10_name 55 = .ok (.istore 7, 2) := by decide +kernel
theorem dX10_name_57 : decode cX10_name 57 = .ok (.iload 7, 2) := by decide +kernel
theorem dX10_name_59 : decode cX10_name 59 = .ok (.iload_n 1, 1) := by decide +kernel
theorem dX10_name_60 : decode cX10_name 60 = .ok (.if_icmp .ge 40, 3) := by decide +kernel
theorem dX10_name_63 : decode cX10_name 63 = .ok (.iload 6, 2) := by decide +kernel
theorem dX10_name_65 : decode cX10_name 65 = .ok (.aload_n 0, 1) := by decide +kernel
theorem dX10_name_66 : decode cX10_name 66 = .ok (.iload 7, 2) := by decide +kernel
theorem dX10_name_68 : decode cX10_name 68 = .ok (.iconst 0, 1) := by decide +kernel
theorem dX10_name_69 : decode cX10_name 69 = .ok (.invokevirtual 164, 3) := by decide +kernel
theorem dX10_name_72 : decode cX10_name 72 = .ok (.iload 5, 2) := by decide +kernel
theorem dX10_name_74 : decode cX10_name 74 = .ok (.if_icmp .ne 16, 3) := by decide +kernel
theorem dX10_name_77 : decode cX10_name 77 = .ok (.aload_n 0, 1) := by decide +kernel
theorem dX10_name_78 : decode cX10_name 78 = .ok (.iload 5, 2) := by decide +kernel
theorem dX10_name_80 : decode cX10_name 80 = .ok (.invokevirtual 158, 3) := by decide +kernel
theorem dX10_name_83 : decode cX10_name 83 = .ok (.ifCond .le 7, 3) := by decide +kernel
theorem dX10_name_86 : decode cX10_name 86 = .ok (.iconst 1, 1) := by decide +kernel
theorem dX10_name_87 : decode cX10_name 87 = .ok (.goto 4, 3) := by decide +kernel
theorem dX10_name_90 : decode cX10_name 90 = .ok (.iconst 0, 1) := by decide +kernel
theorem dX10_name_91 : decode cX10_name 91 = .ok (.ior, 1) := by decide +kernel
theorem dX10_name_92 : decode cX10_name 92 = .ok (.istore 6, 2) := by decide +kernel
theorem dX10_name_94 : decode cX10_name 94 = .ok (.iinc 7 1, 3) := by decide +kernel
theorem dX10_name_97 : decode cX10_name 97 = .ok (.goto (-40), 3) := by decide +kernel
theorem dX10_name_100 : decode cX10_name 100 = .ok (.aload_n 0, 1) := by decide +kernel
theorem dX10_name_101 : decode cX10_name 101 = .ok (.iload_n 1, 1) := by decide +kernel
theorem dX10_name_102 : decode cX10_name 102 = .ok (.iconst 5, 1) := by decide +kernel
theorem dX10_name_103 : decode cX10_name 103 = .ok (.invokevirtual 164, 3) := by decide +kernel
theorem dX10_name_106 : decode cX10_name 106 = .ok (.ldc 23, 2) := by decide +kernel
theorem dX10_name_108 : decode cX10_name 108 = .ok (.if_icmp .ne 51, 3) := by decide +kernel
theorem dX10_name_111 : decode cX10_name 111 = .ok (.aload_n 0, 1) := by decide +kernel
theorem dX10_name_112 : decode cX10_name 112 = .ok (.iload 4, 2) := by decide +kernel
theorem dX10_name_114 : decode cX10_name 114 = .ok (.invokevirtual 158, 3) := by decide +kernel
theorem dX10_name_117 : decode cX10_name 117 = .ok (.ifCond .le 42, 3) := by decide +kernel
theorem dX10_name_120 : decode cX10_name 120 = .ok (.iload 5, 2) := by decide +kernel
theorem dX10_name_122 : decode cX10_name 122 = .ok (.iload 4, 2) := by decide +kernel
theorem dX10_name_124 : decode cX10_name 124 = .ok (.if_icmp .ge 35, 3) := by decide +kernel
theorem dX10_name_127 : decode cX10_name 127 = .ok (.iload 6, 2) := by decide +kernel
theorem dX10_name_129 : decode cX10_name 129 = .ok (.ifCond .eq 30, 3) := by decide +kernel
theorem dX10_name_132 : decode cX10_name 132 = .ok (.aload_n 0, 1) := by decide +kernel
theorem dX10_name_133 : decode cX10_name 133 = .ok (.getfield 45, 3) := by decide +kernel
theorem dX10_name_136 : decode cX10_name 136 = .ok (.bipush 7, 2) := by decide +kernel
theorem dX10_name_138 : decode cX10_name 138 = .ok (.iload_n 1, 1) := by decide +kernel
theorem dX10_name_139 : decode cX10_name 139 = .ok (.imul, 1) := by decide +kernel
theorem dX10_name_140 : decode cX10_name 140 = .ok (.iconst 5, 1) := by decide +kernel
theorem dX10_name_141 : decode cX10_name 141 = .ok (.iadd, 1) := by decide +kernel
theorem dX10_name_142 : decode cX10_name 142 = .ok (.iload 4, 2) := by decide +kernel
theorem dX10_name_144 : decode cX10_name 144 = .ok (.iastore, 1) := by decide +kernel
theorem dX10_name_145 : decode cX10_name 145 = .ok (.aload_n 0, 1) := by decide +kernel
theorem dX10_name_146 : decode cX10_name 146 = .ok (.getfield 45, 3) := by decide +kernel
theorem dX10_name_149 : decode cX10_name 149 = .ok (.bipush 7, 2) := by decide +kernel
theorem dX10_name_151 : decode cX10_name 151 = .ok (.iload_n 1, 1) := by decide +kernel
theorem dX10_name_152 : decode cX10_name 152 = .ok (.imul, 1) := by decide +kernel
theorem dX10_name_153 : decode cX10_name 153 = .ok (.bipush 6, 2) := by decide +kernel
theorem dX10_name_155 : decode cX10_name 155 = .ok (.iadd, 1) := by decide +kernel
theorem dX10_name_156 : decode cX10_name 156 = .ok (.iload 5, 2) := by decide +kernel
theorem dX10_name_158 : decode cX10_name 158 = .ok (.iastore, 1) := by decide +kernel
theorem dX10_name_159 : decode cX10_name 159 = .ok (.iinc 3 1, 3) := by decide +kernel
theorem dX10_name_162 : decode cX10_name 162 = .ok (.goto (-146), 3) := by decide +kernel
theorem dX10_name_165 : decode cX10_name 165 = .ok (.return_, 1) := by decide +kernel
set_option maxRecDepth 100000 in
theorem b_X10_name_0 {E : fxE} (hW : fx_Wt E) (a0 : Nat) (x1 : Int) (x2 : Int) (M : fxM) (Q : Option fxV → fxM → Prop) (hk0 : kd E a0 = 10) (h : (0 ≤ 7 * x1 + (0 : Int) ∧ 7 * x1 + (0 : Int) < 2814) ∧ (1 ≤ (M (rf E a0 15) (7 * x1 + 0).toNat) ∧ (M (rf E a0 15) (7 * x1 + 0).toNat) ≤ 400) ∧ (-2147483648 ≤ (rdev E M a0 (M (rf E a0 15) (7 * x1 + 0).toNat)) ∧ (rdev E M a0 (M (rf E a0 15) (7 * x1 + 0).toNat)) < 2147483648) ∧ (((0 : Int) < (rdev E M a0 (M (rf E a0 15) (7 * x1 + 0).toNat)) → fx_At E m_X10_name 16 [some (.inr a0), some (.inl x1), some (.inl x2), some (.inl x2), none, none, none, none] [] M Q) ∧ (¬ (0 : Int) < (rdev E M a0 (M (rf E a0 15) (7 * x1 + 0).toNat)) → Q none M))) : fx_At E m_X10_name 0 [some (.inr a0), some (.inl x1), some (.inl x2), none, none, none, none, none] [] M Q := by
  refine x_aload_n (pc := 0) dX10_name_0 rfl rfl ?_
  refine x_aload_n (pc := 1) dX10_name_1 rfl rfl ?_
  refine x_iload_n (pc := 2) dX10_name_2 rfl rfl ?_
  refine x_iconst (pc := 3) dX10_name_3 ?_
  obtain ⟨g1, h⟩ := h
  refine x_callV (pc := 4) (z := m_X10_of) (b := a0) (as := [.inl x1, .inl 0]) (rest := [.inr a0]) dX10_name_4 c_RX10_164 (by decide) hk0 rfl (Nat.le_of_ble_eq_true rfl) (ct_X10_of hW hk0 g1) (fun r M9 hr => ?_)
  obtain ⟨hM9, hr⟩ := hr
  rw [hM9, hr]
  clear hM9 hr
  show fx_At E m_X10_name 7 [some (.inr a0), some (.inl x1), some (.inl x2), none, none, none, none, none] [.inl (M (rf E a0 15) (7 * x1 + 0).toNat), .inr a0] _ Q
  obtain ⟨g2, h⟩ := h
  refine x_callV (pc := 7) (z := m_X10_deviation) (b := a0) (as := [.inl (M (rf E a0 15) (7 * x1 + 0).toNat)]) (rest := []) dX10_name_7 c_RX10_158 (by decide) hk0 rfl (Nat.le_of_ble_eq_true rfl) (ct_X10_deviation hW hk0 g2) (fun r M9 hr => ?_)
  obtain ⟨hM9, hr⟩ := hr
  rw [hM9, hr]
  clear hM9 hr
  show fx_At E m_X10_name 10 [some (.inr a0), some (.inl x1), some (.inl x2), none, none, none, none, none] [.inl (rdev E M a0 (M (rf E a0 15) (7 * x1 + 0).toNat))] _ Q
  obtain ⟨g3, h⟩ := h
  refine x_zgt (pc := 10) 14 dX10_name_10 (by decide) g3 (fun hc => ?_) (fun hc => ?_)
  · replace h := h.1 hc
    refine x_iload_n (pc := 14) dX10_name_14 rfl rfl ?_
    refine x_istore_n (pc := 15) (lv' := [some (.inr a0), some (.inl x1), some (.inl x2), some (.inl x2), none, none, none, none]) dX10_name_15 rfl (by decide) rfl ?_
    exact h
  · replace h := h.2 hc
    exact x_vret (pc := 13) dX10_name_13 rfl h
set_option maxRecDepth 100000 in
theorem b_X10_name_16 {E : fxE} (hW : fx_Wt E) (a0 : Nat) (x1 : Int) (x2 : Int) (x3 : Int) (M : fxM) (Q : Option fxV → fxM → Prop) (hk0 : kd E a0 = 10) (h : (-2147483648 ≤ x3 ∧ x3 < 2147483648) ∧ (-2147483648 ≤ x1 ∧ x1 < 2147483648) ∧ ((x1 ≤ x3 → Q none M) ∧ (¬ x1 ≤ x3 → (0 ≤ 7 * x3 + (0 : Int) ∧ 7 * x3 + (0 : Int) < 2814) ∧ (0 ≤ 7 * x1 + (0 : Int) ∧ 7 * x1 + (0 : Int) < 2814) ∧ (-2147483648 ≤ ((2 * (M (rf E a0 15) (7 * x3 + 0).toNat)) - (M (rf E a0 15) (7 * x1 + 0).toNat)) ∧ ((2 * (M (rf E a0 15) (7 * x3 + 0).toNat)) - (M (rf E a0 15) (7 * x1 + 0).toNat)) < 2147483648) ∧ ((¬ ((2 * (M (rf E a0 15) (7 * x3 + 0).toNat)) - (M (rf E a0 15) (7 * x1 + 0).toNat)) = (0 : Int) → fx_At E m_X10_name 57 [some (.inr a0), some (.inl x1), some (.inl x2), some (.inl x3), some (.inl (M (rf E a0 15) (7 * x3 + 0).toNat)), some (.inl ((2 * (M (rf E a0 15) (7 * x3 + 0).toNat)) - (M (rf E a0 15) (7 * x1 + 0).toNat))), some (.inl 0), some (.inl x2)] [] M Q) ∧ (((2 * (M (rf E a0 15) (7 * x3 + 0).toNat)) - (M (rf E a0 15) (7 * x1 + 0).toNat)) = (0 : Int) → fx_At E m_X10_name 57 [some (.inr a0), some (.inl x1), some (.inl x2), some (.inl x3), some (.inl (M (rf E a0 15) (7 * x3 + 0).toNat)), some (.inl ((2 * (M (rf E a0 15) (7 * x3 + 0).toNat)) - (M (rf E a0 15) (7 * x1 + 0).toNat))), some (.inl 1), some (.inl x2)] [] M Q))))) : fx_At E m_X10_name 16 [some (.inr a0), some (.inl x1), some (.inl x2), some (.inl x3), none, none, none, none] [] M Q := by
  refine x_iload_n (pc := 16) dX10_name_16 rfl rfl ?_
  refine x_iload_n (pc := 17) dX10_name_17 rfl rfl ?_
  obtain ⟨g1, h⟩ := h
  obtain ⟨g2, h⟩ := h
  refine x_cge (pc := 18) 165 dX10_name_18 (by decide) ⟨g1, g2⟩ (fun hc => ?_) (fun hc => ?_)
  · replace h := h.1 hc
    exact x_vret (pc := 165) dX10_name_165 rfl h
  · replace h := h.2 hc
    refine x_aload_n (pc := 21) dX10_name_21 rfl rfl ?_
    refine x_iload_n (pc := 22) dX10_name_22 rfl rfl ?_
    refine x_iconst (pc := 23) dX10_name_23 ?_
    obtain ⟨g3, h⟩ := h
    refine x_callV (pc := 24) (z := m_X10_of) (b := a0) (as := [.inl x3, .inl 0]) (rest := []) dX10_name_24 c_RX10_164 (by decide) hk0 rfl (Nat.le_of_ble_eq_true rfl) (ct_X10_of hW hk0 g3) (fun r M9 hr => ?_)
    obtain ⟨hM9, hr⟩ := hr
    rw [hM9, hr]
    clear hM9 hr
    show fx_At E m_X10_name 27 [some (.inr a0), some (.inl x1), some (.inl x2), some (.inl x3), none, none, none, none] [.inl (M (rf E a0 15) (7 * x3 + 0).toNat)] _ Q
    refine x_istore (pc := 27) (lv' := [some (.inr a0), some (.inl x1), some (.inl x2), some (.inl x3), some (.inl (M (rf E a0 15) (7 * x3 + 0).toNat)), none, none, none]) dX10_name_27 (by decide) rfl ?_
    refine x_iconst (pc := 29) dX10_name_29 ?_
    refine x_iload (pc := 30) dX10_name_30 rfl ?_
    refine x_imul (pc := 32) dX10_name_32 ?_
    refine x_aload_n (pc := 33) dX10_name_33 rfl rfl ?_
    refine x_iload_n (pc := 34) dX10_name_34 rfl rfl ?_
    refine x_iconst (pc := 35) dX10_name_35 ?_
    obtain ⟨g4, h⟩ := h
    refine x_callV (pc := 36) (z := m_X10_of) (b := a0) (as := [.inl x1, .inl 0]) (rest := [.inl (2 * (M (rf E a0 15) (7 * x3 + 0).toNat))]) dX10_name_36 c_RX10_164 (by decide) hk0 rfl (Nat.le_of_ble_eq_true rfl) (ct_X10_of hW hk0 g4) (fun r M9 hr => ?_)
    obtain ⟨hM9, hr⟩ := hr
    rw [hM9, hr]
    clear hM9 hr
    show fx_At E m_X10_name 39 [some (.inr a0), some (.inl x1), some (.inl x2), some (.inl x3), some (.inl (M (rf E a0 15) (7 * x3 + 0).toNat)), none, none, none] [.inl (M (rf E a0 15) (7 * x1 + 0).toNat), .inl (2 * (M (rf E a0 15) (7 * x3 + 0).toNat))] _ Q
    refine x_isub (pc := 39) dX10_name_39 ?_
    refine x_istore (pc := 40) (lv' := [some (.inr a0), some (.inl x1), some (.inl x2), some (.inl x3), some (.inl (M (rf E a0 15) (7 * x3 + 0).toNat)), some (.inl ((2 * (M (rf E a0 15) (7 * x3 + 0).toNat)) - (M (rf E a0 15) (7 * x1 + 0).toNat))), none, none]) dX10_name_40 (by decide) rfl ?_
    refine x_iload (pc := 42) dX10_name_42 rfl ?_
    obtain ⟨g5, h⟩ := h
    refine x_zne (pc := 44) 51 dX10_name_44 (by decide) g5 (fun hc => ?_) (fun hc => ?_)
    · replace h := h.1 hc
      refine x_iconst (pc := 51) dX10_name_51 ?_
      refine x_istore (pc := 52) (lv' := [some (.inr a0), some (.inl x1), some (.inl x2), some (.inl x3), some (.inl (M (rf E a0 15) (7 * x3 + 0).toNat)), some (.inl ((2 * (M (rf E a0 15) (7 * x3 + 0).toNat)) - (M (rf E a0 15) (7 * x1 + 0).toNat))), some (.inl 0), none]) dX10_name_52 (by decide) rfl ?_
      refine x_iload_n (pc := 54) dX10_name_54 rfl rfl ?_
      refine x_istore (pc := 55) (lv' := [some (.inr a0), some (.inl x1), some (.inl x2), some (.inl x3), some (.inl (M (rf E a0 15) (7 * x3 + 0).toNat)), some (.inl ((2 * (M (rf E a0 15) (7 * x3 + 0).toNat)) - (M (rf E a0 15) (7 * x1 + 0).toNat))), some (.inl 0), some (.inl x2)]) dX10_name_55 (by decide) rfl ?_
      exact h
    · replace h := h.2 hc
      refine x_iconst (pc := 47) dX10_name_47 ?_
      refine x_goto (pc := 48) 52 dX10_name_48 (by decide) ?_
      refine x_istore (pc := 52) (lv' := [some (.inr a0), some (.inl x1), some (.inl x2), some (.inl x3), some (.inl (M (rf E a0 15) (7 * x3 + 0).toNat)), some (.inl ((2 * (M (rf E a0 15) (7 * x3 + 0).toNat)) - (M (rf E a0 15) (7 * x1 + 0).toNat))), some (.inl 1), none]) dX10_name_52 (by decide) rfl ?_
      refine x_iload_n (pc := 54) dX10_name_54 rfl rfl ?_
      refine x_istore (pc := 55) (lv' := [some (.inr a0), some (.inl x1), some (.inl x2), some (.inl x3), some (.inl (M (rf E a0 15) (7 * x3 + 0).toNat)), some (.inl ((2 * (M (rf E a0 15) (7 * x3 + 0).toNat)) - (M (rf E a0 15) (7 * x1 + 0).toNat))), some (.inl 1), some (.inl x2)]) dX10_name_55 (by decide) rfl ?_
      exact h
set_option maxRecDepth 100000 in
theorem b_X10_name_57 {E : fxE} (hW : fx_Wt E) (a0 : Nat) (x1 : Int) (x2 : Int) (x3 : Int) (x4 : Int) (x5 : Int) (x6 : Int) (x7 : Int) (M : fxM) (Q : Option fxV → fxM → Prop) (hk0 : kd E a0 = 10) (h : (-2147483648 ≤ x7 ∧ x7 < 2147483648) ∧ (-2147483648 ≤ x1 ∧ x1 < 2147483648) ∧ ((x1 ≤ x7 → (0 ≤ 7 * x1 + (5 : Int) ∧ 7 * x1 + (5 : Int) < 2814) ∧ (-2147483648 ≤ (M (rf E a0 15) (7 * x1 + 5).toNat) ∧ (M (rf E a0 15) (7 * x1 + 5).toNat) < 2147483648) ∧ ((¬ (M (rf E a0 15) (7 * x1 + 5).toNat) = (-1000005 : Int) → fx_At E m_X10_name 16 [some (.inr a0), some (.inl x1), some (.inl x2), some (.inl (x3 + 1)), none, none, none, none] [] M Q) ∧ ((M (rf E a0 15) (7 * x1 + 5).toNat) = (-1000005 : Int) → (1 ≤ x4 ∧ x4 ≤ 400) ∧ (-2147483648 ≤ (rdev E M a0 x4) ∧ (rdev E M a0 x4) < 2147483648) ∧ (((rdev E M a0 x4) ≤ (0 : Int) → fx_At E m_X10_name 16 [some (.inr a0), some (.inl x1), some (.inl x2), some (.inl (x3 + 1)), none, none, none, none] [] M Q) ∧ (¬ (rdev E M a0 x4) ≤ (0 : Int) → (-2147483648 ≤ x5 ∧ x5 < 2147483648) ∧ (-2147483648 ≤ x4 ∧ x4 < 2147483648) ∧ ((x4 ≤ x5 → fx_At E m_X10_name 16 [some (.inr a0), some (.inl x1), some (.inl x2), some (.inl (x3 + 1)), none, none, none, none] [] M Q) ∧ (¬ x4 ≤ x5 → (-2147483648 ≤ x6 ∧ x6 < 2147483648) ∧ ((x6 = (0 : Int) → fx_At E m_X10_name 16 [some (.inr a0), some (.inl x1), some (.inl x2), some (.inl (x3 + 1)), none, none, none, none] [] M Q) ∧ (¬ x6 = (0 : Int) → (0 ≤ ((7 * x1) + 5) ∧ ((7 * x1) + 5) < 2814) ∧ ∀ M11 : fxM, M11 = mset M (rf E a0 15) (((7 * x1) + 5).toNat) x4 → (0 ≤ ((7 * x1) + 6) ∧ ((7 * x1) + 6) < 2814) ∧ ∀ M13 : fxM, M13 = mset M11 (rf E a0 15) (((7 * x1) + 6).toNat) x5 → fx_At E m_X10_name 16 [some (.inr a0), some (.inl x1), some (.inl x2), some (.inl (x3 + 1)), none, none, none, none] [] M13 Q))))))))) ∧ (¬ x1 ≤ x7 → (0 ≤ 7 * x7 + (0 : Int) ∧ 7 * x7 + (0 : Int) < 2814) ∧ (-2147483648 ≤ (M (rf E a0 15) (7 * x7 + 0).toNat) ∧ (M (rf E a0 15) (7 * x7 + 0).toNat) < 2147483648) ∧ (-2147483648 ≤ x5 ∧ x5 < 2147483648) ∧ ((¬ (M (rf E a0 15) (7 * x7 + 0).toNat) = x5 → ∃ u17 v17 : Nat, x6 = (u17 : Int) ∧ 0 = (v17 : Int) ∧ fx_At E m_X10_name 57 [some (.inr a0), some (.inl x1), some (.inl x2), some (.inl x3), some (.inl x4), some (.inl x5), some (.inl ((u17 ||| v17 : Nat) : Int)), some (.inl (x7 + 1))] [] M Q) ∧ ((M (rf E a0 15) (7 * x7 + 0).toNat) = x5 → (1 ≤ x5 ∧ x5 ≤ 400) ∧ (-2147483648 ≤ (rdev E M a0 x5) ∧ (rdev E M a0 x5) < 2147483648) ∧ (((rdev E M a0 x5) ≤ (0 : Int) → ∃ u20 v20 : Nat, x6 = (u20 : Int) ∧ 0 = (v20 : Int) ∧ fx_At E m_X10_name 57 [some (.inr a0), some (.inl x1), some (.inl x2), some (.inl x3), some (.inl x4), some (.inl x5), some (.inl ((u20 ||| v20 : Nat) : Int)), some (.inl (x7 + 1))] [] M Q) ∧ (¬ (rdev E M a0 x5) ≤ (0 : Int) → ∃ u21 v21 : Nat, x6 = (u21 : Int) ∧ 1 = (v21 : Int) ∧ fx_At E m_X10_name 57 [some (.inr a0), some (.inl x1), some (.inl x2), some (.inl x3), some (.inl x4), some (.inl x5), some (.inl ((u21 ||| v21 : Nat) : Int)), some (.inl (x7 + 1))] [] M Q))))))) : fx_At E m_X10_name 57 [some (.inr a0), some (.inl x1), some (.inl x2), some (.inl x3), some (.inl x4), some (.inl x5), some (.inl x6), some (.inl x7)] [] M Q := by
  refine x_iload (pc := 57) dX10_name_57 rfl ?_
  refine x_iload_n (pc := 59) dX10_name_59 rfl rfl ?_
  obtain ⟨g1, h⟩ := h
  obtain ⟨g2, h⟩ := h
  refine x_cge (pc := 60) 100 dX10_name_60 (by decide) ⟨g1, g2⟩ (fun hc => ?_) (fun hc => ?_)
  · replace h := h.1 hc
    refine x_aload_n (pc := 100) dX10_name_100 rfl rfl ?_
    refine x_iload_n (pc := 101) dX10_name_101 rfl rfl ?_
    refine x_iconst (pc := 102) dX10_name_102 ?_
    obtain ⟨g3, h⟩ := h
    refine x_callV (pc := 103) (z := m_X10_of) (b := a0) (as := [.inl x1, .inl 5]) (rest := []) dX10_name_103 c_RX10_164 (by decide) hk0 rfl (Nat.le_of_ble_eq_true rfl) (ct_X10_of hW hk0 g3) (fun r M9 hr => ?_)
    obtain ⟨hM9, hr⟩ := hr
    rw [hM9, hr]
    clear hM9 hr
    show fx_At E m_X10_name 106 [some (.inr a0), some (.inl x1), some (.inl x2), some (.inl x3), some (.inl x4), some (.inl x5), some (.inl x6), some (.inl x7)] [.inl (M (rf E a0 15) (7 * x1 + 5).toNat)] _ Q
    refine x_ldc (pc := 106) (n := -1000005) dX10_name_106 k_RX10_23 rfl ?_
    obtain ⟨g4, h⟩ := h
    refine x_cne (pc := 108) 159 dX10_name_108 (by decide) ⟨g4, ⟨by decide, by decide⟩⟩ (fun hc => ?_) (fun hc => ?_)
    · replace h := h.1 hc
      refine x_iinc (pc := 159) (lv' := [some (.inr a0), some (.inl x1), some (.inl x2), some (.inl (x3 + 1)), some (.inl x4), some (.inl x5), some (.inl x6), some (.inl x7)]) dX10_name_159 rfl (by decide) rfl ?_
      refine x_goto (pc := 162) 16 dX10_name_162 (by decide) ?_
      refine x_weak (lv := [some (.inr a0), some (.inl x1), some (.inl x2), some (.inl (x3 + 1)), none, none, none, none]) (by simp [lvle]) ?_
      exact h
    · replace h := h.2 hc
      refine x_aload_n (pc := 111) dX10_name_111 rfl rfl ?_
      refine x_iload (pc := 112) dX10_name_112 rfl ?_
      obtain ⟨g5, h⟩ := h
      refine x_callV (pc := 114) (z := m_X10_deviation) (b := a0) (as := [.inl x4]) (rest := []) dX10_name_114 c_RX10_158 (by decide) hk0 rfl (Nat.le_of_ble_eq_true rfl) (ct_X10_deviation hW hk0 g5) (fun r M9 hr => ?_)
      obtain ⟨hM9, hr⟩ := hr
      rw [hM9, hr]
      clear hM9 hr
      show fx_At E m_X10_name 117 [some (.inr a0), some (.inl x1), some (.inl x2), some (.inl x3), some (.inl x4), some (.inl x5), some (.inl x6), some (.inl x7)] [.inl (rdev E M a0 x4)] _ Q
      obtain ⟨g6, h⟩ := h
      refine x_zle (pc := 117) 159 dX10_name_117 (by decide) g6 (fun hc => ?_) (fun hc => ?_)
      · replace h := h.1 hc
        refine x_iinc (pc := 159) (lv' := [some (.inr a0), some (.inl x1), some (.inl x2), some (.inl (x3 + 1)), some (.inl x4), some (.inl x5), some (.inl x6), some (.inl x7)]) dX10_name_159 rfl (by decide) rfl ?_
        refine x_goto (pc := 162) 16 dX10_name_162 (by decide) ?_
        refine x_weak (lv := [some (.inr a0), some (.inl x1), some (.inl x2), some (.inl (x3 + 1)), none, none, none, none]) (by simp [lvle]) ?_
        exact h
      · replace h := h.2 hc
        refine x_iload (pc := 120) dX10_name_120 rfl ?_
        refine x_iload (pc := 122) dX10_name_122 rfl ?_
        obtain ⟨g7, h⟩ := h
        obtain ⟨g8, h⟩ := h
        refine x_cge (pc := 124) 159 dX10_name_124 (by decide) ⟨g7, g8⟩ (fun hc => ?_) (fun hc => ?_)
        · replace h := h.1 hc
          refine x_iinc (pc := 159) (lv' := [some (.inr a0), some (.inl x1), some (.inl x2), some (.inl (x3 + 1)), some (.inl x4), some (.inl x5), some (.inl x6), some (.inl x7)]) dX10_name_159 rfl (by decide) rfl ?_
          refine x_goto (pc := 162) 16 dX10_name_162 (by decide) ?_
          refine x_weak (lv := [some (.inr a0), some (.inl x1), some (.inl x2), some (.inl (x3 + 1)), none, none, none, none]) (by simp [lvle]) ?_
          exact h
        · replace h := h.2 hc
          refine x_iload (pc := 127) dX10_name_127 rfl ?_
          obtain ⟨g9, h⟩ := h
          refine x_zeq (pc := 129) 159 dX10_name_129 (by decide) g9 (fun hc => ?_) (fun hc => ?_)
          · replace h := h.1 hc
            refine x_iinc (pc := 159) (lv' := [some (.inr a0), some (.inl x1), some (.inl x2), some (.inl (x3 + 1)), some (.inl x4), some (.inl x5), some (.inl x6), some (.inl x7)]) dX10_name_159 rfl (by decide) rfl ?_
            refine x_goto (pc := 162) 16 dX10_name_162 (by decide) ?_
            refine x_weak (lv := [some (.inr a0), some (.inl x1), some (.inl x2), some (.inl (x3 + 1)), none, none, none, none]) (by simp [lvle]) ?_
            exact h
          · replace h := h.2 hc
            refine x_aload_n (pc := 132) dX10_name_132 rfl rfl ?_
            refine x_getr (pc := 133) dX10_name_133 f_RX10_45 hk0 ?_
            refine x_bipush (pc := 136) dX10_name_136 (by decide +kernel) ?_
            refine x_iload_n (pc := 138) dX10_name_138 rfl rfl ?_
            refine x_imul (pc := 139) dX10_name_139 ?_
            refine x_iconst (pc := 140) dX10_name_140 ?_
            refine x_iadd (pc := 141) dX10_name_141 ?_
            refine x_iload (pc := 142) dX10_name_142 rfl ?_
            obtain ⟨g10, h⟩ := h
            refine x_iast (pc := 144) dX10_name_144 (wk_10_15 hW hk0) (wl_10_15 hW hk0) g10 (fun M11 hM11 => ?_)
            replace h := h M11 hM11
            refine x_aload_n (pc := 145) dX10_name_145 rfl rfl ?_
            refine x_getr (pc := 146) dX10_name_146 f_RX10_45 hk0 ?_
            refine x_bipush (pc := 149) dX10_name_149 (by decide +kernel) ?_
            refine x_iload_n (pc := 151) dX10_name_151 rfl rfl ?_
            refine x_imul (pc := 152) dX10_name_152 ?_
            refine x_bipush (pc := 153) dX10_name_153 (by decide +kernel) ?_
            refine x_iadd (pc := 155) dX10_name_155 ?_
            refine x_iload (pc := 156) dX10_name_156 rfl ?_
            obtain ⟨g12, h⟩ := h
            refine x_iast (pc := 158) dX10_name_158 (wk_10_15 hW hk0) (wl_10_15 hW hk0) g12 (fun M13 hM13 => ?_)
            replace h := h M13 hM13
            refine x_iinc (pc := 159) (lv' := [some (.inr a0), some (.inl x1), some (.inl x2), some (.inl (x3 + 1)), some (.inl x4), some (.inl x5), some (.inl x6), some (.inl x7)]) dX10_name_159 rfl (by decide) rfl ?_
            refine x_goto (pc := 162) 16 dX10_name_162 (by decide) ?_
            refine x_weak (lv := [some (.inr a0), some (.inl x1), some (.inl x2), some (.inl (x3 + 1)), none, none, none, none]) (by simp [lvle]) ?_
            exact h
  · replace h := h.2 hc
    refine x_iload (pc := 63) dX10_name_63 rfl ?_
    refine x_aload_n (pc := 65) dX10_name_65 rfl rfl ?_
    refine x_iload (pc := 66) dX10_name_66 rfl ?_
    refine x_iconst (pc := 68) dX10_name_68 ?_
    obtain ⟨g14, h⟩ := h
    refine x_callV (pc := 69) (z := m_X10_of) (b := a0) (as := [.inl x7, .inl 0]) (rest := [.inl x6]) dX10_name_69 c_RX10_164 (by decide) hk0 rfl (Nat.le_of_ble_eq_true rfl) (ct_X10_of hW hk0 g14) (fun r M9 hr => ?_)
    obtain ⟨hM9, hr⟩ := hr
    rw [hM9, hr]
    clear hM9 hr
    show fx_At E m_X10_name 72 [some (.inr a0), some (.inl x1), some (.inl x2), some (.inl x3), some (.inl x4), some (.inl x5), some (.inl x6), some (.inl x7)] [.inl (M (rf E a0 15) (7 * x7 + 0).toNat), .inl x6] _ Q
    refine x_iload (pc := 72) dX10_name_72 rfl ?_
    obtain ⟨g15, h⟩ := h
    obtain ⟨g16, h⟩ := h
    refine x_cne (pc := 74) 90 dX10_name_74 (by decide) ⟨g15, g16⟩ (fun hc => ?_) (fun hc => ?_)
    · replace h := h.1 hc
      refine x_iconst (pc := 90) dX10_name_90 ?_
      obtain ⟨u17, v17, hu17, hv17, h⟩ := h
      refine x_ior hu17 hv17 (pc := 91) dX10_name_91 ?_
      refine x_istore (pc := 92) (lv' := [some (.inr a0), some (.inl x1), some (.inl x2), some (.inl x3), some (.inl x4), some (.inl x5), some (.inl ((u17 ||| v17 : Nat) : Int)), some (.inl x7)]) dX10_name_92 (by decide) rfl ?_
      refine x_iinc (pc := 94) (lv' := [some (.inr a0), some (.inl x1), some (.inl x2), some (.inl x3), some (.inl x4), some (.inl x5), some (.inl ((u17 ||| v17 : Nat) : Int)), some (.inl (x7 + 1))]) dX10_name_94 rfl (by decide) rfl ?_
      refine x_goto (pc := 97) 57 dX10_name_97 (by decide) ?_
      exact h
    · replace h := h.2 hc
      refine x_aload_n (pc := 77) dX10_name_77 rfl rfl ?_
      refine x_iload (pc := 78) dX10_name_78 rfl ?_
      obtain ⟨g18, h⟩ := h
      refine x_callV (pc := 80) (z := m_X10_deviation) (b := a0) (as := [.inl x5]) (rest := [.inl x6]) dX10_name_80 c_RX10_158 (by decide) hk0 rfl (Nat.le_of_ble_eq_true rfl) (ct_X10_deviation hW hk0 g18) (fun r M9 hr => ?_)
      obtain ⟨hM9, hr⟩ := hr
      rw [hM9, hr]
      clear hM9 hr
      show fx_At E m_X10_name 83 [some (.inr a0), some (.inl x1), some (.inl x2), some (.inl x3), some (.inl x4), some (.inl x5), some (.inl x6), some (.inl x7)] [.inl (rdev E M a0 x5), .inl x6] _ Q
      obtain ⟨g19, h⟩ := h
      refine x_zle (pc := 83) 90 dX10_name_83 (by decide) g19 (fun hc => ?_) (fun hc => ?_)
      · replace h := h.1 hc
        refine x_iconst (pc := 90) dX10_name_90 ?_
        obtain ⟨u20, v20, hu20, hv20, h⟩ := h
        refine x_ior hu20 hv20 (pc := 91) dX10_name_91 ?_
        refine x_istore (pc := 92) (lv' := [some (.inr a0), some (.inl x1), some (.inl x2), some (.inl x3), some (.inl x4), some (.inl x5), some (.inl ((u20 ||| v20 : Nat) : Int)), some (.inl x7)]) dX10_name_92 (by decide) rfl ?_
        refine x_iinc (pc := 94) (lv' := [some (.inr a0), some (.inl x1), some (.inl x2), some (.inl x3), some (.inl x4), some (.inl x5), some (.inl ((u20 ||| v20 : Nat) : Int)), some (.inl (x7 + 1))]) dX10_name_94 rfl (by decide) rfl ?_
        refine x_goto (pc := 97) 57 dX10_name_97 (by decide) ?_
        exact h
      · replace h := h.2 hc
        refine x_iconst (pc := 86) dX10_name_86 ?_
        refine x_goto (pc := 87) 91 dX10_name_87 (by decide) ?_
        obtain ⟨u21, v21, hu21, hv21, h⟩ := h
        refine x_ior hu21 hv21 (pc := 91) dX10_name_91 ?_
        refine x_istore (pc := 92) (lv' := [some (.inr a0), some (.inl x1), some (.inl x2), some (.inl x3), some (.inl x4), some (.inl x5), some (.inl ((u21 ||| v21 : Nat) : Int)), some (.inl x7)]) dX10_name_92 (by decide) rfl ?_
        refine x_iinc (pc := 94) (lv' := [some (.inr a0), some (.inl x1), some (.inl x2), some (.inl x3), some (.inl x4), some (.inl x5), some (.inl ((u21 ||| v21 : Nat) : Int)), some (.inl (x7 + 1))]) dX10_name_94 rfl (by decide) rfl ?_
        refine x_goto (pc := 97) 57 dX10_name_97 (by decide) ?_
        exact h
theorem dX10_addEvents_0 : decode cX10_addEvents 0 = .ok (.aload_n 0, 1) := by decide +kernel
theorem dX10_addEvents_1 : decode cX10_addEvents 1 = .ok (.iload_n 1, 1) := by decide +kernel
theorem dX10_addEvents_2 : decode cX10_addEvents 2 = .ok (.iload_n 2, 1) := by decide +kernel
theorem dX10_addEvents_3 : decode cX10_addEvents 3 = .ok (.invokevirtual 148, 3) := by decide +kernel
theorem dX10_addEvents_6 : decode cX10_addEvents 6 = .ok (.aload_n 0, 1) := by decide +kernel
theorem dX10_addEvents_7 : decode cX10_addEvents 7 = .ok (.getfield 161, 3) := by decide +kernel
theorem dX10_addEvents_10 : decode cX10_addEvents 10 = .ok (.istore_n 3, 1) := by decide +kernel
theorem dX10_addEvents_11 : decode cX10_addEvents 11 = .ok (.iconst 1, 1) := by decide +kernel
theorem dX10_addEvents_12 : decode cX10_addEvents 12 = .ok (.istore 4, 2) := by decide +kernel
theorem dX10_addEvents_14 : decode cX10_addEvents 14 = .ok (.iload 4, 2) := by decide +kernel
theorem dX10_addEvents_16 : decode cX10_addEvents 16 = .ok (.sipush 400, 3) := by decide +kernel
theorem dX10_addEvents_19 : decode cX10_addEvents 19 = .ok (.if_icmp .gt 68, 3) := by decide +kernel
theorem dX10_addEvents_22 : decode cX10_addEvents 22 = .ok (.iload 4, 2) := by decide +kernel
theorem dX10_addEvents_24 : decode cX10_addEvents 24 = .ok (.istore 5, 2) := by decide +kernel
theorem dX10_addEvents_26 : decode cX10_addEvents 26 = .ok (.iload 5, 2) := by decide +kernel
theorem dX10_addEvents_28 : decode cX10_addEvents 28 = .ok (.sipush 400, 3) := by decide +kernel
theorem dX10_addEvents_31 : decode cX10_addEvents 31 = .ok (.if_icmp .gt 18, 3) := by decide +kernel
theorem dX10_addEvents_34 : decode cX10_addEvents 34 = .ok (.aload_n 0, 1) := by decide +kernel
theorem dX10_addEvents_35 : decode cX10_addEvents 35 = .ok (.iload 5, 2) := by decide +kernel
theorem dX10_addEvents_37 : decode cX10_addEvents 37 = .ok (.invokevirtual 167, 3) := by decide +kernel
theorem dX10_addEvents_40 : decode cX10_addEvents 40 = .ok (.ifCond .eq 9, 3) := by decide +kernel
theorem dX10_addEvents_43 : decode cX10_addEvents 43 = .ok (.iinc 5 1, 3) := by decide +kernel
theorem dX10_addEvents_46 : decode cX10_addEvents 46 = .ok (.goto (-20), 3) := by decide +kernel
theorem dX10_addEvents_49 : decode cX10_addEvents 49 = .ok (.iload 5, 2) := by decide +kernel
theorem dX10_addEvents_51 : decode cX10_addEvents 51 = .ok (.iload 4, 2) := by decide +kernel
theorem dX10_addEvents_53 : decode cX10_addEvents 53 = .ok (.if_icmp .le 13, 3) := by decide +kernel
theorem dX10_addEvents_56 : decode cX10_addEvents 56 = .ok (.aload_n 0, 1) := by decide +kernel
theorem dX10_addEvents_57 : decode cX10_addEvents 57 = .ok (.iload 4, 2) := by decide +kernel
theorem dX10_addEvents_59 : decode cX10_addEvents 59 = .ok (.iload 5, 2) := by decide +kernel
theorem dX10_addEvents_61 : decode cX10_addEvents 61 = .ok (.iconst 1, 1) := by decide +kernel
theorem dX10_addEvents_62 : decode cX10_addEvents 62 = .ok (.isub, 1) := by decide +kernel
theorem dX10_addEvents_63 : decode cX10_addEvents 63 = .ok (.invokevirtual 170, 3) := by decide +kernel
theorem dX10_addEvents_66 : decode cX10_addEvents 66 = .ok (.iload 5, 2) := by decide +kernel
theorem dX10_addEvents_68 : decode cX10_addEvents 68 = .ok (.iload 4, 2) := by decide +kernel
theorem dX10_addEvents_70 : decode cX10_addEvents 70 = .ok (.if_icmp .le 8, 3) := by decide +kernel
theorem dX10_addEvents_73 : decode cX10_addEvents 73 = .ok (.iload 5, 2) := by decide +kernel
theorem dX10_addEvents_75 : decode cX10_addEvents 75 = .ok (.goto 7, 3) := by decide +kernel
theorem dX10_addEvents_78 : decode cX10_addEvents 78 = .ok (.iload 4, 2) := by decide +kernel
theorem dX10_addEvents_80 : decode cX10_addEvents 80 = .ok (.iconst 1, 1) := by decide +kernel
theorem dX10_addEvents_81 : decode cX10_addEvents 81 = .ok (.iadd, 1) := by decide +kernel
theorem dX10_addEvents_82 : decode cX10_addEvents 82 = .ok (.istore 4, 2) := by decide +kernel
theorem dX10_addEvents_84 : decode cX10_addEvents 84 = .ok (.goto (-70), 3) := by decide +kernel
theorem dX10_addEvents_87 : decode cX10_addEvents 87 = .ok (.iload_n 3, 1) := by decide +kernel
theorem dX10_addEvents_88 : decode cX10_addEvents 88 = .ok (.istore 5, 2) := by decide +kernel
theorem dX10_addEvents_90 : decode cX10_addEvents 90 = .ok (.iload 5, 2) := by decide +kernel
theorem dX10_addEvents_92 : decode cX10_addEvents 92 = .ok (.aload_n 0, 1) := by decide +kernel
theorem dX10_addEvents_93 : decode cX10_addEvents 93 = .ok (.getfield 161, 3) := by decide +kernel
theorem dX10_addEvents_96 : decode cX10_addEvents 96 = .ok (.if_icmp .ge 16, 3) := by decide +kernel
theorem dX10_addEvents_99 : decode cX10_addEvents 99 = .ok (.aload_n 0, 1) := by decide +kernel
theorem dX10_addEvents_100 : decode cX10_addEvents 100 = .ok (.iload 5, 2) := by decide +kernel
theorem dX10_addEvents_102 : decode cX10_addEvents 102 = .ok (.iload_n 3, 1) := by decide +kernel
theorem dX10_addEvents_103 : decode cX10_addEvents 103 = .ok (.invokevirtual 173, 3) := by decide +kernel
theorem dX10_addEvents_106 : decode cX10_addEvents 106 = .ok (.iinc 5 1, 3) := by decide +kernel
theorem dX10_addEvents_109 : decode cX10_addEvents 109 = .ok (.goto (-19), 3) := by decide +kernel
theorem dX10_addEvents_112 : decode cX10_addEvents 112 = .ok (.return_, 1) := by decide +kernel
set_option maxRecDepth 100000 in
theorem b_X10_addEvents_0 {E : fxE} (hW : fx_Wt E) (a0 : Nat) (x1 : Int) (x2 : Int) (M : fxM) (Q : Option fxV → fxM → Prop) (hk0 : kd E a0 = 10) (h : ∃ R1 : fxM → Prop, CtV E m_X10_layTrace [.inr a0, .inl x1, .inl x2] M R1 ∧ ∀ M1 : fxM, R1 M1 → fx_At E m_X10_addEvents 14 [some (.inr a0), some (.inl x1), some (.inl x2), some (.inl (M1 a0 16)), some (.inl 1), none] [] M1 Q) : fx_At E m_X10_addEvents 0 [some (.inr a0), some (.inl x1), some (.inl x2), none, none, none] [] M Q := by
  refine x_aload_n (pc := 0) dX10_addEvents_0 rfl rfl ?_
  refine x_iload_n (pc := 1) dX10_addEvents_1 rfl rfl ?_
  refine x_iload_n (pc := 2) dX10_addEvents_2 rfl rfl ?_
  obtain ⟨R1, hc1, h⟩ := h
  refine x_callV (pc := 3) (z := m_X10_layTrace) (b := a0) (as := [.inl x1, .inl x2]) (rest := []) dX10_addEvents_3 c_RX10_148 (by decide) hk0 rfl (Nat.le_of_ble_eq_true rfl) hc1 (fun r M1 hr => ?_)
  obtain ⟨rfl, hr⟩ := hr
  replace h := h M1 hr
  show fx_At E m_X10_addEvents 6 [some (.inr a0), some (.inl x1), some (.inl x2), none, none, none] [] M1 Q
  refine x_aload_n (pc := 6) dX10_addEvents_6 rfl rfl ?_
  refine x_geti (pc := 7) dX10_addEvents_7 f_RX10_161 hk0 ?_
  refine x_istore_n (pc := 10) (lv' := [some (.inr a0), some (.inl x1), some (.inl x2), some (.inl (M1 a0 16)), none, none]) dX10_addEvents_10 rfl (by decide) rfl ?_
  refine x_iconst (pc := 11) dX10_addEvents_11 ?_
  refine x_istore (pc := 12) (lv' := [some (.inr a0), some (.inl x1), some (.inl x2), some (.inl (M1 a0 16)), some (.inl 1), none]) dX10_addEvents_12 (by decide) rfl ?_
  exact h
set_option maxRecDepth 100000 in
theorem b_X10_addEvents_14 {E : fxE} (hW : fx_Wt E) (a0 : Nat) (x1 : Int) (x2 : Int) (x3 : Int) (x4 : Int) (M : fxM) (Q : Option fxV → fxM → Prop) (hk0 : kd E a0 = 10) (h : (-2147483648 ≤ x4 ∧ x4 < 2147483648) ∧ (((400 : Int) < x4 → fx_At E m_X10_addEvents 90 [some (.inr a0), some (.inl x1), some (.inl x2), some (.inl x3), some (.inl x4), some (.inl x3)] [] M Q) ∧ (¬ (400 : Int) < x4 → fx_At E m_X10_addEvents 26 [some (.inr a0), some (.inl x1), some (.inl x2), some (.inl x3), some (.inl x4), some (.inl x4)] [] M Q))) : fx_At E m_X10_addEvents 14 [some (.inr a0), some (.inl x1), some (.inl x2), some (.inl x3), some (.inl x4), none] [] M Q := by
  refine x_iload (pc := 14) dX10_addEvents_14 rfl ?_
  refine x_sipush (pc := 16) dX10_addEvents_16 (by decide +kernel) ?_
  obtain ⟨g1, h⟩ := h
  refine x_cgt (pc := 19) 87 dX10_addEvents_19 (by decide) ⟨g1, ⟨by decide, by decide⟩⟩ (fun hc => ?_) (fun hc => ?_)
  · replace h := h.1 hc
    refine x_iload_n (pc := 87) dX10_addEvents_87 rfl rfl ?_
    refine x_istore (pc := 88) (lv' := [some (.inr a0), some (.inl x1), some (.inl x2), some (.inl x3), some (.inl x4), some (.inl x3)]) dX10_addEvents_88 (by decide) rfl ?_
    exact h
  · replace h := h.2 hc
    refine x_iload (pc := 22) dX10_addEvents_22 rfl ?_
    refine x_istore (pc := 24) (lv' := [some (.inr a0), some (.inl x1), some (.inl x2), some (.inl x3), some (.inl x4), some (.inl x4)]) dX10_addEvents_24 (by decide) rfl ?_
    exact h
set_option maxRecDepth 100000 in
theorem b_X10_addEvents_26 {E : fxE} (hW : fx_Wt E) (a0 : Nat) (x1 : Int) (x2 : Int) (x3 : Int) (x4 : Int) (x5 : Int) (M : fxM) (Q : Option fxV → fxM → Prop) (hk0 : kd E a0 = 10) (h : (-2147483648 ≤ x5 ∧ x5 < 2147483648) ∧ (((400 : Int) < x5 → fx_At E m_X10_addEvents 49 [some (.inr a0), some (.inl x1), some (.inl x2), some (.inl x3), some (.inl x4), some (.inl x5)] [] M Q) ∧ (¬ (400 : Int) < x5 → ∃ R2 : Int → fxM → Prop, CtI E m_X10_isMarked [.inr a0, .inl x5] M R2 ∧ ∀ (v2 : Int) (M2 : fxM), R2 v2 M2 → (-2147483648 ≤ v2 ∧ v2 < 2147483648) ∧ ((v2 = (0 : Int) → fx_At E m_X10_addEvents 49 [some (.inr a0), some (.inl x1), some (.inl x2), some (.inl x3), some (.inl x4), some (.inl x5)] [] M2 Q) ∧ (¬ v2 = (0 : Int) → fx_At E m_X10_addEvents 26 [some (.inr a0), some (.inl x1), some (.inl x2), some (.inl x3), some (.inl x4), some (.inl (x5 + 1))] [] M2 Q))))) : fx_At E m_X10_addEvents 26 [some (.inr a0), some (.inl x1), some (.inl x2), some (.inl x3), some (.inl x4), some (.inl x5)] [] M Q := by
  refine x_iload (pc := 26) dX10_addEvents_26 rfl ?_
  refine x_sipush (pc := 28) dX10_addEvents_28 (by decide +kernel) ?_
  obtain ⟨g1, h⟩ := h
  refine x_cgt (pc := 31) 49 dX10_addEvents_31 (by decide) ⟨g1, ⟨by decide, by decide⟩⟩ (fun hc => ?_) (fun hc => ?_)
  · replace h := h.1 hc
    exact h
  · replace h := h.2 hc
    refine x_aload_n (pc := 34) dX10_addEvents_34 rfl rfl ?_
    refine x_iload (pc := 35) dX10_addEvents_35 rfl ?_
    obtain ⟨R2, hc2, h⟩ := h
    refine x_callV (pc := 37) (z := m_X10_isMarked) (b := a0) (as := [.inl x5]) (rest := []) dX10_addEvents_37 c_RX10_167 (by decide) hk0 rfl (Nat.le_of_ble_eq_true rfl) hc2 (fun r M2 hr => ?_)
    obtain ⟨v2, rfl, hr⟩ := hr
    replace h := h v2 M2 hr
    show fx_At E m_X10_addEvents 40 [some (.inr a0), some (.inl x1), some (.inl x2), some (.inl x3), some (.inl x4), some (.inl x5)] [.inl v2] M2 Q
    obtain ⟨g3, h⟩ := h
    refine x_zeq (pc := 40) 49 dX10_addEvents_40 (by decide) g3 (fun hc => ?_) (fun hc => ?_)
    · replace h := h.1 hc
      exact h
    · replace h := h.2 hc
      refine x_iinc (pc := 43) (lv' := [some (.inr a0), some (.inl x1), some (.inl x2), some (.inl x3), some (.inl x4), some (.inl (x5 + 1))]) dX10_addEvents_43 rfl (by decide) rfl ?_
      refine x_goto (pc := 46) 26 dX10_addEvents_46 (by decide) ?_
      exact h
set_option maxRecDepth 100000 in
theorem b_X10_addEvents_49 {E : fxE} (hW : fx_Wt E) (a0 : Nat) (x1 : Int) (x2 : Int) (x3 : Int) (x4 : Int) (x5 : Int) (M : fxM) (Q : Option fxV → fxM → Prop) (hk0 : kd E a0 = 10) (h : (-2147483648 ≤ x5 ∧ x5 < 2147483648) ∧ (-2147483648 ≤ x4 ∧ x4 < 2147483648) ∧ ((x5 ≤ x4 → ((x5 ≤ x4 → fx_At E m_X10_addEvents 14 [some (.inr a0), some (.inl x1), some (.inl x2), some (.inl x3), some (.inl (x4 + 1)), none] [] M Q) ∧ (¬ x5 ≤ x4 → fx_At E m_X10_addEvents 14 [some (.inr a0), some (.inl x1), some (.inl x2), some (.inl x3), some (.inl x5), none] [] M Q))) ∧ (¬ x5 ≤ x4 → ∃ R3 : fxM → Prop, CtV E m_X10_addEvent [.inr a0, .inl x4, .inl (x5 - 1)] M R3 ∧ ∀ M3 : fxM, R3 M3 → ((x5 ≤ x4 → fx_At E m_X10_addEvents 14 [some (.inr a0), some (.inl x1), some (.inl x2), some (.inl x3), some (.inl (x4 + 1)), none] [] M3 Q) ∧ (¬ x5 ≤ x4 → fx_At E m_X10_addEvents 14 [some (.inr a0), some (.inl x1), some (.inl x2), some (.inl x3), some (.inl x5), none] [] M3 Q))))) : fx_At E m_X10_addEvents 49 [some (.inr a0), some (.inl x1), some (.inl x2), some (.inl x3), some (.inl x4), some (.inl x5)] [] M Q := by
  refine x_iload (pc := 49) dX10_addEvents_49 rfl ?_
  refine x_iload (pc := 51) dX10_addEvents_51 rfl ?_
  obtain ⟨g1, h⟩ := h
  obtain ⟨g2, h⟩ := h
  refine x_cle (pc := 53) 66 dX10_addEvents_53 (by decide) ⟨g1, g2⟩ (fun hc => ?_) (fun hc => ?_)
  · replace h := h.1 hc
    refine x_iload (pc := 66) dX10_addEvents_66 rfl ?_
    refine x_iload (pc := 68) dX10_addEvents_68 rfl ?_
    refine x_cle (pc := 70) 78 dX10_addEvents_70 (by decide) ⟨g1, g2⟩ (fun hc => ?_) (fun hc => ?_)
    · replace h := h.1 hc
      refine x_iload (pc := 78) dX10_addEvents_78 rfl ?_
      refine x_iconst (pc := 80) dX10_addEvents_80 ?_
      refine x_iadd (pc := 81) dX10_addEvents_81 ?_
      refine x_istore (pc := 82) (lv' := [some (.inr a0), some (.inl x1), some (.inl x2), some (.inl x3), some (.inl (x4 + 1)), some (.inl x5)]) dX10_addEvents_82 (by decide) rfl ?_
      refine x_goto (pc := 84) 14 dX10_addEvents_84 (by decide) ?_
      refine x_weak (lv := [some (.inr a0), some (.inl x1), some (.inl x2), some (.inl x3), some (.inl (x4 + 1)), none]) (by simp [lvle]) ?_
      exact h
    · replace h := h.2 hc
      refine x_iload (pc := 73) dX10_addEvents_73 rfl ?_
      refine x_goto (pc := 75) 82 dX10_addEvents_75 (by decide) ?_
      refine x_istore (pc := 82) (lv' := [some (.inr a0), some (.inl x1), some (.inl x2), some (.inl x3), some (.inl x5), some (.inl x5)]) dX10_addEvents_82 (by decide) rfl ?_
      refine x_goto (pc := 84) 14 dX10_addEvents_84 (by decide) ?_
      refine x_weak (lv := [some (.inr a0), some (.inl x1), some (.inl x2), some (.inl x3), some (.inl x5), none]) (by simp [lvle]) ?_
      exact h
  · replace h := h.2 hc
    refine x_aload_n (pc := 56) dX10_addEvents_56 rfl rfl ?_
    refine x_iload (pc := 57) dX10_addEvents_57 rfl ?_
    refine x_iload (pc := 59) dX10_addEvents_59 rfl ?_
    refine x_iconst (pc := 61) dX10_addEvents_61 ?_
    refine x_isub (pc := 62) dX10_addEvents_62 ?_
    obtain ⟨R3, hc3, h⟩ := h
    refine x_callV (pc := 63) (z := m_X10_addEvent) (b := a0) (as := [.inl x4, .inl (x5 - 1)]) (rest := []) dX10_addEvents_63 c_RX10_170 (by decide) hk0 rfl (Nat.le_of_ble_eq_true rfl) hc3 (fun r M3 hr => ?_)
    obtain ⟨rfl, hr⟩ := hr
    replace h := h M3 hr
    show fx_At E m_X10_addEvents 66 [some (.inr a0), some (.inl x1), some (.inl x2), some (.inl x3), some (.inl x4), some (.inl x5)] [] M3 Q
    refine x_iload (pc := 66) dX10_addEvents_66 rfl ?_
    refine x_iload (pc := 68) dX10_addEvents_68 rfl ?_
    refine x_cle (pc := 70) 78 dX10_addEvents_70 (by decide) ⟨g1, g2⟩ (fun hc => ?_) (fun hc => ?_)
    · replace h := h.1 hc
      refine x_iload (pc := 78) dX10_addEvents_78 rfl ?_
      refine x_iconst (pc := 80) dX10_addEvents_80 ?_
      refine x_iadd (pc := 81) dX10_addEvents_81 ?_
      refine x_istore (pc := 82) (lv' := [some (.inr a0), some (.inl x1), some (.inl x2), some (.inl x3), some (.inl (x4 + 1)), some (.inl x5)]) dX10_addEvents_82 (by decide) rfl ?_
      refine x_goto (pc := 84) 14 dX10_addEvents_84 (by decide) ?_
      refine x_weak (lv := [some (.inr a0), some (.inl x1), some (.inl x2), some (.inl x3), some (.inl (x4 + 1)), none]) (by simp [lvle]) ?_
      exact h
    · replace h := h.2 hc
      refine x_iload (pc := 73) dX10_addEvents_73 rfl ?_
      refine x_goto (pc := 75) 82 dX10_addEvents_75 (by decide) ?_
      refine x_istore (pc := 82) (lv' := [some (.inr a0), some (.inl x1), some (.inl x2), some (.inl x3), some (.inl x5), some (.inl x5)]) dX10_addEvents_82 (by decide) rfl ?_
      refine x_goto (pc := 84) 14 dX10_addEvents_84 (by decide) ?_
      refine x_weak (lv := [some (.inr a0), some (.inl x1), some (.inl x2), some (.inl x3), some (.inl x5), none]) (by simp [lvle]) ?_
      exact h
set_option maxRecDepth 100000 in
theorem b_X10_addEvents_90 {E : fxE} (hW : fx_Wt E) (a0 : Nat) (x1 : Int) (x2 : Int) (x3 : Int) (x4 : Int) (x5 : Int) (M : fxM) (Q : Option fxV → fxM → Prop) (hk0 : kd E a0 = 10) (h : (-2147483648 ≤ x5 ∧ x5 < 2147483648) ∧ (-2147483648 ≤ (M a0 16) ∧ (M a0 16) < 2147483648) ∧ (((M a0 16) ≤ x5 → Q none M) ∧ (¬ (M a0 16) ≤ x5 → ∃ R3 : fxM → Prop, CtV E m_X10_name [.inr a0, .inl x5, .inl x3] M R3 ∧ ∀ M3 : fxM, R3 M3 → fx_At E m_X10_addEvents 90 [some (.inr a0), some (.inl x1), some (.inl x2), some (.inl x3), some (.inl x4), some (.inl (x5 + 1))] [] M3 Q))) : fx_At E m_X10_addEvents 90 [some (.inr a0), some (.inl x1), some (.inl x2), some (.inl x3), some (.inl x4), some (.inl x5)] [] M Q := by
  refine x_iload (pc := 90) dX10_addEvents_90 rfl ?_
  refine x_aload_n (pc := 92) dX10_addEvents_92 rfl rfl ?_
  refine x_geti (pc := 93) dX10_addEvents_93 f_RX10_161 hk0 ?_
  obtain ⟨g1, h⟩ := h
  obtain ⟨g2, h⟩ := h
  refine x_cge (pc := 96) 112 dX10_addEvents_96 (by decide) ⟨g1, g2⟩ (fun hc => ?_) (fun hc => ?_)
  · replace h := h.1 hc
    exact x_vret (pc := 112) dX10_addEvents_112 rfl h
  · replace h := h.2 hc
    refine x_aload_n (pc := 99) dX10_addEvents_99 rfl rfl ?_
    refine x_iload (pc := 100) dX10_addEvents_100 rfl ?_
    refine x_iload_n (pc := 102) dX10_addEvents_102 rfl rfl ?_
    obtain ⟨R3, hc3, h⟩ := h
    refine x_callV (pc := 103) (z := m_X10_name) (b := a0) (as := [.inl x5, .inl x3]) (rest := []) dX10_addEvents_103 c_RX10_173 (by decide) hk0 rfl (Nat.le_of_ble_eq_true rfl) hc3 (fun r M3 hr => ?_)
    obtain ⟨rfl, hr⟩ := hr
    replace h := h M3 hr
    show fx_At E m_X10_addEvents 106 [some (.inr a0), some (.inl x1), some (.inl x2), some (.inl x3), some (.inl x4), some (.inl x5)] [] M3 Q
    refine x_iinc (pc := 106) (lv' := [some (.inr a0), some (.inl x1), some (.inl x2), some (.inl x3), some (.inl x4), some (.inl (x5 + 1))]) dX10_addEvents_106 rfl (by decide) rfl ?_
    refine x_goto (pc := 109) 90 dX10_addEvents_109 (by decide) ?_
    exact h
theorem dX10_layEvents_0 : decode cX10_layEvents 0 = .ok (.aload_n 0, 1) := by decide +kernel
theorem dX10_layEvents_1 : decode cX10_layEvents 1 = .ok (.iconst 0, 1) := by decide +kernel
theorem dX10_layEvents_2 : decode cX10_layEvents 2 = .ok (.putfield 161, 3) := by decide +kernel
theorem dX10_layEvents_5 : decode cX10_layEvents 5 = .ok (.aload_n 0, 1) := by decide +kernel
theorem dX10_layEvents_6 : decode cX10_layEvents 6 = .ok (.iload_n 1, 1) := by decide +kernel
theorem dX10_layEvents_7 : decode cX10_layEvents 7 = .ok (.iload_n 2, 1) := by decide +kernel
theorem dX10_layEvents_8 : decode cX10_layEvents 8 = .ok (.invokevirtual 176, 3) := by decide +kernel
theorem dX10_layEvents_11 : decode cX10_layEvents 11 = .ok (.return_, 1) := by decide +kernel
set_option maxRecDepth 100000 in
theorem b_X10_layEvents_0 {E : fxE} (hW : fx_Wt E) (a0 : Nat) (x1 : Int) (x2 : Int) (M : fxM) (Q : Option fxV → fxM → Prop) (hk0 : kd E a0 = 10) (h : ∀ M1 : fxM, M1 = mset M a0 16 0 → ∃ R2 : fxM → Prop, CtV E m_X10_addEvents [.inr a0, .inl x1, .inl x2] M1 R2 ∧ ∀ M2 : fxM, R2 M2 → Q none M2) : fx_At E m_X10_layEvents 0 [some (.inr a0), some (.inl x1), some (.inl x2)] [] M Q := by
  refine x_aload_n (pc := 0) dX10_layEvents_0 rfl rfl ?_
  refine x_iconst (pc := 1) dX10_layEvents_1 ?_
  refine x_puti (pc := 2) dX10_layEvents_2 f_RX10_161 hk0 (fun M1 hM1 => ?_)
  replace h := h M1 hM1
  refine x_aload_n (pc := 5) dX10_layEvents_5 rfl rfl ?_
  refine x_iload_n (pc := 6) dX10_layEvents_6 rfl rfl ?_
  refine x_iload_n (pc := 7) dX10_layEvents_7 rfl rfl ?_
  obtain ⟨R2, hc2, h⟩ := h
  refine x_callV (pc := 8) (z := m_X10_addEvents) (b := a0) (as := [.inl x1, .inl x2]) (rest := []) dX10_layEvents_8 c_RX10_176 (by decide) hk0 rfl (Nat.le_of_ble_eq_true rfl) hc2 (fun r M2 hr => ?_)
  obtain ⟨rfl, hr⟩ := hr
  replace h := h M2 hr
  show fx_At E m_X10_layEvents 11 [some (.inr a0), some (.inl x1), some (.inl x2)] [] M2 Q
  exact x_vret (pc := 11) dX10_layEvents_11 rfl h
theorem dX10_events_0 : decode cX10_events 0 = .ok (.iload_n 1, 1) := by decide +kernel
theorem dX10_events_1 : decode cX10_events 1 = .ok (.iload_n 2, 1) := by decide +kernel
theorem dX10_events_2 : decode cX10_events 2 = .ok (.invokestatic 144, 3) := by decide +kernel
theorem dX10_events_5 : decode cX10_events 5 = .ok (.ifCond .ne 6, 3) := by decide +kernel
theorem dX10_events_8 : decode cX10_events 8 = .ok (.ldc 81, 2) := by decide +kernel
theorem dX10_events_10 : decode cX10_events 10 = .ok (.ireturn, 1) := by decide +kernel
theorem dX10_events_11 : decode cX10_events 11 = .ok (.aload_n 0, 1) := by decide +kernel
theorem dX10_events_12 : decode cX10_events 12 = .ok (.iload_n 1, 1) := by decide +kernel
theorem dX10_events_13 : decode cX10_events 13 = .ok (.iload_n 2, 1) := by decide +kernel
theorem dX10_events_14 : decode cX10_events 14 = .ok (.invokevirtual 179, 3) := by decide +kernel
theorem dX10_events_17 : decode cX10_events 17 = .ok (.aload_n 0, 1) := by decide +kernel
theorem dX10_events_18 : decode cX10_events 18 = .ok (.getfield 161, 3) := by decide +kernel
theorem dX10_events_21 : decode cX10_events 21 = .ok (.ireturn, 1) := by decide +kernel
set_option maxRecDepth 100000 in
theorem b_X10_events_0 {E : fxE} (hW : fx_Wt E) (a0 : Nat) (x1 : Int) (x2 : Int) (M : fxM) (Q : Option fxV → fxM → Prop) (hk0 : kd E a0 = 10) (h : (-2147483648 ≤ x1 ∧ x1 < 2147483648) ∧ (-2147483648 ≤ x2 ∧ x2 < 2147483648) ∧ ((okTr x1 x2 → ∃ R4 : fxM → Prop, CtV E m_X10_layEvents [.inr a0, .inl x1, .inl x2] M R4 ∧ ∀ M4 : fxM, R4 M4 → Q (some (.inl (M4 a0 16))) M4) ∧ (¬ (okTr x1 x2) → Q (some (.inl (-1000002))) M))) : fx_At E m_X10_events 0 [some (.inr a0), some (.inl x1), some (.inl x2)] [] M Q := by
  refine x_iload_n (pc := 0) dX10_events_0 rfl rfl ?_
  refine x_iload_n (pc := 1) dX10_events_1 rfl rfl ?_
  obtain ⟨g1, h⟩ := h
  obtain ⟨g2, h⟩ := h
  refine x_callS (pc := 2) (z := m_X10_isTrace) (as := [.inl x1, .inl x2]) (rest := []) dX10_events_2 c_RX10_144 (by decide) rfl (Nat.le_of_ble_eq_true rfl) (ct_X10_isTrace hW g1 g2) (fun r M9 hr => ?_)
  obtain ⟨hM9, hr⟩ := hr
  rw [hM9]
  clear hM9
  obtain ⟨hc, rfl⟩ | ⟨hc, rfl⟩ := hr
  · replace h := h.1 hc
    show fx_At E m_X10_events 5 [some (.inr a0), some (.inl x1), some (.inl x2)] [.inl 1] _ Q
    refine x_zne (pc := 5) 11 dX10_events_5 (by decide) ⟨by decide, by decide⟩ (fun _ => ?_) (fun hx => absurd hx (by decide))
    refine x_aload_n (pc := 11) dX10_events_11 rfl rfl ?_
    refine x_iload_n (pc := 12) dX10_events_12 rfl rfl ?_
    refine x_iload_n (pc := 13) dX10_events_13 rfl rfl ?_
    obtain ⟨R4, hc4, h⟩ := h
    refine x_callV (pc := 14) (z := m_X10_layEvents) (b := a0) (as := [.inl x1, .inl x2]) (rest := []) dX10_events_14 c_RX10_179 (by decide) hk0 rfl (Nat.le_of_ble_eq_true rfl) hc4 (fun r M4 hr => ?_)
    obtain ⟨rfl, hr⟩ := hr
    replace h := h M4 hr
    show fx_At E m_X10_events 17 [some (.inr a0), some (.inl x1), some (.inl x2)] [] M4 Q
    refine x_aload_n (pc := 17) dX10_events_17 rfl rfl ?_
    refine x_geti (pc := 18) dX10_events_18 f_RX10_161 hk0 ?_
    exact x_iret (pc := 21) dX10_events_21 (Or.inl rfl) h
  · replace h := h.2 hc
    show fx_At E m_X10_events 5 [some (.inr a0), some (.inl x1), some (.inl x2)] [.inl 0] _ Q
    refine x_zne (pc := 5) 11 dX10_events_5 (by decide) ⟨by decide, by decide⟩ (fun hx => absurd hx (by decide)) (fun _ => ?_)
    refine x_ldc (pc := 8) (n := -1000002) dX10_events_8 k_RX10_81 rfl ?_
    exact x_iret (pc := 10) dX10_events_10 (Or.inl rfl) h
theorem dX10_event_0 : decode cX10_event 0 = .ok (.iload_n 1, 1) := by decide +kernel
theorem dX10_event_1 : decode cX10_event 1 = .ok (.iload_n 2, 1) := by decide +kernel
theorem dX10_event_2 : decode cX10_event 2 = .ok (.invokestatic 144, 3) := by decide +kernel
theorem dX10_event_5 : decode cX10_event 5 = .ok (.ifCond .eq 14, 3) := by decide +kernel
theorem dX10_event_8 : decode cX10_event 8 = .ok (.iload 4, 2) := by decide +kernel
theorem dX10_event_10 : decode cX10_event 10 = .ok (.iconst 0, 1) := by decide +kernel
theorem dX10_event_11 : decode cX10_event 11 = .ok (.bipush 6, 2) := by decide +kernel
theorem dX10_event_13 : decode cX10_event 13 = .ok (.invokestatic 74, 3) := by decide +kernel
theorem dX10_event_16 : decode cX10_event 16 = .ok (.ifCond .ne 6, 3) := by decide +kernel
theorem dX10_event_19 : decode cX10_event 19 = .ok (.ldc 81, 2) := by decide +kernel
theorem dX10_event_21 : decode cX10_event 21 = .ok (.ireturn, 1) := by decide +kernel
theorem dX10_event_22 : decode cX10_event 22 = .ok (.aload_n 0, 1) := by decide +kernel
theorem dX10_event_23 : decode cX10_event 23 = .ok (.iload_n 1, 1) := by decide +kernel
theorem dX10_event_24 : decode cX10_event 24 = .ok (.iload_n 2, 1) := by decide +kernel
theorem dX10_event_25 : decode cX10_event 25 = .ok (.invokevirtual 179, 3) := by decide +kernel
theorem dX10_event_28 : decode cX10_event 28 = .ok (.iload_n 3, 1) := by decide +kernel
theorem dX10_event_29 : decode cX10_event 29 = .ok (.iconst 0, 1) := by decide +kernel
theorem dX10_event_30 : decode cX10_event 30 = .ok (.aload_n 0, 1) := by decide +kernel
theorem dX10_event_31 : decode cX10_event 31 = .ok (.getfield 161, 3) := by decide +kernel
theorem dX10_event_34 : decode cX10_event 34 = .ok (.iconst 1, 1) := by decide +kernel
theorem dX10_event_35 : decode cX10_event 35 = .ok (.isub, 1) := by decide +kernel
theorem dX10_event_36 : decode cX10_event 36 = .ok (.invokestatic 74, 3) := by decide +kernel
theorem dX10_event_39 : decode cX10_event 39 = .ok (.ifCond .eq 13, 3) := by decide +kernel
theorem dX10_event_42 : decode cX10_event 42 = .ok (.aload_n 0, 1) := by decide +kernel
theorem dX10_event_43 : decode cX10_event 43 = .ok (.iload_n 3, 1) := by decide +kernel
theorem dX10_event_44 : decode cX10_event 44 = .ok (.iload 4, 2) := by decide +kernel
theorem dX10_event_46 : decode cX10_event 46 = .ok (.invokevirtual 164, 3) := by decide +kernel
theorem dX10_event_49 : decode cX10_event 49 = .ok (.goto 5, 3) := by decide +kernel
theorem dX10_event_52 : decode cX10_event 52 = .ok (.ldc 94, 2) := by decide +kernel
theorem dX10_event_54 : decode cX10_event 54 = .ok (.ireturn, 1) := by decide +kernel
set_option maxRecDepth 100000 in
theorem b_X10_event_0 {E : fxE} (hW : fx_Wt E) (a0 : Nat) (x1 : Int) (x2 : Int) (x3 : Int) (x4 : Int) (M : fxM) (Q : Option fxV → fxM → Prop) (hk0 : kd E a0 = 10) (h : (-2147483648 ≤ x1 ∧ x1 < 2147483648) ∧ (-2147483648 ≤ x2 ∧ x2 < 2147483648) ∧ ((okTr x1 x2 → (-2147483648 ≤ x4 ∧ x4 < 2147483648) ∧ (((0 : Int) ≤ x4 ∧ x4 ≤ (6 : Int) → ∃ R6 : fxM → Prop, CtV E m_X10_layEvents [.inr a0, .inl x1, .inl x2] M R6 ∧ ∀ M6 : fxM, R6 M6 → (-2147483648 ≤ x3 ∧ x3 < 2147483648) ∧ (-2147483648 ≤ ((M6 a0 16) - 1) ∧ ((M6 a0 16) - 1) < 2147483648) ∧ (((0 : Int) ≤ x3 ∧ x3 ≤ ((M6 a0 16) - 1) → (0 ≤ 7 * x3 + x4 ∧ 7 * x3 + x4 < 2814) ∧ Q (some (.inl (M6 (rf E a0 15) (7 * x3 + x4).toNat))) M6) ∧ (¬ ((0 : Int) ≤ x3 ∧ x3 ≤ ((M6 a0 16) - 1)) → Q (some (.inl (-1000001))) M6))) ∧ (¬ ((0 : Int) ≤ x4 ∧ x4 ≤ (6 : Int)) → Q (some (.inl (-1000002))) M))) ∧ (¬ (okTr x1 x2) → Q (some (.inl (-1000002))) M))) : fx_At E m_X10_event 0 [some (.inr a0), some (.inl x1), some (.inl x2), some (.inl x3), some (.inl x4)] [] M Q := by
  refine x_iload_n (pc := 0) dX10_event_0 rfl rfl ?_
  refine x_iload_n (pc := 1) dX10_event_1 rfl rfl ?_
  obtain ⟨g1, h⟩ := h
  obtain ⟨g2, h⟩ := h
  refine x_callS (pc := 2) (z := m_X10_isTrace) (as := [.inl x1, .inl x2]) (rest := []) dX10_event_2 c_RX10_144 (by decide) rfl (Nat.le_of_ble_eq_true rfl) (ct_X10_isTrace hW g1 g2) (fun r M9 hr => ?_)
  obtain ⟨hM9, hr⟩ := hr
  rw [hM9]
  clear hM9
  obtain ⟨hc, rfl⟩ | ⟨hc, rfl⟩ := hr
  · replace h := h.1 hc
    show fx_At E m_X10_event 5 [some (.inr a0), some (.inl x1), some (.inl x2), some (.inl x3), some (.inl x4)] [.inl 1] _ Q
    refine x_zeq (pc := 5) 19 dX10_event_5 (by decide) ⟨by decide, by decide⟩ (fun hx => absurd hx (by decide)) (fun _ => ?_)
    refine x_iload (pc := 8) dX10_event_8 rfl ?_
    refine x_iconst (pc := 10) dX10_event_10 ?_
    refine x_bipush (pc := 11) dX10_event_11 (by decide +kernel) ?_
    obtain ⟨g4, h⟩ := h
    refine x_callS (pc := 13) (z := m_X10_isIn) (as := [.inl x4, .inl 0, .inl 6]) (rest := []) dX10_event_13 c_RX10_74 (by decide) rfl (Nat.le_of_ble_eq_true rfl) (ct_isIn hW g4 ⟨by decide, by decide⟩ ⟨by decide, by decide⟩) (fun r M9 hr => ?_)
    obtain ⟨hM9, hr⟩ := hr
    rw [hM9]
    clear hM9
    obtain ⟨hc, rfl⟩ | ⟨hc, rfl⟩ := hr
    · replace h := h.1 hc
      show fx_At E m_X10_event 16 [some (.inr a0), some (.inl x1), some (.inl x2), some (.inl x3), some (.inl x4)] [.inl 1] _ Q
      refine x_zne (pc := 16) 22 dX10_event_16 (by decide) ⟨by decide, by decide⟩ (fun _ => ?_) (fun hx => absurd hx (by decide))
      refine x_aload_n (pc := 22) dX10_event_22 rfl rfl ?_
      refine x_iload_n (pc := 23) dX10_event_23 rfl rfl ?_
      refine x_iload_n (pc := 24) dX10_event_24 rfl rfl ?_
      obtain ⟨R6, hc6, h⟩ := h
      refine x_callV (pc := 25) (z := m_X10_layEvents) (b := a0) (as := [.inl x1, .inl x2]) (rest := []) dX10_event_25 c_RX10_179 (by decide) hk0 rfl (Nat.le_of_ble_eq_true rfl) hc6 (fun r M6 hr => ?_)
      obtain ⟨rfl, hr⟩ := hr
      replace h := h M6 hr
      show fx_At E m_X10_event 28 [some (.inr a0), some (.inl x1), some (.inl x2), some (.inl x3), some (.inl x4)] [] M6 Q
      refine x_iload_n (pc := 28) dX10_event_28 rfl rfl ?_
      refine x_iconst (pc := 29) dX10_event_29 ?_
      refine x_aload_n (pc := 30) dX10_event_30 rfl rfl ?_
      refine x_geti (pc := 31) dX10_event_31 f_RX10_161 hk0 ?_
      refine x_iconst (pc := 34) dX10_event_34 ?_
      refine x_isub (pc := 35) dX10_event_35 ?_
      obtain ⟨g7, h⟩ := h
      obtain ⟨g8, h⟩ := h
      refine x_callS (pc := 36) (z := m_X10_isIn) (as := [.inl x3, .inl 0, .inl ((M6 a0 16) - 1)]) (rest := []) dX10_event_36 c_RX10_74 (by decide) rfl (Nat.le_of_ble_eq_true rfl) (ct_isIn hW g7 ⟨by decide, by decide⟩ g8) (fun r M9 hr => ?_)
      obtain ⟨hM9, hr⟩ := hr
      rw [hM9]
      clear hM9
      obtain ⟨hc, rfl⟩ | ⟨hc, rfl⟩ := hr
      · replace h := h.1 hc
        show fx_At E m_X10_event 39 [some (.inr a0), some (.inl x1), some (.inl x2), some (.inl x3), some (.inl x4)] [.inl 1] _ Q
        refine x_zeq (pc := 39) 52 dX10_event_39 (by decide) ⟨by decide, by decide⟩ (fun hx => absurd hx (by decide)) (fun _ => ?_)
        refine x_aload_n (pc := 42) dX10_event_42 rfl rfl ?_
        refine x_iload_n (pc := 43) dX10_event_43 rfl rfl ?_
        refine x_iload (pc := 44) dX10_event_44 rfl ?_
        obtain ⟨g10, h⟩ := h
        refine x_callV (pc := 46) (z := m_X10_of) (b := a0) (as := [.inl x3, .inl x4]) (rest := []) dX10_event_46 c_RX10_164 (by decide) hk0 rfl (Nat.le_of_ble_eq_true rfl) (ct_X10_of hW hk0 g10) (fun r M9 hr => ?_)
        obtain ⟨hM9, hr⟩ := hr
        rw [hM9, hr]
        clear hM9 hr
        show fx_At E m_X10_event 49 [some (.inr a0), some (.inl x1), some (.inl x2), some (.inl x3), some (.inl x4)] [.inl (M6 (rf E a0 15) (7 * x3 + x4).toNat)] _ Q
        refine x_goto (pc := 49) 54 dX10_event_49 (by decide) ?_
        exact x_iret (pc := 54) dX10_event_54 (Or.inl rfl) h
      · replace h := h.2 hc
        show fx_At E m_X10_event 39 [some (.inr a0), some (.inl x1), some (.inl x2), some (.inl x3), some (.inl x4)] [.inl 0] _ Q
        refine x_zeq (pc := 39) 52 dX10_event_39 (by decide) ⟨by decide, by decide⟩ (fun _ => ?_) (fun hx => absurd hx (by decide))
        refine x_ldc (pc := 52) (n := -1000001) dX10_event_52 k_RX10_94 rfl ?_
        exact x_iret (pc := 54) dX10_event_54 (Or.inl rfl) h
    · replace h := h.2 hc
      show fx_At E m_X10_event 16 [some (.inr a0), some (.inl x1), some (.inl x2), some (.inl x3), some (.inl x4)] [.inl 0] _ Q
      refine x_zne (pc := 16) 22 dX10_event_16 (by decide) ⟨by decide, by decide⟩ (fun hx => absurd hx (by decide)) (fun _ => ?_)
      refine x_ldc (pc := 19) (n := -1000002) dX10_event_19 k_RX10_81 rfl ?_
      exact x_iret (pc := 21) dX10_event_21 (Or.inl rfl) h
  · replace h := h.2 hc
    show fx_At E m_X10_event 5 [some (.inr a0), some (.inl x1), some (.inl x2), some (.inl x3), some (.inl x4)] [.inl 0] _ Q
    refine x_zeq (pc := 5) 19 dX10_event_5 (by decide) ⟨by decide, by decide⟩ (fun _ => ?_) (fun hx => absurd hx (by decide))
    refine x_ldc (pc := 19) (n := -1000002) dX10_event_19 k_RX10_81 rfl ?_
    exact x_iret (pc := 21) dX10_event_21 (Or.inl rfl) h
theorem dX10_ghosts_0 : decode cX10_ghosts 0 = .ok (.iload_n 1, 1) := by decide +kernel
theorem dX10_ghosts_1 : decode cX10_ghosts 1 = .ok (.iload_n 2, 1) := by decide +kernel
theorem dX10_ghosts_2 : decode cX10_ghosts 2 = .ok (.invokestatic 144, 3) := by decide +kernel
theorem dX10_ghosts_5 : decode cX10_ghosts 5 = .ok (.ifCond .ne 6, 3) := by decide +kernel
theorem dX10_ghosts_8 : decode cX10_ghosts 8 = .ok (.ldc 81, 2) := by decide +kernel
theorem dX10_ghosts_10 : decode cX10_ghosts 10 = .ok (.ireturn, 1) := by decide +kernel
theorem dX10_ghosts_11 : decode cX10_ghosts 11 = .ok (.aload_n 0, 1) := by decide +kernel
theorem dX10_ghosts_12 : decode cX10_ghosts 12 = .ok (.iload_n 1, 1) := by decide +kernel
theorem dX10_ghosts_13 : decode cX10_ghosts 13 = .ok (.iload_n 2, 1) := by decide +kernel
theorem dX10_ghosts_14 : decode cX10_ghosts 14 = .ok (.invokevirtual 179, 3) := by decide +kernel
theorem dX10_ghosts_17 : decode cX10_ghosts 17 = .ok (.iconst 0, 1) := by decide +kernel
theorem dX10_ghosts_18 : decode cX10_ghosts 18 = .ok (.istore_n 3, 1) := by decide +kernel
theorem dX10_ghosts_19 : decode cX10_ghosts 19 = .ok (.iconst 0, 1) := by decide +kernel
theorem dX10_ghosts_20 : decode cX10_ghosts 20 = .ok (.istore 4, 2) := by decide +kernel
theorem dX10_ghosts_22 : decode cX10_ghosts 22 = .ok (.iload 4, 2) := by decide +kernel
theorem dX10_ghosts_24 : decode cX10_ghosts 24 = .ok (.aload_n 0, 1) := by decide +kernel
theorem dX10_ghosts_25 : decode cX10_ghosts 25 = .ok (.getfield 161, 3) := by decide +kernel
theorem dX10_ghosts_28 : decode cX10_ghosts 28 = .ok (.if_icmp .ge 39, 3) := by decide +kernel
theorem dX10_ghosts_31 : decode cX10_ghosts 31 = .ok (.iload 4, 2) := by decide +kernel
theorem dX10_ghosts_33 : decode cX10_ghosts 33 = .ok (.bipush 30, 2) := by decide +kernel
theorem dX10_ghosts_35 : decode cX10_ghosts 35 = .ok (.if_icmp .ge 32, 3) := by decide +kernel
theorem dX10_ghosts_38 : decode cX10_ghosts 38 = .ok (.iload_n 3, 1) := by decide +kernel
theorem dX10_ghosts_39 : decode cX10_ghosts 39 = .ok (.aload_n 0, 1) := by decide +kernel
theorem dX10_ghosts_40 : decode cX10_ghosts 40 = .ok (.iload 4, 2) := by decide +kernel
theorem dX10_ghosts_42 : decode cX10_ghosts 42 = .ok (.iconst 5, 1) := by decide +kernel
theorem dX10_ghosts_43 : decode cX10_ghosts 43 = .ok (.invokevirtual 164, 3) := by decide +kernel
theorem dX10_ghosts_46 : decode cX10_ghosts 46 = .ok (.ldc 23, 2) := by decide +kernel
theorem dX10_ghosts_48 : decode cX10_ghosts 48 = .ok (.if_icmp .eq 10, 3) := by decide +kernel
theorem dX10_ghosts_51 : decode cX10_ghosts 51 = .ok (.iconst 1, 1) := by decide +kernel
theorem dX10_ghosts_52 : decode cX10_ghosts 52 = .ok (.iload 4, 2) := by decide +kernel
theorem dX10_ghosts_54 : decode cX10_ghosts 54 = .ok (.ishl, 1) := by decide +kernel
theorem dX10_ghosts_55 : decode cX10_ghosts 55 = .ok (.goto 4, 3) := by decide +kernel
theorem dX10_ghosts_58 : decode cX10_ghosts 58 = .ok (.iconst 0, 1) := by decide +kernel
theorem dX10_ghosts_59 : decode cX10_ghosts 59 = .ok (.ior, 1) := by decide +kernel
theorem dX10_ghosts_60 : decode cX10_ghosts 60 = .ok (.istore_n 3, 1) := by decide +kernel
theorem dX10_ghosts_61 : decode cX10_ghosts 61 = .ok (.iinc 4 1, 3) := by decide +kernel
theorem dX10_ghosts_64 : decode cX10_ghosts 64 = .ok (.goto (-42), 3) := by decide +kernel
theorem dX10_ghosts_67 : decode cX10_ghosts 67 = .ok (.iload_n 3, 1) := by decide +kernel
theorem dX10_ghosts_68 : decode cX10_ghosts 68 = .ok (.ireturn, 1) := by decide +kernel
set_option maxRecDepth 100000 in
theorem b_X10_ghosts_0 {E : fxE} (hW : fx_Wt E) (a0 : Nat) (x1 : Int) (x2 : Int) (M : fxM) (Q : Option fxV → fxM → Prop) (hk0 : kd E a0 = 10) (h : (-2147483648 ≤ x1 ∧ x1 < 2147483648) ∧ (-2147483648 ≤ x2 ∧ x2 < 2147483648) ∧ ((okTr x1 x2 → ∃ R4 : fxM → Prop, CtV E m_X10_layEvents [.inr a0, .inl x1, .inl x2] M R4 ∧ ∀ M4 : fxM, R4 M4 → fx_At E m_X10_ghosts 22 [some (.inr a0), some (.inl x1), some (.inl x2), some (.inl 0), some (.inl 0)] [] M4 Q) ∧ (¬ (okTr x1 x2) → Q (some (.inl (-1000002))) M))) : fx_At E m_X10_ghosts 0 [some (.inr a0), some (.inl x1), some (.inl x2), none, none] [] M Q := by
  refine x_iload_n (pc := 0) dX10_ghosts_0 rfl rfl ?_
  refine x_iload_n (pc := 1) dX10_ghosts_1 rfl rfl ?_
  obtain ⟨g1, h⟩ := h
  obtain ⟨g2, h⟩ := h
  refine x_callS (pc := 2) (z := m_X10_isTrace) (as := [.inl x1, .inl x2]) (rest := []) dX10_ghosts_2 c_RX10_144 (by decide) rfl (Nat.le_of_ble_eq_true rfl) (ct_X10_isTrace hW g1 g2) (fun r M9 hr => ?_)
  obtain ⟨hM9, hr⟩ := hr
  rw [hM9]
  clear hM9
  obtain ⟨hc, rfl⟩ | ⟨hc, rfl⟩ := hr
  · replace h := h.1 hc
    show fx_At E m_X10_ghosts 5 [some (.inr a0), some (.inl x1), some (.inl x2), none, none] [.inl 1] _ Q
    refine x_zne (pc := 5) 11 dX10_ghosts_5 (by decide) ⟨by decide, by decide⟩ (fun _ => ?_) (fun hx => absurd hx (by decide))
    refine x_aload_n (pc := 11) dX10_ghosts_11 rfl rfl ?_
    refine x_iload_n (pc := 12) dX10_ghosts_12 rfl rfl ?_
    refine x_iload_n (pc := 13) dX10_ghosts_13 rfl rfl ?_
    obtain ⟨R4, hc4, h⟩ := h
    refine x_callV (pc := 14) (z := m_X10_layEvents) (b := a0) (as := [.inl x1, .inl x2]) (rest := []) dX10_ghosts_14 c_RX10_179 (by decide) hk0 rfl (Nat.le_of_ble_eq_true rfl) hc4 (fun r M4 hr => ?_)
    obtain ⟨rfl, hr⟩ := hr
    replace h := h M4 hr
    show fx_At E m_X10_ghosts 17 [some (.inr a0), some (.inl x1), some (.inl x2), none, none] [] M4 Q
    refine x_iconst (pc := 17) dX10_ghosts_17 ?_
    refine x_istore_n (pc := 18) (lv' := [some (.inr a0), some (.inl x1), some (.inl x2), some (.inl 0), none]) dX10_ghosts_18 rfl (by decide) rfl ?_
    refine x_iconst (pc := 19) dX10_ghosts_19 ?_
    refine x_istore (pc := 20) (lv' := [some (.inr a0), some (.inl x1), some (.inl x2), some (.inl 0), some (.inl 0)]) dX10_ghosts_20 (by decide) rfl ?_
    exact h
  · replace h := h.2 hc
    show fx_At E m_X10_ghosts 5 [some (.inr a0), some (.inl x1), some (.inl x2), none, none] [.inl 0] _ Q
    refine x_zne (pc := 5) 11 dX10_ghosts_5 (by decide) ⟨by decide, by decide⟩ (fun hx => absurd hx (by decide)) (fun _ => ?_)
    refine x_ldc (pc := 8) (n := -1000002) dX10_ghosts_8 k_RX10_81 rfl ?_
    exact x_iret (pc := 10) dX10_ghosts_10 (Or.inl rfl) h
set_option maxRecDepth 100000 in
theorem b_X10_ghosts_22 {E : fxE} (hW : fx_Wt E) (a0 : Nat) (x1 : Int) (x2 : Int) (x3 : Int) (x4 : Int) (M : fxM) (Q : Option fxV → fxM → Prop) (hk0 : kd E a0 = 10) (h : (-2147483648 ≤ x4 ∧ x4 < 2147483648) ∧ (-2147483648 ≤ (M a0 16) ∧ (M a0 16) < 2147483648) ∧ (((M a0 16) ≤ x4 → Q (some (.inl x3)) M) ∧ (¬ (M a0 16) ≤ x4 → (((30 : Int) ≤ x4 → Q (some (.inl x3)) M) ∧ (¬ (30 : Int) ≤ x4 → (0 ≤ 7 * x4 + (5 : Int) ∧ 7 * x4 + (5 : Int) < 2814) ∧ (-2147483648 ≤ (M (rf E a0 15) (7 * x4 + 5).toNat) ∧ (M (rf E a0 15) (7 * x4 + 5).toNat) < 2147483648) ∧ (((M (rf E a0 15) (7 * x4 + 5).toNat) = (-1000005 : Int) → ∃ u5 v5 : Nat, x3 = (u5 : Int) ∧ 0 = (v5 : Int) ∧ fx_At E m_X10_ghosts 22 [some (.inr a0), some (.inl x1), some (.inl x2), some (.inl ((u5 ||| v5 : Nat) : Int)), some (.inl (x4 + 1))] [] M Q) ∧ (¬ (M (rf E a0 15) (7 * x4 + 5).toNat) = (-1000005 : Int) → ∃ u6 : Nat, x4 = (u6 : Int) ∧ u6 < 31 ∧ ∃ u7 v7 : Nat, x3 = (u7 : Int) ∧ ((2 ^ u6 : Nat) : Int) = (v7 : Int) ∧ fx_At E m_X10_ghosts 22 [some (.inr a0), some (.inl x1), some (.inl x2), some (.inl ((u7 ||| v7 : Nat) : Int)), some (.inl (x4 + 1))] [] M Q))))))) : fx_At E m_X10_ghosts 22 [some (.inr a0), some (.inl x1), some (.inl x2), some (.inl x3), some (.inl x4)] [] M Q := by
  refine x_iload (pc := 22) dX10_ghosts_22 rfl ?_
  refine x_aload_n (pc := 24) dX10_ghosts_24 rfl rfl ?_
  refine x_geti (pc := 25) dX10_ghosts_25 f_RX10_161 hk0 ?_
  obtain ⟨g1, h⟩ := h
  obtain ⟨g2, h⟩ := h
  refine x_cge (pc := 28) 67 dX10_ghosts_28 (by decide) ⟨g1, g2⟩ (fun hc => ?_) (fun hc => ?_)
  · replace h := h.1 hc
    refine x_iload_n (pc := 67) dX10_ghosts_67 rfl rfl ?_
    exact x_iret (pc := 68) dX10_ghosts_68 (Or.inl rfl) h
  · replace h := h.2 hc
    refine x_iload (pc := 31) dX10_ghosts_31 rfl ?_
    refine x_bipush (pc := 33) dX10_ghosts_33 (by decide +kernel) ?_
    refine x_cge (pc := 35) 67 dX10_ghosts_35 (by decide) ⟨g1, ⟨by decide, by decide⟩⟩ (fun hc => ?_) (fun hc => ?_)
    · replace h := h.1 hc
      refine x_iload_n (pc := 67) dX10_ghosts_67 rfl rfl ?_
      exact x_iret (pc := 68) dX10_ghosts_68 (Or.inl rfl) h
    · replace h := h.2 hc
      refine x_iload_n (pc := 38) dX10_ghosts_38 rfl rfl ?_
      refine x_aload_n (pc := 39) dX10_ghosts_39 rfl rfl ?_
      refine x_iload (pc := 40) dX10_ghosts_40 rfl ?_
      refine x_iconst (pc := 42) dX10_ghosts_42 ?_
      obtain ⟨g3, h⟩ := h
      refine x_callV (pc := 43) (z := m_X10_of) (b := a0) (as := [.inl x4, .inl 5]) (rest := [.inl x3]) dX10_ghosts_43 c_RX10_164 (by decide) hk0 rfl (Nat.le_of_ble_eq_true rfl) (ct_X10_of hW hk0 g3) (fun r M9 hr => ?_)
      obtain ⟨hM9, hr⟩ := hr
      rw [hM9, hr]
      clear hM9 hr
      show fx_At E m_X10_ghosts 46 [some (.inr a0), some (.inl x1), some (.inl x2), some (.inl x3), some (.inl x4)] [.inl (M (rf E a0 15) (7 * x4 + 5).toNat), .inl x3] _ Q
      refine x_ldc (pc := 46) (n := -1000005) dX10_ghosts_46 k_RX10_23 rfl ?_
      obtain ⟨g4, h⟩ := h
      refine x_ceq (pc := 48) 58 dX10_ghosts_48 (by decide) ⟨g4, ⟨by decide, by decide⟩⟩ (fun hc => ?_) (fun hc => ?_)
      · replace h := h.1 hc
        refine x_iconst (pc := 58) dX10_ghosts_58 ?_
        obtain ⟨u5, v5, hu5, hv5, h⟩ := h
        refine x_ior hu5 hv5 (pc := 59) dX10_ghosts_59 ?_
        refine x_istore_n (pc := 60) (lv' := [some (.inr a0), some (.inl x1), some (.inl x2), some (.inl ((u5 ||| v5 : Nat) : Int)), some (.inl x4)]) dX10_ghosts_60 rfl (by decide) rfl ?_
        refine x_iinc (pc := 61) (lv' := [some (.inr a0), some (.inl x1), some (.inl x2), some (.inl ((u5 ||| v5 : Nat) : Int)), some (.inl (x4 + 1))]) dX10_ghosts_61 rfl (by decide) rfl ?_
        refine x_goto (pc := 64) 22 dX10_ghosts_64 (by decide) ?_
        exact h
      · replace h := h.2 hc
        refine x_iconst (pc := 51) dX10_ghosts_51 ?_
        refine x_iload (pc := 52) dX10_ghosts_52 rfl ?_
        obtain ⟨u6, hu6, hl6, h⟩ := h
        refine x_shl1 hu6 hl6 (pc := 54) dX10_ghosts_54 ?_
        refine x_goto (pc := 55) 59 dX10_ghosts_55 (by decide) ?_
        obtain ⟨u7, v7, hu7, hv7, h⟩ := h
        refine x_ior hu7 hv7 (pc := 59) dX10_ghosts_59 ?_
        refine x_istore_n (pc := 60) (lv' := [some (.inr a0), some (.inl x1), some (.inl x2), some (.inl ((u7 ||| v7 : Nat) : Int)), some (.inl x4)]) dX10_ghosts_60 rfl (by decide) rfl ?_
        refine x_iinc (pc := 61) (lv' := [some (.inr a0), some (.inl x1), some (.inl x2), some (.inl ((u7 ||| v7 : Nat) : Int)), some (.inl (x4 + 1))]) dX10_ghosts_61 rfl (by decide) rfl ?_
        refine x_goto (pc := 64) 22 dX10_ghosts_64 (by decide) ?_
        exact h
theorem dX10_firstEnd_0 : decode cX10_firstEnd 0 = .ok (.aload_n 0, 1) := by decide +kernel
theorem dX10_firstEnd_1 : decode cX10_firstEnd 1 = .ok (.iload_n 1, 1) := by decide +kernel
theorem dX10_firstEnd_2 : decode cX10_firstEnd 2 = .ok (.iload_n 2, 1) := by decide +kernel
theorem dX10_firstEnd_3 : decode cX10_firstEnd 3 = .ok (.invokevirtual 179, 3) := by decide +kernel
theorem dX10_firstEnd_6 : decode cX10_firstEnd 6 = .ok (.iconst 0, 1) := by decide +kernel
theorem dX10_firstEnd_7 : decode cX10_firstEnd 7 = .ok (.istore_n 3, 1) := by decide +kernel
theorem dX10_firstEnd_8 : decode cX10_firstEnd 8 = .ok (.iload_n 3, 1) := by decide +kernel
theorem dX10_firstEnd_9 : decode cX10_firstEnd 9 = .ok (.aload_n 0, 1) := by decide +kernel
theorem dX10_firstEnd_10 : decode cX10_firstEnd 10 = .ok (.getfield 161, 3) := by decide +kernel
theorem dX10_firstEnd_13 : decode cX10_firstEnd 13 = .ok (.if_icmp .ge 26, 3) := by decide +kernel
theorem dX10_firstEnd_16 : decode cX10_firstEnd 16 = .ok (.aload_n 0, 1) := by decide +kernel
theorem dX10_firstEnd_17 : decode cX10_firstEnd 17 = .ok (.iload_n 3, 1) := by decide +kernel
theorem dX10_firstEnd_18 : decode cX10_firstEnd 18 = .ok (.iconst 2, 1) := by decide +kernel
theorem dX10_firstEnd_19 : decode cX10_firstEnd 19 = .ok (.invokevirtual 164, 3) := by decide +kernel
theorem dX10_firstEnd_22 : decode cX10_firstEnd 22 = .ok (.iconst 2, 1) := by decide +kernel
theorem dX10_firstEnd_23 : decode cX10_firstEnd 23 = .ok (.if_icmp .ne 10, 3) := by decide +kernel
theorem dX10_firstEnd_26 : decode cX10_firstEnd 26 = .ok (.aload_n 0, 1) := by decide +kernel
theorem dX10_firstEnd_27 : decode cX10_firstEnd 27 = .ok (.iload_n 3, 1) := by decide +kernel
theorem dX10_firstEnd_28 : decode cX10_firstEnd 28 = .ok (.iconst 0, 1) := by decide +kernel
theorem dX10_firstEnd_29 : decode cX10_firstEnd 29 = .ok (.invokevirtual 164, 3) := by decide +kernel
theorem dX10_firstEnd_32 : decode cX10_firstEnd 32 = .ok (.ireturn, 1) := by decide +kernel
theorem dX10_firstEnd_33 : decode cX10_firstEnd 33 = .ok (.iinc 3 1, 3) := by decide +kernel
theorem dX10_firstEnd_36 : decode cX10_firstEnd 36 = .ok (.goto (-28), 3) := by decide +kernel
theorem dX10_firstEnd_39 : decode cX10_firstEnd 39 = .ok (.ldc 23, 2) := by decide +kernel
theorem dX10_firstEnd_41 : decode cX10_firstEnd 41 = .ok (.ireturn, 1) := by decide +kernel
set_option maxRecDepth 100000 in
theorem b_X10_firstEnd_0 {E : fxE} (hW : fx_Wt E) (a0 : Nat) (x1 : Int) (x2 : Int) (M : fxM) (Q : Option fxV → fxM → Prop) (hk0 : kd E a0 = 10) (h : ∃ R1 : fxM → Prop, CtV E m_X10_layEvents [.inr a0, .inl x1, .inl x2] M R1 ∧ ∀ M1 : fxM, R1 M1 → fx_At E m_X10_firstEnd 8 [some (.inr a0), some (.inl x1), some (.inl x2), some (.inl 0)] [] M1 Q) : fx_At E m_X10_firstEnd 0 [some (.inr a0), some (.inl x1), some (.inl x2), none] [] M Q := by
  refine x_aload_n (pc := 0) dX10_firstEnd_0 rfl rfl ?_
  refine x_iload_n (pc := 1) dX10_firstEnd_1 rfl rfl ?_
  refine x_iload_n (pc := 2) dX10_firstEnd_2 rfl rfl ?_
  obtain ⟨R1, hc1, h⟩ := h
  refine x_callV (pc := 3) (z := m_X10_layEvents) (b := a0) (as := [.inl x1, .inl x2]) (rest := []) dX10_firstEnd_3 c_RX10_179 (by decide) hk0 rfl (Nat.le_of_ble_eq_true rfl) hc1 (fun r M1 hr => ?_)
  obtain ⟨rfl, hr⟩ := hr
  replace h := h M1 hr
  show fx_At E m_X10_firstEnd 6 [some (.inr a0), some (.inl x1), some (.inl x2), none] [] M1 Q
  refine x_iconst (pc := 6) dX10_firstEnd_6 ?_
  refine x_istore_n (pc := 7) (lv' := [some (.inr a0), some (.inl x1), some (.inl x2), some (.inl 0)]) dX10_firstEnd_7 rfl (by decide) rfl ?_
  exact h
set_option maxRecDepth 100000 in
theorem b_X10_firstEnd_8 {E : fxE} (hW : fx_Wt E) (a0 : Nat) (x1 : Int) (x2 : Int) (x3 : Int) (M : fxM) (Q : Option fxV → fxM → Prop) (hk0 : kd E a0 = 10) (h : (-2147483648 ≤ x3 ∧ x3 < 2147483648) ∧ (-2147483648 ≤ (M a0 16) ∧ (M a0 16) < 2147483648) ∧ (((M a0 16) ≤ x3 → Q (some (.inl (-1000005))) M) ∧ (¬ (M a0 16) ≤ x3 → (0 ≤ 7 * x3 + (2 : Int) ∧ 7 * x3 + (2 : Int) < 2814) ∧ (-2147483648 ≤ (M (rf E a0 15) (7 * x3 + 2).toNat) ∧ (M (rf E a0 15) (7 * x3 + 2).toNat) < 2147483648) ∧ ((¬ (M (rf E a0 15) (7 * x3 + 2).toNat) = (2 : Int) → fx_At E m_X10_firstEnd 8 [some (.inr a0), some (.inl x1), some (.inl x2), some (.inl (x3 + 1))] [] M Q) ∧ ((M (rf E a0 15) (7 * x3 + 2).toNat) = (2 : Int) → (0 ≤ 7 * x3 + (0 : Int) ∧ 7 * x3 + (0 : Int) < 2814) ∧ Q (some (.inl (M (rf E a0 15) (7 * x3 + 0).toNat))) M))))) : fx_At E m_X10_firstEnd 8 [some (.inr a0), some (.inl x1), some (.inl x2), some (.inl x3)] [] M Q := by
  refine x_iload_n (pc := 8) dX10_firstEnd_8 rfl rfl ?_
  refine x_aload_n (pc := 9) dX10_firstEnd_9 rfl rfl ?_
  refine x_geti (pc := 10) dX10_firstEnd_10 f_RX10_161 hk0 ?_
  obtain ⟨g1, h⟩ := h
  obtain ⟨g2, h⟩ := h
  refine x_cge (pc := 13) 39 dX10_firstEnd_13 (by decide) ⟨g1, g2⟩ (fun hc => ?_) (fun hc => ?_)
  · replace h := h.1 hc
    refine x_ldc (pc := 39) (n := -1000005) dX10_firstEnd_39 k_RX10_23 rfl ?_
    exact x_iret (pc := 41) dX10_firstEnd_41 (Or.inl rfl) h
  · replace h := h.2 hc
    refine x_aload_n (pc := 16) dX10_firstEnd_16 rfl rfl ?_
    refine x_iload_n (pc := 17) dX10_firstEnd_17 rfl rfl ?_
    refine x_iconst (pc := 18) dX10_firstEnd_18 ?_
    obtain ⟨g3, h⟩ := h
    refine x_callV (pc := 19) (z := m_X10_of) (b := a0) (as := [.inl x3, .inl 2]) (rest := []) dX10_firstEnd_19 c_RX10_164 (by decide) hk0 rfl (Nat.le_of_ble_eq_true rfl) (ct_X10_of hW hk0 g3) (fun r M9 hr => ?_)
    obtain ⟨hM9, hr⟩ := hr
    rw [hM9, hr]
    clear hM9 hr
    show fx_At E m_X10_firstEnd 22 [some (.inr a0), some (.inl x1), some (.inl x2), some (.inl x3)] [.inl (M (rf E a0 15) (7 * x3 + 2).toNat)] _ Q
    refine x_iconst (pc := 22) dX10_firstEnd_22 ?_
    obtain ⟨g4, h⟩ := h
    refine x_cne (pc := 23) 33 dX10_firstEnd_23 (by decide) ⟨g4, ⟨by decide, by decide⟩⟩ (fun hc => ?_) (fun hc => ?_)
    · replace h := h.1 hc
      refine x_iinc (pc := 33) (lv' := [some (.inr a0), some (.inl x1), some (.inl x2), some (.inl (x3 + 1))]) dX10_firstEnd_33 rfl (by decide) rfl ?_
      refine x_goto (pc := 36) 8 dX10_firstEnd_36 (by decide) ?_
      exact h
    · replace h := h.2 hc
      refine x_aload_n (pc := 26) dX10_firstEnd_26 rfl rfl ?_
      refine x_iload_n (pc := 27) dX10_firstEnd_27 rfl rfl ?_
      refine x_iconst (pc := 28) dX10_firstEnd_28 ?_
      obtain ⟨g5, h⟩ := h
      refine x_callV (pc := 29) (z := m_X10_of) (b := a0) (as := [.inl x3, .inl 0]) (rest := []) dX10_firstEnd_29 c_RX10_164 (by decide) hk0 rfl (Nat.le_of_ble_eq_true rfl) (ct_X10_of hW hk0 g5) (fun r M9 hr => ?_)
      obtain ⟨hM9, hr⟩ := hr
      rw [hM9, hr]
      clear hM9 hr
      show fx_At E m_X10_firstEnd 32 [some (.inr a0), some (.inl x1), some (.inl x2), some (.inl x3)] [.inl (M (rf E a0 15) (7 * x3 + 0).toNat)] _ Q
      exact x_iret (pc := 32) dX10_firstEnd_32 (Or.inl rfl) h
theorem dX10_endSeen_0 : decode cX10_endSeen 0 = .ok (.iload_n 1, 1) := by decide +kernel
theorem dX10_endSeen_1 : decode cX10_endSeen 1 = .ok (.iload_n 2, 1) := by decide +kernel
theorem dX10_endSeen_2 : decode cX10_endSeen 2 = .ok (.invokestatic 144, 3) := by decide +kernel
theorem dX10_endSeen_5 : decode cX10_endSeen 5 = .ok (.ifCond .eq 12, 3) := by decide +kernel
theorem dX10_endSeen_8 : decode cX10_endSeen 8 = .ok (.aload_n 0, 1) := by decide +kernel
theorem dX10_endSeen_9 : decode cX10_endSeen 9 = .ok (.iload_n 1, 1) := by decide +kernel
theorem dX10_endSeen_10 : decode cX10_endSeen 10 = .ok (.iload_n 2, 1) := by decide +kernel
theorem dX10_endSeen_11 : decode cX10_endSeen 11 = .ok (.invokevirtual 182, 3) := by decide +kernel
theorem dX10_endSeen_14 : decode cX10_endSeen 14 = .ok (.goto 5, 3) := by decide +kernel
theorem dX10_endSeen_17 : decode cX10_endSeen 17 = .ok (.ldc 81, 2) := by decide +kernel
theorem dX10_endSeen_19 : decode cX10_endSeen 19 = .ok (.ireturn, 1) := by decide +kernel
set_option maxRecDepth 100000 in
theorem b_X10_endSeen_0 {E : fxE} (hW : fx_Wt E) (a0 : Nat) (x1 : Int) (x2 : Int) (M : fxM) (Q : Option fxV → fxM → Prop) (hk0 : kd E a0 = 10) (h : (-2147483648 ≤ x1 ∧ x1 < 2147483648) ∧ (-2147483648 ≤ x2 ∧ x2 < 2147483648) ∧ ((okTr x1 x2 → ∃ R4 : Int → fxM → Prop, CtI E m_X10_firstEnd [.inr a0, .inl x1, .inl x2] M R4 ∧ ∀ (v4 : Int) (M4 : fxM), R4 v4 M4 → Q (some (.inl v4)) M4) ∧ (¬ (okTr x1 x2) → Q (some (.inl (-1000002))) M))) : fx_At E m_X10_endSeen 0 [some (.inr a0), some (.inl x1), some (.inl x2)] [] M Q := by
  refine x_iload_n (pc := 0) dX10_endSeen_0 rfl rfl ?_
  refine x_iload_n (pc := 1) dX10_endSeen_1 rfl rfl ?_
  obtain ⟨g1, h⟩ := h
  obtain ⟨g2, h⟩ := h
  refine x_callS (pc := 2) (z := m_X10_isTrace) (as := [.inl x1, .inl x2]) (rest := []) dX10_endSeen_2 c_RX10_144 (by decide) rfl (Nat.le_of_ble_eq_true rfl) (ct_X10_isTrace hW g1 g2) (fun r M9 hr => ?_)
  obtain ⟨hM9, hr⟩ := hr
  rw [hM9]
  clear hM9
  obtain ⟨hc, rfl⟩ | ⟨hc, rfl⟩ := hr
  · replace h := h.1 hc
    show fx_At E m_X10_endSeen 5 [some (.inr a0), some (.inl x1), some (.inl x2)] [.inl 1] _ Q
    refine x_zeq (pc := 5) 17 dX10_endSeen_5 (by decide) ⟨by decide, by decide⟩ (fun hx => absurd hx (by decide)) (fun _ => ?_)
    refine x_aload_n (pc := 8) dX10_endSeen_8 rfl rfl ?_
    refine x_iload_n (pc := 9) dX10_endSeen_9 rfl rfl ?_
    refine x_iload_n (pc := 10) dX10_endSeen_10 rfl rfl ?_
    obtain ⟨R4, hc4, h⟩ := h
    refine x_callV (pc := 11) (z := m_X10_firstEnd) (b := a0) (as := [.inl x1, .inl x2]) (rest := []) dX10_endSeen_11 c_RX10_182 (by decide) hk0 rfl (Nat.le_of_ble_eq_true rfl) hc4 (fun r M4 hr => ?_)
    obtain ⟨v4, rfl, hr⟩ := hr
    replace h := h v4 M4 hr
    show fx_At E m_X10_endSeen 14 [some (.inr a0), some (.inl x1), some (.inl x2)] [.inl v4] M4 Q
    refine x_goto (pc := 14) 19 dX10_endSeen_14 (by decide) ?_
    exact x_iret (pc := 19) dX10_endSeen_19 (Or.inl rfl) h
  · replace h := h.2 hc
    show fx_At E m_X10_endSeen 5 [some (.inr a0), some (.inl x1), some (.inl x2)] [.inl 0] _ Q
    refine x_zeq (pc := 5) 17 dX10_endSeen_5 (by decide) ⟨by decide, by decide⟩ (fun _ => ?_) (fun hx => absurd hx (by decide))
    refine x_ldc (pc := 17) (n := -1000002) dX10_endSeen_17 k_RX10_81 rfl ?_
    exact x_iret (pc := 19) dX10_endSeen_19 (Or.inl rfl) h
theorem dX10_layJoins_0 : decode cX10_layJoins 0 = .ok (.aload_n 0, 1) := by decide +kernel
theorem dX10_layJoins_1 : decode cX10_layJoins 1 = .ok (.iconst 0, 1) := by decide +kernel
theorem dX10_layJoins_2 : decode cX10_layJoins 2 = .ok (.iload_n 1, 1) := by decide +kernel
theorem dX10_layJoins_3 : decode cX10_layJoins 3 = .ok (.invokevirtual 179, 3) := by decide +kernel
theorem dX10_layJoins_6 : decode cX10_layJoins 6 = .ok (.aload_n 0, 1) := by decide +kernel
theorem dX10_layJoins_7 : decode cX10_layJoins 7 = .ok (.getfield 161, 3) := by decide +kernel
theorem dX10_layJoins_10 : decode cX10_layJoins 10 = .ok (.istore_n 2, 1) := by decide +kernel
theorem dX10_layJoins_11 : decode cX10_layJoins 11 = .ok (.aload_n 0, 1) := by decide +kernel
theorem dX10_layJoins_12 : decode cX10_layJoins 12 = .ok (.iconst 1, 1) := by decide +kernel
theorem dX10_layJoins_13 : decode cX10_layJoins 13 = .ok (.iload_n 1, 1) := by decide +kernel
theorem dX10_layJoins_14 : decode cX10_layJoins 14 = .ok (.invokevirtual 176, 3) := by decide +kernel
theorem dX10_layJoins_17 : decode cX10_layJoins 17 = .ok (.aload_n 0, 1) := by decide +kernel
theorem dX10_layJoins_18 : decode cX10_layJoins 18 = .ok (.iconst 0, 1) := by decide +kernel
theorem dX10_layJoins_19 : decode cX10_layJoins 19 = .ok (.putfield 185, 3) := by decide +kernel
theorem dX10_layJoins_22 : decode cX10_layJoins 22 = .ok (.iconst 0, 1) := by decide +kernel
theorem dX10_layJoins_23 : decode cX10_layJoins 23 = .ok (.istore_n 3, 1) := by decide +kernel
theorem dX10_layJoins_24 : decode cX10_layJoins 24 = .ok (.iload_n 3, 1) := by decide +kernel
theorem dX10_layJoins_25 : decode cX10_layJoins 25 = .ok (.aload_n 0, 1) := by decide +kernel
theorem dX10_layJoins_26 : decode cX10_layJoins 26 = .ok (.getfield 161, 3) := by decide +kernel
theorem dX10_layJoins_29 : decode cX10_layJoins 29 = .ok (.if_icmp .ge 16, 3) := by decide +kernel
theorem dX10_layJoins_32 : decode cX10_layJoins 32 = .ok (.aload_n 0, 1) := by decide +kernel
theorem dX10_layJoins_33 : decode cX10_layJoins 33 = .ok (.getfield 51, 3) := by decide +kernel
theorem dX10_layJoins_36 : decode cX10_layJoins 36 = .ok (.iload_n 3, 1) := by decide +kernel
theorem dX10_layJoins_37 : decode cX10_layJoins 37 = .ok (.iconst 0, 1) := by decide +kernel
theorem dX10_layJoins_38 : decode cX10_layJoins 38 = .ok (.iastore, 1) := by decide +kernel
theorem dX10_layJoins_39 : decode cX10_layJoins 39 = .ok (.iinc 3 1, 3) := by decide +kernel
theorem dX10_layJoins_42 : decode cX10_layJoins 42 = .ok (.goto (-18), 3) := by decide +kernel
theorem dX10_layJoins_45 : decode cX10_layJoins 45 = .ok (.iconst 0, 1) := by decide +kernel
theorem dX10_layJoins_46 : decode cX10_layJoins 46 = .ok (.istore_n 3, 1) := by decide +kernel
theorem dX10_layJoins_47 : decode cX10_layJoins 47 = .ok (.iload_n 3, 1) := by decide +kernel
theorem dX10_layJoins_48 : decode cX10_layJoins 48 = .ok (.iload_n 2, 1) := by decide +kernel
theorem dX10_layJoins_49 : decode cX10_layJoins 49 = .ok (.if_icmp .ge 228, 3) := by decide +kernel
theorem dX10_layJoins_52 : decode cX10_layJoins 52 = .ok (.ldc 23, 2) := by decide +kernel
theorem dX10_layJoins_54 : decode cX10_layJoins 54 = .ok (.istore 4, 2) := by decide +kernel
theorem dX10_layJoins_56 : decode cX10_layJoins 56 = .ok (.aload_n 0, 1) := by decide +kernel
theorem dX10_layJoins_57 : decode cX10_layJoins 57 = .ok (.getfield 161, 3) := by decide +kernel
theorem dX10_layJoins_60 : decode cX10_layJoins 60 = .ok (.iconst 1, 1) := by decide +kernel
theorem dX10_layJoins_61 : decode cX10_layJoins 61 = .ok (.isub, 1) := by decide +kernel
theorem dX10_layJoins_62 : decode cX10_layJoins 62 = .ok (.istore 5, 2) := by decide +kernel
theorem dX10_layJoins_64 : decode cX10_layJoins 64 = .ok (.iload 5, 2) := by decide +kernel
theorem dX10_layJoins_66 : decode cX10_layJoins 66 = .ok (.iload_n 2, 1) := by decide +kernel
theorem dX10_layJoins_67 : decode cX10_layJoins 67 = .ok (.if_icmp .lt 95, 3) := by decide +kernel
theorem dX10_layJoins_70 : decode cX10_layJoins 70 = .ok (.aload_n 0, 1) := by decide +kernel
theorem dX10_layJoins_71 : decode cX10_layJoins 71 = .ok (.iload_n 3, 1) := by decide +kernel
theorem dX10_layJoins_72 : decode cX10_layJoins 72 = .ok (.iconst 0, 1) := by decide +kernel
theorem dX10_layJoins_73 : decode cX10_layJoins 73 = .ok (.invokevirtual 164, 3) := by decide +kernel
theorem dX10_layJoins_76 : decode cX10_layJoins 76 = .ok (.aload_n 0, 1) := by decide +kernel
theorem dX10_layJoins_77 : decode cX10_layJoins 77 = .ok (.iload 5, 2) := by decide +kernel
theorem dX10_layJoins_79 : decode cX10_layJoins 79 = .ok (.iconst 0, 1) := by decide +kernel
theorem dX10_layJoins_80 : decode cX10_layJoins 80 = .ok (.invokevirtual 164, 3) := by decide +kernel
theorem dX10_layJoins_83 : decode cX10_layJoins 83 = .ok (.iadd, 1) := by decide +kernel
theorem dX10_layJoins_84 : decode cX10_layJoins 84 = .ok (.aload_n 0, 1) := by decide +kernel
theorem dX10_layJoins_85 : decode cX10_layJoins 85 = .ok (.invokevirtual 85, 3) := by decide +kernel
theorem dX10_layJoins_88 : decode cX10_layJoins 88 = .ok (.isub, 1) := by decide +kernel
theorem dX10_layJoins_89 : decode cX10_layJoins 89 = .ok (.istore 6, 2) := by decide +kernel
theorem dX10_layJoins_91 : decode cX10_layJoins 91 = .ok (.aload_n 0, 1) := by decide +kernel
theorem dX10_layJoins_92 : decode cX10_layJoins 92 = .ok (.iload 5, 2) := by decide +kernel
theorem dX10_layJoins_94 : decode cX10_layJoins 94 = .ok (.iconst 2, 1) := by decide +kernel
theorem dX10_layJoins_95 : decode cX10_layJoins 95 = .ok (.invokevirtual 164, 3) := by decide +kernel
theorem dX10_layJoins_98 : decode cX10_layJoins 98 = .ok (.iconst 2, 1) := by decide +kernel
theorem dX10_layJoins_99 : decode cX10_layJoins 99 = .ok (.if_icmp .ge 40, 3) := by decide +kernel
theorem dX10_layJoins_102 : decode cX10_layJoins 102 = .ok (.aload_n 0, 1) := by decide +kernel
theorem dX10_layJoins_103 : decode cX10_layJoins 103 = .ok (.getfield 51, 3) := by decide +kernel
theorem dX10_layJoins_106 : decode cX10_layJoins 106 = .ok (.iload 5, 2) := by decide +kernel
theorem dX10_layJoins_108 : decode cX10_layJoins 108 = .ok (.iaload, 1) := by decide +kernel
theorem dX10_layJoins_109 : decode cX10_layJoins 109 = .ok (.ifCond .ne 30, 3) := by decide +kernel
theorem dX10_layJoins_112 : decode cX10_layJoins 112 = .ok (.iload 6, 2) := by decide +kernel
theorem dX10_layJoins_114 : decode cX10_layJoins 114 = .ok (.aload_n 0, 1) := by decide +kernel
theorem dX10_layJoins_115 : decode cX10_layJoins 115 = .ok (.getfield 7, 3) := by decide +kernel
theorem dX10_layJoins_118 : decode cX10_layJoins 118 = .ok (.bipush 60, 2) := by decide +kernel
theorem dX10_layJoins_120 : decode cX10_layJoins 120 = .ok (.iaload, 1) := by decide +kernel
theorem dX10_layJoins_121 : decode cX10_layJoins 121 = .ok (.ineg, 1) := by decide +kernel
theorem dX10_layJoins_122 : decode cX10_layJoins 122 = .ok (.aload_n 0, 1) := by decide +kernel
theorem dX10_layJoins_123 : decode cX10_layJoins 123 = .ok (.getfield 7, 3) := by decide +kernel
theorem dX10_layJoins_126 : decode cX10_layJoins 126 = .ok (.bipush 60, 2) := by decide +kernel
theorem dX10_layJoins_128 : decode cX10_layJoins 128 = .ok (.iaload, 1) := by decide +kernel
theorem dX10_layJoins_129 : decode cX10_layJoins 129 = .ok (.invokestatic 74, 3) := by decide +kernel
theorem dX10_layJoins_132 : decode cX10_layJoins 132 = .ok (.ifCond .eq 7, 3) := by decide +kernel
theorem dX10_layJoins_135 : decode cX10_layJoins 135 = .ok (.iconst 1, 1) := by decide +kernel
theorem dX10_layJoins_136 : decode cX10_layJoins 136 = .ok (.goto 4, 3) := by decide +kernel
theorem dX10_layJoins_139 : decode cX10_layJoins 139 = .ok (.iconst 0, 1) := by decide +kernel
theorem dX10_layJoins_140 : decode cX10_layJoins 140 = .ok (.istore 7, 2) := by decide +kernel
theorem dX10_layJoins_142 : decode cX10_layJoins 142 = .ok (.iload 7, 2) := by decide +kernel
theorem dX10_layJoins_144 : decode cX10_layJoins 144 = .ok (.ifCond .eq 8, 3) := by decide +kernel
theorem dX10_layJoins_147 : decode cX10_layJoins 147 = .ok (.iload 5, 2) := by decide +kernel
theorem dX10_layJoins_149 : decode cX10_layJoins 149 = .ok (.goto 5, 3) := by decide +kernel
theorem dX10_layJoins_152 : decode cX10_layJoins 152 = .ok (.iload 4, 2) := by decide +kernel
theorem dX10_layJoins_154 : decode cX10_layJoins 154 = .ok (.istore 4, 2) := by decide +kernel
theorem dX10_layJoins_156 : decode cX10_layJoins 156 = .ok (.iinc 5 (-1), 3) := by decide +kernel
theorem dX10_layJoins_159 : decode cX10_layJoins 159 = .ok (.goto (-95), 3) := by decide +kernel
theorem dX10_layJoins_162 : decode cX10_layJoins 162 = .ok (.aload_n 0, 1) := by decide +kernel
theorem dX10_layJoins_163 : decode cX10_layJoins 163 = .ok (.iload_n 3, 1) := by decide +kernel
theorem dX10_layJoins_164 : decode cX10_layJoins 164 = .ok (.iconst 2, 1) := by decide +kernel
theorem dX10_layJoins_165 : decode cX10_layJoins 165 = .ok (.invokevirtual 164, 3) := by decide +kernel
theorem dX10_layJoins_168 : decode cX10_layJoins 168 = .ok (.iconst 2, 1) := by decide +kernel
theorem dX10_layJoins_169 : decode cX10_layJoins 169 = .ok (.if_icmp .ge 102, 3) := by decide +kernel
theorem dX10_layJoins_172 : decode cX10_layJoins 172 = .ok (.iload 4, 2) := by decide +kernel
theorem dX10_layJoins_174 : decode cX10_layJoins 174 = .ok (.ldc 23, 2) := by decide +kernel
theorem dX10_layJoins_176 : decode cX10_layJoins 176 = .ok (.if_icmp .eq 95, 3) := by decide +kernel
theorem dX10_layJoins_179 : decode cX10_layJoins 179 = .ok (.aload_n 0, 1) := by decide +kernel
theorem dX10_layJoins_180 : decode cX10_layJoins 180 = .ok (.getfield 51, 3) := by decide +kernel
theorem dX10_layJoins_183 : decode cX10_layJoins 183 = .ok (.iload 4, 2) := by decide +kernel
theorem dX10_layJoins_185 : decode cX10_layJoins 185 = .ok (.iconst 1, 1) := by decide +kernel
theorem dX10_layJoins_186 : decode cX10_layJoins 186 = .ok (.iastore, 1) := by decide +kernel
theorem dX10_layJoins_187 : decode cX10_layJoins 187 = .ok (.aload_n 0, 1) := by decide +kernel
theorem dX10_layJoins_188 : decode cX10_layJoins 188 = .ok (.getfield 48, 3) := by decide +kernel
theorem dX10_layJoins_191 : decode cX10_layJoins 191 = .ok (.iconst 2, 1) := by decide +kernel
theorem dX10_layJoins_192 : decode cX10_layJoins 192 = .ok (.aload_n 0, 1) := by decide +kernel
theorem dX10_layJoins_193 : decode cX10_layJoins 193 = .ok (.getfield 185, 3) := by decide +kernel
theorem dX10_layJoins_196 : decode cX10_layJoins 196 = .ok (.imul, 1) := by decide +kernel
theorem dX10_layJoins_197 : decode cX10_layJoins 197 = .ok (.iload_n 3, 1) := by decide +kernel
theorem dX10_layJoins_198 : decode cX10_layJoins 198 = .ok (.iastore, 1) := by decide +kernel
theorem dX10_layJoins_199 : decode cX10_layJoins 199 = .ok (.aload_n 0, 1) := by decide +kernel
theorem dX10_layJoins_200 : decode cX10_layJoins 200 = .ok (.getfield 48, 3) := by decide +kernel
theorem dX10_layJoins_203 : decode cX10_layJoins 203 = .ok (.iconst 2, 1) := by decide +kernel
theorem dX10_layJoins_204 : decode cX10_layJoins 204 = .ok (.aload_n 0, 1) := by decide +kernel
theorem dX10_layJoins_205 : decode cX10_layJoins 205 = .ok (.getfield 185, 3) := by decide +kernel
theorem dX10_layJoins_208 : decode cX10_layJoins 208 = .ok (.imul, 1) := by decide +kernel
theorem dX10_layJoins_209 : decode cX10_layJoins 209 = .ok (.iconst 1, 1) := by decide +kernel
theorem dX10_layJoins_210 : decode cX10_layJoins 210 = .ok (.iadd, 1) := by decide +kernel
theorem dX10_layJoins_211 : decode cX10_layJoins 211 = .ok (.iload 4, 2) := by decide +kernel
theorem dX10_layJoins_213 : decode cX10_layJoins 213 = .ok (.iload_n 2, 1) := by decide +kernel
theorem dX10_layJoins_214 : decode cX10_layJoins 214 = .ok (.isub, 1) := by decide +kernel
theorem dX10_layJoins_215 : decode cX10_layJoins 215 = .ok (.iastore, 1) := by decide +kernel
theorem dX10_layJoins_216 : decode cX10_layJoins 216 = .ok (.aload_n 0, 1) := by decide +kernel
theorem dX10_layJoins_217 : decode cX10_layJoins 217 = .ok (.getfield 51, 3) := by decide +kernel
theorem dX10_layJoins_220 : decode cX10_layJoins 220 = .ok (.iload_n 3, 1) := by decide +kernel
theorem dX10_layJoins_221 : decode cX10_layJoins 221 = .ok (.aload_n 0, 1) := by decide +kernel
theorem dX10_layJoins_222 : decode cX10_layJoins 222 = .ok (.iload_n 3, 1) := by decide +kernel
theorem dX10_layJoins_223 : decode cX10_layJoins 223 = .ok (.iconst 3, 1) := by decide +kernel
theorem dX10_layJoins_224 : decode cX10_layJoins 224 = .ok (.invokevirtual 164, 3) := by decide +kernel
theorem dX10_layJoins_227 : decode cX10_layJoins 227 = .ok (.aload_n 0, 1) := by decide +kernel
theorem dX10_layJoins_228 : decode cX10_layJoins 228 = .ok (.iload 4, 2) := by decide +kernel
theorem dX10_layJoins_230 : decode cX10_layJoins 230 = .ok (.iconst 3, 1) := by decide +kernel
theorem dX10_layJoins_231 : decode cX10_layJoins 231 = .ok (.invokevirtual 164, 3) := by decide +kernel
theorem dX10_layJoins_234 : decode cX10_layJoins 234 = .ok (.iadd, 1) := by decide +kernel
theorem dX10_layJoins_235 : decode cX10_layJoins 235 = .ok (.iastore, 1) := by decide +kernel
theorem dX10_layJoins_236 : decode cX10_layJoins 236 = .ok (.aload_n 0, 1) := by decide +kernel
theorem dX10_layJoins_237 : decode cX10_layJoins 237 = .ok (.getfield 45, 3) := by decide +kernel
theorem dX10_layJoins_240 : decode cX10_layJoins 240 = .ok (.bipush 7, 2) := by decide +kernel
theorem dX10_layJoins_242 : decode cX10_layJoins 242 = .ok (.iload_n 3, 1) := by decide +kernel
theorem dX10_layJoins_243 : decode cX10_layJoins 243 = .ok (.imul, 1) := by decide +kernel
theorem dX10_layJoins_244 : decode cX10_layJoins 244 = .ok (.iconst 5, 1) := by decide +kernel
theorem dX10_layJoins_245 : decode cX10_layJoins 245 = .ok (.iadd, 1) := by decide +kernel
theorem dX10_layJoins_246 : decode cX10_layJoins 246 = .ok (.aload_n 0, 1) := by decide +kernel
theorem dX10_layJoins_247 : decode cX10_layJoins 247 = .ok (.iload_n 3, 1) := by decide +kernel
theorem dX10_layJoins_248 : decode cX10_layJoins 248 = .ok (.iconst 3, 1) := by decide +kernel
theorem dX10_layJoins_249 : decode cX10_layJoins 249 = .ok (.invokevirtual 164, 3) := by decide +kernel
theorem dX10_layJoins_252 : decode cX10_layJoins 252 = .ok (.aload_n 0, 1) := by decide +kernel
theorem dX10_layJoins_253 : decode cX10_layJoins 253 = .ok (.iload 4, 2) := by decide +kernel
theorem dX10_layJoins_255 : decode cX10_layJoins 255 = .ok (.iconst 3, 1) := by decide +kernel
theorem dX10_layJoins_256 : decode cX10_layJoins 256 = .ok (.invokevirtual 164, 3) := by decide +kernel
theorem dX10_layJoins_259 : decode cX10_layJoins 259 = .ok (.isub, 1) := by decide +kernel
theorem dX10_layJoins_260 : decode cX10_layJoins 260 = .ok (.iastore, 1) := by decide +kernel
theorem dX10_layJoins_261 : decode cX10_layJoins 261 = .ok (.aload_n 0, 1) := by decide +kernel
theorem dX10_layJoins_262 : decode cX10_layJoins 262 = .ok (.dup, 1) := by decide +kernel
theorem dX10_layJoins_263 : decode cX10_layJoins 263 = .ok (.getfield 185, 3) := by decide +kernel
theorem dX10_layJoins_266 : decode cX10_layJoins 266 = .ok (.iconst 1, 1) := by decide +kernel
theorem dX10_layJoins_267 : decode cX10_layJoins 267 = .ok (.iadd, 1) := by decide +kernel
theorem dX10_layJoins_268 : decode cX10_layJoins 268 = .ok (.putfield 185, 3) := by decide +kernel
theorem dX10_layJoins_271 : decode cX10_layJoins 271 = .ok (.iinc 3 1, 3) := by decide +kernel
theorem dX10_layJoins_274 : decode cX10_layJoins 274 = .ok (.goto (-227), 3) := by decide +kernel
theorem dX10_layJoins_277 : decode cX10_layJoins 277 = .ok (.return_, 1) := by decide +kernel
set_option maxRecDepth 100000 in
theorem b_X10_layJoins_0 {E : fxE} (hW : fx_Wt E) (a0 : Nat) (x1 : Int) (M : fxM) (Q : Option fxV → fxM → Prop) (hk0 : kd E a0 = 10) (h : ∃ R1 : fxM → Prop, CtV E m_X10_layEvents [.inr a0, .inl 0, .inl x1] M R1 ∧ ∀ M1 : fxM, R1 M1 → ∃ R2 : fxM → Prop, CtV E m_X10_addEvents [.inr a0, .inl 1, .inl x1] M1 R2 ∧ ∀ M2 : fxM, R2 M2 → ∀ M3 : fxM, M3 = mset M2 a0 19 0 → fx_At E m_X10_layJoins 24 [some (.inr a0), some (.inl x1), some (.inl (M1 a0 16)), some (.inl 0), none, none, none, none] [] M3 Q) : fx_At E m_X10_layJoins 0 [some (.inr a0), some (.inl x1), none, none, none, none, none, none] [] M Q := by
  refine x_aload_n (pc := 0) dX10_layJoins_0 rfl rfl ?_
  refine x_iconst (pc := 1) dX10_layJoins_1 ?_
  refine x_iload_n (pc := 2) dX10_layJoins_2 rfl rfl ?_
  obtain ⟨R1, hc1, h⟩ := h
  refine x_callV (pc := 3) (z := m_X10_layEvents) (b := a0) (as := [.inl 0, .inl x1]) (rest := []) dX10_layJoins_3 c_RX10_179 (by decide) hk0 rfl (Nat.le_of_ble_eq_true rfl) hc1 (fun r M1 hr => ?_)
  obtain ⟨rfl, hr⟩ := hr
  replace h := h M1 hr
  show fx_At E m_X10_layJoins 6 [some (.inr a0), some (.inl x1), none, none, none, none, none, none] [] M1 Q
  refine x_aload_n (pc := 6) dX10_layJoins_6 rfl rfl ?_
  refine x_geti (pc := 7) dX10_layJoins_7 f_RX10_161 hk0 ?_
  refine x_istore_n (pc := 10) (lv' := [some (.inr a0), some (.inl x1), some (.inl (M1 a0 16)), none, none, none, none, none]) dX10_layJoins_10 rfl (by decide) rfl ?_
  refine x_aload_n (pc := 11) dX10_layJoins_11 rfl rfl ?_
  refine x_iconst (pc := 12) dX10_layJoins_12 ?_
  refine x_iload_n (pc := 13) dX10_layJoins_13 rfl rfl ?_
  obtain ⟨R2, hc2, h⟩ := h
  refine x_callV (pc := 14) (z := m_X10_addEvents) (b := a0) (as := [.inl 1, .inl x1]) (rest := []) dX10_layJoins_14 c_RX10_176 (by decide) hk0 rfl (Nat.le_of_ble_eq_true rfl) hc2 (fun r M2 hr => ?_)
  obtain ⟨rfl, hr⟩ := hr
  replace h := h M2 hr
  show fx_At E m_X10_layJoins 17 [some (.inr a0), some (.inl x1), some (.inl (M1 a0 16)), none, none, none, none, none] [] M2 Q
  refine x_aload_n (pc := 17) dX10_layJoins_17 rfl rfl ?_
  refine x_iconst (pc := 18) dX10_layJoins_18 ?_
  refine x_puti (pc := 19) dX10_layJoins_19 f_RX10_185 hk0 (fun M3 hM3 => ?_)
  replace h := h M3 hM3
  refine x_iconst (pc := 22) dX10_layJoins_22 ?_
  refine x_istore_n (pc := 23) (lv' := [some (.inr a0), some (.inl x1), some (.inl (M1 a0 16)), some (.inl 0), none, none, none, none]) dX10_layJoins_23 rfl (by decide) rfl ?_
  exact h
set_option maxRecDepth 100000 in
theorem b_X10_layJoins_24 {E : fxE} (hW : fx_Wt E) (a0 : Nat) (x1 : Int) (x2 : Int) (x3 : Int) (M : fxM) (Q : Option fxV → fxM → Prop) (hk0 : kd E a0 = 10) (h : (-2147483648 ≤ x3 ∧ x3 < 2147483648) ∧ (-2147483648 ≤ (M a0 16) ∧ (M a0 16) < 2147483648) ∧ (((M a0 16) ≤ x3 → fx_At E m_X10_layJoins 47 [some (.inr a0), some (.inl x1), some (.inl x2), some (.inl 0), none, none, none, none] [] M Q) ∧ (¬ (M a0 16) ≤ x3 → (0 ≤ x3 ∧ x3 < 402) ∧ ∀ M4 : fxM, M4 = mset M (rf E a0 18) (x3.toNat) 0 → fx_At E m_X10_layJoins 24 [some (.inr a0), some (.inl x1), some (.inl x2), some (.inl (x3 + 1)), none, none, none, none] [] M4 Q))) : fx_At E m_X10_layJoins 24 [some (.inr a0), some (.inl x1), some (.inl x2), some (.inl x3), none, none, none, none] [] M Q := by
  refine x_iload_n (pc := 24) dX10_layJoins_24 rfl rfl ?_
  refine x_aload_n (pc := 25) dX10_layJoins_25 rfl rfl ?_
  refine x_geti (pc := 26) dX10_layJoins_26 f_RX10_161 hk0 ?_
  obtain ⟨g1, h⟩ := h
  obtain ⟨g2, h⟩ := h
  refine x_cge (pc := 29) 45 dX10_layJoins_29 (by decide) ⟨g1, g2⟩ (fun hc => ?_) (fun hc => ?_)
  · replace h := h.1 hc
    refine x_iconst (pc := 45) dX10_layJoins_45 ?_
    refine x_istore_n (pc := 46) (lv' := [some (.inr a0), some (.inl x1), some (.inl x2), some (.inl 0), none, none, none, none]) dX10_layJoins_46 rfl (by decide) rfl ?_
    exact h
  · replace h := h.2 hc
    refine x_aload_n (pc := 32) dX10_layJoins_32 rfl rfl ?_
    refine x_getr (pc := 33) dX10_layJoins_33 f_RX10_51 hk0 ?_
    refine x_iload_n (pc := 36) dX10_layJoins_36 rfl rfl ?_
    refine x_iconst (pc := 37) dX10_layJoins_37 ?_
    obtain ⟨g3, h⟩ := h
    refine x_iast (pc := 38) dX10_layJoins_38 (wk_10_18 hW hk0) (wl_10_18 hW hk0) g3 (fun M4 hM4 => ?_)
    replace h := h M4 hM4
    refine x_iinc (pc := 39) (lv' := [some (.inr a0), some (.inl x1), some (.inl x2), some (.inl (x3 + 1)), none, none, none, none]) dX10_layJoins_39 rfl (by decide) rfl ?_
    refine x_goto (pc := 42) 24 dX10_layJoins_42 (by decide) ?_
    exact h
set_option maxRecDepth 100000 in
theorem b_X10_layJoins_47 {E : fxE} (hW : fx_Wt E) (a0 : Nat) (x1 : Int) (x2 : Int) (x3 : Int) (M : fxM) (Q : Option fxV → fxM → Prop) (hk0 : kd E a0 = 10) (h : (-2147483648 ≤ x3 ∧ x3 < 2147483648) ∧ (-2147483648 ≤ x2 ∧ x2 < 2147483648) ∧ ((x2 ≤ x3 → Q none M) ∧ (¬ x2 ≤ x3 → fx_At E m_X10_layJoins 64 [some (.inr a0), some (.inl x1), some (.inl x2), some (.inl x3), some (.inl (-1000005)), some (.inl ((M a0 16) - 1)), none, none] [] M Q))) : fx_At E m_X10_layJoins 47 [some (.inr a0), some (.inl x1), some (.inl x2), some (.inl x3), none, none, none, none] [] M Q := by
  refine x_iload_n (pc := 47) dX10_layJoins_47 rfl rfl ?_
  refine x_iload_n (pc := 48) dX10_layJoins_48 rfl rfl ?_
  obtain ⟨g1, h⟩ := h
  obtain ⟨g2, h⟩ := h
  refine x_cge (pc := 49) 277 dX10_layJoins_49 (by decide) ⟨g1, g2⟩ (fun hc => ?_) (fun hc => ?_)
  · replace h := h.1 hc
    exact x_vret (pc := 277) dX10_layJoins_277 rfl h
  · replace h := h.2 hc
    refine x_ldc (pc := 52) (n := -1000005) dX10_layJoins_52 k_RX10_23 rfl ?_
    refine x_istore (pc := 54) (lv' := [some (.inr a0), some (.inl x1), some (.inl x2), some (.inl x3), some (.inl (-1000005)), none, none, none]) dX10_layJoins_54 (by decide) rfl ?_
    refine x_aload_n (pc := 56) dX10_layJoins_56 rfl rfl ?_
    refine x_geti (pc := 57) dX10_layJoins_57 f_RX10_161 hk0 ?_
    refine x_iconst (pc := 60) dX10_layJoins_60 ?_
    refine x_isub (pc := 61) dX10_layJoins_61 ?_
    refine x_istore (pc := 62) (lv' := [some (.inr a0), some (.inl x1), some (.inl x2), some (.inl x3), some (.inl (-1000005)), some (.inl ((M a0 16) - 1)), none, none]) dX10_layJoins_62 (by decide) rfl ?_
    exact h
set_option maxRecDepth 100000 in
theorem b_X10_layJoins_64 {E : fxE} (hW : fx_Wt E) (a0 : Nat) (x1 : Int) (x2 : Int) (x3 : Int) (x4 : Int) (x5 : Int) (M : fxM) (Q : Option fxV → fxM → Prop) (hk0 : kd E a0 = 10) (h : (-2147483648 ≤ x5 ∧ x5 < 2147483648) ∧ (-2147483648 ≤ x2 ∧ x2 < 2147483648) ∧ ((x5 < x2 → (0 ≤ 7 * x3 + (2 : Int) ∧ 7 * x3 + (2 : Int) < 2814) ∧ (-2147483648 ≤ (M (rf E a0 15) (7 * x3 + 2).toNat) ∧ (M (rf E a0 15) (7 * x3 + 2).toNat) < 2147483648) ∧ (((2 : Int) ≤ (M (rf E a0 15) (7 * x3 + 2).toNat) → fx_At E m_X10_layJoins 47 [some (.inr a0), some (.inl x1), some (.inl x2), some (.inl (x3 + 1)), none, none, none, none] [] M Q) ∧ (¬ (2 : Int) ≤ (M (rf E a0 15) (7 * x3 + 2).toNat) → (-2147483648 ≤ x4 ∧ x4 < 2147483648) ∧ ((x4 = (-1000005 : Int) → fx_At E m_X10_layJoins 47 [some (.inr a0), some (.inl x1), some (.inl x2), some (.inl (x3 + 1)), none, none, none, none] [] M Q) ∧ (¬ x4 = (-1000005 : Int) → (0 ≤ x4 ∧ x4 < 402) ∧ ∀ M7 : fxM, M7 = mset M (rf E a0 18) (x4.toNat) 1 → (0 ≤ (2 * (M7 a0 19)) ∧ (2 * (M7 a0 19)) < 402) ∧ ∀ M9 : fxM, M9 = mset M7 (rf E a0 17) ((2 * (M7 a0 19)).toNat) x3 → (0 ≤ ((2 * (M9 a0 19)) + 1) ∧ ((2 * (M9 a0 19)) + 1) < 402) ∧ ∀ M11 : fxM, M11 = mset M9 (rf E a0 17) (((2 * (M9 a0 19)) + 1).toNat) (x4 - x2) → (0 ≤ 7 * x3 + (3 : Int) ∧ 7 * x3 + (3 : Int) < 2814) ∧ (0 ≤ 7 * x4 + (3 : Int) ∧ 7 * x4 + (3 : Int) < 2814) ∧ (0 ≤ x3 ∧ x3 < 402) ∧ ∀ M15 : fxM, M15 = mset M11 (rf E a0 18) (x3.toNat) ((M11 (rf E a0 15) (7 * x3 + 3).toNat) + (M11 (rf E a0 15) (7 * x4 + 3).toNat)) → (0 ≤ ((7 * x3) + 5) ∧ ((7 * x3) + 5) < 2814) ∧ ∀ M17 : fxM, M17 = mset M15 (rf E a0 15) (((7 * x3) + 5).toNat) ((M15 (rf E a0 15) (7 * x3 + 3).toNat) - (M15 (rf E a0 15) (7 * x4 + 3).toNat)) → ∀ M18 : fxM, M18 = mset M17 a0 19 ((M17 a0 19) + 1) → fx_At E m_X10_layJoins 47 [some (.inr a0), some (.inl x1), some (.inl x2), some (.inl (x3 + 1)), none, none, none, none] [] M18 Q))))) ∧ (¬ x5 < x2 → (0 ≤ 7 * x3 + (0 : Int) ∧ 7 * x3 + (0 : Int) < 2814) ∧ (0 ≤ 7 * x5 + (0 : Int) ∧ 7 * x5 + (0 : Int) < 2814) ∧ (0 ≤ M (rf E a0 0) 0 ∧ M (rf E a0 0) 0 ≤ 8) ∧ (0 ≤ 7 * x5 + (2 : Int) ∧ 7 * x5 + (2 : Int) < 2814) ∧ (-2147483648 ≤ (M (rf E a0 15) (7 * x5 + 2).toNat) ∧ (M (rf E a0 15) (7 * x5 + 2).toNat) < 2147483648) ∧ (((2 : Int) ≤ (M (rf E a0 15) (7 * x5 + 2).toNat) → fx_At E m_X10_layJoins 64 [some (.inr a0), some (.inl x1), some (.inl x2), some (.inl x3), some (.inl x4), some (.inl (x5 + (-1))), none, none] [] M Q) ∧ (¬ (2 : Int) ≤ (M (rf E a0 15) (7 * x5 + 2).toNat) → (0 ≤ x5 ∧ x5 < 402) ∧ (-2147483648 ≤ (M (rf E a0 18) (x5.toNat)) ∧ (M (rf E a0 18) (x5.toNat)) < 2147483648) ∧ ((¬ (M (rf E a0 18) (x5.toNat)) = (0 : Int) → fx_At E m_X10_layJoins 64 [some (.inr a0), some (.inl x1), some (.inl x2), some (.inl x3), some (.inl x4), some (.inl (x5 + (-1))), none, none] [] M Q) ∧ ((M (rf E a0 18) (x5.toNat)) = (0 : Int) → (-2147483648 ≤ (((M (rf E a0 15) (7 * x3 + 0).toNat) + (M (rf E a0 15) (7 * x5 + 0).toNat)) - (wsum (M (rf E a0 0)) (M (rf E a0 0) 0).toNat)) ∧ (((M (rf E a0 15) (7 * x3 + 0).toNat) + (M (rf E a0 15) (7 * x5 + 0).toNat)) - (wsum (M (rf E a0 0)) (M (rf E a0 0) 0).toNat)) < 2147483648) ∧ (-2147483648 ≤ (-(M (rf E a0 0) 60)) ∧ (-(M (rf E a0 0) 60)) < 2147483648) ∧ (-2147483648 ≤ (M (rf E a0 0) 60) ∧ (M (rf E a0 0) 60) < 2147483648) ∧ (((-(M (rf E a0 0) 60)) ≤ (((M (rf E a0 15) (7 * x3 + 0).toNat) + (M (rf E a0 15) (7 * x5 + 0).toNat)) - (wsum (M (rf E a0 0)) (M (rf E a0 0) 0).toNat)) ∧ (((M (rf E a0 15) (7 * x3 + 0).toNat) + (M (rf E a0 15) (7 * x5 + 0).toNat)) - (wsum (M (rf E a0 0)) (M (rf E a0 0) 0).toNat)) ≤ (M (rf E a0 0) 60) → fx_At E m_X10_layJoins 64 [some (.inr a0), some (.inl x1), some (.inl x2), some (.inl x3), some (.inl x5), some (.inl (x5 + (-1))), none, none] [] M Q) ∧ (¬ ((-(M (rf E a0 0) 60)) ≤ (((M (rf E a0 15) (7 * x3 + 0).toNat) + (M (rf E a0 15) (7 * x5 + 0).toNat)) - (wsum (M (rf E a0 0)) (M (rf E a0 0) 0).toNat)) ∧ (((M (rf E a0 15) (7 * x3 + 0).toNat) + (M (rf E a0 15) (7 * x5 + 0).toNat)) - (wsum (M (rf E a0 0)) (M (rf E a0 0) 0).toNat)) ≤ (M (rf E a0 0) 60)) → fx_At E m_X10_layJoins 64 [some (.inr a0), some (.inl x1), some (.inl x2), some (.inl x3), some (.inl x4), some (.inl (x5 + (-1))), none, none] [] M Q))))))))) : fx_At E m_X10_layJoins 64 [some (.inr a0), some (.inl x1), some (.inl x2), some (.inl x3), some (.inl x4), some (.inl x5), none, none] [] M Q := by
  refine x_iload (pc := 64) dX10_layJoins_64 rfl ?_
  refine x_iload_n (pc := 66) dX10_layJoins_66 rfl rfl ?_
  obtain ⟨g1, h⟩ := h
  obtain ⟨g2, h⟩ := h
  refine x_clt (pc := 67) 162 dX10_layJoins_67 (by decide) ⟨g1, g2⟩ (fun hc => ?_) (fun hc => ?_)
  · replace h := h.1 hc
    refine x_aload_n (pc := 162) dX10_layJoins_162 rfl rfl ?_
    refine x_iload_n (pc := 163) dX10_layJoins_163 rfl rfl ?_
    refine x_iconst (pc := 164) dX10_layJoins_164 ?_
    obtain ⟨g3, h⟩ := h
    refine x_callV (pc := 165) (z := m_X10_of) (b := a0) (as := [.inl x3, .inl 2]) (rest := []) dX10_layJoins_165 c_RX10_164 (by decide) hk0 rfl (Nat.le_of_ble_eq_true rfl) (ct_X10_of hW hk0 g3) (fun r M9 hr => ?_)
    obtain ⟨hM9, hr⟩ := hr
    rw [hM9, hr]
    clear hM9 hr
    show fx_At E m_X10_layJoins 168 [some (.inr a0), some (.inl x1), some (.inl x2), some (.inl x3), some (.inl x4), some (.inl x5), none, none] [.inl (M (rf E a0 15) (7 * x3 + 2).toNat)] _ Q
    refine x_iconst (pc := 168) dX10_layJoins_168 ?_
    obtain ⟨g4, h⟩ := h
    refine x_cge (pc := 169) 271 dX10_layJoins_169 (by decide) ⟨g4, ⟨by decide, by decide⟩⟩ (fun hc => ?_) (fun hc => ?_)
    · replace h := h.1 hc
      refine x_iinc (pc := 271) (lv' := [some (.inr a0), some (.inl x1), some (.inl x2), some (.inl (x3 + 1)), some (.inl x4), some (.inl x5), none, none]) dX10_layJoins_271 rfl (by decide) rfl ?_
      refine x_goto (pc := 274) 47 dX10_layJoins_274 (by decide) ?_
      refine x_weak (lv := [some (.inr a0), some (.inl x1), some (.inl x2), some (.inl (x3 + 1)), none, none, none, none]) (by simp [lvle]) ?_
      exact h
    · replace h := h.2 hc
      refine x_iload (pc := 172) dX10_layJoins_172 rfl ?_
      refine x_ldc (pc := 174) (n := -1000005) dX10_layJoins_174 k_RX10_23 rfl ?_
      obtain ⟨g5, h⟩ := h
      refine x_ceq (pc := 176) 271 dX10_layJoins_176 (by decide) ⟨g5, ⟨by decide, by decide⟩⟩ (fun hc => ?_) (fun hc => ?_)
      · replace h := h.1 hc
        refine x_iinc (pc := 271) (lv' := [some (.inr a0), some (.inl x1), some (.inl x2), some (.inl (x3 + 1)), some (.inl x4), some (.inl x5), none, none]) dX10_layJoins_271 rfl (by decide) rfl ?_
        refine x_goto (pc := 274) 47 dX10_layJoins_274 (by decide) ?_
        refine x_weak (lv := [some (.inr a0), some (.inl x1), some (.inl x2), some (.inl (x3 + 1)), none, none, none, none]) (by simp [lvle]) ?_
        exact h
      · replace h := h.2 hc
        refine x_aload_n (pc := 179) dX10_layJoins_179 rfl rfl ?_
        refine x_getr (pc := 180) dX10_layJoins_180 f_RX10_51 hk0 ?_
        refine x_iload (pc := 183) dX10_layJoins_183 rfl ?_
        refine x_iconst (pc := 185) dX10_layJoins_185 ?_
        obtain ⟨g6, h⟩ := h
        refine x_iast (pc := 186) dX10_layJoins_186 (wk_10_18 hW hk0) (wl_10_18 hW hk0) g6 (fun M7 hM7 => ?_)
        replace h := h M7 hM7
        refine x_aload_n (pc := 187) dX10_layJoins_187 rfl rfl ?_
        refine x_getr (pc := 188) dX10_layJoins_188 f_RX10_48 hk0 ?_
        refine x_iconst (pc := 191) dX10_layJoins_191 ?_
        refine x_aload_n (pc := 192) dX10_layJoins_192 rfl rfl ?_
        refine x_geti (pc := 193) dX10_layJoins_193 f_RX10_185 hk0 ?_
        refine x_imul (pc := 196) dX10_layJoins_196 ?_
        refine x_iload_n (pc := 197) dX10_layJoins_197 rfl rfl ?_
        obtain ⟨g8, h⟩ := h
        refine x_iast (pc := 198) dX10_layJoins_198 (wk_10_17 hW hk0) (wl_10_17 hW hk0) g8 (fun M9 hM9 => ?_)
        replace h := h M9 hM9
        refine x_aload_n (pc := 199) dX10_layJoins_199 rfl rfl ?_
        refine x_getr (pc := 200) dX10_layJoins_200 f_RX10_48 hk0 ?_
        refine x_iconst (pc := 203) dX10_layJoins_203 ?_
        refine x_aload_n (pc := 204) dX10_layJoins_204 rfl rfl ?_
        refine x_geti (pc := 205) dX10_layJoins_205 f_RX10_185 hk0 ?_
        refine x_imul (pc := 208) dX10_layJoins_208 ?_
        refine x_iconst (pc := 209) dX10_layJoins_209 ?_
        refine x_iadd (pc := 210) dX10_layJoins_210 ?_
        refine x_iload (pc := 211) dX10_layJoins_211 rfl ?_
        refine x_iload_n (pc := 213) dX10_layJoins_213 rfl rfl ?_
        refine x_isub (pc := 214) dX10_layJoins_214 ?_
        obtain ⟨g10, h⟩ := h
        refine x_iast (pc := 215) dX10_layJoins_215 (wk_10_17 hW hk0) (wl_10_17 hW hk0) g10 (fun M11 hM11 => ?_)
        replace h := h M11 hM11
        refine x_aload_n (pc := 216) dX10_layJoins_216 rfl rfl ?_
        refine x_getr (pc := 217) dX10_layJoins_217 f_RX10_51 hk0 ?_
        refine x_iload_n (pc := 220) dX10_layJoins_220 rfl rfl ?_
        refine x_aload_n (pc := 221) dX10_layJoins_221 rfl rfl ?_
        refine x_iload_n (pc := 222) dX10_layJoins_222 rfl rfl ?_
        refine x_iconst (pc := 223) dX10_layJoins_223 ?_
        obtain ⟨g12, h⟩ := h
        refine x_callV (pc := 224) (z := m_X10_of) (b := a0) (as := [.inl x3, .inl 3]) (rest := [.inl x3, .inr (rf E a0 18)]) dX10_layJoins_224 c_RX10_164 (by decide) hk0 rfl (Nat.le_of_ble_eq_true rfl) (ct_X10_of hW hk0 g12) (fun r M9 hr => ?_)
        obtain ⟨hM9, hr⟩ := hr
        rw [hM9, hr]
        clear hM9 hr
        show fx_At E m_X10_layJoins 227 [some (.inr a0), some (.inl x1), some (.inl x2), some (.inl x3), some (.inl x4), some (.inl x5), none, none] [.inl (M11 (rf E a0 15) (7 * x3 + 3).toNat), .inl x3, .inr (rf E a0 18)] _ Q
        refine x_aload_n (pc := 227) dX10_layJoins_227 rfl rfl ?_
        refine x_iload (pc := 228) dX10_layJoins_228 rfl ?_
        refine x_iconst (pc := 230) dX10_layJoins_230 ?_
        obtain ⟨g13, h⟩ := h
        refine x_callV (pc := 231) (z := m_X10_of) (b := a0) (as := [.inl x4, .inl 3]) (rest := [.inl (M11 (rf E a0 15) (7 * x3 + 3).toNat), .inl x3, .inr (rf E a0 18)]) dX10_layJoins_231 c_RX10_164 (by decide) hk0 rfl (Nat.le_of_ble_eq_true rfl) (ct_X10_of hW hk0 g13) (fun r M9 hr => ?_)
        obtain ⟨hM9, hr⟩ := hr
        rw [hM9, hr]
        clear hM9 hr
        show fx_At E m_X10_layJoins 234 [some (.inr a0), some (.inl x1), some (.inl x2), some (.inl x3), some (.inl x4), some (.inl x5), none, none] [.inl (M11 (rf E a0 15) (7 * x4 + 3).toNat), .inl (M11 (rf E a0 15) (7 * x3 + 3).toNat), .inl x3, .inr (rf E a0 18)] _ Q
        refine x_iadd (pc := 234) dX10_layJoins_234 ?_
        obtain ⟨g14, h⟩ := h
        refine x_iast (pc := 235) dX10_layJoins_235 (wk_10_18 hW hk0) (wl_10_18 hW hk0) g14 (fun M15 hM15 => ?_)
        replace h := h M15 hM15
        refine x_aload_n (pc := 236) dX10_layJoins_236 rfl rfl ?_
        refine x_getr (pc := 237) dX10_layJoins_237 f_RX10_45 hk0 ?_
        refine x_bipush (pc := 240) dX10_layJoins_240 (by decide +kernel) ?_
        refine x_iload_n (pc := 242) dX10_layJoins_242 rfl rfl ?_
        refine x_imul (pc := 243) dX10_layJoins_243 ?_
        refine x_iconst (pc := 244) dX10_layJoins_244 ?_
        refine x_iadd (pc := 245) dX10_layJoins_245 ?_
        refine x_aload_n (pc := 246) dX10_layJoins_246 rfl rfl ?_
        refine x_iload_n (pc := 247) dX10_layJoins_247 rfl rfl ?_
        refine x_iconst (pc := 248) dX10_layJoins_248 ?_
        refine x_callV (pc := 249) (z := m_X10_of) (b := a0) (as := [.inl x3, .inl 3]) (rest := [.inl ((7 * x3) + 5), .inr (rf E a0 15)]) dX10_layJoins_249 c_RX10_164 (by decide) hk0 rfl (Nat.le_of_ble_eq_true rfl) (ct_X10_of hW hk0 g12) (fun r M9 hr => ?_)
        obtain ⟨hM9, hr⟩ := hr
        rw [hM9, hr]
        clear hM9 hr
        show fx_At E m_X10_layJoins 252 [some (.inr a0), some (.inl x1), some (.inl x2), some (.inl x3), some (.inl x4), some (.inl x5), none, none] [.inl (M15 (rf E a0 15) (7 * x3 + 3).toNat), .inl ((7 * x3) + 5), .inr (rf E a0 15)] _ Q
        refine x_aload_n (pc := 252) dX10_layJoins_252 rfl rfl ?_
        refine x_iload (pc := 253) dX10_layJoins_253 rfl ?_
        refine x_iconst (pc := 255) dX10_layJoins_255 ?_
        refine x_callV (pc := 256) (z := m_X10_of) (b := a0) (as := [.inl x4, .inl 3]) (rest := [.inl (M15 (rf E a0 15) (7 * x3 + 3).toNat), .inl ((7 * x3) + 5), .inr (rf E a0 15)]) dX10_layJoins_256 c_RX10_164 (by decide) hk0 rfl (Nat.le_of_ble_eq_true rfl) (ct_X10_of hW hk0 g13) (fun r M9 hr => ?_)
        obtain ⟨hM9, hr⟩ := hr
        rw [hM9, hr]
        clear hM9 hr
        show fx_At E m_X10_layJoins 259 [some (.inr a0), some (.inl x1), some (.inl x2), some (.inl x3), some (.inl x4), some (.inl x5), none, none] [.inl (M15 (rf E a0 15) (7 * x4 + 3).toNat), .inl (M15 (rf E a0 15) (7 * x3 + 3).toNat), .inl ((7 * x3) + 5), .inr (rf E a0 15)] _ Q
        refine x_isub (pc := 259) dX10_layJoins_259 ?_
        obtain ⟨g16, h⟩ := h
        refine x_iast (pc := 260) dX10_layJoins_260 (wk_10_15 hW hk0) (wl_10_15 hW hk0) g16 (fun M17 hM17 => ?_)
        replace h := h M17 hM17
        refine x_aload_n (pc := 261) dX10_layJoins_261 rfl rfl ?_
        refine x_dup (pc := 262) dX10_layJoins_262 ?_
        refine x_geti (pc := 263) dX10_layJoins_263 f_RX10_185 hk0 ?_
        refine x_iconst (pc := 266) dX10_layJoins_266 ?_
        refine x_iadd (pc := 267) dX10_layJoins_267 ?_
        refine x_puti (pc := 268) dX10_layJoins_268 f_RX10_185 hk0 (fun M18 hM18 => ?_)
        replace h := h M18 hM18
        refine x_iinc (pc := 271) (lv' := [some (.inr a0), some (.inl x1), some (.inl x2), some (.inl (x3 + 1)), some (.inl x4), some (.inl x5), none, none]) dX10_layJoins_271 rfl (by decide) rfl ?_
        refine x_goto (pc := 274) 47 dX10_layJoins_274 (by decide) ?_
        refine x_weak (lv := [some (.inr a0), some (.inl x1), some (.inl x2), some (.inl (x3 + 1)), none, none, none, none]) (by simp [lvle]) ?_
        exact h
  · replace h := h.2 hc
    refine x_aload_n (pc := 70) dX10_layJoins_70 rfl rfl ?_
    refine x_iload_n (pc := 71) dX10_layJoins_71 rfl rfl ?_
    refine x_iconst (pc := 72) dX10_layJoins_72 ?_
    obtain ⟨g19, h⟩ := h
    refine x_callV (pc := 73) (z := m_X10_of) (b := a0) (as := [.inl x3, .inl 0]) (rest := []) dX10_layJoins_73 c_RX10_164 (by decide) hk0 rfl (Nat.le_of_ble_eq_true rfl) (ct_X10_of hW hk0 g19) (fun r M9 hr => ?_)
    obtain ⟨hM9, hr⟩ := hr
    rw [hM9, hr]
    clear hM9 hr
    show fx_At E m_X10_layJoins 76 [some (.inr a0), some (.inl x1), some (.inl x2), some (.inl x3), some (.inl x4), some (.inl x5), none, none] [.inl (M (rf E a0 15) (7 * x3 + 0).toNat)] _ Q
    refine x_aload_n (pc := 76) dX10_layJoins_76 rfl rfl ?_
    refine x_iload (pc := 77) dX10_layJoins_77 rfl ?_
    refine x_iconst (pc := 79) dX10_layJoins_79 ?_
    obtain ⟨g20, h⟩ := h
    refine x_callV (pc := 80) (z := m_X10_of) (b := a0) (as := [.inl x5, .inl 0]) (rest := [.inl (M (rf E a0 15) (7 * x3 + 0).toNat)]) dX10_layJoins_80 c_RX10_164 (by decide) hk0 rfl (Nat.le_of_ble_eq_true rfl) (ct_X10_of hW hk0 g20) (fun r M9 hr => ?_)
    obtain ⟨hM9, hr⟩ := hr
    rw [hM9, hr]
    clear hM9 hr
    show fx_At E m_X10_layJoins 83 [some (.inr a0), some (.inl x1), some (.inl x2), some (.inl x3), some (.inl x4), some (.inl x5), none, none] [.inl (M (rf E a0 15) (7 * x5 + 0).toNat), .inl (M (rf E a0 15) (7 * x3 + 0).toNat)] _ Q
    refine x_iadd (pc := 83) dX10_layJoins_83 ?_
    refine x_aload_n (pc := 84) dX10_layJoins_84 rfl rfl ?_
    obtain ⟨g21, h⟩ := h
    refine x_callV (pc := 85) (z := m_X10_whole) (b := a0) (as := []) (rest := [.inl ((M (rf E a0 15) (7 * x3 + 0).toNat) + (M (rf E a0 15) (7 * x5 + 0).toNat))]) dX10_layJoins_85 c_RX10_85 (by decide) hk0 rfl (Nat.le_of_ble_eq_true rfl) (ct_X10_whole hW hk0 g21) (fun r M9 hr => ?_)
    obtain ⟨hM9, hr⟩ := hr
    rw [hM9, hr]
    clear hM9 hr
    show fx_At E m_X10_layJoins 88 [some (.inr a0), some (.inl x1), some (.inl x2), some (.inl x3), some (.inl x4), some (.inl x5), none, none] [.inl (wsum (M (rf E a0 0)) (M (rf E a0 0) 0).toNat), .inl ((M (rf E a0 15) (7 * x3 + 0).toNat) + (M (rf E a0 15) (7 * x5 + 0).toNat))] _ Q
    refine x_isub (pc := 88) dX10_layJoins_88 ?_
    refine x_istore (pc := 89) (lv' := [some (.inr a0), some (.inl x1), some (.inl x2), some (.inl x3), some (.inl x4), some (.inl x5), some (.inl (((M (rf E a0 15) (7 * x3 + 0).toNat) + (M (rf E a0 15) (7 * x5 + 0).toNat)) - (wsum (M (rf E a0 0)) (M (rf E a0 0) 0).toNat))), none]) dX10_layJoins_89 (by decide) rfl ?_
    refine x_aload_n (pc := 91) dX10_layJoins_91 rfl rfl ?_
    refine x_iload (pc := 92) dX10_layJoins_92 rfl ?_
    refine x_iconst (pc := 94) dX10_layJoins_94 ?_
    obtain ⟨g22, h⟩ := h
    refine x_callV (pc := 95) (z := m_X10_of) (b := a0) (as := [.inl x5, .inl 2]) (rest := []) dX10_layJoins_95 c_RX10_164 (by decide) hk0 rfl (Nat.le_of_ble_eq_true rfl) (ct_X10_of hW hk0 g22) (fun r M9 hr => ?_)
    obtain ⟨hM9, hr⟩ := hr
    rw [hM9, hr]
    clear hM9 hr
    show fx_At E m_X10_layJoins 98 [some (.inr a0), some (.inl x1), some (.inl x2), some (.inl x3), some (.inl x4), some (.inl x5), some (.inl (((M (rf E a0 15) (7 * x3 + 0).toNat) + (M (rf E a0 15) (7 * x5 + 0).toNat)) - (wsum (M (rf E a0 0)) (M (rf E a0 0) 0).toNat))), none] [.inl (M (rf E a0 15) (7 * x5 + 2).toNat)] _ Q
    refine x_iconst (pc := 98) dX10_layJoins_98 ?_
    obtain ⟨g23, h⟩ := h
    refine x_cge (pc := 99) 139 dX10_layJoins_99 (by decide) ⟨g23, ⟨by decide, by decide⟩⟩ (fun hc => ?_) (fun hc => ?_)
    · replace h := h.1 hc
      refine x_iconst (pc := 139) dX10_layJoins_139 ?_
      refine x_istore (pc := 140) (lv' := [some (.inr a0), some (.inl x1), some (.inl x2), some (.inl x3), some (.inl x4), some (.inl x5), some (.inl (((M (rf E a0 15) (7 * x3 + 0).toNat) + (M (rf E a0 15) (7 * x5 + 0).toNat)) - (wsum (M (rf E a0 0)) (M (rf E a0 0) 0).toNat))), some (.inl 0)]) dX10_layJoins_140 (by decide) rfl ?_
      refine x_iload (pc := 142) dX10_layJoins_142 rfl ?_
      refine x_zeq (pc := 144) 152 dX10_layJoins_144 (by decide) ⟨by decide, by decide⟩ (fun _ => ?_) (fun hx => absurd hx (by decide))
      refine x_iload (pc := 152) dX10_layJoins_152 rfl ?_
      refine x_istore (pc := 154) (lv' := [some (.inr a0), some (.inl x1), some (.inl x2), some (.inl x3), some (.inl x4), some (.inl x5), some (.inl (((M (rf E a0 15) (7 * x3 + 0).toNat) + (M (rf E a0 15) (7 * x5 + 0).toNat)) - (wsum (M (rf E a0 0)) (M (rf E a0 0) 0).toNat))), some (.inl 0)]) dX10_layJoins_154 (by decide) rfl ?_
      refine x_iinc (pc := 156) (lv' := [some (.inr a0), some (.inl x1), some (.inl x2), some (.inl x3), some (.inl x4), some (.inl (x5 + (-1))), some (.inl (((M (rf E a0 15) (7 * x3 + 0).toNat) + (M (rf E a0 15) (7 * x5 + 0).toNat)) - (wsum (M (rf E a0 0)) (M (rf E a0 0) 0).toNat))), some (.inl 0)]) dX10_layJoins_156 rfl (by decide) rfl ?_
      refine x_goto (pc := 159) 64 dX10_layJoins_159 (by decide) ?_
      refine x_weak (lv := [some (.inr a0), some (.inl x1), some (.inl x2), some (.inl x3), some (.inl x4), some (.inl (x5 + (-1))), none, none]) (by simp [lvle]) ?_
      exact h
    · replace h := h.2 hc
      refine x_aload_n (pc := 102) dX10_layJoins_102 rfl rfl ?_
      refine x_getr (pc := 103) dX10_layJoins_103 f_RX10_51 hk0 ?_
      refine x_iload (pc := 106) dX10_layJoins_106 rfl ?_
      obtain ⟨g24, h⟩ := h
      refine x_iald (pc := 108) dX10_layJoins_108 (wk_10_18 hW hk0) (wl_10_18 hW hk0) g24 ?_
      obtain ⟨g25, h⟩ := h
      refine x_zne (pc := 109) 139 dX10_layJoins_109 (by decide) g25 (fun hc => ?_) (fun hc => ?_)
      · replace h := h.1 hc
        refine x_iconst (pc := 139) dX10_layJoins_139 ?_
        refine x_istore (pc := 140) (lv' := [some (.inr a0), some (.inl x1), some (.inl x2), some (.inl x3), some (.inl x4), some (.inl x5), some (.inl (((M (rf E a0 15) (7 * x3 + 0).toNat) + (M (rf E a0 15) (7 * x5 + 0).toNat)) - (wsum (M (rf E a0 0)) (M (rf E a0 0) 0).toNat))), some (.inl 0)]) dX10_layJoins_140 (by decide) rfl ?_
        refine x_iload (pc := 142) dX10_layJoins_142 rfl ?_
        refine x_zeq (pc := 144) 152 dX10_layJoins_144 (by decide) ⟨by decide, by decide⟩ (fun _ => ?_) (fun hx => absurd hx (by decide))
        refine x_iload (pc := 152) dX10_layJoins_152 rfl ?_
        refine x_istore (pc := 154) (lv' := [some (.inr a0), some (.inl x1), some (.inl x2), some (.inl x3), some (.inl x4), some (.inl x5), some (.inl (((M (rf E a0 15) (7 * x3 + 0).toNat) + (M (rf E a0 15) (7 * x5 + 0).toNat)) - (wsum (M (rf E a0 0)) (M (rf E a0 0) 0).toNat))), some (.inl 0)]) dX10_layJoins_154 (by decide) rfl ?_
        refine x_iinc (pc := 156) (lv' := [some (.inr a0), some (.inl x1), some (.inl x2), some (.inl x3), some (.inl x4), some (.inl (x5 + (-1))), some (.inl (((M (rf E a0 15) (7 * x3 + 0).toNat) + (M (rf E a0 15) (7 * x5 + 0).toNat)) - (wsum (M (rf E a0 0)) (M (rf E a0 0) 0).toNat))), some (.inl 0)]) dX10_layJoins_156 rfl (by decide) rfl ?_
        refine x_goto (pc := 159) 64 dX10_layJoins_159 (by decide) ?_
        refine x_weak (lv := [some (.inr a0), some (.inl x1), some (.inl x2), some (.inl x3), some (.inl x4), some (.inl (x5 + (-1))), none, none]) (by simp [lvle]) ?_
        exact h
      · replace h := h.2 hc
        refine x_iload (pc := 112) dX10_layJoins_112 rfl ?_
        refine x_aload_n (pc := 114) dX10_layJoins_114 rfl rfl ?_
        refine x_getr (pc := 115) dX10_layJoins_115 f_RX10_7 hk0 ?_
        refine x_bipush (pc := 118) dX10_layJoins_118 (by decide +kernel) ?_
        refine x_iald (pc := 120) dX10_layJoins_120 (wk_10_0 hW hk0) (wl_10_0 hW hk0) ⟨by decide, by decide⟩ ?_
        refine x_ineg (pc := 121) dX10_layJoins_121 ?_
        refine x_aload_n (pc := 122) dX10_layJoins_122 rfl rfl ?_
        refine x_getr (pc := 123) dX10_layJoins_123 f_RX10_7 hk0 ?_
        refine x_bipush (pc := 126) dX10_layJoins_126 (by decide +kernel) ?_
        refine x_iald (pc := 128) dX10_layJoins_128 (wk_10_0 hW hk0) (wl_10_0 hW hk0) ⟨by decide, by decide⟩ ?_
        obtain ⟨g26, h⟩ := h
        obtain ⟨g27, h⟩ := h
        obtain ⟨g28, h⟩ := h
        refine x_callS (pc := 129) (z := m_X10_isIn) (as := [.inl (((M (rf E a0 15) (7 * x3 + 0).toNat) + (M (rf E a0 15) (7 * x5 + 0).toNat)) - (wsum (M (rf E a0 0)) (M (rf E a0 0) 0).toNat)), .inl (-(M (rf E a0 0) 60)), .inl (M (rf E a0 0) 60)]) (rest := []) dX10_layJoins_129 c_RX10_74 (by decide) rfl (Nat.le_of_ble_eq_true rfl) (ct_isIn hW g26 g27 g28) (fun r M9 hr => ?_)
        obtain ⟨hM9, hr⟩ := hr
        rw [hM9]
        clear hM9
        obtain ⟨hc, rfl⟩ | ⟨hc, rfl⟩ := hr
        · replace h := h.1 hc
          show fx_At E m_X10_layJoins 132 [some (.inr a0), some (.inl x1), some (.inl x2), some (.inl x3), some (.inl x4), some (.inl x5), some (.inl (((M (rf E a0 15) (7 * x3 + 0).toNat) + (M (rf E a0 15) (7 * x5 + 0).toNat)) - (wsum (M (rf E a0 0)) (M (rf E a0 0) 0).toNat))), none] [.inl 1] _ Q
          refine x_zeq (pc := 132) 139 dX10_layJoins_132 (by decide) ⟨by decide, by decide⟩ (fun hx => absurd hx (by decide)) (fun _ => ?_)
          refine x_iconst (pc := 135) dX10_layJoins_135 ?_
          refine x_goto (pc := 136) 140 dX10_layJoins_136 (by decide) ?_
          refine x_istore (pc := 140) (lv' := [some (.inr a0), some (.inl x1), some (.inl x2), some (.inl x3), some (.inl x4), some (.inl x5), some (.inl (((M (rf E a0 15) (7 * x3 + 0).toNat) + (M (rf E a0 15) (7 * x5 + 0).toNat)) - (wsum (M (rf E a0 0)) (M (rf E a0 0) 0).toNat))), some (.inl 1)]) dX10_layJoins_140 (by decide) rfl ?_
          refine x_iload (pc := 142) dX10_layJoins_142 rfl ?_
          refine x_zeq (pc := 144) 152 dX10_layJoins_144 (by decide) ⟨by decide, by decide⟩ (fun hx => absurd hx (by decide)) (fun _ => ?_)
          refine x_iload (pc := 147) dX10_layJoins_147 rfl ?_
          refine x_goto (pc := 149) 154 dX10_layJoins_149 (by decide) ?_
          refine x_istore (pc := 154) (lv' := [some (.inr a0), some (.inl x1), some (.inl x2), some (.inl x3), some (.inl x5), some (.inl x5), some (.inl (((M (rf E a0 15) (7 * x3 + 0).toNat) + (M (rf E a0 15) (7 * x5 + 0).toNat)) - (wsum (M (rf E a0 0)) (M (rf E a0 0) 0).toNat))), some (.inl 1)]) dX10_layJoins_154 (by decide) rfl ?_
          refine x_iinc (pc := 156) (lv' := [some (.inr a0), some (.inl x1), some (.inl x2), some (.inl x3), some (.inl x5), some (.inl (x5 + (-1))), some (.inl (((M (rf E a0 15) (7 * x3 + 0).toNat) + (M (rf E a0 15) (7 * x5 + 0).toNat)) - (wsum (M (rf E a0 0)) (M (rf E a0 0) 0).toNat))), some (.inl 1)]) dX10_layJoins_156 rfl (by decide) rfl ?_
          refine x_goto (pc := 159) 64 dX10_layJoins_159 (by decide) ?_
          refine x_weak (lv := [some (.inr a0), some (.inl x1), some (.inl x2), some (.inl x3), some (.inl x5), some (.inl (x5 + (-1))), none, none]) (by simp [lvle]) ?_
          exact h
        · replace h := h.2 hc
          show fx_At E m_X10_layJoins 132 [some (.inr a0), some (.inl x1), some (.inl x2), some (.inl x3), some (.inl x4), some (.inl x5), some (.inl (((M (rf E a0 15) (7 * x3 + 0).toNat) + (M (rf E a0 15) (7 * x5 + 0).toNat)) - (wsum (M (rf E a0 0)) (M (rf E a0 0) 0).toNat))), none] [.inl 0] _ Q
          refine x_zeq (pc := 132) 139 dX10_layJoins_132 (by decide) ⟨by decide, by decide⟩ (fun _ => ?_) (fun hx => absurd hx (by decide))
          refine x_iconst (pc := 139) dX10_layJoins_139 ?_
          refine x_istore (pc := 140) (lv' := [some (.inr a0), some (.inl x1), some (.inl x2), some (.inl x3), some (.inl x4), some (.inl x5), some (.inl (((M (rf E a0 15) (7 * x3 + 0).toNat) + (M (rf E a0 15) (7 * x5 + 0).toNat)) - (wsum (M (rf E a0 0)) (M (rf E a0 0) 0).toNat))), some (.inl 0)]) dX10_layJoins_140 (by decide) rfl ?_
          refine x_iload (pc := 142) dX10_layJoins_142 rfl ?_
          refine x_zeq (pc := 144) 152 dX10_layJoins_144 (by decide) ⟨by decide, by decide⟩ (fun _ => ?_) (fun hx => absurd hx (by decide))
          refine x_iload (pc := 152) dX10_layJoins_152 rfl ?_
          refine x_istore (pc := 154) (lv' := [some (.inr a0), some (.inl x1), some (.inl x2), some (.inl x3), some (.inl x4), some (.inl x5), some (.inl (((M (rf E a0 15) (7 * x3 + 0).toNat) + (M (rf E a0 15) (7 * x5 + 0).toNat)) - (wsum (M (rf E a0 0)) (M (rf E a0 0) 0).toNat))), some (.inl 0)]) dX10_layJoins_154 (by decide) rfl ?_
          refine x_iinc (pc := 156) (lv' := [some (.inr a0), some (.inl x1), some (.inl x2), some (.inl x3), some (.inl x4), some (.inl (x5 + (-1))), some (.inl (((M (rf E a0 15) (7 * x3 + 0).toNat) + (M (rf E a0 15) (7 * x5 + 0).toNat)) - (wsum (M (rf E a0 0)) (M (rf E a0 0) 0).toNat))), some (.inl 0)]) dX10_layJoins_156 rfl (by decide) rfl ?_
          refine x_goto (pc := 159) 64 dX10_layJoins_159 (by decide) ?_
          refine x_weak (lv := [some (.inr a0), some (.inl x1), some (.inl x2), some (.inl x3), some (.inl x4), some (.inl (x5 + (-1))), none, none]) (by simp [lvle]) ?_
          exact h
theorem dX10_joinedCount_0 : decode cX10_joinedCount 0 = .ok (.iload_n 1, 1) := by decide +kernel
theorem dX10_joinedCount_1 : decode cX10_joinedCount 1 = .ok (.iconst 1, 1) := by decide +kernel
theorem dX10_joinedCount_2 : decode cX10_joinedCount 2 = .ok (.bipush 9, 2) := by decide +kernel
theorem dX10_joinedCount_4 : decode cX10_joinedCount 4 = .ok (.invokestatic 74, 3) := by decide +kernel
theorem dX10_joinedCount_7 : decode cX10_joinedCount 7 = .ok (.ifCond .ne 6, 3) := by decide +kernel
theorem dX10_joinedCount_10 : decode cX10_joinedCount 10 = .ok (.ldc 81, 2) := by decide +kernel
theorem dX10_joinedCount_12 : decode cX10_joinedCount 12 = .ok (.ireturn, 1) := by decide +kernel
theorem dX10_joinedCount_13 : decode cX10_joinedCount 13 = .ok (.aload_n 0, 1) := by decide +kernel
theorem dX10_joinedCount_14 : decode cX10_joinedCount 14 = .ok (.iload_n 1, 1) := by decide +kernel
theorem dX10_joinedCount_15 : decode cX10_joinedCount 15 = .ok (.invokevirtual 188, 3) := by decide +kernel
theorem dX10_joinedCount_18 : decode cX10_joinedCount 18 = .ok (.aload_n 0, 1) := by decide +kernel
theorem dX10_joinedCount_19 : decode cX10_joinedCount 19 = .ok (.getfield 185, 3) := by decide +kernel
theorem dX10_joinedCount_22 : decode cX10_joinedCount 22 = .ok (.ireturn, 1) := by decide +kernel
set_option maxRecDepth 100000 in
theorem b_X10_joinedCount_0 {E : fxE} (hW : fx_Wt E) (a0 : Nat) (x1 : Int) (M : fxM) (Q : Option fxV → fxM → Prop) (hk0 : kd E a0 = 10) (h : (-2147483648 ≤ x1 ∧ x1 < 2147483648) ∧ (((1 : Int) ≤ x1 ∧ x1 ≤ (9 : Int) → ∃ R3 : fxM → Prop, CtV E m_X10_layJoins [.inr a0, .inl x1] M R3 ∧ ∀ M3 : fxM, R3 M3 → Q (some (.inl (M3 a0 19))) M3) ∧ (¬ ((1 : Int) ≤ x1 ∧ x1 ≤ (9 : Int)) → Q (some (.inl (-1000002))) M))) : fx_At E m_X10_joinedCount 0 [some (.inr a0), some (.inl x1)] [] M Q := by
  refine x_iload_n (pc := 0) dX10_joinedCount_0 rfl rfl ?_
  refine x_iconst (pc := 1) dX10_joinedCount_1 ?_
  refine x_bipush (pc := 2) dX10_joinedCount_2 (by decide +kernel) ?_
  obtain ⟨g1, h⟩ := h
  refine x_callS (pc := 4) (z := m_X10_isIn) (as := [.inl x1, .inl 1, .inl 9]) (rest := []) dX10_joinedCount_4 c_RX10_74 (by decide) rfl (Nat.le_of_ble_eq_true rfl) (ct_isIn hW g1 ⟨by decide, by decide⟩ ⟨by decide, by decide⟩) (fun r M9 hr => ?_)
  obtain ⟨hM9, hr⟩ := hr
  rw [hM9]
  clear hM9
  obtain ⟨hc, rfl⟩ | ⟨hc, rfl⟩ := hr
  · replace h := h.1 hc
    show fx_At E m_X10_joinedCount 7 [some (.inr a0), some (.inl x1)] [.inl 1] _ Q
    refine x_zne (pc := 7) 13 dX10_joinedCount_7 (by decide) ⟨by decide, by decide⟩ (fun _ => ?_) (fun hx => absurd hx (by decide))
    refine x_aload_n (pc := 13) dX10_joinedCount_13 rfl rfl ?_
    refine x_iload_n (pc := 14) dX10_joinedCount_14 rfl rfl ?_
    obtain ⟨R3, hc3, h⟩ := h
    refine x_callV (pc := 15) (z := m_X10_layJoins) (b := a0) (as := [.inl x1]) (rest := []) dX10_joinedCount_15 c_RX10_188 (by decide) hk0 rfl (Nat.le_of_ble_eq_true rfl) hc3 (fun r M3 hr => ?_)
    obtain ⟨rfl, hr⟩ := hr
    replace h := h M3 hr
    show fx_At E m_X10_joinedCount 18 [some (.inr a0), some (.inl x1)] [] M3 Q
    refine x_aload_n (pc := 18) dX10_joinedCount_18 rfl rfl ?_
    refine x_geti (pc := 19) dX10_joinedCount_19 f_RX10_185 hk0 ?_
    exact x_iret (pc := 22) dX10_joinedCount_22 (Or.inl rfl) h
  · replace h := h.2 hc
    show fx_At E m_X10_joinedCount 7 [some (.inr a0), some (.inl x1)] [.inl 0] _ Q
    refine x_zne (pc := 7) 13 dX10_joinedCount_7 (by decide) ⟨by decide, by decide⟩ (fun hx => absurd hx (by decide)) (fun _ => ?_)
    refine x_ldc (pc := 10) (n := -1000002) dX10_joinedCount_10 k_RX10_81 rfl ?_
    exact x_iret (pc := 12) dX10_joinedCount_12 (Or.inl rfl) h
theorem dX10_joined_0 : decode cX10_joined 0 = .ok (.iload_n 1, 1) := by decide +kernel
theorem dX10_joined_1 : decode cX10_joined 1 = .ok (.iconst 1, 1) := by decide +kernel
theorem dX10_joined_2 : decode cX10_joined 2 = .ok (.bipush 9, 2) := by decide +kernel
theorem dX10_joined_4 : decode cX10_joined 4 = .ok (.invokestatic 74, 3) := by decide +kernel
theorem dX10_joined_7 : decode cX10_joined 7 = .ok (.ifCond .eq 16, 3) := by decide +kernel
theorem dX10_joined_10 : decode cX10_joined 10 = .ok (.iload_n 2, 1) := by decide +kernel
theorem dX10_joined_11 : decode cX10_joined 11 = .ok (.ifCond .lt 12, 3) := by decide +kernel
theorem dX10_joined_14 : decode cX10_joined 14 = .ok (.iload_n 3, 1) := by decide +kernel
theorem dX10_joined_15 : decode cX10_joined 15 = .ok (.iconst 0, 1) := by decide +kernel
theorem dX10_joined_16 : decode cX10_joined 16 = .ok (.iconst 3, 1) := by decide +kernel
theorem dX10_joined_17 : decode cX10_joined 17 = .ok (.invokestatic 74, 3) := by decide +kernel
theorem dX10_joined_20 : decode cX10_joined 20 = .ok (.ifCond .ne 6, 3) := by decide +kernel
theorem dX10_joined_23 : decode cX10_joined 23 = .ok (.ldc 81, 2) := by decide +kernel
theorem dX10_joined_25 : decode cX10_joined 25 = .ok (.ireturn, 1) := by decide +kernel
theorem dX10_joined_26 : decode cX10_joined 26 = .ok (.aload_n 0, 1) := by decide +kernel
theorem dX10_joined_27 : decode cX10_joined 27 = .ok (.iload_n 1, 1) := by decide +kernel
theorem dX10_joined_28 : decode cX10_joined 28 = .ok (.invokevirtual 188, 3) := by decide +kernel
theorem dX10_joined_31 : decode cX10_joined 31 = .ok (.iload_n 2, 1) := by decide +kernel
theorem dX10_joined_32 : decode cX10_joined 32 = .ok (.aload_n 0, 1) := by decide +kernel
theorem dX10_joined_33 : decode cX10_joined 33 = .ok (.getfield 185, 3) := by decide +kernel
theorem dX10_joined_36 : decode cX10_joined 36 = .ok (.if_icmp .lt 6, 3) := by decide +kernel
theorem dX10_joined_39 : decode cX10_joined 39 = .ok (.ldc 23, 2) := by decide +kernel
theorem dX10_joined_41 : decode cX10_joined 41 = .ok (.ireturn, 1) := by decide +kernel
theorem dX10_joined_42 : decode cX10_joined 42 = .ok (.aload_n 0, 1) := by decide +kernel
theorem dX10_joined_43 : decode cX10_joined 43 = .ok (.getfield 48, 3) := by decide +kernel
theorem dX10_joined_46 : decode cX10_joined 46 = .ok (.iconst 2, 1) := by decide +kernel
theorem dX10_joined_47 : decode cX10_joined 47 = .ok (.iload_n 2, 1) := by decide +kernel
theorem dX10_joined_48 : decode cX10_joined 48 = .ok (.imul, 1) := by decide +kernel
theorem dX10_joined_49 : decode cX10_joined 49 = .ok (.iaload, 1) := by decide +kernel
theorem dX10_joined_50 : decode cX10_joined 50 = .ok (.istore 4, 2) := by decide +kernel
theorem dX10_joined_52 : decode cX10_joined 52 = .ok (.iload_n 3, 1) := by decide +kernel
theorem dX10_joined_53 : decode cX10_joined 53 = .ok (.iconst 2, 1) := by decide +kernel
theorem dX10_joined_54 : decode cX10_joined 54 = .ok (.if_icmp .ge 16, 3) := by decide +kernel
theorem dX10_joined_57 : decode cX10_joined 57 = .ok (.aload_n 0, 1) := by decide +kernel
theorem dX10_joined_58 : decode cX10_joined 58 = .ok (.getfield 48, 3) := by decide +kernel
theorem dX10_joined_61 : decode cX10_joined 61 = .ok (.iconst 2, 1) := by decide +kernel
theorem dX10_joined_62 : decode cX10_joined 62 = .ok (.iload_n 2, 1) := by decide +kernel
theorem dX10_joined_63 : decode cX10_joined 63 = .ok (.imul, 1) := by decide +kernel
theorem dX10_joined_64 : decode cX10_joined 64 = .ok (.iload_n 3, 1) := by decide +kernel
theorem dX10_joined_65 : decode cX10_joined 65 = .ok (.iadd, 1) := by decide +kernel
theorem dX10_joined_66 : decode cX10_joined 66 = .ok (.iaload, 1) := by decide +kernel
theorem dX10_joined_67 : decode cX10_joined 67 = .ok (.goto 25, 3) := by decide +kernel
theorem dX10_joined_70 : decode cX10_joined 70 = .ok (.iload_n 3, 1) := by decide +kernel
theorem dX10_joined_71 : decode cX10_joined 71 = .ok (.iconst 2, 1) := by decide +kernel
theorem dX10_joined_72 : decode cX10_joined 72 = .ok (.if_icmp .ne 13, 3) := by decide +kernel
theorem dX10_joined_75 : decode cX10_joined 75 = .ok (.aload_n 0, 1) := by decide +kernel
theorem dX10_joined_76 : decode cX10_joined 76 = .ok (.getfield 51, 3) := by decide +kernel
theorem dX10_joined_79 : decode cX10_joined 79 = .ok (.iload 4, 2) := by decide +kernel
theorem dX10_joined_81 : decode cX10_joined 81 = .ok (.iaload, 1) := by decide +kernel
theorem dX10_joined_82 : decode cX10_joined 82 = .ok (.goto 10, 3) := by decide +kernel
theorem dX10_joined_85 : decode cX10_joined 85 = .ok (.aload_n 0, 1) := by decide +kernel
theorem dX10_joined_86 : decode cX10_joined 86 = .ok (.iload 4, 2) := by decide +kernel
theorem dX10_joined_88 : decode cX10_joined 88 = .ok (.iconst 5, 1) := by decide +kernel
theorem dX10_joined_89 : decode cX10_joined 89 = .ok (.invokevirtual 164, 3) := by decide +kernel
theorem dX10_joined_92 : decode cX10_joined 92 = .ok (.ireturn, 1) := by decide +kernel
set_option maxRecDepth 100000 in
theorem b_X10_joined_0 {E : fxE} (hW : fx_Wt E) (a0 : Nat) (x1 : Int) (x2 : Int) (x3 : Int) (M : fxM) (Q : Option fxV → fxM → Prop) (hk0 : kd E a0 = 10) (h : (-2147483648 ≤ x1 ∧ x1 < 2147483648) ∧ (((1 : Int) ≤ x1 ∧ x1 ≤ (9 : Int) → (-2147483648 ≤ x2 ∧ x2 < 2147483648) ∧ ((x2 < (0 : Int) → Q (some (.inl (-1000002))) M) ∧ (¬ x2 < (0 : Int) → (-2147483648 ≤ x3 ∧ x3 < 2147483648) ∧ (((0 : Int) ≤ x3 ∧ x3 ≤ (3 : Int) → ∃ R6 : fxM → Prop, CtV E m_X10_layJoins [.inr a0, .inl x1] M R6 ∧ ∀ M6 : fxM, R6 M6 → (-2147483648 ≤ (M6 a0 19) ∧ (M6 a0 19) < 2147483648) ∧ ((x2 < (M6 a0 19) → (0 ≤ (2 * x2) ∧ (2 * x2) < 402) ∧ (((2 : Int) ≤ x3 → ((¬ x3 = (2 : Int) → (0 ≤ 7 * (M6 (rf E a0 17) ((2 * x2).toNat)) + (5 : Int) ∧ 7 * (M6 (rf E a0 17) ((2 * x2).toNat)) + (5 : Int) < 2814) ∧ Q (some (.inl (M6 (rf E a0 15) (7 * (M6 (rf E a0 17) ((2 * x2).toNat)) + 5).toNat))) M6) ∧ (x3 = (2 : Int) → (0 ≤ (M6 (rf E a0 17) ((2 * x2).toNat)) ∧ (M6 (rf E a0 17) ((2 * x2).toNat)) < 402) ∧ Q (some (.inl (M6 (rf E a0 18) ((M6 (rf E a0 17) ((2 * x2).toNat)).toNat)))) M6))) ∧ (¬ (2 : Int) ≤ x3 → (0 ≤ ((2 * x2) + x3) ∧ ((2 * x2) + x3) < 402) ∧ Q (some (.inl (M6 (rf E a0 17) (((2 * x2) + x3).toNat)))) M6))) ∧ (¬ x2 < (M6 a0 19) → Q (some (.inl (-1000005))) M6))) ∧ (¬ ((0 : Int) ≤ x3 ∧ x3 ≤ (3 : Int)) → Q (some (.inl (-1000002))) M))))) ∧ (¬ ((1 : Int) ≤ x1 ∧ x1 ≤ (9 : Int)) → Q (some (.inl (-1000002))) M))) : fx_At E m_X10_joined 0 [some (.inr a0), some (.inl x1), some (.inl x2), some (.inl x3), none] [] M Q := by
  refine x_iload_n (pc := 0) dX10_joined_0 rfl rfl ?_
  refine x_iconst (pc := 1) dX10_joined_1 ?_
  refine x_bipush (pc := 2) dX10_joined_2 (by decide +kernel) ?_
  obtain ⟨g1, h⟩ := h
  refine x_callS (pc := 4) (z := m_X10_isIn) (as := [.inl x1, .inl 1, .inl 9]) (rest := []) dX10_joined_4 c_RX10_74 (by decide) rfl (Nat.le_of_ble_eq_true rfl) (ct_isIn hW g1 ⟨by decide, by decide⟩ ⟨by decide, by decide⟩) (fun r M9 hr => ?_)
  obtain ⟨hM9, hr⟩ := hr
  rw [hM9]
  clear hM9
  obtain ⟨hc, rfl⟩ | ⟨hc, rfl⟩ := hr
  · replace h := h.1 hc
    show fx_At E m_X10_joined 7 [some (.inr a0), some (.inl x1), some (.inl x2), some (.inl x3), none] [.inl 1] _ Q
    refine x_zeq (pc := 7) 23 dX10_joined_7 (by decide) ⟨by decide, by decide⟩ (fun hx => absurd hx (by decide)) (fun _ => ?_)
    refine x_iload_n (pc := 10) dX10_joined_10 rfl rfl ?_
    obtain ⟨g3, h⟩ := h
    refine x_zlt (pc := 11) 23 dX10_joined_11 (by decide) g3 (fun hc => ?_) (fun hc => ?_)
    · replace h := h.1 hc
      refine x_ldc (pc := 23) (n := -1000002) dX10_joined_23 k_RX10_81 rfl ?_
      exact x_iret (pc := 25) dX10_joined_25 (Or.inl rfl) h
    · replace h := h.2 hc
      refine x_iload_n (pc := 14) dX10_joined_14 rfl rfl ?_
      refine x_iconst (pc := 15) dX10_joined_15 ?_
      refine x_iconst (pc := 16) dX10_joined_16 ?_
      obtain ⟨g4, h⟩ := h
      refine x_callS (pc := 17) (z := m_X10_isIn) (as := [.inl x3, .inl 0, .inl 3]) (rest := []) dX10_joined_17 c_RX10_74 (by decide) rfl (Nat.le_of_ble_eq_true rfl) (ct_isIn hW g4 ⟨by decide, by decide⟩ ⟨by decide, by decide⟩) (fun r M9 hr => ?_)
      obtain ⟨hM9, hr⟩ := hr
      rw [hM9]
      clear hM9
      obtain ⟨hc, rfl⟩ | ⟨hc, rfl⟩ := hr
      · replace h := h.1 hc
        show fx_At E m_X10_joined 20 [some (.inr a0), some (.inl x1), some (.inl x2), some (.inl x3), none] [.inl 1] _ Q
        refine x_zne (pc := 20) 26 dX10_joined_20 (by decide) ⟨by decide, by decide⟩ (fun _ => ?_) (fun hx => absurd hx (by decide))
        refine x_aload_n (pc := 26) dX10_joined_26 rfl rfl ?_
        refine x_iload_n (pc := 27) dX10_joined_27 rfl rfl ?_
        obtain ⟨R6, hc6, h⟩ := h
        refine x_callV (pc := 28) (z := m_X10_layJoins) (b := a0) (as := [.inl x1]) (rest := []) dX10_joined_28 c_RX10_188 (by decide) hk0 rfl (Nat.le_of_ble_eq_true rfl) hc6 (fun r M6 hr => ?_)
        obtain ⟨rfl, hr⟩ := hr
        replace h := h M6 hr
        show fx_At E m_X10_joined 31 [some (.inr a0), some (.inl x1), some (.inl x2), some (.inl x3), none] [] M6 Q
        refine x_iload_n (pc := 31) dX10_joined_31 rfl rfl ?_
        refine x_aload_n (pc := 32) dX10_joined_32 rfl rfl ?_
        refine x_geti (pc := 33) dX10_joined_33 f_RX10_185 hk0 ?_
        obtain ⟨g7, h⟩ := h
        refine x_clt (pc := 36) 42 dX10_joined_36 (by decide) ⟨g3, g7⟩ (fun hc => ?_) (fun hc => ?_)
        · replace h := h.1 hc
          refine x_aload_n (pc := 42) dX10_joined_42 rfl rfl ?_
          refine x_getr (pc := 43) dX10_joined_43 f_RX10_48 hk0 ?_
          refine x_iconst (pc := 46) dX10_joined_46 ?_
          refine x_iload_n (pc := 47) dX10_joined_47 rfl rfl ?_
          refine x_imul (pc := 48) dX10_joined_48 ?_
          obtain ⟨g8, h⟩ := h
          refine x_iald (pc := 49) dX10_joined_49 (wk_10_17 hW hk0) (wl_10_17 hW hk0) g8 ?_
          refine x_istore (pc := 50) (lv' := [some (.inr a0), some (.inl x1), some (.inl x2), some (.inl x3), some (.inl (M6 (rf E a0 17) ((2 * x2).toNat)))]) dX10_joined_50 (by decide) rfl ?_
          refine x_iload_n (pc := 52) dX10_joined_52 rfl rfl ?_
          refine x_iconst (pc := 53) dX10_joined_53 ?_
          refine x_cge (pc := 54) 70 dX10_joined_54 (by decide) ⟨g4, ⟨by decide, by decide⟩⟩ (fun hc => ?_) (fun hc => ?_)
          · replace h := h.1 hc
            refine x_iload_n (pc := 70) dX10_joined_70 rfl rfl ?_
            refine x_iconst (pc := 71) dX10_joined_71 ?_
            refine x_cne (pc := 72) 85 dX10_joined_72 (by decide) ⟨g4, ⟨by decide, by decide⟩⟩ (fun hc => ?_) (fun hc => ?_)
            · replace h := h.1 hc
              refine x_aload_n (pc := 85) dX10_joined_85 rfl rfl ?_
              refine x_iload (pc := 86) dX10_joined_86 rfl ?_
              refine x_iconst (pc := 88) dX10_joined_88 ?_
              obtain ⟨g9, h⟩ := h
              refine x_callV (pc := 89) (z := m_X10_of) (b := a0) (as := [.inl (M6 (rf E a0 17) ((2 * x2).toNat)), .inl 5]) (rest := []) dX10_joined_89 c_RX10_164 (by decide) hk0 rfl (Nat.le_of_ble_eq_true rfl) (ct_X10_of hW hk0 g9) (fun r M9 hr => ?_)
              obtain ⟨hM9, hr⟩ := hr
              rw [hM9, hr]
              clear hM9 hr
              show fx_At E m_X10_joined 92 [some (.inr a0), some (.inl x1), some (.inl x2), some (.inl x3), some (.inl (M6 (rf E a0 17) ((2 * x2).toNat)))] [.inl (M6 (rf E a0 15) (7 * (M6 (rf E a0 17) ((2 * x2).toNat)) + 5).toNat)] _ Q
              exact x_iret (pc := 92) dX10_joined_92 (Or.inl rfl) h
            · replace h := h.2 hc
              refine x_aload_n (pc := 75) dX10_joined_75 rfl rfl ?_
              refine x_getr (pc := 76) dX10_joined_76 f_RX10_51 hk0 ?_
              refine x_iload (pc := 79) dX10_joined_79 rfl ?_
              obtain ⟨g10, h⟩ := h
              refine x_iald (pc := 81) dX10_joined_81 (wk_10_18 hW hk0) (wl_10_18 hW hk0) g10 ?_
              refine x_goto (pc := 82) 92 dX10_joined_82 (by decide) ?_
              exact x_iret (pc := 92) dX10_joined_92 (Or.inl rfl) h
          · replace h := h.2 hc
            refine x_aload_n (pc := 57) dX10_joined_57 rfl rfl ?_
            refine x_getr (pc := 58) dX10_joined_58 f_RX10_48 hk0 ?_
            refine x_iconst (pc := 61) dX10_joined_61 ?_
            refine x_iload_n (pc := 62) dX10_joined_62 rfl rfl ?_
            refine x_imul (pc := 63) dX10_joined_63 ?_
            refine x_iload_n (pc := 64) dX10_joined_64 rfl rfl ?_
            refine x_iadd (pc := 65) dX10_joined_65 ?_
            obtain ⟨g11, h⟩ := h
            refine x_iald (pc := 66) dX10_joined_66 (wk_10_17 hW hk0) (wl_10_17 hW hk0) g11 ?_
            refine x_goto (pc := 67) 92 dX10_joined_67 (by decide) ?_
            exact x_iret (pc := 92) dX10_joined_92 (Or.inl rfl) h
        · replace h := h.2 hc
          refine x_ldc (pc := 39) (n := -1000005) dX10_joined_39 k_RX10_23 rfl ?_
          exact x_iret (pc := 41) dX10_joined_41 (Or.inl rfl) h
      · replace h := h.2 hc
        show fx_At E m_X10_joined 20 [some (.inr a0), some (.inl x1), some (.inl x2), some (.inl x3), none] [.inl 0] _ Q
        refine x_zne (pc := 20) 26 dX10_joined_20 (by decide) ⟨by decide, by decide⟩ (fun hx => absurd hx (by decide)) (fun _ => ?_)
        refine x_ldc (pc := 23) (n := -1000002) dX10_joined_23 k_RX10_81 rfl ?_
        exact x_iret (pc := 25) dX10_joined_25 (Or.inl rfl) h
  · replace h := h.2 hc
    show fx_At E m_X10_joined 7 [some (.inr a0), some (.inl x1), some (.inl x2), some (.inl x3), none] [.inl 0] _ Q
    refine x_zeq (pc := 7) 23 dX10_joined_7 (by decide) ⟨by decide, by decide⟩ (fun _ => ?_) (fun hx => absurd hx (by decide))
    refine x_ldc (pc := 23) (n := -1000002) dX10_joined_23 k_RX10_81 rfl ?_
    exact x_iret (pc := 25) dX10_joined_25 (Or.inl rfl) h
theorem dX10_addPoint_0 : decode cX10_addPoint 0 = .ok (.iload_n 1, 1) := by decide +kernel
theorem dX10_addPoint_1 : decode cX10_addPoint 1 = .ok (.iconst 0, 1) := by decide +kernel
theorem dX10_addPoint_2 : decode cX10_addPoint 2 = .ok (.sipush 9999, 3) := by decide +kernel
theorem dX10_addPoint_5 : decode cX10_addPoint 5 = .ok (.invokestatic 74, 3) := by decide +kernel
theorem dX10_addPoint_8 : decode cX10_addPoint 8 = .ok (.ifCond .eq 13, 3) := by decide +kernel
theorem dX10_addPoint_11 : decode cX10_addPoint 11 = .ok (.iload_n 2, 1) := by decide +kernel
theorem dX10_addPoint_12 : decode cX10_addPoint 12 = .ok (.iconst 0, 1) := by decide +kernel
theorem dX10_addPoint_13 : decode cX10_addPoint 13 = .ok (.bipush 99, 2) := by decide +kernel
theorem dX10_addPoint_15 : decode cX10_addPoint 15 = .ok (.invokestatic 74, 3) := by decide +kernel
theorem dX10_addPoint_18 : decode cX10_addPoint 18 = .ok (.ifCond .ne 6, 3) := by decide +kernel
theorem dX10_addPoint_21 : decode cX10_addPoint 21 = .ok (.ldc 81, 2) := by decide +kernel
theorem dX10_addPoint_23 : decode cX10_addPoint 23 = .ok (.ireturn, 1) := by decide +kernel
theorem dX10_addPoint_24 : decode cX10_addPoint 24 = .ok (.aload_n 0, 1) := by decide +kernel
theorem dX10_addPoint_25 : decode cX10_addPoint 25 = .ok (.getfield 7, 3) := by decide +kernel
theorem dX10_addPoint_28 : decode cX10_addPoint 28 = .ok (.bipush 62, 2) := by decide +kernel
theorem dX10_addPoint_30 : decode cX10_addPoint 30 = .ok (.iaload, 1) := by decide +kernel
theorem dX10_addPoint_31 : decode cX10_addPoint 31 = .ok (.istore_n 3, 1) := by decide +kernel
theorem dX10_addPoint_32 : decode cX10_addPoint 32 = .ok (.iload_n 3, 1) := by decide +kernel
theorem dX10_addPoint_33 : decode cX10_addPoint 33 = .ok (.bipush 10, 2) := by decide +kernel
theorem dX10_addPoint_35 : decode cX10_addPoint 35 = .ok (.if_icmp .ne 6, 3) := by decide +kernel
theorem dX10_addPoint_38 : decode cX10_addPoint 38 = .ok (.ldc 89, 2) := by decide +kernel
theorem dX10_addPoint_40 : decode cX10_addPoint 40 = .ok (.ireturn, 1) := by decide +kernel
theorem dX10_addPoint_41 : decode cX10_addPoint 41 = .ok (.iload_n 3, 1) := by decide +kernel
theorem dX10_addPoint_42 : decode cX10_addPoint 42 = .ok (.ifCond .le 23, 3) := by decide +kernel
theorem dX10_addPoint_45 : decode cX10_addPoint 45 = .ok (.iload_n 1, 1) := by decide +kernel
theorem dX10_addPoint_46 : decode cX10_addPoint 46 = .ok (.aload_n 0, 1) := by decide +kernel
theorem dX10_addPoint_47 : decode cX10_addPoint 47 = .ok (.getfield 7, 3) := by decide +kernel
theorem dX10_addPoint_50 : decode cX10_addPoint 50 = .ok (.bipush 63, 2) := by decide +kernel
theorem dX10_addPoint_52 : decode cX10_addPoint 52 = .ok (.iconst 2, 1) := by decide +kernel
theorem dX10_addPoint_53 : decode cX10_addPoint 53 = .ok (.iload_n 3, 1) := by decide +kernel
theorem dX10_addPoint_54 : decode cX10_addPoint 54 = .ok (.imul, 1) := by decide +kernel
theorem dX10_addPoint_55 : decode cX10_addPoint 55 = .ok (.iadd, 1) := by decide +kernel
theorem dX10_addPoint_56 : decode cX10_addPoint 56 = .ok (.iconst 2, 1) := by decide +kernel
theorem dX10_addPoint_57 : decode cX10_addPoint 57 = .ok (.isub, 1) := by decide +kernel
theorem dX10_addPoint_58 : decode cX10_addPoint 58 = .ok (.iaload, 1) := by decide +kernel
theorem dX10_addPoint_59 : decode cX10_addPoint 59 = .ok (.if_icmp .gt 6, 3) := by decide +kernel
theorem dX10_addPoint_62 : decode cX10_addPoint 62 = .ok (.ldc 98, 2) := by decide +kernel
theorem dX10_addPoint_64 : decode cX10_addPoint 64 = .ok (.ireturn, 1) := by decide +kernel
theorem dX10_addPoint_65 : decode cX10_addPoint 65 = .ok (.aload_n 0, 1) := by decide +kernel
theorem dX10_addPoint_66 : decode cX10_addPoint 66 = .ok (.invokevirtual 82, 3) := by decide +kernel
theorem dX10_addPoint_69 : decode cX10_addPoint 69 = .ok (.aload_n 0, 1) := by decide +kernel
theorem dX10_addPoint_70 : decode cX10_addPoint 70 = .ok (.getfield 7, 3) := by decide +kernel
theorem dX10_addPoint_73 : decode cX10_addPoint 73 = .ok (.bipush 63, 2) := by decide +kernel
theorem dX10_addPoint_75 : decode cX10_addPoint 75 = .ok (.iconst 2, 1) := by decide +kernel
theorem dX10_addPoint_76 : decode cX10_addPoint 76 = .ok (.iload_n 3, 1) := by decide +kernel
theorem dX10_addPoint_77 : decode cX10_addPoint 77 = .ok (.imul, 1) := by decide +kernel
theorem dX10_addPoint_78 : decode cX10_addPoint 78 = .ok (.iadd, 1) := by decide +kernel
theorem dX10_addPoint_79 : decode cX10_addPoint 79 = .ok (.iload_n 1, 1) := by decide +kernel
theorem dX10_addPoint_80 : decode cX10_addPoint 80 = .ok (.iastore, 1) := by decide +kernel
theorem dX10_addPoint_81 : decode cX10_addPoint 81 = .ok (.aload_n 0, 1) := by decide +kernel
theorem dX10_addPoint_82 : decode cX10_addPoint 82 = .ok (.getfield 7, 3) := by decide +kernel
theorem dX10_addPoint_85 : decode cX10_addPoint 85 = .ok (.bipush 63, 2) := by decide +kernel
theorem dX10_addPoint_87 : decode cX10_addPoint 87 = .ok (.iconst 2, 1) := by decide +kernel
theorem dX10_addPoint_88 : decode cX10_addPoint 88 = .ok (.iload_n 3, 1) := by decide +kernel
theorem dX10_addPoint_89 : decode cX10_addPoint 89 = .ok (.imul, 1) := by decide +kernel
theorem dX10_addPoint_90 : decode cX10_addPoint 90 = .ok (.iadd, 1) := by decide +kernel
theorem dX10_addPoint_91 : decode cX10_addPoint 91 = .ok (.iconst 1, 1) := by decide +kernel
theorem dX10_addPoint_92 : decode cX10_addPoint 92 = .ok (.iadd, 1) := by decide +kernel
theorem dX10_addPoint_93 : decode cX10_addPoint 93 = .ok (.iload_n 2, 1) := by decide +kernel
theorem dX10_addPoint_94 : decode cX10_addPoint 94 = .ok (.iastore, 1) := by decide +kernel
theorem dX10_addPoint_95 : decode cX10_addPoint 95 = .ok (.aload_n 0, 1) := by decide +kernel
theorem dX10_addPoint_96 : decode cX10_addPoint 96 = .ok (.getfield 7, 3) := by decide +kernel
theorem dX10_addPoint_99 : decode cX10_addPoint 99 = .ok (.bipush 62, 2) := by decide +kernel
theorem dX10_addPoint_101 : decode cX10_addPoint 101 = .ok (.dup2, 1) := by decide +kernel
theorem dX10_addPoint_102 : decode cX10_addPoint 102 = .ok (.iaload, 1) := by decide +kernel
theorem dX10_addPoint_103 : decode cX10_addPoint 103 = .ok (.iconst 1, 1) := by decide +kernel
theorem dX10_addPoint_104 : decode cX10_addPoint 104 = .ok (.iadd, 1) := by decide +kernel
theorem dX10_addPoint_105 : decode cX10_addPoint 105 = .ok (.iastore, 1) := by decide +kernel
theorem dX10_addPoint_106 : decode cX10_addPoint 106 = .ok (.iload_n 3, 1) := by decide +kernel
theorem dX10_addPoint_107 : decode cX10_addPoint 107 = .ok (.ireturn, 1) := by decide +kernel
set_option maxRecDepth 100000 in
theorem b_X10_addPoint_0 {E : fxE} (hW : fx_Wt E) (a0 : Nat) (x1 : Int) (x2 : Int) (M : fxM) (Q : Option fxV → fxM → Prop) (hk0 : kd E a0 = 10) (h : (-2147483648 ≤ x1 ∧ x1 < 2147483648) ∧ (((0 : Int) ≤ x1 ∧ x1 ≤ (9999 : Int) → (-2147483648 ≤ x2 ∧ x2 < 2147483648) ∧ (((0 : Int) ≤ x2 ∧ x2 ≤ (99 : Int) → (-2147483648 ≤ (M (rf E a0 0) 62) ∧ (M (rf E a0 0) 62) < 2147483648) ∧ ((¬ (M (rf E a0 0) 62) = (10 : Int) → (((M (rf E a0 0) 62) ≤ (0 : Int) → fx_At E m_X10_addPoint 65 [some (.inr a0), some (.inl x1), some (.inl x2), some (.inl (M (rf E a0 0) 62))] [] M Q) ∧ (¬ (M (rf E a0 0) 62) ≤ (0 : Int) → (0 ≤ ((63 + (2 * (M (rf E a0 0) 62))) - 2) ∧ ((63 + (2 * (M (rf E a0 0) 62))) - 2) < 84) ∧ (-2147483648 ≤ (M (rf E a0 0) (((63 + (2 * (M (rf E a0 0) 62))) - 2).toNat)) ∧ (M (rf E a0 0) (((63 + (2 * (M (rf E a0 0) 62))) - 2).toNat)) < 2147483648) ∧ (((M (rf E a0 0) (((63 + (2 * (M (rf E a0 0) 62))) - 2).toNat)) < x1 → fx_At E m_X10_addPoint 65 [some (.inr a0), some (.inl x1), some (.inl x2), some (.inl (M (rf E a0 0) 62))] [] M Q) ∧ (¬ (M (rf E a0 0) (((63 + (2 * (M (rf E a0 0) 62))) - 2).toNat)) < x1 → Q (some (.inl (-1000004))) M))))) ∧ ((M (rf E a0 0) 62) = (10 : Int) → Q (some (.inl (-1000003))) M))) ∧ (¬ ((0 : Int) ≤ x2 ∧ x2 ≤ (99 : Int)) → Q (some (.inl (-1000002))) M))) ∧ (¬ ((0 : Int) ≤ x1 ∧ x1 ≤ (9999 : Int)) → Q (some (.inl (-1000002))) M))) : fx_At E m_X10_addPoint 0 [some (.inr a0), some (.inl x1), some (.inl x2), none] [] M Q := by
  refine x_iload_n (pc := 0) dX10_addPoint_0 rfl rfl ?_
  refine x_iconst (pc := 1) dX10_addPoint_1 ?_
  refine x_sipush (pc := 2) dX10_addPoint_2 (by decide +kernel) ?_
  obtain ⟨g1, h⟩ := h
  refine x_callS (pc := 5) (z := m_X10_isIn) (as := [.inl x1, .inl 0, .inl 9999]) (rest := []) dX10_addPoint_5 c_RX10_74 (by decide) rfl (Nat.le_of_ble_eq_true rfl) (ct_isIn hW g1 ⟨by decide, by decide⟩ ⟨by decide, by decide⟩) (fun r M9 hr => ?_)
  obtain ⟨hM9, hr⟩ := hr
  rw [hM9]
  clear hM9
  obtain ⟨hc, rfl⟩ | ⟨hc, rfl⟩ := hr
  · replace h := h.1 hc
    show fx_At E m_X10_addPoint 8 [some (.inr a0), some (.inl x1), some (.inl x2), none] [.inl 1] _ Q
    refine x_zeq (pc := 8) 21 dX10_addPoint_8 (by decide) ⟨by decide, by decide⟩ (fun hx => absurd hx (by decide)) (fun _ => ?_)
    refine x_iload_n (pc := 11) dX10_addPoint_11 rfl rfl ?_
    refine x_iconst (pc := 12) dX10_addPoint_12 ?_
    refine x_bipush (pc := 13) dX10_addPoint_13 (by decide +kernel) ?_
    obtain ⟨g3, h⟩ := h
    refine x_callS (pc := 15) (z := m_X10_isIn) (as := [.inl x2, .inl 0, .inl 99]) (rest := []) dX10_addPoint_15 c_RX10_74 (by decide) rfl (Nat.le_of_ble_eq_true rfl) (ct_isIn hW g3 ⟨by decide, by decide⟩ ⟨by decide, by decide⟩) (fun r M9 hr => ?_)
    obtain ⟨hM9, hr⟩ := hr
    rw [hM9]
    clear hM9
    obtain ⟨hc, rfl⟩ | ⟨hc, rfl⟩ := hr
    · replace h := h.1 hc
      show fx_At E m_X10_addPoint 18 [some (.inr a0), some (.inl x1), some (.inl x2), none] [.inl 1] _ Q
      refine x_zne (pc := 18) 24 dX10_addPoint_18 (by decide) ⟨by decide, by decide⟩ (fun _ => ?_) (fun hx => absurd hx (by decide))
      refine x_aload_n (pc := 24) dX10_addPoint_24 rfl rfl ?_
      refine x_getr (pc := 25) dX10_addPoint_25 f_RX10_7 hk0 ?_
      refine x_bipush (pc := 28) dX10_addPoint_28 (by decide +kernel) ?_
      refine x_iald (pc := 30) dX10_addPoint_30 (wk_10_0 hW hk0) (wl_10_0 hW hk0) ⟨by decide, by decide⟩ ?_
      refine x_istore_n (pc := 31) (lv' := [some (.inr a0), some (.inl x1), some (.inl x2), some (.inl (M (rf E a0 0) 62))]) dX10_addPoint_31 rfl (by decide) rfl ?_
      refine x_iload_n (pc := 32) dX10_addPoint_32 rfl rfl ?_
      refine x_bipush (pc := 33) dX10_addPoint_33 (by decide +kernel) ?_
      obtain ⟨g5, h⟩ := h
      refine x_cne (pc := 35) 41 dX10_addPoint_35 (by decide) ⟨g5, ⟨by decide, by decide⟩⟩ (fun hc => ?_) (fun hc => ?_)
      · replace h := h.1 hc
        refine x_iload_n (pc := 41) dX10_addPoint_41 rfl rfl ?_
        refine x_zle (pc := 42) 65 dX10_addPoint_42 (by decide) g5 (fun hc => ?_) (fun hc => ?_)
        · replace h := h.1 hc
          exact h
        · replace h := h.2 hc
          refine x_iload_n (pc := 45) dX10_addPoint_45 rfl rfl ?_
          refine x_aload_n (pc := 46) dX10_addPoint_46 rfl rfl ?_
          refine x_getr (pc := 47) dX10_addPoint_47 f_RX10_7 hk0 ?_
          refine x_bipush (pc := 50) dX10_addPoint_50 (by decide +kernel) ?_
          refine x_iconst (pc := 52) dX10_addPoint_52 ?_
          refine x_iload_n (pc := 53) dX10_addPoint_53 rfl rfl ?_
          refine x_imul (pc := 54) dX10_addPoint_54 ?_
          refine x_iadd (pc := 55) dX10_addPoint_55 ?_
          refine x_iconst (pc := 56) dX10_addPoint_56 ?_
          refine x_isub (pc := 57) dX10_addPoint_57 ?_
          obtain ⟨g6, h⟩ := h
          refine x_iald (pc := 58) dX10_addPoint_58 (wk_10_0 hW hk0) (wl_10_0 hW hk0) g6 ?_
          obtain ⟨g7, h⟩ := h
          refine x_cgt (pc := 59) 65 dX10_addPoint_59 (by decide) ⟨g1, g7⟩ (fun hc => ?_) (fun hc => ?_)
          · replace h := h.1 hc
            exact h
          · replace h := h.2 hc
            refine x_ldc (pc := 62) (n := -1000004) dX10_addPoint_62 k_RX10_98 rfl ?_
            exact x_iret (pc := 64) dX10_addPoint_64 (Or.inl rfl) h
      · replace h := h.2 hc
        refine x_ldc (pc := 38) (n := -1000003) dX10_addPoint_38 k_RX10_89 rfl ?_
        exact x_iret (pc := 40) dX10_addPoint_40 (Or.inl rfl) h
    · replace h := h.2 hc
      show fx_At E m_X10_addPoint 18 [some (.inr a0), some (.inl x1), some (.inl x2), none] [.inl 0] _ Q
      refine x_zne (pc := 18) 24 dX10_addPoint_18 (by decide) ⟨by decide, by decide⟩ (fun hx => absurd hx (by decide)) (fun _ => ?_)
      refine x_ldc (pc := 21) (n := -1000002) dX10_addPoint_21 k_RX10_81 rfl ?_
      exact x_iret (pc := 23) dX10_addPoint_23 (Or.inl rfl) h
  · replace h := h.2 hc
    show fx_At E m_X10_addPoint 8 [some (.inr a0), some (.inl x1), some (.inl x2), none] [.inl 0] _ Q
    refine x_zeq (pc := 8) 21 dX10_addPoint_8 (by decide) ⟨by decide, by decide⟩ (fun _ => ?_) (fun hx => absurd hx (by decide))
    refine x_ldc (pc := 21) (n := -1000002) dX10_addPoint_21 k_RX10_81 rfl ?_
    exact x_iret (pc := 23) dX10_addPoint_23 (Or.inl rfl) h
set_option maxRecDepth 100000 in
theorem b_X10_addPoint_65 {E : fxE} (hW : fx_Wt E) (a0 : Nat) (x1 : Int) (x2 : Int) (x3 : Int) (M : fxM) (Q : Option fxV → fxM → Prop) (hk0 : kd E a0 = 10) (h : ∃ R1 : fxM → Prop, CtV E m_X10_keep [.inr a0] M R1 ∧ ∀ M1 : fxM, R1 M1 → (0 ≤ (63 + (2 * x3)) ∧ (63 + (2 * x3)) < 84) ∧ ∀ M3 : fxM, M3 = mset M1 (rf E a0 0) ((63 + (2 * x3)).toNat) x1 → (0 ≤ ((63 + (2 * x3)) + 1) ∧ ((63 + (2 * x3)) + 1) < 84) ∧ ∀ M5 : fxM, M5 = mset M3 (rf E a0 0) (((63 + (2 * x3)) + 1).toNat) x2 → ∀ M6 : fxM, M6 = mset M5 (rf E a0 0) 62 ((M5 (rf E a0 0) 62) + 1) → Q (some (.inl x3)) M6) : fx_At E m_X10_addPoint 65 [some (.inr a0), some (.inl x1), some (.inl x2), some (.inl x3)] [] M Q := by
  refine x_aload_n (pc := 65) dX10_addPoint_65 rfl rfl ?_
  obtain ⟨R1, hc1, h⟩ := h
  refine x_callV (pc := 66) (z := m_X10_keep) (b := a0) (as := []) (rest := []) dX10_addPoint_66 c_RX10_82 (by decide) hk0 rfl (Nat.le_of_ble_eq_true rfl) hc1 (fun r M1 hr => ?_)
  obtain ⟨rfl, hr⟩ := hr
  replace h := h M1 hr
  show fx_At E m_X10_addPoint 69 [some (.inr a0), some (.inl x1), some (.inl x2), some (.inl x3)] [] M1 Q
  refine x_aload_n (pc := 69) dX10_addPoint_69 rfl rfl ?_
  refine x_getr (pc := 70) dX10_addPoint_70 f_RX10_7 hk0 ?_
  refine x_bipush (pc := 73) dX10_addPoint_73 (by decide +kernel) ?_
  refine x_iconst (pc := 75) dX10_addPoint_75 ?_
  refine x_iload_n (pc := 76) dX10_addPoint_76 rfl rfl ?_
  refine x_imul (pc := 77) dX10_addPoint_77 ?_
  refine x_iadd (pc := 78) dX10_addPoint_78 ?_
  refine x_iload_n (pc := 79) dX10_addPoint_79 rfl rfl ?_
  obtain ⟨g2, h⟩ := h
  refine x_iast (pc := 80) dX10_addPoint_80 (wk_10_0 hW hk0) (wl_10_0 hW hk0) g2 (fun M3 hM3 => ?_)
  replace h := h M3 hM3
  refine x_aload_n (pc := 81) dX10_addPoint_81 rfl rfl ?_
  refine x_getr (pc := 82) dX10_addPoint_82 f_RX10_7 hk0 ?_
  refine x_bipush (pc := 85) dX10_addPoint_85 (by decide +kernel) ?_
  refine x_iconst (pc := 87) dX10_addPoint_87 ?_
  refine x_iload_n (pc := 88) dX10_addPoint_88 rfl rfl ?_
  refine x_imul (pc := 89) dX10_addPoint_89 ?_
  refine x_iadd (pc := 90) dX10_addPoint_90 ?_
  refine x_iconst (pc := 91) dX10_addPoint_91 ?_
  refine x_iadd (pc := 92) dX10_addPoint_92 ?_
  refine x_iload_n (pc := 93) dX10_addPoint_93 rfl rfl ?_
  obtain ⟨g4, h⟩ := h
  refine x_iast (pc := 94) dX10_addPoint_94 (wk_10_0 hW hk0) (wl_10_0 hW hk0) g4 (fun M5 hM5 => ?_)
  replace h := h M5 hM5
  refine x_aload_n (pc := 95) dX10_addPoint_95 rfl rfl ?_
  refine x_getr (pc := 96) dX10_addPoint_96 f_RX10_7 hk0 ?_
  refine x_bipush (pc := 99) dX10_addPoint_99 (by decide +kernel) ?_
  refine x_dup2 (pc := 101) dX10_addPoint_101 ?_
  refine x_iald (pc := 102) dX10_addPoint_102 (wk_10_0 hW hk0) (wl_10_0 hW hk0) ⟨by decide, by decide⟩ ?_
  refine x_iconst (pc := 103) dX10_addPoint_103 ?_
  refine x_iadd (pc := 104) dX10_addPoint_104 ?_
  refine x_iast (pc := 105) dX10_addPoint_105 (wk_10_0 hW hk0) (wl_10_0 hW hk0) ⟨by decide, by decide⟩ (fun M6 hM6 => ?_)
  replace h := h M6 hM6
  refine x_iload_n (pc := 106) dX10_addPoint_106 rfl rfl ?_
  exact x_iret (pc := 107) dX10_addPoint_107 (Or.inl rfl) h
theorem dX10_clearMap_0 : decode cX10_clearMap 0 = .ok (.aload_n 0, 1) := by decide +kernel
theorem dX10_clearMap_1 : decode cX10_clearMap 1 = .ok (.invokevirtual 82, 3) := by decide +kernel
theorem dX10_clearMap_4 : decode cX10_clearMap 4 = .ok (.aload_n 0, 1) := by decide +kernel
theorem dX10_clearMap_5 : decode cX10_clearMap 5 = .ok (.getfield 7, 3) := by decide +kernel
theorem dX10_clearMap_8 : decode cX10_clearMap 8 = .ok (.bipush 62, 2) := by decide +kernel
theorem dX10_clearMap_10 : decode cX10_clearMap 10 = .ok (.iaload, 1) := by decide +kernel
theorem dX10_clearMap_11 : decode cX10_clearMap 11 = .ok (.istore_n 1, 1) := by decide +kernel
theorem dX10_clearMap_12 : decode cX10_clearMap 12 = .ok (.aload_n 0, 1) := by decide +kernel
theorem dX10_clearMap_13 : decode cX10_clearMap 13 = .ok (.getfield 7, 3) := by decide +kernel
theorem dX10_clearMap_16 : decode cX10_clearMap 16 = .ok (.bipush 62, 2) := by decide +kernel
theorem dX10_clearMap_18 : decode cX10_clearMap 18 = .ok (.iconst 0, 1) := by decide +kernel
theorem dX10_clearMap_19 : decode cX10_clearMap 19 = .ok (.iastore, 1) := by decide +kernel
theorem dX10_clearMap_20 : decode cX10_clearMap 20 = .ok (.iload_n 1, 1) := by decide +kernel
theorem dX10_clearMap_21 : decode cX10_clearMap 21 = .ok (.ireturn, 1) := by decide +kernel
set_option maxRecDepth 100000 in
theorem b_X10_clearMap_0 {E : fxE} (hW : fx_Wt E) (a0 : Nat) (M : fxM) (Q : Option fxV → fxM → Prop) (hk0 : kd E a0 = 10) (h : ∃ R1 : fxM → Prop, CtV E m_X10_keep [.inr a0] M R1 ∧ ∀ M1 : fxM, R1 M1 → ∀ M2 : fxM, M2 = mset M1 (rf E a0 0) 62 0 → Q (some (.inl (M1 (rf E a0 0) 62))) M2) : fx_At E m_X10_clearMap 0 [some (.inr a0), none] [] M Q := by
  refine x_aload_n (pc := 0) dX10_clearMap_0 rfl rfl ?_
  obtain ⟨R1, hc1, h⟩ := h
  refine x_callV (pc := 1) (z := m_X10_keep) (b := a0) (as := []) (rest := []) dX10_clearMap_1 c_RX10_82 (by decide) hk0 rfl (Nat.le_of_ble_eq_true rfl) hc1 (fun r M1 hr => ?_)
  obtain ⟨rfl, hr⟩ := hr
  replace h := h M1 hr
  show fx_At E m_X10_clearMap 4 [some (.inr a0), none] [] M1 Q
  refine x_aload_n (pc := 4) dX10_clearMap_4 rfl rfl ?_
  refine x_getr (pc := 5) dX10_clearMap_5 f_RX10_7 hk0 ?_
  refine x_bipush (pc := 8) dX10_clearMap_8 (by decide +kernel) ?_
  refine x_iald (pc := 10) dX10_clearMap_10 (wk_10_0 hW hk0) (wl_10_0 hW hk0) ⟨by decide, by decide⟩ ?_
  refine x_istore_n (pc := 11) (lv' := [some (.inr a0), some (.inl (M1 (rf E a0 0) 62))]) dX10_clearMap_11 rfl (by decide) rfl ?_
  refine x_aload_n (pc := 12) dX10_clearMap_12 rfl rfl ?_
  refine x_getr (pc := 13) dX10_clearMap_13 f_RX10_7 hk0 ?_
  refine x_bipush (pc := 16) dX10_clearMap_16 (by decide +kernel) ?_
  refine x_iconst (pc := 18) dX10_clearMap_18 ?_
  refine x_iast (pc := 19) dX10_clearMap_19 (wk_10_0 hW hk0) (wl_10_0 hW hk0) ⟨by decide, by decide⟩ (fun M2 hM2 => ?_)
  replace h := h M2 hM2
  refine x_iload_n (pc := 20) dX10_clearMap_20 rfl rfl ?_
  exact x_iret (pc := 21) dX10_clearMap_21 (Or.inl rfl) h
theorem dX10_setExcess_0 : decode cX10_setExcess 0 = .ok (.iload_n 1, 1) := by decide +kernel
theorem dX10_setExcess_1 : decode cX10_setExcess 1 = .ok (.iconst 0, 1) := by decide +kernel
theorem dX10_setExcess_2 : decode cX10_setExcess 2 = .ok (.bipush 100, 2) := by decide +kernel
theorem dX10_setExcess_4 : decode cX10_setExcess 4 = .ok (.invokestatic 74, 3) := by decide +kernel
theorem dX10_setExcess_7 : decode cX10_setExcess 7 = .ok (.ifCond .ne 6, 3) := by decide +kernel
theorem dX10_setExcess_10 : decode cX10_setExcess 10 = .ok (.ldc 81, 2) := by decide +kernel
theorem dX10_setExcess_12 : decode cX10_setExcess 12 = .ok (.ireturn, 1) := by decide +kernel
theorem dX10_setExcess_13 : decode cX10_setExcess 13 = .ok (.aload_n 0, 1) := by decide +kernel
theorem dX10_setExcess_14 : decode cX10_setExcess 14 = .ok (.invokevirtual 82, 3) := by decide +kernel
theorem dX10_setExcess_17 : decode cX10_setExcess 17 = .ok (.aload_n 0, 1) := by decide +kernel
theorem dX10_setExcess_18 : decode cX10_setExcess 18 = .ok (.getfield 7, 3) := by decide +kernel
theorem dX10_setExcess_21 : decode cX10_setExcess 21 = .ok (.bipush 83, 2) := by decide +kernel
theorem dX10_setExcess_23 : decode cX10_setExcess 23 = .ok (.iaload, 1) := by decide +kernel
theorem dX10_setExcess_24 : decode cX10_setExcess 24 = .ok (.istore_n 2, 1) := by decide +kernel
theorem dX10_setExcess_25 : decode cX10_setExcess 25 = .ok (.aload_n 0, 1) := by decide +kernel
theorem dX10_setExcess_26 : decode cX10_setExcess 26 = .ok (.getfield 7, 3) := by decide +kernel
theorem dX10_setExcess_29 : decode cX10_setExcess 29 = .ok (.bipush 83, 2) := by decide +kernel
theorem dX10_setExcess_31 : decode cX10_setExcess 31 = .ok (.iload_n 1, 1) := by decide +kernel
theorem dX10_setExcess_32 : decode cX10_setExcess 32 = .ok (.iastore, 1) := by decide +kernel
theorem dX10_setExcess_33 : decode cX10_setExcess 33 = .ok (.iload_n 2, 1) := by decide +kernel
theorem dX10_setExcess_34 : decode cX10_setExcess 34 = .ok (.ireturn, 1) := by decide +kernel
set_option maxRecDepth 100000 in
theorem b_X10_setExcess_0 {E : fxE} (hW : fx_Wt E) (a0 : Nat) (x1 : Int) (M : fxM) (Q : Option fxV → fxM → Prop) (hk0 : kd E a0 = 10) (h : (-2147483648 ≤ x1 ∧ x1 < 2147483648) ∧ (((0 : Int) ≤ x1 ∧ x1 ≤ (100 : Int) → ∃ R3 : fxM → Prop, CtV E m_X10_keep [.inr a0] M R3 ∧ ∀ M3 : fxM, R3 M3 → ∀ M4 : fxM, M4 = mset M3 (rf E a0 0) 83 x1 → Q (some (.inl (M3 (rf E a0 0) 83))) M4) ∧ (¬ ((0 : Int) ≤ x1 ∧ x1 ≤ (100 : Int)) → Q (some (.inl (-1000002))) M))) : fx_At E m_X10_setExcess 0 [some (.inr a0), some (.inl x1), none] [] M Q := by
  refine x_iload_n (pc := 0) dX10_setExcess_0 rfl rfl ?_
  refine x_iconst (pc := 1) dX10_setExcess_1 ?_
  refine x_bipush (pc := 2) dX10_setExcess_2 (by decide +kernel) ?_
  obtain ⟨g1, h⟩ := h
  refine x_callS (pc := 4) (z := m_X10_isIn) (as := [.inl x1, .inl 0, .inl 100]) (rest := []) dX10_setExcess_4 c_RX10_74 (by decide) rfl (Nat.le_of_ble_eq_true rfl) (ct_isIn hW g1 ⟨by decide, by decide⟩ ⟨by decide, by decide⟩) (fun r M9 hr => ?_)
  obtain ⟨hM9, hr⟩ := hr
  rw [hM9]
  clear hM9
  obtain ⟨hc, rfl⟩ | ⟨hc, rfl⟩ := hr
  · replace h := h.1 hc
    show fx_At E m_X10_setExcess 7 [some (.inr a0), some (.inl x1), none] [.inl 1] _ Q
    refine x_zne (pc := 7) 13 dX10_setExcess_7 (by decide) ⟨by decide, by decide⟩ (fun _ => ?_) (fun hx => absurd hx (by decide))
    refine x_aload_n (pc := 13) dX10_setExcess_13 rfl rfl ?_
    obtain ⟨R3, hc3, h⟩ := h
    refine x_callV (pc := 14) (z := m_X10_keep) (b := a0) (as := []) (rest := []) dX10_setExcess_14 c_RX10_82 (by decide) hk0 rfl (Nat.le_of_ble_eq_true rfl) hc3 (fun r M3 hr => ?_)
    obtain ⟨rfl, hr⟩ := hr
    replace h := h M3 hr
    show fx_At E m_X10_setExcess 17 [some (.inr a0), some (.inl x1), none] [] M3 Q
    refine x_aload_n (pc := 17) dX10_setExcess_17 rfl rfl ?_
    refine x_getr (pc := 18) dX10_setExcess_18 f_RX10_7 hk0 ?_
    refine x_bipush (pc := 21) dX10_setExcess_21 (by decide +kernel) ?_
    refine x_iald (pc := 23) dX10_setExcess_23 (wk_10_0 hW hk0) (wl_10_0 hW hk0) ⟨by decide, by decide⟩ ?_
    refine x_istore_n (pc := 24) (lv' := [some (.inr a0), some (.inl x1), some (.inl (M3 (rf E a0 0) 83))]) dX10_setExcess_24 rfl (by decide) rfl ?_
    refine x_aload_n (pc := 25) dX10_setExcess_25 rfl rfl ?_
    refine x_getr (pc := 26) dX10_setExcess_26 f_RX10_7 hk0 ?_
    refine x_bipush (pc := 29) dX10_setExcess_29 (by decide +kernel) ?_
    refine x_iload_n (pc := 31) dX10_setExcess_31 rfl rfl ?_
    refine x_iast (pc := 32) dX10_setExcess_32 (wk_10_0 hW hk0) (wl_10_0 hW hk0) ⟨by decide, by decide⟩ (fun M4 hM4 => ?_)
    replace h := h M4 hM4
    refine x_iload_n (pc := 33) dX10_setExcess_33 rfl rfl ?_
    exact x_iret (pc := 34) dX10_setExcess_34 (Or.inl rfl) h
  · replace h := h.2 hc
    show fx_At E m_X10_setExcess 7 [some (.inr a0), some (.inl x1), none] [.inl 0] _ Q
    refine x_zne (pc := 7) 13 dX10_setExcess_7 (by decide) ⟨by decide, by decide⟩ (fun hx => absurd hx (by decide)) (fun _ => ?_)
    refine x_ldc (pc := 10) (n := -1000002) dX10_setExcess_10 k_RX10_81 rfl ?_
    exact x_iret (pc := 12) dX10_setExcess_12 (Or.inl rfl) h
theorem dX10_reach_0 : decode cX10_reach 0 = .ok (.iconst 0, 1) := by decide +kernel
theorem dX10_reach_1 : decode cX10_reach 1 = .ok (.istore_n 2, 1) := by decide +kernel
theorem dX10_reach_2 : decode cX10_reach 2 = .ok (.iconst 0, 1) := by decide +kernel
theorem dX10_reach_3 : decode cX10_reach 3 = .ok (.istore_n 3, 1) := by decide +kernel
theorem dX10_reach_4 : decode cX10_reach 4 = .ok (.iload_n 3, 1) := by decide +kernel
theorem dX10_reach_5 : decode cX10_reach 5 = .ok (.iload_n 1, 1) := by decide +kernel
theorem dX10_reach_6 : decode cX10_reach 6 = .ok (.if_icmp .ge 67, 3) := by decide +kernel
theorem dX10_reach_9 : decode cX10_reach 9 = .ok (.iload_n 2, 1) := by decide +kernel
theorem dX10_reach_10 : decode cX10_reach 10 = .ok (.aload_n 0, 1) := by decide +kernel
theorem dX10_reach_11 : decode cX10_reach 11 = .ok (.getfield 7, 3) := by decide +kernel
theorem dX10_reach_14 : decode cX10_reach 14 = .ok (.bipush 63, 2) := by decide +kernel
theorem dX10_reach_16 : decode cX10_reach 16 = .ok (.iconst 2, 1) := by decide +kernel
theorem dX10_reach_17 : decode cX10_reach 17 = .ok (.iload_n 3, 1) := by decide +kernel
theorem dX10_reach_18 : decode cX10_reach 18 = .ok (.imul, 1) := by decide +kernel
theorem dX10_reach_19 : decode cX10_reach 19 = .ok (.iadd, 1) := by decide +kernel
theorem dX10_reach_20 : decode cX10_reach 20 = .ok (.iconst 1, 1) := by decide +kernel
theorem dX10_reach_21 : decode cX10_reach 21 = .ok (.iadd, 1) := by decide +kernel
theorem dX10_reach_22 : decode cX10_reach 22 = .ok (.iaload, 1) := by decide +kernel
theorem dX10_reach_23 : decode cX10_reach 23 = .ok (.aload_n 0, 1) := by decide +kernel
theorem dX10_reach_24 : decode cX10_reach 24 = .ok (.getfield 7, 3) := by decide +kernel
theorem dX10_reach_27 : decode cX10_reach 27 = .ok (.bipush 63, 2) := by decide +kernel
theorem dX10_reach_29 : decode cX10_reach 29 = .ok (.iconst 2, 1) := by decide +kernel
theorem dX10_reach_30 : decode cX10_reach 30 = .ok (.iload_n 3, 1) := by decide +kernel
theorem dX10_reach_31 : decode cX10_reach 31 = .ok (.imul, 1) := by decide +kernel
theorem dX10_reach_32 : decode cX10_reach 32 = .ok (.iadd, 1) := by decide +kernel
theorem dX10_reach_33 : decode cX10_reach 33 = .ok (.iconst 2, 1) := by decide +kernel
theorem dX10_reach_34 : decode cX10_reach 34 = .ok (.iadd, 1) := by decide +kernel
theorem dX10_reach_35 : decode cX10_reach 35 = .ok (.iaload, 1) := by decide +kernel
theorem dX10_reach_36 : decode cX10_reach 36 = .ok (.aload_n 0, 1) := by decide +kernel
theorem dX10_reach_37 : decode cX10_reach 37 = .ok (.getfield 7, 3) := by decide +kernel
theorem dX10_reach_40 : decode cX10_reach 40 = .ok (.bipush 63, 2) := by decide +kernel
theorem dX10_reach_42 : decode cX10_reach 42 = .ok (.iconst 2, 1) := by decide +kernel
theorem dX10_reach_43 : decode cX10_reach 43 = .ok (.iload_n 3, 1) := by decide +kernel
theorem dX10_reach_44 : decode cX10_reach 44 = .ok (.imul, 1) := by decide +kernel
theorem dX10_reach_45 : decode cX10_reach 45 = .ok (.iadd, 1) := by decide +kernel
theorem dX10_reach_46 : decode cX10_reach 46 = .ok (.iaload, 1) := by decide +kernel
theorem dX10_reach_47 : decode cX10_reach 47 = .ok (.isub, 1) := by decide +kernel
theorem dX10_reach_48 : decode cX10_reach 48 = .ok (.sipush 1000, 3) := by decide +kernel
theorem dX10_reach_51 : decode cX10_reach 51 = .ok (.aload_n 0, 1) := by decide +kernel
theorem dX10_reach_52 : decode cX10_reach 52 = .ok (.getfield 7, 3) := by decide +kernel
theorem dX10_reach_55 : decode cX10_reach 55 = .ok (.bipush 83, 2) := by decide +kernel
theorem dX10_reach_57 : decode cX10_reach 57 = .ok (.iaload, 1) := by decide +kernel
theorem dX10_reach_58 : decode cX10_reach 58 = .ok (.iadd, 1) := by decide +kernel
theorem dX10_reach_59 : decode cX10_reach 59 = .ok (.imul, 1) := by decide +kernel
theorem dX10_reach_60 : decode cX10_reach 60 = .ok (.sipush 1000, 3) := by decide +kernel
theorem dX10_reach_63 : decode cX10_reach 63 = .ok (.idiv, 1) := by decide +kernel
theorem dX10_reach_64 : decode cX10_reach 64 = .ok (.iadd, 1) := by decide +kernel
theorem dX10_reach_65 : decode cX10_reach 65 = .ok (.iadd, 1) := by decide +kernel
theorem dX10_reach_66 : decode cX10_reach 66 = .ok (.istore_n 2, 1) := by decide +kernel
theorem dX10_reach_67 : decode cX10_reach 67 = .ok (.iinc 3 1, 3) := by decide +kernel
theorem dX10_reach_70 : decode cX10_reach 70 = .ok (.goto (-66), 3) := by decide +kernel
theorem dX10_reach_73 : decode cX10_reach 73 = .ok (.iload_n 2, 1) := by decide +kernel
theorem dX10_reach_74 : decode cX10_reach 74 = .ok (.ireturn, 1) := by decide +kernel
set_option maxRecDepth 100000 in
theorem b_X10_reach_0 {E : fxE} (hW : fx_Wt E) (a0 : Nat) (x1 : Int) (M : fxM) (Q : Option fxV → fxM → Prop) (hk0 : kd E a0 = 10) (h : fx_At E m_X10_reach 4 [some (.inr a0), some (.inl x1), some (.inl 0), some (.inl 0)] [] M Q) : fx_At E m_X10_reach 0 [some (.inr a0), some (.inl x1), none, none] [] M Q := by
  refine x_iconst (pc := 0) dX10_reach_0 ?_
  refine x_istore_n (pc := 1) (lv' := [some (.inr a0), some (.inl x1), some (.inl 0), none]) dX10_reach_1 rfl (by decide) rfl ?_
  refine x_iconst (pc := 2) dX10_reach_2 ?_
  refine x_istore_n (pc := 3) (lv' := [some (.inr a0), some (.inl x1), some (.inl 0), some (.inl 0)]) dX10_reach_3 rfl (by decide) rfl ?_
  exact h
set_option maxRecDepth 100000 in
theorem b_X10_reach_4 {E : fxE} (hW : fx_Wt E) (a0 : Nat) (x1 : Int) (x2 : Int) (x3 : Int) (M : fxM) (Q : Option fxV → fxM → Prop) (hk0 : kd E a0 = 10) (h : (-2147483648 ≤ x3 ∧ x3 < 2147483648) ∧ (-2147483648 ≤ x1 ∧ x1 < 2147483648) ∧ ((x1 ≤ x3 → Q (some (.inl x2)) M) ∧ (¬ x1 ≤ x3 → (0 ≤ ((63 + (2 * x3)) + 1) ∧ ((63 + (2 * x3)) + 1) < 84) ∧ (0 ≤ ((63 + (2 * x3)) + 2) ∧ ((63 + (2 * x3)) + 2) < 84) ∧ (0 ≤ (63 + (2 * x3)) ∧ (63 + (2 * x3)) < 84) ∧ (0 ≤ (((M (rf E a0 0) (((63 + (2 * x3)) + 2).toNat)) - (M (rf E a0 0) ((63 + (2 * x3)).toNat))) * (1000 + (M (rf E a0 0) 83))) ∧ (((M (rf E a0 0) (((63 + (2 * x3)) + 2).toNat)) - (M (rf E a0 0) ((63 + (2 * x3)).toNat))) * (1000 + (M (rf E a0 0) 83))) < 2147483648) ∧ fx_At E m_X10_reach 4 [some (.inr a0), some (.inl x1), some (.inl (x2 + ((M (rf E a0 0) (((63 + (2 * x3)) + 1).toNat)) + ((((M (rf E a0 0) (((63 + (2 * x3)) + 2).toNat)) - (M (rf E a0 0) ((63 + (2 * x3)).toNat))) * (1000 + (M (rf E a0 0) 83))) / 1000)))), some (.inl (x3 + 1))] [] M Q))) : fx_At E m_X10_reach 4 [some (.inr a0), some (.inl x1), some (.inl x2), some (.inl x3)] [] M Q := by
  refine x_iload_n (pc := 4) dX10_reach_4 rfl rfl ?_
  refine x_iload_n (pc := 5) dX10_reach_5 rfl rfl ?_
  obtain ⟨g1, h⟩ := h
  obtain ⟨g2, h⟩ := h
  refine x_cge (pc := 6) 73 dX10_reach_6 (by decide) ⟨g1, g2⟩ (fun hc => ?_) (fun hc => ?_)
  · replace h := h.1 hc
    refine x_iload_n (pc := 73) dX10_reach_73 rfl rfl ?_
    exact x_iret (pc := 74) dX10_reach_74 (Or.inl rfl) h
  · replace h := h.2 hc
    refine x_iload_n (pc := 9) dX10_reach_9 rfl rfl ?_
    refine x_aload_n (pc := 10) dX10_reach_10 rfl rfl ?_
    refine x_getr (pc := 11) dX10_reach_11 f_RX10_7 hk0 ?_
    refine x_bipush (pc := 14) dX10_reach_14 (by decide +kernel) ?_
    refine x_iconst (pc := 16) dX10_reach_16 ?_
    refine x_iload_n (pc := 17) dX10_reach_17 rfl rfl ?_
    refine x_imul (pc := 18) dX10_reach_18 ?_
    refine x_iadd (pc := 19) dX10_reach_19 ?_
    refine x_iconst (pc := 20) dX10_reach_20 ?_
    refine x_iadd (pc := 21) dX10_reach_21 ?_
    obtain ⟨g3, h⟩ := h
    refine x_iald (pc := 22) dX10_reach_22 (wk_10_0 hW hk0) (wl_10_0 hW hk0) g3 ?_
    refine x_aload_n (pc := 23) dX10_reach_23 rfl rfl ?_
    refine x_getr (pc := 24) dX10_reach_24 f_RX10_7 hk0 ?_
    refine x_bipush (pc := 27) dX10_reach_27 (by decide +kernel) ?_
    refine x_iconst (pc := 29) dX10_reach_29 ?_
    refine x_iload_n (pc := 30) dX10_reach_30 rfl rfl ?_
    refine x_imul (pc := 31) dX10_reach_31 ?_
    refine x_iadd (pc := 32) dX10_reach_32 ?_
    refine x_iconst (pc := 33) dX10_reach_33 ?_
    refine x_iadd (pc := 34) dX10_reach_34 ?_
    obtain ⟨g4, h⟩ := h
    refine x_iald (pc := 35) dX10_reach_35 (wk_10_0 hW hk0) (wl_10_0 hW hk0) g4 ?_
    refine x_aload_n (pc := 36) dX10_reach_36 rfl rfl ?_
    refine x_getr (pc := 37) dX10_reach_37 f_RX10_7 hk0 ?_
    refine x_bipush (pc := 40) dX10_reach_40 (by decide +kernel) ?_
    refine x_iconst (pc := 42) dX10_reach_42 ?_
    refine x_iload_n (pc := 43) dX10_reach_43 rfl rfl ?_
    refine x_imul (pc := 44) dX10_reach_44 ?_
    refine x_iadd (pc := 45) dX10_reach_45 ?_
    obtain ⟨g5, h⟩ := h
    refine x_iald (pc := 46) dX10_reach_46 (wk_10_0 hW hk0) (wl_10_0 hW hk0) g5 ?_
    refine x_isub (pc := 47) dX10_reach_47 ?_
    refine x_sipush (pc := 48) dX10_reach_48 (by decide +kernel) ?_
    refine x_aload_n (pc := 51) dX10_reach_51 rfl rfl ?_
    refine x_getr (pc := 52) dX10_reach_52 f_RX10_7 hk0 ?_
    refine x_bipush (pc := 55) dX10_reach_55 (by decide +kernel) ?_
    refine x_iald (pc := 57) dX10_reach_57 (wk_10_0 hW hk0) (wl_10_0 hW hk0) ⟨by decide, by decide⟩ ?_
    refine x_iadd (pc := 58) dX10_reach_58 ?_
    refine x_imul (pc := 59) dX10_reach_59 ?_
    refine x_sipush (pc := 60) dX10_reach_60 (by decide +kernel) ?_
    obtain ⟨g6, h⟩ := h
    refine x_idiv (pc := 63) dX10_reach_63 ⟨g6.1, g6.2, by decide, by decide⟩ ?_
    refine x_iadd (pc := 64) dX10_reach_64 ?_
    refine x_iadd (pc := 65) dX10_reach_65 ?_
    refine x_istore_n (pc := 66) (lv' := [some (.inr a0), some (.inl x1), some (.inl (x2 + ((M (rf E a0 0) (((63 + (2 * x3)) + 1).toNat)) + ((((M (rf E a0 0) (((63 + (2 * x3)) + 2).toNat)) - (M (rf E a0 0) ((63 + (2 * x3)).toNat))) * (1000 + (M (rf E a0 0) 83))) / 1000)))), some (.inl x3)]) dX10_reach_66 rfl (by decide) rfl ?_
    refine x_iinc (pc := 67) (lv' := [some (.inr a0), some (.inl x1), some (.inl (x2 + ((M (rf E a0 0) (((63 + (2 * x3)) + 1).toNat)) + ((((M (rf E a0 0) (((63 + (2 * x3)) + 2).toNat)) - (M (rf E a0 0) ((63 + (2 * x3)).toNat))) * (1000 + (M (rf E a0 0) 83))) / 1000)))), some (.inl (x3 + 1))]) dX10_reach_67 rfl (by decide) rfl ?_
    refine x_goto (pc := 70) 4 dX10_reach_70 (by decide) ?_
    exact h
theorem dX10_point_0 : decode cX10_point 0 = .ok (.iload_n 1, 1) := by decide +kernel
theorem dX10_point_1 : decode cX10_point 1 = .ok (.iconst 0, 1) := by decide +kernel
theorem dX10_point_2 : decode cX10_point 2 = .ok (.aload_n 0, 1) := by decide +kernel
theorem dX10_point_3 : decode cX10_point 3 = .ok (.getfield 7, 3) := by decide +kernel
theorem dX10_point_6 : decode cX10_point 6 = .ok (.bipush 62, 2) := by decide +kernel
theorem dX10_point_8 : decode cX10_point 8 = .ok (.iaload, 1) := by decide +kernel
theorem dX10_point_9 : decode cX10_point 9 = .ok (.iconst 1, 1) := by decide +kernel
theorem dX10_point_10 : decode cX10_point 10 = .ok (.isub, 1) := by decide +kernel
theorem dX10_point_11 : decode cX10_point 11 = .ok (.invokestatic 74, 3) := by decide +kernel
theorem dX10_point_14 : decode cX10_point 14 = .ok (.ifCond .ne 6, 3) := by decide +kernel
theorem dX10_point_17 : decode cX10_point 17 = .ok (.ldc 94, 2) := by decide +kernel
theorem dX10_point_19 : decode cX10_point 19 = .ok (.ireturn, 1) := by decide +kernel
theorem dX10_point_20 : decode cX10_point 20 = .ok (.iload_n 2, 1) := by decide +kernel
theorem dX10_point_21 : decode cX10_point 21 = .ok (.iconst 0, 1) := by decide +kernel
theorem dX10_point_22 : decode cX10_point 22 = .ok (.iconst 2, 1) := by decide +kernel
theorem dX10_point_23 : decode cX10_point 23 = .ok (.invokestatic 74, 3) := by decide +kernel
theorem dX10_point_26 : decode cX10_point 26 = .ok (.ifCond .ne 6, 3) := by decide +kernel
theorem dX10_point_29 : decode cX10_point 29 = .ok (.ldc 81, 2) := by decide +kernel
theorem dX10_point_31 : decode cX10_point 31 = .ok (.ireturn, 1) := by decide +kernel
theorem dX10_point_32 : decode cX10_point 32 = .ok (.iload_n 2, 1) := by decide +kernel
theorem dX10_point_33 : decode cX10_point 33 = .ok (.iconst 2, 1) := by decide +kernel
theorem dX10_point_34 : decode cX10_point 34 = .ok (.if_icmp .ne 11, 3) := by decide +kernel
theorem dX10_point_37 : decode cX10_point 37 = .ok (.aload_n 0, 1) := by decide +kernel
theorem dX10_point_38 : decode cX10_point 38 = .ok (.iload_n 1, 1) := by decide +kernel
theorem dX10_point_39 : decode cX10_point 39 = .ok (.invokevirtual 191, 3) := by decide +kernel
theorem dX10_point_42 : decode cX10_point 42 = .ok (.goto 16, 3) := by decide +kernel
theorem dX10_point_45 : decode cX10_point 45 = .ok (.aload_n 0, 1) := by decide +kernel
theorem dX10_point_46 : decode cX10_point 46 = .ok (.getfield 7, 3) := by decide +kernel
theorem dX10_point_49 : decode cX10_point 49 = .ok (.bipush 63, 2) := by decide +kernel
theorem dX10_point_51 : decode cX10_point 51 = .ok (.iconst 2, 1) := by decide +kernel
theorem dX10_point_52 : decode cX10_point 52 = .ok (.iload_n 1, 1) := by decide +kernel
theorem dX10_point_53 : decode cX10_point 53 = .ok (.imul, 1) := by decide +kernel
theorem dX10_point_54 : decode cX10_point 54 = .ok (.iadd, 1) := by decide +kernel
theorem dX10_point_55 : decode cX10_point 55 = .ok (.iload_n 2, 1) := by decide +kernel
theorem dX10_point_56 : decode cX10_point 56 = .ok (.iadd, 1) := by decide +kernel
theorem dX10_point_57 : decode cX10_point 57 = .ok (.iaload, 1) := by decide +kernel
theorem dX10_point_58 : decode cX10_point 58 = .ok (.ireturn, 1) := by decide +kernel
set_option maxRecDepth 100000 in
theorem b_X10_point_0 {E : fxE} (hW : fx_Wt E) (a0 : Nat) (x1 : Int) (x2 : Int) (M : fxM) (Q : Option fxV → fxM → Prop) (hk0 : kd E a0 = 10) (h : (-2147483648 ≤ x1 ∧ x1 < 2147483648) ∧ (-2147483648 ≤ ((M (rf E a0 0) 62) - 1) ∧ ((M (rf E a0 0) 62) - 1) < 2147483648) ∧ (((0 : Int) ≤ x1 ∧ x1 ≤ ((M (rf E a0 0) 62) - 1) → (-2147483648 ≤ x2 ∧ x2 < 2147483648) ∧ (((0 : Int) ≤ x2 ∧ x2 ≤ (2 : Int) → ((¬ x2 = (2 : Int) → (0 ≤ ((63 + (2 * x1)) + x2) ∧ ((63 + (2 * x1)) + x2) < 84) ∧ Q (some (.inl (M (rf E a0 0) (((63 + (2 * x1)) + x2).toNat)))) M) ∧ (x2 = (2 : Int) → ∃ R7 : Int → fxM → Prop, CtI E m_X10_reach [.inr a0, .inl x1] M R7 ∧ ∀ (v7 : Int) (M7 : fxM), R7 v7 M7 → Q (some (.inl v7)) M7))) ∧ (¬ ((0 : Int) ≤ x2 ∧ x2 ≤ (2 : Int)) → Q (some (.inl (-1000002))) M))) ∧ (¬ ((0 : Int) ≤ x1 ∧ x1 ≤ ((M (rf E a0 0) 62) - 1)) → Q (some (.inl (-1000001))) M))) : fx_At E m_X10_point 0 [some (.inr a0), some (.inl x1), some (.inl x2)] [] M Q := by
  refine x_iload_n (pc := 0) dX10_point_0 rfl rfl ?_
  refine x_iconst (pc := 1) dX10_point_1 ?_
  refine x_aload_n (pc := 2) dX10_point_2 rfl rfl ?_
  refine x_getr (pc := 3) dX10_point_3 f_RX10_7 hk0 ?_
  refine x_bipush (pc := 6) dX10_point_6 (by decide +kernel) ?_
  refine x_iald (pc := 8) dX10_point_8 (wk_10_0 hW hk0) (wl_10_0 hW hk0) ⟨by decide, by decide⟩ ?_
  refine x_iconst (pc := 9) dX10_point_9 ?_
  refine x_isub (pc := 10) dX10_point_10 ?_
  obtain ⟨g1, h⟩ := h
  obtain ⟨g2, h⟩ := h
  refine x_callS (pc := 11) (z := m_X10_isIn) (as := [.inl x1, .inl 0, .inl ((M (rf E a0 0) 62) - 1)]) (rest := []) dX10_point_11 c_RX10_74 (by decide) rfl (Nat.le_of_ble_eq_true rfl) (ct_isIn hW g1 ⟨by decide, by decide⟩ g2) (fun r M9 hr => ?_)
  obtain ⟨hM9, hr⟩ := hr
  rw [hM9]
  clear hM9
  obtain ⟨hc, rfl⟩ | ⟨hc, rfl⟩ := hr
  · replace h := h.1 hc
    show fx_At E m_X10_point 14 [some (.inr a0), some (.inl x1), some (.inl x2)] [.inl 1] _ Q
    refine x_zne (pc := 14) 20 dX10_point_14 (by decide) ⟨by decide, by decide⟩ (fun _ => ?_) (fun hx => absurd hx (by decide))
    refine x_iload_n (pc := 20) dX10_point_20 rfl rfl ?_
    refine x_iconst (pc := 21) dX10_point_21 ?_
    refine x_iconst (pc := 22) dX10_point_22 ?_
    obtain ⟨g4, h⟩ := h
    refine x_callS (pc := 23) (z := m_X10_isIn) (as := [.inl x2, .inl 0, .inl 2]) (rest := []) dX10_point_23 c_RX10_74 (by decide) rfl (Nat.le_of_ble_eq_true rfl) (ct_isIn hW g4 ⟨by decide, by decide⟩ ⟨by decide, by decide⟩) (fun r M9 hr => ?_)
    obtain ⟨hM9, hr⟩ := hr
    rw [hM9]
    clear hM9
    obtain ⟨hc, rfl⟩ | ⟨hc, rfl⟩ := hr
    · replace h := h.1 hc
      show fx_At E m_X10_point 26 [some (.inr a0), some (.inl x1), some (.inl x2)] [.inl 1] _ Q
      refine x_zne (pc := 26) 32 dX10_point_26 (by decide) ⟨by decide, by decide⟩ (fun _ => ?_) (fun hx => absurd hx (by decide))
      refine x_iload_n (pc := 32) dX10_point_32 rfl rfl ?_
      refine x_iconst (pc := 33) dX10_point_33 ?_
      refine x_cne (pc := 34) 45 dX10_point_34 (by decide) ⟨g4, ⟨by decide, by decide⟩⟩ (fun hc => ?_) (fun hc => ?_)
      · replace h := h.1 hc
        refine x_aload_n (pc := 45) dX10_point_45 rfl rfl ?_
        refine x_getr (pc := 46) dX10_point_46 f_RX10_7 hk0 ?_
        refine x_bipush (pc := 49) dX10_point_49 (by decide +kernel) ?_
        refine x_iconst (pc := 51) dX10_point_51 ?_
        refine x_iload_n (pc := 52) dX10_point_52 rfl rfl ?_
        refine x_imul (pc := 53) dX10_point_53 ?_
        refine x_iadd (pc := 54) dX10_point_54 ?_
        refine x_iload_n (pc := 55) dX10_point_55 rfl rfl ?_
        refine x_iadd (pc := 56) dX10_point_56 ?_
        obtain ⟨g6, h⟩ := h
        refine x_iald (pc := 57) dX10_point_57 (wk_10_0 hW hk0) (wl_10_0 hW hk0) g6 ?_
        exact x_iret (pc := 58) dX10_point_58 (Or.inl rfl) h
      · replace h := h.2 hc
        refine x_aload_n (pc := 37) dX10_point_37 rfl rfl ?_
        refine x_iload_n (pc := 38) dX10_point_38 rfl rfl ?_
        obtain ⟨R7, hc7, h⟩ := h
        refine x_callV (pc := 39) (z := m_X10_reach) (b := a0) (as := [.inl x1]) (rest := []) dX10_point_39 c_RX10_191 (by decide) hk0 rfl (Nat.le_of_ble_eq_true rfl) hc7 (fun r M7 hr => ?_)
        obtain ⟨v7, rfl, hr⟩ := hr
        replace h := h v7 M7 hr
        show fx_At E m_X10_point 42 [some (.inr a0), some (.inl x1), some (.inl x2)] [.inl v7] M7 Q
        refine x_goto (pc := 42) 58 dX10_point_42 (by decide) ?_
        exact x_iret (pc := 58) dX10_point_58 (Or.inl rfl) h
    · replace h := h.2 hc
      show fx_At E m_X10_point 26 [some (.inr a0), some (.inl x1), some (.inl x2)] [.inl 0] _ Q
      refine x_zne (pc := 26) 32 dX10_point_26 (by decide) ⟨by decide, by decide⟩ (fun hx => absurd hx (by decide)) (fun _ => ?_)
      refine x_ldc (pc := 29) (n := -1000002) dX10_point_29 k_RX10_81 rfl ?_
      exact x_iret (pc := 31) dX10_point_31 (Or.inl rfl) h
  · replace h := h.2 hc
    show fx_At E m_X10_point 14 [some (.inr a0), some (.inl x1), some (.inl x2)] [.inl 0] _ Q
    refine x_zne (pc := 14) 20 dX10_point_14 (by decide) ⟨by decide, by decide⟩ (fun hx => absurd hx (by decide)) (fun _ => ?_)
    refine x_ldc (pc := 17) (n := -1000001) dX10_point_17 k_RX10_94 rfl ?_
    exact x_iret (pc := 19) dX10_point_19 (Or.inl rfl) h
theorem dX10_onRoute_0 : decode cX10_onRoute 0 = .ok (.iconst 0, 1) := by decide +kernel
theorem dX10_onRoute_1 : decode cX10_onRoute 1 = .ok (.istore_n 2, 1) := by decide +kernel
theorem dX10_onRoute_2 : decode cX10_onRoute 2 = .ok (.iload_n 2, 1) := by decide +kernel
theorem dX10_onRoute_3 : decode cX10_onRoute 3 = .ok (.aload_n 0, 1) := by decide +kernel
theorem dX10_onRoute_4 : decode cX10_onRoute 4 = .ok (.getfield 7, 3) := by decide +kernel
theorem dX10_onRoute_7 : decode cX10_onRoute 7 = .ok (.bipush 62, 2) := by decide +kernel
theorem dX10_onRoute_9 : decode cX10_onRoute 9 = .ok (.iaload, 1) := by decide +kernel
theorem dX10_onRoute_10 : decode cX10_onRoute 10 = .ok (.if_icmp .ge 102, 3) := by decide +kernel
theorem dX10_onRoute_13 : decode cX10_onRoute 13 = .ok (.aload_n 0, 1) := by decide +kernel
theorem dX10_onRoute_14 : decode cX10_onRoute 14 = .ok (.iload_n 2, 1) := by decide +kernel
theorem dX10_onRoute_15 : decode cX10_onRoute 15 = .ok (.invokevirtual 191, 3) := by decide +kernel
theorem dX10_onRoute_18 : decode cX10_onRoute 18 = .ok (.aload_n 0, 1) := by decide +kernel
theorem dX10_onRoute_19 : decode cX10_onRoute 19 = .ok (.getfield 7, 3) := by decide +kernel
theorem dX10_onRoute_22 : decode cX10_onRoute 22 = .ok (.bipush 63, 2) := by decide +kernel
theorem dX10_onRoute_24 : decode cX10_onRoute 24 = .ok (.iconst 2, 1) := by decide +kernel
theorem dX10_onRoute_25 : decode cX10_onRoute 25 = .ok (.iload_n 2, 1) := by decide +kernel
theorem dX10_onRoute_26 : decode cX10_onRoute 26 = .ok (.imul, 1) := by decide +kernel
theorem dX10_onRoute_27 : decode cX10_onRoute 27 = .ok (.iadd, 1) := by decide +kernel
theorem dX10_onRoute_28 : decode cX10_onRoute 28 = .ok (.iconst 1, 1) := by decide +kernel
theorem dX10_onRoute_29 : decode cX10_onRoute 29 = .ok (.iadd, 1) := by decide +kernel
theorem dX10_onRoute_30 : decode cX10_onRoute 30 = .ok (.iaload, 1) := by decide +kernel
theorem dX10_onRoute_31 : decode cX10_onRoute 31 = .ok (.iadd, 1) := by decide +kernel
theorem dX10_onRoute_32 : decode cX10_onRoute 32 = .ok (.istore_n 3, 1) := by decide +kernel
theorem dX10_onRoute_33 : decode cX10_onRoute 33 = .ok (.iload_n 1, 1) := by decide +kernel
theorem dX10_onRoute_34 : decode cX10_onRoute 34 = .ok (.iload_n 3, 1) := by decide +kernel
theorem dX10_onRoute_35 : decode cX10_onRoute 35 = .ok (.if_icmp .gt 15, 3) := by decide +kernel
theorem dX10_onRoute_38 : decode cX10_onRoute 38 = .ok (.aload_n 0, 1) := by decide +kernel
theorem dX10_onRoute_39 : decode cX10_onRoute 39 = .ok (.getfield 7, 3) := by decide +kernel
theorem dX10_onRoute_42 : decode cX10_onRoute 42 = .ok (.bipush 63, 2) := by decide +kernel
theorem dX10_onRoute_44 : decode cX10_onRoute 44 = .ok (.iconst 2, 1) := by decide +kernel
theorem dX10_onRoute_45 : decode cX10_onRoute 45 = .ok (.iload_n 2, 1) := by decide +kernel
theorem dX10_onRoute_46 : decode cX10_onRoute 46 = .ok (.imul, 1) := by decide +kernel
theorem dX10_onRoute_47 : decode cX10_onRoute 47 = .ok (.iadd, 1) := by decide +kernel
theorem dX10_onRoute_48 : decode cX10_onRoute 48 = .ok (.iaload, 1) := by decide +kernel
theorem dX10_onRoute_49 : decode cX10_onRoute 49 = .ok (.ireturn, 1) := by decide +kernel
theorem dX10_onRoute_50 : decode cX10_onRoute 50 = .ok (.iload_n 2, 1) := by decide +kernel
theorem dX10_onRoute_51 : decode cX10_onRoute 51 = .ok (.iconst 1, 1) := by decide +kernel
theorem dX10_onRoute_52 : decode cX10_onRoute 52 = .ok (.iadd, 1) := by decide +kernel
theorem dX10_onRoute_53 : decode cX10_onRoute 53 = .ok (.aload_n 0, 1) := by decide +kernel
theorem dX10_onRoute_54 : decode cX10_onRoute 54 = .ok (.getfield 7, 3) := by decide +kernel
theorem dX10_onRoute_57 : decode cX10_onRoute 57 = .ok (.bipush 62, 2) := by decide +kernel
theorem dX10_onRoute_59 : decode cX10_onRoute 59 = .ok (.iaload, 1) := by decide +kernel
theorem dX10_onRoute_60 : decode cX10_onRoute 60 = .ok (.if_icmp .ge 46, 3) := by decide +kernel
theorem dX10_onRoute_63 : decode cX10_onRoute 63 = .ok (.iload_n 1, 1) := by decide +kernel
theorem dX10_onRoute_64 : decode cX10_onRoute 64 = .ok (.aload_n 0, 1) := by decide +kernel
theorem dX10_onRoute_65 : decode cX10_onRoute 65 = .ok (.iload_n 2, 1) := by decide +kernel
theorem dX10_onRoute_66 : decode cX10_onRoute 66 = .ok (.iconst 1, 1) := by decide +kernel
theorem dX10_onRoute_67 : decode cX10_onRoute 67 = .ok (.iadd, 1) := by decide +kernel
theorem dX10_onRoute_68 : decode cX10_onRoute 68 = .ok (.invokevirtual 191, 3) := by decide +kernel
theorem dX10_onRoute_71 : decode cX10_onRoute 71 = .ok (.if_icmp .ge 35, 3) := by decide +kernel
theorem dX10_onRoute_74 : decode cX10_onRoute 74 = .ok (.aload_n 0, 1) := by decide +kernel
theorem dX10_onRoute_75 : decode cX10_onRoute 75 = .ok (.getfield 7, 3) := by decide +kernel
theorem dX10_onRoute_78 : decode cX10_onRoute 78 = .ok (.bipush 63, 2) := by decide +kernel
theorem dX10_onRoute_80 : decode cX10_onRoute 80 = .ok (.iconst 2, 1) := by decide +kernel
theorem dX10_onRoute_81 : decode cX10_onRoute 81 = .ok (.iload_n 2, 1) := by decide +kernel
theorem dX10_onRoute_82 : decode cX10_onRoute 82 = .ok (.imul, 1) := by decide +kernel
theorem dX10_onRoute_83 : decode cX10_onRoute 83 = .ok (.iadd, 1) := by decide +kernel
theorem dX10_onRoute_84 : decode cX10_onRoute 84 = .ok (.iaload, 1) := by decide +kernel
theorem dX10_onRoute_85 : decode cX10_onRoute 85 = .ok (.iload_n 1, 1) := by decide +kernel
theorem dX10_onRoute_86 : decode cX10_onRoute 86 = .ok (.iload_n 3, 1) := by decide +kernel
theorem dX10_onRoute_87 : decode cX10_onRoute 87 = .ok (.isub, 1) := by decide +kernel
theorem dX10_onRoute_88 : decode cX10_onRoute 88 = .ok (.sipush 1000, 3) := by decide +kernel
theorem dX10_onRoute_91 : decode cX10_onRoute 91 = .ok (.imul, 1) := by decide +kernel
theorem dX10_onRoute_92 : decode cX10_onRoute 92 = .ok (.sipush 1000, 3) := by decide +kernel
theorem dX10_onRoute_95 : decode cX10_onRoute 95 = .ok (.aload_n 0, 1) := by decide +kernel
theorem dX10_onRoute_96 : decode cX10_onRoute 96 = .ok (.getfield 7, 3) := by decide +kernel
theorem dX10_onRoute_99 : decode cX10_onRoute 99 = .ok (.bipush 83, 2) := by decide +kernel
theorem dX10_onRoute_101 : decode cX10_onRoute 101 = .ok (.iaload, 1) := by decide +kernel
theorem dX10_onRoute_102 : decode cX10_onRoute 102 = .ok (.iadd, 1) := by decide +kernel
theorem dX10_onRoute_103 : decode cX10_onRoute 103 = .ok (.idiv, 1) := by decide +kernel
theorem dX10_onRoute_104 : decode cX10_onRoute 104 = .ok (.iadd, 1) := by decide +kernel
theorem dX10_onRoute_105 : decode cX10_onRoute 105 = .ok (.ireturn, 1) := by decide +kernel
theorem dX10_onRoute_106 : decode cX10_onRoute 106 = .ok (.iinc 2 1, 3) := by decide +kernel
theorem dX10_onRoute_109 : decode cX10_onRoute 109 = .ok (.goto (-107), 3) := by decide +kernel
theorem dX10_onRoute_112 : decode cX10_onRoute 112 = .ok (.ldc 23, 2) := by decide +kernel
theorem dX10_onRoute_114 : decode cX10_onRoute 114 = .ok (.ireturn, 1) := by decide +kernel
set_option maxRecDepth 100000 in
theorem b_X10_onRoute_0 {E : fxE} (hW : fx_Wt E) (a0 : Nat) (x1 : Int) (M : fxM) (Q : Option fxV → fxM → Prop) (hk0 : kd E a0 = 10) (h : fx_At E m_X10_onRoute 2 [some (.inr a0), some (.inl x1), some (.inl 0), none] [] M Q) : fx_At E m_X10_onRoute 0 [some (.inr a0), some (.inl x1), none, none] [] M Q := by
  refine x_iconst (pc := 0) dX10_onRoute_0 ?_
  refine x_istore_n (pc := 1) (lv' := [some (.inr a0), some (.inl x1), some (.inl 0), none]) dX10_onRoute_1 rfl (by decide) rfl ?_
  exact h
set_option maxRecDepth 100000 in
theorem b_X10_onRoute_2 {E : fxE} (hW : fx_Wt E) (a0 : Nat) (x1 : Int) (x2 : Int) (M : fxM) (Q : Option fxV → fxM → Prop) (hk0 : kd E a0 = 10) (h : (-2147483648 ≤ x2 ∧ x2 < 2147483648) ∧ (-2147483648 ≤ (M (rf E a0 0) 62) ∧ (M (rf E a0 0) 62) < 2147483648) ∧ (((M (rf E a0 0) 62) ≤ x2 → Q (some (.inl (-1000005))) M) ∧ (¬ (M (rf E a0 0) 62) ≤ x2 → ∃ R3 : Int → fxM → Prop, CtI E m_X10_reach [.inr a0, .inl x2] M R3 ∧ ∀ (v3 : Int) (M3 : fxM), R3 v3 M3 → (0 ≤ ((63 + (2 * x2)) + 1) ∧ ((63 + (2 * x2)) + 1) < 84) ∧ (-2147483648 ≤ x1 ∧ x1 < 2147483648) ∧ (-2147483648 ≤ (v3 + (M3 (rf E a0 0) (((63 + (2 * x2)) + 1).toNat))) ∧ (v3 + (M3 (rf E a0 0) (((63 + (2 * x2)) + 1).toNat))) < 2147483648) ∧ (((v3 + (M3 (rf E a0 0) (((63 + (2 * x2)) + 1).toNat))) < x1 → (-2147483648 ≤ (x2 + 1) ∧ (x2 + 1) < 2147483648) ∧ (-2147483648 ≤ (M3 (rf E a0 0) 62) ∧ (M3 (rf E a0 0) 62) < 2147483648) ∧ (((M3 (rf E a0 0) 62) ≤ (x2 + 1) → fx_At E m_X10_onRoute 2 [some (.inr a0), some (.inl x1), some (.inl (x2 + 1)), none] [] M3 Q) ∧ (¬ (M3 (rf E a0 0) 62) ≤ (x2 + 1) → ∃ R9 : Int → fxM → Prop, CtI E m_X10_reach [.inr a0, .inl (x2 + 1)] M3 R9 ∧ ∀ (v9 : Int) (M9 : fxM), R9 v9 M9 → (-2147483648 ≤ v9 ∧ v9 < 2147483648) ∧ ((v9 ≤ x1 → fx_At E m_X10_onRoute 2 [some (.inr a0), some (.inl x1), some (.inl (x2 + 1)), none] [] M9 Q) ∧ (¬ v9 ≤ x1 → (0 ≤ (63 + (2 * x2)) ∧ (63 + (2 * x2)) < 84) ∧ (0 ≤ ((x1 - (v3 + (M3 (rf E a0 0) (((63 + (2 * x2)) + 1).toNat)))) * 1000) ∧ ((x1 - (v3 + (M3 (rf E a0 0) (((63 + (2 * x2)) + 1).toNat)))) * 1000) < 2147483648 ∧ (0 : Int) < 1000 + (M9 (rf E a0 0) 83) ∧ 1000 + (M9 (rf E a0 0) 83) < 2147483648) ∧ Q (some (.inl ((M9 (rf E a0 0) ((63 + (2 * x2)).toNat)) + (((x1 - (v3 + (M3 (rf E a0 0) (((63 + (2 * x2)) + 1).toNat)))) * 1000) / (1000 + (M9 (rf E a0 0) 83)))))) M9))))) ∧ (¬ (v3 + (M3 (rf E a0 0) (((63 + (2 * x2)) + 1).toNat))) < x1 → (0 ≤ (63 + (2 * x2)) ∧ (63 + (2 * x2)) < 84) ∧ Q (some (.inl (M3 (rf E a0 0) ((63 + (2 * x2)).toNat)))) M3))))) : fx_At E m_X10_onRoute 2 [some (.inr a0), some (.inl x1), some (.inl x2), none] [] M Q := by
  refine x_iload_n (pc := 2) dX10_onRoute_2 rfl rfl ?_
  refine x_aload_n (pc := 3) dX10_onRoute_3 rfl rfl ?_
  refine x_getr (pc := 4) dX10_onRoute_4 f_RX10_7 hk0 ?_
  refine x_bipush (pc := 7) dX10_onRoute_7 (by decide +kernel) ?_
  refine x_iald (pc := 9) dX10_onRoute_9 (wk_10_0 hW hk0) (wl_10_0 hW hk0) ⟨by decide, by decide⟩ ?_
  obtain ⟨g1, h⟩ := h
  obtain ⟨g2, h⟩ := h
  refine x_cge (pc := 10) 112 dX10_onRoute_10 (by decide) ⟨g1, g2⟩ (fun hc => ?_) (fun hc => ?_)
  · replace h := h.1 hc
    refine x_ldc (pc := 112) (n := -1000005) dX10_onRoute_112 k_RX10_23 rfl ?_
    exact x_iret (pc := 114) dX10_onRoute_114 (Or.inl rfl) h
  · replace h := h.2 hc
    refine x_aload_n (pc := 13) dX10_onRoute_13 rfl rfl ?_
    refine x_iload_n (pc := 14) dX10_onRoute_14 rfl rfl ?_
    obtain ⟨R3, hc3, h⟩ := h
    refine x_callV (pc := 15) (z := m_X10_reach) (b := a0) (as := [.inl x2]) (rest := []) dX10_onRoute_15 c_RX10_191 (by decide) hk0 rfl (Nat.le_of_ble_eq_true rfl) hc3 (fun r M3 hr => ?_)
    obtain ⟨v3, rfl, hr⟩ := hr
    replace h := h v3 M3 hr
    show fx_At E m_X10_onRoute 18 [some (.inr a0), some (.inl x1), some (.inl x2), none] [.inl v3] M3 Q
    refine x_aload_n (pc := 18) dX10_onRoute_18 rfl rfl ?_
    refine x_getr (pc := 19) dX10_onRoute_19 f_RX10_7 hk0 ?_
    refine x_bipush (pc := 22) dX10_onRoute_22 (by decide +kernel) ?_
    refine x_iconst (pc := 24) dX10_onRoute_24 ?_
    refine x_iload_n (pc := 25) dX10_onRoute_25 rfl rfl ?_
    refine x_imul (pc := 26) dX10_onRoute_26 ?_
    refine x_iadd (pc := 27) dX10_onRoute_27 ?_
    refine x_iconst (pc := 28) dX10_onRoute_28 ?_
    refine x_iadd (pc := 29) dX10_onRoute_29 ?_
    obtain ⟨g4, h⟩ := h
    refine x_iald (pc := 30) dX10_onRoute_30 (wk_10_0 hW hk0) (wl_10_0 hW hk0) g4 ?_
    refine x_iadd (pc := 31) dX10_onRoute_31 ?_
    refine x_istore_n (pc := 32) (lv' := [some (.inr a0), some (.inl x1), some (.inl x2), some (.inl (v3 + (M3 (rf E a0 0) (((63 + (2 * x2)) + 1).toNat))))]) dX10_onRoute_32 rfl (by decide) rfl ?_
    refine x_iload_n (pc := 33) dX10_onRoute_33 rfl rfl ?_
    refine x_iload_n (pc := 34) dX10_onRoute_34 rfl rfl ?_
    obtain ⟨g5, h⟩ := h
    obtain ⟨g6, h⟩ := h
    refine x_cgt (pc := 35) 50 dX10_onRoute_35 (by decide) ⟨g5, g6⟩ (fun hc => ?_) (fun hc => ?_)
    · replace h := h.1 hc
      refine x_iload_n (pc := 50) dX10_onRoute_50 rfl rfl ?_
      refine x_iconst (pc := 51) dX10_onRoute_51 ?_
      refine x_iadd (pc := 52) dX10_onRoute_52 ?_
      refine x_aload_n (pc := 53) dX10_onRoute_53 rfl rfl ?_
      refine x_getr (pc := 54) dX10_onRoute_54 f_RX10_7 hk0 ?_
      refine x_bipush (pc := 57) dX10_onRoute_57 (by decide +kernel) ?_
      refine x_iald (pc := 59) dX10_onRoute_59 (wk_10_0 hW hk0) (wl_10_0 hW hk0) ⟨by decide, by decide⟩ ?_
      obtain ⟨g7, h⟩ := h
      obtain ⟨g8, h⟩ := h
      refine x_cge (pc := 60) 106 dX10_onRoute_60 (by decide) ⟨g7, g8⟩ (fun hc => ?_) (fun hc => ?_)
      · replace h := h.1 hc
        refine x_iinc (pc := 106) (lv' := [some (.inr a0), some (.inl x1), some (.inl (x2 + 1)), some (.inl (v3 + (M3 (rf E a0 0) (((63 + (2 * x2)) + 1).toNat))))]) dX10_onRoute_106 rfl (by decide) rfl ?_
        refine x_goto (pc := 109) 2 dX10_onRoute_109 (by decide) ?_
        refine x_weak (lv := [some (.inr a0), some (.inl x1), some (.inl (x2 + 1)), none]) (by simp [lvle]) ?_
        exact h
      · replace h := h.2 hc
        refine x_iload_n (pc := 63) dX10_onRoute_63 rfl rfl ?_
        refine x_aload_n (pc := 64) dX10_onRoute_64 rfl rfl ?_
        refine x_iload_n (pc := 65) dX10_onRoute_65 rfl rfl ?_
        refine x_iconst (pc := 66) dX10_onRoute_66 ?_
        refine x_iadd (pc := 67) dX10_onRoute_67 ?_
        obtain ⟨R9, hc9, h⟩ := h
        refine x_callV (pc := 68) (z := m_X10_reach) (b := a0) (as := [.inl (x2 + 1)]) (rest := [.inl x1]) dX10_onRoute_68 c_RX10_191 (by decide) hk0 rfl (Nat.le_of_ble_eq_true rfl) hc9 (fun r M9 hr => ?_)
        obtain ⟨v9, rfl, hr⟩ := hr
        replace h := h v9 M9 hr
        show fx_At E m_X10_onRoute 71 [some (.inr a0), some (.inl x1), some (.inl x2), some (.inl (v3 + (M3 (rf E a0 0) (((63 + (2 * x2)) + 1).toNat))))] [.inl v9, .inl x1] M9 Q
        obtain ⟨g10, h⟩ := h
        refine x_cge (pc := 71) 106 dX10_onRoute_71 (by decide) ⟨g5, g10⟩ (fun hc => ?_) (fun hc => ?_)
        · replace h := h.1 hc
          refine x_iinc (pc := 106) (lv' := [some (.inr a0), some (.inl x1), some (.inl (x2 + 1)), some (.inl (v3 + (M3 (rf E a0 0) (((63 + (2 * x2)) + 1).toNat))))]) dX10_onRoute_106 rfl (by decide) rfl ?_
          refine x_goto (pc := 109) 2 dX10_onRoute_109 (by decide) ?_
          refine x_weak (lv := [some (.inr a0), some (.inl x1), some (.inl (x2 + 1)), none]) (by simp [lvle]) ?_
          exact h
        · replace h := h.2 hc
          refine x_aload_n (pc := 74) dX10_onRoute_74 rfl rfl ?_
          refine x_getr (pc := 75) dX10_onRoute_75 f_RX10_7 hk0 ?_
          refine x_bipush (pc := 78) dX10_onRoute_78 (by decide +kernel) ?_
          refine x_iconst (pc := 80) dX10_onRoute_80 ?_
          refine x_iload_n (pc := 81) dX10_onRoute_81 rfl rfl ?_
          refine x_imul (pc := 82) dX10_onRoute_82 ?_
          refine x_iadd (pc := 83) dX10_onRoute_83 ?_
          obtain ⟨g11, h⟩ := h
          refine x_iald (pc := 84) dX10_onRoute_84 (wk_10_0 hW hk0) (wl_10_0 hW hk0) g11 ?_
          refine x_iload_n (pc := 85) dX10_onRoute_85 rfl rfl ?_
          refine x_iload_n (pc := 86) dX10_onRoute_86 rfl rfl ?_
          refine x_isub (pc := 87) dX10_onRoute_87 ?_
          refine x_sipush (pc := 88) dX10_onRoute_88 (by decide +kernel) ?_
          refine x_imul (pc := 91) dX10_onRoute_91 ?_
          refine x_sipush (pc := 92) dX10_onRoute_92 (by decide +kernel) ?_
          refine x_aload_n (pc := 95) dX10_onRoute_95 rfl rfl ?_
          refine x_getr (pc := 96) dX10_onRoute_96 f_RX10_7 hk0 ?_
          refine x_bipush (pc := 99) dX10_onRoute_99 (by decide +kernel) ?_
          refine x_iald (pc := 101) dX10_onRoute_101 (wk_10_0 hW hk0) (wl_10_0 hW hk0) ⟨by decide, by decide⟩ ?_
          refine x_iadd (pc := 102) dX10_onRoute_102 ?_
          obtain ⟨g12, h⟩ := h
          refine x_idiv (pc := 103) dX10_onRoute_103 g12 ?_
          refine x_iadd (pc := 104) dX10_onRoute_104 ?_
          exact x_iret (pc := 105) dX10_onRoute_105 (Or.inl rfl) h
    · replace h := h.2 hc
      refine x_aload_n (pc := 38) dX10_onRoute_38 rfl rfl ?_
      refine x_getr (pc := 39) dX10_onRoute_39 f_RX10_7 hk0 ?_
      refine x_bipush (pc := 42) dX10_onRoute_42 (by decide +kernel) ?_
      refine x_iconst (pc := 44) dX10_onRoute_44 ?_
      refine x_iload_n (pc := 45) dX10_onRoute_45 rfl rfl ?_
      refine x_imul (pc := 46) dX10_onRoute_46 ?_
      refine x_iadd (pc := 47) dX10_onRoute_47 ?_
      obtain ⟨g13, h⟩ := h
      refine x_iald (pc := 48) dX10_onRoute_48 (wk_10_0 hW hk0) (wl_10_0 hW hk0) g13 ?_
      exact x_iret (pc := 49) dX10_onRoute_49 (Or.inl rfl) h
theorem dX10_toRoute_0 : decode cX10_toRoute 0 = .ok (.iload_n 1, 1) := by decide +kernel
theorem dX10_toRoute_1 : decode cX10_toRoute 1 = .ok (.ifCond .ge 8, 3) := by decide +kernel
theorem dX10_toRoute_4 : decode cX10_toRoute 4 = .ok (.ldc 81, 2) := by decide +kernel
theorem dX10_toRoute_6 : decode cX10_toRoute 6 = .ok (.goto 8, 3) := by decide +kernel
theorem dX10_toRoute_9 : decode cX10_toRoute 9 = .ok (.aload_n 0, 1) := by decide +kernel
theorem dX10_toRoute_10 : decode cX10_toRoute 10 = .ok (.iload_n 1, 1) := by decide +kernel
theorem dX10_toRoute_11 : decode cX10_toRoute 11 = .ok (.invokevirtual 194, 3) := by decide +kernel
theorem dX10_toRoute_14 : decode cX10_toRoute 14 = .ok (.ireturn, 1) := by decide +kernel
set_option maxRecDepth 100000 in
theorem b_X10_toRoute_0 {E : fxE} (hW : fx_Wt E) (a0 : Nat) (x1 : Int) (M : fxM) (Q : Option fxV → fxM → Prop) (hk0 : kd E a0 = 10) (h : (-2147483648 ≤ x1 ∧ x1 < 2147483648) ∧ (((0 : Int) ≤ x1 → ∃ R2 : Int → fxM → Prop, CtI E m_X10_onRoute [.inr a0, .inl x1] M R2 ∧ ∀ (v2 : Int) (M2 : fxM), R2 v2 M2 → Q (some (.inl v2)) M2) ∧ (¬ (0 : Int) ≤ x1 → Q (some (.inl (-1000002))) M))) : fx_At E m_X10_toRoute 0 [some (.inr a0), some (.inl x1)] [] M Q := by
  refine x_iload_n (pc := 0) dX10_toRoute_0 rfl rfl ?_
  obtain ⟨g1, h⟩ := h
  refine x_zge (pc := 1) 9 dX10_toRoute_1 (by decide) g1 (fun hc => ?_) (fun hc => ?_)
  · replace h := h.1 hc
    refine x_aload_n (pc := 9) dX10_toRoute_9 rfl rfl ?_
    refine x_iload_n (pc := 10) dX10_toRoute_10 rfl rfl ?_
    obtain ⟨R2, hc2, h⟩ := h
    refine x_callV (pc := 11) (z := m_X10_onRoute) (b := a0) (as := [.inl x1]) (rest := []) dX10_toRoute_11 c_RX10_194 (by decide) hk0 rfl (Nat.le_of_ble_eq_true rfl) hc2 (fun r M2 hr => ?_)
    obtain ⟨v2, rfl, hr⟩ := hr
    replace h := h v2 M2 hr
    show fx_At E m_X10_toRoute 14 [some (.inr a0), some (.inl x1)] [.inl v2] M2 Q
    exact x_iret (pc := 14) dX10_toRoute_14 (Or.inl rfl) h
  · replace h := h.2 hc
    refine x_ldc (pc := 4) (n := -1000002) dX10_toRoute_4 k_RX10_81 rfl ?_
    refine x_goto (pc := 6) 14 dX10_toRoute_6 (by decide) ?_
    exact x_iret (pc := 14) dX10_toRoute_14 (Or.inl rfl) h
theorem dX10_pointBefore_0 : decode cX10_pointBefore 0 = .ok (.iload_n 1, 1) := by decide +kernel
theorem dX10_pointBefore_1 : decode cX10_pointBefore 1 = .ok (.ifCond .ge 6, 3) := by decide +kernel
theorem dX10_pointBefore_4 : decode cX10_pointBefore 4 = .ok (.ldc 81, 2) := by decide +kernel
theorem dX10_pointBefore_6 : decode cX10_pointBefore 6 = .ok (.ireturn, 1) := by decide +kernel
theorem dX10_pointBefore_7 : decode cX10_pointBefore 7 = .ok (.ldc 23, 2) := by decide +kernel
theorem dX10_pointBefore_9 : decode cX10_pointBefore 9 = .ok (.istore_n 2, 1) := by decide +kernel
theorem dX10_pointBefore_10 : decode cX10_pointBefore 10 = .ok (.iconst 0, 1) := by decide +kernel
theorem dX10_pointBefore_11 : decode cX10_pointBefore 11 = .ok (.istore_n 3, 1) := by decide +kernel
theorem dX10_pointBefore_12 : decode cX10_pointBefore 12 = .ok (.iload_n 3, 1) := by decide +kernel
theorem dX10_pointBefore_13 : decode cX10_pointBefore 13 = .ok (.aload_n 0, 1) := by decide +kernel
theorem dX10_pointBefore_14 : decode cX10_pointBefore 14 = .ok (.getfield 7, 3) := by decide +kernel
theorem dX10_pointBefore_17 : decode cX10_pointBefore 17 = .ok (.bipush 62, 2) := by decide +kernel
theorem dX10_pointBefore_19 : decode cX10_pointBefore 19 = .ok (.iaload, 1) := by decide +kernel
theorem dX10_pointBefore_20 : decode cX10_pointBefore 20 = .ok (.if_icmp .ge 24, 3) := by decide +kernel
theorem dX10_pointBefore_23 : decode cX10_pointBefore 23 = .ok (.aload_n 0, 1) := by decide +kernel
theorem dX10_pointBefore_24 : decode cX10_pointBefore 24 = .ok (.iload_n 3, 1) := by decide +kernel
theorem dX10_pointBefore_25 : decode cX10_pointBefore 25 = .ok (.invokevirtual 191, 3) := by decide +kernel
theorem dX10_pointBefore_28 : decode cX10_pointBefore 28 = .ok (.iload_n 1, 1) := by decide +kernel
theorem dX10_pointBefore_29 : decode cX10_pointBefore 29 = .ok (.if_icmp .gt 7, 3) := by decide +kernel
theorem dX10_pointBefore_32 : decode cX10_pointBefore 32 = .ok (.iload_n 3, 1) := by decide +kernel
theorem dX10_pointBefore_33 : decode cX10_pointBefore 33 = .ok (.goto 4, 3) := by decide +kernel
theorem dX10_pointBefore_36 : decode cX10_pointBefore 36 = .ok (.iload_n 2, 1) := by decide +kernel
theorem dX10_pointBefore_37 : decode cX10_pointBefore 37 = .ok (.istore_n 2, 1) := by decide +kernel
theorem dX10_pointBefore_38 : decode cX10_pointBefore 38 = .ok (.iinc 3 1, 3) := by decide +kernel
theorem dX10_pointBefore_41 : decode cX10_pointBefore 41 = .ok (.goto (-29), 3) := by decide +kernel
theorem dX10_pointBefore_44 : decode cX10_pointBefore 44 = .ok (.iload_n 2, 1) := by decide +kernel
theorem dX10_pointBefore_45 : decode cX10_pointBefore 45 = .ok (.ireturn, 1) := by decide +kernel
set_option maxRecDepth 100000 in
theorem b_X10_pointBefore_0 {E : fxE} (hW : fx_Wt E) (a0 : Nat) (x1 : Int) (M : fxM) (Q : Option fxV → fxM → Prop) (hk0 : kd E a0 = 10) (h : (-2147483648 ≤ x1 ∧ x1 < 2147483648) ∧ (((0 : Int) ≤ x1 → fx_At E m_X10_pointBefore 12 [some (.inr a0), some (.inl x1), some (.inl (-1000005)), some (.inl 0)] [] M Q) ∧ (¬ (0 : Int) ≤ x1 → Q (some (.inl (-1000002))) M))) : fx_At E m_X10_pointBefore 0 [some (.inr a0), some (.inl x1), none, none] [] M Q := by
  refine x_iload_n (pc := 0) dX10_pointBefore_0 rfl rfl ?_
  obtain ⟨g1, h⟩ := h
  refine x_zge (pc := 1) 7 dX10_pointBefore_1 (by decide) g1 (fun hc => ?_) (fun hc => ?_)
  · replace h := h.1 hc
    refine x_ldc (pc := 7) (n := -1000005) dX10_pointBefore_7 k_RX10_23 rfl ?_
    refine x_istore_n (pc := 9) (lv' := [some (.inr a0), some (.inl x1), some (.inl (-1000005)), none]) dX10_pointBefore_9 rfl (by decide) rfl ?_
    refine x_iconst (pc := 10) dX10_pointBefore_10 ?_
    refine x_istore_n (pc := 11) (lv' := [some (.inr a0), some (.inl x1), some (.inl (-1000005)), some (.inl 0)]) dX10_pointBefore_11 rfl (by decide) rfl ?_
    exact h
  · replace h := h.2 hc
    refine x_ldc (pc := 4) (n := -1000002) dX10_pointBefore_4 k_RX10_81 rfl ?_
    exact x_iret (pc := 6) dX10_pointBefore_6 (Or.inl rfl) h
set_option maxRecDepth 100000 in
theorem b_X10_pointBefore_12 {E : fxE} (hW : fx_Wt E) (a0 : Nat) (x1 : Int) (x2 : Int) (x3 : Int) (M : fxM) (Q : Option fxV → fxM → Prop) (hk0 : kd E a0 = 10) (h : (-2147483648 ≤ x3 ∧ x3 < 2147483648) ∧ (-2147483648 ≤ (M (rf E a0 0) 62) ∧ (M (rf E a0 0) 62) < 2147483648) ∧ (((M (rf E a0 0) 62) ≤ x3 → Q (some (.inl x2)) M) ∧ (¬ (M (rf E a0 0) 62) ≤ x3 → ∃ R3 : Int → fxM → Prop, CtI E m_X10_reach [.inr a0, .inl x3] M R3 ∧ ∀ (v3 : Int) (M3 : fxM), R3 v3 M3 → (-2147483648 ≤ v3 ∧ v3 < 2147483648) ∧ (-2147483648 ≤ x1 ∧ x1 < 2147483648) ∧ ((x1 < v3 → fx_At E m_X10_pointBefore 12 [some (.inr a0), some (.inl x1), some (.inl x2), some (.inl (x3 + 1))] [] M3 Q) ∧ (¬ x1 < v3 → fx_At E m_X10_pointBefore 12 [some (.inr a0), some (.inl x1), some (.inl x3), some (.inl (x3 + 1))] [] M3 Q))))) : fx_At E m_X10_pointBefore 12 [some (.inr a0), some (.inl x1), some (.inl x2), some (.inl x3)] [] M Q := by
  refine x_iload_n (pc := 12) dX10_pointBefore_12 rfl rfl ?_
  refine x_aload_n (pc := 13) dX10_pointBefore_13 rfl rfl ?_
  refine x_getr (pc := 14) dX10_pointBefore_14 f_RX10_7 hk0 ?_
  refine x_bipush (pc := 17) dX10_pointBefore_17 (by decide +kernel) ?_
  refine x_iald (pc := 19) dX10_pointBefore_19 (wk_10_0 hW hk0) (wl_10_0 hW hk0) ⟨by decide, by decide⟩ ?_
  obtain ⟨g1, h⟩ := h
  obtain ⟨g2, h⟩ := h
  refine x_cge (pc := 20) 44 dX10_pointBefore_20 (by decide) ⟨g1, g2⟩ (fun hc => ?_) (fun hc => ?_)
  · replace h := h.1 hc
    refine x_iload_n (pc := 44) dX10_pointBefore_44 rfl rfl ?_
    exact x_iret (pc := 45) dX10_pointBefore_45 (Or.inl rfl) h
  · replace h := h.2 hc
    refine x_aload_n (pc := 23) dX10_pointBefore_23 rfl rfl ?_
    refine x_iload_n (pc := 24) dX10_pointBefore_24 rfl rfl ?_
    obtain ⟨R3, hc3, h⟩ := h
    refine x_callV (pc := 25) (z := m_X10_reach) (b := a0) (as := [.inl x3]) (rest := []) dX10_pointBefore_25 c_RX10_191 (by decide) hk0 rfl (Nat.le_of_ble_eq_true rfl) hc3 (fun r M3 hr => ?_)
    obtain ⟨v3, rfl, hr⟩ := hr
    replace h := h v3 M3 hr
    show fx_At E m_X10_pointBefore 28 [some (.inr a0), some (.inl x1), some (.inl x2), some (.inl x3)] [.inl v3] M3 Q
    refine x_iload_n (pc := 28) dX10_pointBefore_28 rfl rfl ?_
    obtain ⟨g4, h⟩ := h
    obtain ⟨g5, h⟩ := h
    refine x_cgt (pc := 29) 36 dX10_pointBefore_29 (by decide) ⟨g4, g5⟩ (fun hc => ?_) (fun hc => ?_)
    · replace h := h.1 hc
      refine x_iload_n (pc := 36) dX10_pointBefore_36 rfl rfl ?_
      refine x_istore_n (pc := 37) (lv' := [some (.inr a0), some (.inl x1), some (.inl x2), some (.inl x3)]) dX10_pointBefore_37 rfl (by decide) rfl ?_
      refine x_iinc (pc := 38) (lv' := [some (.inr a0), some (.inl x1), some (.inl x2), some (.inl (x3 + 1))]) dX10_pointBefore_38 rfl (by decide) rfl ?_
      refine x_goto (pc := 41) 12 dX10_pointBefore_41 (by decide) ?_
      exact h
    · replace h := h.2 hc
      refine x_iload_n (pc := 32) dX10_pointBefore_32 rfl rfl ?_
      refine x_goto (pc := 33) 37 dX10_pointBefore_33 (by decide) ?_
      refine x_istore_n (pc := 37) (lv' := [some (.inr a0), some (.inl x1), some (.inl x3), some (.inl x3)]) dX10_pointBefore_37 rfl (by decide) rfl ?_
      refine x_iinc (pc := 38) (lv' := [some (.inr a0), some (.inl x1), some (.inl x3), some (.inl (x3 + 1))]) dX10_pointBefore_38 rfl (by decide) rfl ?_
      refine x_goto (pc := 41) 12 dX10_pointBefore_41 (by decide) ?_
      exact h
theorem dX10_placed_0 : decode cX10_placed 0 = .ok (.iload_n 1, 1) := by decide +kernel
theorem dX10_placed_1 : decode cX10_placed 1 = .ok (.iconst 1, 1) := by decide +kernel
theorem dX10_placed_2 : decode cX10_placed 2 = .ok (.bipush 9, 2) := by decide +kernel
theorem dX10_placed_4 : decode cX10_placed 4 = .ok (.invokestatic 74, 3) := by decide +kernel
theorem dX10_placed_7 : decode cX10_placed 7 = .ok (.ifCond .eq 12, 3) := by decide +kernel
theorem dX10_placed_10 : decode cX10_placed 10 = .ok (.iload_n 2, 1) := by decide +kernel
theorem dX10_placed_11 : decode cX10_placed 11 = .ok (.iconst 0, 1) := by decide +kernel
theorem dX10_placed_12 : decode cX10_placed 12 = .ok (.iconst 2, 1) := by decide +kernel
theorem dX10_placed_13 : decode cX10_placed 13 = .ok (.invokestatic 74, 3) := by decide +kernel
theorem dX10_placed_16 : decode cX10_placed 16 = .ok (.ifCond .ne 6, 3) := by decide +kernel
theorem dX10_placed_19 : decode cX10_placed 19 = .ok (.ldc 81, 2) := by decide +kernel
theorem dX10_placed_21 : decode cX10_placed 21 = .ok (.ireturn, 1) := by decide +kernel
theorem dX10_placed_22 : decode cX10_placed 22 = .ok (.aload_n 0, 1) := by decide +kernel
theorem dX10_placed_23 : decode cX10_placed 23 = .ok (.iconst 0, 1) := by decide +kernel
theorem dX10_placed_24 : decode cX10_placed 24 = .ok (.iload_n 1, 1) := by decide +kernel
theorem dX10_placed_25 : decode cX10_placed 25 = .ok (.invokevirtual 182, 3) := by decide +kernel
theorem dX10_placed_28 : decode cX10_placed 28 = .ok (.istore_n 3, 1) := by decide +kernel
theorem dX10_placed_29 : decode cX10_placed 29 = .ok (.iload_n 3, 1) := by decide +kernel
theorem dX10_placed_30 : decode cX10_placed 30 = .ok (.ldc 23, 2) := by decide +kernel
theorem dX10_placed_32 : decode cX10_placed 32 = .ok (.if_icmp .ne 8, 3) := by decide +kernel
theorem dX10_placed_35 : decode cX10_placed 35 = .ok (.ldc 23, 2) := by decide +kernel
theorem dX10_placed_37 : decode cX10_placed 37 = .ok (.goto 8, 3) := by decide +kernel
theorem dX10_placed_40 : decode cX10_placed 40 = .ok (.aload_n 0, 1) := by decide +kernel
theorem dX10_placed_41 : decode cX10_placed 41 = .ok (.iload_n 3, 1) := by decide +kernel
theorem dX10_placed_42 : decode cX10_placed 42 = .ok (.invokevirtual 194, 3) := by decide +kernel
theorem dX10_placed_45 : decode cX10_placed 45 = .ok (.istore 4, 2) := by decide +kernel
theorem dX10_placed_47 : decode cX10_placed 47 = .ok (.aload_n 0, 1) := by decide +kernel
theorem dX10_placed_48 : decode cX10_placed 48 = .ok (.iconst 1, 1) := by decide +kernel
theorem dX10_placed_49 : decode cX10_placed 49 = .ok (.iload_n 1, 1) := by decide +kernel
theorem dX10_placed_50 : decode cX10_placed 50 = .ok (.invokevirtual 182, 3) := by decide +kernel
theorem dX10_placed_53 : decode cX10_placed 53 = .ok (.istore_n 3, 1) := by decide +kernel
theorem dX10_placed_54 : decode cX10_placed 54 = .ok (.iload_n 3, 1) := by decide +kernel
theorem dX10_placed_55 : decode cX10_placed 55 = .ok (.ldc 23, 2) := by decide +kernel
theorem dX10_placed_57 : decode cX10_placed 57 = .ok (.if_icmp .eq 11, 3) := by decide +kernel
theorem dX10_placed_60 : decode cX10_placed 60 = .ok (.iload_n 3, 1) := by decide +kernel
theorem dX10_placed_61 : decode cX10_placed 61 = .ok (.aload_n 0, 1) := by decide +kernel
theorem dX10_placed_62 : decode cX10_placed 62 = .ok (.invokevirtual 85, 3) := by decide +kernel
theorem dX10_placed_65 : decode cX10_placed 65 = .ok (.if_icmp .le 8, 3) := by decide +kernel
theorem dX10_placed_68 : decode cX10_placed 68 = .ok (.ldc 23, 2) := by decide +kernel
theorem dX10_placed_70 : decode cX10_placed 70 = .ok (.goto 13, 3) := by decide +kernel
theorem dX10_placed_73 : decode cX10_placed 73 = .ok (.aload_n 0, 1) := by decide +kernel
theorem dX10_placed_74 : decode cX10_placed 74 = .ok (.aload_n 0, 1) := by decide +kernel
theorem dX10_placed_75 : decode cX10_placed 75 = .ok (.invokevirtual 85, 3) := by decide +kernel
theorem dX10_placed_78 : decode cX10_placed 78 = .ok (.iload_n 3, 1) := by decide +kernel
theorem dX10_placed_79 : decode cX10_placed 79 = .ok (.isub, 1) := by decide +kernel
theorem dX10_placed_80 : decode cX10_placed 80 = .ok (.invokevirtual 194, 3) := by decide +kernel
theorem dX10_placed_83 : decode cX10_placed 83 = .ok (.istore 5, 2) := by decide +kernel
theorem dX10_placed_85 : decode cX10_placed 85 = .ok (.iload_n 2, 1) := by decide +kernel
theorem dX10_placed_86 : decode cX10_placed 86 = .ok (.iconst 2, 1) := by decide +kernel
theorem dX10_placed_87 : decode cX10_placed 87 = .ok (.if_icmp .ge 15, 3) := by decide +kernel
theorem dX10_placed_90 : decode cX10_placed 90 = .ok (.iload_n 2, 1) := by decide +kernel
theorem dX10_placed_91 : decode cX10_placed 91 = .ok (.ifCond .ne 8, 3) := by decide +kernel
theorem dX10_placed_94 : decode cX10_placed 94 = .ok (.iload 4, 2) := by decide +kernel
theorem dX10_placed_96 : decode cX10_placed 96 = .ok (.goto 5, 3) := by decide +kernel
theorem dX10_placed_99 : decode cX10_placed 99 = .ok (.iload 5, 2) := by decide +kernel
theorem dX10_placed_101 : decode cX10_placed 101 = .ok (.ireturn, 1) := by decide +kernel
theorem dX10_placed_102 : decode cX10_placed 102 = .ok (.iload 4, 2) := by decide +kernel
theorem dX10_placed_104 : decode cX10_placed 104 = .ok (.ldc 23, 2) := by decide +kernel
theorem dX10_placed_106 : decode cX10_placed 106 = .ok (.if_icmp .eq 10, 3) := by decide +kernel
theorem dX10_placed_109 : decode cX10_placed 109 = .ok (.iload 5, 2) := by decide +kernel
theorem dX10_placed_111 : decode cX10_placed 111 = .ok (.ldc 23, 2) := by decide +kernel
theorem dX10_placed_113 : decode cX10_placed 113 = .ok (.if_icmp .ne 8, 3) := by decide +kernel
theorem dX10_placed_116 : decode cX10_placed 116 = .ok (.ldc 23, 2) := by decide +kernel
theorem dX10_placed_118 : decode cX10_placed 118 = .ok (.goto 8, 3) := by decide +kernel
theorem dX10_placed_121 : decode cX10_placed 121 = .ok (.iload 5, 2) := by decide +kernel
theorem dX10_placed_123 : decode cX10_placed 123 = .ok (.iload 4, 2) := by decide +kernel
theorem dX10_placed_125 : decode cX10_placed 125 = .ok (.isub, 1) := by decide +kernel
theorem dX10_placed_126 : decode cX10_placed 126 = .ok (.ireturn, 1) := by decide +kernel
set_option maxRecDepth 100000 in
theorem b_X10_placed_0 {E : fxE} (hW : fx_Wt E) (a0 : Nat) (x1 : Int) (x2 : Int) (M : fxM) (Q : Option fxV → fxM → Prop) (hk0 : kd E a0 = 10) (h : (-2147483648 ≤ x1 ∧ x1 < 2147483648) ∧ (((1 : Int) ≤ x1 ∧ x1 ≤ (9 : Int) → (-2147483648 ≤ x2 ∧ x2 < 2147483648) ∧ (((0 : Int) ≤ x2 ∧ x2 ≤ (2 : Int) → ∃ R5 : Int → fxM → Prop, CtI E m_X10_firstEnd [.inr a0, .inl 0, .inl x1] M R5 ∧ ∀ (v5 : Int) (M5 : fxM), R5 v5 M5 → (-2147483648 ≤ v5 ∧ v5 < 2147483648) ∧ ((¬ v5 = (-1000005 : Int) → ∃ R7 : Int → fxM → Prop, CtI E m_X10_onRoute [.inr a0, .inl v5] M5 R7 ∧ ∀ (v7 : Int) (M7 : fxM), R7 v7 M7 → fx_At E m_X10_placed 45 [some (.inr a0), some (.inl x1), some (.inl x2), some (.inl v5), none, none] [.inl v7] M7 Q) ∧ (v5 = (-1000005 : Int) → fx_At E m_X10_placed 45 [some (.inr a0), some (.inl x1), some (.inl x2), some (.inl v5), none, none] [.inl (-1000005)] M5 Q))) ∧ (¬ ((0 : Int) ≤ x2 ∧ x2 ≤ (2 : Int)) → Q (some (.inl (-1000002))) M))) ∧ (¬ ((1 : Int) ≤ x1 ∧ x1 ≤ (9 : Int)) → Q (some (.inl (-1000002))) M))) : fx_At E m_X10_placed 0 [some (.inr a0), some (.inl x1), some (.inl x2), none, none, none] [] M Q := by
  refine x_iload_n (pc := 0) dX10_placed_0 rfl rfl ?_
  refine x_iconst (pc := 1) dX10_placed_1 ?_
  refine x_bipush (pc := 2) dX10_placed_2 (by decide +kernel) ?_
  obtain ⟨g1, h⟩ := h
  refine x_callS (pc := 4) (z := m_X10_isIn) (as := [.inl x1, .inl 1, .inl 9]) (rest := []) dX10_placed_4 c_RX10_74 (by decide) rfl (Nat.le_of_ble_eq_true rfl) (ct_isIn hW g1 ⟨by decide, by decide⟩ ⟨by decide, by decide⟩) (fun r M9 hr => ?_)
  obtain ⟨hM9, hr⟩ := hr
  rw [hM9]
  clear hM9
  obtain ⟨hc, rfl⟩ | ⟨hc, rfl⟩ := hr
  · replace h := h.1 hc
    show fx_At E m_X10_placed 7 [some (.inr a0), some (.inl x1), some (.inl x2), none, none, none] [.inl 1] _ Q
    refine x_zeq (pc := 7) 19 dX10_placed_7 (by decide) ⟨by decide, by decide⟩ (fun hx => absurd hx (by decide)) (fun _ => ?_)
    refine x_iload_n (pc := 10) dX10_placed_10 rfl rfl ?_
    refine x_iconst (pc := 11) dX10_placed_11 ?_
    refine x_iconst (pc := 12) dX10_placed_12 ?_
    obtain ⟨g3, h⟩ := h
    refine x_callS (pc := 13) (z := m_X10_isIn) (as := [.inl x2, .inl 0, .inl 2]) (rest := []) dX10_placed_13 c_RX10_74 (by decide) rfl (Nat.le_of_ble_eq_true rfl) (ct_isIn hW g3 ⟨by decide, by decide⟩ ⟨by decide, by decide⟩) (fun r M9 hr => ?_)
    obtain ⟨hM9, hr⟩ := hr
    rw [hM9]
    clear hM9
    obtain ⟨hc, rfl⟩ | ⟨hc, rfl⟩ := hr
    · replace h := h.1 hc
      show fx_At E m_X10_placed 16 [some (.inr a0), some (.inl x1), some (.inl x2), none, none, none] [.inl 1] _ Q
      refine x_zne (pc := 16) 22 dX10_placed_16 (by decide) ⟨by decide, by decide⟩ (fun _ => ?_) (fun hx => absurd hx (by decide))
      refine x_aload_n (pc := 22) dX10_placed_22 rfl rfl ?_
      refine x_iconst (pc := 23) dX10_placed_23 ?_
      refine x_iload_n (pc := 24) dX10_placed_24 rfl rfl ?_
      obtain ⟨R5, hc5, h⟩ := h
      refine x_callV (pc := 25) (z := m_X10_firstEnd) (b := a0) (as := [.inl 0, .inl x1]) (rest := []) dX10_placed_25 c_RX10_182 (by decide) hk0 rfl (Nat.le_of_ble_eq_true rfl) hc5 (fun r M5 hr => ?_)
      obtain ⟨v5, rfl, hr⟩ := hr
      replace h := h v5 M5 hr
      show fx_At E m_X10_placed 28 [some (.inr a0), some (.inl x1), some (.inl x2), none, none, none] [.inl v5] M5 Q
      refine x_istore_n (pc := 28) (lv' := [some (.inr a0), some (.inl x1), some (.inl x2), some (.inl v5), none, none]) dX10_placed_28 rfl (by decide) rfl ?_
      refine x_iload_n (pc := 29) dX10_placed_29 rfl rfl ?_
      refine x_ldc (pc := 30) (n := -1000005) dX10_placed_30 k_RX10_23 rfl ?_
      obtain ⟨g6, h⟩ := h
      refine x_cne (pc := 32) 40 dX10_placed_32 (by decide) ⟨g6, ⟨by decide, by decide⟩⟩ (fun hc => ?_) (fun hc => ?_)
      · replace h := h.1 hc
        refine x_aload_n (pc := 40) dX10_placed_40 rfl rfl ?_
        refine x_iload_n (pc := 41) dX10_placed_41 rfl rfl ?_
        obtain ⟨R7, hc7, h⟩ := h
        refine x_callV (pc := 42) (z := m_X10_onRoute) (b := a0) (as := [.inl v5]) (rest := []) dX10_placed_42 c_RX10_194 (by decide) hk0 rfl (Nat.le_of_ble_eq_true rfl) hc7 (fun r M7 hr => ?_)
        obtain ⟨v7, rfl, hr⟩ := hr
        replace h := h v7 M7 hr
        show fx_At E m_X10_placed 45 [some (.inr a0), some (.inl x1), some (.inl x2), some (.inl v5), none, none] [.inl v7] M7 Q
        exact h
      · replace h := h.2 hc
        refine x_ldc (pc := 35) (n := -1000005) dX10_placed_35 k_RX10_23 rfl ?_
        refine x_goto (pc := 37) 45 dX10_placed_37 (by decide) ?_
        exact h
    · replace h := h.2 hc
      show fx_At E m_X10_placed 16 [some (.inr a0), some (.inl x1), some (.inl x2), none, none, none] [.inl 0] _ Q
      refine x_zne (pc := 16) 22 dX10_placed_16 (by decide) ⟨by decide, by decide⟩ (fun hx => absurd hx (by decide)) (fun _ => ?_)
      refine x_ldc (pc := 19) (n := -1000002) dX10_placed_19 k_RX10_81 rfl ?_
      exact x_iret (pc := 21) dX10_placed_21 (Or.inl rfl) h
  · replace h := h.2 hc
    show fx_At E m_X10_placed 7 [some (.inr a0), some (.inl x1), some (.inl x2), none, none, none] [.inl 0] _ Q
    refine x_zeq (pc := 7) 19 dX10_placed_7 (by decide) ⟨by decide, by decide⟩ (fun _ => ?_) (fun hx => absurd hx (by decide))
    refine x_ldc (pc := 19) (n := -1000002) dX10_placed_19 k_RX10_81 rfl ?_
    exact x_iret (pc := 21) dX10_placed_21 (Or.inl rfl) h
set_option maxRecDepth 100000 in
theorem b_X10_placed_45 {E : fxE} (hW : fx_Wt E) (a0 : Nat) (x1 : Int) (x2 : Int) (x3 : Int) (s0 : Int) (M : fxM) (Q : Option fxV → fxM → Prop) (hk0 : kd E a0 = 10) (h : ∃ R1 : Int → fxM → Prop, CtI E m_X10_firstEnd [.inr a0, .inl 1, .inl x1] M R1 ∧ ∀ (v1 : Int) (M1 : fxM), R1 v1 M1 → (-2147483648 ≤ v1 ∧ v1 < 2147483648) ∧ ((v1 = (-1000005 : Int) → fx_At E m_X10_placed 83 [some (.inr a0), some (.inl x1), some (.inl x2), some (.inl v1), some (.inl s0), none] [.inl (-1000005)] M1 Q) ∧ (¬ v1 = (-1000005 : Int) → (0 ≤ M1 (rf E a0 0) 0 ∧ M1 (rf E a0 0) 0 ≤ 8) ∧ (-2147483648 ≤ (wsum (M1 (rf E a0 0)) (M1 (rf E a0 0) 0).toNat) ∧ (wsum (M1 (rf E a0 0)) (M1 (rf E a0 0) 0).toNat) < 2147483648) ∧ ((v1 ≤ (wsum (M1 (rf E a0 0)) (M1 (rf E a0 0) 0).toNat) → ∃ R5 : Int → fxM → Prop, CtI E m_X10_onRoute [.inr a0, .inl ((wsum (M1 (rf E a0 0)) (M1 (rf E a0 0) 0).toNat) - v1)] M1 R5 ∧ ∀ (v5 : Int) (M5 : fxM), R5 v5 M5 → fx_At E m_X10_placed 83 [some (.inr a0), some (.inl x1), some (.inl x2), some (.inl v1), some (.inl s0), none] [.inl v5] M5 Q) ∧ (¬ v1 ≤ (wsum (M1 (rf E a0 0)) (M1 (rf E a0 0) 0).toNat) → fx_At E m_X10_placed 83 [some (.inr a0), some (.inl x1), some (.inl x2), some (.inl v1), some (.inl s0), none] [.inl (-1000005)] M1 Q))))) : fx_At E m_X10_placed 45 [some (.inr a0), some (.inl x1), some (.inl x2), some (.inl x3), none, none] [.inl s0] M Q := by
  refine x_istore (pc := 45) (lv' := [some (.inr a0), some (.inl x1), some (.inl x2), some (.inl x3), some (.inl s0), none]) dX10_placed_45 (by decide) rfl ?_
  refine x_aload_n (pc := 47) dX10_placed_47 rfl rfl ?_
  refine x_iconst (pc := 48) dX10_placed_48 ?_
  refine x_iload_n (pc := 49) dX10_placed_49 rfl rfl ?_
  obtain ⟨R1, hc1, h⟩ := h
  refine x_callV (pc := 50) (z := m_X10_firstEnd) (b := a0) (as := [.inl 1, .inl x1]) (rest := []) dX10_placed_50 c_RX10_182 (by decide) hk0 rfl (Nat.le_of_ble_eq_true rfl) hc1 (fun r M1 hr => ?_)
  obtain ⟨v1, rfl, hr⟩ := hr
  replace h := h v1 M1 hr
  show fx_At E m_X10_placed 53 [some (.inr a0), some (.inl x1), some (.inl x2), some (.inl x3), some (.inl s0), none] [.inl v1] M1 Q
  refine x_istore_n (pc := 53) (lv' := [some (.inr a0), some (.inl x1), some (.inl x2), some (.inl v1), some (.inl s0), none]) dX10_placed_53 rfl (by decide) rfl ?_
  refine x_iload_n (pc := 54) dX10_placed_54 rfl rfl ?_
  refine x_ldc (pc := 55) (n := -1000005) dX10_placed_55 k_RX10_23 rfl ?_
  obtain ⟨g2, h⟩ := h
  refine x_ceq (pc := 57) 68 dX10_placed_57 (by decide) ⟨g2, ⟨by decide, by decide⟩⟩ (fun hc => ?_) (fun hc => ?_)
  · replace h := h.1 hc
    refine x_ldc (pc := 68) (n := -1000005) dX10_placed_68 k_RX10_23 rfl ?_
    refine x_goto (pc := 70) 83 dX10_placed_70 (by decide) ?_
    exact h
  · replace h := h.2 hc
    refine x_iload_n (pc := 60) dX10_placed_60 rfl rfl ?_
    refine x_aload_n (pc := 61) dX10_placed_61 rfl rfl ?_
    obtain ⟨g3, h⟩ := h
    refine x_callV (pc := 62) (z := m_X10_whole) (b := a0) (as := []) (rest := [.inl v1]) dX10_placed_62 c_RX10_85 (by decide) hk0 rfl (Nat.le_of_ble_eq_true rfl) (ct_X10_whole hW hk0 g3) (fun r M9 hr => ?_)
    obtain ⟨hM9, hr⟩ := hr
    rw [hM9, hr]
    clear hM9 hr
    show fx_At E m_X10_placed 65 [some (.inr a0), some (.inl x1), some (.inl x2), some (.inl v1), some (.inl s0), none] [.inl (wsum (M1 (rf E a0 0)) (M1 (rf E a0 0) 0).toNat), .inl v1] _ Q
    obtain ⟨g4, h⟩ := h
    refine x_cle (pc := 65) 73 dX10_placed_65 (by decide) ⟨g2, g4⟩ (fun hc => ?_) (fun hc => ?_)
    · replace h := h.1 hc
      refine x_aload_n (pc := 73) dX10_placed_73 rfl rfl ?_
      refine x_aload_n (pc := 74) dX10_placed_74 rfl rfl ?_
      refine x_callV (pc := 75) (z := m_X10_whole) (b := a0) (as := []) (rest := [.inr a0]) dX10_placed_75 c_RX10_85 (by decide) hk0 rfl (Nat.le_of_ble_eq_true rfl) (ct_X10_whole hW hk0 g3) (fun r M9 hr => ?_)
      obtain ⟨hM9, hr⟩ := hr
      rw [hM9, hr]
      clear hM9 hr
      show fx_At E m_X10_placed 78 [some (.inr a0), some (.inl x1), some (.inl x2), some (.inl v1), some (.inl s0), none] [.inl (wsum (M1 (rf E a0 0)) (M1 (rf E a0 0) 0).toNat), .inr a0] _ Q
      refine x_iload_n (pc := 78) dX10_placed_78 rfl rfl ?_
      refine x_isub (pc := 79) dX10_placed_79 ?_
      obtain ⟨R5, hc5, h⟩ := h
      refine x_callV (pc := 80) (z := m_X10_onRoute) (b := a0) (as := [.inl ((wsum (M1 (rf E a0 0)) (M1 (rf E a0 0) 0).toNat) - v1)]) (rest := []) dX10_placed_80 c_RX10_194 (by decide) hk0 rfl (Nat.le_of_ble_eq_true rfl) hc5 (fun r M5 hr => ?_)
      obtain ⟨v5, rfl, hr⟩ := hr
      replace h := h v5 M5 hr
      show fx_At E m_X10_placed 83 [some (.inr a0), some (.inl x1), some (.inl x2), some (.inl v1), some (.inl s0), none] [.inl v5] M5 Q
      exact h
    · replace h := h.2 hc
      refine x_ldc (pc := 68) (n := -1000005) dX10_placed_68 k_RX10_23 rfl ?_
      refine x_goto (pc := 70) 83 dX10_placed_70 (by decide) ?_
      exact h
set_option maxRecDepth 100000 in
theorem b_X10_placed_83 {E : fxE} (hW : fx_Wt E) (a0 : Nat) (x1 : Int) (x2 : Int) (x3 : Int) (x4 : Int) (s0 : Int) (M : fxM) (Q : Option fxV → fxM → Prop) (hk0 : kd E a0 = 10) (h : (-2147483648 ≤ x2 ∧ x2 < 2147483648) ∧ (((2 : Int) ≤ x2 → (-2147483648 ≤ x4 ∧ x4 < 2147483648) ∧ ((x4 = (-1000005 : Int) → Q (some (.inl (-1000005))) M) ∧ (¬ x4 = (-1000005 : Int) → (-2147483648 ≤ s0 ∧ s0 < 2147483648) ∧ ((¬ s0 = (-1000005 : Int) → Q (some (.inl (s0 - x4))) M) ∧ (s0 = (-1000005 : Int) → Q (some (.inl (-1000005))) M))))) ∧ (¬ (2 : Int) ≤ x2 → ((¬ x2 = (0 : Int) → Q (some (.inl s0)) M) ∧ (x2 = (0 : Int) → Q (some (.inl x4)) M))))) : fx_At E m_X10_placed 83 [some (.inr a0), some (.inl x1), some (.inl x2), some (.inl x3), some (.inl x4), none] [.inl s0] M Q := by
  refine x_istore (pc := 83) (lv' := [some (.inr a0), some (.inl x1), some (.inl x2), some (.inl x3), some (.inl x4), some (.inl s0)]) dX10_placed_83 (by decide) rfl ?_
  refine x_iload_n (pc := 85) dX10_placed_85 rfl rfl ?_
  refine x_iconst (pc := 86) dX10_placed_86 ?_
  obtain ⟨g1, h⟩ := h
  refine x_cge (pc := 87) 102 dX10_placed_87 (by decide) ⟨g1, ⟨by decide, by decide⟩⟩ (fun hc => ?_) (fun hc => ?_)
  · replace h := h.1 hc
    refine x_iload (pc := 102) dX10_placed_102 rfl ?_
    refine x_ldc (pc := 104) (n := -1000005) dX10_placed_104 k_RX10_23 rfl ?_
    obtain ⟨g2, h⟩ := h
    refine x_ceq (pc := 106) 116 dX10_placed_106 (by decide) ⟨g2, ⟨by decide, by decide⟩⟩ (fun hc => ?_) (fun hc => ?_)
    · replace h := h.1 hc
      refine x_ldc (pc := 116) (n := -1000005) dX10_placed_116 k_RX10_23 rfl ?_
      refine x_goto (pc := 118) 126 dX10_placed_118 (by decide) ?_
      exact x_iret (pc := 126) dX10_placed_126 (Or.inl rfl) h
    · replace h := h.2 hc
      refine x_iload (pc := 109) dX10_placed_109 rfl ?_
      refine x_ldc (pc := 111) (n := -1000005) dX10_placed_111 k_RX10_23 rfl ?_
      obtain ⟨g3, h⟩ := h
      refine x_cne (pc := 113) 121 dX10_placed_113 (by decide) ⟨g3, ⟨by decide, by decide⟩⟩ (fun hc => ?_) (fun hc => ?_)
      · replace h := h.1 hc
        refine x_iload (pc := 121) dX10_placed_121 rfl ?_
        refine x_iload (pc := 123) dX10_placed_123 rfl ?_
        refine x_isub (pc := 125) dX10_placed_125 ?_
        exact x_iret (pc := 126) dX10_placed_126 (Or.inl rfl) h
      · replace h := h.2 hc
        refine x_ldc (pc := 116) (n := -1000005) dX10_placed_116 k_RX10_23 rfl ?_
        refine x_goto (pc := 118) 126 dX10_placed_118 (by decide) ?_
        exact x_iret (pc := 126) dX10_placed_126 (Or.inl rfl) h
  · replace h := h.2 hc
    refine x_iload_n (pc := 90) dX10_placed_90 rfl rfl ?_
    refine x_zne (pc := 91) 99 dX10_placed_91 (by decide) g1 (fun hc => ?_) (fun hc => ?_)
    · replace h := h.1 hc
      refine x_iload (pc := 99) dX10_placed_99 rfl ?_
      exact x_iret (pc := 101) dX10_placed_101 (Or.inl rfl) h
    · replace h := h.2 hc
      refine x_iload (pc := 94) dX10_placed_94 rfl ?_
      refine x_goto (pc := 96) 101 dX10_placed_96 (by decide) ?_
      exact x_iret (pc := 101) dX10_placed_101 (Or.inl rfl) h
theorem dX10_write_0 : decode cX10_write 0 = .ok (.iload_n 1, 1) := by decide +kernel
theorem dX10_write_1 : decode cX10_write 1 = .ok (.bipush 32, 2) := by decide +kernel
theorem dX10_write_3 : decode cX10_write 3 = .ok (.bipush 126, 2) := by decide +kernel
theorem dX10_write_5 : decode cX10_write 5 = .ok (.invokestatic 74, 3) := by decide +kernel
theorem dX10_write_8 : decode cX10_write 8 = .ok (.ifCond .ne 6, 3) := by decide +kernel
theorem dX10_write_11 : decode cX10_write 11 = .ok (.ldc 81, 2) := by decide +kernel
theorem dX10_write_13 : decode cX10_write 13 = .ok (.ireturn, 1) := by decide +kernel
theorem dX10_write_14 : decode cX10_write 14 = .ok (.aload_n 0, 1) := by decide +kernel
theorem dX10_write_15 : decode cX10_write 15 = .ok (.getfield 99, 3) := by decide +kernel
theorem dX10_write_18 : decode cX10_write 18 = .ok (.bipush 120, 2) := by decide +kernel
theorem dX10_write_20 : decode cX10_write 20 = .ok (.if_icmp .ne 6, 3) := by decide +kernel
theorem dX10_write_23 : decode cX10_write 23 = .ok (.ldc 89, 2) := by decide +kernel
theorem dX10_write_25 : decode cX10_write 25 = .ok (.ireturn, 1) := by decide +kernel
theorem dX10_write_26 : decode cX10_write 26 = .ok (.aload_n 0, 1) := by decide +kernel
theorem dX10_write_27 : decode cX10_write 27 = .ok (.getfield 20, 3) := by decide +kernel
theorem dX10_write_30 : decode cX10_write 30 = .ok (.aload_n 0, 1) := by decide +kernel
theorem dX10_write_31 : decode cX10_write 31 = .ok (.getfield 99, 3) := by decide +kernel
theorem dX10_write_34 : decode cX10_write 34 = .ok (.iload_n 1, 1) := by decide +kernel
theorem dX10_write_35 : decode cX10_write 35 = .ok (.iastore, 1) := by decide +kernel
theorem dX10_write_36 : decode cX10_write 36 = .ok (.aload_n 0, 1) := by decide +kernel
theorem dX10_write_37 : decode cX10_write 37 = .ok (.dup, 1) := by decide +kernel
theorem dX10_write_38 : decode cX10_write 38 = .ok (.getfield 99, 3) := by decide +kernel
theorem dX10_write_41 : decode cX10_write 41 = .ok (.iconst 1, 1) := by decide +kernel
theorem dX10_write_42 : decode cX10_write 42 = .ok (.iadd, 1) := by decide +kernel
theorem dX10_write_43 : decode cX10_write 43 = .ok (.putfield 99, 3) := by decide +kernel
theorem dX10_write_46 : decode cX10_write 46 = .ok (.aload_n 0, 1) := by decide +kernel
theorem dX10_write_47 : decode cX10_write 47 = .ok (.getfield 99, 3) := by decide +kernel
theorem dX10_write_50 : decode cX10_write 50 = .ok (.ireturn, 1) := by decide +kernel
set_option maxRecDepth 100000 in
theorem b_X10_write_0 {E : fxE} (hW : fx_Wt E) (a0 : Nat) (x1 : Int) (M : fxM) (Q : Option fxV → fxM → Prop) (hk0 : kd E a0 = 10) (h : (-2147483648 ≤ x1 ∧ x1 < 2147483648) ∧ (((32 : Int) ≤ x1 ∧ x1 ≤ (126 : Int) → (-2147483648 ≤ (M a0 6) ∧ (M a0 6) < 2147483648) ∧ ((¬ (M a0 6) = (120 : Int) → (0 ≤ (M a0 6) ∧ (M a0 6) < 120) ∧ ∀ M5 : fxM, M5 = mset M (rf E a0 5) ((M a0 6).toNat) x1 → ∀ M6 : fxM, M6 = mset M5 a0 6 ((M5 a0 6) + 1) → Q (some (.inl (M6 a0 6))) M6) ∧ ((M a0 6) = (120 : Int) → Q (some (.inl (-1000003))) M))) ∧ (¬ ((32 : Int) ≤ x1 ∧ x1 ≤ (126 : Int)) → Q (some (.inl (-1000002))) M))) : fx_At E m_X10_write 0 [some (.inr a0), some (.inl x1)] [] M Q := by
  refine x_iload_n (pc := 0) dX10_write_0 rfl rfl ?_
  refine x_bipush (pc := 1) dX10_write_1 (by decide +kernel) ?_
  refine x_bipush (pc := 3) dX10_write_3 (by decide +kernel) ?_
  obtain ⟨g1, h⟩ := h
  refine x_callS (pc := 5) (z := m_X10_isIn) (as := [.inl x1, .inl 32, .inl 126]) (rest := []) dX10_write_5 c_RX10_74 (by decide) rfl (Nat.le_of_ble_eq_true rfl) (ct_isIn hW g1 ⟨by decide, by decide⟩ ⟨by decide, by decide⟩) (fun r M9 hr => ?_)
  obtain ⟨hM9, hr⟩ := hr
  rw [hM9]
  clear hM9
  obtain ⟨hc, rfl⟩ | ⟨hc, rfl⟩ := hr
  · replace h := h.1 hc
    show fx_At E m_X10_write 8 [some (.inr a0), some (.inl x1)] [.inl 1] _ Q
    refine x_zne (pc := 8) 14 dX10_write_8 (by decide) ⟨by decide, by decide⟩ (fun _ => ?_) (fun hx => absurd hx (by decide))
    refine x_aload_n (pc := 14) dX10_write_14 rfl rfl ?_
    refine x_geti (pc := 15) dX10_write_15 f_RX10_99 hk0 ?_
    refine x_bipush (pc := 18) dX10_write_18 (by decide +kernel) ?_
    obtain ⟨g3, h⟩ := h
    refine x_cne (pc := 20) 26 dX10_write_20 (by decide) ⟨g3, ⟨by decide, by decide⟩⟩ (fun hc => ?_) (fun hc => ?_)
    · replace h := h.1 hc
      refine x_aload_n (pc := 26) dX10_write_26 rfl rfl ?_
      refine x_getr (pc := 27) dX10_write_27 f_RX10_20 hk0 ?_
      refine x_aload_n (pc := 30) dX10_write_30 rfl rfl ?_
      refine x_geti (pc := 31) dX10_write_31 f_RX10_99 hk0 ?_
      refine x_iload_n (pc := 34) dX10_write_34 rfl rfl ?_
      obtain ⟨g4, h⟩ := h
      refine x_iast (pc := 35) dX10_write_35 (wk_10_5 hW hk0) (wl_10_5 hW hk0) g4 (fun M5 hM5 => ?_)
      replace h := h M5 hM5
      refine x_aload_n (pc := 36) dX10_write_36 rfl rfl ?_
      refine x_dup (pc := 37) dX10_write_37 ?_
      refine x_geti (pc := 38) dX10_write_38 f_RX10_99 hk0 ?_
      refine x_iconst (pc := 41) dX10_write_41 ?_
      refine x_iadd (pc := 42) dX10_write_42 ?_
      refine x_puti (pc := 43) dX10_write_43 f_RX10_99 hk0 (fun M6 hM6 => ?_)
      replace h := h M6 hM6
      refine x_aload_n (pc := 46) dX10_write_46 rfl rfl ?_
      refine x_geti (pc := 47) dX10_write_47 f_RX10_99 hk0 ?_
      exact x_iret (pc := 50) dX10_write_50 (Or.inl rfl) h
    · replace h := h.2 hc
      refine x_ldc (pc := 23) (n := -1000003) dX10_write_23 k_RX10_89 rfl ?_
      exact x_iret (pc := 25) dX10_write_25 (Or.inl rfl) h
  · replace h := h.2 hc
    show fx_At E m_X10_write 8 [some (.inr a0), some (.inl x1)] [.inl 0] _ Q
    refine x_zne (pc := 8) 14 dX10_write_8 (by decide) ⟨by decide, by decide⟩ (fun hx => absurd hx (by decide)) (fun _ => ?_)
    refine x_ldc (pc := 11) (n := -1000002) dX10_write_11 k_RX10_81 rfl ?_
    exact x_iret (pc := 13) dX10_write_13 (Or.inl rfl) h
theorem dX10_wipe_0 : decode cX10_wipe 0 = .ok (.aload_n 0, 1) := by decide +kernel
theorem dX10_wipe_1 : decode cX10_wipe 1 = .ok (.getfield 99, 3) := by decide +kernel
theorem dX10_wipe_4 : decode cX10_wipe 4 = .ok (.istore_n 1, 1) := by decide +kernel
theorem dX10_wipe_5 : decode cX10_wipe 5 = .ok (.aload_n 0, 1) := by decide +kernel
theorem dX10_wipe_6 : decode cX10_wipe 6 = .ok (.iconst 0, 1) := by decide +kernel
theorem dX10_wipe_7 : decode cX10_wipe 7 = .ok (.putfield 99, 3) := by decide +kernel
theorem dX10_wipe_10 : decode cX10_wipe 10 = .ok (.iload_n 1, 1) := by decide +kernel
theorem dX10_wipe_11 : decode cX10_wipe 11 = .ok (.ireturn, 1) := by decide +kernel
set_option maxRecDepth 100000 in
theorem b_X10_wipe_0 {E : fxE} (hW : fx_Wt E) (a0 : Nat) (M : fxM) (Q : Option fxV → fxM → Prop) (hk0 : kd E a0 = 10) (h : ∀ M1 : fxM, M1 = mset M a0 6 0 → Q (some (.inl (M a0 6))) M1) : fx_At E m_X10_wipe 0 [some (.inr a0), none] [] M Q := by
  refine x_aload_n (pc := 0) dX10_wipe_0 rfl rfl ?_
  refine x_geti (pc := 1) dX10_wipe_1 f_RX10_99 hk0 ?_
  refine x_istore_n (pc := 4) (lv' := [some (.inr a0), some (.inl (M a0 6))]) dX10_wipe_4 rfl (by decide) rfl ?_
  refine x_aload_n (pc := 5) dX10_wipe_5 rfl rfl ?_
  refine x_iconst (pc := 6) dX10_wipe_6 ?_
  refine x_puti (pc := 7) dX10_wipe_7 f_RX10_99 hk0 (fun M1 hM1 => ?_)
  replace h := h M1 hM1
  refine x_iload_n (pc := 10) dX10_wipe_10 rfl rfl ?_
  exact x_iret (pc := 11) dX10_wipe_11 (Or.inl rfl) h
theorem dX10_fails_0 : decode cX10_fails 0 = .ok (.aload_n 0, 1) := by decide +kernel
theorem dX10_fails_1 : decode cX10_fails 1 = .ok (.invokevirtual 200, 3) := by decide +kernel
theorem dX10_fails_4 : decode cX10_fails 4 = .ok (.ifCond .ne 13, 3) := by decide +kernel
theorem dX10_fails_7 : decode cX10_fails 7 = .ok (.aload_n 0, 1) := by decide +kernel
theorem dX10_fails_8 : decode cX10_fails 8 = .ok (.iload_n 1, 1) := by decide +kernel
theorem dX10_fails_9 : decode cX10_fails 9 = .ok (.putfield 204, 3) := by decide +kernel
theorem dX10_fails_12 : decode cX10_fails 12 = .ok (.aload_n 0, 1) := by decide +kernel
theorem dX10_fails_13 : decode cX10_fails 13 = .ok (.iload_n 2, 1) := by decide +kernel
theorem dX10_fails_14 : decode cX10_fails 14 = .ok (.putfield 197, 3) := by decide +kernel
theorem dX10_fails_17 : decode cX10_fails 17 = .ok (.return_, 1) := by decide +kernel
set_option maxRecDepth 100000 in
theorem b_X10_fails_0 {E : fxE} (hW : fx_Wt E) (a0 : Nat) (x1 : Int) (x2 : Int) (M : fxM) (Q : Option fxV → fxM → Prop) (hk0 : kd E a0 = 10) (h : (-2147483648 ≤ (M a0 22) ∧ (M a0 22) < 2147483648) ∧ ((¬ M a0 22 = -1000005 → Q none M) ∧ (¬ (¬ M a0 22 = -1000005) → ∀ M3 : fxM, M3 = mset M a0 21 x1 → ∀ M4 : fxM, M4 = mset M3 a0 22 x2 → Q none M4))) : fx_At E m_X10_fails 0 [some (.inr a0), some (.inl x1), some (.inl x2)] [] M Q := by
  refine x_aload_n (pc := 0) dX10_fails_0 rfl rfl ?_
  obtain ⟨g1, h⟩ := h
  refine x_callV (pc := 1) (z := m_X10_isWrong) (b := a0) (as := []) (rest := []) dX10_fails_1 c_RX10_200 (by decide) hk0 rfl (Nat.le_of_ble_eq_true rfl) (ct_X10_isWrong hW hk0 g1) (fun r M9 hr => ?_)
  obtain ⟨hM9, hr⟩ := hr
  rw [hM9]
  clear hM9
  obtain ⟨hc, rfl⟩ | ⟨hc, rfl⟩ := hr
  · replace h := h.1 hc
    show fx_At E m_X10_fails 4 [some (.inr a0), some (.inl x1), some (.inl x2)] [.inl 1] _ Q
    refine x_zne (pc := 4) 17 dX10_fails_4 (by decide) ⟨by decide, by decide⟩ (fun _ => ?_) (fun hx => absurd hx (by decide))
    exact x_vret (pc := 17) dX10_fails_17 rfl h
  · replace h := h.2 hc
    show fx_At E m_X10_fails 4 [some (.inr a0), some (.inl x1), some (.inl x2)] [.inl 0] _ Q
    refine x_zne (pc := 4) 17 dX10_fails_4 (by decide) ⟨by decide, by decide⟩ (fun hx => absurd hx (by decide)) (fun _ => ?_)
    refine x_aload_n (pc := 7) dX10_fails_7 rfl rfl ?_
    refine x_iload_n (pc := 8) dX10_fails_8 rfl rfl ?_
    refine x_puti (pc := 9) dX10_fails_9 f_RX10_204 hk0 (fun M3 hM3 => ?_)
    replace h := h M3 hM3
    refine x_aload_n (pc := 12) dX10_fails_12 rfl rfl ?_
    refine x_iload_n (pc := 13) dX10_fails_13 rfl rfl ?_
    refine x_puti (pc := 14) dX10_fails_14 f_RX10_197 hk0 (fun M4 hM4 => ?_)
    replace h := h M4 hM4
    exact x_vret (pc := 17) dX10_fails_17 rfl h
theorem dX10_isDigit_0 : decode cX10_isDigit 0 = .ok (.aload_n 0, 1) := by decide +kernel
theorem dX10_isDigit_1 : decode cX10_isDigit 1 = .ok (.getfield 207, 3) := by decide +kernel
theorem dX10_isDigit_4 : decode cX10_isDigit 4 = .ok (.aload_n 0, 1) := by decide +kernel
theorem dX10_isDigit_5 : decode cX10_isDigit 5 = .ok (.getfield 99, 3) := by decide +kernel
theorem dX10_isDigit_8 : decode cX10_isDigit 8 = .ok (.if_icmp .ge 26, 3) := by decide +kernel
theorem dX10_isDigit_11 : decode cX10_isDigit 11 = .ok (.aload_n 0, 1) := by decide +kernel
theorem dX10_isDigit_12 : decode cX10_isDigit 12 = .ok (.getfield 20, 3) := by decide +kernel
theorem dX10_isDigit_15 : decode cX10_isDigit 15 = .ok (.aload_n 0, 1) := by decide +kernel
theorem dX10_isDigit_16 : decode cX10_isDigit 16 = .ok (.getfield 207, 3) := by decide +kernel
theorem dX10_isDigit_19 : decode cX10_isDigit 19 = .ok (.iaload, 1) := by decide +kernel
theorem dX10_isDigit_20 : decode cX10_isDigit 20 = .ok (.bipush 48, 2) := by decide +kernel
theorem dX10_isDigit_22 : decode cX10_isDigit 22 = .ok (.bipush 57, 2) := by decide +kernel
theorem dX10_isDigit_24 : decode cX10_isDigit 24 = .ok (.invokestatic 74, 3) := by decide +kernel
theorem dX10_isDigit_27 : decode cX10_isDigit 27 = .ok (.ifCond .eq 7, 3) := by decide +kernel
theorem dX10_isDigit_30 : decode cX10_isDigit 30 = .ok (.iconst 1, 1) := by decide +kernel
theorem dX10_isDigit_31 : decode cX10_isDigit 31 = .ok (.goto 4, 3) := by decide +kernel
theorem dX10_isDigit_34 : decode cX10_isDigit 34 = .ok (.iconst 0, 1) := by decide +kernel
theorem dX10_isDigit_35 : decode cX10_isDigit 35 = .ok (.ireturn, 1) := by decide +kernel
set_option maxRecDepth 100000 in
theorem b_X10_isDigit_0 {E : fxE} (hW : fx_Wt E) (a0 : Nat) (M : fxM) (Q : Option fxV → fxM → Prop) (hk0 : kd E a0 = 10) (h : (-2147483648 ≤ (M a0 20) ∧ (M a0 20) < 2147483648) ∧ (-2147483648 ≤ (M a0 6) ∧ (M a0 6) < 2147483648) ∧ (((M a0 6) ≤ (M a0 20) → Q (some (.inl 0)) M) ∧ (¬ (M a0 6) ≤ (M a0 20) → (0 ≤ (M a0 20) ∧ (M a0 20) < 120) ∧ (-2147483648 ≤ (M (rf E a0 5) ((M a0 20).toNat)) ∧ (M (rf E a0 5) ((M a0 20).toNat)) < 2147483648) ∧ (((48 : Int) ≤ (M (rf E a0 5) ((M a0 20).toNat)) ∧ (M (rf E a0 5) ((M a0 20).toNat)) ≤ (57 : Int) → Q (some (.inl 1)) M) ∧ (¬ ((48 : Int) ≤ (M (rf E a0 5) ((M a0 20).toNat)) ∧ (M (rf E a0 5) ((M a0 20).toNat)) ≤ (57 : Int)) → Q (some (.inl 0)) M))))) : fx_At E m_X10_isDigit 0 [some (.inr a0)] [] M Q := by
  refine x_aload_n (pc := 0) dX10_isDigit_0 rfl rfl ?_
  refine x_geti (pc := 1) dX10_isDigit_1 f_RX10_207 hk0 ?_
  refine x_aload_n (pc := 4) dX10_isDigit_4 rfl rfl ?_
  refine x_geti (pc := 5) dX10_isDigit_5 f_RX10_99 hk0 ?_
  obtain ⟨g1, h⟩ := h
  obtain ⟨g2, h⟩ := h
  refine x_cge (pc := 8) 34 dX10_isDigit_8 (by decide) ⟨g1, g2⟩ (fun hc => ?_) (fun hc => ?_)
  · replace h := h.1 hc
    refine x_iconst (pc := 34) dX10_isDigit_34 ?_
    exact x_iret (pc := 35) dX10_isDigit_35 (Or.inr ⟨rfl, by decide⟩) h
  · replace h := h.2 hc
    refine x_aload_n (pc := 11) dX10_isDigit_11 rfl rfl ?_
    refine x_getr (pc := 12) dX10_isDigit_12 f_RX10_20 hk0 ?_
    refine x_aload_n (pc := 15) dX10_isDigit_15 rfl rfl ?_
    refine x_geti (pc := 16) dX10_isDigit_16 f_RX10_207 hk0 ?_
    obtain ⟨g3, h⟩ := h
    refine x_iald (pc := 19) dX10_isDigit_19 (wk_10_5 hW hk0) (wl_10_5 hW hk0) g3 ?_
    refine x_bipush (pc := 20) dX10_isDigit_20 (by decide +kernel) ?_
    refine x_bipush (pc := 22) dX10_isDigit_22 (by decide +kernel) ?_
    obtain ⟨g4, h⟩ := h
    refine x_callS (pc := 24) (z := m_X10_isIn) (as := [.inl (M (rf E a0 5) ((M a0 20).toNat)), .inl 48, .inl 57]) (rest := []) dX10_isDigit_24 c_RX10_74 (by decide) rfl (Nat.le_of_ble_eq_true rfl) (ct_isIn hW g4 ⟨by decide, by decide⟩ ⟨by decide, by decide⟩) (fun r M9 hr => ?_)
    obtain ⟨hM9, hr⟩ := hr
    rw [hM9]
    clear hM9
    obtain ⟨hc, rfl⟩ | ⟨hc, rfl⟩ := hr
    · replace h := h.1 hc
      show fx_At E m_X10_isDigit 27 [some (.inr a0)] [.inl 1] _ Q
      refine x_zeq (pc := 27) 34 dX10_isDigit_27 (by decide) ⟨by decide, by decide⟩ (fun hx => absurd hx (by decide)) (fun _ => ?_)
      refine x_iconst (pc := 30) dX10_isDigit_30 ?_
      refine x_goto (pc := 31) 35 dX10_isDigit_31 (by decide) ?_
      exact x_iret (pc := 35) dX10_isDigit_35 (Or.inr ⟨rfl, by decide⟩) h
    · replace h := h.2 hc
      show fx_At E m_X10_isDigit 27 [some (.inr a0)] [.inl 0] _ Q
      refine x_zeq (pc := 27) 34 dX10_isDigit_27 (by decide) ⟨by decide, by decide⟩ (fun _ => ?_) (fun hx => absurd hx (by decide))
      refine x_iconst (pc := 34) dX10_isDigit_34 ?_
      exact x_iret (pc := 35) dX10_isDigit_35 (Or.inr ⟨rfl, by decide⟩) h
theorem dX10_readNumber_0 : decode cX10_readNumber 0 = .ok (.aload_n 0, 1) := by decide +kernel
theorem dX10_readNumber_1 : decode cX10_readNumber 1 = .ok (.getfield 207, 3) := by decide +kernel
theorem dX10_readNumber_4 : decode cX10_readNumber 4 = .ok (.istore_n 3, 1) := by decide +kernel
theorem dX10_readNumber_5 : decode cX10_readNumber 5 = .ok (.iconst 0, 1) := by decide +kernel
theorem dX10_readNumber_6 : decode cX10_readNumber 6 = .ok (.istore 4, 2) := by decide +kernel
theorem dX10_readNumber_8 : decode cX10_readNumber 8 = .ok (.aload_n 0, 1) := by decide +kernel
theorem dX10_readNumber_9 : decode cX10_readNumber 9 = .ok (.invokevirtual 210, 3) := by decide +kernel
theorem dX10_readNumber_12 : decode cX10_readNumber 12 = .ok (.ifCond .ne 12, 3) := by decide +kernel
theorem dX10_readNumber_15 : decode cX10_readNumber 15 = .ok (.aload_n 0, 1) := by decide +kernel
theorem dX10_readNumber_16 : decode cX10_readNumber 16 = .ok (.aload_n 0, 1) := by decide +kernel
theorem dX10_readNumber_17 : decode cX10_readNumber 17 = .ok (.getfield 207, 3) := by decide +kernel
theorem dX10_readNumber_20 : decode cX10_readNumber 20 = .ok (.iconst 1, 1) := by decide +kernel
theorem dX10_readNumber_21 : decode cX10_readNumber 21 = .ok (.invokevirtual 213, 3) := by decide +kernel
theorem dX10_readNumber_24 : decode cX10_readNumber 24 = .ok (.aload_n 0, 1) := by decide +kernel
theorem dX10_readNumber_25 : decode cX10_readNumber 25 = .ok (.invokevirtual 200, 3) := by decide +kernel
theorem dX10_readNumber_28 : decode cX10_readNumber 28 = .ok (.ifCond .ne 53, 3) := by decide +kernel
theorem dX10_readNumber_31 : decode cX10_readNumber 31 = .ok (.aload_n 0, 1) := by decide +kernel
theorem dX10_readNumber_32 : decode cX10_readNumber 32 = .ok (.getfield 207, 3) := by decide +kernel
theorem dX10_readNumber_35 : decode cX10_readNumber 35 = .ok (.iload_n 3, 1) := by decide +kernel
theorem dX10_readNumber_36 : decode cX10_readNumber 36 = .ok (.iconst 4, 1) := by decide +kernel
theorem dX10_readNumber_37 : decode cX10_readNumber 37 = .ok (.iadd, 1) := by decide +kernel
theorem dX10_readNumber_38 : decode cX10_readNumber 38 = .ok (.if_icmp .ge 43, 3) := by decide +kernel
theorem dX10_readNumber_41 : decode cX10_readNumber 41 = .ok (.aload_n 0, 1) := by decide +kernel
theorem dX10_readNumber_42 : decode cX10_readNumber 42 = .ok (.invokevirtual 210, 3) := by decide +kernel
theorem dX10_readNumber_45 : decode cX10_readNumber 45 = .ok (.ifCond .eq 36, 3) := by decide +kernel
theorem dX10_readNumber_48 : decode cX10_readNumber 48 = .ok (.bipush 10, 2) := by decide +kernel
theorem dX10_readNumber_50 : decode cX10_readNumber 50 = .ok (.iload 4, 2) := by decide +kernel
theorem dX10_readNumber_52 : decode cX10_readNumber 52 = .ok (.imul, 1) := by decide +kernel
theorem dX10_readNumber_53 : decode cX10_readNumber 53 = .ok (.aload_n 0, 1) := by decide +kernel
theorem dX10_readNumber_54 : decode cX10_readNumber 54 = .ok (.getfield 20, 3) := by decide +kernel
theorem dX10_readNumber_57 : decode cX10_readNumber 57 = .ok (.aload_n 0, 1) := by decide +kernel
theorem dX10_readNumber_58 : decode cX10_readNumber 58 = .ok (.getfield 207, 3) := by decide +kernel
theorem dX10_readNumber_61 : decode cX10_readNumber 61 = .ok (.iaload, 1) := by decide +kernel
theorem dX10_readNumber_62 : decode cX10_readNumber 62 = .ok (.iadd, 1) := by decide +kernel
theorem dX10_readNumber_63 : decode cX10_readNumber 63 = .ok (.bipush 48, 2) := by decide +kernel
theorem dX10_readNumber_65 : decode cX10_readNumber 65 = .ok (.isub, 1) := by decide +kernel
theorem dX10_readNumber_66 : decode cX10_readNumber 66 = .ok (.istore 4, 2) := by decide +kernel
theorem dX10_readNumber_68 : decode cX10_readNumber 68 = .ok (.aload_n 0, 1) := by decide +kernel
theorem dX10_readNumber_69 : decode cX10_readNumber 69 = .ok (.dup, 1) := by decide +kernel
theorem dX10_readNumber_70 : decode cX10_readNumber 70 = .ok (.getfield 207, 3) := by decide +kernel
theorem dX10_readNumber_73 : decode cX10_readNumber 73 = .ok (.iconst 1, 1) := by decide +kernel
theorem dX10_readNumber_74 : decode cX10_readNumber 74 = .ok (.iadd, 1) := by decide +kernel
theorem dX10_readNumber_75 : decode cX10_readNumber 75 = .ok (.putfield 207, 3) := by decide +kernel
theorem dX10_readNumber_78 : decode cX10_readNumber 78 = .ok (.goto (-54), 3) := by decide +kernel
theorem dX10_readNumber_81 : decode cX10_readNumber 81 = .ok (.iload 4, 2) := by decide +kernel
theorem dX10_readNumber_83 : decode cX10_readNumber 83 = .ok (.iload_n 1, 1) := by decide +kernel
theorem dX10_readNumber_84 : decode cX10_readNumber 84 = .ok (.iload_n 2, 1) := by decide +kernel
theorem dX10_readNumber_85 : decode cX10_readNumber 85 = .ok (.invokestatic 74, 3) := by decide +kernel
theorem dX10_readNumber_88 : decode cX10_readNumber 88 = .ok (.ifCond .ne 9, 3) := by decide +kernel
theorem dX10_readNumber_91 : decode cX10_readNumber 91 = .ok (.aload_n 0, 1) := by decide +kernel
theorem dX10_readNumber_92 : decode cX10_readNumber 92 = .ok (.iload_n 3, 1) := by decide +kernel
theorem dX10_readNumber_93 : decode cX10_readNumber 93 = .ok (.iconst 2, 1) := by decide +kernel
theorem dX10_readNumber_94 : decode cX10_readNumber 94 = .ok (.invokevirtual 213, 3) := by decide +kernel
theorem dX10_readNumber_97 : decode cX10_readNumber 97 = .ok (.iload 4, 2) := by decide +kernel
theorem dX10_readNumber_99 : decode cX10_readNumber 99 = .ok (.ireturn, 1) := by decide +kernel
set_option maxRecDepth 100000 in
theorem b_X10_readNumber_0 {E : fxE} (hW : fx_Wt E) (a0 : Nat) (x1 : Int) (x2 : Int) (M : fxM) (Q : Option fxV → fxM → Prop) (hk0 : kd E a0 = 10) (h : ∃ R1 : Int → fxM → Prop, CtI E m_X10_isDigit [.inr a0] M R1 ∧ ∀ (v1 : Int) (M1 : fxM), R1 v1 M1 → (-2147483648 ≤ v1 ∧ v1 < 2147483648) ∧ ((¬ v1 = (0 : Int) → fx_At E m_X10_readNumber 24 [some (.inr a0), some (.inl x1), some (.inl x2), some (.inl (M a0 20)), some (.inl 0)] [] M1 Q) ∧ (v1 = (0 : Int) → ∃ R3 : fxM → Prop, CtV E m_X10_fails [.inr a0, .inl (M1 a0 20), .inl 1] M1 R3 ∧ ∀ M3 : fxM, R3 M3 → fx_At E m_X10_readNumber 24 [some (.inr a0), some (.inl x1), some (.inl x2), some (.inl (M a0 20)), some (.inl 0)] [] M3 Q))) : fx_At E m_X10_readNumber 0 [some (.inr a0), some (.inl x1), some (.inl x2), none, none] [] M Q := by
  refine x_aload_n (pc := 0) dX10_readNumber_0 rfl rfl ?_
  refine x_geti (pc := 1) dX10_readNumber_1 f_RX10_207 hk0 ?_
  refine x_istore_n (pc := 4) (lv' := [some (.inr a0), some (.inl x1), some (.inl x2), some (.inl (M a0 20)), none]) dX10_readNumber_4 rfl (by decide) rfl ?_
  refine x_iconst (pc := 5) dX10_readNumber_5 ?_
  refine x_istore (pc := 6) (lv' := [some (.inr a0), some (.inl x1), some (.inl x2), some (.inl (M a0 20)), some (.inl 0)]) dX10_readNumber_6 (by decide) rfl ?_
  refine x_aload_n (pc := 8) dX10_readNumber_8 rfl rfl ?_
  obtain ⟨R1, hc1, h⟩ := h
  refine x_callV (pc := 9) (z := m_X10_isDigit) (b := a0) (as := []) (rest := []) dX10_readNumber_9 c_RX10_210 (by decide) hk0 rfl (Nat.le_of_ble_eq_true rfl) hc1 (fun r M1 hr => ?_)
  obtain ⟨v1, rfl, hr⟩ := hr
  replace h := h v1 M1 hr
  show fx_At E m_X10_readNumber 12 [some (.inr a0), some (.inl x1), some (.inl x2), some (.inl (M a0 20)), some (.inl 0)] [.inl v1] M1 Q
  obtain ⟨g2, h⟩ := h
  refine x_zne (pc := 12) 24 dX10_readNumber_12 (by decide) g2 (fun hc => ?_) (fun hc => ?_)
  · replace h := h.1 hc
    exact h
  · replace h := h.2 hc
    refine x_aload_n (pc := 15) dX10_readNumber_15 rfl rfl ?_
    refine x_aload_n (pc := 16) dX10_readNumber_16 rfl rfl ?_
    refine x_geti (pc := 17) dX10_readNumber_17 f_RX10_207 hk0 ?_
    refine x_iconst (pc := 20) dX10_readNumber_20 ?_
    obtain ⟨R3, hc3, h⟩ := h
    refine x_callV (pc := 21) (z := m_X10_fails) (b := a0) (as := [.inl (M1 a0 20), .inl 1]) (rest := []) dX10_readNumber_21 c_RX10_213 (by decide) hk0 rfl (Nat.le_of_ble_eq_true rfl) hc3 (fun r M3 hr => ?_)
    obtain ⟨rfl, hr⟩ := hr
    replace h := h M3 hr
    show fx_At E m_X10_readNumber 24 [some (.inr a0), some (.inl x1), some (.inl x2), some (.inl (M a0 20)), some (.inl 0)] [] M3 Q
    exact h
set_option maxRecDepth 100000 in
theorem b_X10_readNumber_24 {E : fxE} (hW : fx_Wt E) (a0 : Nat) (x1 : Int) (x2 : Int) (x3 : Int) (x4 : Int) (M : fxM) (Q : Option fxV → fxM → Prop) (hk0 : kd E a0 = 10) (h : (-2147483648 ≤ (M a0 22) ∧ (M a0 22) < 2147483648) ∧ ((¬ M a0 22 = -1000005 → (-2147483648 ≤ x4 ∧ x4 < 2147483648) ∧ (-2147483648 ≤ x1 ∧ x1 < 2147483648) ∧ (-2147483648 ≤ x2 ∧ x2 < 2147483648) ∧ ((x1 ≤ x4 ∧ x4 ≤ x2 → Q (some (.inl x4)) M) ∧ (¬ (x1 ≤ x4 ∧ x4 ≤ x2) → ∃ R7 : fxM → Prop, CtV E m_X10_fails [.inr a0, .inl x3, .inl 2] M R7 ∧ ∀ M7 : fxM, R7 M7 → Q (some (.inl x4)) M7))) ∧ (¬ (¬ M a0 22 = -1000005) → (-2147483648 ≤ (M a0 20) ∧ (M a0 20) < 2147483648) ∧ (-2147483648 ≤ (x3 + 4) ∧ (x3 + 4) < 2147483648) ∧ (((x3 + 4) ≤ (M a0 20) → (-2147483648 ≤ x4 ∧ x4 < 2147483648) ∧ (-2147483648 ≤ x1 ∧ x1 < 2147483648) ∧ (-2147483648 ≤ x2 ∧ x2 < 2147483648) ∧ ((x1 ≤ x4 ∧ x4 ≤ x2 → Q (some (.inl x4)) M) ∧ (¬ (x1 ≤ x4 ∧ x4 ≤ x2) → ∃ R14 : fxM → Prop, CtV E m_X10_fails [.inr a0, .inl x3, .inl 2] M R14 ∧ ∀ M14 : fxM, R14 M14 → Q (some (.inl x4)) M14))) ∧ (¬ (x3 + 4) ≤ (M a0 20) → ∃ R15 : Int → fxM → Prop, CtI E m_X10_isDigit [.inr a0] M R15 ∧ ∀ (v15 : Int) (M15 : fxM), R15 v15 M15 → (-2147483648 ≤ v15 ∧ v15 < 2147483648) ∧ ((v15 = (0 : Int) → (-2147483648 ≤ x4 ∧ x4 < 2147483648) ∧ (-2147483648 ≤ x1 ∧ x1 < 2147483648) ∧ (-2147483648 ≤ x2 ∧ x2 < 2147483648) ∧ ((x1 ≤ x4 ∧ x4 ≤ x2 → Q (some (.inl x4)) M15) ∧ (¬ (x1 ≤ x4 ∧ x4 ≤ x2) → ∃ R21 : fxM → Prop, CtV E m_X10_fails [.inr a0, .inl x3, .inl 2] M15 R21 ∧ ∀ M21 : fxM, R21 M21 → Q (some (.inl x4)) M21))) ∧ (¬ v15 = (0 : Int) → (0 ≤ (M15 a0 20) ∧ (M15 a0 20) < 120) ∧ ∀ M23 : fxM, M23 = mset M15 a0 20 ((M15 a0 20) + 1) → fx_At E m_X10_readNumber 24 [some (.inr a0), some (.inl x1), some (.inl x2), some (.inl x3), some (.inl (((10 * x4) + (M15 (rf E a0 5) ((M15 a0 20).toNat))) - 48))] [] M23 Q))))))) : fx_At E m_X10_readNumber 24 [some (.inr a0), some (.inl x1), some (.inl x2), some (.inl x3), some (.inl x4)] [] M Q := by
  refine x_aload_n (pc := 24) dX10_readNumber_24 rfl rfl ?_
  obtain ⟨g1, h⟩ := h
  refine x_callV (pc := 25) (z := m_X10_isWrong) (b := a0) (as := []) (rest := []) dX10_readNumber_25 c_RX10_200 (by decide) hk0 rfl (Nat.le_of_ble_eq_true rfl) (ct_X10_isWrong hW hk0 g1) (fun r M9 hr => ?_)
  obtain ⟨hM9, hr⟩ := hr
  rw [hM9]
  clear hM9
  obtain ⟨hc, rfl⟩ | ⟨hc, rfl⟩ := hr
  · replace h := h.1 hc
    show fx_At E m_X10_readNumber 28 [some (.inr a0), some (.inl x1), some (.inl x2), some (.inl x3), some (.inl x4)] [.inl 1] _ Q
    refine x_zne (pc := 28) 81 dX10_readNumber_28 (by decide) ⟨by decide, by decide⟩ (fun _ => ?_) (fun hx => absurd hx (by decide))
    refine x_iload (pc := 81) dX10_readNumber_81 rfl ?_
    refine x_iload_n (pc := 83) dX10_readNumber_83 rfl rfl ?_
    refine x_iload_n (pc := 84) dX10_readNumber_84 rfl rfl ?_
    obtain ⟨g3, h⟩ := h
    obtain ⟨g4, h⟩ := h
    obtain ⟨g5, h⟩ := h
    refine x_callS (pc := 85) (z := m_X10_isIn) (as := [.inl x4, .inl x1, .inl x2]) (rest := []) dX10_readNumber_85 c_RX10_74 (by decide) rfl (Nat.le_of_ble_eq_true rfl) (ct_isIn hW g3 g4 g5) (fun r M9 hr => ?_)
    obtain ⟨hM9, hr⟩ := hr
    rw [hM9]
    clear hM9
    obtain ⟨hc, rfl⟩ | ⟨hc, rfl⟩ := hr
    · replace h := h.1 hc
      show fx_At E m_X10_readNumber 88 [some (.inr a0), some (.inl x1), some (.inl x2), some (.inl x3), some (.inl x4)] [.inl 1] _ Q
      refine x_zne (pc := 88) 97 dX10_readNumber_88 (by decide) ⟨by decide, by decide⟩ (fun _ => ?_) (fun hx => absurd hx (by decide))
      refine x_iload (pc := 97) dX10_readNumber_97 rfl ?_
      exact x_iret (pc := 99) dX10_readNumber_99 (Or.inl rfl) h
    · replace h := h.2 hc
      show fx_At E m_X10_readNumber 88 [some (.inr a0), some (.inl x1), some (.inl x2), some (.inl x3), some (.inl x4)] [.inl 0] _ Q
      refine x_zne (pc := 88) 97 dX10_readNumber_88 (by decide) ⟨by decide, by decide⟩ (fun hx => absurd hx (by decide)) (fun _ => ?_)
      refine x_aload_n (pc := 91) dX10_readNumber_91 rfl rfl ?_
      refine x_iload_n (pc := 92) dX10_readNumber_92 rfl rfl ?_
      refine x_iconst (pc := 93) dX10_readNumber_93 ?_
      obtain ⟨R7, hc7, h⟩ := h
      refine x_callV (pc := 94) (z := m_X10_fails) (b := a0) (as := [.inl x3, .inl 2]) (rest := []) dX10_readNumber_94 c_RX10_213 (by decide) hk0 rfl (Nat.le_of_ble_eq_true rfl) hc7 (fun r M7 hr => ?_)
      obtain ⟨rfl, hr⟩ := hr
      replace h := h M7 hr
      show fx_At E m_X10_readNumber 97 [some (.inr a0), some (.inl x1), some (.inl x2), some (.inl x3), some (.inl x4)] [] M7 Q
      refine x_iload (pc := 97) dX10_readNumber_97 rfl ?_
      exact x_iret (pc := 99) dX10_readNumber_99 (Or.inl rfl) h
  · replace h := h.2 hc
    show fx_At E m_X10_readNumber 28 [some (.inr a0), some (.inl x1), some (.inl x2), some (.inl x3), some (.inl x4)] [.inl 0] _ Q
    refine x_zne (pc := 28) 81 dX10_readNumber_28 (by decide) ⟨by decide, by decide⟩ (fun hx => absurd hx (by decide)) (fun _ => ?_)
    refine x_aload_n (pc := 31) dX10_readNumber_31 rfl rfl ?_
    refine x_geti (pc := 32) dX10_readNumber_32 f_RX10_207 hk0 ?_
    refine x_iload_n (pc := 35) dX10_readNumber_35 rfl rfl ?_
    refine x_iconst (pc := 36) dX10_readNumber_36 ?_
    refine x_iadd (pc := 37) dX10_readNumber_37 ?_
    obtain ⟨g8, h⟩ := h
    obtain ⟨g9, h⟩ := h
    refine x_cge (pc := 38) 81 dX10_readNumber_38 (by decide) ⟨g8, g9⟩ (fun hc => ?_) (fun hc => ?_)
    · replace h := h.1 hc
      refine x_iload (pc := 81) dX10_readNumber_81 rfl ?_
      refine x_iload_n (pc := 83) dX10_readNumber_83 rfl rfl ?_
      refine x_iload_n (pc := 84) dX10_readNumber_84 rfl rfl ?_
      obtain ⟨g10, h⟩ := h
      obtain ⟨g11, h⟩ := h
      obtain ⟨g12, h⟩ := h
      refine x_callS (pc := 85) (z := m_X10_isIn) (as := [.inl x4, .inl x1, .inl x2]) (rest := []) dX10_readNumber_85 c_RX10_74 (by decide) rfl (Nat.le_of_ble_eq_true rfl) (ct_isIn hW g10 g11 g12) (fun r M9 hr => ?_)
      obtain ⟨hM9, hr⟩ := hr
      rw [hM9]
      clear hM9
      obtain ⟨hc, rfl⟩ | ⟨hc, rfl⟩ := hr
      · replace h := h.1 hc
        show fx_At E m_X10_readNumber 88 [some (.inr a0), some (.inl x1), some (.inl x2), some (.inl x3), some (.inl x4)] [.inl 1] _ Q
        refine x_zne (pc := 88) 97 dX10_readNumber_88 (by decide) ⟨by decide, by decide⟩ (fun _ => ?_) (fun hx => absurd hx (by decide))
        refine x_iload (pc := 97) dX10_readNumber_97 rfl ?_
        exact x_iret (pc := 99) dX10_readNumber_99 (Or.inl rfl) h
      · replace h := h.2 hc
        show fx_At E m_X10_readNumber 88 [some (.inr a0), some (.inl x1), some (.inl x2), some (.inl x3), some (.inl x4)] [.inl 0] _ Q
        refine x_zne (pc := 88) 97 dX10_readNumber_88 (by decide) ⟨by decide, by decide⟩ (fun hx => absurd hx (by decide)) (fun _ => ?_)
        refine x_aload_n (pc := 91) dX10_readNumber_91 rfl rfl ?_
        refine x_iload_n (pc := 92) dX10_readNumber_92 rfl rfl ?_
        refine x_iconst (pc := 93) dX10_readNumber_93 ?_
        obtain ⟨R14, hc14, h⟩ := h
        refine x_callV (pc := 94) (z := m_X10_fails) (b := a0) (as := [.inl x3, .inl 2]) (rest := []) dX10_readNumber_94 c_RX10_213 (by decide) hk0 rfl (Nat.le_of_ble_eq_true rfl) hc14 (fun r M14 hr => ?_)
        obtain ⟨rfl, hr⟩ := hr
        replace h := h M14 hr
        show fx_At E m_X10_readNumber 97 [some (.inr a0), some (.inl x1), some (.inl x2), some (.inl x3), some (.inl x4)] [] M14 Q
        refine x_iload (pc := 97) dX10_readNumber_97 rfl ?_
        exact x_iret (pc := 99) dX10_readNumber_99 (Or.inl rfl) h
    · replace h := h.2 hc
      refine x_aload_n (pc := 41) dX10_readNumber_41 rfl rfl ?_
      obtain ⟨R15, hc15, h⟩ := h
      refine x_callV (pc := 42) (z := m_X10_isDigit) (b := a0) (as := []) (rest := []) dX10_readNumber_42 c_RX10_210 (by decide) hk0 rfl (Nat.le_of_ble_eq_true rfl) hc15 (fun r M15 hr => ?_)
      obtain ⟨v15, rfl, hr⟩ := hr
      replace h := h v15 M15 hr
      show fx_At E m_X10_readNumber 45 [some (.inr a0), some (.inl x1), some (.inl x2), some (.inl x3), some (.inl x4)] [.inl v15] M15 Q
      obtain ⟨g16, h⟩ := h
      refine x_zeq (pc := 45) 81 dX10_readNumber_45 (by decide) g16 (fun hc => ?_) (fun hc => ?_)
      · replace h := h.1 hc
        refine x_iload (pc := 81) dX10_readNumber_81 rfl ?_
        refine x_iload_n (pc := 83) dX10_readNumber_83 rfl rfl ?_
        refine x_iload_n (pc := 84) dX10_readNumber_84 rfl rfl ?_
        obtain ⟨g17, h⟩ := h
        obtain ⟨g18, h⟩ := h
        obtain ⟨g19, h⟩ := h
        refine x_callS (pc := 85) (z := m_X10_isIn) (as := [.inl x4, .inl x1, .inl x2]) (rest := []) dX10_readNumber_85 c_RX10_74 (by decide) rfl (Nat.le_of_ble_eq_true rfl) (ct_isIn hW g17 g18 g19) (fun r M9 hr => ?_)
        obtain ⟨hM9, hr⟩ := hr
        rw [hM9]
        clear hM9
        obtain ⟨hc, rfl⟩ | ⟨hc, rfl⟩ := hr
        · replace h := h.1 hc
          show fx_At E m_X10_readNumber 88 [some (.inr a0), some (.inl x1), some (.inl x2), some (.inl x3), some (.inl x4)] [.inl 1] _ Q
          refine x_zne (pc := 88) 97 dX10_readNumber_88 (by decide) ⟨by decide, by decide⟩ (fun _ => ?_) (fun hx => absurd hx (by decide))
          refine x_iload (pc := 97) dX10_readNumber_97 rfl ?_
          exact x_iret (pc := 99) dX10_readNumber_99 (Or.inl rfl) h
        · replace h := h.2 hc
          show fx_At E m_X10_readNumber 88 [some (.inr a0), some (.inl x1), some (.inl x2), some (.inl x3), some (.inl x4)] [.inl 0] _ Q
          refine x_zne (pc := 88) 97 dX10_readNumber_88 (by decide) ⟨by decide, by decide⟩ (fun hx => absurd hx (by decide)) (fun _ => ?_)
          refine x_aload_n (pc := 91) dX10_readNumber_91 rfl rfl ?_
          refine x_iload_n (pc := 92) dX10_readNumber_92 rfl rfl ?_
          refine x_iconst (pc := 93) dX10_readNumber_93 ?_
          obtain ⟨R21, hc21, h⟩ := h
          refine x_callV (pc := 94) (z := m_X10_fails) (b := a0) (as := [.inl x3, .inl 2]) (rest := []) dX10_readNumber_94 c_RX10_213 (by decide) hk0 rfl (Nat.le_of_ble_eq_true rfl) hc21 (fun r M21 hr => ?_)
          obtain ⟨rfl, hr⟩ := hr
          replace h := h M21 hr
          show fx_At E m_X10_readNumber 97 [some (.inr a0), some (.inl x1), some (.inl x2), some (.inl x3), some (.inl x4)] [] M21 Q
          refine x_iload (pc := 97) dX10_readNumber_97 rfl ?_
          exact x_iret (pc := 99) dX10_readNumber_99 (Or.inl rfl) h
      · replace h := h.2 hc
        refine x_bipush (pc := 48) dX10_readNumber_48 (by decide +kernel) ?_
        refine x_iload (pc := 50) dX10_readNumber_50 rfl ?_
        refine x_imul (pc := 52) dX10_readNumber_52 ?_
        refine x_aload_n (pc := 53) dX10_readNumber_53 rfl rfl ?_
        refine x_getr (pc := 54) dX10_readNumber_54 f_RX10_20 hk0 ?_
        refine x_aload_n (pc := 57) dX10_readNumber_57 rfl rfl ?_
        refine x_geti (pc := 58) dX10_readNumber_58 f_RX10_207 hk0 ?_
        obtain ⟨g22, h⟩ := h
        refine x_iald (pc := 61) dX10_readNumber_61 (wk_10_5 hW hk0) (wl_10_5 hW hk0) g22 ?_
        refine x_iadd (pc := 62) dX10_readNumber_62 ?_
        refine x_bipush (pc := 63) dX10_readNumber_63 (by decide +kernel) ?_
        refine x_isub (pc := 65) dX10_readNumber_65 ?_
        refine x_istore (pc := 66) (lv' := [some (.inr a0), some (.inl x1), some (.inl x2), some (.inl x3), some (.inl (((10 * x4) + (M15 (rf E a0 5) ((M15 a0 20).toNat))) - 48))]) dX10_readNumber_66 (by decide) rfl ?_
        refine x_aload_n (pc := 68) dX10_readNumber_68 rfl rfl ?_
        refine x_dup (pc := 69) dX10_readNumber_69 ?_
        refine x_geti (pc := 70) dX10_readNumber_70 f_RX10_207 hk0 ?_
        refine x_iconst (pc := 73) dX10_readNumber_73 ?_
        refine x_iadd (pc := 74) dX10_readNumber_74 ?_
        refine x_puti (pc := 75) dX10_readNumber_75 f_RX10_207 hk0 (fun M23 hM23 => ?_)
        replace h := h M23 hM23
        refine x_goto (pc := 78) 24 dX10_readNumber_78 (by decide) ?_
        exact h
theorem dX10_want_0 : decode cX10_want 0 = .ok (.aload_n 0, 1) := by decide +kernel
theorem dX10_want_1 : decode cX10_want 1 = .ok (.getfield 207, 3) := by decide +kernel
theorem dX10_want_4 : decode cX10_want 4 = .ok (.aload_n 0, 1) := by decide +kernel
theorem dX10_want_5 : decode cX10_want 5 = .ok (.getfield 99, 3) := by decide +kernel
theorem dX10_want_8 : decode cX10_want 8 = .ok (.if_icmp .ge 16, 3) := by decide +kernel
theorem dX10_want_11 : decode cX10_want 11 = .ok (.aload_n 0, 1) := by decide +kernel
theorem dX10_want_12 : decode cX10_want 12 = .ok (.getfield 20, 3) := by decide +kernel
theorem dX10_want_15 : decode cX10_want 15 = .ok (.aload_n 0, 1) := by decide +kernel
theorem dX10_want_16 : decode cX10_want 16 = .ok (.getfield 207, 3) := by decide +kernel
theorem dX10_want_19 : decode cX10_want 19 = .ok (.iaload, 1) := by decide +kernel
theorem dX10_want_20 : decode cX10_want 20 = .ok (.iload_n 1, 1) := by decide +kernel
theorem dX10_want_21 : decode cX10_want 21 = .ok (.if_icmp .eq 12, 3) := by decide +kernel
theorem dX10_want_24 : decode cX10_want 24 = .ok (.aload_n 0, 1) := by decide +kernel
theorem dX10_want_25 : decode cX10_want 25 = .ok (.aload_n 0, 1) := by decide +kernel
theorem dX10_want_26 : decode cX10_want 26 = .ok (.getfield 207, 3) := by decide +kernel
theorem dX10_want_29 : decode cX10_want 29 = .ok (.iconst 1, 1) := by decide +kernel
theorem dX10_want_30 : decode cX10_want 30 = .ok (.invokevirtual 213, 3) := by decide +kernel
theorem dX10_want_33 : decode cX10_want 33 = .ok (.aload_n 0, 1) := by decide +kernel
theorem dX10_want_34 : decode cX10_want 34 = .ok (.dup, 1) := by decide +kernel
theorem dX10_want_35 : decode cX10_want 35 = .ok (.getfield 207, 3) := by decide +kernel
theorem dX10_want_38 : decode cX10_want 38 = .ok (.iconst 1, 1) := by decide +kernel
theorem dX10_want_39 : decode cX10_want 39 = .ok (.iadd, 1) := by decide +kernel
theorem dX10_want_40 : decode cX10_want 40 = .ok (.putfield 207, 3) := by decide +kernel
theorem dX10_want_43 : decode cX10_want 43 = .ok (.return_, 1) := by decide +kernel
set_option maxRecDepth 100000 in
theorem b_X10_want_0 {E : fxE} (hW : fx_Wt E) (a0 : Nat) (x1 : Int) (M : fxM) (Q : Option fxV → fxM → Prop) (hk0 : kd E a0 = 10) (h : (-2147483648 ≤ (M a0 20) ∧ (M a0 20) < 2147483648) ∧ (-2147483648 ≤ (M a0 6) ∧ (M a0 6) < 2147483648) ∧ (((M a0 6) ≤ (M a0 20) → ∃ R3 : fxM → Prop, CtV E m_X10_fails [.inr a0, .inl (M a0 20), .inl 1] M R3 ∧ ∀ M3 : fxM, R3 M3 → ∀ M4 : fxM, M4 = mset M3 a0 20 ((M3 a0 20) + 1) → Q none M4) ∧ (¬ (M a0 6) ≤ (M a0 20) → (0 ≤ (M a0 20) ∧ (M a0 20) < 120) ∧ (-2147483648 ≤ (M (rf E a0 5) ((M a0 20).toNat)) ∧ (M (rf E a0 5) ((M a0 20).toNat)) < 2147483648) ∧ (-2147483648 ≤ x1 ∧ x1 < 2147483648) ∧ (((M (rf E a0 5) ((M a0 20).toNat)) = x1 → ∀ M8 : fxM, M8 = mset M a0 20 ((M a0 20) + 1) → Q none M8) ∧ (¬ (M (rf E a0 5) ((M a0 20).toNat)) = x1 → ∃ R9 : fxM → Prop, CtV E m_X10_fails [.inr a0, .inl (M a0 20), .inl 1] M R9 ∧ ∀ M9 : fxM, R9 M9 → ∀ M10 : fxM, M10 = mset M9 a0 20 ((M9 a0 20) + 1) → Q none M10))))) : fx_At E m_X10_want 0 [some (.inr a0), some (.inl x1)] [] M Q := by
  refine x_aload_n (pc := 0) dX10_want_0 rfl rfl ?_
  refine x_geti (pc := 1) dX10_want_1 f_RX10_207 hk0 ?_
  refine x_aload_n (pc := 4) dX10_want_4 rfl rfl ?_
  refine x_geti (pc := 5) dX10_want_5 f_RX10_99 hk0 ?_
  obtain ⟨g1, h⟩ := h
  obtain ⟨g2, h⟩ := h
  refine x_cge (pc := 8) 24 dX10_want_8 (by decide) ⟨g1, g2⟩ (fun hc => ?_) (fun hc => ?_)
  · replace h := h.1 hc
    refine x_aload_n (pc := 24) dX10_want_24 rfl rfl ?_
    refine x_aload_n (pc := 25) dX10_want_25 rfl rfl ?_
    refine x_geti (pc := 26) dX10_want_26 f_RX10_207 hk0 ?_
    refine x_iconst (pc := 29) dX10_want_29 ?_
    obtain ⟨R3, hc3, h⟩ := h
    refine x_callV (pc := 30) (z := m_X10_fails) (b := a0) (as := [.inl (M a0 20), .inl 1]) (rest := []) dX10_want_30 c_RX10_213 (by decide) hk0 rfl (Nat.le_of_ble_eq_true rfl) hc3 (fun r M3 hr => ?_)
    obtain ⟨rfl, hr⟩ := hr
    replace h := h M3 hr
    show fx_At E m_X10_want 33 [some (.inr a0), some (.inl x1)] [] M3 Q
    refine x_aload_n (pc := 33) dX10_want_33 rfl rfl ?_
    refine x_dup (pc := 34) dX10_want_34 ?_
    refine x_geti (pc := 35) dX10_want_35 f_RX10_207 hk0 ?_
    refine x_iconst (pc := 38) dX10_want_38 ?_
    refine x_iadd (pc := 39) dX10_want_39 ?_
    refine x_puti (pc := 40) dX10_want_40 f_RX10_207 hk0 (fun M4 hM4 => ?_)
    replace h := h M4 hM4
    exact x_vret (pc := 43) dX10_want_43 rfl h
  · replace h := h.2 hc
    refine x_aload_n (pc := 11) dX10_want_11 rfl rfl ?_
    refine x_getr (pc := 12) dX10_want_12 f_RX10_20 hk0 ?_
    refine x_aload_n (pc := 15) dX10_want_15 rfl rfl ?_
    refine x_geti (pc := 16) dX10_want_16 f_RX10_207 hk0 ?_
    obtain ⟨g5, h⟩ := h
    refine x_iald (pc := 19) dX10_want_19 (wk_10_5 hW hk0) (wl_10_5 hW hk0) g5 ?_
    refine x_iload_n (pc := 20) dX10_want_20 rfl rfl ?_
    obtain ⟨g6, h⟩ := h
    obtain ⟨g7, h⟩ := h
    refine x_ceq (pc := 21) 33 dX10_want_21 (by decide) ⟨g6, g7⟩ (fun hc => ?_) (fun hc => ?_)
    · replace h := h.1 hc
      refine x_aload_n (pc := 33) dX10_want_33 rfl rfl ?_
      refine x_dup (pc := 34) dX10_want_34 ?_
      refine x_geti (pc := 35) dX10_want_35 f_RX10_207 hk0 ?_
      refine x_iconst (pc := 38) dX10_want_38 ?_
      refine x_iadd (pc := 39) dX10_want_39 ?_
      refine x_puti (pc := 40) dX10_want_40 f_RX10_207 hk0 (fun M8 hM8 => ?_)
      replace h := h M8 hM8
      exact x_vret (pc := 43) dX10_want_43 rfl h
    · replace h := h.2 hc
      refine x_aload_n (pc := 24) dX10_want_24 rfl rfl ?_
      refine x_aload_n (pc := 25) dX10_want_25 rfl rfl ?_
      refine x_geti (pc := 26) dX10_want_26 f_RX10_207 hk0 ?_
      refine x_iconst (pc := 29) dX10_want_29 ?_
      obtain ⟨R9, hc9, h⟩ := h
      refine x_callV (pc := 30) (z := m_X10_fails) (b := a0) (as := [.inl (M a0 20), .inl 1]) (rest := []) dX10_want_30 c_RX10_213 (by decide) hk0 rfl (Nat.le_of_ble_eq_true rfl) hc9 (fun r M9 hr => ?_)
      obtain ⟨rfl, hr⟩ := hr
      replace h := h M9 hr
      show fx_At E m_X10_want 33 [some (.inr a0), some (.inl x1)] [] M9 Q
      refine x_aload_n (pc := 33) dX10_want_33 rfl rfl ?_
      refine x_dup (pc := 34) dX10_want_34 ?_
      refine x_geti (pc := 35) dX10_want_35 f_RX10_207 hk0 ?_
      refine x_iconst (pc := 38) dX10_want_38 ?_
      refine x_iadd (pc := 39) dX10_want_39 ?_
      refine x_puti (pc := 40) dX10_want_40 f_RX10_207 hk0 (fun M10 hM10 => ?_)
      replace h := h M10 hM10
      exact x_vret (pc := 43) dX10_want_43 rfl h
theorem dX10_readItem_0 : decode cX10_readItem 0 = .ok (.aload_n 0, 1) := by decide +kernel
theorem dX10_readItem_1 : decode cX10_readItem 1 = .ok (.getfield 207, 3) := by decide +kernel
theorem dX10_readItem_4 : decode cX10_readItem 4 = .ok (.istore_n 2, 1) := by decide +kernel
theorem dX10_readItem_5 : decode cX10_readItem 5 = .ok (.aload_n 0, 1) := by decide +kernel
theorem dX10_readItem_6 : decode cX10_readItem 6 = .ok (.getfield 216, 3) := by decide +kernel
theorem dX10_readItem_9 : decode cX10_readItem 9 = .ok (.bipush 8, 2) := by decide +kernel
theorem dX10_readItem_11 : decode cX10_readItem 11 = .ok (.if_icmp .ne 21, 3) := by decide +kernel
theorem dX10_readItem_14 : decode cX10_readItem 14 = .ok (.aload_n 0, 1) := by decide +kernel
theorem dX10_readItem_15 : decode cX10_readItem 15 = .ok (.iload_n 2, 1) := by decide +kernel
theorem dX10_readItem_16 : decode cX10_readItem 16 = .ok (.aload_n 0, 1) := by decide +kernel
theorem dX10_readItem_17 : decode cX10_readItem 17 = .ok (.invokevirtual 210, 3) := by decide +kernel
theorem dX10_readItem_20 : decode cX10_readItem 20 = .ok (.ifCond .eq 7, 3) := by decide +kernel
theorem dX10_readItem_23 : decode cX10_readItem 23 = .ok (.iconst 4, 1) := by decide +kernel
theorem dX10_readItem_24 : decode cX10_readItem 24 = .ok (.goto 4, 3) := by decide +kernel
theorem dX10_readItem_27 : decode cX10_readItem 27 = .ok (.iconst 1, 1) := by decide +kernel
theorem dX10_readItem_28 : decode cX10_readItem 28 = .ok (.invokevirtual 213, 3) := by decide +kernel
theorem dX10_readItem_31 : decode cX10_readItem 31 = .ok (.return_, 1) := by decide +kernel
theorem dX10_readItem_32 : decode cX10_readItem 32 = .ok (.aload_n 0, 1) := by decide +kernel
theorem dX10_readItem_33 : decode cX10_readItem 33 = .ok (.getfield 54, 3) := by decide +kernel
theorem dX10_readItem_36 : decode cX10_readItem 36 = .ok (.iconst 3, 1) := by decide +kernel
theorem dX10_readItem_37 : decode cX10_readItem 37 = .ok (.aload_n 0, 1) := by decide +kernel
theorem dX10_readItem_38 : decode cX10_readItem 38 = .ok (.getfield 216, 3) := by decide +kernel
theorem dX10_readItem_41 : decode cX10_readItem 41 = .ok (.imul, 1) := by decide +kernel
theorem dX10_readItem_42 : decode cX10_readItem 42 = .ok (.aload_n 0, 1) := by decide +kernel
theorem dX10_readItem_43 : decode cX10_readItem 43 = .ok (.iconst 1, 1) := by decide +kernel
theorem dX10_readItem_44 : decode cX10_readItem 44 = .ok (.bipush 100, 2) := by decide +kernel
theorem dX10_readItem_46 : decode cX10_readItem 46 = .ok (.invokevirtual 219, 3) := by decide +kernel
theorem dX10_readItem_49 : decode cX10_readItem 49 = .ok (.iastore, 1) := by decide +kernel
theorem dX10_readItem_50 : decode cX10_readItem 50 = .ok (.iload_n 1, 1) := by decide +kernel
theorem dX10_readItem_51 : decode cX10_readItem 51 = .ok (.aload_n 0, 1) := by decide +kernel
theorem dX10_readItem_52 : decode cX10_readItem 52 = .ok (.getfield 54, 3) := by decide +kernel
theorem dX10_readItem_55 : decode cX10_readItem 55 = .ok (.iconst 3, 1) := by decide +kernel
theorem dX10_readItem_56 : decode cX10_readItem 56 = .ok (.aload_n 0, 1) := by decide +kernel
theorem dX10_readItem_57 : decode cX10_readItem 57 = .ok (.getfield 216, 3) := by decide +kernel
theorem dX10_readItem_60 : decode cX10_readItem 60 = .ok (.imul, 1) := by decide +kernel
theorem dX10_readItem_61 : decode cX10_readItem 61 = .ok (.iaload, 1) := by decide +kernel
theorem dX10_readItem_62 : decode cX10_readItem 62 = .ok (.iadd, 1) := by decide +kernel
theorem dX10_readItem_63 : decode cX10_readItem 63 = .ok (.sipush 300, 3) := by decide +kernel
theorem dX10_readItem_66 : decode cX10_readItem 66 = .ok (.if_icmp .le 9, 3) := by decide +kernel
theorem dX10_readItem_69 : decode cX10_readItem 69 = .ok (.aload_n 0, 1) := by decide +kernel
theorem dX10_readItem_70 : decode cX10_readItem 70 = .ok (.iload_n 2, 1) := by decide +kernel
theorem dX10_readItem_71 : decode cX10_readItem 71 = .ok (.iconst 3, 1) := by decide +kernel
theorem dX10_readItem_72 : decode cX10_readItem 72 = .ok (.invokevirtual 213, 3) := by decide +kernel
theorem dX10_readItem_75 : decode cX10_readItem 75 = .ok (.aload_n 0, 1) := by decide +kernel
theorem dX10_readItem_76 : decode cX10_readItem 76 = .ok (.bipush 120, 2) := by decide +kernel
theorem dX10_readItem_78 : decode cX10_readItem 78 = .ok (.invokevirtual 222, 3) := by decide +kernel
theorem dX10_readItem_81 : decode cX10_readItem 81 = .ok (.aload_n 0, 1) := by decide +kernel
theorem dX10_readItem_82 : decode cX10_readItem 82 = .ok (.invokevirtual 200, 3) := by decide +kernel
theorem dX10_readItem_85 : decode cX10_readItem 85 = .ok (.ifCond .ne 29, 3) := by decide +kernel
theorem dX10_readItem_88 : decode cX10_readItem 88 = .ok (.aload_n 0, 1) := by decide +kernel
theorem dX10_readItem_89 : decode cX10_readItem 89 = .ok (.getfield 54, 3) := by decide +kernel
theorem dX10_readItem_92 : decode cX10_readItem 92 = .ok (.iconst 3, 1) := by decide +kernel
theorem dX10_readItem_93 : decode cX10_readItem 93 = .ok (.aload_n 0, 1) := by decide +kernel
theorem dX10_readItem_94 : decode cX10_readItem 94 = .ok (.getfield 216, 3) := by decide +kernel
theorem dX10_readItem_97 : decode cX10_readItem 97 = .ok (.imul, 1) := by decide +kernel
theorem dX10_readItem_98 : decode cX10_readItem 98 = .ok (.iconst 1, 1) := by decide +kernel
theorem dX10_readItem_99 : decode cX10_readItem 99 = .ok (.iadd, 1) := by decide +kernel
theorem dX10_readItem_100 : decode cX10_readItem 100 = .ok (.aload_n 0, 1) := by decide +kernel
theorem dX10_readItem_101 : decode cX10_readItem 101 = .ok (.iconst 1, 1) := by decide +kernel
theorem dX10_readItem_102 : decode cX10_readItem 102 = .ok (.bipush 60, 2) := by decide +kernel
theorem dX10_readItem_104 : decode cX10_readItem 104 = .ok (.invokevirtual 219, 3) := by decide +kernel
theorem dX10_readItem_107 : decode cX10_readItem 107 = .ok (.iastore, 1) := by decide +kernel
theorem dX10_readItem_108 : decode cX10_readItem 108 = .ok (.aload_n 0, 1) := by decide +kernel
theorem dX10_readItem_109 : decode cX10_readItem 109 = .ok (.bipush 98, 2) := by decide +kernel
theorem dX10_readItem_111 : decode cX10_readItem 111 = .ok (.invokevirtual 222, 3) := by decide +kernel
theorem dX10_readItem_114 : decode cX10_readItem 114 = .ok (.aload_n 0, 1) := by decide +kernel
theorem dX10_readItem_115 : decode cX10_readItem 115 = .ok (.invokevirtual 200, 3) := by decide +kernel
theorem dX10_readItem_118 : decode cX10_readItem 118 = .ok (.ifCond .ne 30, 3) := by decide +kernel
theorem dX10_readItem_121 : decode cX10_readItem 121 = .ok (.aload_n 0, 1) := by decide +kernel
theorem dX10_readItem_122 : decode cX10_readItem 122 = .ok (.getfield 54, 3) := by decide +kernel
theorem dX10_readItem_125 : decode cX10_readItem 125 = .ok (.iconst 3, 1) := by decide +kernel
theorem dX10_readItem_126 : decode cX10_readItem 126 = .ok (.aload_n 0, 1) := by decide +kernel
theorem dX10_readItem_127 : decode cX10_readItem 127 = .ok (.getfield 216, 3) := by decide +kernel
theorem dX10_readItem_130 : decode cX10_readItem 130 = .ok (.imul, 1) := by decide +kernel
theorem dX10_readItem_131 : decode cX10_readItem 131 = .ok (.iconst 2, 1) := by decide +kernel
theorem dX10_readItem_132 : decode cX10_readItem 132 = .ok (.iadd, 1) := by decide +kernel
theorem dX10_readItem_133 : decode cX10_readItem 133 = .ok (.aload_n 0, 1) := by decide +kernel
theorem dX10_readItem_134 : decode cX10_readItem 134 = .ok (.iconst 0, 1) := by decide +kernel
theorem dX10_readItem_135 : decode cX10_readItem 135 = .ok (.sipush 2000, 3) := by decide +kernel
theorem dX10_readItem_138 : decode cX10_readItem 138 = .ok (.invokevirtual 219, 3) := by decide +kernel
theorem dX10_readItem_141 : decode cX10_readItem 141 = .ok (.iastore, 1) := by decide +kernel
theorem dX10_readItem_142 : decode cX10_readItem 142 = .ok (.aload_n 0, 1) := by decide +kernel
theorem dX10_readItem_143 : decode cX10_readItem 143 = .ok (.bipush 59, 2) := by decide +kernel
theorem dX10_readItem_145 : decode cX10_readItem 145 = .ok (.invokevirtual 222, 3) := by decide +kernel
theorem dX10_readItem_148 : decode cX10_readItem 148 = .ok (.aload_n 0, 1) := by decide +kernel
theorem dX10_readItem_149 : decode cX10_readItem 149 = .ok (.dup, 1) := by decide +kernel
theorem dX10_readItem_150 : decode cX10_readItem 150 = .ok (.getfield 216, 3) := by decide +kernel
theorem dX10_readItem_153 : decode cX10_readItem 153 = .ok (.iconst 1, 1) := by decide +kernel
theorem dX10_readItem_154 : decode cX10_readItem 154 = .ok (.iadd, 1) := by decide +kernel
theorem dX10_readItem_155 : decode cX10_readItem 155 = .ok (.putfield 216, 3) := by decide +kernel
theorem dX10_readItem_158 : decode cX10_readItem 158 = .ok (.return_, 1) := by decide +kernel
set_option maxRecDepth 100000 in
theorem b_X10_readItem_0 {E : fxE} (hW : fx_Wt E) (a0 : Nat) (x1 : Int) (M : fxM) (Q : Option fxV → fxM → Prop) (hk0 : kd E a0 = 10) (h : (-2147483648 ≤ (M a0 24) ∧ (M a0 24) < 2147483648) ∧ ((¬ (M a0 24) = (8 : Int) → ∃ R2 : Int → fxM → Prop, CtI E m_X10_readNumber [.inr a0, .inl 1, .inl 100] M R2 ∧ ∀ (v2 : Int) (M2 : fxM), R2 v2 M2 → (0 ≤ (3 * (M a0 24)) ∧ (3 * (M a0 24)) < 24) ∧ ∀ M4 : fxM, M4 = mset M2 (rf E a0 23) ((3 * (M a0 24)).toNat) v2 → (0 ≤ (3 * (M4 a0 24)) ∧ (3 * (M4 a0 24)) < 24) ∧ (-2147483648 ≤ (x1 + (M4 (rf E a0 23) ((3 * (M4 a0 24)).toNat))) ∧ (x1 + (M4 (rf E a0 23) ((3 * (M4 a0 24)).toNat))) < 2147483648) ∧ (((x1 + (M4 (rf E a0 23) ((3 * (M4 a0 24)).toNat))) ≤ (300 : Int) → fx_At E m_X10_readItem 75 [some (.inr a0), some (.inl x1), some (.inl (M a0 20))] [] M4 Q) ∧ (¬ (x1 + (M4 (rf E a0 23) ((3 * (M4 a0 24)).toNat))) ≤ (300 : Int) → ∃ R7 : fxM → Prop, CtV E m_X10_fails [.inr a0, .inl (M a0 20), .inl 3] M4 R7 ∧ ∀ M7 : fxM, R7 M7 → fx_At E m_X10_readItem 75 [some (.inr a0), some (.inl x1), some (.inl (M a0 20))] [] M7 Q))) ∧ ((M a0 24) = (8 : Int) → ∃ R8 : Int → fxM → Prop, CtI E m_X10_isDigit [.inr a0] M R8 ∧ ∀ (v8 : Int) (M8 : fxM), R8 v8 M8 → (-2147483648 ≤ v8 ∧ v8 < 2147483648) ∧ ((v8 = (0 : Int) → ∃ R10 : fxM → Prop, CtV E m_X10_fails [.inr a0, .inl (M a0 20), .inl 1] M8 R10 ∧ ∀ M10 : fxM, R10 M10 → Q none M10) ∧ (¬ v8 = (0 : Int) → ∃ R11 : fxM → Prop, CtV E m_X10_fails [.inr a0, .inl (M a0 20), .inl 4] M8 R11 ∧ ∀ M11 : fxM, R11 M11 → Q none M11))))) : fx_At E m_X10_readItem 0 [some (.inr a0), some (.inl x1), none] [] M Q := by
  refine x_aload_n (pc := 0) dX10_readItem_0 rfl rfl ?_
  refine x_geti (pc := 1) dX10_readItem_1 f_RX10_207 hk0 ?_
  refine x_istore_n (pc := 4) (lv' := [some (.inr a0), some (.inl x1), some (.inl (M a0 20))]) dX10_readItem_4 rfl (by decide) rfl ?_
  refine x_aload_n (pc := 5) dX10_readItem_5 rfl rfl ?_
  refine x_geti (pc := 6) dX10_readItem_6 f_RX10_216 hk0 ?_
  refine x_bipush (pc := 9) dX10_readItem_9 (by decide +kernel) ?_
  obtain ⟨g1, h⟩ := h
  refine x_cne (pc := 11) 32 dX10_readItem_11 (by decide) ⟨g1, ⟨by decide, by decide⟩⟩ (fun hc => ?_) (fun hc => ?_)
  · replace h := h.1 hc
    refine x_aload_n (pc := 32) dX10_readItem_32 rfl rfl ?_
    refine x_getr (pc := 33) dX10_readItem_33 f_RX10_54 hk0 ?_
    refine x_iconst (pc := 36) dX10_readItem_36 ?_
    refine x_aload_n (pc := 37) dX10_readItem_37 rfl rfl ?_
    refine x_geti (pc := 38) dX10_readItem_38 f_RX10_216 hk0 ?_
    refine x_imul (pc := 41) dX10_readItem_41 ?_
    refine x_aload_n (pc := 42) dX10_readItem_42 rfl rfl ?_
    refine x_iconst (pc := 43) dX10_readItem_43 ?_
    refine x_bipush (pc := 44) dX10_readItem_44 (by decide +kernel) ?_
    obtain ⟨R2, hc2, h⟩ := h
    refine x_callV (pc := 46) (z := m_X10_readNumber) (b := a0) (as := [.inl 1, .inl 100]) (rest := [.inl (3 * (M a0 24)), .inr (rf E a0 23)]) dX10_readItem_46 c_RX10_219 (by decide) hk0 rfl (Nat.le_of_ble_eq_true rfl) hc2 (fun r M2 hr => ?_)
    obtain ⟨v2, rfl, hr⟩ := hr
    replace h := h v2 M2 hr
    show fx_At E m_X10_readItem 49 [some (.inr a0), some (.inl x1), some (.inl (M a0 20))] [.inl v2, .inl (3 * (M a0 24)), .inr (rf E a0 23)] M2 Q
    obtain ⟨g3, h⟩ := h
    refine x_iast (pc := 49) dX10_readItem_49 (wk_10_23 hW hk0) (wl_10_23 hW hk0) g3 (fun M4 hM4 => ?_)
    replace h := h M4 hM4
    refine x_iload_n (pc := 50) dX10_readItem_50 rfl rfl ?_
    refine x_aload_n (pc := 51) dX10_readItem_51 rfl rfl ?_
    refine x_getr (pc := 52) dX10_readItem_52 f_RX10_54 hk0 ?_
    refine x_iconst (pc := 55) dX10_readItem_55 ?_
    refine x_aload_n (pc := 56) dX10_readItem_56 rfl rfl ?_
    refine x_geti (pc := 57) dX10_readItem_57 f_RX10_216 hk0 ?_
    refine x_imul (pc := 60) dX10_readItem_60 ?_
    obtain ⟨g5, h⟩ := h
    refine x_iald (pc := 61) dX10_readItem_61 (wk_10_23 hW hk0) (wl_10_23 hW hk0) g5 ?_
    refine x_iadd (pc := 62) dX10_readItem_62 ?_
    refine x_sipush (pc := 63) dX10_readItem_63 (by decide +kernel) ?_
    obtain ⟨g6, h⟩ := h
    refine x_cle (pc := 66) 75 dX10_readItem_66 (by decide) ⟨g6, ⟨by decide, by decide⟩⟩ (fun hc => ?_) (fun hc => ?_)
    · replace h := h.1 hc
      exact h
    · replace h := h.2 hc
      refine x_aload_n (pc := 69) dX10_readItem_69 rfl rfl ?_
      refine x_iload_n (pc := 70) dX10_readItem_70 rfl rfl ?_
      refine x_iconst (pc := 71) dX10_readItem_71 ?_
      obtain ⟨R7, hc7, h⟩ := h
      refine x_callV (pc := 72) (z := m_X10_fails) (b := a0) (as := [.inl (M a0 20), .inl 3]) (rest := []) dX10_readItem_72 c_RX10_213 (by decide) hk0 rfl (Nat.le_of_ble_eq_true rfl) hc7 (fun r M7 hr => ?_)
      obtain ⟨rfl, hr⟩ := hr
      replace h := h M7 hr
      show fx_At E m_X10_readItem 75 [some (.inr a0), some (.inl x1), some (.inl (M a0 20))] [] M7 Q
      exact h
  · replace h := h.2 hc
    refine x_aload_n (pc := 14) dX10_readItem_14 rfl rfl ?_
    refine x_iload_n (pc := 15) dX10_readItem_15 rfl rfl ?_
    refine x_aload_n (pc := 16) dX10_readItem_16 rfl rfl ?_
    obtain ⟨R8, hc8, h⟩ := h
    refine x_callV (pc := 17) (z := m_X10_isDigit) (b := a0) (as := []) (rest := [.inl (M a0 20), .inr a0]) dX10_readItem_17 c_RX10_210 (by decide) hk0 rfl (Nat.le_of_ble_eq_true rfl) hc8 (fun r M8 hr => ?_)
    obtain ⟨v8, rfl, hr⟩ := hr
    replace h := h v8 M8 hr
    show fx_At E m_X10_readItem 20 [some (.inr a0), some (.inl x1), some (.inl (M a0 20))] [.inl v8, .inl (M a0 20), .inr a0] M8 Q
    obtain ⟨g9, h⟩ := h
    refine x_zeq (pc := 20) 27 dX10_readItem_20 (by decide) g9 (fun hc => ?_) (fun hc => ?_)
    · replace h := h.1 hc
      refine x_iconst (pc := 27) dX10_readItem_27 ?_
      obtain ⟨R10, hc10, h⟩ := h
      refine x_callV (pc := 28) (z := m_X10_fails) (b := a0) (as := [.inl (M a0 20), .inl 1]) (rest := []) dX10_readItem_28 c_RX10_213 (by decide) hk0 rfl (Nat.le_of_ble_eq_true rfl) hc10 (fun r M10 hr => ?_)
      obtain ⟨rfl, hr⟩ := hr
      replace h := h M10 hr
      show fx_At E m_X10_readItem 31 [some (.inr a0), some (.inl x1), some (.inl (M a0 20))] [] M10 Q
      exact x_vret (pc := 31) dX10_readItem_31 rfl h
    · replace h := h.2 hc
      refine x_iconst (pc := 23) dX10_readItem_23 ?_
      refine x_goto (pc := 24) 28 dX10_readItem_24 (by decide) ?_
      obtain ⟨R11, hc11, h⟩ := h
      refine x_callV (pc := 28) (z := m_X10_fails) (b := a0) (as := [.inl (M a0 20), .inl 4]) (rest := []) dX10_readItem_28 c_RX10_213 (by decide) hk0 rfl (Nat.le_of_ble_eq_true rfl) hc11 (fun r M11 hr => ?_)
      obtain ⟨rfl, hr⟩ := hr
      replace h := h M11 hr
      show fx_At E m_X10_readItem 31 [some (.inr a0), some (.inl x1), some (.inl (M a0 20))] [] M11 Q
      exact x_vret (pc := 31) dX10_readItem_31 rfl h
set_option maxRecDepth 100000 in
theorem b_X10_readItem_75 {E : fxE} (hW : fx_Wt E) (a0 : Nat) (x1 : Int) (x2 : Int) (M : fxM) (Q : Option fxV → fxM → Prop) (hk0 : kd E a0 = 10) (h : ∃ R1 : fxM → Prop, CtV E m_X10_want [.inr a0, .inl 120] M R1 ∧ ∀ M1 : fxM, R1 M1 → (-2147483648 ≤ (M1 a0 22) ∧ (M1 a0 22) < 2147483648) ∧ ((¬ M1 a0 22 = -1000005 → fx_At E m_X10_readItem 114 [some (.inr a0), some (.inl x1), some (.inl x2)] [] M1 Q) ∧ (¬ (¬ M1 a0 22 = -1000005) → ∃ R4 : Int → fxM → Prop, CtI E m_X10_readNumber [.inr a0, .inl 1, .inl 60] M1 R4 ∧ ∀ (v4 : Int) (M4 : fxM), R4 v4 M4 → (0 ≤ ((3 * (M1 a0 24)) + 1) ∧ ((3 * (M1 a0 24)) + 1) < 24) ∧ ∀ M6 : fxM, M6 = mset M4 (rf E a0 23) (((3 * (M1 a0 24)) + 1).toNat) v4 → ∃ R7 : fxM → Prop, CtV E m_X10_want [.inr a0, .inl 98] M6 R7 ∧ ∀ M7 : fxM, R7 M7 → fx_At E m_X10_readItem 114 [some (.inr a0), some (.inl x1), some (.inl x2)] [] M7 Q))) : fx_At E m_X10_readItem 75 [some (.inr a0), some (.inl x1), some (.inl x2)] [] M Q := by
  refine x_aload_n (pc := 75) dX10_readItem_75 rfl rfl ?_
  refine x_bipush (pc := 76) dX10_readItem_76 (by decide +kernel) ?_
  obtain ⟨R1, hc1, h⟩ := h
  refine x_callV (pc := 78) (z := m_X10_want) (b := a0) (as := [.inl 120]) (rest := []) dX10_readItem_78 c_RX10_222 (by decide) hk0 rfl (Nat.le_of_ble_eq_true rfl) hc1 (fun r M1 hr => ?_)
  obtain ⟨rfl, hr⟩ := hr
  replace h := h M1 hr
  show fx_At E m_X10_readItem 81 [some (.inr a0), some (.inl x1), some (.inl x2)] [] M1 Q
  refine x_aload_n (pc := 81) dX10_readItem_81 rfl rfl ?_
  obtain ⟨g2, h⟩ := h
  refine x_callV (pc := 82) (z := m_X10_isWrong) (b := a0) (as := []) (rest := []) dX10_readItem_82 c_RX10_200 (by decide) hk0 rfl (Nat.le_of_ble_eq_true rfl) (ct_X10_isWrong hW hk0 g2) (fun r M9 hr => ?_)
  obtain ⟨hM9, hr⟩ := hr
  rw [hM9]
  clear hM9
  obtain ⟨hc, rfl⟩ | ⟨hc, rfl⟩ := hr
  · replace h := h.1 hc
    show fx_At E m_X10_readItem 85 [some (.inr a0), some (.inl x1), some (.inl x2)] [.inl 1] _ Q
    refine x_zne (pc := 85) 114 dX10_readItem_85 (by decide) ⟨by decide, by decide⟩ (fun _ => ?_) (fun hx => absurd hx (by decide))
    exact h
  · replace h := h.2 hc
    show fx_At E m_X10_readItem 85 [some (.inr a0), some (.inl x1), some (.inl x2)] [.inl 0] _ Q
    refine x_zne (pc := 85) 114 dX10_readItem_85 (by decide) ⟨by decide, by decide⟩ (fun hx => absurd hx (by decide)) (fun _ => ?_)
    refine x_aload_n (pc := 88) dX10_readItem_88 rfl rfl ?_
    refine x_getr (pc := 89) dX10_readItem_89 f_RX10_54 hk0 ?_
    refine x_iconst (pc := 92) dX10_readItem_92 ?_
    refine x_aload_n (pc := 93) dX10_readItem_93 rfl rfl ?_
    refine x_geti (pc := 94) dX10_readItem_94 f_RX10_216 hk0 ?_
    refine x_imul (pc := 97) dX10_readItem_97 ?_
    refine x_iconst (pc := 98) dX10_readItem_98 ?_
    refine x_iadd (pc := 99) dX10_readItem_99 ?_
    refine x_aload_n (pc := 100) dX10_readItem_100 rfl rfl ?_
    refine x_iconst (pc := 101) dX10_readItem_101 ?_
    refine x_bipush (pc := 102) dX10_readItem_102 (by decide +kernel) ?_
    obtain ⟨R4, hc4, h⟩ := h
    refine x_callV (pc := 104) (z := m_X10_readNumber) (b := a0) (as := [.inl 1, .inl 60]) (rest := [.inl ((3 * (M1 a0 24)) + 1), .inr (rf E a0 23)]) dX10_readItem_104 c_RX10_219 (by decide) hk0 rfl (Nat.le_of_ble_eq_true rfl) hc4 (fun r M4 hr => ?_)
    obtain ⟨v4, rfl, hr⟩ := hr
    replace h := h v4 M4 hr
    show fx_At E m_X10_readItem 107 [some (.inr a0), some (.inl x1), some (.inl x2)] [.inl v4, .inl ((3 * (M1 a0 24)) + 1), .inr (rf E a0 23)] M4 Q
    obtain ⟨g5, h⟩ := h
    refine x_iast (pc := 107) dX10_readItem_107 (wk_10_23 hW hk0) (wl_10_23 hW hk0) g5 (fun M6 hM6 => ?_)
    replace h := h M6 hM6
    refine x_aload_n (pc := 108) dX10_readItem_108 rfl rfl ?_
    refine x_bipush (pc := 109) dX10_readItem_109 (by decide +kernel) ?_
    obtain ⟨R7, hc7, h⟩ := h
    refine x_callV (pc := 111) (z := m_X10_want) (b := a0) (as := [.inl 98]) (rest := []) dX10_readItem_111 c_RX10_222 (by decide) hk0 rfl (Nat.le_of_ble_eq_true rfl) hc7 (fun r M7 hr => ?_)
    obtain ⟨rfl, hr⟩ := hr
    replace h := h M7 hr
    show fx_At E m_X10_readItem 114 [some (.inr a0), some (.inl x1), some (.inl x2)] [] M7 Q
    exact h
set_option maxRecDepth 100000 in
theorem b_X10_readItem_114 {E : fxE} (hW : fx_Wt E) (a0 : Nat) (x1 : Int) (x2 : Int) (M : fxM) (Q : Option fxV → fxM → Prop) (hk0 : kd E a0 = 10) (h : (-2147483648 ≤ (M a0 22) ∧ (M a0 22) < 2147483648) ∧ ((¬ M a0 22 = -1000005 → ∀ M3 : fxM, M3 = mset M a0 24 ((M a0 24) + 1) → Q none M3) ∧ (¬ (¬ M a0 22 = -1000005) → ∃ R4 : Int → fxM → Prop, CtI E m_X10_readNumber [.inr a0, .inl 0, .inl 2000] M R4 ∧ ∀ (v4 : Int) (M4 : fxM), R4 v4 M4 → (0 ≤ ((3 * (M a0 24)) + 2) ∧ ((3 * (M a0 24)) + 2) < 24) ∧ ∀ M6 : fxM, M6 = mset M4 (rf E a0 23) (((3 * (M a0 24)) + 2).toNat) v4 → ∃ R7 : fxM → Prop, CtV E m_X10_want [.inr a0, .inl 59] M6 R7 ∧ ∀ M7 : fxM, R7 M7 → ∀ M8 : fxM, M8 = mset M7 a0 24 ((M7 a0 24) + 1) → Q none M8))) : fx_At E m_X10_readItem 114 [some (.inr a0), some (.inl x1), some (.inl x2)] [] M Q := by
  refine x_aload_n (pc := 114) dX10_readItem_114 rfl rfl ?_
  obtain ⟨g1, h⟩ := h
  refine x_callV (pc := 115) (z := m_X10_isWrong) (b := a0) (as := []) (rest := []) dX10_readItem_115 c_RX10_200 (by decide) hk0 rfl (Nat.le_of_ble_eq_true rfl) (ct_X10_isWrong hW hk0 g1) (fun r M9 hr => ?_)
  obtain ⟨hM9, hr⟩ := hr
  rw [hM9]
  clear hM9
  obtain ⟨hc, rfl⟩ | ⟨hc, rfl⟩ := hr
  · replace h := h.1 hc
    show fx_At E m_X10_readItem 118 [some (.inr a0), some (.inl x1), some (.inl x2)] [.inl 1] _ Q
    refine x_zne (pc := 118) 148 dX10_readItem_118 (by decide) ⟨by decide, by decide⟩ (fun _ => ?_) (fun hx => absurd hx (by decide))
    refine x_aload_n (pc := 148) dX10_readItem_148 rfl rfl ?_
    refine x_dup (pc := 149) dX10_readItem_149 ?_
    refine x_geti (pc := 150) dX10_readItem_150 f_RX10_216 hk0 ?_
    refine x_iconst (pc := 153) dX10_readItem_153 ?_
    refine x_iadd (pc := 154) dX10_readItem_154 ?_
    refine x_puti (pc := 155) dX10_readItem_155 f_RX10_216 hk0 (fun M3 hM3 => ?_)
    replace h := h M3 hM3
    exact x_vret (pc := 158) dX10_readItem_158 rfl h
  · replace h := h.2 hc
    show fx_At E m_X10_readItem 118 [some (.inr a0), some (.inl x1), some (.inl x2)] [.inl 0] _ Q
    refine x_zne (pc := 118) 148 dX10_readItem_118 (by decide) ⟨by decide, by decide⟩ (fun hx => absurd hx (by decide)) (fun _ => ?_)
    refine x_aload_n (pc := 121) dX10_readItem_121 rfl rfl ?_
    refine x_getr (pc := 122) dX10_readItem_122 f_RX10_54 hk0 ?_
    refine x_iconst (pc := 125) dX10_readItem_125 ?_
    refine x_aload_n (pc := 126) dX10_readItem_126 rfl rfl ?_
    refine x_geti (pc := 127) dX10_readItem_127 f_RX10_216 hk0 ?_
    refine x_imul (pc := 130) dX10_readItem_130 ?_
    refine x_iconst (pc := 131) dX10_readItem_131 ?_
    refine x_iadd (pc := 132) dX10_readItem_132 ?_
    refine x_aload_n (pc := 133) dX10_readItem_133 rfl rfl ?_
    refine x_iconst (pc := 134) dX10_readItem_134 ?_
    refine x_sipush (pc := 135) dX10_readItem_135 (by decide +kernel) ?_
    obtain ⟨R4, hc4, h⟩ := h
    refine x_callV (pc := 138) (z := m_X10_readNumber) (b := a0) (as := [.inl 0, .inl 2000]) (rest := [.inl ((3 * (M a0 24)) + 2), .inr (rf E a0 23)]) dX10_readItem_138 c_RX10_219 (by decide) hk0 rfl (Nat.le_of_ble_eq_true rfl) hc4 (fun r M4 hr => ?_)
    obtain ⟨v4, rfl, hr⟩ := hr
    replace h := h v4 M4 hr
    show fx_At E m_X10_readItem 141 [some (.inr a0), some (.inl x1), some (.inl x2)] [.inl v4, .inl ((3 * (M a0 24)) + 2), .inr (rf E a0 23)] M4 Q
    obtain ⟨g5, h⟩ := h
    refine x_iast (pc := 141) dX10_readItem_141 (wk_10_23 hW hk0) (wl_10_23 hW hk0) g5 (fun M6 hM6 => ?_)
    replace h := h M6 hM6
    refine x_aload_n (pc := 142) dX10_readItem_142 rfl rfl ?_
    refine x_bipush (pc := 143) dX10_readItem_143 (by decide +kernel) ?_
    obtain ⟨R7, hc7, h⟩ := h
    refine x_callV (pc := 145) (z := m_X10_want) (b := a0) (as := [.inl 59]) (rest := []) dX10_readItem_145 c_RX10_222 (by decide) hk0 rfl (Nat.le_of_ble_eq_true rfl) hc7 (fun r M7 hr => ?_)
    obtain ⟨rfl, hr⟩ := hr
    replace h := h M7 hr
    show fx_At E m_X10_readItem 148 [some (.inr a0), some (.inl x1), some (.inl x2)] [] M7 Q
    refine x_aload_n (pc := 148) dX10_readItem_148 rfl rfl ?_
    refine x_dup (pc := 149) dX10_readItem_149 ?_
    refine x_geti (pc := 150) dX10_readItem_150 f_RX10_216 hk0 ?_
    refine x_iconst (pc := 153) dX10_readItem_153 ?_
    refine x_iadd (pc := 154) dX10_readItem_154 ?_
    refine x_puti (pc := 155) dX10_readItem_155 f_RX10_216 hk0 (fun M8 hM8 => ?_)
    replace h := h M8 hM8
    exact x_vret (pc := 158) dX10_readItem_158 rfl h
theorem dX10_readAll_0 : decode cX10_readAll 0 = .ok (.aload_n 0, 1) := by decide +kernel
theorem dX10_readAll_1 : decode cX10_readAll 1 = .ok (.iconst 0, 1) := by decide +kernel
theorem dX10_readAll_2 : decode cX10_readAll 2 = .ok (.putfield 207, 3) := by decide +kernel
theorem dX10_readAll_5 : decode cX10_readAll 5 = .ok (.aload_n 0, 1) := by decide +kernel
theorem dX10_readAll_6 : decode cX10_readAll 6 = .ok (.ldc 23, 2) := by decide +kernel
theorem dX10_readAll_8 : decode cX10_readAll 8 = .ok (.putfield 204, 3) := by decide +kernel
theorem dX10_readAll_11 : decode cX10_readAll 11 = .ok (.aload_n 0, 1) := by decide +kernel
theorem dX10_readAll_12 : decode cX10_readAll 12 = .ok (.ldc 23, 2) := by decide +kernel
theorem dX10_readAll_14 : decode cX10_readAll 14 = .ok (.putfield 197, 3) := by decide +kernel
theorem dX10_readAll_17 : decode cX10_readAll 17 = .ok (.aload_n 0, 1) := by decide +kernel
theorem dX10_readAll_18 : decode cX10_readAll 18 = .ok (.iconst 0, 1) := by decide +kernel
theorem dX10_readAll_19 : decode cX10_readAll 19 = .ok (.putfield 216, 3) := by decide +kernel
theorem dX10_readAll_22 : decode cX10_readAll 22 = .ok (.iconst 0, 1) := by decide +kernel
theorem dX10_readAll_23 : decode cX10_readAll 23 = .ok (.istore_n 1, 1) := by decide +kernel
theorem dX10_readAll_24 : decode cX10_readAll 24 = .ok (.aload_n 0, 1) := by decide +kernel
theorem dX10_readAll_25 : decode cX10_readAll 25 = .ok (.invokevirtual 200, 3) := by decide +kernel
theorem dX10_readAll_28 : decode cX10_readAll 28 = .ok (.ifCond .ne 63, 3) := by decide +kernel
theorem dX10_readAll_31 : decode cX10_readAll 31 = .ok (.aload_n 0, 1) := by decide +kernel
theorem dX10_readAll_32 : decode cX10_readAll 32 = .ok (.getfield 207, 3) := by decide +kernel
theorem dX10_readAll_35 : decode cX10_readAll 35 = .ok (.aload_n 0, 1) := by decide +kernel
theorem dX10_readAll_36 : decode cX10_readAll 36 = .ok (.getfield 99, 3) := by decide +kernel
theorem dX10_readAll_39 : decode cX10_readAll 39 = .ok (.if_icmp .lt 10, 3) := by decide +kernel
theorem dX10_readAll_42 : decode cX10_readAll 42 = .ok (.aload_n 0, 1) := by decide +kernel
theorem dX10_readAll_43 : decode cX10_readAll 43 = .ok (.getfield 216, 3) := by decide +kernel
theorem dX10_readAll_46 : decode cX10_readAll 46 = .ok (.ifCond .ne 45, 3) := by decide +kernel
theorem dX10_readAll_49 : decode cX10_readAll 49 = .ok (.aload_n 0, 1) := by decide +kernel
theorem dX10_readAll_50 : decode cX10_readAll 50 = .ok (.iload_n 1, 1) := by decide +kernel
theorem dX10_readAll_51 : decode cX10_readAll 51 = .ok (.invokevirtual 225, 3) := by decide +kernel
theorem dX10_readAll_54 : decode cX10_readAll 54 = .ok (.iload_n 1, 1) := by decide +kernel
theorem dX10_readAll_55 : decode cX10_readAll 55 = .ok (.aload_n 0, 1) := by decide +kernel
theorem dX10_readAll_56 : decode cX10_readAll 56 = .ok (.getfield 216, 3) := by decide +kernel
theorem dX10_readAll_59 : decode cX10_readAll 59 = .ok (.ifCond .le 26, 3) := by decide +kernel
theorem dX10_readAll_62 : decode cX10_readAll 62 = .ok (.aload_n 0, 1) := by decide +kernel
theorem dX10_readAll_63 : decode cX10_readAll 63 = .ok (.invokevirtual 200, 3) := by decide +kernel
theorem dX10_readAll_66 : decode cX10_readAll 66 = .ok (.ifCond .ne 19, 3) := by decide +kernel
theorem dX10_readAll_69 : decode cX10_readAll 69 = .ok (.aload_n 0, 1) := by decide +kernel
theorem dX10_readAll_70 : decode cX10_readAll 70 = .ok (.getfield 54, 3) := by decide +kernel
theorem dX10_readAll_73 : decode cX10_readAll 73 = .ok (.iconst 3, 1) := by decide +kernel
theorem dX10_readAll_74 : decode cX10_readAll 74 = .ok (.aload_n 0, 1) := by decide +kernel
theorem dX10_readAll_75 : decode cX10_readAll 75 = .ok (.getfield 216, 3) := by decide +kernel
theorem dX10_readAll_78 : decode cX10_readAll 78 = .ok (.imul, 1) := by decide +kernel
theorem dX10_readAll_79 : decode cX10_readAll 79 = .ok (.iconst 3, 1) := by decide +kernel
theorem dX10_readAll_80 : decode cX10_readAll 80 = .ok (.isub, 1) := by decide +kernel
theorem dX10_readAll_81 : decode cX10_readAll 81 = .ok (.iaload, 1) := by decide +kernel
theorem dX10_readAll_82 : decode cX10_readAll 82 = .ok (.goto 4, 3) := by decide +kernel
theorem dX10_readAll_85 : decode cX10_readAll 85 = .ok (.iconst 0, 1) := by decide +kernel
theorem dX10_readAll_86 : decode cX10_readAll 86 = .ok (.iadd, 1) := by decide +kernel
theorem dX10_readAll_87 : decode cX10_readAll 87 = .ok (.istore_n 1, 1) := by decide +kernel
theorem dX10_readAll_88 : decode cX10_readAll 88 = .ok (.goto (-64), 3) := by decide +kernel
theorem dX10_readAll_91 : decode cX10_readAll 91 = .ok (.return_, 1) := by decide +kernel
set_option maxRecDepth 100000 in
theorem b_X10_readAll_0 {E : fxE} (hW : fx_Wt E) (a0 : Nat) (M : fxM) (Q : Option fxV → fxM → Prop) (hk0 : kd E a0 = 10) (h : ∀ M1 : fxM, M1 = mset M a0 20 0 → ∀ M2 : fxM, M2 = mset M1 a0 21 (-1000005) → ∀ M3 : fxM, M3 = mset M2 a0 22 (-1000005) → ∀ M4 : fxM, M4 = mset M3 a0 24 0 → fx_At E m_X10_readAll 24 [some (.inr a0), some (.inl 0)] [] M4 Q) : fx_At E m_X10_readAll 0 [some (.inr a0), none] [] M Q := by
  refine x_aload_n (pc := 0) dX10_readAll_0 rfl rfl ?_
  refine x_iconst (pc := 1) dX10_readAll_1 ?_
  refine x_puti (pc := 2) dX10_readAll_2 f_RX10_207 hk0 (fun M1 hM1 => ?_)
  replace h := h M1 hM1
  refine x_aload_n (pc := 5) dX10_readAll_5 rfl rfl ?_
  refine x_ldc (pc := 6) (n := -1000005) dX10_readAll_6 k_RX10_23 rfl ?_
  refine x_puti (pc := 8) dX10_readAll_8 f_RX10_204 hk0 (fun M2 hM2 => ?_)
  replace h := h M2 hM2
  refine x_aload_n (pc := 11) dX10_readAll_11 rfl rfl ?_
  refine x_ldc (pc := 12) (n := -1000005) dX10_readAll_12 k_RX10_23 rfl ?_
  refine x_puti (pc := 14) dX10_readAll_14 f_RX10_197 hk0 (fun M3 hM3 => ?_)
  replace h := h M3 hM3
  refine x_aload_n (pc := 17) dX10_readAll_17 rfl rfl ?_
  refine x_iconst (pc := 18) dX10_readAll_18 ?_
  refine x_puti (pc := 19) dX10_readAll_19 f_RX10_216 hk0 (fun M4 hM4 => ?_)
  replace h := h M4 hM4
  refine x_iconst (pc := 22) dX10_readAll_22 ?_
  refine x_istore_n (pc := 23) (lv' := [some (.inr a0), some (.inl 0)]) dX10_readAll_23 rfl (by decide) rfl ?_
  exact h
set_option maxRecDepth 100000 in
theorem b_X10_readAll_24 {E : fxE} (hW : fx_Wt E) (a0 : Nat) (x1 : Int) (M : fxM) (Q : Option fxV → fxM → Prop) (hk0 : kd E a0 = 10) (h : (-2147483648 ≤ (M a0 22) ∧ (M a0 22) < 2147483648) ∧ ((¬ M a0 22 = -1000005 → Q none M) ∧ (¬ (¬ M a0 22 = -1000005) → (-2147483648 ≤ (M a0 20) ∧ (M a0 20) < 2147483648) ∧ (-2147483648 ≤ (M a0 6) ∧ (M a0 6) < 2147483648) ∧ (((M a0 20) < (M a0 6) → fx_At E m_X10_readAll 49 [some (.inr a0), some (.inl x1)] [] M Q) ∧ (¬ (M a0 20) < (M a0 6) → (-2147483648 ≤ (M a0 24) ∧ (M a0 24) < 2147483648) ∧ ((¬ (M a0 24) = (0 : Int) → Q none M) ∧ ((M a0 24) = (0 : Int) → fx_At E m_X10_readAll 49 [some (.inr a0), some (.inl x1)] [] M Q))))))) : fx_At E m_X10_readAll 24 [some (.inr a0), some (.inl x1)] [] M Q := by
  refine x_aload_n (pc := 24) dX10_readAll_24 rfl rfl ?_
  obtain ⟨g1, h⟩ := h
  refine x_callV (pc := 25) (z := m_X10_isWrong) (b := a0) (as := []) (rest := []) dX10_readAll_25 c_RX10_200 (by decide) hk0 rfl (Nat.le_of_ble_eq_true rfl) (ct_X10_isWrong hW hk0 g1) (fun r M9 hr => ?_)
  obtain ⟨hM9, hr⟩ := hr
  rw [hM9]
  clear hM9
  obtain ⟨hc, rfl⟩ | ⟨hc, rfl⟩ := hr
  · replace h := h.1 hc
    show fx_At E m_X10_readAll 28 [some (.inr a0), some (.inl x1)] [.inl 1] _ Q
    refine x_zne (pc := 28) 91 dX10_readAll_28 (by decide) ⟨by decide, by decide⟩ (fun _ => ?_) (fun hx => absurd hx (by decide))
    exact x_vret (pc := 91) dX10_readAll_91 rfl h
  · replace h := h.2 hc
    show fx_At E m_X10_readAll 28 [some (.inr a0), some (.inl x1)] [.inl 0] _ Q
    refine x_zne (pc := 28) 91 dX10_readAll_28 (by decide) ⟨by decide, by decide⟩ (fun hx => absurd hx (by decide)) (fun _ => ?_)
    refine x_aload_n (pc := 31) dX10_readAll_31 rfl rfl ?_
    refine x_geti (pc := 32) dX10_readAll_32 f_RX10_207 hk0 ?_
    refine x_aload_n (pc := 35) dX10_readAll_35 rfl rfl ?_
    refine x_geti (pc := 36) dX10_readAll_36 f_RX10_99 hk0 ?_
    obtain ⟨g3, h⟩ := h
    obtain ⟨g4, h⟩ := h
    refine x_clt (pc := 39) 49 dX10_readAll_39 (by decide) ⟨g3, g4⟩ (fun hc => ?_) (fun hc => ?_)
    · replace h := h.1 hc
      exact h
    · replace h := h.2 hc
      refine x_aload_n (pc := 42) dX10_readAll_42 rfl rfl ?_
      refine x_geti (pc := 43) dX10_readAll_43 f_RX10_216 hk0 ?_
      obtain ⟨g5, h⟩ := h
      refine x_zne (pc := 46) 91 dX10_readAll_46 (by decide) g5 (fun hc => ?_) (fun hc => ?_)
      · replace h := h.1 hc
        exact x_vret (pc := 91) dX10_readAll_91 rfl h
      · replace h := h.2 hc
        exact h
set_option maxRecDepth 100000 in
theorem b_X10_readAll_49 {E : fxE} (hW : fx_Wt E) (a0 : Nat) (x1 : Int) (M : fxM) (Q : Option fxV → fxM → Prop) (hk0 : kd E a0 = 10) (h : ∃ R1 : fxM → Prop, CtV E m_X10_readItem [.inr a0, .inl x1] M R1 ∧ ∀ M1 : fxM, R1 M1 → (-2147483648 ≤ (M1 a0 24) ∧ (M1 a0 24) < 2147483648) ∧ (((M1 a0 24) ≤ (0 : Int) → fx_At E m_X10_readAll 24 [some (.inr a0), some (.inl (x1 + 0))] [] M1 Q) ∧ (¬ (M1 a0 24) ≤ (0 : Int) → (-2147483648 ≤ (M1 a0 22) ∧ (M1 a0 22) < 2147483648) ∧ ((¬ M1 a0 22 = -1000005 → fx_At E m_X10_readAll 24 [some (.inr a0), some (.inl (x1 + 0))] [] M1 Q) ∧ (¬ (¬ M1 a0 22 = -1000005) → (0 ≤ ((3 * (M1 a0 24)) - 3) ∧ ((3 * (M1 a0 24)) - 3) < 24) ∧ fx_At E m_X10_readAll 24 [some (.inr a0), some (.inl (x1 + (M1 (rf E a0 23) (((3 * (M1 a0 24)) - 3).toNat))))] [] M1 Q))))) : fx_At E m_X10_readAll 49 [some (.inr a0), some (.inl x1)] [] M Q := by
  refine x_aload_n (pc := 49) dX10_readAll_49 rfl rfl ?_
  refine x_iload_n (pc := 50) dX10_readAll_50 rfl rfl ?_
  obtain ⟨R1, hc1, h⟩ := h
  refine x_callV (pc := 51) (z := m_X10_readItem) (b := a0) (as := [.inl x1]) (rest := []) dX10_readAll_51 c_RX10_225 (by decide) hk0 rfl (Nat.le_of_ble_eq_true rfl) hc1 (fun r M1 hr => ?_)
  obtain ⟨rfl, hr⟩ := hr
  replace h := h M1 hr
  show fx_At E m_X10_readAll 54 [some (.inr a0), some (.inl x1)] [] M1 Q
  refine x_iload_n (pc := 54) dX10_readAll_54 rfl rfl ?_
  refine x_aload_n (pc := 55) dX10_readAll_55 rfl rfl ?_
  refine x_geti (pc := 56) dX10_readAll_56 f_RX10_216 hk0 ?_
  obtain ⟨g2, h⟩ := h
  refine x_zle (pc := 59) 85 dX10_readAll_59 (by decide) g2 (fun hc => ?_) (fun hc => ?_)
  · replace h := h.1 hc
    refine x_iconst (pc := 85) dX10_readAll_85 ?_
    refine x_iadd (pc := 86) dX10_readAll_86 ?_
    refine x_istore_n (pc := 87) (lv' := [some (.inr a0), some (.inl (x1 + 0))]) dX10_readAll_87 rfl (by decide) rfl ?_
    refine x_goto (pc := 88) 24 dX10_readAll_88 (by decide) ?_
    exact h
  · replace h := h.2 hc
    refine x_aload_n (pc := 62) dX10_readAll_62 rfl rfl ?_
    obtain ⟨g3, h⟩ := h
    refine x_callV (pc := 63) (z := m_X10_isWrong) (b := a0) (as := []) (rest := [.inl x1]) dX10_readAll_63 c_RX10_200 (by decide) hk0 rfl (Nat.le_of_ble_eq_true rfl) (ct_X10_isWrong hW hk0 g3) (fun r M9 hr => ?_)
    obtain ⟨hM9, hr⟩ := hr
    rw [hM9]
    clear hM9
    obtain ⟨hc, rfl⟩ | ⟨hc, rfl⟩ := hr
    · replace h := h.1 hc
      show fx_At E m_X10_readAll 66 [some (.inr a0), some (.inl x1)] [.inl 1, .inl x1] _ Q
      refine x_zne (pc := 66) 85 dX10_readAll_66 (by decide) ⟨by decide, by decide⟩ (fun _ => ?_) (fun hx => absurd hx (by decide))
      refine x_iconst (pc := 85) dX10_readAll_85 ?_
      refine x_iadd (pc := 86) dX10_readAll_86 ?_
      refine x_istore_n (pc := 87) (lv' := [some (.inr a0), some (.inl (x1 + 0))]) dX10_readAll_87 rfl (by decide) rfl ?_
      refine x_goto (pc := 88) 24 dX10_readAll_88 (by decide) ?_
      exact h
    · replace h := h.2 hc
      show fx_At E m_X10_readAll 66 [some (.inr a0), some (.inl x1)] [.inl 0, .inl x1] _ Q
      refine x_zne (pc := 66) 85 dX10_readAll_66 (by decide) ⟨by decide, by decide⟩ (fun hx => absurd hx (by decide)) (fun _ => ?_)
      refine x_aload_n (pc := 69) dX10_readAll_69 rfl rfl ?_
      refine x_getr (pc := 70) dX10_readAll_70 f_RX10_54 hk0 ?_
      refine x_iconst (pc := 73) dX10_readAll_73 ?_
      refine x_aload_n (pc := 74) dX10_readAll_74 rfl rfl ?_
      refine x_geti (pc := 75) dX10_readAll_75 f_RX10_216 hk0 ?_
      refine x_imul (pc := 78) dX10_readAll_78 ?_
      refine x_iconst (pc := 79) dX10_readAll_79 ?_
      refine x_isub (pc := 80) dX10_readAll_80 ?_
      obtain ⟨g5, h⟩ := h
      refine x_iald (pc := 81) dX10_readAll_81 (wk_10_23 hW hk0) (wl_10_23 hW hk0) g5 ?_
      refine x_goto (pc := 82) 86 dX10_readAll_82 (by decide) ?_
      refine x_iadd (pc := 86) dX10_readAll_86 ?_
      refine x_istore_n (pc := 87) (lv' := [some (.inr a0), some (.inl (x1 + (M1 (rf E a0 23) (((3 * (M1 a0 24)) - 3).toNat))))]) dX10_readAll_87 rfl (by decide) rfl ?_
      refine x_goto (pc := 88) 24 dX10_readAll_88 (by decide) ?_
      exact h
theorem dX10_load_0 : decode cX10_load 0 = .ok (.aload_n 0, 1) := by decide +kernel
theorem dX10_load_1 : decode cX10_load 1 = .ok (.invokevirtual 228, 3) := by decide +kernel
theorem dX10_load_4 : decode cX10_load 4 = .ok (.aload_n 0, 1) := by decide +kernel
theorem dX10_load_5 : decode cX10_load 5 = .ok (.invokevirtual 200, 3) := by decide +kernel
theorem dX10_load_8 : decode cX10_load 8 = .ok (.ifCond .eq 22, 3) := by decide +kernel
theorem dX10_load_11 : decode cX10_load 11 = .ok (.aload_n 0, 1) := by decide +kernel
theorem dX10_load_12 : decode cX10_load 12 = .ok (.aload_n 0, 1) := by decide +kernel
theorem dX10_load_13 : decode cX10_load 13 = .ok (.getfield 204, 3) := by decide +kernel
theorem dX10_load_16 : decode cX10_load 16 = .ok (.putfield 24, 3) := by decide +kernel
theorem dX10_load_19 : decode cX10_load 19 = .ok (.aload_n 0, 1) := by decide +kernel
theorem dX10_load_20 : decode cX10_load 20 = .ok (.aload_n 0, 1) := by decide +kernel
theorem dX10_load_21 : decode cX10_load 21 = .ok (.getfield 197, 3) := by decide +kernel
theorem dX10_load_24 : decode cX10_load 24 = .ok (.putfield 27, 3) := by decide +kernel
theorem dX10_load_27 : decode cX10_load 27 = .ok (.ldc 98, 2) := by decide +kernel
theorem dX10_load_29 : decode cX10_load 29 = .ok (.ireturn, 1) := by decide +kernel
theorem dX10_load_30 : decode cX10_load 30 = .ok (.aload_n 0, 1) := by decide +kernel
theorem dX10_load_31 : decode cX10_load 31 = .ok (.invokevirtual 82, 3) := by decide +kernel
theorem dX10_load_34 : decode cX10_load 34 = .ok (.aload_n 0, 1) := by decide +kernel
theorem dX10_load_35 : decode cX10_load 35 = .ok (.invokevirtual 61, 3) := by decide +kernel
theorem dX10_load_38 : decode cX10_load 38 = .ok (.iconst 0, 1) := by decide +kernel
theorem dX10_load_39 : decode cX10_load 39 = .ok (.istore_n 1, 1) := by decide +kernel
theorem dX10_load_40 : decode cX10_load 40 = .ok (.iload_n 1, 1) := by decide +kernel
theorem dX10_load_41 : decode cX10_load 41 = .ok (.aload_n 0, 1) := by decide +kernel
theorem dX10_load_42 : decode cX10_load 42 = .ok (.getfield 216, 3) := by decide +kernel
theorem dX10_load_45 : decode cX10_load 45 = .ok (.if_icmp .ge 41, 3) := by decide +kernel
theorem dX10_load_48 : decode cX10_load 48 = .ok (.aload_n 0, 1) := by decide +kernel
theorem dX10_load_49 : decode cX10_load 49 = .ok (.aload_n 0, 1) := by decide +kernel
theorem dX10_load_50 : decode cX10_load 50 = .ok (.getfield 54, 3) := by decide +kernel
theorem dX10_load_53 : decode cX10_load 53 = .ok (.iconst 3, 1) := by decide +kernel
theorem dX10_load_54 : decode cX10_load 54 = .ok (.iload_n 1, 1) := by decide +kernel
theorem dX10_load_55 : decode cX10_load 55 = .ok (.imul, 1) := by decide +kernel
theorem dX10_load_56 : decode cX10_load 56 = .ok (.iaload, 1) := by decide +kernel
theorem dX10_load_57 : decode cX10_load 57 = .ok (.aload_n 0, 1) := by decide +kernel
theorem dX10_load_58 : decode cX10_load 58 = .ok (.getfield 54, 3) := by decide +kernel
theorem dX10_load_61 : decode cX10_load 61 = .ok (.iconst 3, 1) := by decide +kernel
theorem dX10_load_62 : decode cX10_load 62 = .ok (.iload_n 1, 1) := by decide +kernel
theorem dX10_load_63 : decode cX10_load 63 = .ok (.imul, 1) := by decide +kernel
theorem dX10_load_64 : decode cX10_load 64 = .ok (.iconst 1, 1) := by decide +kernel
theorem dX10_load_65 : decode cX10_load 65 = .ok (.iadd, 1) := by decide +kernel
theorem dX10_load_66 : decode cX10_load 66 = .ok (.iaload, 1) := by decide +kernel
theorem dX10_load_67 : decode cX10_load 67 = .ok (.aload_n 0, 1) := by decide +kernel
theorem dX10_load_68 : decode cX10_load 68 = .ok (.getfield 54, 3) := by decide +kernel
theorem dX10_load_71 : decode cX10_load 71 = .ok (.iconst 3, 1) := by decide +kernel
theorem dX10_load_72 : decode cX10_load 72 = .ok (.iload_n 1, 1) := by decide +kernel
theorem dX10_load_73 : decode cX10_load 73 = .ok (.imul, 1) := by decide +kernel
theorem dX10_load_74 : decode cX10_load 74 = .ok (.iconst 2, 1) := by decide +kernel
theorem dX10_load_75 : decode cX10_load 75 = .ok (.iadd, 1) := by decide +kernel
theorem dX10_load_76 : decode cX10_load 76 = .ok (.iaload, 1) := by decide +kernel
theorem dX10_load_77 : decode cX10_load 77 = .ok (.invokevirtual 64, 3) := by decide +kernel
theorem dX10_load_80 : decode cX10_load 80 = .ok (.iinc 1 1, 3) := by decide +kernel
theorem dX10_load_83 : decode cX10_load 83 = .ok (.goto (-43), 3) := by decide +kernel
theorem dX10_load_86 : decode cX10_load 86 = .ok (.aload_n 0, 1) := by decide +kernel
theorem dX10_load_87 : decode cX10_load 87 = .ok (.getfield 216, 3) := by decide +kernel
theorem dX10_load_90 : decode cX10_load 90 = .ok (.ireturn, 1) := by decide +kernel
set_option maxRecDepth 100000 in
theorem b_X10_load_0 {E : fxE} (hW : fx_Wt E) (a0 : Nat) (M : fxM) (Q : Option fxV → fxM → Prop) (hk0 : kd E a0 = 10) (h : ∃ R1 : fxM → Prop, CtV E m_X10_readAll [.inr a0] M R1 ∧ ∀ M1 : fxM, R1 M1 → (-2147483648 ≤ (M1 a0 22) ∧ (M1 a0 22) < 2147483648) ∧ ((¬ M1 a0 22 = -1000005 → ∀ M4 : fxM, M4 = mset M1 a0 7 (M1 a0 21) → ∀ M5 : fxM, M5 = mset M4 a0 8 (M4 a0 22) → Q (some (.inl (-1000004))) M5) ∧ (¬ (¬ M1 a0 22 = -1000005) → ∃ R6 : fxM → Prop, CtV E m_X10_keep [.inr a0] M1 R6 ∧ ∀ M6 : fxM, R6 M6 → ∃ R7 : fxM → Prop, CtV E m_X10_clearFibre [.inr a0] M6 R7 ∧ ∀ M7 : fxM, R7 M7 → fx_At E m_X10_load 40 [some (.inr a0), some (.inl 0)] [] M7 Q))) : fx_At E m_X10_load 0 [some (.inr a0), none] [] M Q := by
  refine x_aload_n (pc := 0) dX10_load_0 rfl rfl ?_
  obtain ⟨R1, hc1, h⟩ := h
  refine x_callV (pc := 1) (z := m_X10_readAll) (b := a0) (as := []) (rest := []) dX10_load_1 c_RX10_228 (by decide) hk0 rfl (Nat.le_of_ble_eq_true rfl) hc1 (fun r M1 hr => ?_)
  obtain ⟨rfl, hr⟩ := hr
  replace h := h M1 hr
  show fx_At E m_X10_load 4 [some (.inr a0), none] [] M1 Q
  refine x_aload_n (pc := 4) dX10_load_4 rfl rfl ?_
  obtain ⟨g2, h⟩ := h
  refine x_callV (pc := 5) (z := m_X10_isWrong) (b := a0) (as := []) (rest := []) dX10_load_5 c_RX10_200 (by decide) hk0 rfl (Nat.le_of_ble_eq_true rfl) (ct_X10_isWrong hW hk0 g2) (fun r M9 hr => ?_)
  obtain ⟨hM9, hr⟩ := hr
  rw [hM9]
  clear hM9
  obtain ⟨hc, rfl⟩ | ⟨hc, rfl⟩ := hr
  · replace h := h.1 hc
    show fx_At E m_X10_load 8 [some (.inr a0), none] [.inl 1] _ Q
    refine x_zeq (pc := 8) 30 dX10_load_8 (by decide) ⟨by decide, by decide⟩ (fun hx => absurd hx (by decide)) (fun _ => ?_)
    refine x_aload_n (pc := 11) dX10_load_11 rfl rfl ?_
    refine x_aload_n (pc := 12) dX10_load_12 rfl rfl ?_
    refine x_geti (pc := 13) dX10_load_13 f_RX10_204 hk0 ?_
    refine x_puti (pc := 16) dX10_load_16 f_RX10_24 hk0 (fun M4 hM4 => ?_)
    replace h := h M4 hM4
    refine x_aload_n (pc := 19) dX10_load_19 rfl rfl ?_
    refine x_aload_n (pc := 20) dX10_load_20 rfl rfl ?_
    refine x_geti (pc := 21) dX10_load_21 f_RX10_197 hk0 ?_
    refine x_puti (pc := 24) dX10_load_24 f_RX10_27 hk0 (fun M5 hM5 => ?_)
    replace h := h M5 hM5
    refine x_ldc (pc := 27) (n := -1000004) dX10_load_27 k_RX10_98 rfl ?_
    exact x_iret (pc := 29) dX10_load_29 (Or.inl rfl) h
  · replace h := h.2 hc
    show fx_At E m_X10_load 8 [some (.inr a0), none] [.inl 0] _ Q
    refine x_zeq (pc := 8) 30 dX10_load_8 (by decide) ⟨by decide, by decide⟩ (fun _ => ?_) (fun hx => absurd hx (by decide))
    refine x_aload_n (pc := 30) dX10_load_30 rfl rfl ?_
    obtain ⟨R6, hc6, h⟩ := h
    refine x_callV (pc := 31) (z := m_X10_keep) (b := a0) (as := []) (rest := []) dX10_load_31 c_RX10_82 (by decide) hk0 rfl (Nat.le_of_ble_eq_true rfl) hc6 (fun r M6 hr => ?_)
    obtain ⟨rfl, hr⟩ := hr
    replace h := h M6 hr
    show fx_At E m_X10_load 34 [some (.inr a0), none] [] M6 Q
    refine x_aload_n (pc := 34) dX10_load_34 rfl rfl ?_
    obtain ⟨R7, hc7, h⟩ := h
    refine x_callV (pc := 35) (z := m_X10_clearFibre) (b := a0) (as := []) (rest := []) dX10_load_35 c_RX10_61 (by decide) hk0 rfl (Nat.le_of_ble_eq_true rfl) hc7 (fun r M7 hr => ?_)
    obtain ⟨rfl, hr⟩ := hr
    replace h := h M7 hr
    show fx_At E m_X10_load 38 [some (.inr a0), none] [] M7 Q
    refine x_iconst (pc := 38) dX10_load_38 ?_
    refine x_istore_n (pc := 39) (lv' := [some (.inr a0), some (.inl 0)]) dX10_load_39 rfl (by decide) rfl ?_
    exact h
set_option maxRecDepth 100000 in
theorem b_X10_load_40 {E : fxE} (hW : fx_Wt E) (a0 : Nat) (x1 : Int) (M : fxM) (Q : Option fxV → fxM → Prop) (hk0 : kd E a0 = 10) (h : (-2147483648 ≤ x1 ∧ x1 < 2147483648) ∧ (-2147483648 ≤ (M a0 24) ∧ (M a0 24) < 2147483648) ∧ (((M a0 24) ≤ x1 → Q (some (.inl (M a0 24))) M) ∧ (¬ (M a0 24) ≤ x1 → (0 ≤ (3 * x1) ∧ (3 * x1) < 24) ∧ (0 ≤ ((3 * x1) + 1) ∧ ((3 * x1) + 1) < 24) ∧ (0 ≤ ((3 * x1) + 2) ∧ ((3 * x1) + 2) < 24) ∧ ∃ R6 : fxM → Prop, CtV E m_X10_append [.inr a0, .inl (M (rf E a0 23) ((3 * x1).toNat)), .inl (M (rf E a0 23) (((3 * x1) + 1).toNat)), .inl (M (rf E a0 23) (((3 * x1) + 2).toNat))] M R6 ∧ ∀ M6 : fxM, R6 M6 → fx_At E m_X10_load 40 [some (.inr a0), some (.inl (x1 + 1))] [] M6 Q))) : fx_At E m_X10_load 40 [some (.inr a0), some (.inl x1)] [] M Q := by
  refine x_iload_n (pc := 40) dX10_load_40 rfl rfl ?_
  refine x_aload_n (pc := 41) dX10_load_41 rfl rfl ?_
  refine x_geti (pc := 42) dX10_load_42 f_RX10_216 hk0 ?_
  obtain ⟨g1, h⟩ := h
  obtain ⟨g2, h⟩ := h
  refine x_cge (pc := 45) 86 dX10_load_45 (by decide) ⟨g1, g2⟩ (fun hc => ?_) (fun hc => ?_)
  · replace h := h.1 hc
    refine x_aload_n (pc := 86) dX10_load_86 rfl rfl ?_
    refine x_geti (pc := 87) dX10_load_87 f_RX10_216 hk0 ?_
    exact x_iret (pc := 90) dX10_load_90 (Or.inl rfl) h
  · replace h := h.2 hc
    refine x_aload_n (pc := 48) dX10_load_48 rfl rfl ?_
    refine x_aload_n (pc := 49) dX10_load_49 rfl rfl ?_
    refine x_getr (pc := 50) dX10_load_50 f_RX10_54 hk0 ?_
    refine x_iconst (pc := 53) dX10_load_53 ?_
    refine x_iload_n (pc := 54) dX10_load_54 rfl rfl ?_
    refine x_imul (pc := 55) dX10_load_55 ?_
    obtain ⟨g3, h⟩ := h
    refine x_iald (pc := 56) dX10_load_56 (wk_10_23 hW hk0) (wl_10_23 hW hk0) g3 ?_
    refine x_aload_n (pc := 57) dX10_load_57 rfl rfl ?_
    refine x_getr (pc := 58) dX10_load_58 f_RX10_54 hk0 ?_
    refine x_iconst (pc := 61) dX10_load_61 ?_
    refine x_iload_n (pc := 62) dX10_load_62 rfl rfl ?_
    refine x_imul (pc := 63) dX10_load_63 ?_
    refine x_iconst (pc := 64) dX10_load_64 ?_
    refine x_iadd (pc := 65) dX10_load_65 ?_
    obtain ⟨g4, h⟩ := h
    refine x_iald (pc := 66) dX10_load_66 (wk_10_23 hW hk0) (wl_10_23 hW hk0) g4 ?_
    refine x_aload_n (pc := 67) dX10_load_67 rfl rfl ?_
    refine x_getr (pc := 68) dX10_load_68 f_RX10_54 hk0 ?_
    refine x_iconst (pc := 71) dX10_load_71 ?_
    refine x_iload_n (pc := 72) dX10_load_72 rfl rfl ?_
    refine x_imul (pc := 73) dX10_load_73 ?_
    refine x_iconst (pc := 74) dX10_load_74 ?_
    refine x_iadd (pc := 75) dX10_load_75 ?_
    obtain ⟨g5, h⟩ := h
    refine x_iald (pc := 76) dX10_load_76 (wk_10_23 hW hk0) (wl_10_23 hW hk0) g5 ?_
    obtain ⟨R6, hc6, h⟩ := h
    refine x_callV (pc := 77) (z := m_X10_append) (b := a0) (as := [.inl (M (rf E a0 23) ((3 * x1).toNat)), .inl (M (rf E a0 23) (((3 * x1) + 1).toNat)), .inl (M (rf E a0 23) (((3 * x1) + 2).toNat))]) (rest := []) dX10_load_77 c_RX10_64 (by decide) hk0 rfl (Nat.le_of_ble_eq_true rfl) hc6 (fun r M6 hr => ?_)
    obtain ⟨rfl, hr⟩ := hr
    replace h := h M6 hr
    show fx_At E m_X10_load 80 [some (.inr a0), some (.inl x1)] [] M6 Q
    refine x_iinc (pc := 80) (lv' := [some (.inr a0), some (.inl (x1 + 1))]) dX10_load_80 rfl (by decide) rfl ?_
    refine x_goto (pc := 83) 40 dX10_load_83 (by decide) ?_
    exact h
theorem dX10_fault_0 : decode cX10_fault 0 = .ok (.iload_n 1, 1) := by decide +kernel
theorem dX10_fault_1 : decode cX10_fault 1 = .ok (.iconst 0, 1) := by decide +kernel
theorem dX10_fault_2 : decode cX10_fault 2 = .ok (.iconst 1, 1) := by decide +kernel
theorem dX10_fault_3 : decode cX10_fault 3 = .ok (.invokestatic 74, 3) := by decide +kernel
theorem dX10_fault_6 : decode cX10_fault 6 = .ok (.ifCond .ne 6, 3) := by decide +kernel
theorem dX10_fault_9 : decode cX10_fault 9 = .ok (.ldc 81, 2) := by decide +kernel
theorem dX10_fault_11 : decode cX10_fault 11 = .ok (.ireturn, 1) := by decide +kernel
theorem dX10_fault_12 : decode cX10_fault 12 = .ok (.iload_n 1, 1) := by decide +kernel
theorem dX10_fault_13 : decode cX10_fault 13 = .ok (.ifCond .ne 10, 3) := by decide +kernel
theorem dX10_fault_16 : decode cX10_fault 16 = .ok (.aload_n 0, 1) := by decide +kernel
theorem dX10_fault_17 : decode cX10_fault 17 = .ok (.getfield 24, 3) := by decide +kernel
theorem dX10_fault_20 : decode cX10_fault 20 = .ok (.goto 7, 3) := by decide +kernel
theorem dX10_fault_23 : decode cX10_fault 23 = .ok (.aload_n 0, 1) := by decide +kernel
theorem dX10_fault_24 : decode cX10_fault 24 = .ok (.getfield 27, 3) := by decide +kernel
theorem dX10_fault_27 : decode cX10_fault 27 = .ok (.ireturn, 1) := by decide +kernel
set_option maxRecDepth 100000 in
theorem b_X10_fault_0 {E : fxE} (hW : fx_Wt E) (a0 : Nat) (x1 : Int) (M : fxM) (Q : Option fxV → fxM → Prop) (hk0 : kd E a0 = 10) (h : (-2147483648 ≤ x1 ∧ x1 < 2147483648) ∧ (((0 : Int) ≤ x1 ∧ x1 ≤ (1 : Int) → ((¬ x1 = (0 : Int) → Q (some (.inl (M a0 8))) M) ∧ (x1 = (0 : Int) → Q (some (.inl (M a0 7))) M))) ∧ (¬ ((0 : Int) ≤ x1 ∧ x1 ≤ (1 : Int)) → Q (some (.inl (-1000002))) M))) : fx_At E m_X10_fault 0 [some (.inr a0), some (.inl x1)] [] M Q := by
  refine x_iload_n (pc := 0) dX10_fault_0 rfl rfl ?_
  refine x_iconst (pc := 1) dX10_fault_1 ?_
  refine x_iconst (pc := 2) dX10_fault_2 ?_
  obtain ⟨g1, h⟩ := h
  refine x_callS (pc := 3) (z := m_X10_isIn) (as := [.inl x1, .inl 0, .inl 1]) (rest := []) dX10_fault_3 c_RX10_74 (by decide) rfl (Nat.le_of_ble_eq_true rfl) (ct_isIn hW g1 ⟨by decide, by decide⟩ ⟨by decide, by decide⟩) (fun r M9 hr => ?_)
  obtain ⟨hM9, hr⟩ := hr
  rw [hM9]
  clear hM9
  obtain ⟨hc, rfl⟩ | ⟨hc, rfl⟩ := hr
  · replace h := h.1 hc
    show fx_At E m_X10_fault 6 [some (.inr a0), some (.inl x1)] [.inl 1] _ Q
    refine x_zne (pc := 6) 12 dX10_fault_6 (by decide) ⟨by decide, by decide⟩ (fun _ => ?_) (fun hx => absurd hx (by decide))
    refine x_iload_n (pc := 12) dX10_fault_12 rfl rfl ?_
    refine x_zne (pc := 13) 23 dX10_fault_13 (by decide) g1 (fun hc => ?_) (fun hc => ?_)
    · replace h := h.1 hc
      refine x_aload_n (pc := 23) dX10_fault_23 rfl rfl ?_
      refine x_geti (pc := 24) dX10_fault_24 f_RX10_27 hk0 ?_
      exact x_iret (pc := 27) dX10_fault_27 (Or.inl rfl) h
    · replace h := h.2 hc
      refine x_aload_n (pc := 16) dX10_fault_16 rfl rfl ?_
      refine x_geti (pc := 17) dX10_fault_17 f_RX10_24 hk0 ?_
      refine x_goto (pc := 20) 27 dX10_fault_20 (by decide) ?_
      exact x_iret (pc := 27) dX10_fault_27 (Or.inl rfl) h
  · replace h := h.2 hc
    show fx_At E m_X10_fault 6 [some (.inr a0), some (.inl x1)] [.inl 0] _ Q
    refine x_zne (pc := 6) 12 dX10_fault_6 (by decide) ⟨by decide, by decide⟩ (fun hx => absurd hx (by decide)) (fun _ => ?_)
    refine x_ldc (pc := 9) (n := -1000002) dX10_fault_9 k_RX10_81 rfl ?_
    exact x_iret (pc := 11) dX10_fault_11 (Or.inl rfl) h
