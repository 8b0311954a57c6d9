theorem dX9_begin_0 : decode cX9_begin 0 = .ok (.iload_n 1, 1) := by decide +kernel
theorem dX9_begin_1 : decode cX9_begin 1 = .ok (.iload_n 2, 1) := by decide +kernel
theorem dX9_begin_2 : decode cX9_begin 2 = .ok (.iload_n 3, 1) := by decide +kernel
theorem dX9_begin_3 : decode cX9_begin 3 = .ok (.invokestatic 89, 3) := by decide +kernel
theorem dX9_begin_6 : decode cX9_begin 6 = .ok (.ifCond .ne 6, 3) := by decide +kernel
theorem dX9_begin_9 : decode cX9_begin 9 = .ok (.ldc 93, 2) := by decide +kernel
theorem dX9_begin_11 : decode cX9_begin 11 = .ok (.ireturn, 1) := by decide +kernel
theorem dX9_begin_12 : decode cX9_begin 12 = .ok (.aload_n 0, 1) := by decide +kernel
theorem dX9_begin_13 : decode cX9_begin 13 = .ok (.getfield 12, 3) := by decide +kernel
theorem dX9_begin_16 : decode cX9_begin 16 = .ok (.getfield 16, 3) := by decide +kernel
theorem dX9_begin_19 : decode cX9_begin 19 = .ok (.invokevirtual 94, 3) := by decide +kernel
theorem dX9_begin_22 : decode cX9_begin 22 = .ok (.istore 4, 2) := by decide +kernel
theorem dX9_begin_24 : decode cX9_begin 24 = .ok (.aload_n 0, 1) := by decide +kernel
theorem dX9_begin_25 : decode cX9_begin 25 = .ok (.invokevirtual 98, 3) := by decide +kernel
theorem dX9_begin_28 : decode cX9_begin 28 = .ok (.aload_n 0, 1) := by decide +kernel
theorem dX9_begin_29 : decode cX9_begin 29 = .ok (.getfield 12, 3) := by decide +kernel
theorem dX9_begin_32 : decode cX9_begin 32 = .ok (.getfield 16, 3) := by decide +kernel
theorem dX9_begin_35 : decode cX9_begin 35 = .ok (.invokevirtual 101, 3) := by decide +kernel
theorem dX9_begin_38 : decode cX9_begin 38 = .ok (.aload_n 0, 1) := by decide +kernel
theorem dX9_begin_39 : decode cX9_begin 39 = .ok (.getfield 12, 3) := by decide +kernel
theorem dX9_begin_42 : decode cX9_begin 42 = .ok (.getfield 16, 3) := by decide +kernel
theorem dX9_begin_45 : decode cX9_begin 45 = .ok (.iload_n 1, 1) := by decide +kernel
theorem dX9_begin_46 : decode cX9_begin 46 = .ok (.iload_n 2, 1) := by decide +kernel
theorem dX9_begin_47 : decode cX9_begin 47 = .ok (.iload_n 3, 1) := by decide +kernel
theorem dX9_begin_48 : decode cX9_begin 48 = .ok (.invokevirtual 20, 3) := by decide +kernel
theorem dX9_begin_51 : decode cX9_begin 51 = .ok (.iload 4, 2) := by decide +kernel
theorem dX9_begin_53 : decode cX9_begin 53 = .ok (.ireturn, 1) := by decide +kernel
set_option maxRecDepth 100000 in
theorem b_X9_begin_0 {E : fxE} (hW : fx_Wt E) (a0 : Nat) (x1 : Int) (x2 : Int) (x3 : Int) (M : fxM) (Q : Option fxV → fxM → Prop) (hk0 : kd E a0 = 9) (h : (-2147483648 ≤ x1 ∧ x1 < 2147483648) ∧ (-2147483648 ≤ x2 ∧ x2 < 2147483648) ∧ (-2147483648 ≤ x3 ∧ x3 < 2147483648) ∧ ((okSec x1 x2 x3 → (0 ≤ M (rf E (rf E a0 0) 0) 3 ∧ M (rf E (rf E a0 0) 0) 3 ≤ 8) ∧ ∃ R6 : fxM → Prop, CtV E m_X9_recordChange [.inr a0] M R6 ∧ ∀ M6 : fxM, R6 M6 → ∃ R7 : fxM → Prop, CtV E m_X2_clear [.inr (rf E (rf E a0 0) 0)] M6 R7 ∧ ∀ M7 : fxM, R7 M7 → ∃ R8 : fxM → Prop, CtV E m_X2_append [.inr (rf E (rf E a0 0) 0), .inl x1, .inl x2, .inl x3] M7 R8 ∧ ∀ M8 : fxM, R8 M8 → Q (some (.inl (fsum E M (rf E (rf E a0 0) 0) (M (rf E (rf E a0 0) 0) 3).toNat))) M8) ∧ (¬ (okSec x1 x2 x3) → Q (some (.inl (-1000002))) M))) : fx_At E m_X9_begin 0 [some (.inr a0), some (.inl x1), some (.inl x2), some (.inl x3), none] [] M Q := by
  refine x_iload_n (pc := 0) dX9_begin_0 rfl rfl ?_
  refine x_iload_n (pc := 1) dX9_begin_1 rfl rfl ?_
  refine x_iload_n (pc := 2) dX9_begin_2 rfl rfl ?_
  obtain ⟨g1, h⟩ := h
  obtain ⟨g2, h⟩ := h
  obtain ⟨g3, h⟩ := h
  refine x_callS (pc := 3) (z := m_X9_isSection) (as := [.inl x1, .inl x2, .inl x3]) (rest := []) dX9_begin_3 c_RX9_89 (by decide) rfl (Nat.le_of_ble_eq_true rfl) (ct_X9_isSection hW g1 g2 g3) (fun r M9 hr => ?_)
  obtain ⟨hM9, hr⟩ := hr
  rw [hM9]
  clear hM9
  obtain ⟨hc, rfl⟩ | ⟨hc, rfl⟩ := hr
  · replace h := h.1 hc
    show fx_At E m_X9_begin 6 [some (.inr a0), some (.inl x1), some (.inl x2), some (.inl x3), none] [.inl 1] _ Q
    refine x_zne (pc := 6) 12 dX9_begin_6 (by decide) ⟨by decide, by decide⟩ (fun _ => ?_) (fun hx => absurd hx (by decide))
    refine x_aload_n (pc := 12) dX9_begin_12 rfl rfl ?_
    refine x_getr (pc := 13) dX9_begin_13 f_RX9_12 hk0 ?_
    refine x_getr (pc := 16) dX9_begin_16 f_RX9_16 (wk_9_0 hW hk0) ?_
    obtain ⟨g5, h⟩ := h
    refine x_callV (pc := 19) (z := m_X2_totalLength) (b := (rf E (rf E a0 0) 0)) (as := []) (rest := []) dX9_begin_19 c_RX9_94 (by decide) (wk_5_0 hW (wk_9_0 hW hk0)) rfl (Nat.le_of_ble_eq_true rfl) (ct_X2_totalLength hW (wk_5_0 hW (wk_9_0 hW hk0)) g5) (fun r M9 hr => ?_)
    obtain ⟨hM9, hr⟩ := hr
    rw [hM9, hr]
    clear hM9 hr
    show fx_At E m_X9_begin 22 [some (.inr a0), some (.inl x1), some (.inl x2), some (.inl x3), none] [.inl (fsum E M (rf E (rf E a0 0) 0) (M (rf E (rf E a0 0) 0) 3).toNat)] _ Q
    refine x_istore (pc := 22) (lv' := [some (.inr a0), some (.inl x1), some (.inl x2), some (.inl x3), some (.inl (fsum E M (rf E (rf E a0 0) 0) (M (rf E (rf E a0 0) 0) 3).toNat))]) dX9_begin_22 (by decide) rfl ?_
    refine x_aload_n (pc := 24) dX9_begin_24 rfl rfl ?_
    obtain ⟨R6, hc6, h⟩ := h
    refine x_callV (pc := 25) (z := m_X9_recordChange) (b := a0) (as := []) (rest := []) dX9_begin_25 c_RX9_98 (by decide) hk0 rfl (Nat.le_of_ble_eq_true rfl) hc6 (fun r M6 hr => ?_)
    obtain ⟨rfl, hr⟩ := hr
    replace h := h M6 hr
    show fx_At E m_X9_begin 28 [some (.inr a0), some (.inl x1), some (.inl x2), some (.inl x3), some (.inl (fsum E M (rf E (rf E a0 0) 0) (M (rf E (rf E a0 0) 0) 3).toNat))] [] M6 Q
    refine x_aload_n (pc := 28) dX9_begin_28 rfl rfl ?_
    refine x_getr (pc := 29) dX9_begin_29 f_RX9_12 hk0 ?_
    refine x_getr (pc := 32) dX9_begin_32 f_RX9_16 (wk_9_0 hW hk0) ?_
    obtain ⟨R7, hc7, h⟩ := h
    refine x_callV (pc := 35) (z := m_X2_clear) (b := (rf E (rf E a0 0) 0)) (as := []) (rest := []) dX9_begin_35 c_RX9_101 (by decide) (wk_5_0 hW (wk_9_0 hW hk0)) rfl (Nat.le_of_ble_eq_true rfl) hc7 (fun r M7 hr => ?_)
    obtain ⟨rfl, hr⟩ := hr
    replace h := h M7 hr
    show fx_At E m_X9_begin 38 [some (.inr a0), some (.inl x1), some (.inl x2), some (.inl x3), some (.inl (fsum E M (rf E (rf E a0 0) 0) (M (rf E (rf E a0 0) 0) 3).toNat))] [] M7 Q
    refine x_aload_n (pc := 38) dX9_begin_38 rfl rfl ?_
    refine x_getr (pc := 39) dX9_begin_39 f_RX9_12 hk0 ?_
    refine x_getr (pc := 42) dX9_begin_42 f_RX9_16 (wk_9_0 hW hk0) ?_
    refine x_iload_n (pc := 45) dX9_begin_45 rfl rfl ?_
    refine x_iload_n (pc := 46) dX9_begin_46 rfl rfl ?_
    refine x_iload_n (pc := 47) dX9_begin_47 rfl rfl ?_
    obtain ⟨R8, hc8, h⟩ := h
    refine x_callV (pc := 48) (z := m_X2_append) (b := (rf E (rf E a0 0) 0)) (as := [.inl x1, .inl x2, .inl x3]) (rest := []) dX9_begin_48 c_RX9_20 (by decide) (wk_5_0 hW (wk_9_0 hW hk0)) rfl (Nat.le_of_ble_eq_true rfl) hc8 (fun r M8 hr => ?_)
    obtain ⟨rfl, hr⟩ := hr
    replace h := h M8 hr
    show fx_At E m_X9_begin 51 [some (.inr a0), some (.inl x1), some (.inl x2), some (.inl x3), some (.inl (fsum E M (rf E (rf E a0 0) 0) (M (rf E (rf E a0 0) 0) 3).toNat))] [] M8 Q
    refine x_iload (pc := 51) dX9_begin_51 rfl ?_
    exact x_iret (pc := 53) dX9_begin_53 (Or.inl rfl) h
  · replace h := h.2 hc
    show fx_At E m_X9_begin 6 [some (.inr a0), some (.inl x1), some (.inl x2), some (.inl x3), none] [.inl 0] _ Q
    refine x_zne (pc := 6) 12 dX9_begin_6 (by decide) ⟨by decide, by decide⟩ (fun hx => absurd hx (by decide)) (fun _ => ?_)
    refine x_ldc (pc := 9) (n := -1000002) dX9_begin_9 k_RX9_93 rfl ?_
    exact x_iret (pc := 11) dX9_begin_11 (Or.inl rfl) h
theorem dX9_addSection_0 : decode cX9_addSection 0 = .ok (.iload_n 1, 1) := by decide +kernel
theorem dX9_addSection_1 : decode cX9_addSection 1 = .ok (.iload_n 2, 1) := by decide +kernel
theorem dX9_addSection_2 : decode cX9_addSection 2 = .ok (.iload_n 3, 1) := by decide +kernel
theorem dX9_addSection_3 : decode cX9_addSection 3 = .ok (.invokestatic 89, 3) := by decide +kernel
theorem dX9_addSection_6 : decode cX9_addSection 6 = .ok (.ifCond .ne 6, 3) := by decide +kernel
theorem dX9_addSection_9 : decode cX9_addSection 9 = .ok (.ldc 93, 2) := by decide +kernel
theorem dX9_addSection_11 : decode cX9_addSection 11 = .ok (.ireturn, 1) := by decide +kernel
theorem dX9_addSection_12 : decode cX9_addSection 12 = .ok (.aload_n 0, 1) := by decide +kernel
theorem dX9_addSection_13 : decode cX9_addSection 13 = .ok (.getfield 12, 3) := by decide +kernel
theorem dX9_addSection_16 : decode cX9_addSection 16 = .ok (.getfield 16, 3) := by decide +kernel
theorem dX9_addSection_19 : decode cX9_addSection 19 = .ok (.astore 4, 2) := by decide +kernel
theorem dX9_addSection_21 : decode cX9_addSection 21 = .ok (.aload 4, 2) := by decide +kernel
theorem dX9_addSection_23 : decode cX9_addSection 23 = .ok (.getfield 104, 3) := by decide +kernel
theorem dX9_addSection_26 : decode cX9_addSection 26 = .ok (.bipush 8, 2) := by decide +kernel
theorem dX9_addSection_28 : decode cX9_addSection 28 = .ok (.if_icmp .ge 16, 3) := by decide +kernel
theorem dX9_addSection_31 : decode cX9_addSection 31 = .ok (.aload 4, 2) := by decide +kernel
theorem dX9_addSection_33 : decode cX9_addSection 33 = .ok (.invokevirtual 94, 3) := by decide +kernel
theorem dX9_addSection_36 : decode cX9_addSection 36 = .ok (.iload_n 1, 1) := by decide +kernel
theorem dX9_addSection_37 : decode cX9_addSection 37 = .ok (.iadd, 1) := by decide +kernel
theorem dX9_addSection_38 : decode cX9_addSection 38 = .ok (.sipush 300, 3) := by decide +kernel
theorem dX9_addSection_41 : decode cX9_addSection 41 = .ok (.if_icmp .le 6, 3) := by decide +kernel
theorem dX9_addSection_44 : decode cX9_addSection 44 = .ok (.ldc 107, 2) := by decide +kernel
theorem dX9_addSection_46 : decode cX9_addSection 46 = .ok (.ireturn, 1) := by decide +kernel
theorem dX9_addSection_47 : decode cX9_addSection 47 = .ok (.aload_n 0, 1) := by decide +kernel
theorem dX9_addSection_48 : decode cX9_addSection 48 = .ok (.invokevirtual 98, 3) := by decide +kernel
theorem dX9_addSection_51 : decode cX9_addSection 51 = .ok (.aload 4, 2) := by decide +kernel
theorem dX9_addSection_53 : decode cX9_addSection 53 = .ok (.iload_n 1, 1) := by decide +kernel
theorem dX9_addSection_54 : decode cX9_addSection 54 = .ok (.iload_n 2, 1) := by decide +kernel
theorem dX9_addSection_55 : decode cX9_addSection 55 = .ok (.iload_n 3, 1) := by decide +kernel
theorem dX9_addSection_56 : decode cX9_addSection 56 = .ok (.invokevirtual 20, 3) := by decide +kernel
theorem dX9_addSection_59 : decode cX9_addSection 59 = .ok (.aload 4, 2) := by decide +kernel
theorem dX9_addSection_61 : decode cX9_addSection 61 = .ok (.getfield 104, 3) := by decide +kernel
theorem dX9_addSection_64 : decode cX9_addSection 64 = .ok (.iconst 1, 1) := by decide +kernel
theorem dX9_addSection_65 : decode cX9_addSection 65 = .ok (.isub, 1) := by decide +kernel
theorem dX9_addSection_66 : decode cX9_addSection 66 = .ok (.ireturn, 1) := by decide +kernel
set_option maxRecDepth 100000 in
theorem b_X9_addSection_0 {E : fxE} (hW : fx_Wt E) (a0 : Nat) (x1 : Int) (x2 : Int) (x3 : Int) (M : fxM) (Q : Option fxV → fxM → Prop) (hk0 : kd E a0 = 9) (h : (-2147483648 ≤ x1 ∧ x1 < 2147483648) ∧ (-2147483648 ≤ x2 ∧ x2 < 2147483648) ∧ (-2147483648 ≤ x3 ∧ x3 < 2147483648) ∧ ((okSec x1 x2 x3 → (-2147483648 ≤ (M (rf E (rf E a0 0) 0) 3) ∧ (M (rf E (rf E a0 0) 0) 3) < 2147483648) ∧ (((8 : Int) ≤ (M (rf E (rf E a0 0) 0) 3) → Q (some (.inl (-1000003))) M) ∧ (¬ (8 : Int) ≤ (M (rf E (rf E a0 0) 0) 3) → (0 ≤ M (rf E (rf E a0 0) 0) 3 ∧ M (rf E (rf E a0 0) 0) 3 ≤ 8) ∧ (-2147483648 ≤ ((fsum E M (rf E (rf E a0 0) 0) (M (rf E (rf E a0 0) 0) 3).toNat) + x1) ∧ ((fsum E M (rf E (rf E a0 0) 0) (M (rf E (rf E a0 0) 0) 3).toNat) + x1) < 2147483648) ∧ ((((fsum E M (rf E (rf E a0 0) 0) (M (rf E (rf E a0 0) 0) 3).toNat) + x1) ≤ (300 : Int) → ∃ R8 : fxM → Prop, CtV E m_X9_recordChange [.inr a0] M R8 ∧ ∀ M8 : fxM, R8 M8 → ∃ R9 : fxM → Prop, CtV E m_X2_append [.inr (rf E (rf E a0 0) 0), .inl x1, .inl x2, .inl x3] M8 R9 ∧ ∀ M9 : fxM, R9 M9 → Q (some (.inl ((M9 (rf E (rf E a0 0) 0) 3) - 1))) M9) ∧ (¬ ((fsum E M (rf E (rf E a0 0) 0) (M (rf E (rf E a0 0) 0) 3).toNat) + x1) ≤ (300 : Int) → Q (some (.inl (-1000003))) M))))) ∧ (¬ (okSec x1 x2 x3) → Q (some (.inl (-1000002))) M))) : fx_At E m_X9_addSection 0 [some (.inr a0), some (.inl x1), some (.inl x2), some (.inl x3), none] [] M Q := by
  refine x_iload_n (pc := 0) dX9_addSection_0 rfl rfl ?_
  refine x_iload_n (pc := 1) dX9_addSection_1 rfl rfl ?_
  refine x_iload_n (pc := 2) dX9_addSection_2 rfl rfl ?_
  obtain ⟨g1, h⟩ := h
  obtain ⟨g2, h⟩ := h
  obtain ⟨g3, h⟩ := h
  refine x_callS (pc := 3) (z := m_X9_isSection) (as := [.inl x1, .inl x2, .inl x3]) (rest := []) dX9_addSection_3 c_RX9_89 (by decide) rfl (Nat.le_of_ble_eq_true rfl) (ct_X9_isSection hW g1 g2 g3) (fun r M9 hr => ?_)
  obtain ⟨hM9, hr⟩ := hr
  rw [hM9]
  clear hM9
  obtain ⟨hc, rfl⟩ | ⟨hc, rfl⟩ := hr
  · replace h := h.1 hc
    show fx_At E m_X9_addSection 6 [some (.inr a0), some (.inl x1), some (.inl x2), some (.inl x3), none] [.inl 1] _ Q
    refine x_zne (pc := 6) 12 dX9_addSection_6 (by decide) ⟨by decide, by decide⟩ (fun _ => ?_) (fun hx => absurd hx (by decide))
    refine x_aload_n (pc := 12) dX9_addSection_12 rfl rfl ?_
    refine x_getr (pc := 13) dX9_addSection_13 f_RX9_12 hk0 ?_
    refine x_getr (pc := 16) dX9_addSection_16 f_RX9_16 (wk_9_0 hW hk0) ?_
    refine x_astore (pc := 19) (lv' := [some (.inr a0), some (.inl x1), some (.inl x2), some (.inl x3), some (.inr (rf E (rf E a0 0) 0))]) dX9_addSection_19 (by decide) rfl ?_
    refine x_aload (pc := 21) dX9_addSection_21 rfl ?_
    refine x_geti (pc := 23) dX9_addSection_23 f_RX9_104 (wk_5_0 hW (wk_9_0 hW hk0)) ?_
    refine x_bipush (pc := 26) dX9_addSection_26 (by decide +kernel) ?_
    obtain ⟨g5, h⟩ := h
    refine x_cge (pc := 28) 44 dX9_addSection_28 (by decide) ⟨g5, ⟨by decide, by decide⟩⟩ (fun hc => ?_) (fun hc => ?_)
    · replace h := h.1 hc
      refine x_ldc (pc := 44) (n := -1000003) dX9_addSection_44 k_RX9_107 rfl ?_
      exact x_iret (pc := 46) dX9_addSection_46 (Or.inl rfl) h
    · replace h := h.2 hc
      refine x_aload (pc := 31) dX9_addSection_31 rfl ?_
      obtain ⟨g6, h⟩ := h
      refine x_callV (pc := 33) (z := m_X2_totalLength) (b := (rf E (rf E a0 0) 0)) (as := []) (rest := []) dX9_addSection_33 c_RX9_94 (by decide) (wk_5_0 hW (wk_9_0 hW hk0)) rfl (Nat.le_of_ble_eq_true rfl) (ct_X2_totalLength hW (wk_5_0 hW (wk_9_0 hW hk0)) g6) (fun r M9 hr => ?_)
      obtain ⟨hM9, hr⟩ := hr
      rw [hM9, hr]
      clear hM9 hr
      show fx_At E m_X9_addSection 36 [some (.inr a0), some (.inl x1), some (.inl x2), some (.inl x3), some (.inr (rf E (rf E a0 0) 0))] [.inl (fsum E M (rf E (rf E a0 0) 0) (M (rf E (rf E a0 0) 0) 3).toNat)] _ Q
      refine x_iload_n (pc := 36) dX9_addSection_36 rfl rfl ?_
      refine x_iadd (pc := 37) dX9_addSection_37 ?_
      refine x_sipush (pc := 38) dX9_addSection_38 (by decide +kernel) ?_
      obtain ⟨g7, h⟩ := h
      refine x_cle (pc := 41) 47 dX9_addSection_41 (by decide) ⟨g7, ⟨by decide, by decide⟩⟩ (fun hc => ?_) (fun hc => ?_)
      · replace h := h.1 hc
        refine x_aload_n (pc := 47) dX9_addSection_47 rfl rfl ?_
        obtain ⟨R8, hc8, h⟩ := h
        refine x_callV (pc := 48) (z := m_X9_recordChange) (b := a0) (as := []) (rest := []) dX9_addSection_48 c_RX9_98 (by decide) hk0 rfl (Nat.le_of_ble_eq_true rfl) hc8 (fun r M8 hr => ?_)
        obtain ⟨rfl, hr⟩ := hr
        replace h := h M8 hr
        show fx_At E m_X9_addSection 51 [some (.inr a0), some (.inl x1), some (.inl x2), some (.inl x3), some (.inr (rf E (rf E a0 0) 0))] [] M8 Q
        refine x_aload (pc := 51) dX9_addSection_51 rfl ?_
        refine x_iload_n (pc := 53) dX9_addSection_53 rfl rfl ?_
        refine x_iload_n (pc := 54) dX9_addSection_54 rfl rfl ?_
        refine x_iload_n (pc := 55) dX9_addSection_55 rfl rfl ?_
        obtain ⟨R9, hc9, h⟩ := h
        refine x_callV (pc := 56) (z := m_X2_append) (b := (rf E (rf E a0 0) 0)) (as := [.inl x1, .inl x2, .inl x3]) (rest := []) dX9_addSection_56 c_RX9_20 (by decide) (wk_5_0 hW (wk_9_0 hW hk0)) rfl (Nat.le_of_ble_eq_true rfl) hc9 (fun r M9 hr => ?_)
        obtain ⟨rfl, hr⟩ := hr
        replace h := h M9 hr
        show fx_At E m_X9_addSection 59 [some (.inr a0), some (.inl x1), some (.inl x2), some (.inl x3), some (.inr (rf E (rf E a0 0) 0))] [] M9 Q
        refine x_aload (pc := 59) dX9_addSection_59 rfl ?_
        refine x_geti (pc := 61) dX9_addSection_61 f_RX9_104 (wk_5_0 hW (wk_9_0 hW hk0)) ?_
        refine x_iconst (pc := 64) dX9_addSection_64 ?_
        refine x_isub (pc := 65) dX9_addSection_65 ?_
        exact x_iret (pc := 66) dX9_addSection_66 (Or.inl rfl) h
      · replace h := h.2 hc
        refine x_ldc (pc := 44) (n := -1000003) dX9_addSection_44 k_RX9_107 rfl ?_
        exact x_iret (pc := 46) dX9_addSection_46 (Or.inl rfl) h
  · replace h := h.2 hc
    show fx_At E m_X9_addSection 6 [some (.inr a0), some (.inl x1), some (.inl x2), some (.inl x3), none] [.inl 0] _ Q
    refine x_zne (pc := 6) 12 dX9_addSection_6 (by decide) ⟨by decide, by decide⟩ (fun hx => absurd hx (by decide)) (fun _ => ?_)
    refine x_ldc (pc := 9) (n := -1000002) dX9_addSection_9 k_RX9_93 rfl ?_
    exact x_iret (pc := 11) dX9_addSection_11 (Or.inl rfl) h
theorem dX9_setJoint_0 : decode cX9_setJoint 0 = .ok (.aload_n 0, 1) := by decide +kernel
theorem dX9_setJoint_1 : decode cX9_setJoint 1 = .ok (.getfield 12, 3) := by decide +kernel
theorem dX9_setJoint_4 : decode cX9_setJoint 4 = .ok (.getfield 16, 3) := by decide +kernel
theorem dX9_setJoint_7 : decode cX9_setJoint 7 = .ok (.astore 4, 2) := by decide +kernel
theorem dX9_setJoint_9 : decode cX9_setJoint 9 = .ok (.iload_n 1, 1) := by decide +kernel
theorem dX9_setJoint_10 : decode cX9_setJoint 10 = .ok (.iconst 0, 1) := by decide +kernel
theorem dX9_setJoint_11 : decode cX9_setJoint 11 = .ok (.aload 4, 2) := by decide +kernel
theorem dX9_setJoint_13 : decode cX9_setJoint 13 = .ok (.getfield 104, 3) := by decide +kernel
theorem dX9_setJoint_16 : decode cX9_setJoint 16 = .ok (.invokestatic 108, 3) := by decide +kernel
theorem dX9_setJoint_19 : decode cX9_setJoint 19 = .ok (.ifCond .ne 6, 3) := by decide +kernel
theorem dX9_setJoint_22 : decode cX9_setJoint 22 = .ok (.ldc 111, 2) := by decide +kernel
theorem dX9_setJoint_24 : decode cX9_setJoint 24 = .ok (.ireturn, 1) := by decide +kernel
theorem dX9_setJoint_25 : decode cX9_setJoint 25 = .ok (.iload_n 2, 1) := by decide +kernel
theorem dX9_setJoint_26 : decode cX9_setJoint 26 = .ok (.iconst 0, 1) := by decide +kernel
theorem dX9_setJoint_27 : decode cX9_setJoint 27 = .ok (.sipush 3000, 3) := by decide +kernel
theorem dX9_setJoint_30 : decode cX9_setJoint 30 = .ok (.invokestatic 108, 3) := by decide +kernel
theorem dX9_setJoint_33 : decode cX9_setJoint 33 = .ok (.ifCond .eq 14, 3) := by decide +kernel
theorem dX9_setJoint_36 : decode cX9_setJoint 36 = .ok (.iload_n 3, 1) := by decide +kernel
theorem dX9_setJoint_37 : decode cX9_setJoint 37 = .ok (.iconst 0, 1) := by decide +kernel
theorem dX9_setJoint_38 : decode cX9_setJoint 38 = .ok (.sipush 9000, 3) := by decide +kernel
theorem dX9_setJoint_41 : decode cX9_setJoint 41 = .ok (.invokestatic 108, 3) := by decide +kernel
theorem dX9_setJoint_44 : decode cX9_setJoint 44 = .ok (.ifCond .ne 6, 3) := by decide +kernel
theorem dX9_setJoint_47 : decode cX9_setJoint 47 = .ok (.ldc 93, 2) := by decide +kernel
theorem dX9_setJoint_49 : decode cX9_setJoint 49 = .ok (.ireturn, 1) := by decide +kernel
theorem dX9_setJoint_50 : decode cX9_setJoint 50 = .ok (.aload 4, 2) := by decide +kernel
theorem dX9_setJoint_52 : decode cX9_setJoint 52 = .ok (.getfield 112, 3) := by decide +kernel
theorem dX9_setJoint_55 : decode cX9_setJoint 55 = .ok (.iload_n 1, 1) := by decide +kernel
theorem dX9_setJoint_56 : decode cX9_setJoint 56 = .ok (.iaload, 1) := by decide +kernel
theorem dX9_setJoint_57 : decode cX9_setJoint 57 = .ok (.istore 5, 2) := by decide +kernel
theorem dX9_setJoint_59 : decode cX9_setJoint 59 = .ok (.aload_n 0, 1) := by decide +kernel
theorem dX9_setJoint_60 : decode cX9_setJoint 60 = .ok (.invokevirtual 98, 3) := by decide +kernel
theorem dX9_setJoint_63 : decode cX9_setJoint 63 = .ok (.aload 4, 2) := by decide +kernel
theorem dX9_setJoint_65 : decode cX9_setJoint 65 = .ok (.getfield 112, 3) := by decide +kernel
theorem dX9_setJoint_68 : decode cX9_setJoint 68 = .ok (.iload_n 1, 1) := by decide +kernel
theorem dX9_setJoint_69 : decode cX9_setJoint 69 = .ok (.iload_n 2, 1) := by decide +kernel
theorem dX9_setJoint_70 : decode cX9_setJoint 70 = .ok (.iastore, 1) := by decide +kernel
theorem dX9_setJoint_71 : decode cX9_setJoint 71 = .ok (.aload 4, 2) := by decide +kernel
theorem dX9_setJoint_73 : decode cX9_setJoint 73 = .ok (.getfield 115, 3) := by decide +kernel
theorem dX9_setJoint_76 : decode cX9_setJoint 76 = .ok (.iload_n 1, 1) := by decide +kernel
theorem dX9_setJoint_77 : decode cX9_setJoint 77 = .ok (.iload_n 3, 1) := by decide +kernel
theorem dX9_setJoint_78 : decode cX9_setJoint 78 = .ok (.iastore, 1) := by decide +kernel
theorem dX9_setJoint_79 : decode cX9_setJoint 79 = .ok (.iload 5, 2) := by decide +kernel
theorem dX9_setJoint_81 : decode cX9_setJoint 81 = .ok (.ireturn, 1) := by decide +kernel
set_option maxRecDepth 100000 in
theorem b_X9_setJoint_0 {E : fxE} (hW : fx_Wt E) (a0 : Nat) (x1 : Int) (x2 : Int) (x3 : Int) (M : fxM) (Q : Option fxV → fxM → Prop) (hk0 : kd E a0 = 9) (h : (-2147483648 ≤ x1 ∧ x1 < 2147483648) ∧ (-2147483648 ≤ (M (rf E (rf E a0 0) 0) 3) ∧ (M (rf E (rf E a0 0) 0) 3) < 2147483648) ∧ (((0 : Int) ≤ x1 ∧ x1 ≤ (M (rf E (rf E a0 0) 0) 3) → (-2147483648 ≤ x2 ∧ x2 < 2147483648) ∧ (((0 : Int) ≤ x2 ∧ x2 ≤ (3000 : Int) → (-2147483648 ≤ x3 ∧ x3 < 2147483648) ∧ (((0 : Int) ≤ x3 ∧ x3 ≤ (9000 : Int) → (0 ≤ x1 ∧ x1 < 9) ∧ ∃ R9 : fxM → Prop, CtV E m_X9_recordChange [.inr a0] M R9 ∧ ∀ M9 : fxM, R9 M9 → ∀ M10 : fxM, M10 = mset M9 (rf E (rf E (rf E a0 0) 0) 4) (x1.toNat) x2 → ∀ M11 : fxM, M11 = mset M10 (rf E (rf E (rf E a0 0) 0) 5) (x1.toNat) x3 → Q (some (.inl (M (rf E (rf E (rf E a0 0) 0) 4) (x1.toNat)))) M11) ∧ (¬ ((0 : Int) ≤ x3 ∧ x3 ≤ (9000 : Int)) → Q (some (.inl (-1000002))) M))) ∧ (¬ ((0 : Int) ≤ x2 ∧ x2 ≤ (3000 : Int)) → Q (some (.inl (-1000002))) M))) ∧ (¬ ((0 : Int) ≤ x1 ∧ x1 ≤ (M (rf E (rf E a0 0) 0) 3)) → Q (some (.inl (-1000001))) M))) : fx_At E m_X9_setJoint 0 [some (.inr a0), some (.inl x1), some (.inl x2), some (.inl x3), none, none] [] M Q := by
  refine x_aload_n (pc := 0) dX9_setJoint_0 rfl rfl ?_
  refine x_getr (pc := 1) dX9_setJoint_1 f_RX9_12 hk0 ?_
  refine x_getr (pc := 4) dX9_setJoint_4 f_RX9_16 (wk_9_0 hW hk0) ?_
  refine x_astore (pc := 7) (lv' := [some (.inr a0), some (.inl x1), some (.inl x2), some (.inl x3), some (.inr (rf E (rf E a0 0) 0)), none]) dX9_setJoint_7 (by decide) rfl ?_
  refine x_iload_n (pc := 9) dX9_setJoint_9 rfl rfl ?_
  refine x_iconst (pc := 10) dX9_setJoint_10 ?_
  refine x_aload (pc := 11) dX9_setJoint_11 rfl ?_
  refine x_geti (pc := 13) dX9_setJoint_13 f_RX9_104 (wk_5_0 hW (wk_9_0 hW hk0)) ?_
  obtain ⟨g1, h⟩ := h
  obtain ⟨g2, h⟩ := h
  refine x_callS (pc := 16) (z := m_X9_isWithin) (as := [.inl x1, .inl 0, .inl (M (rf E (rf E a0 0) 0) 3)]) (rest := []) dX9_setJoint_16 c_RX9_108 (by decide) rfl (Nat.le_of_ble_eq_true rfl) (ct_isWithin hW g1 ⟨by decide, by decide⟩ g2) (fun r M9 hr => ?_)
  obtain ⟨hM9, hr⟩ := hr
  rw [hM9]
  clear hM9
  obtain ⟨hc, rfl⟩ | ⟨hc, rfl⟩ := hr
  · replace h := h.1 hc
    show fx_At E m_X9_setJoint 19 [some (.inr a0), some (.inl x1), some (.inl x2), some (.inl x3), some (.inr (rf E (rf E a0 0) 0)), none] [.inl 1] _ Q
    refine x_zne (pc := 19) 25 dX9_setJoint_19 (by decide) ⟨by decide, by decide⟩ (fun _ => ?_) (fun hx => absurd hx (by decide))
    refine x_iload_n (pc := 25) dX9_setJoint_25 rfl rfl ?_
    refine x_iconst (pc := 26) dX9_setJoint_26 ?_
    refine x_sipush (pc := 27) dX9_setJoint_27 (by decide +kernel) ?_
    obtain ⟨g4, h⟩ := h
    refine x_callS (pc := 30) (z := m_X9_isWithin) (as := [.inl x2, .inl 0, .inl 3000]) (rest := []) dX9_setJoint_30 c_RX9_108 (by decide) rfl (Nat.le_of_ble_eq_true rfl) (ct_isWithin hW g4 ⟨by decide, by decide⟩ ⟨by decide, by decide⟩) (fun r M9 hr => ?_)
    obtain ⟨hM9, hr⟩ := hr
    rw [hM9]
    clear hM9
    obtain ⟨hc, rfl⟩ | ⟨hc, rfl⟩ := hr
    · replace h := h.1 hc
      show fx_At E m_X9_setJoint 33 [some (.inr a0), some (.inl x1), some (.inl x2), some (.inl x3), some (.inr (rf E (rf E a0 0) 0)), none] [.inl 1] _ Q
      refine x_zeq (pc := 33) 47 dX9_setJoint_33 (by decide) ⟨by decide, by decide⟩ (fun hx => absurd hx (by decide)) (fun _ => ?_)
      refine x_iload_n (pc := 36) dX9_setJoint_36 rfl rfl ?_
      refine x_iconst (pc := 37) dX9_setJoint_37 ?_
      refine x_sipush (pc := 38) dX9_setJoint_38 (by decide +kernel) ?_
      obtain ⟨g6, h⟩ := h
      refine x_callS (pc := 41) (z := m_X9_isWithin) (as := [.inl x3, .inl 0, .inl 9000]) (rest := []) dX9_setJoint_41 c_RX9_108 (by decide) rfl (Nat.le_of_ble_eq_true rfl) (ct_isWithin hW g6 ⟨by decide, by decide⟩ ⟨by decide, by decide⟩) (fun r M9 hr => ?_)
      obtain ⟨hM9, hr⟩ := hr
      rw [hM9]
      clear hM9
      obtain ⟨hc, rfl⟩ | ⟨hc, rfl⟩ := hr
      · replace h := h.1 hc
        show fx_At E m_X9_setJoint 44 [some (.inr a0), some (.inl x1), some (.inl x2), some (.inl x3), some (.inr (rf E (rf E a0 0) 0)), none] [.inl 1] _ Q
        refine x_zne (pc := 44) 50 dX9_setJoint_44 (by decide) ⟨by decide, by decide⟩ (fun _ => ?_) (fun hx => absurd hx (by decide))
        refine x_aload (pc := 50) dX9_setJoint_50 rfl ?_
        refine x_getr (pc := 52) dX9_setJoint_52 f_RX9_112 (wk_5_0 hW (wk_9_0 hW hk0)) ?_
        refine x_iload_n (pc := 55) dX9_setJoint_55 rfl rfl ?_
        obtain ⟨g8, h⟩ := h
        refine x_iald (pc := 56) dX9_setJoint_56 (wk_2_4 hW (wk_5_0 hW (wk_9_0 hW hk0))) (wl_2_4 hW (wk_5_0 hW (wk_9_0 hW hk0))) g8 ?_
        refine x_istore (pc := 57) (lv' := [some (.inr a0), some (.inl x1), some (.inl x2), some (.inl x3), some (.inr (rf E (rf E a0 0) 0)), some (.inl (M (rf E (rf E (rf E a0 0) 0) 4) (x1.toNat)))]) dX9_setJoint_57 (by decide) rfl ?_
        refine x_aload_n (pc := 59) dX9_setJoint_59 rfl rfl ?_
        obtain ⟨R9, hc9, h⟩ := h
        refine x_callV (pc := 60) (z := m_X9_recordChange) (b := a0) (as := []) (rest := []) dX9_setJoint_60 c_RX9_98 (by decide) hk0 rfl (Nat.le_of_ble_eq_true rfl) hc9 (fun r M9 hr => ?_)
        obtain ⟨rfl, hr⟩ := hr
        replace h := h M9 hr
        show fx_At E m_X9_setJoint 63 [some (.inr a0), some (.inl x1), some (.inl x2), some (.inl x3), some (.inr (rf E (rf E a0 0) 0)), some (.inl (M (rf E (rf E (rf E a0 0) 0) 4) (x1.toNat)))] [] M9 Q
        refine x_aload (pc := 63) dX9_setJoint_63 rfl ?_
        refine x_getr (pc := 65) dX9_setJoint_65 f_RX9_112 (wk_5_0 hW (wk_9_0 hW hk0)) ?_
        refine x_iload_n (pc := 68) dX9_setJoint_68 rfl rfl ?_
        refine x_iload_n (pc := 69) dX9_setJoint_69 rfl rfl ?_
        refine x_iast (pc := 70) dX9_setJoint_70 (wk_2_4 hW (wk_5_0 hW (wk_9_0 hW hk0))) (wl_2_4 hW (wk_5_0 hW (wk_9_0 hW hk0))) g8 (fun M10 hM10 => ?_)
        replace h := h M10 hM10
        refine x_aload (pc := 71) dX9_setJoint_71 rfl ?_
        refine x_getr (pc := 73) dX9_setJoint_73 f_RX9_115 (wk_5_0 hW (wk_9_0 hW hk0)) ?_
        refine x_iload_n (pc := 76) dX9_setJoint_76 rfl rfl ?_
        refine x_iload_n (pc := 77) dX9_setJoint_77 rfl rfl ?_
        refine x_iast (pc := 78) dX9_setJoint_78 (wk_2_5 hW (wk_5_0 hW (wk_9_0 hW hk0))) (wl_2_5 hW (wk_5_0 hW (wk_9_0 hW hk0))) g8 (fun M11 hM11 => ?_)
        replace h := h M11 hM11
        refine x_iload (pc := 79) dX9_setJoint_79 rfl ?_
        exact x_iret (pc := 81) dX9_setJoint_81 (Or.inl rfl) h
      · replace h := h.2 hc
        show fx_At E m_X9_setJoint 44 [some (.inr a0), some (.inl x1), some (.inl x2), some (.inl x3), some (.inr (rf E (rf E a0 0) 0)), none] [.inl 0] _ Q
        refine x_zne (pc := 44) 50 dX9_setJoint_44 (by decide) ⟨by decide, by decide⟩ (fun hx => absurd hx (by decide)) (fun _ => ?_)
        refine x_ldc (pc := 47) (n := -1000002) dX9_setJoint_47 k_RX9_93 rfl ?_
        exact x_iret (pc := 49) dX9_setJoint_49 (Or.inl rfl) h
    · replace h := h.2 hc
      show fx_At E m_X9_setJoint 33 [some (.inr a0), some (.inl x1), some (.inl x2), some (.inl x3), some (.inr (rf E (rf E a0 0) 0)), none] [.inl 0] _ Q
      refine x_zeq (pc := 33) 47 dX9_setJoint_33 (by decide) ⟨by decide, by decide⟩ (fun _ => ?_) (fun hx => absurd hx (by decide))
      refine x_ldc (pc := 47) (n := -1000002) dX9_setJoint_47 k_RX9_93 rfl ?_
      exact x_iret (pc := 49) dX9_setJoint_49 (Or.inl rfl) h
  · replace h := h.2 hc
    show fx_At E m_X9_setJoint 19 [some (.inr a0), some (.inl x1), some (.inl x2), some (.inl x3), some (.inr (rf E (rf E a0 0) 0)), none] [.inl 0] _ Q
    refine x_zne (pc := 19) 25 dX9_setJoint_19 (by decide) ⟨by decide, by decide⟩ (fun hx => absurd hx (by decide)) (fun _ => ?_)
    refine x_ldc (pc := 22) (n := -1000001) dX9_setJoint_22 k_RX9_111 rfl ?_
    exact x_iret (pc := 24) dX9_setJoint_24 (Or.inl rfl) h
theorem dX9_addBend_0 : decode cX9_addBend 0 = .ok (.aload_n 0, 1) := by decide +kernel
theorem dX9_addBend_1 : decode cX9_addBend 1 = .ok (.getfield 12, 3) := by decide +kernel
theorem dX9_addBend_4 : decode cX9_addBend 4 = .ok (.getfield 16, 3) := by decide +kernel
theorem dX9_addBend_7 : decode cX9_addBend 7 = .ok (.astore_n 3, 1) := by decide +kernel
theorem dX9_addBend_8 : decode cX9_addBend 8 = .ok (.iload_n 1, 1) := by decide +kernel
theorem dX9_addBend_9 : decode cX9_addBend 9 = .ok (.iconst 1, 1) := by decide +kernel
theorem dX9_addBend_10 : decode cX9_addBend 10 = .ok (.aload_n 3, 1) := by decide +kernel
theorem dX9_addBend_11 : decode cX9_addBend 11 = .ok (.invokevirtual 94, 3) := by decide +kernel
theorem dX9_addBend_14 : decode cX9_addBend 14 = .ok (.iconst 1, 1) := by decide +kernel
theorem dX9_addBend_15 : decode cX9_addBend 15 = .ok (.isub, 1) := by decide +kernel
theorem dX9_addBend_16 : decode cX9_addBend 16 = .ok (.invokestatic 108, 3) := by decide +kernel
theorem dX9_addBend_19 : decode cX9_addBend 19 = .ok (.ifCond .eq 14, 3) := by decide +kernel
theorem dX9_addBend_22 : decode cX9_addBend 22 = .ok (.iload_n 2, 1) := by decide +kernel
theorem dX9_addBend_23 : decode cX9_addBend 23 = .ok (.iconst 1, 1) := by decide +kernel
theorem dX9_addBend_24 : decode cX9_addBend 24 = .ok (.sipush 3000, 3) := by decide +kernel
theorem dX9_addBend_27 : decode cX9_addBend 27 = .ok (.invokestatic 108, 3) := by decide +kernel
theorem dX9_addBend_30 : decode cX9_addBend 30 = .ok (.ifCond .ne 6, 3) := by decide +kernel
theorem dX9_addBend_33 : decode cX9_addBend 33 = .ok (.ldc 93, 2) := by decide +kernel
theorem dX9_addBend_35 : decode cX9_addBend 35 = .ok (.ireturn, 1) := by decide +kernel
theorem dX9_addBend_36 : decode cX9_addBend 36 = .ok (.aload_n 3, 1) := by decide +kernel
theorem dX9_addBend_37 : decode cX9_addBend 37 = .ok (.getfield 118, 3) := by decide +kernel
theorem dX9_addBend_40 : decode cX9_addBend 40 = .ok (.bipush 6, 2) := by decide +kernel
theorem dX9_addBend_42 : decode cX9_addBend 42 = .ok (.if_icmp .lt 6, 3) := by decide +kernel
theorem dX9_addBend_45 : decode cX9_addBend 45 = .ok (.ldc 107, 2) := by decide +kernel
theorem dX9_addBend_47 : decode cX9_addBend 47 = .ok (.ireturn, 1) := by decide +kernel
theorem dX9_addBend_48 : decode cX9_addBend 48 = .ok (.aload_n 0, 1) := by decide +kernel
theorem dX9_addBend_49 : decode cX9_addBend 49 = .ok (.invokevirtual 98, 3) := by decide +kernel
theorem dX9_addBend_52 : decode cX9_addBend 52 = .ok (.aload_n 3, 1) := by decide +kernel
theorem dX9_addBend_53 : decode cX9_addBend 53 = .ok (.iload_n 1, 1) := by decide +kernel
theorem dX9_addBend_54 : decode cX9_addBend 54 = .ok (.iload_n 2, 1) := by decide +kernel
theorem dX9_addBend_55 : decode cX9_addBend 55 = .ok (.invokevirtual 121, 3) := by decide +kernel
theorem dX9_addBend_58 : decode cX9_addBend 58 = .ok (.aload_n 3, 1) := by decide +kernel
theorem dX9_addBend_59 : decode cX9_addBend 59 = .ok (.getfield 118, 3) := by decide +kernel
theorem dX9_addBend_62 : decode cX9_addBend 62 = .ok (.iconst 1, 1) := by decide +kernel
theorem dX9_addBend_63 : decode cX9_addBend 63 = .ok (.isub, 1) := by decide +kernel
theorem dX9_addBend_64 : decode cX9_addBend 64 = .ok (.ireturn, 1) := by decide +kernel
set_option maxRecDepth 100000 in
theorem b_X9_addBend_0 {E : fxE} (hW : fx_Wt E) (a0 : Nat) (x1 : Int) (x2 : Int) (M : fxM) (Q : Option fxV → fxM → Prop) (hk0 : kd E a0 = 9) (h : (0 ≤ M (rf E (rf E a0 0) 0) 3 ∧ M (rf E (rf E a0 0) 0) 3 ≤ 8) ∧ (-2147483648 ≤ x1 ∧ x1 < 2147483648) ∧ (-2147483648 ≤ ((fsum E M (rf E (rf E a0 0) 0) (M (rf E (rf E a0 0) 0) 3).toNat) - 1) ∧ ((fsum E M (rf E (rf E a0 0) 0) (M (rf E (rf E a0 0) 0) 3).toNat) - 1) < 2147483648) ∧ (((1 : Int) ≤ x1 ∧ x1 ≤ ((fsum E M (rf E (rf E a0 0) 0) (M (rf E (rf E a0 0) 0) 3).toNat) - 1) → (-2147483648 ≤ x2 ∧ x2 < 2147483648) ∧ (((1 : Int) ≤ x2 ∧ x2 ≤ (3000 : Int) → (-2147483648 ≤ (M (rf E (rf E a0 0) 0) 8) ∧ (M (rf E (rf E a0 0) 0) 8) < 2147483648) ∧ (((M (rf E (rf E a0 0) 0) 8) < (6 : Int) → ∃ R8 : fxM → Prop, CtV E m_X9_recordChange [.inr a0] M R8 ∧ ∀ M8 : fxM, R8 M8 → ∃ R9 : fxM → Prop, CtV E m_X2_appendBend [.inr (rf E (rf E a0 0) 0), .inl x1, .inl x2] M8 R9 ∧ ∀ M9 : fxM, R9 M9 → Q (some (.inl ((M9 (rf E (rf E a0 0) 0) 8) - 1))) M9) ∧ (¬ (M (rf E (rf E a0 0) 0) 8) < (6 : Int) → Q (some (.inl (-1000003))) M))) ∧ (¬ ((1 : Int) ≤ x2 ∧ x2 ≤ (3000 : Int)) → Q (some (.inl (-1000002))) M))) ∧ (¬ ((1 : Int) ≤ x1 ∧ x1 ≤ ((fsum E M (rf E (rf E a0 0) 0) (M (rf E (rf E a0 0) 0) 3).toNat) - 1)) → Q (some (.inl (-1000002))) M))) : fx_At E m_X9_addBend 0 [some (.inr a0), some (.inl x1), some (.inl x2), none] [] M Q := by
  refine x_aload_n (pc := 0) dX9_addBend_0 rfl rfl ?_
  refine x_getr (pc := 1) dX9_addBend_1 f_RX9_12 hk0 ?_
  refine x_getr (pc := 4) dX9_addBend_4 f_RX9_16 (wk_9_0 hW hk0) ?_
  refine x_astore_n (pc := 7) (lv' := [some (.inr a0), some (.inl x1), some (.inl x2), some (.inr (rf E (rf E a0 0) 0))]) dX9_addBend_7 rfl (by decide) rfl ?_
  refine x_iload_n (pc := 8) dX9_addBend_8 rfl rfl ?_
  refine x_iconst (pc := 9) dX9_addBend_9 ?_
  refine x_aload_n (pc := 10) dX9_addBend_10 rfl rfl ?_
  obtain ⟨g1, h⟩ := h
  refine x_callV (pc := 11) (z := m_X2_totalLength) (b := (rf E (rf E a0 0) 0)) (as := []) (rest := [.inl 1, .inl x1]) dX9_addBend_11 c_RX9_94 (by decide) (wk_5_0 hW (wk_9_0 hW hk0)) rfl (Nat.le_of_ble_eq_true rfl) (ct_X2_totalLength hW (wk_5_0 hW (wk_9_0 hW hk0)) g1) (fun r M9 hr => ?_)
  obtain ⟨hM9, hr⟩ := hr
  rw [hM9, hr]
  clear hM9 hr
  show fx_At E m_X9_addBend 14 [some (.inr a0), some (.inl x1), some (.inl x2), some (.inr (rf E (rf E a0 0) 0))] [.inl (fsum E M (rf E (rf E a0 0) 0) (M (rf E (rf E a0 0) 0) 3).toNat), .inl 1, .inl x1] _ Q
  refine x_iconst (pc := 14) dX9_addBend_14 ?_
  refine x_isub (pc := 15) dX9_addBend_15 ?_
  obtain ⟨g2, h⟩ := h
  obtain ⟨g3, h⟩ := h
  refine x_callS (pc := 16) (z := m_X9_isWithin) (as := [.inl x1, .inl 1, .inl ((fsum E M (rf E (rf E a0 0) 0) (M (rf E (rf E a0 0) 0) 3).toNat) - 1)]) (rest := []) dX9_addBend_16 c_RX9_108 (by decide) rfl (Nat.le_of_ble_eq_true rfl) (ct_isWithin hW g2 ⟨by decide, by decide⟩ g3) (fun r M9 hr => ?_)
  obtain ⟨hM9, hr⟩ := hr
  rw [hM9]
  clear hM9
  obtain ⟨hc, rfl⟩ | ⟨hc, rfl⟩ := hr
  · replace h := h.1 hc
    show fx_At E m_X9_addBend 19 [some (.inr a0), some (.inl x1), some (.inl x2), some (.inr (rf E (rf E a0 0) 0))] [.inl 1] _ Q
    refine x_zeq (pc := 19) 33 dX9_addBend_19 (by decide) ⟨by decide, by decide⟩ (fun hx => absurd hx (by decide)) (fun _ => ?_)
    refine x_iload_n (pc := 22) dX9_addBend_22 rfl rfl ?_
    refine x_iconst (pc := 23) dX9_addBend_23 ?_
    refine x_sipush (pc := 24) dX9_addBend_24 (by decide +kernel) ?_
    obtain ⟨g5, h⟩ := h
    refine x_callS (pc := 27) (z := m_X9_isWithin) (as := [.inl x2, .inl 1, .inl 3000]) (rest := []) dX9_addBend_27 c_RX9_108 (by decide) rfl (Nat.le_of_ble_eq_true rfl) (ct_isWithin hW g5 ⟨by decide, by decide⟩ ⟨by decide, by decide⟩) (fun r M9 hr => ?_)
    obtain ⟨hM9, hr⟩ := hr
    rw [hM9]
    clear hM9
    obtain ⟨hc, rfl⟩ | ⟨hc, rfl⟩ := hr
    · replace h := h.1 hc
      show fx_At E m_X9_addBend 30 [some (.inr a0), some (.inl x1), some (.inl x2), some (.inr (rf E (rf E a0 0) 0))] [.inl 1] _ Q
      refine x_zne (pc := 30) 36 dX9_addBend_30 (by decide) ⟨by decide, by decide⟩ (fun _ => ?_) (fun hx => absurd hx (by decide))
      refine x_aload_n (pc := 36) dX9_addBend_36 rfl rfl ?_
      refine x_geti (pc := 37) dX9_addBend_37 f_RX9_118 (wk_5_0 hW (wk_9_0 hW hk0)) ?_
      refine x_bipush (pc := 40) dX9_addBend_40 (by decide +kernel) ?_
      obtain ⟨g7, h⟩ := h
      refine x_clt (pc := 42) 48 dX9_addBend_42 (by decide) ⟨g7, ⟨by decide, by decide⟩⟩ (fun hc => ?_) (fun hc => ?_)
      · replace h := h.1 hc
        refine x_aload_n (pc := 48) dX9_addBend_48 rfl rfl ?_
        obtain ⟨R8, hc8, h⟩ := h
        refine x_callV (pc := 49) (z := m_X9_recordChange) (b := a0) (as := []) (rest := []) dX9_addBend_49 c_RX9_98 (by decide) hk0 rfl (Nat.le_of_ble_eq_true rfl) hc8 (fun r M8 hr => ?_)
        obtain ⟨rfl, hr⟩ := hr
        replace h := h M8 hr
        show fx_At E m_X9_addBend 52 [some (.inr a0), some (.inl x1), some (.inl x2), some (.inr (rf E (rf E a0 0) 0))] [] M8 Q
        refine x_aload_n (pc := 52) dX9_addBend_52 rfl rfl ?_
        refine x_iload_n (pc := 53) dX9_addBend_53 rfl rfl ?_
        refine x_iload_n (pc := 54) dX9_addBend_54 rfl rfl ?_
        obtain ⟨R9, hc9, h⟩ := h
        refine x_callV (pc := 55) (z := m_X2_appendBend) (b := (rf E (rf E a0 0) 0)) (as := [.inl x1, .inl x2]) (rest := []) dX9_addBend_55 c_RX9_121 (by decide) (wk_5_0 hW (wk_9_0 hW hk0)) rfl (Nat.le_of_ble_eq_true rfl) hc9 (fun r M9 hr => ?_)
        obtain ⟨rfl, hr⟩ := hr
        replace h := h M9 hr
        show fx_At E m_X9_addBend 58 [some (.inr a0), some (.inl x1), some (.inl x2), some (.inr (rf E (rf E a0 0) 0))] [] M9 Q
        refine x_aload_n (pc := 58) dX9_addBend_58 rfl rfl ?_
        refine x_geti (pc := 59) dX9_addBend_59 f_RX9_118 (wk_5_0 hW (wk_9_0 hW hk0)) ?_
        refine x_iconst (pc := 62) dX9_addBend_62 ?_
        refine x_isub (pc := 63) dX9_addBend_63 ?_
        exact x_iret (pc := 64) dX9_addBend_64 (Or.inl rfl) h
      · replace h := h.2 hc
        refine x_ldc (pc := 45) (n := -1000003) dX9_addBend_45 k_RX9_107 rfl ?_
        exact x_iret (pc := 47) dX9_addBend_47 (Or.inl rfl) h
    · replace h := h.2 hc
      show fx_At E m_X9_addBend 30 [some (.inr a0), some (.inl x1), some (.inl x2), some (.inr (rf E (rf E a0 0) 0))] [.inl 0] _ Q
      refine x_zne (pc := 30) 36 dX9_addBend_30 (by decide) ⟨by decide, by decide⟩ (fun hx => absurd hx (by decide)) (fun _ => ?_)
      refine x_ldc (pc := 33) (n := -1000002) dX9_addBend_33 k_RX9_93 rfl ?_
      exact x_iret (pc := 35) dX9_addBend_35 (Or.inl rfl) h
  · replace h := h.2 hc
    show fx_At E m_X9_addBend 19 [some (.inr a0), some (.inl x1), some (.inl x2), some (.inr (rf E (rf E a0 0) 0))] [.inl 0] _ Q
    refine x_zeq (pc := 19) 33 dX9_addBend_19 (by decide) ⟨by decide, by decide⟩ (fun _ => ?_) (fun hx => absurd hx (by decide))
    refine x_ldc (pc := 33) (n := -1000002) dX9_addBend_33 k_RX9_93 rfl ?_
    exact x_iret (pc := 35) dX9_addBend_35 (Or.inl rfl) h
theorem dX9_removeBend_0 : decode cX9_removeBend 0 = .ok (.aload_n 0, 1) := by decide +kernel
theorem dX9_removeBend_1 : decode cX9_removeBend 1 = .ok (.getfield 12, 3) := by decide +kernel
theorem dX9_removeBend_4 : decode cX9_removeBend 4 = .ok (.getfield 16, 3) := by decide +kernel
theorem dX9_removeBend_7 : decode cX9_removeBend 7 = .ok (.astore_n 2, 1) := by decide +kernel
theorem dX9_removeBend_8 : decode cX9_removeBend 8 = .ok (.iload_n 1, 1) := by decide +kernel
theorem dX9_removeBend_9 : decode cX9_removeBend 9 = .ok (.iconst 0, 1) := by decide +kernel
theorem dX9_removeBend_10 : decode cX9_removeBend 10 = .ok (.aload_n 2, 1) := by decide +kernel
theorem dX9_removeBend_11 : decode cX9_removeBend 11 = .ok (.getfield 118, 3) := by decide +kernel
theorem dX9_removeBend_14 : decode cX9_removeBend 14 = .ok (.iconst 1, 1) := by decide +kernel
theorem dX9_removeBend_15 : decode cX9_removeBend 15 = .ok (.isub, 1) := by decide +kernel
theorem dX9_removeBend_16 : decode cX9_removeBend 16 = .ok (.invokestatic 108, 3) := by decide +kernel
theorem dX9_removeBend_19 : decode cX9_removeBend 19 = .ok (.ifCond .ne 6, 3) := by decide +kernel
theorem dX9_removeBend_22 : decode cX9_removeBend 22 = .ok (.ldc 111, 2) := by decide +kernel
theorem dX9_removeBend_24 : decode cX9_removeBend 24 = .ok (.ireturn, 1) := by decide +kernel
theorem dX9_removeBend_25 : decode cX9_removeBend 25 = .ok (.aload_n 2, 1) := by decide +kernel
theorem dX9_removeBend_26 : decode cX9_removeBend 26 = .ok (.getfield 125, 3) := by decide +kernel
theorem dX9_removeBend_29 : decode cX9_removeBend 29 = .ok (.iload_n 1, 1) := by decide +kernel
theorem dX9_removeBend_30 : decode cX9_removeBend 30 = .ok (.iaload, 1) := by decide +kernel
theorem dX9_removeBend_31 : decode cX9_removeBend 31 = .ok (.istore_n 3, 1) := by decide +kernel
theorem dX9_removeBend_32 : decode cX9_removeBend 32 = .ok (.aload_n 0, 1) := by decide +kernel
theorem dX9_removeBend_33 : decode cX9_removeBend 33 = .ok (.invokevirtual 98, 3) := by decide +kernel
theorem dX9_removeBend_36 : decode cX9_removeBend 36 = .ok (.aload_n 2, 1) := by decide +kernel
theorem dX9_removeBend_37 : decode cX9_removeBend 37 = .ok (.iload_n 1, 1) := by decide +kernel
theorem dX9_removeBend_38 : decode cX9_removeBend 38 = .ok (.invokevirtual 128, 3) := by decide +kernel
theorem dX9_removeBend_41 : decode cX9_removeBend 41 = .ok (.iload_n 3, 1) := by decide +kernel
theorem dX9_removeBend_42 : decode cX9_removeBend 42 = .ok (.ireturn, 1) := by decide +kernel
set_option maxRecDepth 100000 in
theorem b_X9_removeBend_0 {E : fxE} (hW : fx_Wt E) (a0 : Nat) (x1 : Int) (M : fxM) (Q : Option fxV → fxM → Prop) (hk0 : kd E a0 = 9) (h : (-2147483648 ≤ x1 ∧ x1 < 2147483648) ∧ (-2147483648 ≤ ((M (rf E (rf E a0 0) 0) 8) - 1) ∧ ((M (rf E (rf E a0 0) 0) 8) - 1) < 2147483648) ∧ (((0 : Int) ≤ x1 ∧ x1 ≤ ((M (rf E (rf E a0 0) 0) 8) - 1) → (0 ≤ x1 ∧ x1 < 6) ∧ ∃ R5 : fxM → Prop, CtV E m_X9_recordChange [.inr a0] M R5 ∧ ∀ M5 : fxM, R5 M5 → ∃ R6 : fxM → Prop, CtV E m_X2_dropBend [.inr (rf E (rf E a0 0) 0), .inl x1] M5 R6 ∧ ∀ M6 : fxM, R6 M6 → Q (some (.inl (M (rf E (rf E (rf E a0 0) 0) 7) (x1.toNat)))) M6) ∧ (¬ ((0 : Int) ≤ x1 ∧ x1 ≤ ((M (rf E (rf E a0 0) 0) 8) - 1)) → Q (some (.inl (-1000001))) M))) : fx_At E m_X9_removeBend 0 [some (.inr a0), some (.inl x1), none, none] [] M Q := by
  refine x_aload_n (pc := 0) dX9_removeBend_0 rfl rfl ?_
  refine x_getr (pc := 1) dX9_removeBend_1 f_RX9_12 hk0 ?_
  refine x_getr (pc := 4) dX9_removeBend_4 f_RX9_16 (wk_9_0 hW hk0) ?_
  refine x_astore_n (pc := 7) (lv' := [some (.inr a0), some (.inl x1), some (.inr (rf E (rf E a0 0) 0)), none]) dX9_removeBend_7 rfl (by decide) rfl ?_
  refine x_iload_n (pc := 8) dX9_removeBend_8 rfl rfl ?_
  refine x_iconst (pc := 9) dX9_removeBend_9 ?_
  refine x_aload_n (pc := 10) dX9_removeBend_10 rfl rfl ?_
  refine x_geti (pc := 11) dX9_removeBend_11 f_RX9_118 (wk_5_0 hW (wk_9_0 hW hk0)) ?_
  refine x_iconst (pc := 14) dX9_removeBend_14 ?_
  refine x_isub (pc := 15) dX9_removeBend_15 ?_
  obtain ⟨g1, h⟩ := h
  obtain ⟨g2, h⟩ := h
  refine x_callS (pc := 16) (z := m_X9_isWithin) (as := [.inl x1, .inl 0, .inl ((M (rf E (rf E a0 0) 0) 8) - 1)]) (rest := []) dX9_removeBend_16 c_RX9_108 (by decide) rfl (Nat.le_of_ble_eq_true rfl) (ct_isWithin hW g1 ⟨by decide, by decide⟩ g2) (fun r M9 hr => ?_)
  obtain ⟨hM9, hr⟩ := hr
  rw [hM9]
  clear hM9
  obtain ⟨hc, rfl⟩ | ⟨hc, rfl⟩ := hr
  · replace h := h.1 hc
    show fx_At E m_X9_removeBend 19 [some (.inr a0), some (.inl x1), some (.inr (rf E (rf E a0 0) 0)), none] [.inl 1] _ Q
    refine x_zne (pc := 19) 25 dX9_removeBend_19 (by decide) ⟨by decide, by decide⟩ (fun _ => ?_) (fun hx => absurd hx (by decide))
    refine x_aload_n (pc := 25) dX9_removeBend_25 rfl rfl ?_
    refine x_getr (pc := 26) dX9_removeBend_26 f_RX9_125 (wk_5_0 hW (wk_9_0 hW hk0)) ?_
    refine x_iload_n (pc := 29) dX9_removeBend_29 rfl rfl ?_
    obtain ⟨g4, h⟩ := h
    refine x_iald (pc := 30) dX9_removeBend_30 (wk_2_7 hW (wk_5_0 hW (wk_9_0 hW hk0))) (wl_2_7 hW (wk_5_0 hW (wk_9_0 hW hk0))) g4 ?_
    refine x_istore_n (pc := 31) (lv' := [some (.inr a0), some (.inl x1), some (.inr (rf E (rf E a0 0) 0)), some (.inl (M (rf E (rf E (rf E a0 0) 0) 7) (x1.toNat)))]) dX9_removeBend_31 rfl (by decide) rfl ?_
    refine x_aload_n (pc := 32) dX9_removeBend_32 rfl rfl ?_
    obtain ⟨R5, hc5, h⟩ := h
    refine x_callV (pc := 33) (z := m_X9_recordChange) (b := a0) (as := []) (rest := []) dX9_removeBend_33 c_RX9_98 (by decide) hk0 rfl (Nat.le_of_ble_eq_true rfl) hc5 (fun r M5 hr => ?_)
    obtain ⟨rfl, hr⟩ := hr
    replace h := h M5 hr
    show fx_At E m_X9_removeBend 36 [some (.inr a0), some (.inl x1), some (.inr (rf E (rf E a0 0) 0)), some (.inl (M (rf E (rf E (rf E a0 0) 0) 7) (x1.toNat)))] [] M5 Q
    refine x_aload_n (pc := 36) dX9_removeBend_36 rfl rfl ?_
    refine x_iload_n (pc := 37) dX9_removeBend_37 rfl rfl ?_
    obtain ⟨R6, hc6, h⟩ := h
    refine x_callV (pc := 38) (z := m_X2_dropBend) (b := (rf E (rf E a0 0) 0)) (as := [.inl x1]) (rest := []) dX9_removeBend_38 c_RX9_128 (by decide) (wk_5_0 hW (wk_9_0 hW hk0)) rfl (Nat.le_of_ble_eq_true rfl) hc6 (fun r M6 hr => ?_)
    obtain ⟨rfl, hr⟩ := hr
    replace h := h M6 hr
    show fx_At E m_X9_removeBend 41 [some (.inr a0), some (.inl x1), some (.inr (rf E (rf E a0 0) 0)), some (.inl (M (rf E (rf E (rf E a0 0) 0) 7) (x1.toNat)))] [] M6 Q
    refine x_iload_n (pc := 41) dX9_removeBend_41 rfl rfl ?_
    exact x_iret (pc := 42) dX9_removeBend_42 (Or.inl rfl) h
  · replace h := h.2 hc
    show fx_At E m_X9_removeBend 19 [some (.inr a0), some (.inl x1), some (.inr (rf E (rf E a0 0) 0)), none] [.inl 0] _ Q
    refine x_zne (pc := 19) 25 dX9_removeBend_19 (by decide) ⟨by decide, by decide⟩ (fun hx => absurd hx (by decide)) (fun _ => ?_)
    refine x_ldc (pc := 22) (n := -1000001) dX9_removeBend_22 k_RX9_111 rfl ?_
    exact x_iret (pc := 24) dX9_removeBend_24 (Or.inl rfl) h
theorem dX9_setBreak_0 : decode cX9_setBreak 0 = .ok (.aload_n 0, 1) := by decide +kernel
theorem dX9_setBreak_1 : decode cX9_setBreak 1 = .ok (.getfield 12, 3) := by decide +kernel
theorem dX9_setBreak_4 : decode cX9_setBreak 4 = .ok (.getfield 16, 3) := by decide +kernel
theorem dX9_setBreak_7 : decode cX9_setBreak 7 = .ok (.astore_n 3, 1) := by decide +kernel
theorem dX9_setBreak_8 : decode cX9_setBreak 8 = .ok (.iload_n 1, 1) := by decide +kernel
theorem dX9_setBreak_9 : decode cX9_setBreak 9 = .ok (.iconst 0, 1) := by decide +kernel
theorem dX9_setBreak_10 : decode cX9_setBreak 10 = .ok (.aload_n 3, 1) := by decide +kernel
theorem dX9_setBreak_11 : decode cX9_setBreak 11 = .ok (.invokevirtual 94, 3) := by decide +kernel
theorem dX9_setBreak_14 : decode cX9_setBreak 14 = .ok (.iconst 1, 1) := by decide +kernel
theorem dX9_setBreak_15 : decode cX9_setBreak 15 = .ok (.isub, 1) := by decide +kernel
theorem dX9_setBreak_16 : decode cX9_setBreak 16 = .ok (.invokestatic 108, 3) := by decide +kernel
theorem dX9_setBreak_19 : decode cX9_setBreak 19 = .ok (.ifCond .eq 14, 3) := by decide +kernel
theorem dX9_setBreak_22 : decode cX9_setBreak 22 = .ok (.iload_n 2, 1) := by decide +kernel
theorem dX9_setBreak_23 : decode cX9_setBreak 23 = .ok (.iconst 0, 1) := by decide +kernel
theorem dX9_setBreak_24 : decode cX9_setBreak 24 = .ok (.sipush 9000, 3) := by decide +kernel
theorem dX9_setBreak_27 : decode cX9_setBreak 27 = .ok (.invokestatic 108, 3) := by decide +kernel
theorem dX9_setBreak_30 : decode cX9_setBreak 30 = .ok (.ifCond .ne 6, 3) := by decide +kernel
theorem dX9_setBreak_33 : decode cX9_setBreak 33 = .ok (.ldc 93, 2) := by decide +kernel
theorem dX9_setBreak_35 : decode cX9_setBreak 35 = .ok (.ireturn, 1) := by decide +kernel
theorem dX9_setBreak_36 : decode cX9_setBreak 36 = .ok (.aload_n 3, 1) := by decide +kernel
theorem dX9_setBreak_37 : decode cX9_setBreak 37 = .ok (.getfield 132, 3) := by decide +kernel
theorem dX9_setBreak_40 : decode cX9_setBreak 40 = .ok (.istore 4, 2) := by decide +kernel
theorem dX9_setBreak_42 : decode cX9_setBreak 42 = .ok (.iload_n 1, 1) := by decide +kernel
theorem dX9_setBreak_43 : decode cX9_setBreak 43 = .ok (.ifCond .ne 11, 3) := by decide +kernel
theorem dX9_setBreak_46 : decode cX9_setBreak 46 = .ok (.iload 4, 2) := by decide +kernel
theorem dX9_setBreak_48 : decode cX9_setBreak 48 = .ok (.ifCond .ne 6, 3) := by decide +kernel
theorem dX9_setBreak_51 : decode cX9_setBreak 51 = .ok (.ldc 135, 2) := by decide +kernel
theorem dX9_setBreak_53 : decode cX9_setBreak 53 = .ok (.ireturn, 1) := by decide +kernel
theorem dX9_setBreak_54 : decode cX9_setBreak 54 = .ok (.aload_n 0, 1) := by decide +kernel
theorem dX9_setBreak_55 : decode cX9_setBreak 55 = .ok (.invokevirtual 98, 3) := by decide +kernel
theorem dX9_setBreak_58 : decode cX9_setBreak 58 = .ok (.aload_n 3, 1) := by decide +kernel
theorem dX9_setBreak_59 : decode cX9_setBreak 59 = .ok (.iload_n 1, 1) := by decide +kernel
theorem dX9_setBreak_60 : decode cX9_setBreak 60 = .ok (.putfield 132, 3) := by decide +kernel
theorem dX9_setBreak_63 : decode cX9_setBreak 63 = .ok (.aload_n 3, 1) := by decide +kernel
theorem dX9_setBreak_64 : decode cX9_setBreak 64 = .ok (.iload_n 1, 1) := by decide +kernel
theorem dX9_setBreak_65 : decode cX9_setBreak 65 = .ok (.ifCond .ne 7, 3) := by decide +kernel
theorem dX9_setBreak_68 : decode cX9_setBreak 68 = .ok (.iconst 0, 1) := by decide +kernel
theorem dX9_setBreak_69 : decode cX9_setBreak 69 = .ok (.goto 4, 3) := by decide +kernel
theorem dX9_setBreak_72 : decode cX9_setBreak 72 = .ok (.iload_n 2, 1) := by decide +kernel
theorem dX9_setBreak_73 : decode cX9_setBreak 73 = .ok (.putfield 136, 3) := by decide +kernel
theorem dX9_setBreak_76 : decode cX9_setBreak 76 = .ok (.iload 4, 2) := by decide +kernel
theorem dX9_setBreak_78 : decode cX9_setBreak 78 = .ok (.ireturn, 1) := by decide +kernel
set_option maxRecDepth 100000 in
theorem b_X9_setBreak_0 {E : fxE} (hW : fx_Wt E) (a0 : Nat) (x1 : Int) (x2 : Int) (M : fxM) (Q : Option fxV → fxM → Prop) (hk0 : kd E a0 = 9) (h : (0 ≤ M (rf E (rf E a0 0) 0) 3 ∧ M (rf E (rf E a0 0) 0) 3 ≤ 8) ∧ (-2147483648 ≤ x1 ∧ x1 < 2147483648) ∧ (-2147483648 ≤ ((fsum E M (rf E (rf E a0 0) 0) (M (rf E (rf E a0 0) 0) 3).toNat) - 1) ∧ ((fsum E M (rf E (rf E a0 0) 0) (M (rf E (rf E a0 0) 0) 3).toNat) - 1) < 2147483648) ∧ (((0 : Int) ≤ x1 ∧ x1 ≤ ((fsum E M (rf E (rf E a0 0) 0) (M (rf E (rf E a0 0) 0) 3).toNat) - 1) → (-2147483648 ≤ x2 ∧ x2 < 2147483648) ∧ (((0 : Int) ≤ x2 ∧ x2 ≤ (9000 : Int) → ((¬ x1 = (0 : Int) → ∃ R7 : fxM → Prop, CtV E m_X9_recordChange [.inr a0] M R7 ∧ ∀ M7 : fxM, R7 M7 → ∀ M8 : fxM, M8 = mset M7 (rf E (rf E a0 0) 0) 9 x1 → ((¬ x1 = (0 : Int) → ∀ M9 : fxM, M9 = mset M8 (rf E (rf E a0 0) 0) 10 x2 → Q (some (.inl (M (rf E (rf E a0 0) 0) 9))) M9) ∧ (x1 = (0 : Int) → ∀ M10 : fxM, M10 = mset M8 (rf E (rf E a0 0) 0) 10 0 → Q (some (.inl (M (rf E (rf E a0 0) 0) 9))) M10))) ∧ (x1 = (0 : Int) → (-2147483648 ≤ (M (rf E (rf E a0 0) 0) 9) ∧ (M (rf E (rf E a0 0) 0) 9) < 2147483648) ∧ ((¬ (M (rf E (rf E a0 0) 0) 9) = (0 : Int) → ∃ R12 : fxM → Prop, CtV E m_X9_recordChange [.inr a0] M R12 ∧ ∀ M12 : fxM, R12 M12 → ∀ M13 : fxM, M13 = mset M12 (rf E (rf E a0 0) 0) 9 x1 → ((¬ x1 = (0 : Int) → ∀ M14 : fxM, M14 = mset M13 (rf E (rf E a0 0) 0) 10 x2 → Q (some (.inl (M (rf E (rf E a0 0) 0) 9))) M14) ∧ (x1 = (0 : Int) → ∀ M15 : fxM, M15 = mset M13 (rf E (rf E a0 0) 0) 10 0 → Q (some (.inl (M (rf E (rf E a0 0) 0) 9))) M15))) ∧ ((M (rf E (rf E a0 0) 0) 9) = (0 : Int) → Q (some (.inl (-1000004))) M))))) ∧ (¬ ((0 : Int) ≤ x2 ∧ x2 ≤ (9000 : Int)) → Q (some (.inl (-1000002))) M))) ∧ (¬ ((0 : Int) ≤ x1 ∧ x1 ≤ ((fsum E M (rf E (rf E a0 0) 0) (M (rf E (rf E a0 0) 0) 3).toNat) - 1)) → Q (some (.inl (-1000002))) M))) : fx_At E m_X9_setBreak 0 [some (.inr a0), some (.inl x1), some (.inl x2), none, none] [] M Q := by
  refine x_aload_n (pc := 0) dX9_setBreak_0 rfl rfl ?_
  refine x_getr (pc := 1) dX9_setBreak_1 f_RX9_12 hk0 ?_
  refine x_getr (pc := 4) dX9_setBreak_4 f_RX9_16 (wk_9_0 hW hk0) ?_
  refine x_astore_n (pc := 7) (lv' := [some (.inr a0), some (.inl x1), some (.inl x2), some (.inr (rf E (rf E a0 0) 0)), none]) dX9_setBreak_7 rfl (by decide) rfl ?_
  refine x_iload_n (pc := 8) dX9_setBreak_8 rfl rfl ?_
  refine x_iconst (pc := 9) dX9_setBreak_9 ?_
  refine x_aload_n (pc := 10) dX9_setBreak_10 rfl rfl ?_
  obtain ⟨g1, h⟩ := h
  refine x_callV (pc := 11) (z := m_X2_totalLength) (b := (rf E (rf E a0 0) 0)) (as := []) (rest := [.inl 0, .inl x1]) dX9_setBreak_11 c_RX9_94 (by decide) (wk_5_0 hW (wk_9_0 hW hk0)) rfl (Nat.le_of_ble_eq_true rfl) (ct_X2_totalLength hW (wk_5_0 hW (wk_9_0 hW hk0)) g1) (fun r M9 hr => ?_)
  obtain ⟨hM9, hr⟩ := hr
  rw [hM9, hr]
  clear hM9 hr
  show fx_At E m_X9_setBreak 14 [some (.inr a0), some (.inl x1), some (.inl x2), some (.inr (rf E (rf E a0 0) 0)), none] [.inl (fsum E M (rf E (rf E a0 0) 0) (M (rf E (rf E a0 0) 0) 3).toNat), .inl 0, .inl x1] _ Q
  refine x_iconst (pc := 14) dX9_setBreak_14 ?_
  refine x_isub (pc := 15) dX9_setBreak_15 ?_
  obtain ⟨g2, h⟩ := h
  obtain ⟨g3, h⟩ := h
  refine x_callS (pc := 16) (z := m_X9_isWithin) (as := [.inl x1, .inl 0, .inl ((fsum E M (rf E (rf E a0 0) 0) (M (rf E (rf E a0 0) 0) 3).toNat) - 1)]) (rest := []) dX9_setBreak_16 c_RX9_108 (by decide) rfl (Nat.le_of_ble_eq_true rfl) (ct_isWithin hW g2 ⟨by decide, by decide⟩ g3) (fun r M9 hr => ?_)
  obtain ⟨hM9, hr⟩ := hr
  rw [hM9]
  clear hM9
  obtain ⟨hc, rfl⟩ | ⟨hc, rfl⟩ := hr
  · replace h := h.1 hc
    show fx_At E m_X9_setBreak 19 [some (.inr a0), some (.inl x1), some (.inl x2), some (.inr (rf E (rf E a0 0) 0)), none] [.inl 1] _ Q
    refine x_zeq (pc := 19) 33 dX9_setBreak_19 (by decide) ⟨by decide, by decide⟩ (fun hx => absurd hx (by decide)) (fun _ => ?_)
    refine x_iload_n (pc := 22) dX9_setBreak_22 rfl rfl ?_
    refine x_iconst (pc := 23) dX9_setBreak_23 ?_
    refine x_sipush (pc := 24) dX9_setBreak_24 (by decide +kernel) ?_
    obtain ⟨g5, h⟩ := h
    refine x_callS (pc := 27) (z := m_X9_isWithin) (as := [.inl x2, .inl 0, .inl 9000]) (rest := []) dX9_setBreak_27 c_RX9_108 (by decide) rfl (Nat.le_of_ble_eq_true rfl) (ct_isWithin hW g5 ⟨by decide, by decide⟩ ⟨by decide, by decide⟩) (fun r M9 hr => ?_)
    obtain ⟨hM9, hr⟩ := hr
    rw [hM9]
    clear hM9
    obtain ⟨hc, rfl⟩ | ⟨hc, rfl⟩ := hr
    · replace h := h.1 hc
      show fx_At E m_X9_setBreak 30 [some (.inr a0), some (.inl x1), some (.inl x2), some (.inr (rf E (rf E a0 0) 0)), none] [.inl 1] _ Q
      refine x_zne (pc := 30) 36 dX9_setBreak_30 (by decide) ⟨by decide, by decide⟩ (fun _ => ?_) (fun hx => absurd hx (by decide))
      refine x_aload_n (pc := 36) dX9_setBreak_36 rfl rfl ?_
      refine x_geti (pc := 37) dX9_setBreak_37 f_RX9_132 (wk_5_0 hW (wk_9_0 hW hk0)) ?_
      refine x_istore (pc := 40) (lv' := [some (.inr a0), some (.inl x1), some (.inl x2), some (.inr (rf E (rf E a0 0) 0)), some (.inl (M (rf E (rf E a0 0) 0) 9))]) dX9_setBreak_40 (by decide) rfl ?_
      refine x_iload_n (pc := 42) dX9_setBreak_42 rfl rfl ?_
      refine x_zne (pc := 43) 54 dX9_setBreak_43 (by decide) g2 (fun hc => ?_) (fun hc => ?_)
      · replace h := h.1 hc
        refine x_aload_n (pc := 54) dX9_setBreak_54 rfl rfl ?_
        obtain ⟨R7, hc7, h⟩ := h
        refine x_callV (pc := 55) (z := m_X9_recordChange) (b := a0) (as := []) (rest := []) dX9_setBreak_55 c_RX9_98 (by decide) hk0 rfl (Nat.le_of_ble_eq_true rfl) hc7 (fun r M7 hr => ?_)
        obtain ⟨rfl, hr⟩ := hr
        replace h := h M7 hr
        show fx_At E m_X9_setBreak 58 [some (.inr a0), some (.inl x1), some (.inl x2), some (.inr (rf E (rf E a0 0) 0)), some (.inl (M (rf E (rf E a0 0) 0) 9))] [] M7 Q
        refine x_aload_n (pc := 58) dX9_setBreak_58 rfl rfl ?_
        refine x_iload_n (pc := 59) dX9_setBreak_59 rfl rfl ?_
        refine x_puti (pc := 60) dX9_setBreak_60 f_RX9_132 (wk_5_0 hW (wk_9_0 hW hk0)) (fun M8 hM8 => ?_)
        replace h := h M8 hM8
        refine x_aload_n (pc := 63) dX9_setBreak_63 rfl rfl ?_
        refine x_iload_n (pc := 64) dX9_setBreak_64 rfl rfl ?_
        refine x_zne (pc := 65) 72 dX9_setBreak_65 (by decide) g2 (fun hc => ?_) (fun hc => ?_)
        · replace h := h.1 hc
          refine x_iload_n (pc := 72) dX9_setBreak_72 rfl rfl ?_
          refine x_puti (pc := 73) dX9_setBreak_73 f_RX9_136 (wk_5_0 hW (wk_9_0 hW hk0)) (fun M9 hM9 => ?_)
          replace h := h M9 hM9
          refine x_iload (pc := 76) dX9_setBreak_76 rfl ?_
          exact x_iret (pc := 78) dX9_setBreak_78 (Or.inl rfl) h
        · replace h := h.2 hc
          refine x_iconst (pc := 68) dX9_setBreak_68 ?_
          refine x_goto (pc := 69) 73 dX9_setBreak_69 (by decide) ?_
          refine x_puti (pc := 73) dX9_setBreak_73 f_RX9_136 (wk_5_0 hW (wk_9_0 hW hk0)) (fun M10 hM10 => ?_)
          replace h := h M10 hM10
          refine x_iload (pc := 76) dX9_setBreak_76 rfl ?_
          exact x_iret (pc := 78) dX9_setBreak_78 (Or.inl rfl) h
      · replace h := h.2 hc
        refine x_iload (pc := 46) dX9_setBreak_46 rfl ?_
        obtain ⟨g11, h⟩ := h
        refine x_zne (pc := 48) 54 dX9_setBreak_48 (by decide) g11 (fun hc => ?_) (fun hc => ?_)
        · replace h := h.1 hc
          refine x_aload_n (pc := 54) dX9_setBreak_54 rfl rfl ?_
          obtain ⟨R12, hc12, h⟩ := h
          refine x_callV (pc := 55) (z := m_X9_recordChange) (b := a0) (as := []) (rest := []) dX9_setBreak_55 c_RX9_98 (by decide) hk0 rfl (Nat.le_of_ble_eq_true rfl) hc12 (fun r M12 hr => ?_)
          obtain ⟨rfl, hr⟩ := hr
          replace h := h M12 hr
          show fx_At E m_X9_setBreak 58 [some (.inr a0), some (.inl x1), some (.inl x2), some (.inr (rf E (rf E a0 0) 0)), some (.inl (M (rf E (rf E a0 0) 0) 9))] [] M12 Q
          refine x_aload_n (pc := 58) dX9_setBreak_58 rfl rfl ?_
          refine x_iload_n (pc := 59) dX9_setBreak_59 rfl rfl ?_
          refine x_puti (pc := 60) dX9_setBreak_60 f_RX9_132 (wk_5_0 hW (wk_9_0 hW hk0)) (fun M13 hM13 => ?_)
          replace h := h M13 hM13
          refine x_aload_n (pc := 63) dX9_setBreak_63 rfl rfl ?_
          refine x_iload_n (pc := 64) dX9_setBreak_64 rfl rfl ?_
          refine x_zne (pc := 65) 72 dX9_setBreak_65 (by decide) g2 (fun hc => ?_) (fun hc => ?_)
          · replace h := h.1 hc
            refine x_iload_n (pc := 72) dX9_setBreak_72 rfl rfl ?_
            refine x_puti (pc := 73) dX9_setBreak_73 f_RX9_136 (wk_5_0 hW (wk_9_0 hW hk0)) (fun M14 hM14 => ?_)
            replace h := h M14 hM14
            refine x_iload (pc := 76) dX9_setBreak_76 rfl ?_
            exact x_iret (pc := 78) dX9_setBreak_78 (Or.inl rfl) h
          · replace h := h.2 hc
            refine x_iconst (pc := 68) dX9_setBreak_68 ?_
            refine x_goto (pc := 69) 73 dX9_setBreak_69 (by decide) ?_
            refine x_puti (pc := 73) dX9_setBreak_73 f_RX9_136 (wk_5_0 hW (wk_9_0 hW hk0)) (fun M15 hM15 => ?_)
            replace h := h M15 hM15
            refine x_iload (pc := 76) dX9_setBreak_76 rfl ?_
            exact x_iret (pc := 78) dX9_setBreak_78 (Or.inl rfl) h
        · replace h := h.2 hc
          refine x_ldc (pc := 51) (n := -1000004) dX9_setBreak_51 k_RX9_135 rfl ?_
          exact x_iret (pc := 53) dX9_setBreak_53 (Or.inl rfl) h
    · replace h := h.2 hc
      show fx_At E m_X9_setBreak 30 [some (.inr a0), some (.inl x1), some (.inl x2), some (.inr (rf E (rf E a0 0) 0)), none] [.inl 0] _ Q
      refine x_zne (pc := 30) 36 dX9_setBreak_30 (by decide) ⟨by decide, by decide⟩ (fun hx => absurd hx (by decide)) (fun _ => ?_)
      refine x_ldc (pc := 33) (n := -1000002) dX9_setBreak_33 k_RX9_93 rfl ?_
      exact x_iret (pc := 35) dX9_setBreak_35 (Or.inl rfl) h
  · replace h := h.2 hc
    show fx_At E m_X9_setBreak 19 [some (.inr a0), some (.inl x1), some (.inl x2), some (.inr (rf E (rf E a0 0) 0)), none] [.inl 0] _ Q
    refine x_zeq (pc := 19) 33 dX9_setBreak_19 (by decide) ⟨by decide, by decide⟩ (fun _ => ?_) (fun hx => absurd hx (by decide))
    refine x_ldc (pc := 33) (n := -1000002) dX9_setBreak_33 k_RX9_93 rfl ?_
    exact x_iret (pc := 35) dX9_setBreak_35 (Or.inl rfl) h
theorem dX9_set_0 : decode cX9_set 0 = .ok (.iload_n 1, 1) := by decide +kernel
theorem dX9_set_1 : decode cX9_set 1 = .ok (.iconst 0, 1) := by decide +kernel
theorem dX9_set_2 : decode cX9_set 2 = .ok (.getstatic 139, 3) := by decide +kernel
theorem dX9_set_5 : decode cX9_set 5 = .ok (.arraylength, 1) := by decide +kernel
theorem dX9_set_6 : decode cX9_set 6 = .ok (.iconst 1, 1) := by decide +kernel
theorem dX9_set_7 : decode cX9_set 7 = .ok (.isub, 1) := by decide +kernel
theorem dX9_set_8 : decode cX9_set 8 = .ok (.invokestatic 108, 3) := by decide +kernel
theorem dX9_set_11 : decode cX9_set 11 = .ok (.ifCond .ne 6, 3) := by decide +kernel
theorem dX9_set_14 : decode cX9_set 14 = .ok (.ldc 111, 2) := by decide +kernel
theorem dX9_set_16 : decode cX9_set 16 = .ok (.ireturn, 1) := by decide +kernel
theorem dX9_set_17 : decode cX9_set 17 = .ok (.iload_n 2, 1) := by decide +kernel
theorem dX9_set_18 : decode cX9_set 18 = .ok (.getstatic 139, 3) := by decide +kernel
theorem dX9_set_21 : decode cX9_set 21 = .ok (.iload_n 1, 1) := by decide +kernel
theorem dX9_set_22 : decode cX9_set 22 = .ok (.iaload, 1) := by decide +kernel
theorem dX9_set_23 : decode cX9_set 23 = .ok (.getstatic 142, 3) := by decide +kernel
theorem dX9_set_26 : decode cX9_set 26 = .ok (.iload_n 1, 1) := by decide +kernel
theorem dX9_set_27 : decode cX9_set 27 = .ok (.iaload, 1) := by decide +kernel
theorem dX9_set_28 : decode cX9_set 28 = .ok (.invokestatic 108, 3) := by decide +kernel
theorem dX9_set_31 : decode cX9_set 31 = .ok (.ifCond .ne 6, 3) := by decide +kernel
theorem dX9_set_34 : decode cX9_set 34 = .ok (.ldc 93, 2) := by decide +kernel
theorem dX9_set_36 : decode cX9_set 36 = .ok (.ireturn, 1) := by decide +kernel
theorem dX9_set_37 : decode cX9_set 37 = .ok (.aload_n 0, 1) := by decide +kernel
theorem dX9_set_38 : decode cX9_set 38 = .ok (.getfield 12, 3) := by decide +kernel
theorem dX9_set_41 : decode cX9_set 41 = .ok (.getfield 26, 3) := by decide +kernel
theorem dX9_set_44 : decode cX9_set 44 = .ok (.iload_n 1, 1) := by decide +kernel
theorem dX9_set_45 : decode cX9_set 45 = .ok (.iaload, 1) := by decide +kernel
theorem dX9_set_46 : decode cX9_set 46 = .ok (.istore_n 3, 1) := by decide +kernel
theorem dX9_set_47 : decode cX9_set 47 = .ok (.aload_n 0, 1) := by decide +kernel
theorem dX9_set_48 : decode cX9_set 48 = .ok (.invokevirtual 98, 3) := by decide +kernel
theorem dX9_set_51 : decode cX9_set 51 = .ok (.aload_n 0, 1) := by decide +kernel
theorem dX9_set_52 : decode cX9_set 52 = .ok (.getfield 12, 3) := by decide +kernel
theorem dX9_set_55 : decode cX9_set 55 = .ok (.getfield 26, 3) := by decide +kernel
theorem dX9_set_58 : decode cX9_set 58 = .ok (.iload_n 1, 1) := by decide +kernel
theorem dX9_set_59 : decode cX9_set 59 = .ok (.iload_n 2, 1) := by decide +kernel
theorem dX9_set_60 : decode cX9_set 60 = .ok (.iastore, 1) := by decide +kernel
theorem dX9_set_61 : decode cX9_set 61 = .ok (.iload_n 3, 1) := by decide +kernel
theorem dX9_set_62 : decode cX9_set 62 = .ok (.ireturn, 1) := by decide +kernel
set_option maxRecDepth 100000 in
theorem b_X9_set_0 {E : fxE} (hW : fx_Wt E) (a0 : Nat) (x1 : Int) (x2 : Int) (M : fxM) (Q : Option fxV → fxM → Prop) (hk0 : kd E a0 = 9) (h : (-2147483648 ≤ x1 ∧ x1 < 2147483648) ∧ (((0 : Int) ≤ x1 ∧ x1 ≤ (3 : Int) → (0 ≤ x1 ∧ x1 < 4) ∧ (-2147483648 ≤ x2 ∧ x2 < 2147483648) ∧ (-2147483648 ≤ (sv 0 x1.toNat) ∧ (sv 0 x1.toNat) < 2147483648) ∧ (-2147483648 ≤ (sv 1 x1.toNat) ∧ (sv 1 x1.toNat) < 2147483648) ∧ (((sv 0 x1.toNat) ≤ x2 ∧ x2 ≤ (sv 1 x1.toNat) → ∃ R8 : fxM → Prop, CtV E m_X9_recordChange [.inr a0] M R8 ∧ ∀ M8 : fxM, R8 M8 → ∀ M9 : fxM, M9 = mset M8 (rf E (rf E a0 0) 2) (x1.toNat) x2 → Q (some (.inl (M (rf E (rf E a0 0) 2) (x1.toNat)))) M9) ∧ (¬ ((sv 0 x1.toNat) ≤ x2 ∧ x2 ≤ (sv 1 x1.toNat)) → Q (some (.inl (-1000002))) M))) ∧ (¬ ((0 : Int) ≤ x1 ∧ x1 ≤ (3 : Int)) → Q (some (.inl (-1000001))) M))) : fx_At E m_X9_set 0 [some (.inr a0), some (.inl x1), some (.inl x2), none] [] M Q := by
  refine x_iload_n (pc := 0) dX9_set_0 rfl rfl ?_
  refine x_iconst (pc := 1) dX9_set_1 ?_
  refine x_gets (pc := 2) 0 dX9_set_2 (by decide) k_RX9_139 ?_
  refine x_tlen (pc := 5) 0 (by decide) dX9_set_5 ?_
  refine x_iconst (pc := 6) dX9_set_6 ?_
  refine x_isub (pc := 7) dX9_set_7 ?_
  obtain ⟨g1, h⟩ := h
  refine x_callS (pc := 8) (z := m_X9_isWithin) (as := [.inl x1, .inl 0, .inl 3]) (rest := []) dX9_set_8 c_RX9_108 (by decide) rfl (Nat.le_of_ble_eq_true rfl) (ct_isWithin hW g1 ⟨by decide, by decide⟩ ⟨by decide, by decide⟩) (fun r M9 hr => ?_)
  obtain ⟨hM9, hr⟩ := hr
  rw [hM9]
  clear hM9
  obtain ⟨hc, rfl⟩ | ⟨hc, rfl⟩ := hr
  · replace h := h.1 hc
    show fx_At E m_X9_set 11 [some (.inr a0), some (.inl x1), some (.inl x2), none] [.inl 1] _ Q
    refine x_zne (pc := 11) 17 dX9_set_11 (by decide) ⟨by decide, by decide⟩ (fun _ => ?_) (fun hx => absurd hx (by decide))
    refine x_iload_n (pc := 17) dX9_set_17 rfl rfl ?_
    refine x_gets (pc := 18) 0 dX9_set_18 (by decide) k_RX9_139 ?_
    refine x_iload_n (pc := 21) dX9_set_21 rfl rfl ?_
    obtain ⟨g3, h⟩ := h
    refine x_tald (pc := 22) 0 (by decide) dX9_set_22 g3 ?_
    refine x_gets (pc := 23) 1 dX9_set_23 (by decide) k_RX9_142 ?_
    refine x_iload_n (pc := 26) dX9_set_26 rfl rfl ?_
    refine x_tald (pc := 27) 1 (by decide) dX9_set_27 g3 ?_
    obtain ⟨g4, h⟩ := h
    obtain ⟨g5, h⟩ := h
    obtain ⟨g6, h⟩ := h
    refine x_callS (pc := 28) (z := m_X9_isWithin) (as := [.inl x2, .inl (sv 0 x1.toNat), .inl (sv 1 x1.toNat)]) (rest := []) dX9_set_28 c_RX9_108 (by decide) rfl (Nat.le_of_ble_eq_true rfl) (ct_isWithin hW g4 g5 g6) (fun r M9 hr => ?_)
    obtain ⟨hM9, hr⟩ := hr
    rw [hM9]
    clear hM9
    obtain ⟨hc, rfl⟩ | ⟨hc, rfl⟩ := hr
    · replace h := h.1 hc
      show fx_At E m_X9_set 31 [some (.inr a0), some (.inl x1), some (.inl x2), none] [.inl 1] _ Q
      refine x_zne (pc := 31) 37 dX9_set_31 (by decide) ⟨by decide, by decide⟩ (fun _ => ?_) (fun hx => absurd hx (by decide))
      refine x_aload_n (pc := 37) dX9_set_37 rfl rfl ?_
      refine x_getr (pc := 38) dX9_set_38 f_RX9_12 hk0 ?_
      refine x_getr (pc := 41) dX9_set_41 f_RX9_26 (wk_9_0 hW hk0) ?_
      refine x_iload_n (pc := 44) dX9_set_44 rfl rfl ?_
      refine x_iald (pc := 45) dX9_set_45 (wk_5_2 hW (wk_9_0 hW hk0)) (wl_5_2 hW (wk_9_0 hW hk0)) g3 ?_
      refine x_istore_n (pc := 46) (lv' := [some (.inr a0), some (.inl x1), some (.inl x2), some (.inl (M (rf E (rf E a0 0) 2) (x1.toNat)))]) dX9_set_46 rfl (by decide) rfl ?_
      refine x_aload_n (pc := 47) dX9_set_47 rfl rfl ?_
      obtain ⟨R8, hc8, h⟩ := h
      refine x_callV (pc := 48) (z := m_X9_recordChange) (b := a0) (as := []) (rest := []) dX9_set_48 c_RX9_98 (by decide) hk0 rfl (Nat.le_of_ble_eq_true rfl) hc8 (fun r M8 hr => ?_)
      obtain ⟨rfl, hr⟩ := hr
      replace h := h M8 hr
      show fx_At E m_X9_set 51 [some (.inr a0), some (.inl x1), some (.inl x2), some (.inl (M (rf E (rf E a0 0) 2) (x1.toNat)))] [] M8 Q
      refine x_aload_n (pc := 51) dX9_set_51 rfl rfl ?_
      refine x_getr (pc := 52) dX9_set_52 f_RX9_12 hk0 ?_
      refine x_getr (pc := 55) dX9_set_55 f_RX9_26 (wk_9_0 hW hk0) ?_
      refine x_iload_n (pc := 58) dX9_set_58 rfl rfl ?_
      refine x_iload_n (pc := 59) dX9_set_59 rfl rfl ?_
      refine x_iast (pc := 60) dX9_set_60 (wk_5_2 hW (wk_9_0 hW hk0)) (wl_5_2 hW (wk_9_0 hW hk0)) g3 (fun M9 hM9 => ?_)
      replace h := h M9 hM9
      refine x_iload_n (pc := 61) dX9_set_61 rfl rfl ?_
      exact x_iret (pc := 62) dX9_set_62 (Or.inl rfl) h
    · replace h := h.2 hc
      show fx_At E m_X9_set 31 [some (.inr a0), some (.inl x1), some (.inl x2), none] [.inl 0] _ Q
      refine x_zne (pc := 31) 37 dX9_set_31 (by decide) ⟨by decide, by decide⟩ (fun hx => absurd hx (by decide)) (fun _ => ?_)
      refine x_ldc (pc := 34) (n := -1000002) dX9_set_34 k_RX9_93 rfl ?_
      exact x_iret (pc := 36) dX9_set_36 (Or.inl rfl) h
  · replace h := h.2 hc
    show fx_At E m_X9_set 11 [some (.inr a0), some (.inl x1), some (.inl x2), none] [.inl 0] _ Q
    refine x_zne (pc := 11) 17 dX9_set_11 (by decide) ⟨by decide, by decide⟩ (fun hx => absurd hx (by decide)) (fun _ => ?_)
    refine x_ldc (pc := 14) (n := -1000001) dX9_set_14 k_RX9_111 rfl ?_
    exact x_iret (pc := 16) dX9_set_16 (Or.inl rfl) h
theorem dX9_undo_0 : decode cX9_undo 0 = .ok (.aload_n 0, 1) := by decide +kernel
theorem dX9_undo_1 : decode cX9_undo 1 = .ok (.getfield 43, 3) := by decide +kernel
theorem dX9_undo_4 : decode cX9_undo 4 = .ok (.getfield 145, 3) := by decide +kernel
theorem dX9_undo_7 : decode cX9_undo 7 = .ok (.ifCond .ne 6, 3) := by decide +kernel
theorem dX9_undo_10 : decode cX9_undo 10 = .ok (.ldc 135, 2) := by decide +kernel
theorem dX9_undo_12 : decode cX9_undo 12 = .ok (.ireturn, 1) := by decide +kernel
theorem dX9_undo_13 : decode cX9_undo 13 = .ok (.aload_n 0, 1) := by decide +kernel
theorem dX9_undo_14 : decode cX9_undo 14 = .ok (.getfield 43, 3) := by decide +kernel
theorem dX9_undo_17 : decode cX9_undo 17 = .ok (.aload_n 0, 1) := by decide +kernel
theorem dX9_undo_18 : decode cX9_undo 18 = .ok (.getfield 12, 3) := by decide +kernel
theorem dX9_undo_21 : decode cX9_undo 21 = .ok (.invokevirtual 148, 3) := by decide +kernel
theorem dX9_undo_24 : decode cX9_undo 24 = .ok (.aload_n 0, 1) := by decide +kernel
theorem dX9_undo_25 : decode cX9_undo 25 = .ok (.dup, 1) := by decide +kernel
theorem dX9_undo_26 : decode cX9_undo 26 = .ok (.getfield 83, 3) := by decide +kernel
theorem dX9_undo_29 : decode cX9_undo 29 = .ok (.iconst 1, 1) := by decide +kernel
theorem dX9_undo_30 : decode cX9_undo 30 = .ok (.iadd, 1) := by decide +kernel
theorem dX9_undo_31 : decode cX9_undo 31 = .ok (.putfield 83, 3) := by decide +kernel
theorem dX9_undo_34 : decode cX9_undo 34 = .ok (.aload_n 0, 1) := by decide +kernel
theorem dX9_undo_35 : decode cX9_undo 35 = .ok (.getfield 43, 3) := by decide +kernel
theorem dX9_undo_38 : decode cX9_undo 38 = .ok (.getfield 145, 3) := by decide +kernel
theorem dX9_undo_41 : decode cX9_undo 41 = .ok (.ireturn, 1) := by decide +kernel
set_option maxRecDepth 100000 in
theorem b_X9_undo_0 {E : fxE} (hW : fx_Wt E) (a0 : Nat) (M : fxM) (Q : Option fxV → fxM → Prop) (hk0 : kd E a0 = 9) (h : (-2147483648 ≤ (M (rf E a0 1) 2) ∧ (M (rf E a0 1) 2) < 2147483648) ∧ ((¬ (M (rf E a0 1) 2) = (0 : Int) → ∃ R2 : fxM → Prop, CtV E m_X3_restoreLatest [.inr (rf E a0 1), .inr (rf E a0 0)] M R2 ∧ ∀ M2 : fxM, R2 M2 → ∀ M3 : fxM, M3 = mset M2 a0 8 ((M2 a0 8) + 1) → Q (some (.inl (M3 (rf E a0 1) 2))) M3) ∧ ((M (rf E a0 1) 2) = (0 : Int) → Q (some (.inl (-1000004))) M))) : fx_At E m_X9_undo 0 [some (.inr a0)] [] M Q := by
  refine x_aload_n (pc := 0) dX9_undo_0 rfl rfl ?_
  refine x_getr (pc := 1) dX9_undo_1 f_RX9_43 hk0 ?_
  refine x_geti (pc := 4) dX9_undo_4 f_RX9_145 (wk_9_1 hW hk0) ?_
  obtain ⟨g1, h⟩ := h
  refine x_zne (pc := 7) 13 dX9_undo_7 (by decide) g1 (fun hc => ?_) (fun hc => ?_)
  · replace h := h.1 hc
    refine x_aload_n (pc := 13) dX9_undo_13 rfl rfl ?_
    refine x_getr (pc := 14) dX9_undo_14 f_RX9_43 hk0 ?_
    refine x_aload_n (pc := 17) dX9_undo_17 rfl rfl ?_
    refine x_getr (pc := 18) dX9_undo_18 f_RX9_12 hk0 ?_
    obtain ⟨R2, hc2, h⟩ := h
    refine x_callV (pc := 21) (z := m_X3_restoreLatest) (b := (rf E a0 1)) (as := [.inr (rf E a0 0)]) (rest := []) dX9_undo_21 c_RX9_148 (by decide) (wk_9_1 hW hk0) rfl (Nat.le_of_ble_eq_true rfl) hc2 (fun r M2 hr => ?_)
    obtain ⟨rfl, hr⟩ := hr
    replace h := h M2 hr
    show fx_At E m_X9_undo 24 [some (.inr a0)] [] M2 Q
    refine x_aload_n (pc := 24) dX9_undo_24 rfl rfl ?_
    refine x_dup (pc := 25) dX9_undo_25 ?_
    refine x_geti (pc := 26) dX9_undo_26 f_RX9_83 hk0 ?_
    refine x_iconst (pc := 29) dX9_undo_29 ?_
    refine x_iadd (pc := 30) dX9_undo_30 ?_
    refine x_puti (pc := 31) dX9_undo_31 f_RX9_83 hk0 (fun M3 hM3 => ?_)
    replace h := h M3 hM3
    refine x_aload_n (pc := 34) dX9_undo_34 rfl rfl ?_
    refine x_getr (pc := 35) dX9_undo_35 f_RX9_43 hk0 ?_
    refine x_geti (pc := 38) dX9_undo_38 f_RX9_145 (wk_9_1 hW hk0) ?_
    exact x_iret (pc := 41) dX9_undo_41 (Or.inl rfl) h
  · replace h := h.2 hc
    refine x_ldc (pc := 10) (n := -1000004) dX9_undo_10 k_RX9_135 rfl ?_
    exact x_iret (pc := 12) dX9_undo_12 (Or.inl rfl) h
theorem dX9_told_0 : decode cX9_told 0 = .ok (.iload_n 1, 1) := by decide +kernel
theorem dX9_told_1 : decode cX9_told 1 = .ok (.tableswitch 132 0 7 #[47, 58, 69, 80, 91, 102, 113, 124], 47) := by decide +kernel
theorem dX9_told_48 : decode cX9_told 48 = .ok (.aload_n 0, 1) := by decide +kernel
theorem dX9_told_49 : decode cX9_told 49 = .ok (.getfield 12, 3) := by decide +kernel
theorem dX9_told_52 : decode cX9_told 52 = .ok (.getfield 16, 3) := by decide +kernel
theorem dX9_told_55 : decode cX9_told 55 = .ok (.invokevirtual 94, 3) := by decide +kernel
theorem dX9_told_58 : decode cX9_told 58 = .ok (.ireturn, 1) := by decide +kernel
theorem dX9_told_59 : decode cX9_told 59 = .ok (.aload_n 0, 1) := by decide +kernel
theorem dX9_told_60 : decode cX9_told 60 = .ok (.getfield 12, 3) := by decide +kernel
theorem dX9_told_63 : decode cX9_told 63 = .ok (.getfield 16, 3) := by decide +kernel
theorem dX9_told_66 : decode cX9_told 66 = .ok (.getfield 104, 3) := by decide +kernel
theorem dX9_told_69 : decode cX9_told 69 = .ok (.ireturn, 1) := by decide +kernel
theorem dX9_told_70 : decode cX9_told 70 = .ok (.aload_n 0, 1) := by decide +kernel
theorem dX9_told_71 : decode cX9_told 71 = .ok (.getfield 12, 3) := by decide +kernel
theorem dX9_told_74 : decode cX9_told 74 = .ok (.getfield 16, 3) := by decide +kernel
theorem dX9_told_77 : decode cX9_told 77 = .ok (.getfield 118, 3) := by decide +kernel
theorem dX9_told_80 : decode cX9_told 80 = .ok (.ireturn, 1) := by decide +kernel
theorem dX9_told_81 : decode cX9_told 81 = .ok (.aload_n 0, 1) := by decide +kernel
theorem dX9_told_82 : decode cX9_told 82 = .ok (.getfield 12, 3) := by decide +kernel
theorem dX9_told_85 : decode cX9_told 85 = .ok (.getfield 16, 3) := by decide +kernel
theorem dX9_told_88 : decode cX9_told 88 = .ok (.getfield 132, 3) := by decide +kernel
theorem dX9_told_91 : decode cX9_told 91 = .ok (.ireturn, 1) := by decide +kernel
theorem dX9_told_92 : decode cX9_told 92 = .ok (.aload_n 0, 1) := by decide +kernel
theorem dX9_told_93 : decode cX9_told 93 = .ok (.getfield 12, 3) := by decide +kernel
theorem dX9_told_96 : decode cX9_told 96 = .ok (.getfield 16, 3) := by decide +kernel
theorem dX9_told_99 : decode cX9_told 99 = .ok (.getfield 136, 3) := by decide +kernel
theorem dX9_told_102 : decode cX9_told 102 = .ok (.ireturn, 1) := by decide +kernel
theorem dX9_told_103 : decode cX9_told 103 = .ok (.aload_n 0, 1) := by decide +kernel
theorem dX9_told_104 : decode cX9_told 104 = .ok (.getfield 12, 3) := by decide +kernel
theorem dX9_told_107 : decode cX9_told 107 = .ok (.getfield 30, 3) := by decide +kernel
theorem dX9_told_110 : decode cX9_told 110 = .ok (.getfield 152, 3) := by decide +kernel
theorem dX9_told_113 : decode cX9_told 113 = .ok (.ireturn, 1) := by decide +kernel
theorem dX9_told_114 : decode cX9_told 114 = .ok (.aload_n 0, 1) := by decide +kernel
theorem dX9_told_115 : decode cX9_told 115 = .ok (.getfield 12, 3) := by decide +kernel
theorem dX9_told_118 : decode cX9_told 118 = .ok (.getfield 30, 3) := by decide +kernel
theorem dX9_told_121 : decode cX9_told 121 = .ok (.getfield 34, 3) := by decide +kernel
theorem dX9_told_124 : decode cX9_told 124 = .ok (.ireturn, 1) := by decide +kernel
theorem dX9_told_125 : decode cX9_told 125 = .ok (.aload_n 0, 1) := by decide +kernel
theorem dX9_told_126 : decode cX9_told 126 = .ok (.getfield 54, 3) := by decide +kernel
theorem dX9_told_129 : decode cX9_told 129 = .ok (.getfield 155, 3) := by decide +kernel
theorem dX9_told_132 : decode cX9_told 132 = .ok (.ireturn, 1) := by decide +kernel
theorem dX9_told_133 : decode cX9_told 133 = .ok (.ldc 93, 2) := by decide +kernel
theorem dX9_told_135 : decode cX9_told 135 = .ok (.ireturn, 1) := by decide +kernel
set_option maxRecDepth 100000 in
theorem b_X9_told_0 {E : fxE} (hW : fx_Wt E) (a0 : Nat) (x1 : Int) (M : fxM) (Q : Option fxV → fxM → Prop) (hk0 : kd E a0 = 9) (h : (-2147483648 ≤ x1 ∧ x1 < 2147483648) ∧ ((x1 = 0 → (0 ≤ M (rf E (rf E a0 0) 0) 3 ∧ M (rf E (rf E a0 0) 0) 3 ≤ 8) ∧ Q (some (.inl (fsum E M (rf E (rf E a0 0) 0) (M (rf E (rf E a0 0) 0) 3).toNat))) M) ∧ (x1 = 1 → Q (some (.inl (M (rf E (rf E a0 0) 0) 3))) M) ∧ (x1 = 2 → Q (some (.inl (M (rf E (rf E a0 0) 0) 8))) M) ∧ (x1 = 3 → Q (some (.inl (M (rf E (rf E a0 0) 0) 9))) M) ∧ (x1 = 4 → Q (some (.inl (M (rf E (rf E a0 0) 0) 10))) M) ∧ (x1 = 5 → Q (some (.inl (M (rf E (rf E a0 0) 1) 2))) M) ∧ (x1 = 6 → Q (some (.inl (M (rf E (rf E a0 0) 1) 3))) M) ∧ (x1 = 7 → Q (some (.inl (M (rf E a0 3) 1))) M) ∧ (x1 < (0 : Int) ∨ (7 : Int) < x1 → Q (some (.inl (-1000002))) M))) : fx_At E m_X9_told 0 [some (.inr a0), some (.inl x1)] [] M Q := by
  refine x_iload_n (pc := 0) dX9_told_0 rfl rfl ?_
  obtain ⟨g1, h⟩ := h
  refine x_tsw (pc := 1) 133 [48, 59, 70, 81, 92, 103, 114, 125] dX9_told_1 g1 (by decide) (by decide) (by decide) (fun j t hj ha => ?_) (fun hc => ?_)
  · match j, hj, ha with
    | 0, hj, ha =>
      cases hj
      replace h := h.1 ha
      refine x_aload_n (pc := 48) dX9_told_48 rfl rfl ?_
      refine x_getr (pc := 49) dX9_told_49 f_RX9_12 hk0 ?_
      refine x_getr (pc := 52) dX9_told_52 f_RX9_16 (wk_9_0 hW hk0) ?_
      obtain ⟨g2, h⟩ := h
      refine x_callV (pc := 55) (z := m_X2_totalLength) (b := (rf E (rf E a0 0) 0)) (as := []) (rest := []) dX9_told_55 c_RX9_94 (by decide) (wk_5_0 hW (wk_9_0 hW hk0)) rfl (Nat.le_of_ble_eq_true rfl) (ct_X2_totalLength hW (wk_5_0 hW (wk_9_0 hW hk0)) g2) (fun r M9 hr => ?_)
      obtain ⟨hM9, hr⟩ := hr
      rw [hM9, hr]
      clear hM9 hr
      show fx_At E m_X9_told 58 [some (.inr a0), some (.inl x1)] [.inl (fsum E M (rf E (rf E a0 0) 0) (M (rf E (rf E a0 0) 0) 3).toNat)] _ Q
      exact x_iret (pc := 58) dX9_told_58 (Or.inl rfl) h
    | 1, hj, ha =>
      cases hj
      replace h := h.2.1 ha
      refine x_aload_n (pc := 59) dX9_told_59 rfl rfl ?_
      refine x_getr (pc := 60) dX9_told_60 f_RX9_12 hk0 ?_
      refine x_getr (pc := 63) dX9_told_63 f_RX9_16 (wk_9_0 hW hk0) ?_
      refine x_geti (pc := 66) dX9_told_66 f_RX9_104 (wk_5_0 hW (wk_9_0 hW hk0)) ?_
      exact x_iret (pc := 69) dX9_told_69 (Or.inl rfl) h
    | 2, hj, ha =>
      cases hj
      replace h := h.2.2.1 ha
      refine x_aload_n (pc := 70) dX9_told_70 rfl rfl ?_
      refine x_getr (pc := 71) dX9_told_71 f_RX9_12 hk0 ?_
      refine x_getr (pc := 74) dX9_told_74 f_RX9_16 (wk_9_0 hW hk0) ?_
      refine x_geti (pc := 77) dX9_told_77 f_RX9_118 (wk_5_0 hW (wk_9_0 hW hk0)) ?_
      exact x_iret (pc := 80) dX9_told_80 (Or.inl rfl) h
    | 3, hj, ha =>
      cases hj
      replace h := h.2.2.2.1 ha
      refine x_aload_n (pc := 81) dX9_told_81 rfl rfl ?_
      refine x_getr (pc := 82) dX9_told_82 f_RX9_12 hk0 ?_
      refine x_getr (pc := 85) dX9_told_85 f_RX9_16 (wk_9_0 hW hk0) ?_
      refine x_geti (pc := 88) dX9_told_88 f_RX9_132 (wk_5_0 hW (wk_9_0 hW hk0)) ?_
      exact x_iret (pc := 91) dX9_told_91 (Or.inl rfl) h
    | 4, hj, ha =>
      cases hj
      replace h := h.2.2.2.2.1 ha
      refine x_aload_n (pc := 92) dX9_told_92 rfl rfl ?_
      refine x_getr (pc := 93) dX9_told_93 f_RX9_12 hk0 ?_
      refine x_getr (pc := 96) dX9_told_96 f_RX9_16 (wk_9_0 hW hk0) ?_
      refine x_geti (pc := 99) dX9_told_99 f_RX9_136 (wk_5_0 hW (wk_9_0 hW hk0)) ?_
      exact x_iret (pc := 102) dX9_told_102 (Or.inl rfl) h
    | 5, hj, ha =>
      cases hj
      replace h := h.2.2.2.2.2.1 ha
      refine x_aload_n (pc := 103) dX9_told_103 rfl rfl ?_
      refine x_getr (pc := 104) dX9_told_104 f_RX9_12 hk0 ?_
      refine x_getr (pc := 107) dX9_told_107 f_RX9_30 (wk_9_0 hW hk0) ?_
      refine x_geti (pc := 110) dX9_told_110 f_RX9_152 (wk_5_1 hW (wk_9_0 hW hk0)) ?_
      exact x_iret (pc := 113) dX9_told_113 (Or.inl rfl) h
    | 6, hj, ha =>
      cases hj
      replace h := h.2.2.2.2.2.2.1 ha
      refine x_aload_n (pc := 114) dX9_told_114 rfl rfl ?_
      refine x_getr (pc := 115) dX9_told_115 f_RX9_12 hk0 ?_
      refine x_getr (pc := 118) dX9_told_118 f_RX9_30 (wk_9_0 hW hk0) ?_
      refine x_geti (pc := 121) dX9_told_121 f_RX9_34 (wk_5_1 hW (wk_9_0 hW hk0)) ?_
      exact x_iret (pc := 124) dX9_told_124 (Or.inl rfl) h
    | 7, hj, ha =>
      cases hj
      replace h := h.2.2.2.2.2.2.2.1 ha
      refine x_aload_n (pc := 125) dX9_told_125 rfl rfl ?_
      refine x_getr (pc := 126) dX9_told_126 f_RX9_54 hk0 ?_
      refine x_geti (pc := 129) dX9_told_129 f_RX9_155 (wk_9_3 hW hk0) ?_
      exact x_iret (pc := 132) dX9_told_132 (Or.inl rfl) h
    | j + 8, hj, ha => simp at hj
  · replace h := h.2.2.2.2.2.2.2.2 hc
    refine x_ldc (pc := 133) (n := -1000002) dX9_told_133 k_RX9_93 rfl ?_
    exact x_iret (pc := 135) dX9_told_135 (Or.inl rfl) h
theorem dX9_section_0 : decode cX9_section 0 = .ok (.aload_n 0, 1) := by decide +kernel
theorem dX9_section_1 : decode cX9_section 1 = .ok (.getfield 12, 3) := by decide +kernel
theorem dX9_section_4 : decode cX9_section 4 = .ok (.getfield 16, 3) := by decide +kernel
theorem dX9_section_7 : decode cX9_section 7 = .ok (.astore_n 3, 1) := by decide +kernel
theorem dX9_section_8 : decode cX9_section 8 = .ok (.iload_n 1, 1) := by decide +kernel
theorem dX9_section_9 : decode cX9_section 9 = .ok (.iconst 0, 1) := by decide +kernel
theorem dX9_section_10 : decode cX9_section 10 = .ok (.aload_n 3, 1) := by decide +kernel
theorem dX9_section_11 : decode cX9_section 11 = .ok (.getfield 104, 3) := by decide +kernel
theorem dX9_section_14 : decode cX9_section 14 = .ok (.iconst 1, 1) := by decide +kernel
theorem dX9_section_15 : decode cX9_section 15 = .ok (.isub, 1) := by decide +kernel
theorem dX9_section_16 : decode cX9_section 16 = .ok (.invokestatic 108, 3) := by decide +kernel
theorem dX9_section_19 : decode cX9_section 19 = .ok (.ifCond .ne 6, 3) := by decide +kernel
theorem dX9_section_22 : decode cX9_section 22 = .ok (.ldc 111, 2) := by decide +kernel
theorem dX9_section_24 : decode cX9_section 24 = .ok (.ireturn, 1) := by decide +kernel
theorem dX9_section_25 : decode cX9_section 25 = .ok (.iload_n 2, 1) := by decide +kernel
theorem dX9_section_26 : decode cX9_section 26 = .ok (.tableswitch 57 0 3 #[30, 37, 44, 51], 30) := by decide +kernel
theorem dX9_section_56 : decode cX9_section 56 = .ok (.aload_n 3, 1) := by decide +kernel
theorem dX9_section_57 : decode cX9_section 57 = .ok (.getfield 156, 3) := by decide +kernel
theorem dX9_section_60 : decode cX9_section 60 = .ok (.iload_n 1, 1) := by decide +kernel
theorem dX9_section_61 : decode cX9_section 61 = .ok (.iaload, 1) := by decide +kernel
theorem dX9_section_62 : decode cX9_section 62 = .ok (.ireturn, 1) := by decide +kernel
theorem dX9_section_63 : decode cX9_section 63 = .ok (.aload_n 3, 1) := by decide +kernel
theorem dX9_section_64 : decode cX9_section 64 = .ok (.getfield 159, 3) := by decide +kernel
theorem dX9_section_67 : decode cX9_section 67 = .ok (.iload_n 1, 1) := by decide +kernel
theorem dX9_section_68 : decode cX9_section 68 = .ok (.iaload, 1) := by decide +kernel
theorem dX9_section_69 : decode cX9_section 69 = .ok (.ireturn, 1) := by decide +kernel
theorem dX9_section_70 : decode cX9_section 70 = .ok (.aload_n 3, 1) := by decide +kernel
theorem dX9_section_71 : decode cX9_section 71 = .ok (.getfield 162, 3) := by decide +kernel
theorem dX9_section_74 : decode cX9_section 74 = .ok (.iload_n 1, 1) := by decide +kernel
theorem dX9_section_75 : decode cX9_section 75 = .ok (.iaload, 1) := by decide +kernel
theorem dX9_section_76 : decode cX9_section 76 = .ok (.ireturn, 1) := by decide +kernel
theorem dX9_section_77 : decode cX9_section 77 = .ok (.aload_n 3, 1) := by decide +kernel
theorem dX9_section_78 : decode cX9_section 78 = .ok (.iload_n 1, 1) := by decide +kernel
theorem dX9_section_79 : decode cX9_section 79 = .ok (.invokevirtual 165, 3) := by decide +kernel
theorem dX9_section_82 : decode cX9_section 82 = .ok (.ireturn, 1) := by decide +kernel
theorem dX9_section_83 : decode cX9_section 83 = .ok (.ldc 93, 2) := by decide +kernel
theorem dX9_section_85 : decode cX9_section 85 = .ok (.ireturn, 1) := by decide +kernel
set_option maxRecDepth 100000 in
theorem b_X9_section_0 {E : fxE} (hW : fx_Wt E) (a0 : Nat) (x1 : Int) (x2 : Int) (M : fxM) (Q : Option fxV → fxM → Prop) (hk0 : kd E a0 = 9) (h : (-2147483648 ≤ x1 ∧ x1 < 2147483648) ∧ (-2147483648 ≤ ((M (rf E (rf E a0 0) 0) 3) - 1) ∧ ((M (rf E (rf E a0 0) 0) 3) - 1) < 2147483648) ∧ (((0 : Int) ≤ x1 ∧ x1 ≤ ((M (rf E (rf E a0 0) 0) 3) - 1) → (-2147483648 ≤ x2 ∧ x2 < 2147483648) ∧ ((x2 = 0 → (0 ≤ x1 ∧ x1 < 8) ∧ Q (some (.inl (M (rf E (rf E (rf E a0 0) 0) 0) (x1.toNat)))) M) ∧ (x2 = 1 → (0 ≤ x1 ∧ x1 < 8) ∧ Q (some (.inl (M (rf E (rf E (rf E a0 0) 0) 1) (x1.toNat)))) M) ∧ (x2 = 2 → (0 ≤ x1 ∧ x1 < 8) ∧ Q (some (.inl (M (rf E (rf E (rf E a0 0) 0) 2) (x1.toNat)))) M) ∧ (x2 = 3 → (0 ≤ x1 ∧ x1 ≤ M (rf E (rf E a0 0) 0) 3 ∧ M (rf E (rf E a0 0) 0) 3 ≤ 8) ∧ Q (some (.inl (fsum E M (rf E (rf E a0 0) 0) x1.toNat))) M) ∧ (x2 < (0 : Int) ∨ (3 : Int) < x2 → Q (some (.inl (-1000002))) M))) ∧ (¬ ((0 : Int) ≤ x1 ∧ x1 ≤ ((M (rf E (rf E a0 0) 0) 3) - 1)) → Q (some (.inl (-1000001))) M))) : fx_At E m_X9_section 0 [some (.inr a0), some (.inl x1), some (.inl x2), none] [] M Q := by
  refine x_aload_n (pc := 0) dX9_section_0 rfl rfl ?_
  refine x_getr (pc := 1) dX9_section_1 f_RX9_12 hk0 ?_
  refine x_getr (pc := 4) dX9_section_4 f_RX9_16 (wk_9_0 hW hk0) ?_
  refine x_astore_n (pc := 7) (lv' := [some (.inr a0), some (.inl x1), some (.inl x2), some (.inr (rf E (rf E a0 0) 0))]) dX9_section_7 rfl (by decide) rfl ?_
  refine x_iload_n (pc := 8) dX9_section_8 rfl rfl ?_
  refine x_iconst (pc := 9) dX9_section_9 ?_
  refine x_aload_n (pc := 10) dX9_section_10 rfl rfl ?_
  refine x_geti (pc := 11) dX9_section_11 f_RX9_104 (wk_5_0 hW (wk_9_0 hW hk0)) ?_
  refine x_iconst (pc := 14) dX9_section_14 ?_
  refine x_isub (pc := 15) dX9_section_15 ?_
  obtain ⟨g1, h⟩ := h
  obtain ⟨g2, h⟩ := h
  refine x_callS (pc := 16) (z := m_X9_isWithin) (as := [.inl x1, .inl 0, .inl ((M (rf E (rf E a0 0) 0) 3) - 1)]) (rest := []) dX9_section_16 c_RX9_108 (by decide) rfl (Nat.le_of_ble_eq_true rfl) (ct_isWithin hW g1 ⟨by decide, by decide⟩ g2) (fun r M9 hr => ?_)
  obtain ⟨hM9, hr⟩ := hr
  rw [hM9]
  clear hM9
  obtain ⟨hc, rfl⟩ | ⟨hc, rfl⟩ := hr
  · replace h := h.1 hc
    show fx_At E m_X9_section 19 [some (.inr a0), some (.inl x1), some (.inl x2), some (.inr (rf E (rf E a0 0) 0))] [.inl 1] _ Q
    refine x_zne (pc := 19) 25 dX9_section_19 (by decide) ⟨by decide, by decide⟩ (fun _ => ?_) (fun hx => absurd hx (by decide))
    refine x_iload_n (pc := 25) dX9_section_25 rfl rfl ?_
    obtain ⟨g4, h⟩ := h
    refine x_tsw (pc := 26) 83 [56, 63, 70, 77] dX9_section_26 g4 (by decide) (by decide) (by decide) (fun j t hj ha => ?_) (fun hc => ?_)
    · match j, hj, ha with
      | 0, hj, ha =>
        cases hj
        replace h := h.1 ha
        refine x_aload_n (pc := 56) dX9_section_56 rfl rfl ?_
        refine x_getr (pc := 57) dX9_section_57 f_RX9_156 (wk_5_0 hW (wk_9_0 hW hk0)) ?_
        refine x_iload_n (pc := 60) dX9_section_60 rfl rfl ?_
        obtain ⟨g5, h⟩ := h
        refine x_iald (pc := 61) dX9_section_61 (wk_2_0 hW (wk_5_0 hW (wk_9_0 hW hk0))) (wl_2_0 hW (wk_5_0 hW (wk_9_0 hW hk0))) g5 ?_
        exact x_iret (pc := 62) dX9_section_62 (Or.inl rfl) h
      | 1, hj, ha =>
        cases hj
        replace h := h.2.1 ha
        refine x_aload_n (pc := 63) dX9_section_63 rfl rfl ?_
        refine x_getr (pc := 64) dX9_section_64 f_RX9_159 (wk_5_0 hW (wk_9_0 hW hk0)) ?_
        refine x_iload_n (pc := 67) dX9_section_67 rfl rfl ?_
        obtain ⟨g6, h⟩ := h
        refine x_iald (pc := 68) dX9_section_68 (wk_2_1 hW (wk_5_0 hW (wk_9_0 hW hk0))) (wl_2_1 hW (wk_5_0 hW (wk_9_0 hW hk0))) g6 ?_
        exact x_iret (pc := 69) dX9_section_69 (Or.inl rfl) h
      | 2, hj, ha =>
        cases hj
        replace h := h.2.2.1 ha
        refine x_aload_n (pc := 70) dX9_section_70 rfl rfl ?_
        refine x_getr (pc := 71) dX9_section_71 f_RX9_162 (wk_5_0 hW (wk_9_0 hW hk0)) ?_
        refine x_iload_n (pc := 74) dX9_section_74 rfl rfl ?_
        obtain ⟨g7, h⟩ := h
        refine x_iald (pc := 75) dX9_section_75 (wk_2_2 hW (wk_5_0 hW (wk_9_0 hW hk0))) (wl_2_2 hW (wk_5_0 hW (wk_9_0 hW hk0))) g7 ?_
        exact x_iret (pc := 76) dX9_section_76 (Or.inl rfl) h
      | 3, hj, ha =>
        cases hj
        replace h := h.2.2.2.1 ha
        refine x_aload_n (pc := 77) dX9_section_77 rfl rfl ?_
        refine x_iload_n (pc := 78) dX9_section_78 rfl rfl ?_
        obtain ⟨g8, h⟩ := h
        refine x_callV (pc := 79) (z := m_X2_placeOfJoint) (b := (rf E (rf E a0 0) 0)) (as := [.inl x1]) (rest := []) dX9_section_79 c_RX9_165 (by decide) (wk_5_0 hW (wk_9_0 hW hk0)) rfl (Nat.le_of_ble_eq_true rfl) (ct_X2_placeOfJoint hW (wk_5_0 hW (wk_9_0 hW hk0)) g8) (fun r M9 hr => ?_)
        obtain ⟨hM9, hr⟩ := hr
        rw [hM9, hr]
        clear hM9 hr
        show fx_At E m_X9_section 82 [some (.inr a0), some (.inl x1), some (.inl x2), some (.inr (rf E (rf E a0 0) 0))] [.inl (fsum E M (rf E (rf E a0 0) 0) x1.toNat)] _ Q
        exact x_iret (pc := 82) dX9_section_82 (Or.inl rfl) h
      | j + 4, hj, ha => simp at hj
    · replace h := h.2.2.2.2 hc
      refine x_ldc (pc := 83) (n := -1000002) dX9_section_83 k_RX9_93 rfl ?_
      exact x_iret (pc := 85) dX9_section_85 (Or.inl rfl) h
  · replace h := h.2 hc
    show fx_At E m_X9_section 19 [some (.inr a0), some (.inl x1), some (.inl x2), some (.inr (rf E (rf E a0 0) 0))] [.inl 0] _ Q
    refine x_zne (pc := 19) 25 dX9_section_19 (by decide) ⟨by decide, by decide⟩ (fun hx => absurd hx (by decide)) (fun _ => ?_)
    refine x_ldc (pc := 22) (n := -1000001) dX9_section_22 k_RX9_111 rfl ?_
    exact x_iret (pc := 24) dX9_section_24 (Or.inl rfl) h
theorem dX9_joint_0 : decode cX9_joint 0 = .ok (.aload_n 0, 1) := by decide +kernel
theorem dX9_joint_1 : decode cX9_joint 1 = .ok (.getfield 12, 3) := by decide +kernel
theorem dX9_joint_4 : decode cX9_joint 4 = .ok (.getfield 16, 3) := by decide +kernel
theorem dX9_joint_7 : decode cX9_joint 7 = .ok (.astore_n 3, 1) := by decide +kernel
theorem dX9_joint_8 : decode cX9_joint 8 = .ok (.iload_n 1, 1) := by decide +kernel
theorem dX9_joint_9 : decode cX9_joint 9 = .ok (.iconst 0, 1) := by decide +kernel
theorem dX9_joint_10 : decode cX9_joint 10 = .ok (.aload_n 3, 1) := by decide +kernel
theorem dX9_joint_11 : decode cX9_joint 11 = .ok (.getfield 104, 3) := by decide +kernel
theorem dX9_joint_14 : decode cX9_joint 14 = .ok (.invokestatic 108, 3) := by decide +kernel
theorem dX9_joint_17 : decode cX9_joint 17 = .ok (.ifCond .ne 6, 3) := by decide +kernel
theorem dX9_joint_20 : decode cX9_joint 20 = .ok (.ldc 111, 2) := by decide +kernel
theorem dX9_joint_22 : decode cX9_joint 22 = .ok (.ireturn, 1) := by decide +kernel
theorem dX9_joint_23 : decode cX9_joint 23 = .ok (.iload_n 2, 1) := by decide +kernel
theorem dX9_joint_24 : decode cX9_joint 24 = .ok (.tableswitch 48 0 2 #[28, 35, 42], 28) := by decide +kernel
theorem dX9_joint_52 : decode cX9_joint 52 = .ok (.aload_n 3, 1) := by decide +kernel
theorem dX9_joint_53 : decode cX9_joint 53 = .ok (.getfield 112, 3) := by decide +kernel
theorem dX9_joint_56 : decode cX9_joint 56 = .ok (.iload_n 1, 1) := by decide +kernel
theorem dX9_joint_57 : decode cX9_joint 57 = .ok (.iaload, 1) := by decide +kernel
theorem dX9_joint_58 : decode cX9_joint 58 = .ok (.ireturn, 1) := by decide +kernel
theorem dX9_joint_59 : decode cX9_joint 59 = .ok (.aload_n 3, 1) := by decide +kernel
theorem dX9_joint_60 : decode cX9_joint 60 = .ok (.getfield 115, 3) := by decide +kernel
theorem dX9_joint_63 : decode cX9_joint 63 = .ok (.iload_n 1, 1) := by decide +kernel
theorem dX9_joint_64 : decode cX9_joint 64 = .ok (.iaload, 1) := by decide +kernel
theorem dX9_joint_65 : decode cX9_joint 65 = .ok (.ireturn, 1) := by decide +kernel
theorem dX9_joint_66 : decode cX9_joint 66 = .ok (.aload_n 3, 1) := by decide +kernel
theorem dX9_joint_67 : decode cX9_joint 67 = .ok (.iload_n 1, 1) := by decide +kernel
theorem dX9_joint_68 : decode cX9_joint 68 = .ok (.invokevirtual 165, 3) := by decide +kernel
theorem dX9_joint_71 : decode cX9_joint 71 = .ok (.ireturn, 1) := by decide +kernel
theorem dX9_joint_72 : decode cX9_joint 72 = .ok (.ldc 93, 2) := by decide +kernel
theorem dX9_joint_74 : decode cX9_joint 74 = .ok (.ireturn, 1) := by decide +kernel
set_option maxRecDepth 100000 in
theorem b_X9_joint_0 {E : fxE} (hW : fx_Wt E) (a0 : Nat) (x1 : Int) (x2 : Int) (M : fxM) (Q : Option fxV → fxM → Prop) (hk0 : kd E a0 = 9) (h : (-2147483648 ≤ x1 ∧ x1 < 2147483648) ∧ (-2147483648 ≤ (M (rf E (rf E a0 0) 0) 3) ∧ (M (rf E (rf E a0 0) 0) 3) < 2147483648) ∧ (((0 : Int) ≤ x1 ∧ x1 ≤ (M (rf E (rf E a0 0) 0) 3) → (-2147483648 ≤ x2 ∧ x2 < 2147483648) ∧ ((x2 = 0 → (0 ≤ x1 ∧ x1 < 9) ∧ Q (some (.inl (M (rf E (rf E (rf E a0 0) 0) 4) (x1.toNat)))) M) ∧ (x2 = 1 → (0 ≤ x1 ∧ x1 < 9) ∧ Q (some (.inl (M (rf E (rf E (rf E a0 0) 0) 5) (x1.toNat)))) M) ∧ (x2 = 2 → (0 ≤ x1 ∧ x1 ≤ M (rf E (rf E a0 0) 0) 3 ∧ M (rf E (rf E a0 0) 0) 3 ≤ 8) ∧ Q (some (.inl (fsum E M (rf E (rf E a0 0) 0) x1.toNat))) M) ∧ (x2 < (0 : Int) ∨ (2 : Int) < x2 → Q (some (.inl (-1000002))) M))) ∧ (¬ ((0 : Int) ≤ x1 ∧ x1 ≤ (M (rf E (rf E a0 0) 0) 3)) → Q (some (.inl (-1000001))) M))) : fx_At E m_X9_joint 0 [some (.inr a0), some (.inl x1), some (.inl x2), none] [] M Q := by
  refine x_aload_n (pc := 0) dX9_joint_0 rfl rfl ?_
  refine x_getr (pc := 1) dX9_joint_1 f_RX9_12 hk0 ?_
  refine x_getr (pc := 4) dX9_joint_4 f_RX9_16 (wk_9_0 hW hk0) ?_
  refine x_astore_n (pc := 7) (lv' := [some (.inr a0), some (.inl x1), some (.inl x2), some (.inr (rf E (rf E a0 0) 0))]) dX9_joint_7 rfl (by decide) rfl ?_
  refine x_iload_n (pc := 8) dX9_joint_8 rfl rfl ?_
  refine x_iconst (pc := 9) dX9_joint_9 ?_
  refine x_aload_n (pc := 10) dX9_joint_10 rfl rfl ?_
  refine x_geti (pc := 11) dX9_joint_11 f_RX9_104 (wk_5_0 hW (wk_9_0 hW hk0)) ?_
  obtain ⟨g1, h⟩ := h
  obtain ⟨g2, h⟩ := h
  refine x_callS (pc := 14) (z := m_X9_isWithin) (as := [.inl x1, .inl 0, .inl (M (rf E (rf E a0 0) 0) 3)]) (rest := []) dX9_joint_14 c_RX9_108 (by decide) rfl (Nat.le_of_ble_eq_true rfl) (ct_isWithin hW g1 ⟨by decide, by decide⟩ g2) (fun r M9 hr => ?_)
  obtain ⟨hM9, hr⟩ := hr
  rw [hM9]
  clear hM9
  obtain ⟨hc, rfl⟩ | ⟨hc, rfl⟩ := hr
  · replace h := h.1 hc
    show fx_At E m_X9_joint 17 [some (.inr a0), some (.inl x1), some (.inl x2), some (.inr (rf E (rf E a0 0) 0))] [.inl 1] _ Q
    refine x_zne (pc := 17) 23 dX9_joint_17 (by decide) ⟨by decide, by decide⟩ (fun _ => ?_) (fun hx => absurd hx (by decide))
    refine x_iload_n (pc := 23) dX9_joint_23 rfl rfl ?_
    obtain ⟨g4, h⟩ := h
    refine x_tsw (pc := 24) 72 [52, 59, 66] dX9_joint_24 g4 (by decide) (by decide) (by decide) (fun j t hj ha => ?_) (fun hc => ?_)
    · match j, hj, ha with
      | 0, hj, ha =>
        cases hj
        replace h := h.1 ha
        refine x_aload_n (pc := 52) dX9_joint_52 rfl rfl ?_
        refine x_getr (pc := 53) dX9_joint_53 f_RX9_112 (wk_5_0 hW (wk_9_0 hW hk0)) ?_
        refine x_iload_n (pc := 56) dX9_joint_56 rfl rfl ?_
        obtain ⟨g5, h⟩ := h
        refine x_iald (pc := 57) dX9_joint_57 (wk_2_4 hW (wk_5_0 hW (wk_9_0 hW hk0))) (wl_2_4 hW (wk_5_0 hW (wk_9_0 hW hk0))) g5 ?_
        exact x_iret (pc := 58) dX9_joint_58 (Or.inl rfl) h
      | 1, hj, ha =>
        cases hj
        replace h := h.2.1 ha
        refine x_aload_n (pc := 59) dX9_joint_59 rfl rfl ?_
        refine x_getr (pc := 60) dX9_joint_60 f_RX9_115 (wk_5_0 hW (wk_9_0 hW hk0)) ?_
        refine x_iload_n (pc := 63) dX9_joint_63 rfl rfl ?_
        obtain ⟨g6, h⟩ := h
        refine x_iald (pc := 64) dX9_joint_64 (wk_2_5 hW (wk_5_0 hW (wk_9_0 hW hk0))) (wl_2_5 hW (wk_5_0 hW (wk_9_0 hW hk0))) g6 ?_
        exact x_iret (pc := 65) dX9_joint_65 (Or.inl rfl) h
      | 2, hj, ha =>
        cases hj
        replace h := h.2.2.1 ha
        refine x_aload_n (pc := 66) dX9_joint_66 rfl rfl ?_
        refine x_iload_n (pc := 67) dX9_joint_67 rfl rfl ?_
        obtain ⟨g7, h⟩ := h
        refine x_callV (pc := 68) (z := m_X2_placeOfJoint) (b := (rf E (rf E a0 0) 0)) (as := [.inl x1]) (rest := []) dX9_joint_68 c_RX9_165 (by decide) (wk_5_0 hW (wk_9_0 hW hk0)) rfl (Nat.le_of_ble_eq_true rfl) (ct_X2_placeOfJoint hW (wk_5_0 hW (wk_9_0 hW hk0)) g7) (fun r M9 hr => ?_)
        obtain ⟨hM9, hr⟩ := hr
        rw [hM9, hr]
        clear hM9 hr
        show fx_At E m_X9_joint 71 [some (.inr a0), some (.inl x1), some (.inl x2), some (.inr (rf E (rf E a0 0) 0))] [.inl (fsum E M (rf E (rf E a0 0) 0) x1.toNat)] _ Q
        exact x_iret (pc := 71) dX9_joint_71 (Or.inl rfl) h
      | j + 3, hj, ha => simp at hj
    · replace h := h.2.2.2 hc
      refine x_ldc (pc := 72) (n := -1000002) dX9_joint_72 k_RX9_93 rfl ?_
      exact x_iret (pc := 74) dX9_joint_74 (Or.inl rfl) h
  · replace h := h.2 hc
    show fx_At E m_X9_joint 17 [some (.inr a0), some (.inl x1), some (.inl x2), some (.inr (rf E (rf E a0 0) 0))] [.inl 0] _ Q
    refine x_zne (pc := 17) 23 dX9_joint_17 (by decide) ⟨by decide, by decide⟩ (fun hx => absurd hx (by decide)) (fun _ => ?_)
    refine x_ldc (pc := 20) (n := -1000001) dX9_joint_20 k_RX9_111 rfl ?_
    exact x_iret (pc := 22) dX9_joint_22 (Or.inl rfl) h
theorem dX9_bend_0 : decode cX9_bend 0 = .ok (.aload_n 0, 1) := by decide +kernel
theorem dX9_bend_1 : decode cX9_bend 1 = .ok (.getfield 12, 3) := by decide +kernel
theorem dX9_bend_4 : decode cX9_bend 4 = .ok (.getfield 16, 3) := by decide +kernel
theorem dX9_bend_7 : decode cX9_bend 7 = .ok (.astore_n 3, 1) := by decide +kernel
theorem dX9_bend_8 : decode cX9_bend 8 = .ok (.iload_n 1, 1) := by decide +kernel
theorem dX9_bend_9 : decode cX9_bend 9 = .ok (.iconst 0, 1) := by decide +kernel
theorem dX9_bend_10 : decode cX9_bend 10 = .ok (.aload_n 3, 1) := by decide +kernel
theorem dX9_bend_11 : decode cX9_bend 11 = .ok (.getfield 118, 3) := by decide +kernel
theorem dX9_bend_14 : decode cX9_bend 14 = .ok (.iconst 1, 1) := by decide +kernel
theorem dX9_bend_15 : decode cX9_bend 15 = .ok (.isub, 1) := by decide +kernel
theorem dX9_bend_16 : decode cX9_bend 16 = .ok (.invokestatic 108, 3) := by decide +kernel
theorem dX9_bend_19 : decode cX9_bend 19 = .ok (.ifCond .ne 6, 3) := by decide +kernel
theorem dX9_bend_22 : decode cX9_bend 22 = .ok (.ldc 111, 2) := by decide +kernel
theorem dX9_bend_24 : decode cX9_bend 24 = .ok (.ireturn, 1) := by decide +kernel
theorem dX9_bend_25 : decode cX9_bend 25 = .ok (.iload_n 2, 1) := by decide +kernel
theorem dX9_bend_26 : decode cX9_bend 26 = .ok (.lookupswitch 40 #[(0, 26), (1, 33)], 26) := by decide +kernel
theorem dX9_bend_52 : decode cX9_bend 52 = .ok (.aload_n 3, 1) := by decide +kernel
theorem dX9_bend_53 : decode cX9_bend 53 = .ok (.getfield 125, 3) := by decide +kernel
theorem dX9_bend_56 : decode cX9_bend 56 = .ok (.iload_n 1, 1) := by decide +kernel
theorem dX9_bend_57 : decode cX9_bend 57 = .ok (.iaload, 1) := by decide +kernel
theorem dX9_bend_58 : decode cX9_bend 58 = .ok (.ireturn, 1) := by decide +kernel
theorem dX9_bend_59 : decode cX9_bend 59 = .ok (.aload_n 3, 1) := by decide +kernel
theorem dX9_bend_60 : decode cX9_bend 60 = .ok (.getfield 169, 3) := by decide +kernel
theorem dX9_bend_63 : decode cX9_bend 63 = .ok (.iload_n 1, 1) := by decide +kernel
theorem dX9_bend_64 : decode cX9_bend 64 = .ok (.iaload, 1) := by decide +kernel
theorem dX9_bend_65 : decode cX9_bend 65 = .ok (.ireturn, 1) := by decide +kernel
theorem dX9_bend_66 : decode cX9_bend 66 = .ok (.ldc 93, 2) := by decide +kernel
theorem dX9_bend_68 : decode cX9_bend 68 = .ok (.ireturn, 1) := by decide +kernel
set_option maxRecDepth 100000 in
theorem b_X9_bend_0 {E : fxE} (hW : fx_Wt E) (a0 : Nat) (x1 : Int) (x2 : Int) (M : fxM) (Q : Option fxV → fxM → Prop) (hk0 : kd E a0 = 9) (h : (-2147483648 ≤ x1 ∧ x1 < 2147483648) ∧ (-2147483648 ≤ ((M (rf E (rf E a0 0) 0) 8) - 1) ∧ ((M (rf E (rf E a0 0) 0) 8) - 1) < 2147483648) ∧ (((0 : Int) ≤ x1 ∧ x1 ≤ ((M (rf E (rf E a0 0) 0) 8) - 1) → (-2147483648 ≤ x2 ∧ x2 < 2147483648) ∧ ((x2 = (0 : Int) → (0 ≤ x1 ∧ x1 < 6) ∧ Q (some (.inl (M (rf E (rf E (rf E a0 0) 0) 7) (x1.toNat)))) M) ∧ (¬ x2 = (0 : Int) → ((x2 = (1 : Int) → (0 ≤ x1 ∧ x1 < 6) ∧ Q (some (.inl (M (rf E (rf E (rf E a0 0) 0) 6) (x1.toNat)))) M) ∧ (¬ x2 = (1 : Int) → Q (some (.inl (-1000002))) M))))) ∧ (¬ ((0 : Int) ≤ x1 ∧ x1 ≤ ((M (rf E (rf E a0 0) 0) 8) - 1)) → Q (some (.inl (-1000001))) M))) : fx_At E m_X9_bend 0 [some (.inr a0), some (.inl x1), some (.inl x2), none] [] M Q := by
  refine x_aload_n (pc := 0) dX9_bend_0 rfl rfl ?_
  refine x_getr (pc := 1) dX9_bend_1 f_RX9_12 hk0 ?_
  refine x_getr (pc := 4) dX9_bend_4 f_RX9_16 (wk_9_0 hW hk0) ?_
  refine x_astore_n (pc := 7) (lv' := [some (.inr a0), some (.inl x1), some (.inl x2), some (.inr (rf E (rf E a0 0) 0))]) dX9_bend_7 rfl (by decide) rfl ?_
  refine x_iload_n (pc := 8) dX9_bend_8 rfl rfl ?_
  refine x_iconst (pc := 9) dX9_bend_9 ?_
  refine x_aload_n (pc := 10) dX9_bend_10 rfl rfl ?_
  refine x_geti (pc := 11) dX9_bend_11 f_RX9_118 (wk_5_0 hW (wk_9_0 hW hk0)) ?_
  refine x_iconst (pc := 14) dX9_bend_14 ?_
  refine x_isub (pc := 15) dX9_bend_15 ?_
  obtain ⟨g1, h⟩ := h
  obtain ⟨g2, h⟩ := h
  refine x_callS (pc := 16) (z := m_X9_isWithin) (as := [.inl x1, .inl 0, .inl ((M (rf E (rf E a0 0) 0) 8) - 1)]) (rest := []) dX9_bend_16 c_RX9_108 (by decide) rfl (Nat.le_of_ble_eq_true rfl) (ct_isWithin hW g1 ⟨by decide, by decide⟩ g2) (fun r M9 hr => ?_)
  obtain ⟨hM9, hr⟩ := hr
  rw [hM9]
  clear hM9
  obtain ⟨hc, rfl⟩ | ⟨hc, rfl⟩ := hr
  · replace h := h.1 hc
    show fx_At E m_X9_bend 19 [some (.inr a0), some (.inl x1), some (.inl x2), some (.inr (rf E (rf E a0 0) 0))] [.inl 1] _ Q
    refine x_zne (pc := 19) 25 dX9_bend_19 (by decide) ⟨by decide, by decide⟩ (fun _ => ?_) (fun hx => absurd hx (by decide))
    refine x_iload_n (pc := 25) dX9_bend_25 rfl rfl ?_
    obtain ⟨g4, h⟩ := h
    rcases Classical.em (x2 = (0 : Int)) with hx0 | hx0
    · replace h := h.1 hx0
      refine x_lsw (pc := 26) 52 dX9_bend_26 (by decide) g4 (by show (26 : Int) + Op.lookupswitch.offset [(0, 26), (1, 33)] 40 x2 = _; rw [Op.lookupswitch.offset_cons, if_pos hx0.symm]; decide) ?_
      refine x_aload_n (pc := 52) dX9_bend_52 rfl rfl ?_
      refine x_getr (pc := 53) dX9_bend_53 f_RX9_125 (wk_5_0 hW (wk_9_0 hW hk0)) ?_
      refine x_iload_n (pc := 56) dX9_bend_56 rfl rfl ?_
      obtain ⟨g5, h⟩ := h
      refine x_iald (pc := 57) dX9_bend_57 (wk_2_7 hW (wk_5_0 hW (wk_9_0 hW hk0))) (wl_2_7 hW (wk_5_0 hW (wk_9_0 hW hk0))) g5 ?_
      exact x_iret (pc := 58) dX9_bend_58 (Or.inl rfl) h
    replace h := h.2 hx0
    rcases Classical.em (x2 = (1 : Int)) with hx1 | hx1
    · replace h := h.1 hx1
      refine x_lsw (pc := 26) 59 dX9_bend_26 (by decide) g4 (by show (26 : Int) + Op.lookupswitch.offset [(0, 26), (1, 33)] 40 x2 = _; rw [Op.lookupswitch.offset_cons, if_neg (fun z => hx0 z.symm)]; rw [Op.lookupswitch.offset_cons, if_pos hx1.symm]; decide) ?_
      refine x_aload_n (pc := 59) dX9_bend_59 rfl rfl ?_
      refine x_getr (pc := 60) dX9_bend_60 f_RX9_169 (wk_5_0 hW (wk_9_0 hW hk0)) ?_
      refine x_iload_n (pc := 63) dX9_bend_63 rfl rfl ?_
      obtain ⟨g6, h⟩ := h
      refine x_iald (pc := 64) dX9_bend_64 (wk_2_6 hW (wk_5_0 hW (wk_9_0 hW hk0))) (wl_2_6 hW (wk_5_0 hW (wk_9_0 hW hk0))) g6 ?_
      exact x_iret (pc := 65) dX9_bend_65 (Or.inl rfl) h
    replace h := h.2 hx1
    refine x_lsw (pc := 26) 66 dX9_bend_26 (by decide) g4 (by show (26 : Int) + Op.lookupswitch.offset [(0, 26), (1, 33)] 40 x2 = _; rw [Op.lookupswitch.offset_cons, if_neg (fun z => hx0 z.symm)]; rw [Op.lookupswitch.offset_cons, if_neg (fun z => hx1 z.symm)]; rw [Op.lookupswitch.offset_nil]; decide) ?_
    refine x_ldc (pc := 66) (n := -1000002) dX9_bend_66 k_RX9_93 rfl ?_
    exact x_iret (pc := 68) dX9_bend_68 (Or.inl rfl) h
  · replace h := h.2 hc
    show fx_At E m_X9_bend 19 [some (.inr a0), some (.inl x1), some (.inl x2), some (.inr (rf E (rf E a0 0) 0))] [.inl 0] _ Q
    refine x_zne (pc := 19) 25 dX9_bend_19 (by decide) ⟨by decide, by decide⟩ (fun hx => absurd hx (by decide)) (fun _ => ?_)
    refine x_ldc (pc := 22) (n := -1000001) dX9_bend_22 k_RX9_111 rfl ?_
    exact x_iret (pc := 24) dX9_bend_24 (Or.inl rfl) h
theorem dX9_lossTo_0 : decode cX9_lossTo 0 = .ok (.iload_n 1, 1) := by decide +kernel
theorem dX9_lossTo_1 : decode cX9_lossTo 1 = .ok (.invokestatic 172, 3) := by decide +kernel
theorem dX9_lossTo_4 : decode cX9_lossTo 4 = .ok (.ifCond .eq 21, 3) := by decide +kernel
theorem dX9_lossTo_7 : decode cX9_lossTo 7 = .ok (.iload_n 2, 1) := by decide +kernel
theorem dX9_lossTo_8 : decode cX9_lossTo 8 = .ok (.iconst 0, 1) := by decide +kernel
theorem dX9_lossTo_9 : decode cX9_lossTo 9 = .ok (.aload_n 0, 1) := by decide +kernel
theorem dX9_lossTo_10 : decode cX9_lossTo 10 = .ok (.getfield 12, 3) := by decide +kernel
theorem dX9_lossTo_13 : decode cX9_lossTo 13 = .ok (.getfield 16, 3) := by decide +kernel
theorem dX9_lossTo_16 : decode cX9_lossTo 16 = .ok (.invokevirtual 94, 3) := by decide +kernel
theorem dX9_lossTo_19 : decode cX9_lossTo 19 = .ok (.invokestatic 108, 3) := by decide +kernel
theorem dX9_lossTo_22 : decode cX9_lossTo 22 = .ok (.ifCond .ne 6, 3) := by decide +kernel
theorem dX9_lossTo_25 : decode cX9_lossTo 25 = .ok (.ldc 93, 2) := by decide +kernel
theorem dX9_lossTo_27 : decode cX9_lossTo 27 = .ok (.ireturn, 1) := by decide +kernel
theorem dX9_lossTo_28 : decode cX9_lossTo 28 = .ok (.aload_n 0, 1) := by decide +kernel
theorem dX9_lossTo_29 : decode cX9_lossTo 29 = .ok (.iload_n 1, 1) := by decide +kernel
theorem dX9_lossTo_30 : decode cX9_lossTo 30 = .ok (.invokevirtual 176, 3) := by decide +kernel
theorem dX9_lossTo_33 : decode cX9_lossTo 33 = .ok (.iload_n 2, 1) := by decide +kernel
theorem dX9_lossTo_34 : decode cX9_lossTo 34 = .ok (.invokevirtual 180, 3) := by decide +kernel
theorem dX9_lossTo_37 : decode cX9_lossTo 37 = .ok (.ireturn, 1) := by decide +kernel
set_option maxRecDepth 100000 in
theorem b_X9_lossTo_0 {E : fxE} (hW : fx_Wt E) (a0 : Nat) (x1 : Int) (x2 : Int) (M : fxM) (Q : Option fxV → fxM → Prop) (hk0 : kd E a0 = 9) (h : (-2147483648 ≤ x1 ∧ x1 < 2147483648) ∧ (((0 : Int) ≤ x1 ∧ x1 ≤ (1 : Int) → (0 ≤ M (rf E (rf E a0 0) 0) 3 ∧ M (rf E (rf E a0 0) 0) 3 ≤ 8) ∧ (-2147483648 ≤ x2 ∧ x2 < 2147483648) ∧ (-2147483648 ≤ (fsum E M (rf E (rf E a0 0) 0) (M (rf E (rf E a0 0) 0) 3).toNat) ∧ (fsum E M (rf E (rf E a0 0) 0) (M (rf E (rf E a0 0) 0) 3).toNat) < 2147483648) ∧ (((0 : Int) ≤ x2 ∧ x2 ≤ (fsum E M (rf E (rf E a0 0) 0) (M (rf E (rf E a0 0) 0) 3).toNat) → ∃ R7 : Nat → fxM → Prop, CtA E m_X9_viewOf [.inr a0, .inl x1] M R7 ∧ ∀ (v7 : Nat) (M7 : fxM), R7 v7 M7 → kd E v7 = 8 ∧ Q (some (.inl (vls E M7 v7 x2))) M7) ∧ (¬ ((0 : Int) ≤ x2 ∧ x2 ≤ (fsum E M (rf E (rf E a0 0) 0) (M (rf E (rf E a0 0) 0) 3).toNat)) → Q (some (.inl (-1000002))) M))) ∧ (¬ ((0 : Int) ≤ x1 ∧ x1 ≤ (1 : Int)) → Q (some (.inl (-1000002))) M))) : fx_At E m_X9_lossTo 0 [some (.inr a0), some (.inl x1), some (.inl x2)] [] M Q := by
  refine x_iload_n (pc := 0) dX9_lossTo_0 rfl rfl ?_
  obtain ⟨g1, h⟩ := h
  refine x_callS (pc := 1) (z := m_X9_isSide) (as := [.inl x1]) (rest := []) dX9_lossTo_1 c_RX9_172 (by decide) rfl (Nat.le_of_ble_eq_true rfl) (ct_X9_isSide hW g1) (fun r M9 hr => ?_)
  obtain ⟨hM9, hr⟩ := hr
  rw [hM9]
  clear hM9
  obtain ⟨hc, rfl⟩ | ⟨hc, rfl⟩ := hr
  · replace h := h.1 hc
    show fx_At E m_X9_lossTo 4 [some (.inr a0), some (.inl x1), some (.inl x2)] [.inl 1] _ Q
    refine x_zeq (pc := 4) 25 dX9_lossTo_4 (by decide) ⟨by decide, by decide⟩ (fun hx => absurd hx (by decide)) (fun _ => ?_)
    refine x_iload_n (pc := 7) dX9_lossTo_7 rfl rfl ?_
    refine x_iconst (pc := 8) dX9_lossTo_8 ?_
    refine x_aload_n (pc := 9) dX9_lossTo_9 rfl rfl ?_
    refine x_getr (pc := 10) dX9_lossTo_10 f_RX9_12 hk0 ?_
    refine x_getr (pc := 13) dX9_lossTo_13 f_RX9_16 (wk_9_0 hW hk0) ?_
    obtain ⟨g3, h⟩ := h
    refine x_callV (pc := 16) (z := m_X2_totalLength) (b := (rf E (rf E a0 0) 0)) (as := []) (rest := [.inl 0, .inl x2]) dX9_lossTo_16 c_RX9_94 (by decide) (wk_5_0 hW (wk_9_0 hW hk0)) rfl (Nat.le_of_ble_eq_true rfl) (ct_X2_totalLength hW (wk_5_0 hW (wk_9_0 hW hk0)) g3) (fun r M9 hr => ?_)
    obtain ⟨hM9, hr⟩ := hr
    rw [hM9, hr]
    clear hM9 hr
    show fx_At E m_X9_lossTo 19 [some (.inr a0), some (.inl x1), some (.inl x2)] [.inl (fsum E M (rf E (rf E a0 0) 0) (M (rf E (rf E a0 0) 0) 3).toNat), .inl 0, .inl x2] _ Q
    obtain ⟨g4, h⟩ := h
    obtain ⟨g5, h⟩ := h
    refine x_callS (pc := 19) (z := m_X9_isWithin) (as := [.inl x2, .inl 0, .inl (fsum E M (rf E (rf E a0 0) 0) (M (rf E (rf E a0 0) 0) 3).toNat)]) (rest := []) dX9_lossTo_19 c_RX9_108 (by decide) rfl (Nat.le_of_ble_eq_true rfl) (ct_isWithin hW g4 ⟨by decide, by decide⟩ g5) (fun r M9 hr => ?_)
    obtain ⟨hM9, hr⟩ := hr
    rw [hM9]
    clear hM9
    obtain ⟨hc, rfl⟩ | ⟨hc, rfl⟩ := hr
    · replace h := h.1 hc
      show fx_At E m_X9_lossTo 22 [some (.inr a0), some (.inl x1), some (.inl x2)] [.inl 1] _ Q
      refine x_zne (pc := 22) 28 dX9_lossTo_22 (by decide) ⟨by decide, by decide⟩ (fun _ => ?_) (fun hx => absurd hx (by decide))
      refine x_aload_n (pc := 28) dX9_lossTo_28 rfl rfl ?_
      refine x_iload_n (pc := 29) dX9_lossTo_29 rfl rfl ?_
      obtain ⟨R7, hc7, h⟩ := h
      refine x_callV (pc := 30) (z := m_X9_viewOf) (b := a0) (as := [.inl x1]) (rest := []) dX9_lossTo_30 c_RX9_176 (by decide) hk0 rfl (Nat.le_of_ble_eq_true rfl) hc7 (fun r M7 hr => ?_)
      obtain ⟨v7, rfl, hr⟩ := hr
      obtain ⟨hv7, h⟩ := h v7 M7 hr
      show fx_At E m_X9_lossTo 33 [some (.inr a0), some (.inl x1), some (.inl x2)] [.inr v7] M7 Q
      refine x_iload_n (pc := 33) dX9_lossTo_33 rfl rfl ?_
      refine x_callV (pc := 34) (z := m_X8_lossUpTo) (b := v7) (as := [.inl x2]) (rest := []) dX9_lossTo_34 c_RX9_180 (by decide) hv7 rfl (Nat.le_of_ble_eq_true rfl) (ct_X8_lossUpTo hW hv7 g4) (fun r M9 hr => ?_)
      obtain ⟨hM9, hr⟩ := hr
      rw [hM9, hr]
      clear hM9 hr
      show fx_At E m_X9_lossTo 37 [some (.inr a0), some (.inl x1), some (.inl x2)] [.inl (vls E M7 v7 x2)] _ Q
      exact x_iret (pc := 37) dX9_lossTo_37 (Or.inl rfl) h
    · replace h := h.2 hc
      show fx_At E m_X9_lossTo 22 [some (.inr a0), some (.inl x1), some (.inl x2)] [.inl 0] _ Q
      refine x_zne (pc := 22) 28 dX9_lossTo_22 (by decide) ⟨by decide, by decide⟩ (fun hx => absurd hx (by decide)) (fun _ => ?_)
      refine x_ldc (pc := 25) (n := -1000002) dX9_lossTo_25 k_RX9_93 rfl ?_
      exact x_iret (pc := 27) dX9_lossTo_27 (Or.inl rfl) h
  · replace h := h.2 hc
    show fx_At E m_X9_lossTo 4 [some (.inr a0), some (.inl x1), some (.inl x2)] [.inl 0] _ Q
    refine x_zeq (pc := 4) 25 dX9_lossTo_4 (by decide) ⟨by decide, by decide⟩ (fun _ => ?_) (fun hx => absurd hx (by decide))
    refine x_ldc (pc := 25) (n := -1000002) dX9_lossTo_25 k_RX9_93 rfl ?_
    exact x_iret (pc := 27) dX9_lossTo_27 (Or.inl rfl) h
theorem dX9_sample_0 : decode cX9_sample 0 = .ok (.iload_n 1, 1) := by decide +kernel
theorem dX9_sample_1 : decode cX9_sample 1 = .ok (.invokestatic 172, 3) := by decide +kernel
theorem dX9_sample_4 : decode cX9_sample 4 = .ok (.ifCond .eq 17, 3) := by decide +kernel
theorem dX9_sample_7 : decode cX9_sample 7 = .ok (.iload_n 2, 1) := by decide +kernel
theorem dX9_sample_8 : decode cX9_sample 8 = .ok (.invokestatic 183, 3) := by decide +kernel
theorem dX9_sample_11 : decode cX9_sample 11 = .ok (.ifCond .eq 10, 3) := by decide +kernel
theorem dX9_sample_14 : decode cX9_sample 14 = .ok (.iload_n 3, 1) := by decide +kernel
theorem dX9_sample_15 : decode cX9_sample 15 = .ok (.invokestatic 186, 3) := by decide +kernel
theorem dX9_sample_18 : decode cX9_sample 18 = .ok (.ifCond .ne 6, 3) := by decide +kernel
theorem dX9_sample_21 : decode cX9_sample 21 = .ok (.ldc 93, 2) := by decide +kernel
theorem dX9_sample_23 : decode cX9_sample 23 = .ok (.ireturn, 1) := by decide +kernel
theorem dX9_sample_24 : decode cX9_sample 24 = .ok (.aload_n 0, 1) := by decide +kernel
theorem dX9_sample_25 : decode cX9_sample 25 = .ok (.iload_n 1, 1) := by decide +kernel
theorem dX9_sample_26 : decode cX9_sample 26 = .ok (.iload_n 2, 1) := by decide +kernel
theorem dX9_sample_27 : decode cX9_sample 27 = .ok (.invokevirtual 189, 3) := by decide +kernel
theorem dX9_sample_30 : decode cX9_sample 30 = .ok (.iload_n 3, 1) := by decide +kernel
theorem dX9_sample_31 : decode cX9_sample 31 = .ok (.invokevirtual 193, 3) := by decide +kernel
theorem dX9_sample_34 : decode cX9_sample 34 = .ok (.ireturn, 1) := by decide +kernel
set_option maxRecDepth 100000 in
theorem b_X9_sample_0 {E : fxE} (hW : fx_Wt E) (a0 : Nat) (x1 : Int) (x2 : Int) (x3 : Int) (M : fxM) (Q : Option fxV → fxM → Prop) (hk0 : kd E a0 = 9) (h : (-2147483648 ≤ x1 ∧ x1 < 2147483648) ∧ (((0 : Int) ≤ x1 ∧ x1 ≤ (1 : Int) → (-2147483648 ≤ x2 ∧ x2 < 2147483648) ∧ (((1 : Int) ≤ x2 ∧ x2 ≤ (9 : Int) → (-2147483648 ≤ x3 ∧ x3 < 2147483648) ∧ (((0 : Int) ≤ x3 ∧ x3 ≤ (400 : Int) → ∃ R7 : Nat → fxM → Prop, CtA E m_X9_traceOf [.inr a0, .inl x1, .inl x2] M R7 ∧ ∀ (v7 : Nat) (M7 : fxM), R7 v7 M7 → kd E v7 = 7 ∧ Q (some (.inl (tat E M7 v7 x3))) M7) ∧ (¬ ((0 : Int) ≤ x3 ∧ x3 ≤ (400 : Int)) → Q (some (.inl (-1000002))) M))) ∧ (¬ ((1 : Int) ≤ x2 ∧ x2 ≤ (9 : Int)) → Q (some (.inl (-1000002))) M))) ∧ (¬ ((0 : Int) ≤ x1 ∧ x1 ≤ (1 : Int)) → Q (some (.inl (-1000002))) M))) : fx_At E m_X9_sample 0 [some (.inr a0), some (.inl x1), some (.inl x2), some (.inl x3)] [] M Q := by
  refine x_iload_n (pc := 0) dX9_sample_0 rfl rfl ?_
  obtain ⟨g1, h⟩ := h
  refine x_callS (pc := 1) (z := m_X9_isSide) (as := [.inl x1]) (rest := []) dX9_sample_1 c_RX9_172 (by decide) rfl (Nat.le_of_ble_eq_true rfl) (ct_X9_isSide hW g1) (fun r M9 hr => ?_)
  obtain ⟨hM9, hr⟩ := hr
  rw [hM9]
  clear hM9
  obtain ⟨hc, rfl⟩ | ⟨hc, rfl⟩ := hr
  · replace h := h.1 hc
    show fx_At E m_X9_sample 4 [some (.inr a0), some (.inl x1), some (.inl x2), some (.inl x3)] [.inl 1] _ Q
    refine x_zeq (pc := 4) 21 dX9_sample_4 (by decide) ⟨by decide, by decide⟩ (fun hx => absurd hx (by decide)) (fun _ => ?_)
    refine x_iload_n (pc := 7) dX9_sample_7 rfl rfl ?_
    obtain ⟨g3, h⟩ := h
    refine x_callS (pc := 8) (z := m_X9_isWidth) (as := [.inl x2]) (rest := []) dX9_sample_8 c_RX9_183 (by decide) rfl (Nat.le_of_ble_eq_true rfl) (ct_X9_isWidth hW g3) (fun r M9 hr => ?_)
    obtain ⟨hM9, hr⟩ := hr
    rw [hM9]
    clear hM9
    obtain ⟨hc, rfl⟩ | ⟨hc, rfl⟩ := hr
    · replace h := h.1 hc
      show fx_At E m_X9_sample 11 [some (.inr a0), some (.inl x1), some (.inl x2), some (.inl x3)] [.inl 1] _ Q
      refine x_zeq (pc := 11) 21 dX9_sample_11 (by decide) ⟨by decide, by decide⟩ (fun hx => absurd hx (by decide)) (fun _ => ?_)
      refine x_iload_n (pc := 14) dX9_sample_14 rfl rfl ?_
      obtain ⟨g5, h⟩ := h
      refine x_callS (pc := 15) (z := m_X9_isDistance) (as := [.inl x3]) (rest := []) dX9_sample_15 c_RX9_186 (by decide) rfl (Nat.le_of_ble_eq_true rfl) (ct_X9_isDistance hW g5) (fun r M9 hr => ?_)
      obtain ⟨hM9, hr⟩ := hr
      rw [hM9]
      clear hM9
      obtain ⟨hc, rfl⟩ | ⟨hc, rfl⟩ := hr
      · replace h := h.1 hc
        show fx_At E m_X9_sample 18 [some (.inr a0), some (.inl x1), some (.inl x2), some (.inl x3)] [.inl 1] _ Q
        refine x_zne (pc := 18) 24 dX9_sample_18 (by decide) ⟨by decide, by decide⟩ (fun _ => ?_) (fun hx => absurd hx (by decide))
        refine x_aload_n (pc := 24) dX9_sample_24 rfl rfl ?_
        refine x_iload_n (pc := 25) dX9_sample_25 rfl rfl ?_
        refine x_iload_n (pc := 26) dX9_sample_26 rfl rfl ?_
        obtain ⟨R7, hc7, h⟩ := h
        refine x_callV (pc := 27) (z := m_X9_traceOf) (b := a0) (as := [.inl x1, .inl x2]) (rest := []) dX9_sample_27 c_RX9_189 (by decide) hk0 rfl (Nat.le_of_ble_eq_true rfl) hc7 (fun r M7 hr => ?_)
        obtain ⟨v7, rfl, hr⟩ := hr
        obtain ⟨hv7, h⟩ := h v7 M7 hr
        show fx_At E m_X9_sample 30 [some (.inr a0), some (.inl x1), some (.inl x2), some (.inl x3)] [.inr v7] M7 Q
        refine x_iload_n (pc := 30) dX9_sample_30 rfl rfl ?_
        refine x_callV (pc := 31) (z := m_X7_at) (b := v7) (as := [.inl x3]) (rest := []) dX9_sample_31 c_RX9_193 (by decide) hv7 rfl (Nat.le_of_ble_eq_true rfl) (ct_X7_at hW hv7 g5) (fun r M9 hr => ?_)
        obtain ⟨hM9, hr⟩ := hr
        rw [hM9, hr]
        clear hM9 hr
        show fx_At E m_X9_sample 34 [some (.inr a0), some (.inl x1), some (.inl x2), some (.inl x3)] [.inl (tat E M7 v7 x3)] _ Q
        exact x_iret (pc := 34) dX9_sample_34 (Or.inl rfl) h
      · replace h := h.2 hc
        show fx_At E m_X9_sample 18 [some (.inr a0), some (.inl x1), some (.inl x2), some (.inl x3)] [.inl 0] _ Q
        refine x_zne (pc := 18) 24 dX9_sample_18 (by decide) ⟨by decide, by decide⟩ (fun hx => absurd hx (by decide)) (fun _ => ?_)
        refine x_ldc (pc := 21) (n := -1000002) dX9_sample_21 k_RX9_93 rfl ?_
        exact x_iret (pc := 23) dX9_sample_23 (Or.inl rfl) h
    · replace h := h.2 hc
      show fx_At E m_X9_sample 11 [some (.inr a0), some (.inl x1), some (.inl x2), some (.inl x3)] [.inl 0] _ Q
      refine x_zeq (pc := 11) 21 dX9_sample_11 (by decide) ⟨by decide, by decide⟩ (fun _ => ?_) (fun hx => absurd hx (by decide))
      refine x_ldc (pc := 21) (n := -1000002) dX9_sample_21 k_RX9_93 rfl ?_
      exact x_iret (pc := 23) dX9_sample_23 (Or.inl rfl) h
  · replace h := h.2 hc
    show fx_At E m_X9_sample 4 [some (.inr a0), some (.inl x1), some (.inl x2), some (.inl x3)] [.inl 0] _ Q
    refine x_zeq (pc := 4) 21 dX9_sample_4 (by decide) ⟨by decide, by decide⟩ (fun _ => ?_) (fun hx => absurd hx (by decide))
    refine x_ldc (pc := 21) (n := -1000002) dX9_sample_21 k_RX9_93 rfl ?_
    exact x_iret (pc := 23) dX9_sample_23 (Or.inl rfl) h
theorem dX9_visible_0 : decode cX9_visible 0 = .ok (.iload_n 1, 1) := by decide +kernel
theorem dX9_visible_1 : decode cX9_visible 1 = .ok (.invokestatic 172, 3) := by decide +kernel
theorem dX9_visible_4 : decode cX9_visible 4 = .ok (.ifCond .eq 10, 3) := by decide +kernel
theorem dX9_visible_7 : decode cX9_visible 7 = .ok (.iload_n 2, 1) := by decide +kernel
theorem dX9_visible_8 : decode cX9_visible 8 = .ok (.invokestatic 183, 3) := by decide +kernel
theorem dX9_visible_11 : decode cX9_visible 11 = .ok (.ifCond .ne 6, 3) := by decide +kernel
theorem dX9_visible_14 : decode cX9_visible 14 = .ok (.ldc 93, 2) := by decide +kernel
theorem dX9_visible_16 : decode cX9_visible 16 = .ok (.ireturn, 1) := by decide +kernel
theorem dX9_visible_17 : decode cX9_visible 17 = .ok (.aload_n 0, 1) := by decide +kernel
theorem dX9_visible_18 : decode cX9_visible 18 = .ok (.iload_n 1, 1) := by decide +kernel
theorem dX9_visible_19 : decode cX9_visible 19 = .ok (.iload_n 2, 1) := by decide +kernel
theorem dX9_visible_20 : decode cX9_visible 20 = .ok (.invokevirtual 189, 3) := by decide +kernel
theorem dX9_visible_23 : decode cX9_visible 23 = .ok (.astore_n 3, 1) := by decide +kernel
theorem dX9_visible_24 : decode cX9_visible 24 = .ok (.iconst 0, 1) := by decide +kernel
theorem dX9_visible_25 : decode cX9_visible 25 = .ok (.istore 4, 2) := by decide +kernel
theorem dX9_visible_27 : decode cX9_visible 27 = .ok (.iload 4, 2) := by decide +kernel
theorem dX9_visible_29 : decode cX9_visible 29 = .ok (.sipush 400, 3) := by decide +kernel
theorem dX9_visible_32 : decode cX9_visible 32 = .ok (.if_icmp .gt 21, 3) := by decide +kernel
theorem dX9_visible_35 : decode cX9_visible 35 = .ok (.aload_n 3, 1) := by decide +kernel
theorem dX9_visible_36 : decode cX9_visible 36 = .ok (.iload 4, 2) := by decide +kernel
theorem dX9_visible_38 : decode cX9_visible 38 = .ok (.invokevirtual 193, 3) := by decide +kernel
theorem dX9_visible_41 : decode cX9_visible 41 = .ok (.sipush 5000, 3) := by decide +kernel
theorem dX9_visible_44 : decode cX9_visible 44 = .ok (.if_icmp .le 9, 3) := by decide +kernel
theorem dX9_visible_47 : decode cX9_visible 47 = .ok (.iinc 4 1, 3) := by decide +kernel
theorem dX9_visible_50 : decode cX9_visible 50 = .ok (.goto (-23), 3) := by decide +kernel
theorem dX9_visible_53 : decode cX9_visible 53 = .ok (.iload 4, 2) := by decide +kernel
theorem dX9_visible_55 : decode cX9_visible 55 = .ok (.ireturn, 1) := by decide +kernel
set_option maxRecDepth 100000 in
theorem b_X9_visible_0 {E : fxE} (hW : fx_Wt E) (a0 : Nat) (x1 : Int) (x2 : Int) (M : fxM) (Q : Option fxV → fxM → Prop) (hk0 : kd E a0 = 9) (h : (-2147483648 ≤ x1 ∧ x1 < 2147483648) ∧ (((0 : Int) ≤ x1 ∧ x1 ≤ (1 : Int) → (-2147483648 ≤ x2 ∧ x2 < 2147483648) ∧ (((1 : Int) ≤ x2 ∧ x2 ≤ (9 : Int) → ∃ R5 : Nat → fxM → Prop, CtA E m_X9_traceOf [.inr a0, .inl x1, .inl x2] M R5 ∧ ∀ (v5 : Nat) (M5 : fxM), R5 v5 M5 → kd E v5 = 7 ∧ fx_At E m_X9_visible 27 [some (.inr a0), some (.inl x1), some (.inl x2), some (.inr v5), some (.inl 0)] [] M5 Q) ∧ (¬ ((1 : Int) ≤ x2 ∧ x2 ≤ (9 : Int)) → Q (some (.inl (-1000002))) M))) ∧ (¬ ((0 : Int) ≤ x1 ∧ x1 ≤ (1 : Int)) → Q (some (.inl (-1000002))) M))) : fx_At E m_X9_visible 0 [some (.inr a0), some (.inl x1), some (.inl x2), none, none] [] M Q := by
  refine x_iload_n (pc := 0) dX9_visible_0 rfl rfl ?_
  obtain ⟨g1, h⟩ := h
  refine x_callS (pc := 1) (z := m_X9_isSide) (as := [.inl x1]) (rest := []) dX9_visible_1 c_RX9_172 (by decide) rfl (Nat.le_of_ble_eq_true rfl) (ct_X9_isSide hW g1) (fun r M9 hr => ?_)
  obtain ⟨hM9, hr⟩ := hr
  rw [hM9]
  clear hM9
  obtain ⟨hc, rfl⟩ | ⟨hc, rfl⟩ := hr
  · replace h := h.1 hc
    show fx_At E m_X9_visible 4 [some (.inr a0), some (.inl x1), some (.inl x2), none, none] [.inl 1] _ Q
    refine x_zeq (pc := 4) 14 dX9_visible_4 (by decide) ⟨by decide, by decide⟩ (fun hx => absurd hx (by decide)) (fun _ => ?_)
    refine x_iload_n (pc := 7) dX9_visible_7 rfl rfl ?_
    obtain ⟨g3, h⟩ := h
    refine x_callS (pc := 8) (z := m_X9_isWidth) (as := [.inl x2]) (rest := []) dX9_visible_8 c_RX9_183 (by decide) rfl (Nat.le_of_ble_eq_true rfl) (ct_X9_isWidth hW g3) (fun r M9 hr => ?_)
    obtain ⟨hM9, hr⟩ := hr
    rw [hM9]
    clear hM9
    obtain ⟨hc, rfl⟩ | ⟨hc, rfl⟩ := hr
    · replace h := h.1 hc
      show fx_At E m_X9_visible 11 [some (.inr a0), some (.inl x1), some (.inl x2), none, none] [.inl 1] _ Q
      refine x_zne (pc := 11) 17 dX9_visible_11 (by decide) ⟨by decide, by decide⟩ (fun _ => ?_) (fun hx => absurd hx (by decide))
      refine x_aload_n (pc := 17) dX9_visible_17 rfl rfl ?_
      refine x_iload_n (pc := 18) dX9_visible_18 rfl rfl ?_
      refine x_iload_n (pc := 19) dX9_visible_19 rfl rfl ?_
      obtain ⟨R5, hc5, h⟩ := h
      refine x_callV (pc := 20) (z := m_X9_traceOf) (b := a0) (as := [.inl x1, .inl x2]) (rest := []) dX9_visible_20 c_RX9_189 (by decide) hk0 rfl (Nat.le_of_ble_eq_true rfl) hc5 (fun r M5 hr => ?_)
      obtain ⟨v5, rfl, hr⟩ := hr
      obtain ⟨hv5, h⟩ := h v5 M5 hr
      show fx_At E m_X9_visible 23 [some (.inr a0), some (.inl x1), some (.inl x2), none, none] [.inr v5] M5 Q
      refine x_astore_n (pc := 23) (lv' := [some (.inr a0), some (.inl x1), some (.inl x2), some (.inr v5), none]) dX9_visible_23 rfl (by decide) rfl ?_
      refine x_iconst (pc := 24) dX9_visible_24 ?_
      refine x_istore (pc := 25) (lv' := [some (.inr a0), some (.inl x1), some (.inl x2), some (.inr v5), some (.inl 0)]) dX9_visible_25 (by decide) rfl ?_
      exact h
    · replace h := h.2 hc
      show fx_At E m_X9_visible 11 [some (.inr a0), some (.inl x1), some (.inl x2), none, none] [.inl 0] _ Q
      refine x_zne (pc := 11) 17 dX9_visible_11 (by decide) ⟨by decide, by decide⟩ (fun hx => absurd hx (by decide)) (fun _ => ?_)
      refine x_ldc (pc := 14) (n := -1000002) dX9_visible_14 k_RX9_93 rfl ?_
      exact x_iret (pc := 16) dX9_visible_16 (Or.inl rfl) h
  · replace h := h.2 hc
    show fx_At E m_X9_visible 4 [some (.inr a0), some (.inl x1), some (.inl x2), none, none] [.inl 0] _ Q
    refine x_zeq (pc := 4) 14 dX9_visible_4 (by decide) ⟨by decide, by decide⟩ (fun _ => ?_) (fun hx => absurd hx (by decide))
    refine x_ldc (pc := 14) (n := -1000002) dX9_visible_14 k_RX9_93 rfl ?_
    exact x_iret (pc := 16) dX9_visible_16 (Or.inl rfl) h
set_option maxRecDepth 100000 in
theorem b_X9_visible_27 {E : fxE} (hW : fx_Wt E) (a0 : Nat) (x1 : Int) (x2 : Int) (a3 : Nat) (x4 : Int) (M : fxM) (Q : Option fxV → fxM → Prop) (hk0 : kd E a0 = 9) (hk3 : kd E a3 = 7) (h : (-2147483648 ≤ x4 ∧ x4 < 2147483648) ∧ (((400 : Int) < x4 → Q (some (.inl x4)) M) ∧ (¬ (400 : Int) < x4 → (-2147483648 ≤ (tat E M a3 x4) ∧ (tat E M a3 x4) < 2147483648) ∧ (((tat E M a3 x4) ≤ (5000 : Int) → Q (some (.inl x4)) M) ∧ (¬ (tat E M a3 x4) ≤ (5000 : Int) → fx_At E m_X9_visible 27 [some (.inr a0), some (.inl x1), some (.inl x2), some (.inr a3), some (.inl (x4 + 1))] [] M Q))))) : fx_At E m_X9_visible 27 [some (.inr a0), some (.inl x1), some (.inl x2), some (.inr a3), some (.inl x4)] [] M Q := by
  refine x_iload (pc := 27) dX9_visible_27 rfl ?_
  refine x_sipush (pc := 29) dX9_visible_29 (by decide +kernel) ?_
  obtain ⟨g1, h⟩ := h
  refine x_cgt (pc := 32) 53 dX9_visible_32 (by decide) ⟨g1, ⟨by decide, by decide⟩⟩ (fun hc => ?_) (fun hc => ?_)
  · replace h := h.1 hc
    refine x_iload (pc := 53) dX9_visible_53 rfl ?_
    exact x_iret (pc := 55) dX9_visible_55 (Or.inl rfl) h
  · replace h := h.2 hc
    refine x_aload_n (pc := 35) dX9_visible_35 rfl rfl ?_
    refine x_iload (pc := 36) dX9_visible_36 rfl ?_
    refine x_callV (pc := 38) (z := m_X7_at) (b := a3) (as := [.inl x4]) (rest := []) dX9_visible_38 c_RX9_193 (by decide) hk3 rfl (Nat.le_of_ble_eq_true rfl) (ct_X7_at hW hk3 g1) (fun r M9 hr => ?_)
    obtain ⟨hM9, hr⟩ := hr
    rw [hM9, hr]
    clear hM9 hr
    show fx_At E m_X9_visible 41 [some (.inr a0), some (.inl x1), some (.inl x2), some (.inr a3), some (.inl x4)] [.inl (tat E M a3 x4)] _ Q
    refine x_sipush (pc := 41) dX9_visible_41 (by decide +kernel) ?_
    obtain ⟨g2, h⟩ := h
    refine x_cle (pc := 44) 53 dX9_visible_44 (by decide) ⟨g2, ⟨by decide, by decide⟩⟩ (fun hc => ?_) (fun hc => ?_)
    · replace h := h.1 hc
      refine x_iload (pc := 53) dX9_visible_53 rfl ?_
      exact x_iret (pc := 55) dX9_visible_55 (Or.inl rfl) h
    · replace h := h.2 hc
      refine x_iinc (pc := 47) (lv' := [some (.inr a0), some (.inl x1), some (.inl x2), some (.inr a3), some (.inl (x4 + 1))]) dX9_visible_47 rfl (by decide) rfl ?_
      refine x_goto (pc := 50) 27 dX9_visible_50 (by decide) ?_
      exact h
theorem dX9_stitched_0 : decode cX9_stitched 0 = .ok (.iload_n 1, 1) := by decide +kernel
theorem dX9_stitched_1 : decode cX9_stitched 1 = .ok (.invokestatic 172, 3) := by decide +kernel
theorem dX9_stitched_4 : decode cX9_stitched 4 = .ok (.ifCond .eq 10, 3) := by decide +kernel
theorem dX9_stitched_7 : decode cX9_stitched 7 = .ok (.iload_n 2, 1) := by decide +kernel
theorem dX9_stitched_8 : decode cX9_stitched 8 = .ok (.invokestatic 186, 3) := by decide +kernel
theorem dX9_stitched_11 : decode cX9_stitched 11 = .ok (.ifCond .ne 6, 3) := by decide +kernel
theorem dX9_stitched_14 : decode cX9_stitched 14 = .ok (.ldc 93, 2) := by decide +kernel
theorem dX9_stitched_16 : decode cX9_stitched 16 = .ok (.ireturn, 1) := by decide +kernel
theorem dX9_stitched_17 : decode cX9_stitched 17 = .ok (.aload_n 0, 1) := by decide +kernel
theorem dX9_stitched_18 : decode cX9_stitched 18 = .ok (.iload_n 1, 1) := by decide +kernel
theorem dX9_stitched_19 : decode cX9_stitched 19 = .ok (.iload_n 2, 1) := by decide +kernel
theorem dX9_stitched_20 : decode cX9_stitched 20 = .ok (.invokevirtual 197, 3) := by decide +kernel
theorem dX9_stitched_23 : decode cX9_stitched 23 = .ok (.ireturn, 1) := by decide +kernel
set_option maxRecDepth 100000 in
theorem b_X9_stitched_0 {E : fxE} (hW : fx_Wt E) (a0 : Nat) (x1 : Int) (x2 : Int) (M : fxM) (Q : Option fxV → fxM → Prop) (hk0 : kd E a0 = 9) (h : (-2147483648 ≤ x1 ∧ x1 < 2147483648) ∧ (((0 : Int) ≤ x1 ∧ x1 ≤ (1 : Int) → (-2147483648 ≤ x2 ∧ x2 < 2147483648) ∧ (((0 : Int) ≤ x2 ∧ x2 ≤ (400 : Int) → ∃ R5 : Int → fxM → Prop, CtI E m_X9_stitchedAt [.inr a0, .inl x1, .inl x2] M R5 ∧ ∀ (v5 : Int) (M5 : fxM), R5 v5 M5 → Q (some (.inl v5)) M5) ∧ (¬ ((0 : Int) ≤ x2 ∧ x2 ≤ (400 : Int)) → Q (some (.inl (-1000002))) M))) ∧ (¬ ((0 : Int) ≤ x1 ∧ x1 ≤ (1 : Int)) → Q (some (.inl (-1000002))) M))) : fx_At E m_X9_stitched 0 [some (.inr a0), some (.inl x1), some (.inl x2)] [] M Q := by
  refine x_iload_n (pc := 0) dX9_stitched_0 rfl rfl ?_
  obtain ⟨g1, h⟩ := h
  refine x_callS (pc := 1) (z := m_X9_isSide) (as := [.inl x1]) (rest := []) dX9_stitched_1 c_RX9_172 (by decide) rfl (Nat.le_of_ble_eq_true rfl) (ct_X9_isSide hW g1) (fun r M9 hr => ?_)
  obtain ⟨hM9, hr⟩ := hr
  rw [hM9]
  clear hM9
  obtain ⟨hc, rfl⟩ | ⟨hc, rfl⟩ := hr
  · replace h := h.1 hc
    show fx_At E m_X9_stitched 4 [some (.inr a0), some (.inl x1), some (.inl x2)] [.inl 1] _ Q
    refine x_zeq (pc := 4) 14 dX9_stitched_4 (by decide) ⟨by decide, by decide⟩ (fun hx => absurd hx (by decide)) (fun _ => ?_)
    refine x_iload_n (pc := 7) dX9_stitched_7 rfl rfl ?_
    obtain ⟨g3, h⟩ := h
    refine x_callS (pc := 8) (z := m_X9_isDistance) (as := [.inl x2]) (rest := []) dX9_stitched_8 c_RX9_186 (by decide) rfl (Nat.le_of_ble_eq_true rfl) (ct_X9_isDistance hW g3) (fun r M9 hr => ?_)
    obtain ⟨hM9, hr⟩ := hr
    rw [hM9]
    clear hM9
    obtain ⟨hc, rfl⟩ | ⟨hc, rfl⟩ := hr
    · replace h := h.1 hc
      show fx_At E m_X9_stitched 11 [some (.inr a0), some (.inl x1), some (.inl x2)] [.inl 1] _ Q
      refine x_zne (pc := 11) 17 dX9_stitched_11 (by decide) ⟨by decide, by decide⟩ (fun _ => ?_) (fun hx => absurd hx (by decide))
      refine x_aload_n (pc := 17) dX9_stitched_17 rfl rfl ?_
      refine x_iload_n (pc := 18) dX9_stitched_18 rfl rfl ?_
      refine x_iload_n (pc := 19) dX9_stitched_19 rfl rfl ?_
      obtain ⟨R5, hc5, h⟩ := h
      refine x_callV (pc := 20) (z := m_X9_stitchedAt) (b := a0) (as := [.inl x1, .inl x2]) (rest := []) dX9_stitched_20 c_RX9_197 (by decide) hk0 rfl (Nat.le_of_ble_eq_true rfl) hc5 (fun r M5 hr => ?_)
      obtain ⟨v5, rfl, hr⟩ := hr
      replace h := h v5 M5 hr
      show fx_At E m_X9_stitched 23 [some (.inr a0), some (.inl x1), some (.inl x2)] [.inl v5] M5 Q
      exact x_iret (pc := 23) dX9_stitched_23 (Or.inl rfl) h
    · replace h := h.2 hc
      show fx_At E m_X9_stitched 11 [some (.inr a0), some (.inl x1), some (.inl x2)] [.inl 0] _ Q
      refine x_zne (pc := 11) 17 dX9_stitched_11 (by decide) ⟨by decide, by decide⟩ (fun hx => absurd hx (by decide)) (fun _ => ?_)
      refine x_ldc (pc := 14) (n := -1000002) dX9_stitched_14 k_RX9_93 rfl ?_
      exact x_iret (pc := 16) dX9_stitched_16 (Or.inl rfl) h
  · replace h := h.2 hc
    show fx_At E m_X9_stitched 4 [some (.inr a0), some (.inl x1), some (.inl x2)] [.inl 0] _ Q
    refine x_zeq (pc := 4) 14 dX9_stitched_4 (by decide) ⟨by decide, by decide⟩ (fun _ => ?_) (fun hx => absurd hx (by decide))
    refine x_ldc (pc := 14) (n := -1000002) dX9_stitched_14 k_RX9_93 rfl ?_
    exact x_iret (pc := 16) dX9_stitched_16 (Or.inl rfl) h
theorem dX9_stitchedCount_0 : decode cX9_stitchedCount 0 = .ok (.iload_n 1, 1) := by decide +kernel
theorem dX9_stitchedCount_1 : decode cX9_stitchedCount 1 = .ok (.invokestatic 172, 3) := by decide +kernel
theorem dX9_stitchedCount_4 : decode cX9_stitchedCount 4 = .ok (.ifCond .ne 6, 3) := by decide +kernel
theorem dX9_stitchedCount_7 : decode cX9_stitchedCount 7 = .ok (.ldc 93, 2) := by decide +kernel
theorem dX9_stitchedCount_9 : decode cX9_stitchedCount 9 = .ok (.ireturn, 1) := by decide +kernel
theorem dX9_stitchedCount_10 : decode cX9_stitchedCount 10 = .ok (.iconst 0, 1) := by decide +kernel
theorem dX9_stitchedCount_11 : decode cX9_stitchedCount 11 = .ok (.istore_n 2, 1) := by decide +kernel
theorem dX9_stitchedCount_12 : decode cX9_stitchedCount 12 = .ok (.iconst 0, 1) := by decide +kernel
theorem dX9_stitchedCount_13 : decode cX9_stitchedCount 13 = .ok (.istore_n 3, 1) := by decide +kernel
theorem dX9_stitchedCount_14 : decode cX9_stitchedCount 14 = .ok (.iload_n 3, 1) := by decide +kernel
theorem dX9_stitchedCount_15 : decode cX9_stitchedCount 15 = .ok (.sipush 400, 3) := by decide +kernel
theorem dX9_stitchedCount_18 : decode cX9_stitchedCount 18 = .ok (.if_icmp .gt 23, 3) := by decide +kernel
theorem dX9_stitchedCount_21 : decode cX9_stitchedCount 21 = .ok (.aload_n 0, 1) := by decide +kernel
theorem dX9_stitchedCount_22 : decode cX9_stitchedCount 22 = .ok (.iload_n 1, 1) := by decide +kernel
theorem dX9_stitchedCount_23 : decode cX9_stitchedCount 23 = .ok (.iload_n 3, 1) := by decide +kernel
theorem dX9_stitchedCount_24 : decode cX9_stitchedCount 24 = .ok (.invokevirtual 197, 3) := by decide +kernel
theorem dX9_stitchedCount_27 : decode cX9_stitchedCount 27 = .ok (.ldc 201, 2) := by decide +kernel
theorem dX9_stitchedCount_29 : decode cX9_stitchedCount 29 = .ok (.if_icmp .eq 6, 3) := by decide +kernel
theorem dX9_stitchedCount_32 : decode cX9_stitchedCount 32 = .ok (.iinc 2 1, 3) := by decide +kernel
theorem dX9_stitchedCount_35 : decode cX9_stitchedCount 35 = .ok (.iinc 3 1, 3) := by decide +kernel
theorem dX9_stitchedCount_38 : decode cX9_stitchedCount 38 = .ok (.goto (-24), 3) := by decide +kernel
theorem dX9_stitchedCount_41 : decode cX9_stitchedCount 41 = .ok (.iload_n 2, 1) := by decide +kernel
theorem dX9_stitchedCount_42 : decode cX9_stitchedCount 42 = .ok (.ireturn, 1) := by decide +kernel
set_option maxRecDepth 100000 in
theorem b_X9_stitchedCount_0 {E : fxE} (hW : fx_Wt E) (a0 : Nat) (x1 : Int) (M : fxM) (Q : Option fxV → fxM → Prop) (hk0 : kd E a0 = 9) (h : (-2147483648 ≤ x1 ∧ x1 < 2147483648) ∧ (((0 : Int) ≤ x1 ∧ x1 ≤ (1 : Int) → fx_At E m_X9_stitchedCount 14 [some (.inr a0), some (.inl x1), some (.inl 0), some (.inl 0)] [] M Q) ∧ (¬ ((0 : Int) ≤ x1 ∧ x1 ≤ (1 : Int)) → Q (some (.inl (-1000002))) M))) : fx_At E m_X9_stitchedCount 0 [some (.inr a0), some (.inl x1), none, none] [] M Q := by
  refine x_iload_n (pc := 0) dX9_stitchedCount_0 rfl rfl ?_
  obtain ⟨g1, h⟩ := h
  refine x_callS (pc := 1) (z := m_X9_isSide) (as := [.inl x1]) (rest := []) dX9_stitchedCount_1 c_RX9_172 (by decide) rfl (Nat.le_of_ble_eq_true rfl) (ct_X9_isSide hW g1) (fun r M9 hr => ?_)
  obtain ⟨hM9, hr⟩ := hr
  rw [hM9]
  clear hM9
  obtain ⟨hc, rfl⟩ | ⟨hc, rfl⟩ := hr
  · replace h := h.1 hc
    show fx_At E m_X9_stitchedCount 4 [some (.inr a0), some (.inl x1), none, none] [.inl 1] _ Q
    refine x_zne (pc := 4) 10 dX9_stitchedCount_4 (by decide) ⟨by decide, by decide⟩ (fun _ => ?_) (fun hx => absurd hx (by decide))
    refine x_iconst (pc := 10) dX9_stitchedCount_10 ?_
    refine x_istore_n (pc := 11) (lv' := [some (.inr a0), some (.inl x1), some (.inl 0), none]) dX9_stitchedCount_11 rfl (by decide) rfl ?_
    refine x_iconst (pc := 12) dX9_stitchedCount_12 ?_
    refine x_istore_n (pc := 13) (lv' := [some (.inr a0), some (.inl x1), some (.inl 0), some (.inl 0)]) dX9_stitchedCount_13 rfl (by decide) rfl ?_
    exact h
  · replace h := h.2 hc
    show fx_At E m_X9_stitchedCount 4 [some (.inr a0), some (.inl x1), none, none] [.inl 0] _ Q
    refine x_zne (pc := 4) 10 dX9_stitchedCount_4 (by decide) ⟨by decide, by decide⟩ (fun hx => absurd hx (by decide)) (fun _ => ?_)
    refine x_ldc (pc := 7) (n := -1000002) dX9_stitchedCount_7 k_RX9_93 rfl ?_
    exact x_iret (pc := 9) dX9_stitchedCount_9 (Or.inl rfl) h
set_option maxRecDepth 100000 in
theorem b_X9_stitchedCount_14 {E : fxE} (hW : fx_Wt E) (a0 : Nat) (x1 : Int) (x2 : Int) (x3 : Int) (M : fxM) (Q : Option fxV → fxM → Prop) (hk0 : kd E a0 = 9) (h : (-2147483648 ≤ x3 ∧ x3 < 2147483648) ∧ (((400 : Int) < x3 → Q (some (.inl x2)) M) ∧ (¬ (400 : Int) < x3 → ∃ R2 : Int → fxM → Prop, CtI E m_X9_stitchedAt [.inr a0, .inl x1, .inl x3] M R2 ∧ ∀ (v2 : Int) (M2 : fxM), R2 v2 M2 → (-2147483648 ≤ v2 ∧ v2 < 2147483648) ∧ ((v2 = (-1000005 : Int) → fx_At E m_X9_stitchedCount 14 [some (.inr a0), some (.inl x1), some (.inl x2), some (.inl (x3 + 1))] [] M2 Q) ∧ (¬ v2 = (-1000005 : Int) → fx_At E m_X9_stitchedCount 14 [some (.inr a0), some (.inl x1), some (.inl (x2 + 1)), some (.inl (x3 + 1))] [] M2 Q))))) : fx_At E m_X9_stitchedCount 14 [some (.inr a0), some (.inl x1), some (.inl x2), some (.inl x3)] [] M Q := by
  refine x_iload_n (pc := 14) dX9_stitchedCount_14 rfl rfl ?_
  refine x_sipush (pc := 15) dX9_stitchedCount_15 (by decide +kernel) ?_
  obtain ⟨g1, h⟩ := h
  refine x_cgt (pc := 18) 41 dX9_stitchedCount_18 (by decide) ⟨g1, ⟨by decide, by decide⟩⟩ (fun hc => ?_) (fun hc => ?_)
  · replace h := h.1 hc
    refine x_iload_n (pc := 41) dX9_stitchedCount_41 rfl rfl ?_
    exact x_iret (pc := 42) dX9_stitchedCount_42 (Or.inl rfl) h
  · replace h := h.2 hc
    refine x_aload_n (pc := 21) dX9_stitchedCount_21 rfl rfl ?_
    refine x_iload_n (pc := 22) dX9_stitchedCount_22 rfl rfl ?_
    refine x_iload_n (pc := 23) dX9_stitchedCount_23 rfl rfl ?_
    obtain ⟨R2, hc2, h⟩ := h
    refine x_callV (pc := 24) (z := m_X9_stitchedAt) (b := a0) (as := [.inl x1, .inl x3]) (rest := []) dX9_stitchedCount_24 c_RX9_197 (by decide) hk0 rfl (Nat.le_of_ble_eq_true rfl) hc2 (fun r M2 hr => ?_)
    obtain ⟨v2, rfl, hr⟩ := hr
    replace h := h v2 M2 hr
    show fx_At E m_X9_stitchedCount 27 [some (.inr a0), some (.inl x1), some (.inl x2), some (.inl x3)] [.inl v2] M2 Q
    refine x_ldc (pc := 27) (n := -1000005) dX9_stitchedCount_27 k_RX9_201 rfl ?_
    obtain ⟨g3, h⟩ := h
    refine x_ceq (pc := 29) 35 dX9_stitchedCount_29 (by decide) ⟨g3, ⟨by decide, by decide⟩⟩ (fun hc => ?_) (fun hc => ?_)
    · replace h := h.1 hc
      refine x_iinc (pc := 35) (lv' := [some (.inr a0), some (.inl x1), some (.inl x2), some (.inl (x3 + 1))]) dX9_stitchedCount_35 rfl (by decide) rfl ?_
      refine x_goto (pc := 38) 14 dX9_stitchedCount_38 (by decide) ?_
      exact h
    · replace h := h.2 hc
      refine x_iinc (pc := 32) (lv' := [some (.inr a0), some (.inl x1), some (.inl (x2 + 1)), some (.inl x3)]) dX9_stitchedCount_32 rfl (by decide) rfl ?_
      refine x_iinc (pc := 35) (lv' := [some (.inr a0), some (.inl x1), some (.inl (x2 + 1)), some (.inl (x3 + 1))]) dX9_stitchedCount_35 rfl (by decide) rfl ?_
      refine x_goto (pc := 38) 14 dX9_stitchedCount_38 (by decide) ?_
      exact h
theorem dX9_events_0 : decode cX9_events 0 = .ok (.iload_n 1, 1) := by decide +kernel
theorem dX9_events_1 : decode cX9_events 1 = .ok (.invokestatic 172, 3) := by decide +kernel
theorem dX9_events_4 : decode cX9_events 4 = .ok (.ifCond .eq 10, 3) := by decide +kernel
theorem dX9_events_7 : decode cX9_events 7 = .ok (.iload_n 2, 1) := by decide +kernel
theorem dX9_events_8 : decode cX9_events 8 = .ok (.invokestatic 183, 3) := by decide +kernel
theorem dX9_events_11 : decode cX9_events 11 = .ok (.ifCond .ne 6, 3) := by decide +kernel
theorem dX9_events_14 : decode cX9_events 14 = .ok (.ldc 93, 2) := by decide +kernel
theorem dX9_events_16 : decode cX9_events 16 = .ok (.ireturn, 1) := by decide +kernel
theorem dX9_events_17 : decode cX9_events 17 = .ok (.aload_n 0, 1) := by decide +kernel
theorem dX9_events_18 : decode cX9_events 18 = .ok (.iload_n 1, 1) := by decide +kernel
theorem dX9_events_19 : decode cX9_events 19 = .ok (.iload_n 2, 1) := by decide +kernel
theorem dX9_events_20 : decode cX9_events 20 = .ok (.invokevirtual 202, 3) := by decide +kernel
theorem dX9_events_23 : decode cX9_events 23 = .ok (.getfield 206, 3) := by decide +kernel
theorem dX9_events_26 : decode cX9_events 26 = .ok (.ireturn, 1) := by decide +kernel
set_option maxRecDepth 100000 in
theorem b_X9_events_0 {E : fxE} (hW : fx_Wt E) (a0 : Nat) (x1 : Int) (x2 : Int) (M : fxM) (Q : Option fxV → fxM → Prop) (hk0 : kd E a0 = 9) (h : (-2147483648 ≤ x1 ∧ x1 < 2147483648) ∧ (((0 : Int) ≤ x1 ∧ x1 ≤ (1 : Int) → (-2147483648 ≤ x2 ∧ x2 < 2147483648) ∧ (((1 : Int) ≤ x2 ∧ x2 ≤ (9 : Int) → ∃ R5 : Nat → fxM → Prop, CtA E m_X9_eventsOf [.inr a0, .inl x1, .inl x2] M R5 ∧ ∀ (v5 : Nat) (M5 : fxM), R5 v5 M5 → kd E v5 = 1 ∧ Q (some (.inl (M5 v5 6))) M5) ∧ (¬ ((1 : Int) ≤ x2 ∧ x2 ≤ (9 : Int)) → Q (some (.inl (-1000002))) M))) ∧ (¬ ((0 : Int) ≤ x1 ∧ x1 ≤ (1 : Int)) → Q (some (.inl (-1000002))) M))) : fx_At E m_X9_events 0 [some (.inr a0), some (.inl x1), some (.inl x2)] [] M Q := by
  refine x_iload_n (pc := 0) dX9_events_0 rfl rfl ?_
  obtain ⟨g1, h⟩ := h
  refine x_callS (pc := 1) (z := m_X9_isSide) (as := [.inl x1]) (rest := []) dX9_events_1 c_RX9_172 (by decide) rfl (Nat.le_of_ble_eq_true rfl) (ct_X9_isSide hW g1) (fun r M9 hr => ?_)
  obtain ⟨hM9, hr⟩ := hr
  rw [hM9]
  clear hM9
  obtain ⟨hc, rfl⟩ | ⟨hc, rfl⟩ := hr
  · replace h := h.1 hc
    show fx_At E m_X9_events 4 [some (.inr a0), some (.inl x1), some (.inl x2)] [.inl 1] _ Q
    refine x_zeq (pc := 4) 14 dX9_events_4 (by decide) ⟨by decide, by decide⟩ (fun hx => absurd hx (by decide)) (fun _ => ?_)
    refine x_iload_n (pc := 7) dX9_events_7 rfl rfl ?_
    obtain ⟨g3, h⟩ := h
    refine x_callS (pc := 8) (z := m_X9_isWidth) (as := [.inl x2]) (rest := []) dX9_events_8 c_RX9_183 (by decide) rfl (Nat.le_of_ble_eq_true rfl) (ct_X9_isWidth hW g3) (fun r M9 hr => ?_)
    obtain ⟨hM9, hr⟩ := hr
    rw [hM9]
    clear hM9
    obtain ⟨hc, rfl⟩ | ⟨hc, rfl⟩ := hr
    · replace h := h.1 hc
      show fx_At E m_X9_events 11 [some (.inr a0), some (.inl x1), some (.inl x2)] [.inl 1] _ Q
      refine x_zne (pc := 11) 17 dX9_events_11 (by decide) ⟨by decide, by decide⟩ (fun _ => ?_) (fun hx => absurd hx (by decide))
      refine x_aload_n (pc := 17) dX9_events_17 rfl rfl ?_
      refine x_iload_n (pc := 18) dX9_events_18 rfl rfl ?_
      refine x_iload_n (pc := 19) dX9_events_19 rfl rfl ?_
      obtain ⟨R5, hc5, h⟩ := h
      refine x_callV (pc := 20) (z := m_X9_eventsOf) (b := a0) (as := [.inl x1, .inl x2]) (rest := []) dX9_events_20 c_RX9_202 (by decide) hk0 rfl (Nat.le_of_ble_eq_true rfl) hc5 (fun r M5 hr => ?_)
      obtain ⟨v5, rfl, hr⟩ := hr
      obtain ⟨hv5, h⟩ := h v5 M5 hr
      show fx_At E m_X9_events 23 [some (.inr a0), some (.inl x1), some (.inl x2)] [.inr v5] M5 Q
      refine x_geti (pc := 23) dX9_events_23 f_RX9_206 hv5 ?_
      exact x_iret (pc := 26) dX9_events_26 (Or.inl rfl) h
    · replace h := h.2 hc
      show fx_At E m_X9_events 11 [some (.inr a0), some (.inl x1), some (.inl x2)] [.inl 0] _ Q
      refine x_zne (pc := 11) 17 dX9_events_11 (by decide) ⟨by decide, by decide⟩ (fun hx => absurd hx (by decide)) (fun _ => ?_)
      refine x_ldc (pc := 14) (n := -1000002) dX9_events_14 k_RX9_93 rfl ?_
      exact x_iret (pc := 16) dX9_events_16 (Or.inl rfl) h
  · replace h := h.2 hc
    show fx_At E m_X9_events 4 [some (.inr a0), some (.inl x1), some (.inl x2)] [.inl 0] _ Q
    refine x_zeq (pc := 4) 14 dX9_events_4 (by decide) ⟨by decide, by decide⟩ (fun _ => ?_) (fun hx => absurd hx (by decide))
    refine x_ldc (pc := 14) (n := -1000002) dX9_events_14 k_RX9_93 rfl ?_
    exact x_iret (pc := 16) dX9_events_16 (Or.inl rfl) h
theorem dX9_event_0 : decode cX9_event 0 = .ok (.iload_n 1, 1) := by decide +kernel
theorem dX9_event_1 : decode cX9_event 1 = .ok (.invokestatic 172, 3) := by decide +kernel
theorem dX9_event_4 : decode cX9_event 4 = .ok (.ifCond .eq 21, 3) := by decide +kernel
theorem dX9_event_7 : decode cX9_event 7 = .ok (.iload_n 2, 1) := by decide +kernel
theorem dX9_event_8 : decode cX9_event 8 = .ok (.invokestatic 183, 3) := by decide +kernel
theorem dX9_event_11 : decode cX9_event 11 = .ok (.ifCond .eq 14, 3) := by decide +kernel
theorem dX9_event_14 : decode cX9_event 14 = .ok (.iload 4, 2) := by decide +kernel
theorem dX9_event_16 : decode cX9_event 16 = .ok (.iconst 0, 1) := by decide +kernel
theorem dX9_event_17 : decode cX9_event 17 = .ok (.bipush 6, 2) := by decide +kernel
theorem dX9_event_19 : decode cX9_event 19 = .ok (.invokestatic 108, 3) := by decide +kernel
theorem dX9_event_22 : decode cX9_event 22 = .ok (.ifCond .ne 6, 3) := by decide +kernel
theorem dX9_event_25 : decode cX9_event 25 = .ok (.ldc 93, 2) := by decide +kernel
theorem dX9_event_27 : decode cX9_event 27 = .ok (.ireturn, 1) := by decide +kernel
theorem dX9_event_28 : decode cX9_event 28 = .ok (.aload_n 0, 1) := by decide +kernel
theorem dX9_event_29 : decode cX9_event 29 = .ok (.iload_n 1, 1) := by decide +kernel
theorem dX9_event_30 : decode cX9_event 30 = .ok (.iload_n 2, 1) := by decide +kernel
theorem dX9_event_31 : decode cX9_event 31 = .ok (.invokevirtual 202, 3) := by decide +kernel
theorem dX9_event_34 : decode cX9_event 34 = .ok (.astore 5, 2) := by decide +kernel
theorem dX9_event_36 : decode cX9_event 36 = .ok (.iload_n 3, 1) := by decide +kernel
theorem dX9_event_37 : decode cX9_event 37 = .ok (.iconst 0, 1) := by decide +kernel
theorem dX9_event_38 : decode cX9_event 38 = .ok (.aload 5, 2) := by decide +kernel
theorem dX9_event_40 : decode cX9_event 40 = .ok (.getfield 206, 3) := by decide +kernel
theorem dX9_event_43 : decode cX9_event 43 = .ok (.iconst 1, 1) := by decide +kernel
theorem dX9_event_44 : decode cX9_event 44 = .ok (.isub, 1) := by decide +kernel
theorem dX9_event_45 : decode cX9_event 45 = .ok (.invokestatic 108, 3) := by decide +kernel
theorem dX9_event_48 : decode cX9_event 48 = .ok (.ifCond .ne 6, 3) := by decide +kernel
theorem dX9_event_51 : decode cX9_event 51 = .ok (.ldc 111, 2) := by decide +kernel
theorem dX9_event_53 : decode cX9_event 53 = .ok (.ireturn, 1) := by decide +kernel
theorem dX9_event_54 : decode cX9_event 54 = .ok (.iload 4, 2) := by decide +kernel
theorem dX9_event_56 : decode cX9_event 56 = .ok (.tableswitch 87 0 5 #[40, 48, 56, 64, 72, 80], 40) := by decide +kernel
theorem dX9_event_96 : decode cX9_event 96 = .ok (.aload 5, 2) := by decide +kernel
theorem dX9_event_98 : decode cX9_event 98 = .ok (.getfield 207, 3) := by decide +kernel
theorem dX9_event_101 : decode cX9_event 101 = .ok (.iload_n 3, 1) := by decide +kernel
theorem dX9_event_102 : decode cX9_event 102 = .ok (.iaload, 1) := by decide +kernel
theorem dX9_event_103 : decode cX9_event 103 = .ok (.ireturn, 1) := by decide +kernel
theorem dX9_event_104 : decode cX9_event 104 = .ok (.aload 5, 2) := by decide +kernel
theorem dX9_event_106 : decode cX9_event 106 = .ok (.getfield 210, 3) := by decide +kernel
theorem dX9_event_109 : decode cX9_event 109 = .ok (.iload_n 3, 1) := by decide +kernel
theorem dX9_event_110 : decode cX9_event 110 = .ok (.iaload, 1) := by decide +kernel
theorem dX9_event_111 : decode cX9_event 111 = .ok (.ireturn, 1) := by decide +kernel
theorem dX9_event_112 : decode cX9_event 112 = .ok (.aload 5, 2) := by decide +kernel
theorem dX9_event_114 : decode cX9_event 114 = .ok (.getfield 213, 3) := by decide +kernel
theorem dX9_event_117 : decode cX9_event 117 = .ok (.iload_n 3, 1) := by decide +kernel
theorem dX9_event_118 : decode cX9_event 118 = .ok (.iaload, 1) := by decide +kernel
theorem dX9_event_119 : decode cX9_event 119 = .ok (.ireturn, 1) := by decide +kernel
theorem dX9_event_120 : decode cX9_event 120 = .ok (.aload 5, 2) := by decide +kernel
theorem dX9_event_122 : decode cX9_event 122 = .ok (.getfield 216, 3) := by decide +kernel
theorem dX9_event_125 : decode cX9_event 125 = .ok (.iload_n 3, 1) := by decide +kernel
theorem dX9_event_126 : decode cX9_event 126 = .ok (.iaload, 1) := by decide +kernel
theorem dX9_event_127 : decode cX9_event 127 = .ok (.ireturn, 1) := by decide +kernel
theorem dX9_event_128 : decode cX9_event 128 = .ok (.aload 5, 2) := by decide +kernel
theorem dX9_event_130 : decode cX9_event 130 = .ok (.getfield 219, 3) := by decide +kernel
theorem dX9_event_133 : decode cX9_event 133 = .ok (.iload_n 3, 1) := by decide +kernel
theorem dX9_event_134 : decode cX9_event 134 = .ok (.iaload, 1) := by decide +kernel
theorem dX9_event_135 : decode cX9_event 135 = .ok (.ireturn, 1) := by decide +kernel
theorem dX9_event_136 : decode cX9_event 136 = .ok (.aload 5, 2) := by decide +kernel
theorem dX9_event_138 : decode cX9_event 138 = .ok (.iload_n 3, 1) := by decide +kernel
theorem dX9_event_139 : decode cX9_event 139 = .ok (.invokevirtual 222, 3) := by decide +kernel
theorem dX9_event_142 : decode cX9_event 142 = .ok (.ireturn, 1) := by decide +kernel
theorem dX9_event_143 : decode cX9_event 143 = .ok (.aload 5, 2) := by decide +kernel
theorem dX9_event_145 : decode cX9_event 145 = .ok (.iload_n 3, 1) := by decide +kernel
theorem dX9_event_146 : decode cX9_event 146 = .ok (.invokevirtual 225, 3) := by decide +kernel
theorem dX9_event_149 : decode cX9_event 149 = .ok (.ireturn, 1) := by decide +kernel
set_option maxRecDepth 100000 in
theorem b_X9_event_0 {E : fxE} (hW : fx_Wt E) (a0 : Nat) (x1 : Int) (x2 : Int) (x3 : Int) (x4 : Int) (M : fxM) (Q : Option fxV → fxM → Prop) (hk0 : kd E a0 = 9) (h : (-2147483648 ≤ x1 ∧ x1 < 2147483648) ∧ (((0 : Int) ≤ x1 ∧ x1 ≤ (1 : Int) → (-2147483648 ≤ x2 ∧ x2 < 2147483648) ∧ (((1 : Int) ≤ x2 ∧ x2 ≤ (9 : Int) → (-2147483648 ≤ x4 ∧ x4 < 2147483648) ∧ (((0 : Int) ≤ x4 ∧ x4 ≤ (6 : Int) → ∃ R7 : Nat → fxM → Prop, CtA E m_X9_eventsOf [.inr a0, .inl x1, .inl x2] M R7 ∧ ∀ (v7 : Nat) (M7 : fxM), R7 v7 M7 → kd E v7 = 1 ∧ (-2147483648 ≤ x3 ∧ x3 < 2147483648) ∧ (-2147483648 ≤ ((M7 v7 6) - 1) ∧ ((M7 v7 6) - 1) < 2147483648) ∧ (((0 : Int) ≤ x3 ∧ x3 ≤ ((M7 v7 6) - 1) → ((x4 = 0 → (0 ≤ x3 ∧ x3 < 200) ∧ Q (some (.inl (M7 (rf E v7 0) (x3.toNat)))) M7) ∧ (x4 = 1 → (0 ≤ x3 ∧ x3 < 200) ∧ Q (some (.inl (M7 (rf E v7 1) (x3.toNat)))) M7) ∧ (x4 = 2 → (0 ≤ x3 ∧ x3 < 200) ∧ Q (some (.inl (M7 (rf E v7 2) (x3.toNat)))) M7) ∧ (x4 = 3 → (0 ≤ x3 ∧ x3 < 200) ∧ Q (some (.inl (M7 (rf E v7 3) (x3.toNat)))) M7) ∧ (x4 = 4 → (0 ≤ x3 ∧ x3 < 200) ∧ Q (some (.inl (M7 (rf E v7 4) (x3.toNat)))) M7) ∧ (x4 = 5 → ∃ R16 : Int → fxM → Prop, CtI E m_X1_ghostMirror [.inr v7, .inl x3] M7 R16 ∧ ∀ (v16 : Int) (M16 : fxM), R16 v16 M16 → Q (some (.inl v16)) M16) ∧ (x4 < (0 : Int) ∨ (5 : Int) < x4 → ∃ R17 : Int → fxM → Prop, CtI E m_X1_ghostOrigin [.inr v7, .inl x3] M7 R17 ∧ ∀ (v17 : Int) (M17 : fxM), R17 v17 M17 → Q (some (.inl v17)) M17))) ∧ (¬ ((0 : Int) ≤ x3 ∧ x3 ≤ ((M7 v7 6) - 1)) → Q (some (.inl (-1000001))) M7))) ∧ (¬ ((0 : Int) ≤ x4 ∧ x4 ≤ (6 : Int)) → Q (some (.inl (-1000002))) M))) ∧ (¬ ((1 : Int) ≤ x2 ∧ x2 ≤ (9 : Int)) → Q (some (.inl (-1000002))) M))) ∧ (¬ ((0 : Int) ≤ x1 ∧ x1 ≤ (1 : Int)) → Q (some (.inl (-1000002))) M))) : fx_At E m_X9_event 0 [some (.inr a0), some (.inl x1), some (.inl x2), some (.inl x3), some (.inl x4), none] [] M Q := by
  refine x_iload_n (pc := 0) dX9_event_0 rfl rfl ?_
  obtain ⟨g1, h⟩ := h
  refine x_callS (pc := 1) (z := m_X9_isSide) (as := [.inl x1]) (rest := []) dX9_event_1 c_RX9_172 (by decide) rfl (Nat.le_of_ble_eq_true rfl) (ct_X9_isSide hW g1) (fun r M9 hr => ?_)
  obtain ⟨hM9, hr⟩ := hr
  rw [hM9]
  clear hM9
  obtain ⟨hc, rfl⟩ | ⟨hc, rfl⟩ := hr
  · replace h := h.1 hc
    show fx_At E m_X9_event 4 [some (.inr a0), some (.inl x1), some (.inl x2), some (.inl x3), some (.inl x4), none] [.inl 1] _ Q
    refine x_zeq (pc := 4) 25 dX9_event_4 (by decide) ⟨by decide, by decide⟩ (fun hx => absurd hx (by decide)) (fun _ => ?_)
    refine x_iload_n (pc := 7) dX9_event_7 rfl rfl ?_
    obtain ⟨g3, h⟩ := h
    refine x_callS (pc := 8) (z := m_X9_isWidth) (as := [.inl x2]) (rest := []) dX9_event_8 c_RX9_183 (by decide) rfl (Nat.le_of_ble_eq_true rfl) (ct_X9_isWidth hW g3) (fun r M9 hr => ?_)
    obtain ⟨hM9, hr⟩ := hr
    rw [hM9]
    clear hM9
    obtain ⟨hc, rfl⟩ | ⟨hc, rfl⟩ := hr
    · replace h := h.1 hc
      show fx_At E m_X9_event 11 [some (.inr a0), some (.inl x1), some (.inl x2), some (.inl x3), some (.inl x4), none] [.inl 1] _ Q
      refine x_zeq (pc := 11) 25 dX9_event_11 (by decide) ⟨by decide, by decide⟩ (fun hx => absurd hx (by decide)) (fun _ => ?_)
      refine x_iload (pc := 14) dX9_event_14 rfl ?_
      refine x_iconst (pc := 16) dX9_event_16 ?_
      refine x_bipush (pc := 17) dX9_event_17 (by decide +kernel) ?_
      obtain ⟨g5, h⟩ := h
      refine x_callS (pc := 19) (z := m_X9_isWithin) (as := [.inl x4, .inl 0, .inl 6]) (rest := []) dX9_event_19 c_RX9_108 (by decide) rfl (Nat.le_of_ble_eq_true rfl) (ct_isWithin hW g5 ⟨by decide, by decide⟩ ⟨by decide, by decide⟩) (fun r M9 hr => ?_)
      obtain ⟨hM9, hr⟩ := hr
      rw [hM9]
      clear hM9
      obtain ⟨hc, rfl⟩ | ⟨hc, rfl⟩ := hr
      · replace h := h.1 hc
        show fx_At E m_X9_event 22 [some (.inr a0), some (.inl x1), some (.inl x2), some (.inl x3), some (.inl x4), none] [.inl 1] _ Q
        refine x_zne (pc := 22) 28 dX9_event_22 (by decide) ⟨by decide, by decide⟩ (fun _ => ?_) (fun hx => absurd hx (by decide))
        refine x_aload_n (pc := 28) dX9_event_28 rfl rfl ?_
        refine x_iload_n (pc := 29) dX9_event_29 rfl rfl ?_
        refine x_iload_n (pc := 30) dX9_event_30 rfl rfl ?_
        obtain ⟨R7, hc7, h⟩ := h
        refine x_callV (pc := 31) (z := m_X9_eventsOf) (b := a0) (as := [.inl x1, .inl x2]) (rest := []) dX9_event_31 c_RX9_202 (by decide) hk0 rfl (Nat.le_of_ble_eq_true rfl) hc7 (fun r M7 hr => ?_)
        obtain ⟨v7, rfl, hr⟩ := hr
        obtain ⟨hv7, h⟩ := h v7 M7 hr
        show fx_At E m_X9_event 34 [some (.inr a0), some (.inl x1), some (.inl x2), some (.inl x3), some (.inl x4), none] [.inr v7] M7 Q
        refine x_astore (pc := 34) (lv' := [some (.inr a0), some (.inl x1), some (.inl x2), some (.inl x3), some (.inl x4), some (.inr v7)]) dX9_event_34 (by decide) rfl ?_
        refine x_iload_n (pc := 36) dX9_event_36 rfl rfl ?_
        refine x_iconst (pc := 37) dX9_event_37 ?_
        refine x_aload (pc := 38) dX9_event_38 rfl ?_
        refine x_geti (pc := 40) dX9_event_40 f_RX9_206 hv7 ?_
        refine x_iconst (pc := 43) dX9_event_43 ?_
        refine x_isub (pc := 44) dX9_event_44 ?_
        obtain ⟨g8, h⟩ := h
        obtain ⟨g9, h⟩ := h
        refine x_callS (pc := 45) (z := m_X9_isWithin) (as := [.inl x3, .inl 0, .inl ((M7 v7 6) - 1)]) (rest := []) dX9_event_45 c_RX9_108 (by decide) rfl (Nat.le_of_ble_eq_true rfl) (ct_isWithin hW g8 ⟨by decide, by decide⟩ g9) (fun r M9 hr => ?_)
        obtain ⟨hM9, hr⟩ := hr
        rw [hM9]
        clear hM9
        obtain ⟨hc, rfl⟩ | ⟨hc, rfl⟩ := hr
        · replace h := h.1 hc
          show fx_At E m_X9_event 48 [some (.inr a0), some (.inl x1), some (.inl x2), some (.inl x3), some (.inl x4), some (.inr v7)] [.inl 1] _ Q
          refine x_zne (pc := 48) 54 dX9_event_48 (by decide) ⟨by decide, by decide⟩ (fun _ => ?_) (fun hx => absurd hx (by decide))
          refine x_iload (pc := 54) dX9_event_54 rfl ?_
          refine x_tsw (pc := 56) 143 [96, 104, 112, 120, 128, 136] dX9_event_56 g5 (by decide) (by decide) (by decide) (fun j t hj ha => ?_) (fun hc => ?_)
          · match j, hj, ha with
            | 0, hj, ha =>
              cases hj
              replace h := h.1 ha
              refine x_aload (pc := 96) dX9_event_96 rfl ?_
              refine x_getr (pc := 98) dX9_event_98 f_RX9_207 hv7 ?_
              refine x_iload_n (pc := 101) dX9_event_101 rfl rfl ?_
              obtain ⟨g11, h⟩ := h
              refine x_iald (pc := 102) dX9_event_102 (wk_1_0 hW hv7) (wl_1_0 hW hv7) g11 ?_
              exact x_iret (pc := 103) dX9_event_103 (Or.inl rfl) h
            | 1, hj, ha =>
              cases hj
              replace h := h.2.1 ha
              refine x_aload (pc := 104) dX9_event_104 rfl ?_
              refine x_getr (pc := 106) dX9_event_106 f_RX9_210 hv7 ?_
              refine x_iload_n (pc := 109) dX9_event_109 rfl rfl ?_
              obtain ⟨g12, h⟩ := h
              refine x_iald (pc := 110) dX9_event_110 (wk_1_1 hW hv7) (wl_1_1 hW hv7) g12 ?_
              exact x_iret (pc := 111) dX9_event_111 (Or.inl rfl) h
            | 2, hj, ha =>
              cases hj
              replace h := h.2.2.1 ha
              refine x_aload (pc := 112) dX9_event_112 rfl ?_
              refine x_getr (pc := 114) dX9_event_114 f_RX9_213 hv7 ?_
              refine x_iload_n (pc := 117) dX9_event_117 rfl rfl ?_
              obtain ⟨g13, h⟩ := h
              refine x_iald (pc := 118) dX9_event_118 (wk_1_2 hW hv7) (wl_1_2 hW hv7) g13 ?_
              exact x_iret (pc := 119) dX9_event_119 (Or.inl rfl) h
            | 3, hj, ha =>
              cases hj
              replace h := h.2.2.2.1 ha
              refine x_aload (pc := 120) dX9_event_120 rfl ?_
              refine x_getr (pc := 122) dX9_event_122 f_RX9_216 hv7 ?_
              refine x_iload_n (pc := 125) dX9_event_125 rfl rfl ?_
              obtain ⟨g14, h⟩ := h
              refine x_iald (pc := 126) dX9_event_126 (wk_1_3 hW hv7) (wl_1_3 hW hv7) g14 ?_
              exact x_iret (pc := 127) dX9_event_127 (Or.inl rfl) h
            | 4, hj, ha =>
              cases hj
              replace h := h.2.2.2.2.1 ha
              refine x_aload (pc := 128) dX9_event_128 rfl ?_
              refine x_getr (pc := 130) dX9_event_130 f_RX9_219 hv7 ?_
              refine x_iload_n (pc := 133) dX9_event_133 rfl rfl ?_
              obtain ⟨g15, h⟩ := h
              refine x_iald (pc := 134) dX9_event_134 (wk_1_4 hW hv7) (wl_1_4 hW hv7) g15 ?_
              exact x_iret (pc := 135) dX9_event_135 (Or.inl rfl) h
            | 5, hj, ha =>
              cases hj
              replace h := h.2.2.2.2.2.1 ha
              refine x_aload (pc := 136) dX9_event_136 rfl ?_
              refine x_iload_n (pc := 138) dX9_event_138 rfl rfl ?_
              obtain ⟨R16, hc16, h⟩ := h
              refine x_callV (pc := 139) (z := m_X1_ghostMirror) (b := v7) (as := [.inl x3]) (rest := []) dX9_event_139 c_RX9_222 (by decide) hv7 rfl (Nat.le_of_ble_eq_true rfl) hc16 (fun r M16 hr => ?_)
              obtain ⟨v16, rfl, hr⟩ := hr
              replace h := h v16 M16 hr
              show fx_At E m_X9_event 142 [some (.inr a0), some (.inl x1), some (.inl x2), some (.inl x3), some (.inl x4), some (.inr v7)] [.inl v16] M16 Q
              exact x_iret (pc := 142) dX9_event_142 (Or.inl rfl) h
            | j + 6, hj, ha => simp at hj
          · replace h := h.2.2.2.2.2.2 hc
            refine x_aload (pc := 143) dX9_event_143 rfl ?_
            refine x_iload_n (pc := 145) dX9_event_145 rfl rfl ?_
            obtain ⟨R17, hc17, h⟩ := h
            refine x_callV (pc := 146) (z := m_X1_ghostOrigin) (b := v7) (as := [.inl x3]) (rest := []) dX9_event_146 c_RX9_225 (by decide) hv7 rfl (Nat.le_of_ble_eq_true rfl) hc17 (fun r M17 hr => ?_)
            obtain ⟨v17, rfl, hr⟩ := hr
            replace h := h v17 M17 hr
            show fx_At E m_X9_event 149 [some (.inr a0), some (.inl x1), some (.inl x2), some (.inl x3), some (.inl x4), some (.inr v7)] [.inl v17] M17 Q
            exact x_iret (pc := 149) dX9_event_149 (Or.inl rfl) h
        · replace h := h.2 hc
          show fx_At E m_X9_event 48 [some (.inr a0), some (.inl x1), some (.inl x2), some (.inl x3), some (.inl x4), some (.inr v7)] [.inl 0] _ Q
          refine x_zne (pc := 48) 54 dX9_event_48 (by decide) ⟨by decide, by decide⟩ (fun hx => absurd hx (by decide)) (fun _ => ?_)
          refine x_ldc (pc := 51) (n := -1000001) dX9_event_51 k_RX9_111 rfl ?_
          exact x_iret (pc := 53) dX9_event_53 (Or.inl rfl) h
      · replace h := h.2 hc
        show fx_At E m_X9_event 22 [some (.inr a0), some (.inl x1), some (.inl x2), some (.inl x3), some (.inl x4), none] [.inl 0] _ Q
        refine x_zne (pc := 22) 28 dX9_event_22 (by decide) ⟨by decide, by decide⟩ (fun hx => absurd hx (by decide)) (fun _ => ?_)
        refine x_ldc (pc := 25) (n := -1000002) dX9_event_25 k_RX9_93 rfl ?_
        exact x_iret (pc := 27) dX9_event_27 (Or.inl rfl) h
    · replace h := h.2 hc
      show fx_At E m_X9_event 11 [some (.inr a0), some (.inl x1), some (.inl x2), some (.inl x3), some (.inl x4), none] [.inl 0] _ Q
      refine x_zeq (pc := 11) 25 dX9_event_11 (by decide) ⟨by decide, by decide⟩ (fun _ => ?_) (fun hx => absurd hx (by decide))
      refine x_ldc (pc := 25) (n := -1000002) dX9_event_25 k_RX9_93 rfl ?_
      exact x_iret (pc := 27) dX9_event_27 (Or.inl rfl) h
  · replace h := h.2 hc
    show fx_At E m_X9_event 4 [some (.inr a0), some (.inl x1), some (.inl x2), some (.inl x3), some (.inl x4), none] [.inl 0] _ Q
    refine x_zeq (pc := 4) 25 dX9_event_4 (by decide) ⟨by decide, by decide⟩ (fun _ => ?_) (fun hx => absurd hx (by decide))
    refine x_ldc (pc := 25) (n := -1000002) dX9_event_25 k_RX9_93 rfl ?_
    exact x_iret (pc := 27) dX9_event_27 (Or.inl rfl) h
theorem dX9_ghosts_0 : decode cX9_ghosts 0 = .ok (.iload_n 1, 1) := by decide +kernel
theorem dX9_ghosts_1 : decode cX9_ghosts 1 = .ok (.invokestatic 172, 3) := by decide +kernel
theorem dX9_ghosts_4 : decode cX9_ghosts 4 = .ok (.ifCond .eq 10, 3) := by decide +kernel
theorem dX9_ghosts_7 : decode cX9_ghosts 7 = .ok (.iload_n 2, 1) := by decide +kernel
theorem dX9_ghosts_8 : decode cX9_ghosts 8 = .ok (.invokestatic 183, 3) := by decide +kernel
theorem dX9_ghosts_11 : decode cX9_ghosts 11 = .ok (.ifCond .ne 6, 3) := by decide +kernel
theorem dX9_ghosts_14 : decode cX9_ghosts 14 = .ok (.ldc 93, 2) := by decide +kernel
theorem dX9_ghosts_16 : decode cX9_ghosts 16 = .ok (.ireturn, 1) := by decide +kernel
theorem dX9_ghosts_17 : decode cX9_ghosts 17 = .ok (.aload_n 0, 1) := by decide +kernel
theorem dX9_ghosts_18 : decode cX9_ghosts 18 = .ok (.iload_n 1, 1) := by decide +kernel
theorem dX9_ghosts_19 : decode cX9_ghosts 19 = .ok (.iload_n 2, 1) := by decide +kernel
theorem dX9_ghosts_20 : decode cX9_ghosts 20 = .ok (.invokevirtual 202, 3) := by decide +kernel
theorem dX9_ghosts_23 : decode cX9_ghosts 23 = .ok (.astore_n 3, 1) := by decide +kernel
theorem dX9_ghosts_24 : decode cX9_ghosts 24 = .ok (.iconst 0, 1) := by decide +kernel
theorem dX9_ghosts_25 : decode cX9_ghosts 25 = .ok (.istore 4, 2) := by decide +kernel
theorem dX9_ghosts_27 : decode cX9_ghosts 27 = .ok (.iconst 0, 1) := by decide +kernel
theorem dX9_ghosts_28 : decode cX9_ghosts 28 = .ok (.istore 5, 2) := by decide +kernel
theorem dX9_ghosts_30 : decode cX9_ghosts 30 = .ok (.iload 5, 2) := by decide +kernel
theorem dX9_ghosts_32 : decode cX9_ghosts 32 = .ok (.aload_n 3, 1) := by decide +kernel
theorem dX9_ghosts_33 : decode cX9_ghosts 33 = .ok (.getfield 206, 3) := by decide +kernel
theorem dX9_ghosts_36 : decode cX9_ghosts 36 = .ok (.if_icmp .ge 36, 3) := by decide +kernel
theorem dX9_ghosts_39 : decode cX9_ghosts 39 = .ok (.iload 5, 2) := by decide +kernel
theorem dX9_ghosts_41 : decode cX9_ghosts 41 = .ok (.bipush 30, 2) := by decide +kernel
theorem dX9_ghosts_43 : decode cX9_ghosts 43 = .ok (.if_icmp .ge 29, 3) := by decide +kernel
theorem dX9_ghosts_46 : decode cX9_ghosts 46 = .ok (.aload_n 3, 1) := by decide +kernel
theorem dX9_ghosts_47 : decode cX9_ghosts 47 = .ok (.iload 5, 2) := by decide +kernel
theorem dX9_ghosts_49 : decode cX9_ghosts 49 = .ok (.invokevirtual 222, 3) := by decide +kernel
theorem dX9_ghosts_52 : decode cX9_ghosts 52 = .ok (.ldc 201, 2) := by decide +kernel
theorem dX9_ghosts_54 : decode cX9_ghosts 54 = .ok (.if_icmp .eq 12, 3) := by decide +kernel
theorem dX9_ghosts_57 : decode cX9_ghosts 57 = .ok (.iload 4, 2) := by decide +kernel
theorem dX9_ghosts_59 : decode cX9_ghosts 59 = .ok (.iconst 1, 1) := by decide +kernel
theorem dX9_ghosts_60 : decode cX9_ghosts 60 = .ok (.iload 5, 2) := by decide +kernel
theorem dX9_ghosts_62 : decode cX9_ghosts 62 = .ok (.ishl, 1) := by decide +kernel
theorem dX9_ghosts_63 : decode cX9_ghosts 63 = .ok (.ior, 1) := by decide +kernel
theorem dX9_ghosts_64 : decode cX9_ghosts 64 = .ok (.istore 4, 2) := by decide +kernel
theorem dX9_ghosts_66 : decode cX9_ghosts 66 = .ok (.iinc 5 1, 3) := by decide +kernel
theorem dX9_ghosts_69 : decode cX9_ghosts 69 = .ok (.goto (-39), 3) := by decide +kernel
theorem dX9_ghosts_72 : decode cX9_ghosts 72 = .ok (.iload 4, 2) := by decide +kernel
theorem dX9_ghosts_74 : decode cX9_ghosts 74 = .ok (.ireturn, 1) := by decide +kernel
set_option maxRecDepth 100000 in
theorem b_X9_ghosts_0 {E : fxE} (hW : fx_Wt E) (a0 : Nat) (x1 : Int) (x2 : Int) (M : fxM) (Q : Option fxV → fxM → Prop) (hk0 : kd E a0 = 9) (h : (-2147483648 ≤ x1 ∧ x1 < 2147483648) ∧ (((0 : Int) ≤ x1 ∧ x1 ≤ (1 : Int) → (-2147483648 ≤ x2 ∧ x2 < 2147483648) ∧ (((1 : Int) ≤ x2 ∧ x2 ≤ (9 : Int) → ∃ R5 : Nat → fxM → Prop, CtA E m_X9_eventsOf [.inr a0, .inl x1, .inl x2] M R5 ∧ ∀ (v5 : Nat) (M5 : fxM), R5 v5 M5 → kd E v5 = 1 ∧ fx_At E m_X9_ghosts 30 [some (.inr a0), some (.inl x1), some (.inl x2), some (.inr v5), some (.inl 0), some (.inl 0)] [] M5 Q) ∧ (¬ ((1 : Int) ≤ x2 ∧ x2 ≤ (9 : Int)) → Q (some (.inl (-1000002))) M))) ∧ (¬ ((0 : Int) ≤ x1 ∧ x1 ≤ (1 : Int)) → Q (some (.inl (-1000002))) M))) : fx_At E m_X9_ghosts 0 [some (.inr a0), some (.inl x1), some (.inl x2), none, none, none] [] M Q := by
  refine x_iload_n (pc := 0) dX9_ghosts_0 rfl rfl ?_
  obtain ⟨g1, h⟩ := h
  refine x_callS (pc := 1) (z := m_X9_isSide) (as := [.inl x1]) (rest := []) dX9_ghosts_1 c_RX9_172 (by decide) rfl (Nat.le_of_ble_eq_true rfl) (ct_X9_isSide hW g1) (fun r M9 hr => ?_)
  obtain ⟨hM9, hr⟩ := hr
  rw [hM9]
  clear hM9
  obtain ⟨hc, rfl⟩ | ⟨hc, rfl⟩ := hr
  · replace h := h.1 hc
    show fx_At E m_X9_ghosts 4 [some (.inr a0), some (.inl x1), some (.inl x2), none, none, none] [.inl 1] _ Q
    refine x_zeq (pc := 4) 14 dX9_ghosts_4 (by decide) ⟨by decide, by decide⟩ (fun hx => absurd hx (by decide)) (fun _ => ?_)
    refine x_iload_n (pc := 7) dX9_ghosts_7 rfl rfl ?_
    obtain ⟨g3, h⟩ := h
    refine x_callS (pc := 8) (z := m_X9_isWidth) (as := [.inl x2]) (rest := []) dX9_ghosts_8 c_RX9_183 (by decide) rfl (Nat.le_of_ble_eq_true rfl) (ct_X9_isWidth hW g3) (fun r M9 hr => ?_)
    obtain ⟨hM9, hr⟩ := hr
    rw [hM9]
    clear hM9
    obtain ⟨hc, rfl⟩ | ⟨hc, rfl⟩ := hr
    · replace h := h.1 hc
      show fx_At E m_X9_ghosts 11 [some (.inr a0), some (.inl x1), some (.inl x2), none, none, none] [.inl 1] _ Q
      refine x_zne (pc := 11) 17 dX9_ghosts_11 (by decide) ⟨by decide, by decide⟩ (fun _ => ?_) (fun hx => absurd hx (by decide))
      refine x_aload_n (pc := 17) dX9_ghosts_17 rfl rfl ?_
      refine x_iload_n (pc := 18) dX9_ghosts_18 rfl rfl ?_
      refine x_iload_n (pc := 19) dX9_ghosts_19 rfl rfl ?_
      obtain ⟨R5, hc5, h⟩ := h
      refine x_callV (pc := 20) (z := m_X9_eventsOf) (b := a0) (as := [.inl x1, .inl x2]) (rest := []) dX9_ghosts_20 c_RX9_202 (by decide) hk0 rfl (Nat.le_of_ble_eq_true rfl) hc5 (fun r M5 hr => ?_)
      obtain ⟨v5, rfl, hr⟩ := hr
      obtain ⟨hv5, h⟩ := h v5 M5 hr
      show fx_At E m_X9_ghosts 23 [some (.inr a0), some (.inl x1), some (.inl x2), none, none, none] [.inr v5] M5 Q
      refine x_astore_n (pc := 23) (lv' := [some (.inr a0), some (.inl x1), some (.inl x2), some (.inr v5), none, none]) dX9_ghosts_23 rfl (by decide) rfl ?_
      refine x_iconst (pc := 24) dX9_ghosts_24 ?_
      refine x_istore (pc := 25) (lv' := [some (.inr a0), some (.inl x1), some (.inl x2), some (.inr v5), some (.inl 0), none]) dX9_ghosts_25 (by decide) rfl ?_
      refine x_iconst (pc := 27) dX9_ghosts_27 ?_
      refine x_istore (pc := 28) (lv' := [some (.inr a0), some (.inl x1), some (.inl x2), some (.inr v5), some (.inl 0), some (.inl 0)]) dX9_ghosts_28 (by decide) rfl ?_
      exact h
    · replace h := h.2 hc
      show fx_At E m_X9_ghosts 11 [some (.inr a0), some (.inl x1), some (.inl x2), none, none, none] [.inl 0] _ Q
      refine x_zne (pc := 11) 17 dX9_ghosts_11 (by decide) ⟨by decide, by decide⟩ (fun hx => absurd hx (by decide)) (fun _ => ?_)
      refine x_ldc (pc := 14) (n := -1000002) dX9_ghosts_14 k_RX9_93 rfl ?_
      exact x_iret (pc := 16) dX9_ghosts_16 (Or.inl rfl) h
  · replace h := h.2 hc
    show fx_At E m_X9_ghosts 4 [some (.inr a0), some (.inl x1), some (.inl x2), none, none, none] [.inl 0] _ Q
    refine x_zeq (pc := 4) 14 dX9_ghosts_4 (by decide) ⟨by decide, by decide⟩ (fun _ => ?_) (fun hx => absurd hx (by decide))
    refine x_ldc (pc := 14) (n := -1000002) dX9_ghosts_14 k_RX9_93 rfl ?_
    exact x_iret (pc := 16) dX9_ghosts_16 (Or.inl rfl) h
set_option maxRecDepth 100000 in
theorem b_X9_ghosts_30 {E : fxE} (hW : fx_Wt E) (a0 : Nat) (x1 : Int) (x2 : Int) (a3 : Nat) (x4 : Int) (x5 : Int) (M : fxM) (Q : Option fxV → fxM → Prop) (hk0 : kd E a0 = 9) (hk3 : kd E a3 = 1) (h : (-2147483648 ≤ x5 ∧ x5 < 2147483648) ∧ (-2147483648 ≤ (M a3 6) ∧ (M a3 6) < 2147483648) ∧ (((M a3 6) ≤ x5 → Q (some (.inl x4)) M) ∧ (¬ (M a3 6) ≤ x5 → (((30 : Int) ≤ x5 → Q (some (.inl x4)) M) ∧ (¬ (30 : Int) ≤ x5 → ∃ R3 : Int → fxM → Prop, CtI E m_X1_ghostMirror [.inr a3, .inl x5] M R3 ∧ ∀ (v3 : Int) (M3 : fxM), R3 v3 M3 → (-2147483648 ≤ v3 ∧ v3 < 2147483648) ∧ ((v3 = (-1000005 : Int) → fx_At E m_X9_ghosts 30 [some (.inr a0), some (.inl x1), some (.inl x2), some (.inr a3), some (.inl x4), some (.inl (x5 + 1))] [] M3 Q) ∧ (¬ v3 = (-1000005 : Int) → ∃ u5 : Nat, x5 = (u5 : Int) ∧ u5 < 31 ∧ ∃ u6 v6 : Nat, x4 = (u6 : Int) ∧ ((2 ^ u5 : Nat) : Int) = (v6 : Int) ∧ fx_At E m_X9_ghosts 30 [some (.inr a0), some (.inl x1), some (.inl x2), some (.inr a3), some (.inl ((u6 ||| v6 : Nat) : Int)), some (.inl (x5 + 1))] [] M3 Q))))))) : fx_At E m_X9_ghosts 30 [some (.inr a0), some (.inl x1), some (.inl x2), some (.inr a3), some (.inl x4), some (.inl x5)] [] M Q := by
  refine x_iload (pc := 30) dX9_ghosts_30 rfl ?_
  refine x_aload_n (pc := 32) dX9_ghosts_32 rfl rfl ?_
  refine x_geti (pc := 33) dX9_ghosts_33 f_RX9_206 hk3 ?_
  obtain ⟨g1, h⟩ := h
  obtain ⟨g2, h⟩ := h
  refine x_cge (pc := 36) 72 dX9_ghosts_36 (by decide) ⟨g1, g2⟩ (fun hc => ?_) (fun hc => ?_)
  · replace h := h.1 hc
    refine x_iload (pc := 72) dX9_ghosts_72 rfl ?_
    exact x_iret (pc := 74) dX9_ghosts_74 (Or.inl rfl) h
  · replace h := h.2 hc
    refine x_iload (pc := 39) dX9_ghosts_39 rfl ?_
    refine x_bipush (pc := 41) dX9_ghosts_41 (by decide +kernel) ?_
    refine x_cge (pc := 43) 72 dX9_ghosts_43 (by decide) ⟨g1, ⟨by decide, by decide⟩⟩ (fun hc => ?_) (fun hc => ?_)
    · replace h := h.1 hc
      refine x_iload (pc := 72) dX9_ghosts_72 rfl ?_
      exact x_iret (pc := 74) dX9_ghosts_74 (Or.inl rfl) h
    · replace h := h.2 hc
      refine x_aload_n (pc := 46) dX9_ghosts_46 rfl rfl ?_
      refine x_iload (pc := 47) dX9_ghosts_47 rfl ?_
      obtain ⟨R3, hc3, h⟩ := h
      refine x_callV (pc := 49) (z := m_X1_ghostMirror) (b := a3) (as := [.inl x5]) (rest := []) dX9_ghosts_49 c_RX9_222 (by decide) hk3 rfl (Nat.le_of_ble_eq_true rfl) hc3 (fun r M3 hr => ?_)
      obtain ⟨v3, rfl, hr⟩ := hr
      replace h := h v3 M3 hr
      show fx_At E m_X9_ghosts 52 [some (.inr a0), some (.inl x1), some (.inl x2), some (.inr a3), some (.inl x4), some (.inl x5)] [.inl v3] M3 Q
      refine x_ldc (pc := 52) (n := -1000005) dX9_ghosts_52 k_RX9_201 rfl ?_
      obtain ⟨g4, h⟩ := h
      refine x_ceq (pc := 54) 66 dX9_ghosts_54 (by decide) ⟨g4, ⟨by decide, by decide⟩⟩ (fun hc => ?_) (fun hc => ?_)
      · replace h := h.1 hc
        refine x_iinc (pc := 66) (lv' := [some (.inr a0), some (.inl x1), some (.inl x2), some (.inr a3), some (.inl x4), some (.inl (x5 + 1))]) dX9_ghosts_66 rfl (by decide) rfl ?_
        refine x_goto (pc := 69) 30 dX9_ghosts_69 (by decide) ?_
        exact h
      · replace h := h.2 hc
        refine x_iload (pc := 57) dX9_ghosts_57 rfl ?_
        refine x_iconst (pc := 59) dX9_ghosts_59 ?_
        refine x_iload (pc := 60) dX9_ghosts_60 rfl ?_
        obtain ⟨u5, hu5, hl5, h⟩ := h
        refine x_shl1 hu5 hl5 (pc := 62) dX9_ghosts_62 ?_
        obtain ⟨u6, v6, hu6, hv6, h⟩ := h
        refine x_ior hu6 hv6 (pc := 63) dX9_ghosts_63 ?_
        refine x_istore (pc := 64) (lv' := [some (.inr a0), some (.inl x1), some (.inl x2), some (.inr a3), some (.inl ((u6 ||| v6 : Nat) : Int)), some (.inl x5)]) dX9_ghosts_64 (by decide) rfl ?_
        refine x_iinc (pc := 66) (lv' := [some (.inr a0), some (.inl x1), some (.inl x2), some (.inr a3), some (.inl ((u6 ||| v6 : Nat) : Int)), some (.inl (x5 + 1))]) dX9_ghosts_66 rfl (by decide) rfl ?_
        refine x_goto (pc := 69) 30 dX9_ghosts_69 (by decide) ?_
        exact h
theorem dX9_endSeen_0 : decode cX9_endSeen 0 = .ok (.iload_n 1, 1) := by decide +kernel
theorem dX9_endSeen_1 : decode cX9_endSeen 1 = .ok (.invokestatic 172, 3) := by decide +kernel
theorem dX9_endSeen_4 : decode cX9_endSeen 4 = .ok (.ifCond .eq 10, 3) := by decide +kernel
theorem dX9_endSeen_7 : decode cX9_endSeen 7 = .ok (.iload_n 2, 1) := by decide +kernel
theorem dX9_endSeen_8 : decode cX9_endSeen 8 = .ok (.invokestatic 183, 3) := by decide +kernel
theorem dX9_endSeen_11 : decode cX9_endSeen 11 = .ok (.ifCond .ne 6, 3) := by decide +kernel
theorem dX9_endSeen_14 : decode cX9_endSeen 14 = .ok (.ldc 93, 2) := by decide +kernel
theorem dX9_endSeen_16 : decode cX9_endSeen 16 = .ok (.ireturn, 1) := by decide +kernel
theorem dX9_endSeen_17 : decode cX9_endSeen 17 = .ok (.aload_n 0, 1) := by decide +kernel
theorem dX9_endSeen_18 : decode cX9_endSeen 18 = .ok (.iload_n 1, 1) := by decide +kernel
theorem dX9_endSeen_19 : decode cX9_endSeen 19 = .ok (.iload_n 2, 1) := by decide +kernel
theorem dX9_endSeen_20 : decode cX9_endSeen 20 = .ok (.invokevirtual 202, 3) := by decide +kernel
theorem dX9_endSeen_23 : decode cX9_endSeen 23 = .ok (.invokevirtual 228, 3) := by decide +kernel
theorem dX9_endSeen_26 : decode cX9_endSeen 26 = .ok (.ireturn, 1) := by decide +kernel
set_option maxRecDepth 100000 in
theorem b_X9_endSeen_0 {E : fxE} (hW : fx_Wt E) (a0 : Nat) (x1 : Int) (x2 : Int) (M : fxM) (Q : Option fxV → fxM → Prop) (hk0 : kd E a0 = 9) (h : (-2147483648 ≤ x1 ∧ x1 < 2147483648) ∧ (((0 : Int) ≤ x1 ∧ x1 ≤ (1 : Int) → (-2147483648 ≤ x2 ∧ x2 < 2147483648) ∧ (((1 : Int) ≤ x2 ∧ x2 ≤ (9 : Int) → ∃ R5 : Nat → fxM → Prop, CtA E m_X9_eventsOf [.inr a0, .inl x1, .inl x2] M R5 ∧ ∀ (v5 : Nat) (M5 : fxM), R5 v5 M5 → kd E v5 = 1 ∧ ∃ R6 : Int → fxM → Prop, CtI E m_X1_firstEnd [.inr v5] M5 R6 ∧ ∀ (v6 : Int) (M6 : fxM), R6 v6 M6 → Q (some (.inl v6)) M6) ∧ (¬ ((1 : Int) ≤ x2 ∧ x2 ≤ (9 : Int)) → Q (some (.inl (-1000002))) M))) ∧ (¬ ((0 : Int) ≤ x1 ∧ x1 ≤ (1 : Int)) → Q (some (.inl (-1000002))) M))) : fx_At E m_X9_endSeen 0 [some (.inr a0), some (.inl x1), some (.inl x2)] [] M Q := by
  refine x_iload_n (pc := 0) dX9_endSeen_0 rfl rfl ?_
  obtain ⟨g1, h⟩ := h
  refine x_callS (pc := 1) (z := m_X9_isSide) (as := [.inl x1]) (rest := []) dX9_endSeen_1 c_RX9_172 (by decide) rfl (Nat.le_of_ble_eq_true rfl) (ct_X9_isSide hW g1) (fun r M9 hr => ?_)
  obtain ⟨hM9, hr⟩ := hr
  rw [hM9]
  clear hM9
  obtain ⟨hc, rfl⟩ | ⟨hc, rfl⟩ := hr
  · replace h := h.1 hc
    show fx_At E m_X9_endSeen 4 [some (.inr a0), some (.inl x1), some (.inl x2)] [.inl 1] _ Q
    refine x_zeq (pc := 4) 14 dX9_endSeen_4 (by decide) ⟨by decide, by decide⟩ (fun hx => absurd hx (by decide)) (fun _ => ?_)
    refine x_iload_n (pc := 7) dX9_endSeen_7 rfl rfl ?_
    obtain ⟨g3, h⟩ := h
    refine x_callS (pc := 8) (z := m_X9_isWidth) (as := [.inl x2]) (rest := []) dX9_endSeen_8 c_RX9_183 (by decide) rfl (Nat.le_of_ble_eq_true rfl) (ct_X9_isWidth hW g3) (fun r M9 hr => ?_)
    obtain ⟨hM9, hr⟩ := hr
    rw [hM9]
    clear hM9
    obtain ⟨hc, rfl⟩ | ⟨hc, rfl⟩ := hr
    · replace h := h.1 hc
      show fx_At E m_X9_endSeen 11 [some (.inr a0), some (.inl x1), some (.inl x2)] [.inl 1] _ Q
      refine x_zne (pc := 11) 17 dX9_endSeen_11 (by decide) ⟨by decide, by decide⟩ (fun _ => ?_) (fun hx => absurd hx (by decide))
      refine x_aload_n (pc := 17) dX9_endSeen_17 rfl rfl ?_
      refine x_iload_n (pc := 18) dX9_endSeen_18 rfl rfl ?_
      refine x_iload_n (pc := 19) dX9_endSeen_19 rfl rfl ?_
      obtain ⟨R5, hc5, h⟩ := h
      refine x_callV (pc := 20) (z := m_X9_eventsOf) (b := a0) (as := [.inl x1, .inl x2]) (rest := []) dX9_endSeen_20 c_RX9_202 (by decide) hk0 rfl (Nat.le_of_ble_eq_true rfl) hc5 (fun r M5 hr => ?_)
      obtain ⟨v5, rfl, hr⟩ := hr
      obtain ⟨hv5, h⟩ := h v5 M5 hr
      show fx_At E m_X9_endSeen 23 [some (.inr a0), some (.inl x1), some (.inl x2)] [.inr v5] M5 Q
      obtain ⟨R6, hc6, h⟩ := h
      refine x_callV (pc := 23) (z := m_X1_firstEnd) (b := v5) (as := []) (rest := []) dX9_endSeen_23 c_RX9_228 (by decide) hv5 rfl (Nat.le_of_ble_eq_true rfl) hc6 (fun r M6 hr => ?_)
      obtain ⟨v6, rfl, hr⟩ := hr
      replace h := h v6 M6 hr
      show fx_At E m_X9_endSeen 26 [some (.inr a0), some (.inl x1), some (.inl x2)] [.inl v6] M6 Q
      exact x_iret (pc := 26) dX9_endSeen_26 (Or.inl rfl) h
    · replace h := h.2 hc
      show fx_At E m_X9_endSeen 11 [some (.inr a0), some (.inl x1), some (.inl x2)] [.inl 0] _ Q
      refine x_zne (pc := 11) 17 dX9_endSeen_11 (by decide) ⟨by decide, by decide⟩ (fun hx => absurd hx (by decide)) (fun _ => ?_)
      refine x_ldc (pc := 14) (n := -1000002) dX9_endSeen_14 k_RX9_93 rfl ?_
      exact x_iret (pc := 16) dX9_endSeen_16 (Or.inl rfl) h
  · replace h := h.2 hc
    show fx_At E m_X9_endSeen 4 [some (.inr a0), some (.inl x1), some (.inl x2)] [.inl 0] _ Q
    refine x_zeq (pc := 4) 14 dX9_endSeen_4 (by decide) ⟨by decide, by decide⟩ (fun _ => ?_) (fun hx => absurd hx (by decide))
    refine x_ldc (pc := 14) (n := -1000002) dX9_endSeen_14 k_RX9_93 rfl ?_
    exact x_iret (pc := 16) dX9_endSeen_16 (Or.inl rfl) h
theorem dX9_joinedCount_0 : decode cX9_joinedCount 0 = .ok (.iload_n 1, 1) := by decide +kernel
theorem dX9_joinedCount_1 : decode cX9_joinedCount 1 = .ok (.invokestatic 183, 3) := by decide +kernel
theorem dX9_joinedCount_4 : decode cX9_joinedCount 4 = .ok (.ifCond .ne 6, 3) := by decide +kernel
theorem dX9_joinedCount_7 : decode cX9_joinedCount 7 = .ok (.ldc 93, 2) := by decide +kernel
theorem dX9_joinedCount_9 : decode cX9_joinedCount 9 = .ok (.ireturn, 1) := by decide +kernel
theorem dX9_joinedCount_10 : decode cX9_joinedCount 10 = .ok (.aload_n 0, 1) := by decide +kernel
theorem dX9_joinedCount_11 : decode cX9_joinedCount 11 = .ok (.aload_n 0, 1) := by decide +kernel
theorem dX9_joinedCount_12 : decode cX9_joinedCount 12 = .ok (.iconst 0, 1) := by decide +kernel
theorem dX9_joinedCount_13 : decode cX9_joinedCount 13 = .ok (.iload_n 1, 1) := by decide +kernel
theorem dX9_joinedCount_14 : decode cX9_joinedCount 14 = .ok (.invokevirtual 202, 3) := by decide +kernel
theorem dX9_joinedCount_17 : decode cX9_joinedCount 17 = .ok (.aload_n 0, 1) := by decide +kernel
theorem dX9_joinedCount_18 : decode cX9_joinedCount 18 = .ok (.iconst 1, 1) := by decide +kernel
theorem dX9_joinedCount_19 : decode cX9_joinedCount 19 = .ok (.iload_n 1, 1) := by decide +kernel
theorem dX9_joinedCount_20 : decode cX9_joinedCount 20 = .ok (.invokevirtual 202, 3) := by decide +kernel
theorem dX9_joinedCount_23 : decode cX9_joinedCount 23 = .ok (.invokevirtual 231, 3) := by decide +kernel
theorem dX9_joinedCount_26 : decode cX9_joinedCount 26 = .ok (.aload_n 0, 1) := by decide +kernel
theorem dX9_joinedCount_27 : decode cX9_joinedCount 27 = .ok (.getfield 79, 3) := by decide +kernel
theorem dX9_joinedCount_30 : decode cX9_joinedCount 30 = .ok (.getfield 235, 3) := by decide +kernel
theorem dX9_joinedCount_33 : decode cX9_joinedCount 33 = .ok (.ireturn, 1) := by decide +kernel
set_option maxRecDepth 100000 in
theorem b_X9_joinedCount_0 {E : fxE} (hW : fx_Wt E) (a0 : Nat) (x1 : Int) (M : fxM) (Q : Option fxV → fxM → Prop) (hk0 : kd E a0 = 9) (h : (-2147483648 ≤ x1 ∧ x1 < 2147483648) ∧ (((1 : Int) ≤ x1 ∧ x1 ≤ (9 : Int) → ∃ R3 : Nat → fxM → Prop, CtA E m_X9_eventsOf [.inr a0, .inl 0, .inl x1] M R3 ∧ ∀ (v3 : Nat) (M3 : fxM), R3 v3 M3 → kd E v3 = 1 ∧ ∃ R4 : Nat → fxM → Prop, CtA E m_X9_eventsOf [.inr a0, .inl 1, .inl x1] M3 R4 ∧ ∀ (v4 : Nat) (M4 : fxM), R4 v4 M4 → kd E v4 = 1 ∧ ∃ R5 : fxM → Prop, CtV E m_X9_joinSides [.inr a0, .inr v3, .inr v4] M4 R5 ∧ ∀ M5 : fxM, R5 M5 → Q (some (.inl (M5 (rf E a0 7) 3))) M5) ∧ (¬ ((1 : Int) ≤ x1 ∧ x1 ≤ (9 : Int)) → Q (some (.inl (-1000002))) M))) : fx_At E m_X9_joinedCount 0 [some (.inr a0), some (.inl x1)] [] M Q := by
  refine x_iload_n (pc := 0) dX9_joinedCount_0 rfl rfl ?_
  obtain ⟨g1, h⟩ := h
  refine x_callS (pc := 1) (z := m_X9_isWidth) (as := [.inl x1]) (rest := []) dX9_joinedCount_1 c_RX9_183 (by decide) rfl (Nat.le_of_ble_eq_true rfl) (ct_X9_isWidth hW g1) (fun r M9 hr => ?_)
  obtain ⟨hM9, hr⟩ := hr
  rw [hM9]
  clear hM9
  obtain ⟨hc, rfl⟩ | ⟨hc, rfl⟩ := hr
  · replace h := h.1 hc
    show fx_At E m_X9_joinedCount 4 [some (.inr a0), some (.inl x1)] [.inl 1] _ Q
    refine x_zne (pc := 4) 10 dX9_joinedCount_4 (by decide) ⟨by decide, by decide⟩ (fun _ => ?_) (fun hx => absurd hx (by decide))
    refine x_aload_n (pc := 10) dX9_joinedCount_10 rfl rfl ?_
    refine x_aload_n (pc := 11) dX9_joinedCount_11 rfl rfl ?_
    refine x_iconst (pc := 12) dX9_joinedCount_12 ?_
    refine x_iload_n (pc := 13) dX9_joinedCount_13 rfl rfl ?_
    obtain ⟨R3, hc3, h⟩ := h
    refine x_callV (pc := 14) (z := m_X9_eventsOf) (b := a0) (as := [.inl 0, .inl x1]) (rest := [.inr a0]) dX9_joinedCount_14 c_RX9_202 (by decide) hk0 rfl (Nat.le_of_ble_eq_true rfl) hc3 (fun r M3 hr => ?_)
    obtain ⟨v3, rfl, hr⟩ := hr
    obtain ⟨hv3, h⟩ := h v3 M3 hr
    show fx_At E m_X9_joinedCount 17 [some (.inr a0), some (.inl x1)] [.inr v3, .inr a0] M3 Q
    refine x_aload_n (pc := 17) dX9_joinedCount_17 rfl rfl ?_
    refine x_iconst (pc := 18) dX9_joinedCount_18 ?_
    refine x_iload_n (pc := 19) dX9_joinedCount_19 rfl rfl ?_
    obtain ⟨R4, hc4, h⟩ := h
    refine x_callV (pc := 20) (z := m_X9_eventsOf) (b := a0) (as := [.inl 1, .inl x1]) (rest := [.inr v3, .inr a0]) dX9_joinedCount_20 c_RX9_202 (by decide) hk0 rfl (Nat.le_of_ble_eq_true rfl) hc4 (fun r M4 hr => ?_)
    obtain ⟨v4, rfl, hr⟩ := hr
    obtain ⟨hv4, h⟩ := h v4 M4 hr
    show fx_At E m_X9_joinedCount 23 [some (.inr a0), some (.inl x1)] [.inr v4, .inr v3, .inr a0] M4 Q
    obtain ⟨R5, hc5, h⟩ := h
    refine x_callV (pc := 23) (z := m_X9_joinSides) (b := a0) (as := [.inr v3, .inr v4]) (rest := []) dX9_joinedCount_23 c_RX9_231 (by decide) hk0 rfl (Nat.le_of_ble_eq_true rfl) hc5 (fun r M5 hr => ?_)
    obtain ⟨rfl, hr⟩ := hr
    replace h := h M5 hr
    show fx_At E m_X9_joinedCount 26 [some (.inr a0), some (.inl x1)] [] M5 Q
    refine x_aload_n (pc := 26) dX9_joinedCount_26 rfl rfl ?_
    refine x_getr (pc := 27) dX9_joinedCount_27 f_RX9_79 hk0 ?_
    refine x_geti (pc := 30) dX9_joinedCount_30 f_RX9_235 (wk_9_7 hW hk0) ?_
    exact x_iret (pc := 33) dX9_joinedCount_33 (Or.inl rfl) h
  · replace h := h.2 hc
    show fx_At E m_X9_joinedCount 4 [some (.inr a0), some (.inl x1)] [.inl 0] _ Q
    refine x_zne (pc := 4) 10 dX9_joinedCount_4 (by decide) ⟨by decide, by decide⟩ (fun hx => absurd hx (by decide)) (fun _ => ?_)
    refine x_ldc (pc := 7) (n := -1000002) dX9_joinedCount_7 k_RX9_93 rfl ?_
    exact x_iret (pc := 9) dX9_joinedCount_9 (Or.inl rfl) h
theorem dX9_joined_0 : decode cX9_joined 0 = .ok (.iload_n 1, 1) := by decide +kernel
theorem dX9_joined_1 : decode cX9_joined 1 = .ok (.invokestatic 183, 3) := by decide +kernel
theorem dX9_joined_4 : decode cX9_joined 4 = .ok (.ifCond .eq 16, 3) := by decide +kernel
theorem dX9_joined_7 : decode cX9_joined 7 = .ok (.iload_n 2, 1) := by decide +kernel
theorem dX9_joined_8 : decode cX9_joined 8 = .ok (.ifCond .lt 12, 3) := by decide +kernel
theorem dX9_joined_11 : decode cX9_joined 11 = .ok (.iload_n 3, 1) := by decide +kernel
theorem dX9_joined_12 : decode cX9_joined 12 = .ok (.iconst 0, 1) := by decide +kernel
theorem dX9_joined_13 : decode cX9_joined 13 = .ok (.iconst 3, 1) := by decide +kernel
theorem dX9_joined_14 : decode cX9_joined 14 = .ok (.invokestatic 108, 3) := by decide +kernel
theorem dX9_joined_17 : decode cX9_joined 17 = .ok (.ifCond .ne 6, 3) := by decide +kernel
theorem dX9_joined_20 : decode cX9_joined 20 = .ok (.ldc 93, 2) := by decide +kernel
theorem dX9_joined_22 : decode cX9_joined 22 = .ok (.ireturn, 1) := by decide +kernel
theorem dX9_joined_23 : decode cX9_joined 23 = .ok (.aload_n 0, 1) := by decide +kernel
theorem dX9_joined_24 : decode cX9_joined 24 = .ok (.iconst 0, 1) := by decide +kernel
theorem dX9_joined_25 : decode cX9_joined 25 = .ok (.iload_n 1, 1) := by decide +kernel
theorem dX9_joined_26 : decode cX9_joined 26 = .ok (.invokevirtual 202, 3) := by decide +kernel
theorem dX9_joined_29 : decode cX9_joined 29 = .ok (.astore 4, 2) := by decide +kernel
theorem dX9_joined_31 : decode cX9_joined 31 = .ok (.aload_n 0, 1) := by decide +kernel
theorem dX9_joined_32 : decode cX9_joined 32 = .ok (.iconst 1, 1) := by decide +kernel
theorem dX9_joined_33 : decode cX9_joined 33 = .ok (.iload_n 1, 1) := by decide +kernel
theorem dX9_joined_34 : decode cX9_joined 34 = .ok (.invokevirtual 202, 3) := by decide +kernel
theorem dX9_joined_37 : decode cX9_joined 37 = .ok (.astore 5, 2) := by decide +kernel
theorem dX9_joined_39 : decode cX9_joined 39 = .ok (.aload_n 0, 1) := by decide +kernel
theorem dX9_joined_40 : decode cX9_joined 40 = .ok (.aload 4, 2) := by decide +kernel
theorem dX9_joined_42 : decode cX9_joined 42 = .ok (.aload 5, 2) := by decide +kernel
theorem dX9_joined_44 : decode cX9_joined 44 = .ok (.invokevirtual 231, 3) := by decide +kernel
theorem dX9_joined_47 : decode cX9_joined 47 = .ok (.iload_n 2, 1) := by decide +kernel
theorem dX9_joined_48 : decode cX9_joined 48 = .ok (.aload_n 0, 1) := by decide +kernel
theorem dX9_joined_49 : decode cX9_joined 49 = .ok (.getfield 79, 3) := by decide +kernel
theorem dX9_joined_52 : decode cX9_joined 52 = .ok (.getfield 235, 3) := by decide +kernel
theorem dX9_joined_55 : decode cX9_joined 55 = .ok (.if_icmp .lt 6, 3) := by decide +kernel
theorem dX9_joined_58 : decode cX9_joined 58 = .ok (.ldc 201, 2) := by decide +kernel
theorem dX9_joined_60 : decode cX9_joined 60 = .ok (.ireturn, 1) := by decide +kernel
theorem dX9_joined_61 : decode cX9_joined 61 = .ok (.aload_n 0, 1) := by decide +kernel
theorem dX9_joined_62 : decode cX9_joined 62 = .ok (.getfield 79, 3) := by decide +kernel
theorem dX9_joined_65 : decode cX9_joined 65 = .ok (.getfield 236, 3) := by decide +kernel
theorem dX9_joined_68 : decode cX9_joined 68 = .ok (.iload_n 2, 1) := by decide +kernel
theorem dX9_joined_69 : decode cX9_joined 69 = .ok (.iaload, 1) := by decide +kernel
theorem dX9_joined_70 : decode cX9_joined 70 = .ok (.istore 6, 2) := by decide +kernel
theorem dX9_joined_72 : decode cX9_joined 72 = .ok (.aload_n 0, 1) := by decide +kernel
theorem dX9_joined_73 : decode cX9_joined 73 = .ok (.getfield 79, 3) := by decide +kernel
theorem dX9_joined_76 : decode cX9_joined 76 = .ok (.getfield 239, 3) := by decide +kernel
theorem dX9_joined_79 : decode cX9_joined 79 = .ok (.iload_n 2, 1) := by decide +kernel
theorem dX9_joined_80 : decode cX9_joined 80 = .ok (.iaload, 1) := by decide +kernel
theorem dX9_joined_81 : decode cX9_joined 81 = .ok (.istore 7, 2) := by decide +kernel
theorem dX9_joined_83 : decode cX9_joined 83 = .ok (.iload_n 3, 1) := by decide +kernel
theorem dX9_joined_84 : decode cX9_joined 84 = .ok (.tableswitch 50 0 2 #[28, 31, 34], 28) := by decide +kernel
theorem dX9_joined_112 : decode cX9_joined 112 = .ok (.iload 6, 2) := by decide +kernel
theorem dX9_joined_114 : decode cX9_joined 114 = .ok (.ireturn, 1) := by decide +kernel
theorem dX9_joined_115 : decode cX9_joined 115 = .ok (.iload 7, 2) := by decide +kernel
theorem dX9_joined_117 : decode cX9_joined 117 = .ok (.ireturn, 1) := by decide +kernel
theorem dX9_joined_118 : decode cX9_joined 118 = .ok (.aload 4, 2) := by decide +kernel
theorem dX9_joined_120 : decode cX9_joined 120 = .ok (.iload 6, 2) := by decide +kernel
theorem dX9_joined_122 : decode cX9_joined 122 = .ok (.invokevirtual 242, 3) := by decide +kernel
theorem dX9_joined_125 : decode cX9_joined 125 = .ok (.aload 5, 2) := by decide +kernel
theorem dX9_joined_127 : decode cX9_joined 127 = .ok (.iload 7, 2) := by decide +kernel
theorem dX9_joined_129 : decode cX9_joined 129 = .ok (.invokevirtual 242, 3) := by decide +kernel
theorem dX9_joined_132 : decode cX9_joined 132 = .ok (.iadd, 1) := by decide +kernel
theorem dX9_joined_133 : decode cX9_joined 133 = .ok (.ireturn, 1) := by decide +kernel
theorem dX9_joined_134 : decode cX9_joined 134 = .ok (.aload 4, 2) := by decide +kernel
theorem dX9_joined_136 : decode cX9_joined 136 = .ok (.iload 6, 2) := by decide +kernel
theorem dX9_joined_138 : decode cX9_joined 138 = .ok (.invokevirtual 242, 3) := by decide +kernel
theorem dX9_joined_141 : decode cX9_joined 141 = .ok (.aload 5, 2) := by decide +kernel
theorem dX9_joined_143 : decode cX9_joined 143 = .ok (.iload 7, 2) := by decide +kernel
theorem dX9_joined_145 : decode cX9_joined 145 = .ok (.invokevirtual 242, 3) := by decide +kernel
theorem dX9_joined_148 : decode cX9_joined 148 = .ok (.isub, 1) := by decide +kernel
theorem dX9_joined_149 : decode cX9_joined 149 = .ok (.ireturn, 1) := by decide +kernel
set_option maxRecDepth 100000 in
theorem b_X9_joined_0 {E : fxE} (hW : fx_Wt E) (a0 : Nat) (x1 : Int) (x2 : Int) (x3 : Int) (M : fxM) (Q : Option fxV → fxM → Prop) (hk0 : kd E a0 = 9) (h : (-2147483648 ≤ x1 ∧ x1 < 2147483648) ∧ (((1 : Int) ≤ x1 ∧ x1 ≤ (9 : Int) → (-2147483648 ≤ x2 ∧ x2 < 2147483648) ∧ ((x2 < (0 : Int) → Q (some (.inl (-1000002))) M) ∧ (¬ x2 < (0 : Int) → (-2147483648 ≤ x3 ∧ x3 < 2147483648) ∧ (((0 : Int) ≤ x3 ∧ x3 ≤ (3 : Int) → ∃ R6 : Nat → fxM → Prop, CtA E m_X9_eventsOf [.inr a0, .inl 0, .inl x1] M R6 ∧ ∀ (v6 : Nat) (M6 : fxM), R6 v6 M6 → kd E v6 = 1 ∧ ∃ R7 : Nat → fxM → Prop, CtA E m_X9_eventsOf [.inr a0, .inl 1, .inl x1] M6 R7 ∧ ∀ (v7 : Nat) (M7 : fxM), R7 v7 M7 → kd E v7 = 1 ∧ ∃ R8 : fxM → Prop, CtV E m_X9_joinSides [.inr a0, .inr v6, .inr v7] M7 R8 ∧ ∀ M8 : fxM, R8 M8 → (-2147483648 ≤ (M8 (rf E a0 7) 3) ∧ (M8 (rf E a0 7) 3) < 2147483648) ∧ ((x2 < (M8 (rf E a0 7) 3) → (0 ≤ x2 ∧ x2 < 200) ∧ ((x3 = 0 → Q (some (.inl (M8 (rf E (rf E a0 7) 0) (x2.toNat)))) M8) ∧ (x3 = 1 → Q (some (.inl (M8 (rf E (rf E a0 7) 1) (x2.toNat)))) M8) ∧ (x3 = 2 → (-2147483648 ≤ (M8 (rf E (rf E a0 7) 0) (x2.toNat)) ∧ (M8 (rf E (rf E a0 7) 0) (x2.toNat)) < 2147483648) ∧ (-2147483648 ≤ M8 v6 6 ∧ M8 v6 6 ≤ 200) ∧ (-2147483648 ≤ (M8 (rf E (rf E a0 7) 1) (x2.toNat)) ∧ (M8 (rf E (rf E a0 7) 1) (x2.toNat)) < 2147483648) ∧ (-2147483648 ≤ M8 v7 6 ∧ M8 v7 6 ≤ 200) ∧ Q (some (.inl ((evL E M8 v6 (M8 (rf E (rf E a0 7) 0) (x2.toNat))) + (evL E M8 v7 (M8 (rf E (rf E a0 7) 1) (x2.toNat)))))) M8) ∧ (x3 < (0 : Int) ∨ (2 : Int) < x3 → (-2147483648 ≤ (M8 (rf E (rf E a0 7) 0) (x2.toNat)) ∧ (M8 (rf E (rf E a0 7) 0) (x2.toNat)) < 2147483648) ∧ (-2147483648 ≤ M8 v6 6 ∧ M8 v6 6 ≤ 200) ∧ (-2147483648 ≤ (M8 (rf E (rf E a0 7) 1) (x2.toNat)) ∧ (M8 (rf E (rf E a0 7) 1) (x2.toNat)) < 2147483648) ∧ (-2147483648 ≤ M8 v7 6 ∧ M8 v7 6 ≤ 200) ∧ Q (some (.inl ((evL E M8 v6 (M8 (rf E (rf E a0 7) 0) (x2.toNat))) - (evL E M8 v7 (M8 (rf E (rf E a0 7) 1) (x2.toNat)))))) M8))) ∧ (¬ x2 < (M8 (rf E a0 7) 3) → Q (some (.inl (-1000005))) M8))) ∧ (¬ ((0 : Int) ≤ x3 ∧ x3 ≤ (3 : Int)) → Q (some (.inl (-1000002))) M))))) ∧ (¬ ((1 : Int) ≤ x1 ∧ x1 ≤ (9 : Int)) → Q (some (.inl (-1000002))) M))) : fx_At E m_X9_joined 0 [some (.inr a0), some (.inl x1), some (.inl x2), some (.inl x3), none, none, none, none] [] M Q := by
  refine x_iload_n (pc := 0) dX9_joined_0 rfl rfl ?_
  obtain ⟨g1, h⟩ := h
  refine x_callS (pc := 1) (z := m_X9_isWidth) (as := [.inl x1]) (rest := []) dX9_joined_1 c_RX9_183 (by decide) rfl (Nat.le_of_ble_eq_true rfl) (ct_X9_isWidth hW g1) (fun r M9 hr => ?_)
  obtain ⟨hM9, hr⟩ := hr
  rw [hM9]
  clear hM9
  obtain ⟨hc, rfl⟩ | ⟨hc, rfl⟩ := hr
  · replace h := h.1 hc
    show fx_At E m_X9_joined 4 [some (.inr a0), some (.inl x1), some (.inl x2), some (.inl x3), none, none, none, none] [.inl 1] _ Q
    refine x_zeq (pc := 4) 20 dX9_joined_4 (by decide) ⟨by decide, by decide⟩ (fun hx => absurd hx (by decide)) (fun _ => ?_)
    refine x_iload_n (pc := 7) dX9_joined_7 rfl rfl ?_
    obtain ⟨g3, h⟩ := h
    refine x_zlt (pc := 8) 20 dX9_joined_8 (by decide) g3 (fun hc => ?_) (fun hc => ?_)
    · replace h := h.1 hc
      refine x_ldc (pc := 20) (n := -1000002) dX9_joined_20 k_RX9_93 rfl ?_
      exact x_iret (pc := 22) dX9_joined_22 (Or.inl rfl) h
    · replace h := h.2 hc
      refine x_iload_n (pc := 11) dX9_joined_11 rfl rfl ?_
      refine x_iconst (pc := 12) dX9_joined_12 ?_
      refine x_iconst (pc := 13) dX9_joined_13 ?_
      obtain ⟨g4, h⟩ := h
      refine x_callS (pc := 14) (z := m_X9_isWithin) (as := [.inl x3, .inl 0, .inl 3]) (rest := []) dX9_joined_14 c_RX9_108 (by decide) rfl (Nat.le_of_ble_eq_true rfl) (ct_isWithin hW g4 ⟨by decide, by decide⟩ ⟨by decide, by decide⟩) (fun r M9 hr => ?_)
      obtain ⟨hM9, hr⟩ := hr
      rw [hM9]
      clear hM9
      obtain ⟨hc, rfl⟩ | ⟨hc, rfl⟩ := hr
      · replace h := h.1 hc
        show fx_At E m_X9_joined 17 [some (.inr a0), some (.inl x1), some (.inl x2), some (.inl x3), none, none, none, none] [.inl 1] _ Q
        refine x_zne (pc := 17) 23 dX9_joined_17 (by decide) ⟨by decide, by decide⟩ (fun _ => ?_) (fun hx => absurd hx (by decide))
        refine x_aload_n (pc := 23) dX9_joined_23 rfl rfl ?_
        refine x_iconst (pc := 24) dX9_joined_24 ?_
        refine x_iload_n (pc := 25) dX9_joined_25 rfl rfl ?_
        obtain ⟨R6, hc6, h⟩ := h
        refine x_callV (pc := 26) (z := m_X9_eventsOf) (b := a0) (as := [.inl 0, .inl x1]) (rest := []) dX9_joined_26 c_RX9_202 (by decide) hk0 rfl (Nat.le_of_ble_eq_true rfl) hc6 (fun r M6 hr => ?_)
        obtain ⟨v6, rfl, hr⟩ := hr
        obtain ⟨hv6, h⟩ := h v6 M6 hr
        show fx_At E m_X9_joined 29 [some (.inr a0), some (.inl x1), some (.inl x2), some (.inl x3), none, none, none, none] [.inr v6] M6 Q
        refine x_astore (pc := 29) (lv' := [some (.inr a0), some (.inl x1), some (.inl x2), some (.inl x3), some (.inr v6), none, none, none]) dX9_joined_29 (by decide) rfl ?_
        refine x_aload_n (pc := 31) dX9_joined_31 rfl rfl ?_
        refine x_iconst (pc := 32) dX9_joined_32 ?_
        refine x_iload_n (pc := 33) dX9_joined_33 rfl rfl ?_
        obtain ⟨R7, hc7, h⟩ := h
        refine x_callV (pc := 34) (z := m_X9_eventsOf) (b := a0) (as := [.inl 1, .inl x1]) (rest := []) dX9_joined_34 c_RX9_202 (by decide) hk0 rfl (Nat.le_of_ble_eq_true rfl) hc7 (fun r M7 hr => ?_)
        obtain ⟨v7, rfl, hr⟩ := hr
        obtain ⟨hv7, h⟩ := h v7 M7 hr
        show fx_At E m_X9_joined 37 [some (.inr a0), some (.inl x1), some (.inl x2), some (.inl x3), some (.inr v6), none, none, none] [.inr v7] M7 Q
        refine x_astore (pc := 37) (lv' := [some (.inr a0), some (.inl x1), some (.inl x2), some (.inl x3), some (.inr v6), some (.inr v7), none, none]) dX9_joined_37 (by decide) rfl ?_
        refine x_aload_n (pc := 39) dX9_joined_39 rfl rfl ?_
        refine x_aload (pc := 40) dX9_joined_40 rfl ?_
        refine x_aload (pc := 42) dX9_joined_42 rfl ?_
        obtain ⟨R8, hc8, h⟩ := h
        refine x_callV (pc := 44) (z := m_X9_joinSides) (b := a0) (as := [.inr v6, .inr v7]) (rest := []) dX9_joined_44 c_RX9_231 (by decide) hk0 rfl (Nat.le_of_ble_eq_true rfl) hc8 (fun r M8 hr => ?_)
        obtain ⟨rfl, hr⟩ := hr
        replace h := h M8 hr
        show fx_At E m_X9_joined 47 [some (.inr a0), some (.inl x1), some (.inl x2), some (.inl x3), some (.inr v6), some (.inr v7), none, none] [] M8 Q
        refine x_iload_n (pc := 47) dX9_joined_47 rfl rfl ?_
        refine x_aload_n (pc := 48) dX9_joined_48 rfl rfl ?_
        refine x_getr (pc := 49) dX9_joined_49 f_RX9_79 hk0 ?_
        refine x_geti (pc := 52) dX9_joined_52 f_RX9_235 (wk_9_7 hW hk0) ?_
        obtain ⟨g9, h⟩ := h
        refine x_clt (pc := 55) 61 dX9_joined_55 (by decide) ⟨g3, g9⟩ (fun hc => ?_) (fun hc => ?_)
        · replace h := h.1 hc
          refine x_aload_n (pc := 61) dX9_joined_61 rfl rfl ?_
          refine x_getr (pc := 62) dX9_joined_62 f_RX9_79 hk0 ?_
          refine x_getr (pc := 65) dX9_joined_65 f_RX9_236 (wk_9_7 hW hk0) ?_
          refine x_iload_n (pc := 68) dX9_joined_68 rfl rfl ?_
          obtain ⟨g10, h⟩ := h
          refine x_iald (pc := 69) dX9_joined_69 (wk_4_0 hW (wk_9_7 hW hk0)) (wl_4_0 hW (wk_9_7 hW hk0)) g10 ?_
          refine x_istore (pc := 70) (lv' := [some (.inr a0), some (.inl x1), some (.inl x2), some (.inl x3), some (.inr v6), some (.inr v7), some (.inl (M8 (rf E (rf E a0 7) 0) (x2.toNat))), none]) dX9_joined_70 (by decide) rfl ?_
          refine x_aload_n (pc := 72) dX9_joined_72 rfl rfl ?_
          refine x_getr (pc := 73) dX9_joined_73 f_RX9_79 hk0 ?_
          refine x_getr (pc := 76) dX9_joined_76 f_RX9_239 (wk_9_7 hW hk0) ?_
          refine x_iload_n (pc := 79) dX9_joined_79 rfl rfl ?_
          refine x_iald (pc := 80) dX9_joined_80 (wk_4_1 hW (wk_9_7 hW hk0)) (wl_4_1 hW (wk_9_7 hW hk0)) g10 ?_
          refine x_istore (pc := 81) (lv' := [some (.inr a0), some (.inl x1), some (.inl x2), some (.inl x3), some (.inr v6), some (.inr v7), some (.inl (M8 (rf E (rf E a0 7) 0) (x2.toNat))), some (.inl (M8 (rf E (rf E a0 7) 1) (x2.toNat)))]) dX9_joined_81 (by decide) rfl ?_
          refine x_iload_n (pc := 83) dX9_joined_83 rfl rfl ?_
          refine x_tsw (pc := 84) 134 [112, 115, 118] dX9_joined_84 g4 (by decide) (by decide) (by decide) (fun j t hj ha => ?_) (fun hc => ?_)
          · match j, hj, ha with
            | 0, hj, ha =>
              cases hj
              replace h := h.1 ha
              refine x_iload (pc := 112) dX9_joined_112 rfl ?_
              exact x_iret (pc := 114) dX9_joined_114 (Or.inl rfl) h
            | 1, hj, ha =>
              cases hj
              replace h := h.2.1 ha
              refine x_iload (pc := 115) dX9_joined_115 rfl ?_
              exact x_iret (pc := 117) dX9_joined_117 (Or.inl rfl) h
            | 2, hj, ha =>
              cases hj
              replace h := h.2.2.1 ha
              refine x_aload (pc := 118) dX9_joined_118 rfl ?_
              refine x_iload (pc := 120) dX9_joined_120 rfl ?_
              obtain ⟨g11, h⟩ := h
              obtain ⟨g12, h⟩ := h
              refine x_callV (pc := 122) (z := m_X1_lossOf) (b := v6) (as := [.inl (M8 (rf E (rf E a0 7) 0) (x2.toNat))]) (rest := []) dX9_joined_122 c_RX9_242 (by decide) hv6 rfl (Nat.le_of_ble_eq_true rfl) (ct_X1_lossOf hW hv6 g11 g12) (fun r M9 hr => ?_)
              obtain ⟨hM9, hr⟩ := hr
              rw [hM9, hr]
              clear hM9 hr
              show fx_At E m_X9_joined 125 [some (.inr a0), some (.inl x1), some (.inl x2), some (.inl x3), some (.inr v6), some (.inr v7), some (.inl (M8 (rf E (rf E a0 7) 0) (x2.toNat))), some (.inl (M8 (rf E (rf E a0 7) 1) (x2.toNat)))] [.inl (evL E M8 v6 (M8 (rf E (rf E a0 7) 0) (x2.toNat)))] _ Q
              refine x_aload (pc := 125) dX9_joined_125 rfl ?_
              refine x_iload (pc := 127) dX9_joined_127 rfl ?_
              obtain ⟨g13, h⟩ := h
              obtain ⟨g14, h⟩ := h
              refine x_callV (pc := 129) (z := m_X1_lossOf) (b := v7) (as := [.inl (M8 (rf E (rf E a0 7) 1) (x2.toNat))]) (rest := [.inl (evL E M8 v6 (M8 (rf E (rf E a0 7) 0) (x2.toNat)))]) dX9_joined_129 c_RX9_242 (by decide) hv7 rfl (Nat.le_of_ble_eq_true rfl) (ct_X1_lossOf hW hv7 g13 g14) (fun r M9 hr => ?_)
              obtain ⟨hM9, hr⟩ := hr
              rw [hM9, hr]
              clear hM9 hr
              show fx_At E m_X9_joined 132 [some (.inr a0), some (.inl x1), some (.inl x2), some (.inl x3), some (.inr v6), some (.inr v7), some (.inl (M8 (rf E (rf E a0 7) 0) (x2.toNat))), some (.inl (M8 (rf E (rf E a0 7) 1) (x2.toNat)))] [.inl (evL E M8 v7 (M8 (rf E (rf E a0 7) 1) (x2.toNat))), .inl (evL E M8 v6 (M8 (rf E (rf E a0 7) 0) (x2.toNat)))] _ Q
              refine x_iadd (pc := 132) dX9_joined_132 ?_
              exact x_iret (pc := 133) dX9_joined_133 (Or.inl rfl) h
            | j + 3, hj, ha => simp at hj
          · replace h := h.2.2.2 hc
            refine x_aload (pc := 134) dX9_joined_134 rfl ?_
            refine x_iload (pc := 136) dX9_joined_136 rfl ?_
            obtain ⟨g15, h⟩ := h
            obtain ⟨g16, h⟩ := h
            refine x_callV (pc := 138) (z := m_X1_lossOf) (b := v6) (as := [.inl (M8 (rf E (rf E a0 7) 0) (x2.toNat))]) (rest := []) dX9_joined_138 c_RX9_242 (by decide) hv6 rfl (Nat.le_of_ble_eq_true rfl) (ct_X1_lossOf hW hv6 g15 g16) (fun r M9 hr => ?_)
            obtain ⟨hM9, hr⟩ := hr
            rw [hM9, hr]
            clear hM9 hr
            show fx_At E m_X9_joined 141 [some (.inr a0), some (.inl x1), some (.inl x2), some (.inl x3), some (.inr v6), some (.inr v7), some (.inl (M8 (rf E (rf E a0 7) 0) (x2.toNat))), some (.inl (M8 (rf E (rf E a0 7) 1) (x2.toNat)))] [.inl (evL E M8 v6 (M8 (rf E (rf E a0 7) 0) (x2.toNat)))] _ Q
            refine x_aload (pc := 141) dX9_joined_141 rfl ?_
            refine x_iload (pc := 143) dX9_joined_143 rfl ?_
            obtain ⟨g17, h⟩ := h
            obtain ⟨g18, h⟩ := h
            refine x_callV (pc := 145) (z := m_X1_lossOf) (b := v7) (as := [.inl (M8 (rf E (rf E a0 7) 1) (x2.toNat))]) (rest := [.inl (evL E M8 v6 (M8 (rf E (rf E a0 7) 0) (x2.toNat)))]) dX9_joined_145 c_RX9_242 (by decide) hv7 rfl (Nat.le_of_ble_eq_true rfl) (ct_X1_lossOf hW hv7 g17 g18) (fun r M9 hr => ?_)
            obtain ⟨hM9, hr⟩ := hr
            rw [hM9, hr]
            clear hM9 hr
            show fx_At E m_X9_joined 148 [some (.inr a0), some (.inl x1), some (.inl x2), some (.inl x3), some (.inr v6), some (.inr v7), some (.inl (M8 (rf E (rf E a0 7) 0) (x2.toNat))), some (.inl (M8 (rf E (rf E a0 7) 1) (x2.toNat)))] [.inl (evL E M8 v7 (M8 (rf E (rf E a0 7) 1) (x2.toNat))), .inl (evL E M8 v6 (M8 (rf E (rf E a0 7) 0) (x2.toNat)))] _ Q
            refine x_isub (pc := 148) dX9_joined_148 ?_
            exact x_iret (pc := 149) dX9_joined_149 (Or.inl rfl) h
        · replace h := h.2 hc
          refine x_ldc (pc := 58) (n := -1000005) dX9_joined_58 k_RX9_201 rfl ?_
          exact x_iret (pc := 60) dX9_joined_60 (Or.inl rfl) h
      · replace h := h.2 hc
        show fx_At E m_X9_joined 17 [some (.inr a0), some (.inl x1), some (.inl x2), some (.inl x3), none, none, none, none] [.inl 0] _ Q
        refine x_zne (pc := 17) 23 dX9_joined_17 (by decide) ⟨by decide, by decide⟩ (fun hx => absurd hx (by decide)) (fun _ => ?_)
        refine x_ldc (pc := 20) (n := -1000002) dX9_joined_20 k_RX9_93 rfl ?_
        exact x_iret (pc := 22) dX9_joined_22 (Or.inl rfl) h
  · replace h := h.2 hc
    show fx_At E m_X9_joined 4 [some (.inr a0), some (.inl x1), some (.inl x2), some (.inl x3), none, none, none, none] [.inl 0] _ Q
    refine x_zeq (pc := 4) 20 dX9_joined_4 (by decide) ⟨by decide, by decide⟩ (fun _ => ?_) (fun hx => absurd hx (by decide))
    refine x_ldc (pc := 20) (n := -1000002) dX9_joined_20 k_RX9_93 rfl ?_
    exact x_iret (pc := 22) dX9_joined_22 (Or.inl rfl) h
theorem dX9_addPoint_0 : decode cX9_addPoint 0 = .ok (.aload_n 0, 1) := by decide +kernel
theorem dX9_addPoint_1 : decode cX9_addPoint 1 = .ok (.getfield 12, 3) := by decide +kernel
theorem dX9_addPoint_4 : decode cX9_addPoint 4 = .ok (.getfield 30, 3) := by decide +kernel
theorem dX9_addPoint_7 : decode cX9_addPoint 7 = .ok (.astore_n 3, 1) := by decide +kernel
theorem dX9_addPoint_8 : decode cX9_addPoint 8 = .ok (.iload_n 1, 1) := by decide +kernel
theorem dX9_addPoint_9 : decode cX9_addPoint 9 = .ok (.iconst 0, 1) := by decide +kernel
theorem dX9_addPoint_10 : decode cX9_addPoint 10 = .ok (.sipush 9999, 3) := by decide +kernel
theorem dX9_addPoint_13 : decode cX9_addPoint 13 = .ok (.invokestatic 108, 3) := by decide +kernel
theorem dX9_addPoint_16 : decode cX9_addPoint 16 = .ok (.ifCond .eq 13, 3) := by decide +kernel
theorem dX9_addPoint_19 : decode cX9_addPoint 19 = .ok (.iload_n 2, 1) := by decide +kernel
theorem dX9_addPoint_20 : decode cX9_addPoint 20 = .ok (.iconst 0, 1) := by decide +kernel
theorem dX9_addPoint_21 : decode cX9_addPoint 21 = .ok (.bipush 99, 2) := by decide +kernel
theorem dX9_addPoint_23 : decode cX9_addPoint 23 = .ok (.invokestatic 108, 3) := by decide +kernel
theorem dX9_addPoint_26 : decode cX9_addPoint 26 = .ok (.ifCond .ne 6, 3) := by decide +kernel
theorem dX9_addPoint_29 : decode cX9_addPoint 29 = .ok (.ldc 93, 2) := by decide +kernel
theorem dX9_addPoint_31 : decode cX9_addPoint 31 = .ok (.ireturn, 1) := by decide +kernel
theorem dX9_addPoint_32 : decode cX9_addPoint 32 = .ok (.aload_n 3, 1) := by decide +kernel
theorem dX9_addPoint_33 : decode cX9_addPoint 33 = .ok (.getfield 152, 3) := by decide +kernel
theorem dX9_addPoint_36 : decode cX9_addPoint 36 = .ok (.bipush 10, 2) := by decide +kernel
theorem dX9_addPoint_38 : decode cX9_addPoint 38 = .ok (.if_icmp .lt 6, 3) := by decide +kernel
theorem dX9_addPoint_41 : decode cX9_addPoint 41 = .ok (.ldc 107, 2) := by decide +kernel
theorem dX9_addPoint_43 : decode cX9_addPoint 43 = .ok (.ireturn, 1) := by decide +kernel
theorem dX9_addPoint_44 : decode cX9_addPoint 44 = .ok (.aload_n 3, 1) := by decide +kernel
theorem dX9_addPoint_45 : decode cX9_addPoint 45 = .ok (.getfield 152, 3) := by decide +kernel
theorem dX9_addPoint_48 : decode cX9_addPoint 48 = .ok (.ifCond .le 21, 3) := by decide +kernel
theorem dX9_addPoint_51 : decode cX9_addPoint 51 = .ok (.iload_n 1, 1) := by decide +kernel
theorem dX9_addPoint_52 : decode cX9_addPoint 52 = .ok (.aload_n 3, 1) := by decide +kernel
theorem dX9_addPoint_53 : decode cX9_addPoint 53 = .ok (.getfield 245, 3) := by decide +kernel
theorem dX9_addPoint_56 : decode cX9_addPoint 56 = .ok (.aload_n 3, 1) := by decide +kernel
theorem dX9_addPoint_57 : decode cX9_addPoint 57 = .ok (.getfield 152, 3) := by decide +kernel
theorem dX9_addPoint_60 : decode cX9_addPoint 60 = .ok (.iconst 1, 1) := by decide +kernel
theorem dX9_addPoint_61 : decode cX9_addPoint 61 = .ok (.isub, 1) := by decide +kernel
theorem dX9_addPoint_62 : decode cX9_addPoint 62 = .ok (.iaload, 1) := by decide +kernel
theorem dX9_addPoint_63 : decode cX9_addPoint 63 = .ok (.if_icmp .gt 6, 3) := by decide +kernel
theorem dX9_addPoint_66 : decode cX9_addPoint 66 = .ok (.ldc 135, 2) := by decide +kernel
theorem dX9_addPoint_68 : decode cX9_addPoint 68 = .ok (.ireturn, 1) := by decide +kernel
theorem dX9_addPoint_69 : decode cX9_addPoint 69 = .ok (.aload_n 0, 1) := by decide +kernel
theorem dX9_addPoint_70 : decode cX9_addPoint 70 = .ok (.invokevirtual 98, 3) := by decide +kernel
theorem dX9_addPoint_73 : decode cX9_addPoint 73 = .ok (.aload_n 3, 1) := by decide +kernel
theorem dX9_addPoint_74 : decode cX9_addPoint 74 = .ok (.iload_n 1, 1) := by decide +kernel
theorem dX9_addPoint_75 : decode cX9_addPoint 75 = .ok (.iload_n 2, 1) := by decide +kernel
theorem dX9_addPoint_76 : decode cX9_addPoint 76 = .ok (.invokevirtual 248, 3) := by decide +kernel
theorem dX9_addPoint_79 : decode cX9_addPoint 79 = .ok (.aload_n 3, 1) := by decide +kernel
theorem dX9_addPoint_80 : decode cX9_addPoint 80 = .ok (.getfield 152, 3) := by decide +kernel
theorem dX9_addPoint_83 : decode cX9_addPoint 83 = .ok (.iconst 1, 1) := by decide +kernel
theorem dX9_addPoint_84 : decode cX9_addPoint 84 = .ok (.isub, 1) := by decide +kernel
theorem dX9_addPoint_85 : decode cX9_addPoint 85 = .ok (.ireturn, 1) := by decide +kernel
set_option maxRecDepth 100000 in
theorem b_X9_addPoint_0 {E : fxE} (hW : fx_Wt E) (a0 : Nat) (x1 : Int) (x2 : Int) (M : fxM) (Q : Option fxV → fxM → Prop) (hk0 : kd E a0 = 9) (h : (-2147483648 ≤ x1 ∧ x1 < 2147483648) ∧ (((0 : Int) ≤ x1 ∧ x1 ≤ (9999 : Int) → (-2147483648 ≤ x2 ∧ x2 < 2147483648) ∧ (((0 : Int) ≤ x2 ∧ x2 ≤ (99 : Int) → (-2147483648 ≤ (M (rf E (rf E a0 0) 1) 2) ∧ (M (rf E (rf E a0 0) 1) 2) < 2147483648) ∧ (((M (rf E (rf E a0 0) 1) 2) < (10 : Int) → (((M (rf E (rf E a0 0) 1) 2) ≤ (0 : Int) → ∃ R6 : fxM → Prop, CtV E m_X9_recordChange [.inr a0] M R6 ∧ ∀ M6 : fxM, R6 M6 → ∃ R7 : fxM → Prop, CtV E m_X0_append [.inr (rf E (rf E a0 0) 1), .inl x1, .inl x2] M6 R7 ∧ ∀ M7 : fxM, R7 M7 → Q (some (.inl ((M7 (rf E (rf E a0 0) 1) 2) - 1))) M7) ∧ (¬ (M (rf E (rf E a0 0) 1) 2) ≤ (0 : Int) → (0 ≤ ((M (rf E (rf E a0 0) 1) 2) - 1) ∧ ((M (rf E (rf E a0 0) 1) 2) - 1) < 10) ∧ (-2147483648 ≤ (M (rf E (rf E (rf E a0 0) 1) 0) (((M (rf E (rf E a0 0) 1) 2) - 1).toNat)) ∧ (M (rf E (rf E (rf E a0 0) 1) 0) (((M (rf E (rf E a0 0) 1) 2) - 1).toNat)) < 2147483648) ∧ (((M (rf E (rf E (rf E a0 0) 1) 0) (((M (rf E (rf E a0 0) 1) 2) - 1).toNat)) < x1 → ∃ R10 : fxM → Prop, CtV E m_X9_recordChange [.inr a0] M R10 ∧ ∀ M10 : fxM, R10 M10 → ∃ R11 : fxM → Prop, CtV E m_X0_append [.inr (rf E (rf E a0 0) 1), .inl x1, .inl x2] M10 R11 ∧ ∀ M11 : fxM, R11 M11 → Q (some (.inl ((M11 (rf E (rf E a0 0) 1) 2) - 1))) M11) ∧ (¬ (M (rf E (rf E (rf E a0 0) 1) 0) (((M (rf E (rf E a0 0) 1) 2) - 1).toNat)) < x1 → Q (some (.inl (-1000004))) M))))) ∧ (¬ (M (rf E (rf E a0 0) 1) 2) < (10 : Int) → Q (some (.inl (-1000003))) M))) ∧ (¬ ((0 : Int) ≤ x2 ∧ x2 ≤ (99 : Int)) → Q (some (.inl (-1000002))) M))) ∧ (¬ ((0 : Int) ≤ x1 ∧ x1 ≤ (9999 : Int)) → Q (some (.inl (-1000002))) M))) : fx_At E m_X9_addPoint 0 [some (.inr a0), some (.inl x1), some (.inl x2), none] [] M Q := by
  refine x_aload_n (pc := 0) dX9_addPoint_0 rfl rfl ?_
  refine x_getr (pc := 1) dX9_addPoint_1 f_RX9_12 hk0 ?_
  refine x_getr (pc := 4) dX9_addPoint_4 f_RX9_30 (wk_9_0 hW hk0) ?_
  refine x_astore_n (pc := 7) (lv' := [some (.inr a0), some (.inl x1), some (.inl x2), some (.inr (rf E (rf E a0 0) 1))]) dX9_addPoint_7 rfl (by decide) rfl ?_
  refine x_iload_n (pc := 8) dX9_addPoint_8 rfl rfl ?_
  refine x_iconst (pc := 9) dX9_addPoint_9 ?_
  refine x_sipush (pc := 10) dX9_addPoint_10 (by decide +kernel) ?_
  obtain ⟨g1, h⟩ := h
  refine x_callS (pc := 13) (z := m_X9_isWithin) (as := [.inl x1, .inl 0, .inl 9999]) (rest := []) dX9_addPoint_13 c_RX9_108 (by decide) rfl (Nat.le_of_ble_eq_true rfl) (ct_isWithin hW g1 ⟨by decide, by decide⟩ ⟨by decide, by decide⟩) (fun r M9 hr => ?_)
  obtain ⟨hM9, hr⟩ := hr
  rw [hM9]
  clear hM9
  obtain ⟨hc, rfl⟩ | ⟨hc, rfl⟩ := hr
  · replace h := h.1 hc
    show fx_At E m_X9_addPoint 16 [some (.inr a0), some (.inl x1), some (.inl x2), some (.inr (rf E (rf E a0 0) 1))] [.inl 1] _ Q
    refine x_zeq (pc := 16) 29 dX9_addPoint_16 (by decide) ⟨by decide, by decide⟩ (fun hx => absurd hx (by decide)) (fun _ => ?_)
    refine x_iload_n (pc := 19) dX9_addPoint_19 rfl rfl ?_
    refine x_iconst (pc := 20) dX9_addPoint_20 ?_
    refine x_bipush (pc := 21) dX9_addPoint_21 (by decide +kernel) ?_
    obtain ⟨g3, h⟩ := h
    refine x_callS (pc := 23) (z := m_X9_isWithin) (as := [.inl x2, .inl 0, .inl 99]) (rest := []) dX9_addPoint_23 c_RX9_108 (by decide) rfl (Nat.le_of_ble_eq_true rfl) (ct_isWithin hW g3 ⟨by decide, by decide⟩ ⟨by decide, by decide⟩) (fun r M9 hr => ?_)
    obtain ⟨hM9, hr⟩ := hr
    rw [hM9]
    clear hM9
    obtain ⟨hc, rfl⟩ | ⟨hc, rfl⟩ := hr
    · replace h := h.1 hc
      show fx_At E m_X9_addPoint 26 [some (.inr a0), some (.inl x1), some (.inl x2), some (.inr (rf E (rf E a0 0) 1))] [.inl 1] _ Q
      refine x_zne (pc := 26) 32 dX9_addPoint_26 (by decide) ⟨by decide, by decide⟩ (fun _ => ?_) (fun hx => absurd hx (by decide))
      refine x_aload_n (pc := 32) dX9_addPoint_32 rfl rfl ?_
      refine x_geti (pc := 33) dX9_addPoint_33 f_RX9_152 (wk_5_1 hW (wk_9_0 hW hk0)) ?_
      refine x_bipush (pc := 36) dX9_addPoint_36 (by decide +kernel) ?_
      obtain ⟨g5, h⟩ := h
      refine x_clt (pc := 38) 44 dX9_addPoint_38 (by decide) ⟨g5, ⟨by decide, by decide⟩⟩ (fun hc => ?_) (fun hc => ?_)
      · replace h := h.1 hc
        refine x_aload_n (pc := 44) dX9_addPoint_44 rfl rfl ?_
        refine x_geti (pc := 45) dX9_addPoint_45 f_RX9_152 (wk_5_1 hW (wk_9_0 hW hk0)) ?_
        refine x_zle (pc := 48) 69 dX9_addPoint_48 (by decide) g5 (fun hc => ?_) (fun hc => ?_)
        · replace h := h.1 hc
          refine x_aload_n (pc := 69) dX9_addPoint_69 rfl rfl ?_
          obtain ⟨R6, hc6, h⟩ := h
          refine x_callV (pc := 70) (z := m_X9_recordChange) (b := a0) (as := []) (rest := []) dX9_addPoint_70 c_RX9_98 (by decide) hk0 rfl (Nat.le_of_ble_eq_true rfl) hc6 (fun r M6 hr => ?_)
          obtain ⟨rfl, hr⟩ := hr
          replace h := h M6 hr
          show fx_At E m_X9_addPoint 73 [some (.inr a0), some (.inl x1), some (.inl x2), some (.inr (rf E (rf E a0 0) 1))] [] M6 Q
          refine x_aload_n (pc := 73) dX9_addPoint_73 rfl rfl ?_
          refine x_iload_n (pc := 74) dX9_addPoint_74 rfl rfl ?_
          refine x_iload_n (pc := 75) dX9_addPoint_75 rfl rfl ?_
          obtain ⟨R7, hc7, h⟩ := h
          refine x_callV (pc := 76) (z := m_X0_append) (b := (rf E (rf E a0 0) 1)) (as := [.inl x1, .inl x2]) (rest := []) dX9_addPoint_76 c_RX9_248 (by decide) (wk_5_1 hW (wk_9_0 hW hk0)) rfl (Nat.le_of_ble_eq_true rfl) hc7 (fun r M7 hr => ?_)
          obtain ⟨rfl, hr⟩ := hr
          replace h := h M7 hr
          show fx_At E m_X9_addPoint 79 [some (.inr a0), some (.inl x1), some (.inl x2), some (.inr (rf E (rf E a0 0) 1))] [] M7 Q
          refine x_aload_n (pc := 79) dX9_addPoint_79 rfl rfl ?_
          refine x_geti (pc := 80) dX9_addPoint_80 f_RX9_152 (wk_5_1 hW (wk_9_0 hW hk0)) ?_
          refine x_iconst (pc := 83) dX9_addPoint_83 ?_
          refine x_isub (pc := 84) dX9_addPoint_84 ?_
          exact x_iret (pc := 85) dX9_addPoint_85 (Or.inl rfl) h
        · replace h := h.2 hc
          refine x_iload_n (pc := 51) dX9_addPoint_51 rfl rfl ?_
          refine x_aload_n (pc := 52) dX9_addPoint_52 rfl rfl ?_
          refine x_getr (pc := 53) dX9_addPoint_53 f_RX9_245 (wk_5_1 hW (wk_9_0 hW hk0)) ?_
          refine x_aload_n (pc := 56) dX9_addPoint_56 rfl rfl ?_
          refine x_geti (pc := 57) dX9_addPoint_57 f_RX9_152 (wk_5_1 hW (wk_9_0 hW hk0)) ?_
          refine x_iconst (pc := 60) dX9_addPoint_60 ?_
          refine x_isub (pc := 61) dX9_addPoint_61 ?_
          obtain ⟨g8, h⟩ := h
          refine x_iald (pc := 62) dX9_addPoint_62 (wk_0_0 hW (wk_5_1 hW (wk_9_0 hW hk0))) (wl_0_0 hW (wk_5_1 hW (wk_9_0 hW hk0))) g8 ?_
          obtain ⟨g9, h⟩ := h
          refine x_cgt (pc := 63) 69 dX9_addPoint_63 (by decide) ⟨g1, g9⟩ (fun hc => ?_) (fun hc => ?_)
          · replace h := h.1 hc
            refine x_aload_n (pc := 69) dX9_addPoint_69 rfl rfl ?_
            obtain ⟨R10, hc10, h⟩ := h
            refine x_callV (pc := 70) (z := m_X9_recordChange) (b := a0) (as := []) (rest := []) dX9_addPoint_70 c_RX9_98 (by decide) hk0 rfl (Nat.le_of_ble_eq_true rfl) hc10 (fun r M10 hr => ?_)
            obtain ⟨rfl, hr⟩ := hr
            replace h := h M10 hr
            show fx_At E m_X9_addPoint 73 [some (.inr a0), some (.inl x1), some (.inl x2), some (.inr (rf E (rf E a0 0) 1))] [] M10 Q
            refine x_aload_n (pc := 73) dX9_addPoint_73 rfl rfl ?_
            refine x_iload_n (pc := 74) dX9_addPoint_74 rfl rfl ?_
            refine x_iload_n (pc := 75) dX9_addPoint_75 rfl rfl ?_
            obtain ⟨R11, hc11, h⟩ := h
            refine x_callV (pc := 76) (z := m_X0_append) (b := (rf E (rf E a0 0) 1)) (as := [.inl x1, .inl x2]) (rest := []) dX9_addPoint_76 c_RX9_248 (by decide) (wk_5_1 hW (wk_9_0 hW hk0)) rfl (Nat.le_of_ble_eq_true rfl) hc11 (fun r M11 hr => ?_)
            obtain ⟨rfl, hr⟩ := hr
            replace h := h M11 hr
            show fx_At E m_X9_addPoint 79 [some (.inr a0), some (.inl x1), some (.inl x2), some (.inr (rf E (rf E a0 0) 1))] [] M11 Q
            refine x_aload_n (pc := 79) dX9_addPoint_79 rfl rfl ?_
            refine x_geti (pc := 80) dX9_addPoint_80 f_RX9_152 (wk_5_1 hW (wk_9_0 hW hk0)) ?_
            refine x_iconst (pc := 83) dX9_addPoint_83 ?_
            refine x_isub (pc := 84) dX9_addPoint_84 ?_
            exact x_iret (pc := 85) dX9_addPoint_85 (Or.inl rfl) h
          · replace h := h.2 hc
            refine x_ldc (pc := 66) (n := -1000004) dX9_addPoint_66 k_RX9_135 rfl ?_
            exact x_iret (pc := 68) dX9_addPoint_68 (Or.inl rfl) h
      · replace h := h.2 hc
        refine x_ldc (pc := 41) (n := -1000003) dX9_addPoint_41 k_RX9_107 rfl ?_
        exact x_iret (pc := 43) dX9_addPoint_43 (Or.inl rfl) h
    · replace h := h.2 hc
      show fx_At E m_X9_addPoint 26 [some (.inr a0), some (.inl x1), some (.inl x2), some (.inr (rf E (rf E a0 0) 1))] [.inl 0] _ Q
      refine x_zne (pc := 26) 32 dX9_addPoint_26 (by decide) ⟨by decide, by decide⟩ (fun hx => absurd hx (by decide)) (fun _ => ?_)
      refine x_ldc (pc := 29) (n := -1000002) dX9_addPoint_29 k_RX9_93 rfl ?_
      exact x_iret (pc := 31) dX9_addPoint_31 (Or.inl rfl) h
  · replace h := h.2 hc
    show fx_At E m_X9_addPoint 16 [some (.inr a0), some (.inl x1), some (.inl x2), some (.inr (rf E (rf E a0 0) 1))] [.inl 0] _ Q
    refine x_zeq (pc := 16) 29 dX9_addPoint_16 (by decide) ⟨by decide, by decide⟩ (fun _ => ?_) (fun hx => absurd hx (by decide))
    refine x_ldc (pc := 29) (n := -1000002) dX9_addPoint_29 k_RX9_93 rfl ?_
    exact x_iret (pc := 31) dX9_addPoint_31 (Or.inl rfl) h
theorem dX9_clearMap_0 : decode cX9_clearMap 0 = .ok (.aload_n 0, 1) := by decide +kernel
theorem dX9_clearMap_1 : decode cX9_clearMap 1 = .ok (.getfield 12, 3) := by decide +kernel
theorem dX9_clearMap_4 : decode cX9_clearMap 4 = .ok (.getfield 30, 3) := by decide +kernel
theorem dX9_clearMap_7 : decode cX9_clearMap 7 = .ok (.getfield 152, 3) := by decide +kernel
theorem dX9_clearMap_10 : decode cX9_clearMap 10 = .ok (.istore_n 1, 1) := by decide +kernel
theorem dX9_clearMap_11 : decode cX9_clearMap 11 = .ok (.aload_n 0, 1) := by decide +kernel
theorem dX9_clearMap_12 : decode cX9_clearMap 12 = .ok (.invokevirtual 98, 3) := by decide +kernel
theorem dX9_clearMap_15 : decode cX9_clearMap 15 = .ok (.aload_n 0, 1) := by decide +kernel
theorem dX9_clearMap_16 : decode cX9_clearMap 16 = .ok (.getfield 12, 3) := by decide +kernel
theorem dX9_clearMap_19 : decode cX9_clearMap 19 = .ok (.getfield 30, 3) := by decide +kernel
theorem dX9_clearMap_22 : decode cX9_clearMap 22 = .ok (.iconst 0, 1) := by decide +kernel
theorem dX9_clearMap_23 : decode cX9_clearMap 23 = .ok (.putfield 152, 3) := by decide +kernel
theorem dX9_clearMap_26 : decode cX9_clearMap 26 = .ok (.iload_n 1, 1) := by decide +kernel
theorem dX9_clearMap_27 : decode cX9_clearMap 27 = .ok (.ireturn, 1) := by decide +kernel
set_option maxRecDepth 100000 in
theorem b_X9_clearMap_0 {E : fxE} (hW : fx_Wt E) (a0 : Nat) (M : fxM) (Q : Option fxV → fxM → Prop) (hk0 : kd E a0 = 9) (h : ∃ R1 : fxM → Prop, CtV E m_X9_recordChange [.inr a0] M R1 ∧ ∀ M1 : fxM, R1 M1 → ∀ M2 : fxM, M2 = mset M1 (rf E (rf E a0 0) 1) 2 0 → Q (some (.inl (M (rf E (rf E a0 0) 1) 2))) M2) : fx_At E m_X9_clearMap 0 [some (.inr a0), none] [] M Q := by
  refine x_aload_n (pc := 0) dX9_clearMap_0 rfl rfl ?_
  refine x_getr (pc := 1) dX9_clearMap_1 f_RX9_12 hk0 ?_
  refine x_getr (pc := 4) dX9_clearMap_4 f_RX9_30 (wk_9_0 hW hk0) ?_
  refine x_geti (pc := 7) dX9_clearMap_7 f_RX9_152 (wk_5_1 hW (wk_9_0 hW hk0)) ?_
  refine x_istore_n (pc := 10) (lv' := [some (.inr a0), some (.inl (M (rf E (rf E a0 0) 1) 2))]) dX9_clearMap_10 rfl (by decide) rfl ?_
  refine x_aload_n (pc := 11) dX9_clearMap_11 rfl rfl ?_
  obtain ⟨R1, hc1, h⟩ := h
  refine x_callV (pc := 12) (z := m_X9_recordChange) (b := a0) (as := []) (rest := []) dX9_clearMap_12 c_RX9_98 (by decide) hk0 rfl (Nat.le_of_ble_eq_true rfl) hc1 (fun r M1 hr => ?_)
  obtain ⟨rfl, hr⟩ := hr
  replace h := h M1 hr
  show fx_At E m_X9_clearMap 15 [some (.inr a0), some (.inl (M (rf E (rf E a0 0) 1) 2))] [] M1 Q
  refine x_aload_n (pc := 15) dX9_clearMap_15 rfl rfl ?_
  refine x_getr (pc := 16) dX9_clearMap_16 f_RX9_12 hk0 ?_
  refine x_getr (pc := 19) dX9_clearMap_19 f_RX9_30 (wk_9_0 hW hk0) ?_
  refine x_iconst (pc := 22) dX9_clearMap_22 ?_
  refine x_puti (pc := 23) dX9_clearMap_23 f_RX9_152 (wk_5_1 hW (wk_9_0 hW hk0)) (fun M2 hM2 => ?_)
  replace h := h M2 hM2
  refine x_iload_n (pc := 26) dX9_clearMap_26 rfl rfl ?_
  exact x_iret (pc := 27) dX9_clearMap_27 (Or.inl rfl) h
theorem dX9_setExcess_0 : decode cX9_setExcess 0 = .ok (.iload_n 1, 1) := by decide +kernel
theorem dX9_setExcess_1 : decode cX9_setExcess 1 = .ok (.iconst 0, 1) := by decide +kernel
theorem dX9_setExcess_2 : decode cX9_setExcess 2 = .ok (.bipush 100, 2) := by decide +kernel
theorem dX9_setExcess_4 : decode cX9_setExcess 4 = .ok (.invokestatic 108, 3) := by decide +kernel
theorem dX9_setExcess_7 : decode cX9_setExcess 7 = .ok (.ifCond .ne 6, 3) := by decide +kernel
theorem dX9_setExcess_10 : decode cX9_setExcess 10 = .ok (.ldc 93, 2) := by decide +kernel
theorem dX9_setExcess_12 : decode cX9_setExcess 12 = .ok (.ireturn, 1) := by decide +kernel
theorem dX9_setExcess_13 : decode cX9_setExcess 13 = .ok (.aload_n 0, 1) := by decide +kernel
theorem dX9_setExcess_14 : decode cX9_setExcess 14 = .ok (.getfield 12, 3) := by decide +kernel
theorem dX9_setExcess_17 : decode cX9_setExcess 17 = .ok (.getfield 30, 3) := by decide +kernel
theorem dX9_setExcess_20 : decode cX9_setExcess 20 = .ok (.getfield 34, 3) := by decide +kernel
theorem dX9_setExcess_23 : decode cX9_setExcess 23 = .ok (.istore_n 2, 1) := by decide +kernel
theorem dX9_setExcess_24 : decode cX9_setExcess 24 = .ok (.aload_n 0, 1) := by decide +kernel
theorem dX9_setExcess_25 : decode cX9_setExcess 25 = .ok (.invokevirtual 98, 3) := by decide +kernel
theorem dX9_setExcess_28 : decode cX9_setExcess 28 = .ok (.aload_n 0, 1) := by decide +kernel
theorem dX9_setExcess_29 : decode cX9_setExcess 29 = .ok (.getfield 12, 3) := by decide +kernel
theorem dX9_setExcess_32 : decode cX9_setExcess 32 = .ok (.getfield 30, 3) := by decide +kernel
theorem dX9_setExcess_35 : decode cX9_setExcess 35 = .ok (.iload_n 1, 1) := by decide +kernel
theorem dX9_setExcess_36 : decode cX9_setExcess 36 = .ok (.putfield 34, 3) := by decide +kernel
theorem dX9_setExcess_39 : decode cX9_setExcess 39 = .ok (.iload_n 2, 1) := by decide +kernel
theorem dX9_setExcess_40 : decode cX9_setExcess 40 = .ok (.ireturn, 1) := by decide +kernel
set_option maxRecDepth 100000 in
theorem b_X9_setExcess_0 {E : fxE} (hW : fx_Wt E) (a0 : Nat) (x1 : Int) (M : fxM) (Q : Option fxV → fxM → Prop) (hk0 : kd E a0 = 9) (h : (-2147483648 ≤ x1 ∧ x1 < 2147483648) ∧ (((0 : Int) ≤ x1 ∧ x1 ≤ (100 : Int) → ∃ R3 : fxM → Prop, CtV E m_X9_recordChange [.inr a0] M R3 ∧ ∀ M3 : fxM, R3 M3 → ∀ M4 : fxM, M4 = mset M3 (rf E (rf E a0 0) 1) 3 x1 → Q (some (.inl (M (rf E (rf E a0 0) 1) 3))) M4) ∧ (¬ ((0 : Int) ≤ x1 ∧ x1 ≤ (100 : Int)) → Q (some (.inl (-1000002))) M))) : fx_At E m_X9_setExcess 0 [some (.inr a0), some (.inl x1), none] [] M Q := by
  refine x_iload_n (pc := 0) dX9_setExcess_0 rfl rfl ?_
  refine x_iconst (pc := 1) dX9_setExcess_1 ?_
  refine x_bipush (pc := 2) dX9_setExcess_2 (by decide +kernel) ?_
  obtain ⟨g1, h⟩ := h
  refine x_callS (pc := 4) (z := m_X9_isWithin) (as := [.inl x1, .inl 0, .inl 100]) (rest := []) dX9_setExcess_4 c_RX9_108 (by decide) rfl (Nat.le_of_ble_eq_true rfl) (ct_isWithin hW g1 ⟨by decide, by decide⟩ ⟨by decide, by decide⟩) (fun r M9 hr => ?_)
  obtain ⟨hM9, hr⟩ := hr
  rw [hM9]
  clear hM9
  obtain ⟨hc, rfl⟩ | ⟨hc, rfl⟩ := hr
  · replace h := h.1 hc
    show fx_At E m_X9_setExcess 7 [some (.inr a0), some (.inl x1), none] [.inl 1] _ Q
    refine x_zne (pc := 7) 13 dX9_setExcess_7 (by decide) ⟨by decide, by decide⟩ (fun _ => ?_) (fun hx => absurd hx (by decide))
    refine x_aload_n (pc := 13) dX9_setExcess_13 rfl rfl ?_
    refine x_getr (pc := 14) dX9_setExcess_14 f_RX9_12 hk0 ?_
    refine x_getr (pc := 17) dX9_setExcess_17 f_RX9_30 (wk_9_0 hW hk0) ?_
    refine x_geti (pc := 20) dX9_setExcess_20 f_RX9_34 (wk_5_1 hW (wk_9_0 hW hk0)) ?_
    refine x_istore_n (pc := 23) (lv' := [some (.inr a0), some (.inl x1), some (.inl (M (rf E (rf E a0 0) 1) 3))]) dX9_setExcess_23 rfl (by decide) rfl ?_
    refine x_aload_n (pc := 24) dX9_setExcess_24 rfl rfl ?_
    obtain ⟨R3, hc3, h⟩ := h
    refine x_callV (pc := 25) (z := m_X9_recordChange) (b := a0) (as := []) (rest := []) dX9_setExcess_25 c_RX9_98 (by decide) hk0 rfl (Nat.le_of_ble_eq_true rfl) hc3 (fun r M3 hr => ?_)
    obtain ⟨rfl, hr⟩ := hr
    replace h := h M3 hr
    show fx_At E m_X9_setExcess 28 [some (.inr a0), some (.inl x1), some (.inl (M (rf E (rf E a0 0) 1) 3))] [] M3 Q
    refine x_aload_n (pc := 28) dX9_setExcess_28 rfl rfl ?_
    refine x_getr (pc := 29) dX9_setExcess_29 f_RX9_12 hk0 ?_
    refine x_getr (pc := 32) dX9_setExcess_32 f_RX9_30 (wk_9_0 hW hk0) ?_
    refine x_iload_n (pc := 35) dX9_setExcess_35 rfl rfl ?_
    refine x_puti (pc := 36) dX9_setExcess_36 f_RX9_34 (wk_5_1 hW (wk_9_0 hW hk0)) (fun M4 hM4 => ?_)
    replace h := h M4 hM4
    refine x_iload_n (pc := 39) dX9_setExcess_39 rfl rfl ?_
    exact x_iret (pc := 40) dX9_setExcess_40 (Or.inl rfl) h
  · replace h := h.2 hc
    show fx_At E m_X9_setExcess 7 [some (.inr a0), some (.inl x1), none] [.inl 0] _ Q
    refine x_zne (pc := 7) 13 dX9_setExcess_7 (by decide) ⟨by decide, by decide⟩ (fun hx => absurd hx (by decide)) (fun _ => ?_)
    refine x_ldc (pc := 10) (n := -1000002) dX9_setExcess_10 k_RX9_93 rfl ?_
    exact x_iret (pc := 12) dX9_setExcess_12 (Or.inl rfl) h
theorem dX9_point_0 : decode cX9_point 0 = .ok (.aload_n 0, 1) := by decide +kernel
theorem dX9_point_1 : decode cX9_point 1 = .ok (.getfield 12, 3) := by decide +kernel
theorem dX9_point_4 : decode cX9_point 4 = .ok (.getfield 30, 3) := by decide +kernel
theorem dX9_point_7 : decode cX9_point 7 = .ok (.astore_n 3, 1) := by decide +kernel
theorem dX9_point_8 : decode cX9_point 8 = .ok (.iload_n 1, 1) := by decide +kernel
theorem dX9_point_9 : decode cX9_point 9 = .ok (.iconst 0, 1) := by decide +kernel
theorem dX9_point_10 : decode cX9_point 10 = .ok (.aload_n 3, 1) := by decide +kernel
theorem dX9_point_11 : decode cX9_point 11 = .ok (.getfield 152, 3) := by decide +kernel
theorem dX9_point_14 : decode cX9_point 14 = .ok (.iconst 1, 1) := by decide +kernel
theorem dX9_point_15 : decode cX9_point 15 = .ok (.isub, 1) := by decide +kernel
theorem dX9_point_16 : decode cX9_point 16 = .ok (.invokestatic 108, 3) := by decide +kernel
theorem dX9_point_19 : decode cX9_point 19 = .ok (.ifCond .ne 6, 3) := by decide +kernel
theorem dX9_point_22 : decode cX9_point 22 = .ok (.ldc 111, 2) := by decide +kernel
theorem dX9_point_24 : decode cX9_point 24 = .ok (.ireturn, 1) := by decide +kernel
theorem dX9_point_25 : decode cX9_point 25 = .ok (.iload_n 2, 1) := by decide +kernel
theorem dX9_point_26 : decode cX9_point 26 = .ok (.tableswitch 46 0 2 #[26, 33, 40], 26) := by decide +kernel
theorem dX9_point_52 : decode cX9_point 52 = .ok (.aload_n 3, 1) := by decide +kernel
theorem dX9_point_53 : decode cX9_point 53 = .ok (.getfield 245, 3) := by decide +kernel
theorem dX9_point_56 : decode cX9_point 56 = .ok (.iload_n 1, 1) := by decide +kernel
theorem dX9_point_57 : decode cX9_point 57 = .ok (.iaload, 1) := by decide +kernel
theorem dX9_point_58 : decode cX9_point 58 = .ok (.ireturn, 1) := by decide +kernel
theorem dX9_point_59 : decode cX9_point 59 = .ok (.aload_n 3, 1) := by decide +kernel
theorem dX9_point_60 : decode cX9_point 60 = .ok (.getfield 250, 3) := by decide +kernel
theorem dX9_point_63 : decode cX9_point 63 = .ok (.iload_n 1, 1) := by decide +kernel
theorem dX9_point_64 : decode cX9_point 64 = .ok (.iaload, 1) := by decide +kernel
theorem dX9_point_65 : decode cX9_point 65 = .ok (.ireturn, 1) := by decide +kernel
theorem dX9_point_66 : decode cX9_point 66 = .ok (.aload_n 3, 1) := by decide +kernel
theorem dX9_point_67 : decode cX9_point 67 = .ok (.iload_n 1, 1) := by decide +kernel
theorem dX9_point_68 : decode cX9_point 68 = .ok (.invokevirtual 253, 3) := by decide +kernel
theorem dX9_point_71 : decode cX9_point 71 = .ok (.ireturn, 1) := by decide +kernel
theorem dX9_point_72 : decode cX9_point 72 = .ok (.ldc 93, 2) := by decide +kernel
theorem dX9_point_74 : decode cX9_point 74 = .ok (.ireturn, 1) := by decide +kernel
set_option maxRecDepth 100000 in
theorem b_X9_point_0 {E : fxE} (hW : fx_Wt E) (a0 : Nat) (x1 : Int) (x2 : Int) (M : fxM) (Q : Option fxV → fxM → Prop) (hk0 : kd E a0 = 9) (h : (-2147483648 ≤ x1 ∧ x1 < 2147483648) ∧ (-2147483648 ≤ ((M (rf E (rf E a0 0) 1) 2) - 1) ∧ ((M (rf E (rf E a0 0) 1) 2) - 1) < 2147483648) ∧ (((0 : Int) ≤ x1 ∧ x1 ≤ ((M (rf E (rf E a0 0) 1) 2) - 1) → (-2147483648 ≤ x2 ∧ x2 < 2147483648) ∧ ((x2 = 0 → (0 ≤ x1 ∧ x1 < 10) ∧ Q (some (.inl (M (rf E (rf E (rf E a0 0) 1) 0) (x1.toNat)))) M) ∧ (x2 = 1 → (0 ≤ x1 ∧ x1 < 10) ∧ Q (some (.inl (M (rf E (rf E (rf E a0 0) 1) 1) (x1.toNat)))) M) ∧ (x2 = 2 → ∃ R7 : Int → fxM → Prop, CtI E m_X0_reachOf [.inr (rf E (rf E a0 0) 1), .inl x1] M R7 ∧ ∀ (v7 : Int) (M7 : fxM), R7 v7 M7 → Q (some (.inl v7)) M7) ∧ (x2 < (0 : Int) ∨ (2 : Int) < x2 → Q (some (.inl (-1000002))) M))) ∧ (¬ ((0 : Int) ≤ x1 ∧ x1 ≤ ((M (rf E (rf E a0 0) 1) 2) - 1)) → Q (some (.inl (-1000001))) M))) : fx_At E m_X9_point 0 [some (.inr a0), some (.inl x1), some (.inl x2), none] [] M Q := by
  refine x_aload_n (pc := 0) dX9_point_0 rfl rfl ?_
  refine x_getr (pc := 1) dX9_point_1 f_RX9_12 hk0 ?_
  refine x_getr (pc := 4) dX9_point_4 f_RX9_30 (wk_9_0 hW hk0) ?_
  refine x_astore_n (pc := 7) (lv' := [some (.inr a0), some (.inl x1), some (.inl x2), some (.inr (rf E (rf E a0 0) 1))]) dX9_point_7 rfl (by decide) rfl ?_
  refine x_iload_n (pc := 8) dX9_point_8 rfl rfl ?_
  refine x_iconst (pc := 9) dX9_point_9 ?_
  refine x_aload_n (pc := 10) dX9_point_10 rfl rfl ?_
  refine x_geti (pc := 11) dX9_point_11 f_RX9_152 (wk_5_1 hW (wk_9_0 hW hk0)) ?_
  refine x_iconst (pc := 14) dX9_point_14 ?_
  refine x_isub (pc := 15) dX9_point_15 ?_
  obtain ⟨g1, h⟩ := h
  obtain ⟨g2, h⟩ := h
  refine x_callS (pc := 16) (z := m_X9_isWithin) (as := [.inl x1, .inl 0, .inl ((M (rf E (rf E a0 0) 1) 2) - 1)]) (rest := []) dX9_point_16 c_RX9_108 (by decide) rfl (Nat.le_of_ble_eq_true rfl) (ct_isWithin hW g1 ⟨by decide, by decide⟩ g2) (fun r M9 hr => ?_)
  obtain ⟨hM9, hr⟩ := hr
  rw [hM9]
  clear hM9
  obtain ⟨hc, rfl⟩ | ⟨hc, rfl⟩ := hr
  · replace h := h.1 hc
    show fx_At E m_X9_point 19 [some (.inr a0), some (.inl x1), some (.inl x2), some (.inr (rf E (rf E a0 0) 1))] [.inl 1] _ Q
    refine x_zne (pc := 19) 25 dX9_point_19 (by decide) ⟨by decide, by decide⟩ (fun _ => ?_) (fun hx => absurd hx (by decide))
    refine x_iload_n (pc := 25) dX9_point_25 rfl rfl ?_
    obtain ⟨g4, h⟩ := h
    refine x_tsw (pc := 26) 72 [52, 59, 66] dX9_point_26 g4 (by decide) (by decide) (by decide) (fun j t hj ha => ?_) (fun hc => ?_)
    · match j, hj, ha with
      | 0, hj, ha =>
        cases hj
        replace h := h.1 ha
        refine x_aload_n (pc := 52) dX9_point_52 rfl rfl ?_
        refine x_getr (pc := 53) dX9_point_53 f_RX9_245 (wk_5_1 hW (wk_9_0 hW hk0)) ?_
        refine x_iload_n (pc := 56) dX9_point_56 rfl rfl ?_
        obtain ⟨g5, h⟩ := h
        refine x_iald (pc := 57) dX9_point_57 (wk_0_0 hW (wk_5_1 hW (wk_9_0 hW hk0))) (wl_0_0 hW (wk_5_1 hW (wk_9_0 hW hk0))) g5 ?_
        exact x_iret (pc := 58) dX9_point_58 (Or.inl rfl) h
      | 1, hj, ha =>
        cases hj
        replace h := h.2.1 ha
        refine x_aload_n (pc := 59) dX9_point_59 rfl rfl ?_
        refine x_getr (pc := 60) dX9_point_60 f_RX9_250 (wk_5_1 hW (wk_9_0 hW hk0)) ?_
        refine x_iload_n (pc := 63) dX9_point_63 rfl rfl ?_
        obtain ⟨g6, h⟩ := h
        refine x_iald (pc := 64) dX9_point_64 (wk_0_1 hW (wk_5_1 hW (wk_9_0 hW hk0))) (wl_0_1 hW (wk_5_1 hW (wk_9_0 hW hk0))) g6 ?_
        exact x_iret (pc := 65) dX9_point_65 (Or.inl rfl) h
      | 2, hj, ha =>
        cases hj
        replace h := h.2.2.1 ha
        refine x_aload_n (pc := 66) dX9_point_66 rfl rfl ?_
        refine x_iload_n (pc := 67) dX9_point_67 rfl rfl ?_
        obtain ⟨R7, hc7, h⟩ := h
        refine x_callV (pc := 68) (z := m_X0_reachOf) (b := (rf E (rf E a0 0) 1)) (as := [.inl x1]) (rest := []) dX9_point_68 c_RX9_253 (by decide) (wk_5_1 hW (wk_9_0 hW hk0)) rfl (Nat.le_of_ble_eq_true rfl) hc7 (fun r M7 hr => ?_)
        obtain ⟨v7, rfl, hr⟩ := hr
        replace h := h v7 M7 hr
        show fx_At E m_X9_point 71 [some (.inr a0), some (.inl x1), some (.inl x2), some (.inr (rf E (rf E a0 0) 1))] [.inl v7] M7 Q
        exact x_iret (pc := 71) dX9_point_71 (Or.inl rfl) h
      | j + 3, hj, ha => simp at hj
    · replace h := h.2.2.2 hc
      refine x_ldc (pc := 72) (n := -1000002) dX9_point_72 k_RX9_93 rfl ?_
      exact x_iret (pc := 74) dX9_point_74 (Or.inl rfl) h
  · replace h := h.2 hc
    show fx_At E m_X9_point 19 [some (.inr a0), some (.inl x1), some (.inl x2), some (.inr (rf E (rf E a0 0) 1))] [.inl 0] _ Q
    refine x_zne (pc := 19) 25 dX9_point_19 (by decide) ⟨by decide, by decide⟩ (fun hx => absurd hx (by decide)) (fun _ => ?_)
    refine x_ldc (pc := 22) (n := -1000001) dX9_point_22 k_RX9_111 rfl ?_
    exact x_iret (pc := 24) dX9_point_24 (Or.inl rfl) h
theorem dX9_toRoute_0 : decode cX9_toRoute 0 = .ok (.iload_n 1, 1) := by decide +kernel
theorem dX9_toRoute_1 : decode cX9_toRoute 1 = .ok (.ifCond .ge 6, 3) := by decide +kernel
theorem dX9_toRoute_4 : decode cX9_toRoute 4 = .ok (.ldc 93, 2) := by decide +kernel
theorem dX9_toRoute_6 : decode cX9_toRoute 6 = .ok (.ireturn, 1) := by decide +kernel
theorem dX9_toRoute_7 : decode cX9_toRoute 7 = .ok (.aload_n 0, 1) := by decide +kernel
theorem dX9_toRoute_8 : decode cX9_toRoute 8 = .ok (.getfield 12, 3) := by decide +kernel
theorem dX9_toRoute_11 : decode cX9_toRoute 11 = .ok (.getfield 30, 3) := by decide +kernel
theorem dX9_toRoute_14 : decode cX9_toRoute 14 = .ok (.iload_n 1, 1) := by decide +kernel
theorem dX9_toRoute_15 : decode cX9_toRoute 15 = .ok (.invokevirtual 256, 3) := by decide +kernel
theorem dX9_toRoute_18 : decode cX9_toRoute 18 = .ok (.ireturn, 1) := by decide +kernel
set_option maxRecDepth 100000 in
theorem b_X9_toRoute_0 {E : fxE} (hW : fx_Wt E) (a0 : Nat) (x1 : Int) (M : fxM) (Q : Option fxV → fxM → Prop) (hk0 : kd E a0 = 9) (h : (-2147483648 ≤ x1 ∧ x1 < 2147483648) ∧ (((0 : Int) ≤ x1 → ∃ R2 : Int → fxM → Prop, CtI E m_X0_routeOf [.inr (rf E (rf E a0 0) 1), .inl x1] M R2 ∧ ∀ (v2 : Int) (M2 : fxM), R2 v2 M2 → Q (some (.inl v2)) M2) ∧ (¬ (0 : Int) ≤ x1 → Q (some (.inl (-1000002))) M))) : fx_At E m_X9_toRoute 0 [some (.inr a0), some (.inl x1)] [] M Q := by
  refine x_iload_n (pc := 0) dX9_toRoute_0 rfl rfl ?_
  obtain ⟨g1, h⟩ := h
  refine x_zge (pc := 1) 7 dX9_toRoute_1 (by decide) g1 (fun hc => ?_) (fun hc => ?_)
  · replace h := h.1 hc
    refine x_aload_n (pc := 7) dX9_toRoute_7 rfl rfl ?_
    refine x_getr (pc := 8) dX9_toRoute_8 f_RX9_12 hk0 ?_
    refine x_getr (pc := 11) dX9_toRoute_11 f_RX9_30 (wk_9_0 hW hk0) ?_
    refine x_iload_n (pc := 14) dX9_toRoute_14 rfl rfl ?_
    obtain ⟨R2, hc2, h⟩ := h
    refine x_callV (pc := 15) (z := m_X0_routeOf) (b := (rf E (rf E a0 0) 1)) (as := [.inl x1]) (rest := []) dX9_toRoute_15 c_RX9_256 (by decide) (wk_5_1 hW (wk_9_0 hW hk0)) rfl (Nat.le_of_ble_eq_true rfl) hc2 (fun r M2 hr => ?_)
    obtain ⟨v2, rfl, hr⟩ := hr
    replace h := h v2 M2 hr
    show fx_At E m_X9_toRoute 18 [some (.inr a0), some (.inl x1)] [.inl v2] M2 Q
    exact x_iret (pc := 18) dX9_toRoute_18 (Or.inl rfl) h
  · replace h := h.2 hc
    refine x_ldc (pc := 4) (n := -1000002) dX9_toRoute_4 k_RX9_93 rfl ?_
    exact x_iret (pc := 6) dX9_toRoute_6 (Or.inl rfl) h
theorem dX9_pointBefore_0 : decode cX9_pointBefore 0 = .ok (.iload_n 1, 1) := by decide +kernel
theorem dX9_pointBefore_1 : decode cX9_pointBefore 1 = .ok (.ifCond .ge 6, 3) := by decide +kernel
theorem dX9_pointBefore_4 : decode cX9_pointBefore 4 = .ok (.ldc 93, 2) := by decide +kernel
theorem dX9_pointBefore_6 : decode cX9_pointBefore 6 = .ok (.ireturn, 1) := by decide +kernel
theorem dX9_pointBefore_7 : decode cX9_pointBefore 7 = .ok (.aload_n 0, 1) := by decide +kernel
theorem dX9_pointBefore_8 : decode cX9_pointBefore 8 = .ok (.getfield 12, 3) := by decide +kernel
theorem dX9_pointBefore_11 : decode cX9_pointBefore 11 = .ok (.getfield 30, 3) := by decide +kernel
theorem dX9_pointBefore_14 : decode cX9_pointBefore 14 = .ok (.iload_n 1, 1) := by decide +kernel
theorem dX9_pointBefore_15 : decode cX9_pointBefore 15 = .ok (.invokevirtual 259, 3) := by decide +kernel
theorem dX9_pointBefore_18 : decode cX9_pointBefore 18 = .ok (.ireturn, 1) := by decide +kernel
set_option maxRecDepth 100000 in
theorem b_X9_pointBefore_0 {E : fxE} (hW : fx_Wt E) (a0 : Nat) (x1 : Int) (M : fxM) (Q : Option fxV → fxM → Prop) (hk0 : kd E a0 = 9) (h : (-2147483648 ≤ x1 ∧ x1 < 2147483648) ∧ (((0 : Int) ≤ x1 → ∃ R2 : Int → fxM → Prop, CtI E m_X0_lastReached [.inr (rf E (rf E a0 0) 1), .inl x1] M R2 ∧ ∀ (v2 : Int) (M2 : fxM), R2 v2 M2 → Q (some (.inl v2)) M2) ∧ (¬ (0 : Int) ≤ x1 → Q (some (.inl (-1000002))) M))) : fx_At E m_X9_pointBefore 0 [some (.inr a0), some (.inl x1)] [] M Q := by
  refine x_iload_n (pc := 0) dX9_pointBefore_0 rfl rfl ?_
  obtain ⟨g1, h⟩ := h
  refine x_zge (pc := 1) 7 dX9_pointBefore_1 (by decide) g1 (fun hc => ?_) (fun hc => ?_)
  · replace h := h.1 hc
    refine x_aload_n (pc := 7) dX9_pointBefore_7 rfl rfl ?_
    refine x_getr (pc := 8) dX9_pointBefore_8 f_RX9_12 hk0 ?_
    refine x_getr (pc := 11) dX9_pointBefore_11 f_RX9_30 (wk_9_0 hW hk0) ?_
    refine x_iload_n (pc := 14) dX9_pointBefore_14 rfl rfl ?_
    obtain ⟨R2, hc2, h⟩ := h
    refine x_callV (pc := 15) (z := m_X0_lastReached) (b := (rf E (rf E a0 0) 1)) (as := [.inl x1]) (rest := []) dX9_pointBefore_15 c_RX9_259 (by decide) (wk_5_1 hW (wk_9_0 hW hk0)) rfl (Nat.le_of_ble_eq_true rfl) hc2 (fun r M2 hr => ?_)
    obtain ⟨v2, rfl, hr⟩ := hr
    replace h := h v2 M2 hr
    show fx_At E m_X9_pointBefore 18 [some (.inr a0), some (.inl x1)] [.inl v2] M2 Q
    exact x_iret (pc := 18) dX9_pointBefore_18 (Or.inl rfl) h
  · replace h := h.2 hc
    refine x_ldc (pc := 4) (n := -1000002) dX9_pointBefore_4 k_RX9_93 rfl ?_
    exact x_iret (pc := 6) dX9_pointBefore_6 (Or.inl rfl) h
theorem dX9_placed_0 : decode cX9_placed 0 = .ok (.iload_n 1, 1) := by decide +kernel
theorem dX9_placed_1 : decode cX9_placed 1 = .ok (.invokestatic 183, 3) := by decide +kernel
theorem dX9_placed_4 : decode cX9_placed 4 = .ok (.ifCond .eq 12, 3) := by decide +kernel
theorem dX9_placed_7 : decode cX9_placed 7 = .ok (.iload_n 2, 1) := by decide +kernel
theorem dX9_placed_8 : decode cX9_placed 8 = .ok (.iconst 0, 1) := by decide +kernel
theorem dX9_placed_9 : decode cX9_placed 9 = .ok (.iconst 2, 1) := by decide +kernel
theorem dX9_placed_10 : decode cX9_placed 10 = .ok (.invokestatic 108, 3) := by decide +kernel
theorem dX9_placed_13 : decode cX9_placed 13 = .ok (.ifCond .ne 6, 3) := by decide +kernel
theorem dX9_placed_16 : decode cX9_placed 16 = .ok (.ldc 93, 2) := by decide +kernel
theorem dX9_placed_18 : decode cX9_placed 18 = .ok (.ireturn, 1) := by decide +kernel
theorem dX9_placed_19 : decode cX9_placed 19 = .ok (.iload_n 2, 1) := by decide +kernel
theorem dX9_placed_20 : decode cX9_placed 20 = .ok (.iconst 1, 1) := by decide +kernel
theorem dX9_placed_21 : decode cX9_placed 21 = .ok (.if_icmp .ne 7, 3) := by decide +kernel
theorem dX9_placed_24 : decode cX9_placed 24 = .ok (.iconst 0, 1) := by decide +kernel
theorem dX9_placed_25 : decode cX9_placed 25 = .ok (.goto 17, 3) := by decide +kernel
theorem dX9_placed_28 : decode cX9_placed 28 = .ok (.aload_n 0, 1) := by decide +kernel
theorem dX9_placed_29 : decode cX9_placed 29 = .ok (.iconst 0, 1) := by decide +kernel
theorem dX9_placed_30 : decode cX9_placed 30 = .ok (.aload_n 0, 1) := by decide +kernel
theorem dX9_placed_31 : decode cX9_placed 31 = .ok (.iconst 0, 1) := by decide +kernel
theorem dX9_placed_32 : decode cX9_placed 32 = .ok (.iload_n 1, 1) := by decide +kernel
theorem dX9_placed_33 : decode cX9_placed 33 = .ok (.invokevirtual 202, 3) := by decide +kernel
theorem dX9_placed_36 : decode cX9_placed 36 = .ok (.invokevirtual 228, 3) := by decide +kernel
theorem dX9_placed_39 : decode cX9_placed 39 = .ok (.invokevirtual 262, 3) := by decide +kernel
theorem dX9_placed_42 : decode cX9_placed 42 = .ok (.istore_n 3, 1) := by decide +kernel
theorem dX9_placed_43 : decode cX9_placed 43 = .ok (.iload_n 2, 1) := by decide +kernel
theorem dX9_placed_44 : decode cX9_placed 44 = .ok (.ifCond .ne 7, 3) := by decide +kernel
theorem dX9_placed_47 : decode cX9_placed 47 = .ok (.iconst 0, 1) := by decide +kernel
theorem dX9_placed_48 : decode cX9_placed 48 = .ok (.goto 17, 3) := by decide +kernel
theorem dX9_placed_51 : decode cX9_placed 51 = .ok (.aload_n 0, 1) := by decide +kernel
theorem dX9_placed_52 : decode cX9_placed 52 = .ok (.iconst 1, 1) := by decide +kernel
theorem dX9_placed_53 : decode cX9_placed 53 = .ok (.aload_n 0, 1) := by decide +kernel
theorem dX9_placed_54 : decode cX9_placed 54 = .ok (.iconst 1, 1) := by decide +kernel
theorem dX9_placed_55 : decode cX9_placed 55 = .ok (.iload_n 1, 1) := by decide +kernel
theorem dX9_placed_56 : decode cX9_placed 56 = .ok (.invokevirtual 202, 3) := by decide +kernel
theorem dX9_placed_59 : decode cX9_placed 59 = .ok (.invokevirtual 228, 3) := by decide +kernel
theorem dX9_placed_62 : decode cX9_placed 62 = .ok (.invokevirtual 262, 3) := by decide +kernel
theorem dX9_placed_65 : decode cX9_placed 65 = .ok (.istore 4, 2) := by decide +kernel
theorem dX9_placed_67 : decode cX9_placed 67 = .ok (.iload_n 3, 1) := by decide +kernel
theorem dX9_placed_68 : decode cX9_placed 68 = .ok (.ldc 201, 2) := by decide +kernel
theorem dX9_placed_70 : decode cX9_placed 70 = .ok (.if_icmp .eq 10, 3) := by decide +kernel
theorem dX9_placed_73 : decode cX9_placed 73 = .ok (.iload 4, 2) := by decide +kernel
theorem dX9_placed_75 : decode cX9_placed 75 = .ok (.ldc 201, 2) := by decide +kernel
theorem dX9_placed_77 : decode cX9_placed 77 = .ok (.if_icmp .ne 6, 3) := by decide +kernel
theorem dX9_placed_80 : decode cX9_placed 80 = .ok (.ldc 201, 2) := by decide +kernel
theorem dX9_placed_82 : decode cX9_placed 82 = .ok (.ireturn, 1) := by decide +kernel
theorem dX9_placed_83 : decode cX9_placed 83 = .ok (.iload_n 2, 1) := by decide +kernel
theorem dX9_placed_84 : decode cX9_placed 84 = .ok (.ifCond .ne 5, 3) := by decide +kernel
theorem dX9_placed_87 : decode cX9_placed 87 = .ok (.iload_n 3, 1) := by decide +kernel
theorem dX9_placed_88 : decode cX9_placed 88 = .ok (.ireturn, 1) := by decide +kernel
theorem dX9_placed_89 : decode cX9_placed 89 = .ok (.iload_n 2, 1) := by decide +kernel
theorem dX9_placed_90 : decode cX9_placed 90 = .ok (.iconst 1, 1) := by decide +kernel
theorem dX9_placed_91 : decode cX9_placed 91 = .ok (.if_icmp .ne 8, 3) := by decide +kernel
theorem dX9_placed_94 : decode cX9_placed 94 = .ok (.iload 4, 2) := by decide +kernel
theorem dX9_placed_96 : decode cX9_placed 96 = .ok (.goto 7, 3) := by decide +kernel
theorem dX9_placed_99 : decode cX9_placed 99 = .ok (.iload 4, 2) := by decide +kernel
theorem dX9_placed_101 : decode cX9_placed 101 = .ok (.iload_n 3, 1) := by decide +kernel
theorem dX9_placed_102 : decode cX9_placed 102 = .ok (.isub, 1) := by decide +kernel
theorem dX9_placed_103 : decode cX9_placed 103 = .ok (.ireturn, 1) := by decide +kernel
set_option maxRecDepth 100000 in
theorem b_X9_placed_0 {E : fxE} (hW : fx_Wt E) (a0 : Nat) (x1 : Int) (x2 : Int) (M : fxM) (Q : Option fxV → fxM → Prop) (hk0 : kd E a0 = 9) (h : (-2147483648 ≤ x1 ∧ x1 < 2147483648) ∧ (((1 : Int) ≤ x1 ∧ x1 ≤ (9 : Int) → (-2147483648 ≤ x2 ∧ x2 < 2147483648) ∧ (((0 : Int) ≤ x2 ∧ x2 ≤ (2 : Int) → ((¬ x2 = (1 : Int) → ∃ R5 : Nat → fxM → Prop, CtA E m_X9_eventsOf [.inr a0, .inl 0, .inl x1] M R5 ∧ ∀ (v5 : Nat) (M5 : fxM), R5 v5 M5 → kd E v5 = 1 ∧ ∃ R6 : Int → fxM → Prop, CtI E m_X1_firstEnd [.inr v5] M5 R6 ∧ ∀ (v6 : Int) (M6 : fxM), R6 v6 M6 → ∃ R7 : Int → fxM → Prop, CtI E m_X9_routeOfEnd [.inr a0, .inl 0, .inl v6] M6 R7 ∧ ∀ (v7 : Int) (M7 : fxM), R7 v7 M7 → ((¬ x2 = (0 : Int) → ∃ R8 : Nat → fxM → Prop, CtA E m_X9_eventsOf [.inr a0, .inl 1, .inl x1] M7 R8 ∧ ∀ (v8 : Nat) (M8 : fxM), R8 v8 M8 → kd E v8 = 1 ∧ ∃ R9 : Int → fxM → Prop, CtI E m_X1_firstEnd [.inr v8] M8 R9 ∧ ∀ (v9 : Int) (M9 : fxM), R9 v9 M9 → ∃ R10 : Int → fxM → Prop, CtI E m_X9_routeOfEnd [.inr a0, .inl 1, .inl v9] M9 R10 ∧ ∀ (v10 : Int) (M10 : fxM), R10 v10 M10 → fx_At E m_X9_placed 65 [some (.inr a0), some (.inl x1), some (.inl x2), some (.inl v7), none] [.inl v10] M10 Q) ∧ (x2 = (0 : Int) → fx_At E m_X9_placed 65 [some (.inr a0), some (.inl x1), some (.inl x2), some (.inl v7), none] [.inl 0] M7 Q))) ∧ (x2 = (1 : Int) → ((¬ x2 = (0 : Int) → ∃ R11 : Nat → fxM → Prop, CtA E m_X9_eventsOf [.inr a0, .inl 1, .inl x1] M R11 ∧ ∀ (v11 : Nat) (M11 : fxM), R11 v11 M11 → kd E v11 = 1 ∧ ∃ R12 : Int → fxM → Prop, CtI E m_X1_firstEnd [.inr v11] M11 R12 ∧ ∀ (v12 : Int) (M12 : fxM), R12 v12 M12 → ∃ R13 : Int → fxM → Prop, CtI E m_X9_routeOfEnd [.inr a0, .inl 1, .inl v12] M12 R13 ∧ ∀ (v13 : Int) (M13 : fxM), R13 v13 M13 → fx_At E m_X9_placed 65 [some (.inr a0), some (.inl x1), some (.inl x2), some (.inl 0), none] [.inl v13] M13 Q) ∧ (x2 = (0 : Int) → fx_At E m_X9_placed 65 [some (.inr a0), some (.inl x1), some (.inl x2), some (.inl 0), none] [.inl 0] M Q))))) ∧ (¬ ((0 : Int) ≤ x2 ∧ x2 ≤ (2 : Int)) → Q (some (.inl (-1000002))) M))) ∧ (¬ ((1 : Int) ≤ x1 ∧ x1 ≤ (9 : Int)) → Q (some (.inl (-1000002))) M))) : fx_At E m_X9_placed 0 [some (.inr a0), some (.inl x1), some (.inl x2), none, none] [] M Q := by
  refine x_iload_n (pc := 0) dX9_placed_0 rfl rfl ?_
  obtain ⟨g1, h⟩ := h
  refine x_callS (pc := 1) (z := m_X9_isWidth) (as := [.inl x1]) (rest := []) dX9_placed_1 c_RX9_183 (by decide) rfl (Nat.le_of_ble_eq_true rfl) (ct_X9_isWidth hW g1) (fun r M9 hr => ?_)
  obtain ⟨hM9, hr⟩ := hr
  rw [hM9]
  clear hM9
  obtain ⟨hc, rfl⟩ | ⟨hc, rfl⟩ := hr
  · replace h := h.1 hc
    show fx_At E m_X9_placed 4 [some (.inr a0), some (.inl x1), some (.inl x2), none, none] [.inl 1] _ Q
    refine x_zeq (pc := 4) 16 dX9_placed_4 (by decide) ⟨by decide, by decide⟩ (fun hx => absurd hx (by decide)) (fun _ => ?_)
    refine x_iload_n (pc := 7) dX9_placed_7 rfl rfl ?_
    refine x_iconst (pc := 8) dX9_placed_8 ?_
    refine x_iconst (pc := 9) dX9_placed_9 ?_
    obtain ⟨g3, h⟩ := h
    refine x_callS (pc := 10) (z := m_X9_isWithin) (as := [.inl x2, .inl 0, .inl 2]) (rest := []) dX9_placed_10 c_RX9_108 (by decide) rfl (Nat.le_of_ble_eq_true rfl) (ct_isWithin hW g3 ⟨by decide, by decide⟩ ⟨by decide, by decide⟩) (fun r M9 hr => ?_)
    obtain ⟨hM9, hr⟩ := hr
    rw [hM9]
    clear hM9
    obtain ⟨hc, rfl⟩ | ⟨hc, rfl⟩ := hr
    · replace h := h.1 hc
      show fx_At E m_X9_placed 13 [some (.inr a0), some (.inl x1), some (.inl x2), none, none] [.inl 1] _ Q
      refine x_zne (pc := 13) 19 dX9_placed_13 (by decide) ⟨by decide, by decide⟩ (fun _ => ?_) (fun hx => absurd hx (by decide))
      refine x_iload_n (pc := 19) dX9_placed_19 rfl rfl ?_
      refine x_iconst (pc := 20) dX9_placed_20 ?_
      refine x_cne (pc := 21) 28 dX9_placed_21 (by decide) ⟨g3, ⟨by decide, by decide⟩⟩ (fun hc => ?_) (fun hc => ?_)
      · replace h := h.1 hc
        refine x_aload_n (pc := 28) dX9_placed_28 rfl rfl ?_
        refine x_iconst (pc := 29) dX9_placed_29 ?_
        refine x_aload_n (pc := 30) dX9_placed_30 rfl rfl ?_
        refine x_iconst (pc := 31) dX9_placed_31 ?_
        refine x_iload_n (pc := 32) dX9_placed_32 rfl rfl ?_
        obtain ⟨R5, hc5, h⟩ := h
        refine x_callV (pc := 33) (z := m_X9_eventsOf) (b := a0) (as := [.inl 0, .inl x1]) (rest := [.inl 0, .inr a0]) dX9_placed_33 c_RX9_202 (by decide) hk0 rfl (Nat.le_of_ble_eq_true rfl) hc5 (fun r M5 hr => ?_)
        obtain ⟨v5, rfl, hr⟩ := hr
        obtain ⟨hv5, h⟩ := h v5 M5 hr
        show fx_At E m_X9_placed 36 [some (.inr a0), some (.inl x1), some (.inl x2), none, none] [.inr v5, .inl 0, .inr a0] M5 Q
        obtain ⟨R6, hc6, h⟩ := h
        refine x_callV (pc := 36) (z := m_X1_firstEnd) (b := v5) (as := []) (rest := [.inl 0, .inr a0]) dX9_placed_36 c_RX9_228 (by decide) hv5 rfl (Nat.le_of_ble_eq_true rfl) hc6 (fun r M6 hr => ?_)
        obtain ⟨v6, rfl, hr⟩ := hr
        replace h := h v6 M6 hr
        show fx_At E m_X9_placed 39 [some (.inr a0), some (.inl x1), some (.inl x2), none, none] [.inl v6, .inl 0, .inr a0] M6 Q
        obtain ⟨R7, hc7, h⟩ := h
        refine x_callV (pc := 39) (z := m_X9_routeOfEnd) (b := a0) (as := [.inl 0, .inl v6]) (rest := []) dX9_placed_39 c_RX9_262 (by decide) hk0 rfl (Nat.le_of_ble_eq_true rfl) hc7 (fun r M7 hr => ?_)
        obtain ⟨v7, rfl, hr⟩ := hr
        replace h := h v7 M7 hr
        show fx_At E m_X9_placed 42 [some (.inr a0), some (.inl x1), some (.inl x2), none, none] [.inl v7] M7 Q
        refine x_istore_n (pc := 42) (lv' := [some (.inr a0), some (.inl x1), some (.inl x2), some (.inl v7), none]) dX9_placed_42 rfl (by decide) rfl ?_
        refine x_iload_n (pc := 43) dX9_placed_43 rfl rfl ?_
        refine x_zne (pc := 44) 51 dX9_placed_44 (by decide) g3 (fun hc => ?_) (fun hc => ?_)
        · replace h := h.1 hc
          refine x_aload_n (pc := 51) dX9_placed_51 rfl rfl ?_
          refine x_iconst (pc := 52) dX9_placed_52 ?_
          refine x_aload_n (pc := 53) dX9_placed_53 rfl rfl ?_
          refine x_iconst (pc := 54) dX9_placed_54 ?_
          refine x_iload_n (pc := 55) dX9_placed_55 rfl rfl ?_
          obtain ⟨R8, hc8, h⟩ := h
          refine x_callV (pc := 56) (z := m_X9_eventsOf) (b := a0) (as := [.inl 1, .inl x1]) (rest := [.inl 1, .inr a0]) dX9_placed_56 c_RX9_202 (by decide) hk0 rfl (Nat.le_of_ble_eq_true rfl) hc8 (fun r M8 hr => ?_)
          obtain ⟨v8, rfl, hr⟩ := hr
          obtain ⟨hv8, h⟩ := h v8 M8 hr
          show fx_At E m_X9_placed 59 [some (.inr a0), some (.inl x1), some (.inl x2), some (.inl v7), none] [.inr v8, .inl 1, .inr a0] M8 Q
          obtain ⟨R9, hc9, h⟩ := h
          refine x_callV (pc := 59) (z := m_X1_firstEnd) (b := v8) (as := []) (rest := [.inl 1, .inr a0]) dX9_placed_59 c_RX9_228 (by decide) hv8 rfl (Nat.le_of_ble_eq_true rfl) hc9 (fun r M9 hr => ?_)
          obtain ⟨v9, rfl, hr⟩ := hr
          replace h := h v9 M9 hr
          show fx_At E m_X9_placed 62 [some (.inr a0), some (.inl x1), some (.inl x2), some (.inl v7), none] [.inl v9, .inl 1, .inr a0] M9 Q
          obtain ⟨R10, hc10, h⟩ := h
          refine x_callV (pc := 62) (z := m_X9_routeOfEnd) (b := a0) (as := [.inl 1, .inl v9]) (rest := []) dX9_placed_62 c_RX9_262 (by decide) hk0 rfl (Nat.le_of_ble_eq_true rfl) hc10 (fun r M10 hr => ?_)
          obtain ⟨v10, rfl, hr⟩ := hr
          replace h := h v10 M10 hr
          show fx_At E m_X9_placed 65 [some (.inr a0), some (.inl x1), some (.inl x2), some (.inl v7), none] [.inl v10] M10 Q
          exact h
        · replace h := h.2 hc
          refine x_iconst (pc := 47) dX9_placed_47 ?_
          refine x_goto (pc := 48) 65 dX9_placed_48 (by decide) ?_
          exact h
      · replace h := h.2 hc
        refine x_iconst (pc := 24) dX9_placed_24 ?_
        refine x_goto (pc := 25) 42 dX9_placed_25 (by decide) ?_
        refine x_istore_n (pc := 42) (lv' := [some (.inr a0), some (.inl x1), some (.inl x2), some (.inl 0), none]) dX9_placed_42 rfl (by decide) rfl ?_
        refine x_iload_n (pc := 43) dX9_placed_43 rfl rfl ?_
        refine x_zne (pc := 44) 51 dX9_placed_44 (by decide) g3 (fun hc => ?_) (fun hc => ?_)
        · replace h := h.1 hc
          refine x_aload_n (pc := 51) dX9_placed_51 rfl rfl ?_
          refine x_iconst (pc := 52) dX9_placed_52 ?_
          refine x_aload_n (pc := 53) dX9_placed_53 rfl rfl ?_
          refine x_iconst (pc := 54) dX9_placed_54 ?_
          refine x_iload_n (pc := 55) dX9_placed_55 rfl rfl ?_
          obtain ⟨R11, hc11, h⟩ := h
          refine x_callV (pc := 56) (z := m_X9_eventsOf) (b := a0) (as := [.inl 1, .inl x1]) (rest := [.inl 1, .inr a0]) dX9_placed_56 c_RX9_202 (by decide) hk0 rfl (Nat.le_of_ble_eq_true rfl) hc11 (fun r M11 hr => ?_)
          obtain ⟨v11, rfl, hr⟩ := hr
          obtain ⟨hv11, h⟩ := h v11 M11 hr
          show fx_At E m_X9_placed 59 [some (.inr a0), some (.inl x1), some (.inl x2), some (.inl 0), none] [.inr v11, .inl 1, .inr a0] M11 Q
          obtain ⟨R12, hc12, h⟩ := h
          refine x_callV (pc := 59) (z := m_X1_firstEnd) (b := v11) (as := []) (rest := [.inl 1, .inr a0]) dX9_placed_59 c_RX9_228 (by decide) hv11 rfl (Nat.le_of_ble_eq_true rfl) hc12 (fun r M12 hr => ?_)
          obtain ⟨v12, rfl, hr⟩ := hr
          replace h := h v12 M12 hr
          show fx_At E m_X9_placed 62 [some (.inr a0), some (.inl x1), some (.inl x2), some (.inl 0), none] [.inl v12, .inl 1, .inr a0] M12 Q
          obtain ⟨R13, hc13, h⟩ := h
          refine x_callV (pc := 62) (z := m_X9_routeOfEnd) (b := a0) (as := [.inl 1, .inl v12]) (rest := []) dX9_placed_62 c_RX9_262 (by decide) hk0 rfl (Nat.le_of_ble_eq_true rfl) hc13 (fun r M13 hr => ?_)
          obtain ⟨v13, rfl, hr⟩ := hr
          replace h := h v13 M13 hr
          show fx_At E m_X9_placed 65 [some (.inr a0), some (.inl x1), some (.inl x2), some (.inl 0), none] [.inl v13] M13 Q
          exact h
        · replace h := h.2 hc
          refine x_iconst (pc := 47) dX9_placed_47 ?_
          refine x_goto (pc := 48) 65 dX9_placed_48 (by decide) ?_
          exact h
    · replace h := h.2 hc
      show fx_At E m_X9_placed 13 [some (.inr a0), some (.inl x1), some (.inl x2), none, none] [.inl 0] _ Q
      refine x_zne (pc := 13) 19 dX9_placed_13 (by decide) ⟨by decide, by decide⟩ (fun hx => absurd hx (by decide)) (fun _ => ?_)
      refine x_ldc (pc := 16) (n := -1000002) dX9_placed_16 k_RX9_93 rfl ?_
      exact x_iret (pc := 18) dX9_placed_18 (Or.inl rfl) h
  · replace h := h.2 hc
    show fx_At E m_X9_placed 4 [some (.inr a0), some (.inl x1), some (.inl x2), none, none] [.inl 0] _ Q
    refine x_zeq (pc := 4) 16 dX9_placed_4 (by decide) ⟨by decide, by decide⟩ (fun _ => ?_) (fun hx => absurd hx (by decide))
    refine x_ldc (pc := 16) (n := -1000002) dX9_placed_16 k_RX9_93 rfl ?_
    exact x_iret (pc := 18) dX9_placed_18 (Or.inl rfl) h
set_option maxRecDepth 100000 in
theorem b_X9_placed_65 {E : fxE} (hW : fx_Wt E) (a0 : Nat) (x1 : Int) (x2 : Int) (x3 : Int) (s0 : Int) (M : fxM) (Q : Option fxV → fxM → Prop) (hk0 : kd E a0 = 9) (h : (-2147483648 ≤ x3 ∧ x3 < 2147483648) ∧ ((x3 = (-1000005 : Int) → Q (some (.inl (-1000005))) M) ∧ (¬ x3 = (-1000005 : Int) → (-2147483648 ≤ s0 ∧ s0 < 2147483648) ∧ ((¬ s0 = (-1000005 : Int) → (-2147483648 ≤ x2 ∧ x2 < 2147483648) ∧ ((¬ x2 = (0 : Int) → ((¬ x2 = (1 : Int) → Q (some (.inl (s0 - x3))) M) ∧ (x2 = (1 : Int) → Q (some (.inl s0)) M))) ∧ (x2 = (0 : Int) → Q (some (.inl x3)) M))) ∧ (s0 = (-1000005 : Int) → Q (some (.inl (-1000005))) M))))) : fx_At E m_X9_placed 65 [some (.inr a0), some (.inl x1), some (.inl x2), some (.inl x3), none] [.inl s0] M Q := by
  refine x_istore (pc := 65) (lv' := [some (.inr a0), some (.inl x1), some (.inl x2), some (.inl x3), some (.inl s0)]) dX9_placed_65 (by decide) rfl ?_
  refine x_iload_n (pc := 67) dX9_placed_67 rfl rfl ?_
  refine x_ldc (pc := 68) (n := -1000005) dX9_placed_68 k_RX9_201 rfl ?_
  obtain ⟨g1, h⟩ := h
  refine x_ceq (pc := 70) 80 dX9_placed_70 (by decide) ⟨g1, ⟨by decide, by decide⟩⟩ (fun hc => ?_) (fun hc => ?_)
  · replace h := h.1 hc
    refine x_ldc (pc := 80) (n := -1000005) dX9_placed_80 k_RX9_201 rfl ?_
    exact x_iret (pc := 82) dX9_placed_82 (Or.inl rfl) h
  · replace h := h.2 hc
    refine x_iload (pc := 73) dX9_placed_73 rfl ?_
    refine x_ldc (pc := 75) (n := -1000005) dX9_placed_75 k_RX9_201 rfl ?_
    obtain ⟨g2, h⟩ := h
    refine x_cne (pc := 77) 83 dX9_placed_77 (by decide) ⟨g2, ⟨by decide, by decide⟩⟩ (fun hc => ?_) (fun hc => ?_)
    · replace h := h.1 hc
      refine x_iload_n (pc := 83) dX9_placed_83 rfl rfl ?_
      obtain ⟨g3, h⟩ := h
      refine x_zne (pc := 84) 89 dX9_placed_84 (by decide) g3 (fun hc => ?_) (fun hc => ?_)
      · replace h := h.1 hc
        refine x_iload_n (pc := 89) dX9_placed_89 rfl rfl ?_
        refine x_iconst (pc := 90) dX9_placed_90 ?_
        refine x_cne (pc := 91) 99 dX9_placed_91 (by decide) ⟨g3, ⟨by decide, by decide⟩⟩ (fun hc => ?_) (fun hc => ?_)
        · replace h := h.1 hc
          refine x_iload (pc := 99) dX9_placed_99 rfl ?_
          refine x_iload_n (pc := 101) dX9_placed_101 rfl rfl ?_
          refine x_isub (pc := 102) dX9_placed_102 ?_
          exact x_iret (pc := 103) dX9_placed_103 (Or.inl rfl) h
        · replace h := h.2 hc
          refine x_iload (pc := 94) dX9_placed_94 rfl ?_
          refine x_goto (pc := 96) 103 dX9_placed_96 (by decide) ?_
          exact x_iret (pc := 103) dX9_placed_103 (Or.inl rfl) h
      · replace h := h.2 hc
        refine x_iload_n (pc := 87) dX9_placed_87 rfl rfl ?_
        exact x_iret (pc := 88) dX9_placed_88 (Or.inl rfl) h
    · replace h := h.2 hc
      refine x_ldc (pc := 80) (n := -1000005) dX9_placed_80 k_RX9_201 rfl ?_
      exact x_iret (pc := 82) dX9_placed_82 (Or.inl rfl) h
theorem dX9_write_0 : decode cX9_write 0 = .ok (.iload_n 1, 1) := by decide +kernel
theorem dX9_write_1 : decode cX9_write 1 = .ok (.bipush 32, 2) := by decide +kernel
theorem dX9_write_3 : decode cX9_write 3 = .ok (.bipush 126, 2) := by decide +kernel
theorem dX9_write_5 : decode cX9_write 5 = .ok (.invokestatic 108, 3) := by decide +kernel
theorem dX9_write_8 : decode cX9_write 8 = .ok (.ifCond .ne 6, 3) := by decide +kernel
theorem dX9_write_11 : decode cX9_write 11 = .ok (.ldc 93, 2) := by decide +kernel
theorem dX9_write_13 : decode cX9_write 13 = .ok (.ireturn, 1) := by decide +kernel
theorem dX9_write_14 : decode cX9_write 14 = .ok (.aload_n 0, 1) := by decide +kernel
theorem dX9_write_15 : decode cX9_write 15 = .ok (.getfield 54, 3) := by decide +kernel
theorem dX9_write_18 : decode cX9_write 18 = .ok (.getfield 155, 3) := by decide +kernel
theorem dX9_write_21 : decode cX9_write 21 = .ok (.bipush 120, 2) := by decide +kernel
theorem dX9_write_23 : decode cX9_write 23 = .ok (.if_icmp .lt 6, 3) := by decide +kernel
theorem dX9_write_26 : decode cX9_write 26 = .ok (.ldc 107, 2) := by decide +kernel
theorem dX9_write_28 : decode cX9_write 28 = .ok (.ireturn, 1) := by decide +kernel
theorem dX9_write_29 : decode cX9_write 29 = .ok (.aload_n 0, 1) := by decide +kernel
theorem dX9_write_30 : decode cX9_write 30 = .ok (.getfield 54, 3) := by decide +kernel
theorem dX9_write_33 : decode cX9_write 33 = .ok (.iload_n 1, 1) := by decide +kernel
theorem dX9_write_34 : decode cX9_write 34 = .ok (.invokevirtual 265, 3) := by decide +kernel
theorem dX9_write_37 : decode cX9_write 37 = .ok (.aload_n 0, 1) := by decide +kernel
theorem dX9_write_38 : decode cX9_write 38 = .ok (.getfield 54, 3) := by decide +kernel
theorem dX9_write_41 : decode cX9_write 41 = .ok (.getfield 155, 3) := by decide +kernel
theorem dX9_write_44 : decode cX9_write 44 = .ok (.ireturn, 1) := by decide +kernel
set_option maxRecDepth 100000 in
theorem b_X9_write_0 {E : fxE} (hW : fx_Wt E) (a0 : Nat) (x1 : Int) (M : fxM) (Q : Option fxV → fxM → Prop) (hk0 : kd E a0 = 9) (h : (-2147483648 ≤ x1 ∧ x1 < 2147483648) ∧ (((32 : Int) ≤ x1 ∧ x1 ≤ (126 : Int) → (-2147483648 ≤ (M (rf E a0 3) 1) ∧ (M (rf E a0 3) 1) < 2147483648) ∧ (((M (rf E a0 3) 1) < (120 : Int) → ∃ R4 : fxM → Prop, CtV E m_X6_append [.inr (rf E a0 3), .inl x1] M R4 ∧ ∀ M4 : fxM, R4 M4 → Q (some (.inl (M4 (rf E a0 3) 1))) M4) ∧ (¬ (M (rf E a0 3) 1) < (120 : Int) → Q (some (.inl (-1000003))) M))) ∧ (¬ ((32 : Int) ≤ x1 ∧ x1 ≤ (126 : Int)) → Q (some (.inl (-1000002))) M))) : fx_At E m_X9_write 0 [some (.inr a0), some (.inl x1)] [] M Q := by
  refine x_iload_n (pc := 0) dX9_write_0 rfl rfl ?_
  refine x_bipush (pc := 1) dX9_write_1 (by decide +kernel) ?_
  refine x_bipush (pc := 3) dX9_write_3 (by decide +kernel) ?_
  obtain ⟨g1, h⟩ := h
  refine x_callS (pc := 5) (z := m_X9_isWithin) (as := [.inl x1, .inl 32, .inl 126]) (rest := []) dX9_write_5 c_RX9_108 (by decide) rfl (Nat.le_of_ble_eq_true rfl) (ct_isWithin hW g1 ⟨by decide, by decide⟩ ⟨by decide, by decide⟩) (fun r M9 hr => ?_)
  obtain ⟨hM9, hr⟩ := hr
  rw [hM9]
  clear hM9
  obtain ⟨hc, rfl⟩ | ⟨hc, rfl⟩ := hr
  · replace h := h.1 hc
    show fx_At E m_X9_write 8 [some (.inr a0), some (.inl x1)] [.inl 1] _ Q
    refine x_zne (pc := 8) 14 dX9_write_8 (by decide) ⟨by decide, by decide⟩ (fun _ => ?_) (fun hx => absurd hx (by decide))
    refine x_aload_n (pc := 14) dX9_write_14 rfl rfl ?_
    refine x_getr (pc := 15) dX9_write_15 f_RX9_54 hk0 ?_
    refine x_geti (pc := 18) dX9_write_18 f_RX9_155 (wk_9_3 hW hk0) ?_
    refine x_bipush (pc := 21) dX9_write_21 (by decide +kernel) ?_
    obtain ⟨g3, h⟩ := h
    refine x_clt (pc := 23) 29 dX9_write_23 (by decide) ⟨g3, ⟨by decide, by decide⟩⟩ (fun hc => ?_) (fun hc => ?_)
    · replace h := h.1 hc
      refine x_aload_n (pc := 29) dX9_write_29 rfl rfl ?_
      refine x_getr (pc := 30) dX9_write_30 f_RX9_54 hk0 ?_
      refine x_iload_n (pc := 33) dX9_write_33 rfl rfl ?_
      obtain ⟨R4, hc4, h⟩ := h
      refine x_callV (pc := 34) (z := m_X6_append) (b := (rf E a0 3)) (as := [.inl x1]) (rest := []) dX9_write_34 c_RX9_265 (by decide) (wk_9_3 hW hk0) rfl (Nat.le_of_ble_eq_true rfl) hc4 (fun r M4 hr => ?_)
      obtain ⟨rfl, hr⟩ := hr
      replace h := h M4 hr
      show fx_At E m_X9_write 37 [some (.inr a0), some (.inl x1)] [] M4 Q
      refine x_aload_n (pc := 37) dX9_write_37 rfl rfl ?_
      refine x_getr (pc := 38) dX9_write_38 f_RX9_54 hk0 ?_
      refine x_geti (pc := 41) dX9_write_41 f_RX9_155 (wk_9_3 hW hk0) ?_
      exact x_iret (pc := 44) dX9_write_44 (Or.inl rfl) h
    · replace h := h.2 hc
      refine x_ldc (pc := 26) (n := -1000003) dX9_write_26 k_RX9_107 rfl ?_
      exact x_iret (pc := 28) dX9_write_28 (Or.inl rfl) h
  · replace h := h.2 hc
    show fx_At E m_X9_write 8 [some (.inr a0), some (.inl x1)] [.inl 0] _ Q
    refine x_zne (pc := 8) 14 dX9_write_8 (by decide) ⟨by decide, by decide⟩ (fun hx => absurd hx (by decide)) (fun _ => ?_)
    refine x_ldc (pc := 11) (n := -1000002) dX9_write_11 k_RX9_93 rfl ?_
    exact x_iret (pc := 13) dX9_write_13 (Or.inl rfl) h
theorem dX9_wipe_0 : decode cX9_wipe 0 = .ok (.aload_n 0, 1) := by decide +kernel
theorem dX9_wipe_1 : decode cX9_wipe 1 = .ok (.getfield 54, 3) := by decide +kernel
theorem dX9_wipe_4 : decode cX9_wipe 4 = .ok (.getfield 155, 3) := by decide +kernel
theorem dX9_wipe_7 : decode cX9_wipe 7 = .ok (.istore_n 1, 1) := by decide +kernel
theorem dX9_wipe_8 : decode cX9_wipe 8 = .ok (.aload_n 0, 1) := by decide +kernel
theorem dX9_wipe_9 : decode cX9_wipe 9 = .ok (.getfield 54, 3) := by decide +kernel
theorem dX9_wipe_12 : decode cX9_wipe 12 = .ok (.iconst 0, 1) := by decide +kernel
theorem dX9_wipe_13 : decode cX9_wipe 13 = .ok (.putfield 155, 3) := by decide +kernel
theorem dX9_wipe_16 : decode cX9_wipe 16 = .ok (.iload_n 1, 1) := by decide +kernel
theorem dX9_wipe_17 : decode cX9_wipe 17 = .ok (.ireturn, 1) := by decide +kernel
set_option maxRecDepth 100000 in
theorem b_X9_wipe_0 {E : fxE} (hW : fx_Wt E) (a0 : Nat) (M : fxM) (Q : Option fxV → fxM → Prop) (hk0 : kd E a0 = 9) (h : ∀ M1 : fxM, M1 = mset M (rf E a0 3) 1 0 → Q (some (.inl (M (rf E a0 3) 1))) M1) : fx_At E m_X9_wipe 0 [some (.inr a0), none] [] M Q := by
  refine x_aload_n (pc := 0) dX9_wipe_0 rfl rfl ?_
  refine x_getr (pc := 1) dX9_wipe_1 f_RX9_54 hk0 ?_
  refine x_geti (pc := 4) dX9_wipe_4 f_RX9_155 (wk_9_3 hW hk0) ?_
  refine x_istore_n (pc := 7) (lv' := [some (.inr a0), some (.inl (M (rf E a0 3) 1))]) dX9_wipe_7 rfl (by decide) rfl ?_
  refine x_aload_n (pc := 8) dX9_wipe_8 rfl rfl ?_
  refine x_getr (pc := 9) dX9_wipe_9 f_RX9_54 hk0 ?_
  refine x_iconst (pc := 12) dX9_wipe_12 ?_
  refine x_puti (pc := 13) dX9_wipe_13 f_RX9_155 (wk_9_3 hW hk0) (fun M1 hM1 => ?_)
  replace h := h M1 hM1
  refine x_iload_n (pc := 16) dX9_wipe_16 rfl rfl ?_
  exact x_iret (pc := 17) dX9_wipe_17 (Or.inl rfl) h
theorem dX9_load_0 : decode cX9_load 0 = .ok (.aload_n 0, 1) := by decide +kernel
theorem dX9_load_1 : decode cX9_load 1 = .ok (.getfield 54, 3) := by decide +kernel
theorem dX9_load_4 : decode cX9_load 4 = .ok (.aload_n 0, 1) := by decide +kernel
theorem dX9_load_5 : decode cX9_load 5 = .ok (.getfield 48, 3) := by decide +kernel
theorem dX9_load_8 : decode cX9_load 8 = .ok (.invokevirtual 267, 3) := by decide +kernel
theorem dX9_load_11 : decode cX9_load 11 = .ok (.ifCond .ne 6, 3) := by decide +kernel
theorem dX9_load_14 : decode cX9_load 14 = .ok (.ldc 135, 2) := by decide +kernel
theorem dX9_load_16 : decode cX9_load 16 = .ok (.ireturn, 1) := by decide +kernel
theorem dX9_load_17 : decode cX9_load 17 = .ok (.aload_n 0, 1) := by decide +kernel
theorem dX9_load_18 : decode cX9_load 18 = .ok (.invokevirtual 98, 3) := by decide +kernel
theorem dX9_load_21 : decode cX9_load 21 = .ok (.aload_n 0, 1) := by decide +kernel
theorem dX9_load_22 : decode cX9_load 22 = .ok (.getfield 12, 3) := by decide +kernel
theorem dX9_load_25 : decode cX9_load 25 = .ok (.getfield 16, 3) := by decide +kernel
theorem dX9_load_28 : decode cX9_load 28 = .ok (.aload_n 0, 1) := by decide +kernel
theorem dX9_load_29 : decode cX9_load 29 = .ok (.getfield 48, 3) := by decide +kernel
theorem dX9_load_32 : decode cX9_load 32 = .ok (.invokevirtual 271, 3) := by decide +kernel
theorem dX9_load_35 : decode cX9_load 35 = .ok (.aload_n 0, 1) := by decide +kernel
theorem dX9_load_36 : decode cX9_load 36 = .ok (.getfield 12, 3) := by decide +kernel
theorem dX9_load_39 : decode cX9_load 39 = .ok (.getfield 16, 3) := by decide +kernel
theorem dX9_load_42 : decode cX9_load 42 = .ok (.getfield 104, 3) := by decide +kernel
theorem dX9_load_45 : decode cX9_load 45 = .ok (.ireturn, 1) := by decide +kernel
set_option maxRecDepth 100000 in
theorem b_X9_load_0 {E : fxE} (hW : fx_Wt E) (a0 : Nat) (M : fxM) (Q : Option fxV → fxM → Prop) (hk0 : kd E a0 = 9) (h : ∃ R1 : Int → fxM → Prop, CtI E m_X6_readInto [.inr (rf E a0 3), .inr (rf E a0 2)] M R1 ∧ ∀ (v1 : Int) (M1 : fxM), R1 v1 M1 → (-2147483648 ≤ v1 ∧ v1 < 2147483648) ∧ ((¬ v1 = (0 : Int) → ∃ R3 : fxM → Prop, CtV E m_X9_recordChange [.inr a0] M1 R3 ∧ ∀ M3 : fxM, R3 M3 → ∃ R4 : fxM → Prop, CtV E m_X2_copyFrom [.inr (rf E (rf E a0 0) 0), .inr (rf E a0 2)] M3 R4 ∧ ∀ M4 : fxM, R4 M4 → Q (some (.inl (M4 (rf E (rf E a0 0) 0) 3))) M4) ∧ (v1 = (0 : Int) → Q (some (.inl (-1000004))) M1))) : fx_At E m_X9_load 0 [some (.inr a0)] [] M Q := by
  refine x_aload_n (pc := 0) dX9_load_0 rfl rfl ?_
  refine x_getr (pc := 1) dX9_load_1 f_RX9_54 hk0 ?_
  refine x_aload_n (pc := 4) dX9_load_4 rfl rfl ?_
  refine x_getr (pc := 5) dX9_load_5 f_RX9_48 hk0 ?_
  obtain ⟨R1, hc1, h⟩ := h
  refine x_callV (pc := 8) (z := m_X6_readInto) (b := (rf E a0 3)) (as := [.inr (rf E a0 2)]) (rest := []) dX9_load_8 c_RX9_267 (by decide) (wk_9_3 hW hk0) rfl (Nat.le_of_ble_eq_true rfl) hc1 (fun r M1 hr => ?_)
  obtain ⟨v1, rfl, hr⟩ := hr
  replace h := h v1 M1 hr
  show fx_At E m_X9_load 11 [some (.inr a0)] [.inl v1] M1 Q
  obtain ⟨g2, h⟩ := h
  refine x_zne (pc := 11) 17 dX9_load_11 (by decide) g2 (fun hc => ?_) (fun hc => ?_)
  · replace h := h.1 hc
    refine x_aload_n (pc := 17) dX9_load_17 rfl rfl ?_
    obtain ⟨R3, hc3, h⟩ := h
    refine x_callV (pc := 18) (z := m_X9_recordChange) (b := a0) (as := []) (rest := []) dX9_load_18 c_RX9_98 (by decide) hk0 rfl (Nat.le_of_ble_eq_true rfl) hc3 (fun r M3 hr => ?_)
    obtain ⟨rfl, hr⟩ := hr
    replace h := h M3 hr
    show fx_At E m_X9_load 21 [some (.inr a0)] [] M3 Q
    refine x_aload_n (pc := 21) dX9_load_21 rfl rfl ?_
    refine x_getr (pc := 22) dX9_load_22 f_RX9_12 hk0 ?_
    refine x_getr (pc := 25) dX9_load_25 f_RX9_16 (wk_9_0 hW hk0) ?_
    refine x_aload_n (pc := 28) dX9_load_28 rfl rfl ?_
    refine x_getr (pc := 29) dX9_load_29 f_RX9_48 hk0 ?_
    obtain ⟨R4, hc4, h⟩ := h
    refine x_callV (pc := 32) (z := m_X2_copyFrom) (b := (rf E (rf E a0 0) 0)) (as := [.inr (rf E a0 2)]) (rest := []) dX9_load_32 c_RX9_271 (by decide) (wk_5_0 hW (wk_9_0 hW hk0)) rfl (Nat.le_of_ble_eq_true rfl) hc4 (fun r M4 hr => ?_)
    obtain ⟨rfl, hr⟩ := hr
    replace h := h M4 hr
    show fx_At E m_X9_load 35 [some (.inr a0)] [] M4 Q
    refine x_aload_n (pc := 35) dX9_load_35 rfl rfl ?_
    refine x_getr (pc := 36) dX9_load_36 f_RX9_12 hk0 ?_
    refine x_getr (pc := 39) dX9_load_39 f_RX9_16 (wk_9_0 hW hk0) ?_
    refine x_geti (pc := 42) dX9_load_42 f_RX9_104 (wk_5_0 hW (wk_9_0 hW hk0)) ?_
    exact x_iret (pc := 45) dX9_load_45 (Or.inl rfl) h
  · replace h := h.2 hc
    refine x_ldc (pc := 14) (n := -1000004) dX9_load_14 k_RX9_135 rfl ?_
    exact x_iret (pc := 16) dX9_load_16 (Or.inl rfl) h
theorem dX9_fault_0 : decode cX9_fault 0 = .ok (.iload_n 1, 1) := by decide +kernel
theorem dX9_fault_1 : decode cX9_fault 1 = .ok (.iconst 0, 1) := by decide +kernel
theorem dX9_fault_2 : decode cX9_fault 2 = .ok (.iconst 1, 1) := by decide +kernel
theorem dX9_fault_3 : decode cX9_fault 3 = .ok (.invokestatic 108, 3) := by decide +kernel
theorem dX9_fault_6 : decode cX9_fault 6 = .ok (.ifCond .ne 6, 3) := by decide +kernel
theorem dX9_fault_9 : decode cX9_fault 9 = .ok (.ldc 93, 2) := by decide +kernel
theorem dX9_fault_11 : decode cX9_fault 11 = .ok (.ireturn, 1) := by decide +kernel
theorem dX9_fault_12 : decode cX9_fault 12 = .ok (.aload_n 0, 1) := by decide +kernel
theorem dX9_fault_13 : decode cX9_fault 13 = .ok (.getfield 54, 3) := by decide +kernel
theorem dX9_fault_16 : decode cX9_fault 16 = .ok (.getfield 275, 3) := by decide +kernel
theorem dX9_fault_19 : decode cX9_fault 19 = .ok (.ifCond .ne 6, 3) := by decide +kernel
theorem dX9_fault_22 : decode cX9_fault 22 = .ok (.ldc 201, 2) := by decide +kernel
theorem dX9_fault_24 : decode cX9_fault 24 = .ok (.ireturn, 1) := by decide +kernel
theorem dX9_fault_25 : decode cX9_fault 25 = .ok (.iload_n 1, 1) := by decide +kernel
theorem dX9_fault_26 : decode cX9_fault 26 = .ok (.ifCond .ne 13, 3) := by decide +kernel
theorem dX9_fault_29 : decode cX9_fault 29 = .ok (.aload_n 0, 1) := by decide +kernel
theorem dX9_fault_30 : decode cX9_fault 30 = .ok (.getfield 54, 3) := by decide +kernel
theorem dX9_fault_33 : decode cX9_fault 33 = .ok (.getfield 278, 3) := by decide +kernel
theorem dX9_fault_36 : decode cX9_fault 36 = .ok (.goto 10, 3) := by decide +kernel
theorem dX9_fault_39 : decode cX9_fault 39 = .ok (.aload_n 0, 1) := by decide +kernel
theorem dX9_fault_40 : decode cX9_fault 40 = .ok (.getfield 54, 3) := by decide +kernel
theorem dX9_fault_43 : decode cX9_fault 43 = .ok (.getfield 275, 3) := by decide +kernel
theorem dX9_fault_46 : decode cX9_fault 46 = .ok (.ireturn, 1) := by decide +kernel
set_option maxRecDepth 100000 in
theorem b_X9_fault_0 {E : fxE} (hW : fx_Wt E) (a0 : Nat) (x1 : Int) (M : fxM) (Q : Option fxV → fxM → Prop) (hk0 : kd E a0 = 9) (h : (-2147483648 ≤ x1 ∧ x1 < 2147483648) ∧ (((0 : Int) ≤ x1 ∧ x1 ≤ (1 : Int) → (-2147483648 ≤ (M (rf E a0 3) 2) ∧ (M (rf E a0 3) 2) < 2147483648) ∧ ((¬ (M (rf E a0 3) 2) = (0 : Int) → ((¬ x1 = (0 : Int) → Q (some (.inl (M (rf E a0 3) 2))) M) ∧ (x1 = (0 : Int) → Q (some (.inl (M (rf E a0 3) 3))) M))) ∧ ((M (rf E a0 3) 2) = (0 : Int) → Q (some (.inl (-1000005))) M))) ∧ (¬ ((0 : Int) ≤ x1 ∧ x1 ≤ (1 : Int)) → Q (some (.inl (-1000002))) M))) : fx_At E m_X9_fault 0 [some (.inr a0), some (.inl x1)] [] M Q := by
  refine x_iload_n (pc := 0) dX9_fault_0 rfl rfl ?_
  refine x_iconst (pc := 1) dX9_fault_1 ?_
  refine x_iconst (pc := 2) dX9_fault_2 ?_
  obtain ⟨g1, h⟩ := h
  refine x_callS (pc := 3) (z := m_X9_isWithin) (as := [.inl x1, .inl 0, .inl 1]) (rest := []) dX9_fault_3 c_RX9_108 (by decide) rfl (Nat.le_of_ble_eq_true rfl) (ct_isWithin hW g1 ⟨by decide, by decide⟩ ⟨by decide, by decide⟩) (fun r M9 hr => ?_)
  obtain ⟨hM9, hr⟩ := hr
  rw [hM9]
  clear hM9
  obtain ⟨hc, rfl⟩ | ⟨hc, rfl⟩ := hr
  · replace h := h.1 hc
    show fx_At E m_X9_fault 6 [some (.inr a0), some (.inl x1)] [.inl 1] _ Q
    refine x_zne (pc := 6) 12 dX9_fault_6 (by decide) ⟨by decide, by decide⟩ (fun _ => ?_) (fun hx => absurd hx (by decide))
    refine x_aload_n (pc := 12) dX9_fault_12 rfl rfl ?_
    refine x_getr (pc := 13) dX9_fault_13 f_RX9_54 hk0 ?_
    refine x_geti (pc := 16) dX9_fault_16 f_RX9_275 (wk_9_3 hW hk0) ?_
    obtain ⟨g3, h⟩ := h
    refine x_zne (pc := 19) 25 dX9_fault_19 (by decide) g3 (fun hc => ?_) (fun hc => ?_)
    · replace h := h.1 hc
      refine x_iload_n (pc := 25) dX9_fault_25 rfl rfl ?_
      refine x_zne (pc := 26) 39 dX9_fault_26 (by decide) g1 (fun hc => ?_) (fun hc => ?_)
      · replace h := h.1 hc
        refine x_aload_n (pc := 39) dX9_fault_39 rfl rfl ?_
        refine x_getr (pc := 40) dX9_fault_40 f_RX9_54 hk0 ?_
        refine x_geti (pc := 43) dX9_fault_43 f_RX9_275 (wk_9_3 hW hk0) ?_
        exact x_iret (pc := 46) dX9_fault_46 (Or.inl rfl) h
      · replace h := h.2 hc
        refine x_aload_n (pc := 29) dX9_fault_29 rfl rfl ?_
        refine x_getr (pc := 30) dX9_fault_30 f_RX9_54 hk0 ?_
        refine x_geti (pc := 33) dX9_fault_33 f_RX9_278 (wk_9_3 hW hk0) ?_
        refine x_goto (pc := 36) 46 dX9_fault_36 (by decide) ?_
        exact x_iret (pc := 46) dX9_fault_46 (Or.inl rfl) h
    · replace h := h.2 hc
      refine x_ldc (pc := 22) (n := -1000005) dX9_fault_22 k_RX9_201 rfl ?_
      exact x_iret (pc := 24) dX9_fault_24 (Or.inl rfl) h
  · replace h := h.2 hc
    show fx_At E m_X9_fault 6 [some (.inr a0), some (.inl x1)] [.inl 0] _ Q
    refine x_zne (pc := 6) 12 dX9_fault_6 (by decide) ⟨by decide, by decide⟩ (fun hx => absurd hx (by decide)) (fun _ => ?_)
    refine x_ldc (pc := 9) (n := -1000002) dX9_fault_9 k_RX9_93 rfl ?_
    exact x_iret (pc := 11) dX9_fault_11 (Or.inl rfl) h
theorem dX9_recordChange_0 : decode cX9_recordChange 0 = .ok (.aload_n 0, 1) := by decide +kernel
theorem dX9_recordChange_1 : decode cX9_recordChange 1 = .ok (.getfield 43, 3) := by decide +kernel
theorem dX9_recordChange_4 : decode cX9_recordChange 4 = .ok (.aload_n 0, 1) := by decide +kernel
theorem dX9_recordChange_5 : decode cX9_recordChange 5 = .ok (.getfield 12, 3) := by decide +kernel
theorem dX9_recordChange_8 : decode cX9_recordChange 8 = .ok (.invokevirtual 292, 3) := by decide +kernel
theorem dX9_recordChange_11 : decode cX9_recordChange 11 = .ok (.aload_n 0, 1) := by decide +kernel
theorem dX9_recordChange_12 : decode cX9_recordChange 12 = .ok (.dup, 1) := by decide +kernel
theorem dX9_recordChange_13 : decode cX9_recordChange 13 = .ok (.getfield 83, 3) := by decide +kernel
theorem dX9_recordChange_16 : decode cX9_recordChange 16 = .ok (.iconst 1, 1) := by decide +kernel
theorem dX9_recordChange_17 : decode cX9_recordChange 17 = .ok (.iadd, 1) := by decide +kernel
theorem dX9_recordChange_18 : decode cX9_recordChange 18 = .ok (.putfield 83, 3) := by decide +kernel
theorem dX9_recordChange_21 : decode cX9_recordChange 21 = .ok (.return_, 1) := by decide +kernel
set_option maxRecDepth 100000 in
theorem b_X9_recordChange_0 {E : fxE} (hW : fx_Wt E) (a0 : Nat) (M : fxM) (Q : Option fxV → fxM → Prop) (hk0 : kd E a0 = 9) (h : ∃ R1 : fxM → Prop, CtV E m_X3_keep [.inr (rf E a0 1), .inr (rf E a0 0)] M R1 ∧ ∀ M1 : fxM, R1 M1 → ∀ M2 : fxM, M2 = mset M1 a0 8 ((M1 a0 8) + 1) → Q none M2) : fx_At E m_X9_recordChange 0 [some (.inr a0)] [] M Q := by
  refine x_aload_n (pc := 0) dX9_recordChange_0 rfl rfl ?_
  refine x_getr (pc := 1) dX9_recordChange_1 f_RX9_43 hk0 ?_
  refine x_aload_n (pc := 4) dX9_recordChange_4 rfl rfl ?_
  refine x_getr (pc := 5) dX9_recordChange_5 f_RX9_12 hk0 ?_
  obtain ⟨R1, hc1, h⟩ := h
  refine x_callV (pc := 8) (z := m_X3_keep) (b := (rf E a0 1)) (as := [.inr (rf E a0 0)]) (rest := []) dX9_recordChange_8 c_RX9_292 (by decide) (wk_9_1 hW hk0) rfl (Nat.le_of_ble_eq_true rfl) hc1 (fun r M1 hr => ?_)
  obtain ⟨rfl, hr⟩ := hr
  replace h := h M1 hr
  show fx_At E m_X9_recordChange 11 [some (.inr a0)] [] M1 Q
  refine x_aload_n (pc := 11) dX9_recordChange_11 rfl rfl ?_
  refine x_dup (pc := 12) dX9_recordChange_12 ?_
  refine x_geti (pc := 13) dX9_recordChange_13 f_RX9_83 hk0 ?_
  refine x_iconst (pc := 16) dX9_recordChange_16 ?_
  refine x_iadd (pc := 17) dX9_recordChange_17 ?_
  refine x_puti (pc := 18) dX9_recordChange_18 f_RX9_83 hk0 (fun M2 hM2 => ?_)
  replace h := h M2 hM2
  exact x_vret (pc := 21) dX9_recordChange_21 rfl h
theorem dX9_viewOf_0 : decode cX9_viewOf 0 = .ok (.aload_n 0, 1) := by decide +kernel
theorem dX9_viewOf_1 : decode cX9_viewOf 1 = .ok (.getfield 60, 3) := by decide +kernel
theorem dX9_viewOf_4 : decode cX9_viewOf 4 = .ok (.iload_n 1, 1) := by decide +kernel
theorem dX9_viewOf_5 : decode cX9_viewOf 5 = .ok (.ifCond .ne 7, 3) := by decide +kernel
theorem dX9_viewOf_8 : decode cX9_viewOf 8 = .ok (.iconst 0, 1) := by decide +kernel
theorem dX9_viewOf_9 : decode cX9_viewOf 9 = .ok (.goto 4, 3) := by decide +kernel
theorem dX9_viewOf_12 : decode cX9_viewOf 12 = .ok (.iconst 1, 1) := by decide +kernel
theorem dX9_viewOf_13 : decode cX9_viewOf 13 = .ok (.aaload, 1) := by decide +kernel
theorem dX9_viewOf_14 : decode cX9_viewOf 14 = .ok (.astore_n 2, 1) := by decide +kernel
theorem dX9_viewOf_15 : decode cX9_viewOf 15 = .ok (.aload_n 2, 1) := by decide +kernel
theorem dX9_viewOf_16 : decode cX9_viewOf 16 = .ok (.getfield 295, 3) := by decide +kernel
theorem dX9_viewOf_19 : decode cX9_viewOf 19 = .ok (.aload_n 0, 1) := by decide +kernel
theorem dX9_viewOf_20 : decode cX9_viewOf 20 = .ok (.getfield 83, 3) := by decide +kernel
theorem dX9_viewOf_23 : decode cX9_viewOf 23 = .ok (.if_icmp .eq 23, 3) := by decide +kernel
theorem dX9_viewOf_26 : decode cX9_viewOf 26 = .ok (.aload_n 2, 1) := by decide +kernel
theorem dX9_viewOf_27 : decode cX9_viewOf 27 = .ok (.aload_n 0, 1) := by decide +kernel
theorem dX9_viewOf_28 : decode cX9_viewOf 28 = .ok (.getfield 12, 3) := by decide +kernel
theorem dX9_viewOf_31 : decode cX9_viewOf 31 = .ok (.getfield 16, 3) := by decide +kernel
theorem dX9_viewOf_34 : decode cX9_viewOf 34 = .ok (.iload_n 1, 1) := by decide +kernel
theorem dX9_viewOf_35 : decode cX9_viewOf 35 = .ok (.invokevirtual 298, 3) := by decide +kernel
theorem dX9_viewOf_38 : decode cX9_viewOf 38 = .ok (.aload_n 2, 1) := by decide +kernel
theorem dX9_viewOf_39 : decode cX9_viewOf 39 = .ok (.aload_n 0, 1) := by decide +kernel
theorem dX9_viewOf_40 : decode cX9_viewOf 40 = .ok (.getfield 83, 3) := by decide +kernel
theorem dX9_viewOf_43 : decode cX9_viewOf 43 = .ok (.putfield 295, 3) := by decide +kernel
theorem dX9_viewOf_46 : decode cX9_viewOf 46 = .ok (.aload_n 2, 1) := by decide +kernel
theorem dX9_viewOf_47 : decode cX9_viewOf 47 = .ok (.areturn, 1) := by decide +kernel
set_option maxRecDepth 100000 in
theorem b_X9_viewOf_0 {E : fxE} (hW : fx_Wt E) (a0 : Nat) (x1 : Int) (M : fxM) (Q : Option fxV → fxM → Prop) (hk0 : kd E a0 = 9) (h : (-2147483648 ≤ x1 ∧ x1 < 2147483648) ∧ ((¬ x1 = (0 : Int) → fx_At E m_X9_viewOf 13 [some (.inr a0), some (.inl x1), none] [.inl 1, .inr (rf E a0 4)] M Q) ∧ (x1 = (0 : Int) → fx_At E m_X9_viewOf 13 [some (.inr a0), some (.inl x1), none] [.inl 0, .inr (rf E a0 4)] M Q))) : fx_At E m_X9_viewOf 0 [some (.inr a0), some (.inl x1), none] [] M Q := by
  refine x_aload_n (pc := 0) dX9_viewOf_0 rfl rfl ?_
  refine x_getr (pc := 1) dX9_viewOf_1 f_RX9_60 hk0 ?_
  refine x_iload_n (pc := 4) dX9_viewOf_4 rfl rfl ?_
  obtain ⟨g1, h⟩ := h
  refine x_zne (pc := 5) 12 dX9_viewOf_5 (by decide) g1 (fun hc => ?_) (fun hc => ?_)
  · replace h := h.1 hc
    refine x_iconst (pc := 12) dX9_viewOf_12 ?_
    exact h
  · replace h := h.2 hc
    refine x_iconst (pc := 8) dX9_viewOf_8 ?_
    refine x_goto (pc := 9) 13 dX9_viewOf_9 (by decide) ?_
    exact h
set_option maxRecDepth 100000 in
theorem b_X9_viewOf_13 {E : fxE} (hW : fx_Wt E) (a0 : Nat) (x1 : Int) (b0 : Nat) (s1 : Int) (M : fxM) (Q : Option fxV → fxM → Prop) (hk0 : kd E a0 = 9) (hs0 : kd E b0 = 16) (h : (0 ≤ s1 ∧ s1 < (ln E b0 : Int)) ∧ (-2147483648 ≤ (M (rf E b0 s1.toNat) 8) ∧ (M (rf E b0 s1.toNat) 8) < 2147483648) ∧ (-2147483648 ≤ (M a0 8) ∧ (M a0 8) < 2147483648) ∧ (((M (rf E b0 s1.toNat) 8) = (M a0 8) → Q (some (.inr (rf E b0 s1.toNat))) M) ∧ (¬ (M (rf E b0 s1.toNat) 8) = (M a0 8) → ∃ R4 : fxM → Prop, CtV E m_X8_look [.inr (rf E b0 s1.toNat), .inr (rf E (rf E a0 0) 0), .inl x1] M R4 ∧ ∀ M4 : fxM, R4 M4 → ∀ M5 : fxM, M5 = mset M4 (rf E b0 s1.toNat) 8 (M4 a0 8) → Q (some (.inr (rf E b0 s1.toNat))) M5))) : fx_At E m_X9_viewOf 13 [some (.inr a0), some (.inl x1), none] [.inl s1, .inr b0] M Q := by
  obtain ⟨g1, h⟩ := h
  refine x_aald (pc := 13) dX9_viewOf_13 hs0 (by decide) (by decide) rfl g1 ?_
  refine x_astore_n (pc := 14) (lv' := [some (.inr a0), some (.inl x1), some (.inr (rf E b0 s1.toNat))]) dX9_viewOf_14 rfl (by decide) rfl ?_
  refine x_aload_n (pc := 15) dX9_viewOf_15 rfl rfl ?_
  refine x_geti (pc := 16) dX9_viewOf_16 f_RX9_295 (we_16 (i := s1) hW hs0 rfl g1) ?_
  refine x_aload_n (pc := 19) dX9_viewOf_19 rfl rfl ?_
  refine x_geti (pc := 20) dX9_viewOf_20 f_RX9_83 hk0 ?_
  obtain ⟨g2, h⟩ := h
  obtain ⟨g3, h⟩ := h
  refine x_ceq (pc := 23) 46 dX9_viewOf_23 (by decide) ⟨g2, g3⟩ (fun hc => ?_) (fun hc => ?_)
  · replace h := h.1 hc
    refine x_aload_n (pc := 46) dX9_viewOf_46 rfl rfl ?_
    exact x_aret (pc := 47) dX9_viewOf_47 rfl h
  · replace h := h.2 hc
    refine x_aload_n (pc := 26) dX9_viewOf_26 rfl rfl ?_
    refine x_aload_n (pc := 27) dX9_viewOf_27 rfl rfl ?_
    refine x_getr (pc := 28) dX9_viewOf_28 f_RX9_12 hk0 ?_
    refine x_getr (pc := 31) dX9_viewOf_31 f_RX9_16 (wk_9_0 hW hk0) ?_
    refine x_iload_n (pc := 34) dX9_viewOf_34 rfl rfl ?_
    obtain ⟨R4, hc4, h⟩ := h
    refine x_callV (pc := 35) (z := m_X8_look) (b := (rf E b0 s1.toNat)) (as := [.inr (rf E (rf E a0 0) 0), .inl x1]) (rest := []) dX9_viewOf_35 c_RX9_298 (by decide) (we_16 (i := s1) hW hs0 rfl g1) rfl (Nat.le_of_ble_eq_true rfl) hc4 (fun r M4 hr => ?_)
    obtain ⟨rfl, hr⟩ := hr
    replace h := h M4 hr
    show fx_At E m_X9_viewOf 38 [some (.inr a0), some (.inl x1), some (.inr (rf E b0 s1.toNat))] [] M4 Q
    refine x_aload_n (pc := 38) dX9_viewOf_38 rfl rfl ?_
    refine x_aload_n (pc := 39) dX9_viewOf_39 rfl rfl ?_
    refine x_geti (pc := 40) dX9_viewOf_40 f_RX9_83 hk0 ?_
    refine x_puti (pc := 43) dX9_viewOf_43 f_RX9_295 (we_16 (i := s1) hW hs0 rfl g1) (fun M5 hM5 => ?_)
    replace h := h M5 hM5
    refine x_aload_n (pc := 46) dX9_viewOf_46 rfl rfl ?_
    exact x_aret (pc := 47) dX9_viewOf_47 rfl h
theorem dX9_traceOf_0 : decode cX9_traceOf 0 = .ok (.aload_n 0, 1) := by decide +kernel
theorem dX9_traceOf_1 : decode cX9_traceOf 1 = .ok (.getfield 66, 3) := by decide +kernel
theorem dX9_traceOf_4 : decode cX9_traceOf 4 = .ok (.iload_n 1, 1) := by decide +kernel
theorem dX9_traceOf_5 : decode cX9_traceOf 5 = .ok (.iload_n 2, 1) := by decide +kernel
theorem dX9_traceOf_6 : decode cX9_traceOf 6 = .ok (.invokestatic 302, 3) := by decide +kernel
theorem dX9_traceOf_9 : decode cX9_traceOf 9 = .ok (.aaload, 1) := by decide +kernel
theorem dX9_traceOf_10 : decode cX9_traceOf 10 = .ok (.astore_n 3, 1) := by decide +kernel
theorem dX9_traceOf_11 : decode cX9_traceOf 11 = .ok (.aload_n 3, 1) := by decide +kernel
theorem dX9_traceOf_12 : decode cX9_traceOf 12 = .ok (.getfield 305, 3) := by decide +kernel
theorem dX9_traceOf_15 : decode cX9_traceOf 15 = .ok (.aload_n 0, 1) := by decide +kernel
theorem dX9_traceOf_16 : decode cX9_traceOf 16 = .ok (.getfield 83, 3) := by decide +kernel
theorem dX9_traceOf_19 : decode cX9_traceOf 19 = .ok (.if_icmp .ne 11, 3) := by decide +kernel
theorem dX9_traceOf_22 : decode cX9_traceOf 22 = .ok (.aload_n 3, 1) := by decide +kernel
theorem dX9_traceOf_23 : decode cX9_traceOf 23 = .ok (.getfield 306, 3) := by decide +kernel
theorem dX9_traceOf_26 : decode cX9_traceOf 26 = .ok (.iload_n 2, 1) := by decide +kernel
theorem dX9_traceOf_27 : decode cX9_traceOf 27 = .ok (.if_icmp .eq 21, 3) := by decide +kernel
theorem dX9_traceOf_30 : decode cX9_traceOf 30 = .ok (.aload_n 3, 1) := by decide +kernel
theorem dX9_traceOf_31 : decode cX9_traceOf 31 = .ok (.aload_n 0, 1) := by decide +kernel
theorem dX9_traceOf_32 : decode cX9_traceOf 32 = .ok (.iload_n 1, 1) := by decide +kernel
theorem dX9_traceOf_33 : decode cX9_traceOf 33 = .ok (.invokevirtual 176, 3) := by decide +kernel
theorem dX9_traceOf_36 : decode cX9_traceOf 36 = .ok (.iload_n 2, 1) := by decide +kernel
theorem dX9_traceOf_37 : decode cX9_traceOf 37 = .ok (.invokevirtual 309, 3) := by decide +kernel
theorem dX9_traceOf_40 : decode cX9_traceOf 40 = .ok (.aload_n 3, 1) := by decide +kernel
theorem dX9_traceOf_41 : decode cX9_traceOf 41 = .ok (.aload_n 0, 1) := by decide +kernel
theorem dX9_traceOf_42 : decode cX9_traceOf 42 = .ok (.getfield 83, 3) := by decide +kernel
theorem dX9_traceOf_45 : decode cX9_traceOf 45 = .ok (.putfield 305, 3) := by decide +kernel
theorem dX9_traceOf_48 : decode cX9_traceOf 48 = .ok (.aload_n 3, 1) := by decide +kernel
theorem dX9_traceOf_49 : decode cX9_traceOf 49 = .ok (.areturn, 1) := by decide +kernel
set_option maxRecDepth 100000 in
theorem b_X9_traceOf_0 {E : fxE} (hW : fx_Wt E) (a0 : Nat) (x1 : Int) (x2 : Int) (M : fxM) (Q : Option fxV → fxM → Prop) (hk0 : kd E a0 = 9) (h : ∃ R1 : Int → fxM → Prop, CtI E m_X9_slotOf [.inl x1, .inl x2] M R1 ∧ ∀ (v1 : Int) (M1 : fxM), R1 v1 M1 → (0 ≤ v1 ∧ v1 < 8) ∧ (-2147483648 ≤ (M1 (rf E (rf E a0 5) v1.toNat) 2) ∧ (M1 (rf E (rf E a0 5) v1.toNat) 2) < 2147483648) ∧ (-2147483648 ≤ (M1 a0 8) ∧ (M1 a0 8) < 2147483648) ∧ ((¬ (M1 (rf E (rf E a0 5) v1.toNat) 2) = (M1 a0 8) → ∃ R5 : Nat → fxM → Prop, CtA E m_X9_viewOf [.inr a0, .inl x1] M1 R5 ∧ ∀ (v5 : Nat) (M5 : fxM), R5 v5 M5 → kd E v5 = 8 ∧ ∃ R6 : fxM → Prop, CtV E m_X7_compute [.inr (rf E (rf E a0 5) v1.toNat), .inr v5, .inl x2] M5 R6 ∧ ∀ M6 : fxM, R6 M6 → ∀ M7 : fxM, M7 = mset M6 (rf E (rf E a0 5) v1.toNat) 2 (M6 a0 8) → Q (some (.inr (rf E (rf E a0 5) v1.toNat))) M7) ∧ ((M1 (rf E (rf E a0 5) v1.toNat) 2) = (M1 a0 8) → (-2147483648 ≤ (M1 (rf E (rf E a0 5) v1.toNat) 1) ∧ (M1 (rf E (rf E a0 5) v1.toNat) 1) < 2147483648) ∧ (-2147483648 ≤ x2 ∧ x2 < 2147483648) ∧ (((M1 (rf E (rf E a0 5) v1.toNat) 1) = x2 → Q (some (.inr (rf E (rf E a0 5) v1.toNat))) M1) ∧ (¬ (M1 (rf E (rf E a0 5) v1.toNat) 1) = x2 → ∃ R10 : Nat → fxM → Prop, CtA E m_X9_viewOf [.inr a0, .inl x1] M1 R10 ∧ ∀ (v10 : Nat) (M10 : fxM), R10 v10 M10 → kd E v10 = 8 ∧ ∃ R11 : fxM → Prop, CtV E m_X7_compute [.inr (rf E (rf E a0 5) v1.toNat), .inr v10, .inl x2] M10 R11 ∧ ∀ M11 : fxM, R11 M11 → ∀ M12 : fxM, M12 = mset M11 (rf E (rf E a0 5) v1.toNat) 2 (M11 a0 8) → Q (some (.inr (rf E (rf E a0 5) v1.toNat))) M12))))) : fx_At E m_X9_traceOf 0 [some (.inr a0), some (.inl x1), some (.inl x2), none] [] M Q := by
  refine x_aload_n (pc := 0) dX9_traceOf_0 rfl rfl ?_
  refine x_getr (pc := 1) dX9_traceOf_1 f_RX9_66 hk0 ?_
  refine x_iload_n (pc := 4) dX9_traceOf_4 rfl rfl ?_
  refine x_iload_n (pc := 5) dX9_traceOf_5 rfl rfl ?_
  obtain ⟨R1, hc1, h⟩ := h
  refine x_callS (pc := 6) (z := m_X9_slotOf) (as := [.inl x1, .inl x2]) (rest := [.inr (rf E a0 5)]) dX9_traceOf_6 c_RX9_302 (by decide) rfl (Nat.le_of_ble_eq_true rfl) hc1 (fun r M1 hr => ?_)
  obtain ⟨v1, rfl, hr⟩ := hr
  replace h := h v1 M1 hr
  show fx_At E m_X9_traceOf 9 [some (.inr a0), some (.inl x1), some (.inl x2), none] [.inl v1, .inr (rf E a0 5)] M1 Q
  obtain ⟨g2, h⟩ := h
  refine x_aald (pc := 9) dX9_traceOf_9 (wk_9_5 hW hk0) (by decide) (by decide) (wl_9_5 hW hk0) g2 ?_
  refine x_astore_n (pc := 10) (lv' := [some (.inr a0), some (.inl x1), some (.inl x2), some (.inr (rf E (rf E a0 5) v1.toNat))]) dX9_traceOf_10 rfl (by decide) rfl ?_
  refine x_aload_n (pc := 11) dX9_traceOf_11 rfl rfl ?_
  refine x_geti (pc := 12) dX9_traceOf_12 f_RX9_305 (we_15 (i := v1) hW (wk_9_5 hW hk0) (wl_9_5 hW hk0) g2) ?_
  refine x_aload_n (pc := 15) dX9_traceOf_15 rfl rfl ?_
  refine x_geti (pc := 16) dX9_traceOf_16 f_RX9_83 hk0 ?_
  obtain ⟨g3, h⟩ := h
  obtain ⟨g4, h⟩ := h
  refine x_cne (pc := 19) 30 dX9_traceOf_19 (by decide) ⟨g3, g4⟩ (fun hc => ?_) (fun hc => ?_)
  · replace h := h.1 hc
    refine x_aload_n (pc := 30) dX9_traceOf_30 rfl rfl ?_
    refine x_aload_n (pc := 31) dX9_traceOf_31 rfl rfl ?_
    refine x_iload_n (pc := 32) dX9_traceOf_32 rfl rfl ?_
    obtain ⟨R5, hc5, h⟩ := h
    refine x_callV (pc := 33) (z := m_X9_viewOf) (b := a0) (as := [.inl x1]) (rest := [.inr (rf E (rf E a0 5) v1.toNat)]) dX9_traceOf_33 c_RX9_176 (by decide) hk0 rfl (Nat.le_of_ble_eq_true rfl) hc5 (fun r M5 hr => ?_)
    obtain ⟨v5, rfl, hr⟩ := hr
    obtain ⟨hv5, h⟩ := h v5 M5 hr
    show fx_At E m_X9_traceOf 36 [some (.inr a0), some (.inl x1), some (.inl x2), some (.inr (rf E (rf E a0 5) v1.toNat))] [.inr v5, .inr (rf E (rf E a0 5) v1.toNat)] M5 Q
    refine x_iload_n (pc := 36) dX9_traceOf_36 rfl rfl ?_
    obtain ⟨R6, hc6, h⟩ := h
    refine x_callV (pc := 37) (z := m_X7_compute) (b := (rf E (rf E a0 5) v1.toNat)) (as := [.inr v5, .inl x2]) (rest := []) dX9_traceOf_37 c_RX9_309 (by decide) (we_15 (i := v1) hW (wk_9_5 hW hk0) (wl_9_5 hW hk0) g2) rfl (Nat.le_of_ble_eq_true rfl) hc6 (fun r M6 hr => ?_)
    obtain ⟨rfl, hr⟩ := hr
    replace h := h M6 hr
    show fx_At E m_X9_traceOf 40 [some (.inr a0), some (.inl x1), some (.inl x2), some (.inr (rf E (rf E a0 5) v1.toNat))] [] M6 Q
    refine x_aload_n (pc := 40) dX9_traceOf_40 rfl rfl ?_
    refine x_aload_n (pc := 41) dX9_traceOf_41 rfl rfl ?_
    refine x_geti (pc := 42) dX9_traceOf_42 f_RX9_83 hk0 ?_
    refine x_puti (pc := 45) dX9_traceOf_45 f_RX9_305 (we_15 (i := v1) hW (wk_9_5 hW hk0) (wl_9_5 hW hk0) g2) (fun M7 hM7 => ?_)
    replace h := h M7 hM7
    refine x_aload_n (pc := 48) dX9_traceOf_48 rfl rfl ?_
    exact x_aret (pc := 49) dX9_traceOf_49 rfl h
  · replace h := h.2 hc
    refine x_aload_n (pc := 22) dX9_traceOf_22 rfl rfl ?_
    refine x_geti (pc := 23) dX9_traceOf_23 f_RX9_306 (we_15 (i := v1) hW (wk_9_5 hW hk0) (wl_9_5 hW hk0) g2) ?_
    refine x_iload_n (pc := 26) dX9_traceOf_26 rfl rfl ?_
    obtain ⟨g8, h⟩ := h
    obtain ⟨g9, h⟩ := h
    refine x_ceq (pc := 27) 48 dX9_traceOf_27 (by decide) ⟨g8, g9⟩ (fun hc => ?_) (fun hc => ?_)
    · replace h := h.1 hc
      refine x_aload_n (pc := 48) dX9_traceOf_48 rfl rfl ?_
      exact x_aret (pc := 49) dX9_traceOf_49 rfl h
    · replace h := h.2 hc
      refine x_aload_n (pc := 30) dX9_traceOf_30 rfl rfl ?_
      refine x_aload_n (pc := 31) dX9_traceOf_31 rfl rfl ?_
      refine x_iload_n (pc := 32) dX9_traceOf_32 rfl rfl ?_
      obtain ⟨R10, hc10, h⟩ := h
      refine x_callV (pc := 33) (z := m_X9_viewOf) (b := a0) (as := [.inl x1]) (rest := [.inr (rf E (rf E a0 5) v1.toNat)]) dX9_traceOf_33 c_RX9_176 (by decide) hk0 rfl (Nat.le_of_ble_eq_true rfl) hc10 (fun r M10 hr => ?_)
      obtain ⟨v10, rfl, hr⟩ := hr
      obtain ⟨hv10, h⟩ := h v10 M10 hr
      show fx_At E m_X9_traceOf 36 [some (.inr a0), some (.inl x1), some (.inl x2), some (.inr (rf E (rf E a0 5) v1.toNat))] [.inr v10, .inr (rf E (rf E a0 5) v1.toNat)] M10 Q
      refine x_iload_n (pc := 36) dX9_traceOf_36 rfl rfl ?_
      obtain ⟨R11, hc11, h⟩ := h
      refine x_callV (pc := 37) (z := m_X7_compute) (b := (rf E (rf E a0 5) v1.toNat)) (as := [.inr v10, .inl x2]) (rest := []) dX9_traceOf_37 c_RX9_309 (by decide) (we_15 (i := v1) hW (wk_9_5 hW hk0) (wl_9_5 hW hk0) g2) rfl (Nat.le_of_ble_eq_true rfl) hc11 (fun r M11 hr => ?_)
      obtain ⟨rfl, hr⟩ := hr
      replace h := h M11 hr
      show fx_At E m_X9_traceOf 40 [some (.inr a0), some (.inl x1), some (.inl x2), some (.inr (rf E (rf E a0 5) v1.toNat))] [] M11 Q
      refine x_aload_n (pc := 40) dX9_traceOf_40 rfl rfl ?_
      refine x_aload_n (pc := 41) dX9_traceOf_41 rfl rfl ?_
      refine x_geti (pc := 42) dX9_traceOf_42 f_RX9_83 hk0 ?_
      refine x_puti (pc := 45) dX9_traceOf_45 f_RX9_305 (we_15 (i := v1) hW (wk_9_5 hW hk0) (wl_9_5 hW hk0) g2) (fun M12 hM12 => ?_)
      replace h := h M12 hM12
      refine x_aload_n (pc := 48) dX9_traceOf_48 rfl rfl ?_
      exact x_aret (pc := 49) dX9_traceOf_49 rfl h
theorem dX9_slotOf_0 : decode cX9_slotOf 0 = .ok (.iload_n 0, 1) := by decide +kernel
theorem dX9_slotOf_1 : decode cX9_slotOf 1 = .ok (.ifCond .ne 7, 3) := by decide +kernel
theorem dX9_slotOf_4 : decode cX9_slotOf 4 = .ok (.iconst 0, 1) := by decide +kernel
theorem dX9_slotOf_5 : decode cX9_slotOf 5 = .ok (.goto 4, 3) := by decide +kernel
theorem dX9_slotOf_8 : decode cX9_slotOf 8 = .ok (.iconst 4, 1) := by decide +kernel
theorem dX9_slotOf_9 : decode cX9_slotOf 9 = .ok (.istore_n 2, 1) := by decide +kernel
theorem dX9_slotOf_10 : decode cX9_slotOf 10 = .ok (.iconst 0, 1) := by decide +kernel
theorem dX9_slotOf_11 : decode cX9_slotOf 11 = .ok (.istore_n 3, 1) := by decide +kernel
theorem dX9_slotOf_12 : decode cX9_slotOf 12 = .ok (.iload_n 3, 1) := by decide +kernel
theorem dX9_slotOf_13 : decode cX9_slotOf 13 = .ok (.getstatic 313, 3) := by decide +kernel
theorem dX9_slotOf_16 : decode cX9_slotOf 16 = .ok (.arraylength, 1) := by decide +kernel
theorem dX9_slotOf_17 : decode cX9_slotOf 17 = .ok (.if_icmp .ge 22, 3) := by decide +kernel
theorem dX9_slotOf_20 : decode cX9_slotOf 20 = .ok (.getstatic 313, 3) := by decide +kernel
theorem dX9_slotOf_23 : decode cX9_slotOf 23 = .ok (.iload_n 3, 1) := by decide +kernel
theorem dX9_slotOf_24 : decode cX9_slotOf 24 = .ok (.iaload, 1) := by decide +kernel
theorem dX9_slotOf_25 : decode cX9_slotOf 25 = .ok (.iload_n 1, 1) := by decide +kernel
theorem dX9_slotOf_26 : decode cX9_slotOf 26 = .ok (.if_icmp .ne 7, 3) := by decide +kernel
theorem dX9_slotOf_29 : decode cX9_slotOf 29 = .ok (.iload_n 2, 1) := by decide +kernel
theorem dX9_slotOf_30 : decode cX9_slotOf 30 = .ok (.iload_n 3, 1) := by decide +kernel
theorem dX9_slotOf_31 : decode cX9_slotOf 31 = .ok (.iadd, 1) := by decide +kernel
theorem dX9_slotOf_32 : decode cX9_slotOf 32 = .ok (.ireturn, 1) := by decide +kernel
theorem dX9_slotOf_33 : decode cX9_slotOf 33 = .ok (.iinc 3 1, 3) := by decide +kernel
theorem dX9_slotOf_36 : decode cX9_slotOf 36 = .ok (.goto (-24), 3) := by decide +kernel
theorem dX9_slotOf_39 : decode cX9_slotOf 39 = .ok (.iload_n 2, 1) := by decide +kernel
theorem dX9_slotOf_40 : decode cX9_slotOf 40 = .ok (.iconst 4, 1) := by decide +kernel
theorem dX9_slotOf_41 : decode cX9_slotOf 41 = .ok (.iadd, 1) := by decide +kernel
theorem dX9_slotOf_42 : decode cX9_slotOf 42 = .ok (.iconst 1, 1) := by decide +kernel
theorem dX9_slotOf_43 : decode cX9_slotOf 43 = .ok (.isub, 1) := by decide +kernel
theorem dX9_slotOf_44 : decode cX9_slotOf 44 = .ok (.ireturn, 1) := by decide +kernel
set_option maxRecDepth 100000 in
theorem b_X9_slotOf_0 {E : fxE} (hW : fx_Wt E) (x0 : Int) (x1 : Int) (M : fxM) (Q : Option fxV → fxM → Prop)  (h : (-2147483648 ≤ x0 ∧ x0 < 2147483648) ∧ ((¬ x0 = (0 : Int) → fx_At E m_X9_slotOf 12 [some (.inl x0), some (.inl x1), some (.inl 4), some (.inl 0)] [] M Q) ∧ (x0 = (0 : Int) → fx_At E m_X9_slotOf 12 [some (.inl x0), some (.inl x1), some (.inl 0), some (.inl 0)] [] M Q))) : fx_At E m_X9_slotOf 0 [some (.inl x0), some (.inl x1), none, none] [] M Q := by
  refine x_iload_n (pc := 0) dX9_slotOf_0 rfl rfl ?_
  obtain ⟨g1, h⟩ := h
  refine x_zne (pc := 1) 8 dX9_slotOf_1 (by decide) g1 (fun hc => ?_) (fun hc => ?_)
  · replace h := h.1 hc
    refine x_iconst (pc := 8) dX9_slotOf_8 ?_
    refine x_istore_n (pc := 9) (lv' := [some (.inl x0), some (.inl x1), some (.inl 4), none]) dX9_slotOf_9 rfl (by decide) rfl ?_
    refine x_iconst (pc := 10) dX9_slotOf_10 ?_
    refine x_istore_n (pc := 11) (lv' := [some (.inl x0), some (.inl x1), some (.inl 4), some (.inl 0)]) dX9_slotOf_11 rfl (by decide) rfl ?_
    exact h
  · replace h := h.2 hc
    refine x_iconst (pc := 4) dX9_slotOf_4 ?_
    refine x_goto (pc := 5) 9 dX9_slotOf_5 (by decide) ?_
    refine x_istore_n (pc := 9) (lv' := [some (.inl x0), some (.inl x1), some (.inl 0), none]) dX9_slotOf_9 rfl (by decide) rfl ?_
    refine x_iconst (pc := 10) dX9_slotOf_10 ?_
    refine x_istore_n (pc := 11) (lv' := [some (.inl x0), some (.inl x1), some (.inl 0), some (.inl 0)]) dX9_slotOf_11 rfl (by decide) rfl ?_
    exact h
set_option maxRecDepth 100000 in
theorem b_X9_slotOf_12 {E : fxE} (hW : fx_Wt E) (x0 : Int) (x1 : Int) (x2 : Int) (x3 : Int) (M : fxM) (Q : Option fxV → fxM → Prop)  (h : (-2147483648 ≤ x3 ∧ x3 < 2147483648) ∧ (((3 : Int) ≤ x3 → Q (some (.inl ((x2 + 4) - 1))) M) ∧ (¬ (3 : Int) ≤ x3 → (0 ≤ x3 ∧ x3 < 3) ∧ (-2147483648 ≤ (sv 2 x3.toNat) ∧ (sv 2 x3.toNat) < 2147483648) ∧ (-2147483648 ≤ x1 ∧ x1 < 2147483648) ∧ ((¬ (sv 2 x3.toNat) = x1 → fx_At E m_X9_slotOf 12 [some (.inl x0), some (.inl x1), some (.inl x2), some (.inl (x3 + 1))] [] M Q) ∧ ((sv 2 x3.toNat) = x1 → Q (some (.inl (x2 + x3))) M))))) : fx_At E m_X9_slotOf 12 [some (.inl x0), some (.inl x1), some (.inl x2), some (.inl x3)] [] M Q := by
  refine x_iload_n (pc := 12) dX9_slotOf_12 rfl rfl ?_
  refine x_gets (pc := 13) 2 dX9_slotOf_13 (by decide) k_RX9_313 ?_
  refine x_tlen (pc := 16) 2 (by decide) dX9_slotOf_16 ?_
  obtain ⟨g1, h⟩ := h
  refine x_cge (pc := 17) 39 dX9_slotOf_17 (by decide) ⟨g1, ⟨by decide, by decide⟩⟩ (fun hc => ?_) (fun hc => ?_)
  · replace h := h.1 hc
    refine x_iload_n (pc := 39) dX9_slotOf_39 rfl rfl ?_
    refine x_iconst (pc := 40) dX9_slotOf_40 ?_
    refine x_iadd (pc := 41) dX9_slotOf_41 ?_
    refine x_iconst (pc := 42) dX9_slotOf_42 ?_
    refine x_isub (pc := 43) dX9_slotOf_43 ?_
    exact x_iret (pc := 44) dX9_slotOf_44 (Or.inl rfl) h
  · replace h := h.2 hc
    refine x_gets (pc := 20) 2 dX9_slotOf_20 (by decide) k_RX9_313 ?_
    refine x_iload_n (pc := 23) dX9_slotOf_23 rfl rfl ?_
    obtain ⟨g2, h⟩ := h
    refine x_tald (pc := 24) 2 (by decide) dX9_slotOf_24 g2 ?_
    refine x_iload_n (pc := 25) dX9_slotOf_25 rfl rfl ?_
    obtain ⟨g3, h⟩ := h
    obtain ⟨g4, h⟩ := h
    refine x_cne (pc := 26) 33 dX9_slotOf_26 (by decide) ⟨g3, g4⟩ (fun hc => ?_) (fun hc => ?_)
    · replace h := h.1 hc
      refine x_iinc (pc := 33) (lv' := [some (.inl x0), some (.inl x1), some (.inl x2), some (.inl (x3 + 1))]) dX9_slotOf_33 rfl (by decide) rfl ?_
      refine x_goto (pc := 36) 12 dX9_slotOf_36 (by decide) ?_
      exact h
    · replace h := h.2 hc
      refine x_iload_n (pc := 29) dX9_slotOf_29 rfl rfl ?_
      refine x_iload_n (pc := 30) dX9_slotOf_30 rfl rfl ?_
      refine x_iadd (pc := 31) dX9_slotOf_31 ?_
      exact x_iret (pc := 32) dX9_slotOf_32 (Or.inl rfl) h
theorem dX9_stitchedAt_0 : decode cX9_stitchedAt 0 = .ok (.sipush 5000, 3) := by decide +kernel
theorem dX9_stitchedAt_3 : decode cX9_stitchedAt 3 = .ok (.aload_n 0, 1) := by decide +kernel
theorem dX9_stitchedAt_4 : decode cX9_stitchedAt 4 = .ok (.getfield 12, 3) := by decide +kernel
theorem dX9_stitchedAt_7 : decode cX9_stitchedAt 7 = .ok (.getfield 26, 3) := by decide +kernel
theorem dX9_stitchedAt_10 : decode cX9_stitchedAt 10 = .ok (.iconst 3, 1) := by decide +kernel
theorem dX9_stitchedAt_11 : decode cX9_stitchedAt 11 = .ok (.iaload, 1) := by decide +kernel
theorem dX9_stitchedAt_12 : decode cX9_stitchedAt 12 = .ok (.iadd, 1) := by decide +kernel
theorem dX9_stitchedAt_13 : decode cX9_stitchedAt 13 = .ok (.istore_n 3, 1) := by decide +kernel
theorem dX9_stitchedAt_14 : decode cX9_stitchedAt 14 = .ok (.iconst 0, 1) := by decide +kernel
theorem dX9_stitchedAt_15 : decode cX9_stitchedAt 15 = .ok (.istore 4, 2) := by decide +kernel
theorem dX9_stitchedAt_17 : decode cX9_stitchedAt 17 = .ok (.iload 4, 2) := by decide +kernel
theorem dX9_stitchedAt_19 : decode cX9_stitchedAt 19 = .ok (.getstatic 313, 3) := by decide +kernel
theorem dX9_stitchedAt_22 : decode cX9_stitchedAt 22 = .ok (.arraylength, 1) := by decide +kernel
theorem dX9_stitchedAt_23 : decode cX9_stitchedAt 23 = .ok (.if_icmp .ge 46, 3) := by decide +kernel
theorem dX9_stitchedAt_26 : decode cX9_stitchedAt 26 = .ok (.getstatic 313, 3) := by decide +kernel
theorem dX9_stitchedAt_29 : decode cX9_stitchedAt 29 = .ok (.iload 4, 2) := by decide +kernel
theorem dX9_stitchedAt_31 : decode cX9_stitchedAt 31 = .ok (.iaload, 1) := by decide +kernel
theorem dX9_stitchedAt_32 : decode cX9_stitchedAt 32 = .ok (.istore 5, 2) := by decide +kernel
theorem dX9_stitchedAt_34 : decode cX9_stitchedAt 34 = .ok (.aload_n 0, 1) := by decide +kernel
theorem dX9_stitchedAt_35 : decode cX9_stitchedAt 35 = .ok (.iload_n 1, 1) := by decide +kernel
theorem dX9_stitchedAt_36 : decode cX9_stitchedAt 36 = .ok (.iload 5, 2) := by decide +kernel
theorem dX9_stitchedAt_38 : decode cX9_stitchedAt 38 = .ok (.invokevirtual 189, 3) := by decide +kernel
theorem dX9_stitchedAt_41 : decode cX9_stitchedAt 41 = .ok (.iload_n 2, 1) := by decide +kernel
theorem dX9_stitchedAt_42 : decode cX9_stitchedAt 42 = .ok (.invokevirtual 193, 3) := by decide +kernel
theorem dX9_stitchedAt_45 : decode cX9_stitchedAt 45 = .ok (.istore 6, 2) := by decide +kernel
theorem dX9_stitchedAt_47 : decode cX9_stitchedAt 47 = .ok (.iload 6, 2) := by decide +kernel
theorem dX9_stitchedAt_49 : decode cX9_stitchedAt 49 = .ok (.iload_n 3, 1) := by decide +kernel
theorem dX9_stitchedAt_50 : decode cX9_stitchedAt 50 = .ok (.if_icmp .lt 13, 3) := by decide +kernel
theorem dX9_stitchedAt_53 : decode cX9_stitchedAt 53 = .ok (.iload 6, 2) := by decide +kernel
theorem dX9_stitchedAt_55 : decode cX9_stitchedAt 55 = .ok (.sipush 300, 3) := by decide +kernel
theorem dX9_stitchedAt_58 : decode cX9_stitchedAt 58 = .ok (.iload 5, 2) := by decide +kernel
theorem dX9_stitchedAt_60 : decode cX9_stitchedAt 60 = .ok (.imul, 1) := by decide +kernel
theorem dX9_stitchedAt_61 : decode cX9_stitchedAt 61 = .ok (.isub, 1) := by decide +kernel
theorem dX9_stitchedAt_62 : decode cX9_stitchedAt 62 = .ok (.ireturn, 1) := by decide +kernel
theorem dX9_stitchedAt_63 : decode cX9_stitchedAt 63 = .ok (.iinc 4 1, 3) := by decide +kernel
theorem dX9_stitchedAt_66 : decode cX9_stitchedAt 66 = .ok (.goto (-49), 3) := by decide +kernel
theorem dX9_stitchedAt_69 : decode cX9_stitchedAt 69 = .ok (.ldc 201, 2) := by decide +kernel
theorem dX9_stitchedAt_71 : decode cX9_stitchedAt 71 = .ok (.ireturn, 1) := by decide +kernel
set_option maxRecDepth 100000 in
theorem b_X9_stitchedAt_0 {E : fxE} (hW : fx_Wt E) (a0 : Nat) (x1 : Int) (x2 : Int) (M : fxM) (Q : Option fxV → fxM → Prop) (hk0 : kd E a0 = 9) (h : fx_At E m_X9_stitchedAt 17 [some (.inr a0), some (.inl x1), some (.inl x2), some (.inl (5000 + (M (rf E (rf E a0 0) 2) 3))), some (.inl 0), none, none] [] M Q) : fx_At E m_X9_stitchedAt 0 [some (.inr a0), some (.inl x1), some (.inl x2), none, none, none, none] [] M Q := by
  refine x_sipush (pc := 0) dX9_stitchedAt_0 (by decide +kernel) ?_
  refine x_aload_n (pc := 3) dX9_stitchedAt_3 rfl rfl ?_
  refine x_getr (pc := 4) dX9_stitchedAt_4 f_RX9_12 hk0 ?_
  refine x_getr (pc := 7) dX9_stitchedAt_7 f_RX9_26 (wk_9_0 hW hk0) ?_
  refine x_iconst (pc := 10) dX9_stitchedAt_10 ?_
  refine x_iald (pc := 11) dX9_stitchedAt_11 (wk_5_2 hW (wk_9_0 hW hk0)) (wl_5_2 hW (wk_9_0 hW hk0)) ⟨by decide, by decide⟩ ?_
  refine x_iadd (pc := 12) dX9_stitchedAt_12 ?_
  refine x_istore_n (pc := 13) (lv' := [some (.inr a0), some (.inl x1), some (.inl x2), some (.inl (5000 + (M (rf E (rf E a0 0) 2) 3))), none, none, none]) dX9_stitchedAt_13 rfl (by decide) rfl ?_
  refine x_iconst (pc := 14) dX9_stitchedAt_14 ?_
  refine x_istore (pc := 15) (lv' := [some (.inr a0), some (.inl x1), some (.inl x2), some (.inl (5000 + (M (rf E (rf E a0 0) 2) 3))), some (.inl 0), none, none]) dX9_stitchedAt_15 (by decide) rfl ?_
  exact h
set_option maxRecDepth 100000 in
theorem b_X9_stitchedAt_17 {E : fxE} (hW : fx_Wt E) (a0 : Nat) (x1 : Int) (x2 : Int) (x3 : Int) (x4 : Int) (M : fxM) (Q : Option fxV → fxM → Prop) (hk0 : kd E a0 = 9) (h : (-2147483648 ≤ x4 ∧ x4 < 2147483648) ∧ (((3 : Int) ≤ x4 → Q (some (.inl (-1000005))) M) ∧ (¬ (3 : Int) ≤ x4 → (0 ≤ x4 ∧ x4 < 3) ∧ ∃ R3 : Nat → fxM → Prop, CtA E m_X9_traceOf [.inr a0, .inl x1, .inl (sv 2 x4.toNat)] M R3 ∧ ∀ (v3 : Nat) (M3 : fxM), R3 v3 M3 → kd E v3 = 7 ∧ (-2147483648 ≤ x2 ∧ x2 < 2147483648) ∧ (-2147483648 ≤ (tat E M3 v3 x2) ∧ (tat E M3 v3 x2) < 2147483648) ∧ (-2147483648 ≤ x3 ∧ x3 < 2147483648) ∧ (((tat E M3 v3 x2) < x3 → fx_At E m_X9_stitchedAt 17 [some (.inr a0), some (.inl x1), some (.inl x2), some (.inl x3), some (.inl (x4 + 1)), none, none] [] M3 Q) ∧ (¬ (tat E M3 v3 x2) < x3 → Q (some (.inl ((tat E M3 v3 x2) - (300 * (sv 2 x4.toNat))))) M3))))) : fx_At E m_X9_stitchedAt 17 [some (.inr a0), some (.inl x1), some (.inl x2), some (.inl x3), some (.inl x4), none, none] [] M Q := by
  refine x_iload (pc := 17) dX9_stitchedAt_17 rfl ?_
  refine x_gets (pc := 19) 2 dX9_stitchedAt_19 (by decide) k_RX9_313 ?_
  refine x_tlen (pc := 22) 2 (by decide) dX9_stitchedAt_22 ?_
  obtain ⟨g1, h⟩ := h
  refine x_cge (pc := 23) 69 dX9_stitchedAt_23 (by decide) ⟨g1, ⟨by decide, by decide⟩⟩ (fun hc => ?_) (fun hc => ?_)
  · replace h := h.1 hc
    refine x_ldc (pc := 69) (n := -1000005) dX9_stitchedAt_69 k_RX9_201 rfl ?_
    exact x_iret (pc := 71) dX9_stitchedAt_71 (Or.inl rfl) h
  · replace h := h.2 hc
    refine x_gets (pc := 26) 2 dX9_stitchedAt_26 (by decide) k_RX9_313 ?_
    refine x_iload (pc := 29) dX9_stitchedAt_29 rfl ?_
    obtain ⟨g2, h⟩ := h
    refine x_tald (pc := 31) 2 (by decide) dX9_stitchedAt_31 g2 ?_
    refine x_istore (pc := 32) (lv' := [some (.inr a0), some (.inl x1), some (.inl x2), some (.inl x3), some (.inl x4), some (.inl (sv 2 x4.toNat)), none]) dX9_stitchedAt_32 (by decide) rfl ?_
    refine x_aload_n (pc := 34) dX9_stitchedAt_34 rfl rfl ?_
    refine x_iload_n (pc := 35) dX9_stitchedAt_35 rfl rfl ?_
    refine x_iload (pc := 36) dX9_stitchedAt_36 rfl ?_
    obtain ⟨R3, hc3, h⟩ := h
    refine x_callV (pc := 38) (z := m_X9_traceOf) (b := a0) (as := [.inl x1, .inl (sv 2 x4.toNat)]) (rest := []) dX9_stitchedAt_38 c_RX9_189 (by decide) hk0 rfl (Nat.le_of_ble_eq_true rfl) hc3 (fun r M3 hr => ?_)
    obtain ⟨v3, rfl, hr⟩ := hr
    obtain ⟨hv3, h⟩ := h v3 M3 hr
    show fx_At E m_X9_stitchedAt 41 [some (.inr a0), some (.inl x1), some (.inl x2), some (.inl x3), some (.inl x4), some (.inl (sv 2 x4.toNat)), none] [.inr v3] M3 Q
    refine x_iload_n (pc := 41) dX9_stitchedAt_41 rfl rfl ?_
    obtain ⟨g4, h⟩ := h
    refine x_callV (pc := 42) (z := m_X7_at) (b := v3) (as := [.inl x2]) (rest := []) dX9_stitchedAt_42 c_RX9_193 (by decide) hv3 rfl (Nat.le_of_ble_eq_true rfl) (ct_X7_at hW hv3 g4) (fun r M9 hr => ?_)
    obtain ⟨hM9, hr⟩ := hr
    rw [hM9, hr]
    clear hM9 hr
    show fx_At E m_X9_stitchedAt 45 [some (.inr a0), some (.inl x1), some (.inl x2), some (.inl x3), some (.inl x4), some (.inl (sv 2 x4.toNat)), none] [.inl (tat E M3 v3 x2)] _ Q
    refine x_istore (pc := 45) (lv' := [some (.inr a0), some (.inl x1), some (.inl x2), some (.inl x3), some (.inl x4), some (.inl (sv 2 x4.toNat)), some (.inl (tat E M3 v3 x2))]) dX9_stitchedAt_45 (by decide) rfl ?_
    refine x_iload (pc := 47) dX9_stitchedAt_47 rfl ?_
    refine x_iload_n (pc := 49) dX9_stitchedAt_49 rfl rfl ?_
    obtain ⟨g5, h⟩ := h
    obtain ⟨g6, h⟩ := h
    refine x_clt (pc := 50) 63 dX9_stitchedAt_50 (by decide) ⟨g5, g6⟩ (fun hc => ?_) (fun hc => ?_)
    · replace h := h.1 hc
      refine x_iinc (pc := 63) (lv' := [some (.inr a0), some (.inl x1), some (.inl x2), some (.inl x3), some (.inl (x4 + 1)), some (.inl (sv 2 x4.toNat)), some (.inl (tat E M3 v3 x2))]) dX9_stitchedAt_63 rfl (by decide) rfl ?_
      refine x_goto (pc := 66) 17 dX9_stitchedAt_66 (by decide) ?_
      refine x_weak (lv := [some (.inr a0), some (.inl x1), some (.inl x2), some (.inl x3), some (.inl (x4 + 1)), none, none]) (by simp [lvle]) ?_
      exact h
    · replace h := h.2 hc
      refine x_iload (pc := 53) dX9_stitchedAt_53 rfl ?_
      refine x_sipush (pc := 55) dX9_stitchedAt_55 (by decide +kernel) ?_
      refine x_iload (pc := 58) dX9_stitchedAt_58 rfl ?_
      refine x_imul (pc := 60) dX9_stitchedAt_60 ?_
      refine x_isub (pc := 61) dX9_stitchedAt_61 ?_
      exact x_iret (pc := 62) dX9_stitchedAt_62 (Or.inl rfl) h
theorem dX9_eventsOf_0 : decode cX9_eventsOf 0 = .ok (.aload_n 0, 1) := by decide +kernel
theorem dX9_eventsOf_1 : decode cX9_eventsOf 1 = .ok (.getfield 72, 3) := by decide +kernel
theorem dX9_eventsOf_4 : decode cX9_eventsOf 4 = .ok (.iload_n 1, 1) := by decide +kernel
theorem dX9_eventsOf_5 : decode cX9_eventsOf 5 = .ok (.ifCond .ne 7, 3) := by decide +kernel
theorem dX9_eventsOf_8 : decode cX9_eventsOf 8 = .ok (.iconst 0, 1) := by decide +kernel
theorem dX9_eventsOf_9 : decode cX9_eventsOf 9 = .ok (.goto 4, 3) := by decide +kernel
theorem dX9_eventsOf_12 : decode cX9_eventsOf 12 = .ok (.iconst 1, 1) := by decide +kernel
theorem dX9_eventsOf_13 : decode cX9_eventsOf 13 = .ok (.aaload, 1) := by decide +kernel
theorem dX9_eventsOf_14 : decode cX9_eventsOf 14 = .ok (.astore_n 3, 1) := by decide +kernel
theorem dX9_eventsOf_15 : decode cX9_eventsOf 15 = .ok (.aload_n 3, 1) := by decide +kernel
theorem dX9_eventsOf_16 : decode cX9_eventsOf 16 = .ok (.getfield 316, 3) := by decide +kernel
theorem dX9_eventsOf_19 : decode cX9_eventsOf 19 = .ok (.aload_n 0, 1) := by decide +kernel
theorem dX9_eventsOf_20 : decode cX9_eventsOf 20 = .ok (.getfield 83, 3) := by decide +kernel
theorem dX9_eventsOf_23 : decode cX9_eventsOf 23 = .ok (.if_icmp .ne 11, 3) := by decide +kernel
theorem dX9_eventsOf_26 : decode cX9_eventsOf 26 = .ok (.aload_n 3, 1) := by decide +kernel
theorem dX9_eventsOf_27 : decode cX9_eventsOf 27 = .ok (.getfield 317, 3) := by decide +kernel
theorem dX9_eventsOf_30 : decode cX9_eventsOf 30 = .ok (.iload_n 2, 1) := by decide +kernel
theorem dX9_eventsOf_31 : decode cX9_eventsOf 31 = .ok (.if_icmp .eq 44, 3) := by decide +kernel
theorem dX9_eventsOf_34 : decode cX9_eventsOf 34 = .ok (.aload_n 3, 1) := by decide +kernel
theorem dX9_eventsOf_35 : decode cX9_eventsOf 35 = .ok (.aload_n 0, 1) := by decide +kernel
theorem dX9_eventsOf_36 : decode cX9_eventsOf 36 = .ok (.iload_n 1, 1) := by decide +kernel
theorem dX9_eventsOf_37 : decode cX9_eventsOf 37 = .ok (.iload_n 2, 1) := by decide +kernel
theorem dX9_eventsOf_38 : decode cX9_eventsOf 38 = .ok (.invokevirtual 189, 3) := by decide +kernel
theorem dX9_eventsOf_41 : decode cX9_eventsOf 41 = .ok (.aload_n 0, 1) := by decide +kernel
theorem dX9_eventsOf_42 : decode cX9_eventsOf 42 = .ok (.getfield 12, 3) := by decide +kernel
theorem dX9_eventsOf_45 : decode cX9_eventsOf 45 = .ok (.getfield 26, 3) := by decide +kernel
theorem dX9_eventsOf_48 : decode cX9_eventsOf 48 = .ok (.iconst 0, 1) := by decide +kernel
theorem dX9_eventsOf_49 : decode cX9_eventsOf 49 = .ok (.iaload, 1) := by decide +kernel
theorem dX9_eventsOf_50 : decode cX9_eventsOf 50 = .ok (.aload_n 0, 1) := by decide +kernel
theorem dX9_eventsOf_51 : decode cX9_eventsOf 51 = .ok (.getfield 12, 3) := by decide +kernel
theorem dX9_eventsOf_54 : decode cX9_eventsOf 54 = .ok (.getfield 26, 3) := by decide +kernel
theorem dX9_eventsOf_57 : decode cX9_eventsOf 57 = .ok (.iconst 1, 1) := by decide +kernel
theorem dX9_eventsOf_58 : decode cX9_eventsOf 58 = .ok (.iaload, 1) := by decide +kernel
theorem dX9_eventsOf_59 : decode cX9_eventsOf 59 = .ok (.invokevirtual 318, 3) := by decide +kernel
theorem dX9_eventsOf_62 : decode cX9_eventsOf 62 = .ok (.aload_n 3, 1) := by decide +kernel
theorem dX9_eventsOf_63 : decode cX9_eventsOf 63 = .ok (.iload_n 2, 1) := by decide +kernel
theorem dX9_eventsOf_64 : decode cX9_eventsOf 64 = .ok (.putfield 317, 3) := by decide +kernel
theorem dX9_eventsOf_67 : decode cX9_eventsOf 67 = .ok (.aload_n 3, 1) := by decide +kernel
theorem dX9_eventsOf_68 : decode cX9_eventsOf 68 = .ok (.aload_n 0, 1) := by decide +kernel
theorem dX9_eventsOf_69 : decode cX9_eventsOf 69 = .ok (.getfield 83, 3) := by decide +kernel
theorem dX9_eventsOf_72 : decode cX9_eventsOf 72 = .ok (.putfield 316, 3) := by decide +kernel
theorem dX9_eventsOf_75 : decode cX9_eventsOf 75 = .ok (.aload_n 3, 1) := by decide +kernel
theorem dX9_eventsOf_76 : decode cX9_eventsOf 76 = .ok (.areturn, 1) := by decide +kernel
set_option maxRecDepth 100000 in
theorem b_X9_eventsOf_0 {E : fxE} (hW : fx_Wt E) (a0 : Nat) (x1 : Int) (x2 : Int) (M : fxM) (Q : Option fxV → fxM → Prop) (hk0 : kd E a0 = 9) (h : (-2147483648 ≤ x1 ∧ x1 < 2147483648) ∧ ((¬ x1 = (0 : Int) → (-2147483648 ≤ (M (rf E (rf E a0 6) 1) 8) ∧ (M (rf E (rf E a0 6) 1) 8) < 2147483648) ∧ (-2147483648 ≤ (M a0 8) ∧ (M a0 8) < 2147483648) ∧ ((¬ (M (rf E (rf E a0 6) 1) 8) = (M a0 8) → fx_At E m_X9_eventsOf 34 [some (.inr a0), some (.inl x1), some (.inl x2), some (.inr (rf E (rf E a0 6) 1))] [] M Q) ∧ ((M (rf E (rf E a0 6) 1) 8) = (M a0 8) → (-2147483648 ≤ (M (rf E (rf E a0 6) 1) 7) ∧ (M (rf E (rf E a0 6) 1) 7) < 2147483648) ∧ (-2147483648 ≤ x2 ∧ x2 < 2147483648) ∧ (((M (rf E (rf E a0 6) 1) 7) = x2 → Q (some (.inr (rf E (rf E a0 6) 1))) M) ∧ (¬ (M (rf E (rf E a0 6) 1) 7) = x2 → fx_At E m_X9_eventsOf 34 [some (.inr a0), some (.inl x1), some (.inl x2), some (.inr (rf E (rf E a0 6) 1))] [] M Q))))) ∧ (x1 = (0 : Int) → (-2147483648 ≤ (M (rf E (rf E a0 6) 0) 8) ∧ (M (rf E (rf E a0 6) 0) 8) < 2147483648) ∧ (-2147483648 ≤ (M a0 8) ∧ (M a0 8) < 2147483648) ∧ ((¬ (M (rf E (rf E a0 6) 0) 8) = (M a0 8) → fx_At E m_X9_eventsOf 34 [some (.inr a0), some (.inl x1), some (.inl x2), some (.inr (rf E (rf E a0 6) 0))] [] M Q) ∧ ((M (rf E (rf E a0 6) 0) 8) = (M a0 8) → (-2147483648 ≤ (M (rf E (rf E a0 6) 0) 7) ∧ (M (rf E (rf E a0 6) 0) 7) < 2147483648) ∧ (-2147483648 ≤ x2 ∧ x2 < 2147483648) ∧ (((M (rf E (rf E a0 6) 0) 7) = x2 → Q (some (.inr (rf E (rf E a0 6) 0))) M) ∧ (¬ (M (rf E (rf E a0 6) 0) 7) = x2 → fx_At E m_X9_eventsOf 34 [some (.inr a0), some (.inl x1), some (.inl x2), some (.inr (rf E (rf E a0 6) 0))] [] M Q))))))) : fx_At E m_X9_eventsOf 0 [some (.inr a0), some (.inl x1), some (.inl x2), none] [] M Q := by
  refine x_aload_n (pc := 0) dX9_eventsOf_0 rfl rfl ?_
  refine x_getr (pc := 1) dX9_eventsOf_1 f_RX9_72 hk0 ?_
  refine x_iload_n (pc := 4) dX9_eventsOf_4 rfl rfl ?_
  obtain ⟨g1, h⟩ := h
  refine x_zne (pc := 5) 12 dX9_eventsOf_5 (by decide) g1 (fun hc => ?_) (fun hc => ?_)
  · replace h := h.1 hc
    refine x_iconst (pc := 12) dX9_eventsOf_12 ?_
    refine x_aald (pc := 13) dX9_eventsOf_13 (wk_9_6 hW hk0) (by decide) (by decide) (wl_9_6 hW hk0) ⟨by decide, by decide⟩ ?_
    refine x_astore_n (pc := 14) (lv' := [some (.inr a0), some (.inl x1), some (.inl x2), some (.inr (rf E (rf E a0 6) 1))]) dX9_eventsOf_14 rfl (by decide) rfl ?_
    refine x_aload_n (pc := 15) dX9_eventsOf_15 rfl rfl ?_
    refine x_geti (pc := 16) dX9_eventsOf_16 f_RX9_316 (we_13 (i := 1) hW (wk_9_6 hW hk0) (wl_9_6 hW hk0) ⟨by decide, by decide⟩) ?_
    refine x_aload_n (pc := 19) dX9_eventsOf_19 rfl rfl ?_
    refine x_geti (pc := 20) dX9_eventsOf_20 f_RX9_83 hk0 ?_
    obtain ⟨g2, h⟩ := h
    obtain ⟨g3, h⟩ := h
    refine x_cne (pc := 23) 34 dX9_eventsOf_23 (by decide) ⟨g2, g3⟩ (fun hc => ?_) (fun hc => ?_)
    · replace h := h.1 hc
      exact h
    · replace h := h.2 hc
      refine x_aload_n (pc := 26) dX9_eventsOf_26 rfl rfl ?_
      refine x_geti (pc := 27) dX9_eventsOf_27 f_RX9_317 (we_13 (i := 1) hW (wk_9_6 hW hk0) (wl_9_6 hW hk0) ⟨by decide, by decide⟩) ?_
      refine x_iload_n (pc := 30) dX9_eventsOf_30 rfl rfl ?_
      obtain ⟨g4, h⟩ := h
      obtain ⟨g5, h⟩ := h
      refine x_ceq (pc := 31) 75 dX9_eventsOf_31 (by decide) ⟨g4, g5⟩ (fun hc => ?_) (fun hc => ?_)
      · replace h := h.1 hc
        refine x_aload_n (pc := 75) dX9_eventsOf_75 rfl rfl ?_
        exact x_aret (pc := 76) dX9_eventsOf_76 rfl h
      · replace h := h.2 hc
        exact h
  · replace h := h.2 hc
    refine x_iconst (pc := 8) dX9_eventsOf_8 ?_
    refine x_goto (pc := 9) 13 dX9_eventsOf_9 (by decide) ?_
    refine x_aald (pc := 13) dX9_eventsOf_13 (wk_9_6 hW hk0) (by decide) (by decide) (wl_9_6 hW hk0) ⟨by decide, by decide⟩ ?_
    refine x_astore_n (pc := 14) (lv' := [some (.inr a0), some (.inl x1), some (.inl x2), some (.inr (rf E (rf E a0 6) 0))]) dX9_eventsOf_14 rfl (by decide) rfl ?_
    refine x_aload_n (pc := 15) dX9_eventsOf_15 rfl rfl ?_
    refine x_geti (pc := 16) dX9_eventsOf_16 f_RX9_316 (we_13 (i := 0) hW (wk_9_6 hW hk0) (wl_9_6 hW hk0) ⟨by decide, by decide⟩) ?_
    refine x_aload_n (pc := 19) dX9_eventsOf_19 rfl rfl ?_
    refine x_geti (pc := 20) dX9_eventsOf_20 f_RX9_83 hk0 ?_
    obtain ⟨g6, h⟩ := h
    obtain ⟨g7, h⟩ := h
    refine x_cne (pc := 23) 34 dX9_eventsOf_23 (by decide) ⟨g6, g7⟩ (fun hc => ?_) (fun hc => ?_)
    · replace h := h.1 hc
      exact h
    · replace h := h.2 hc
      refine x_aload_n (pc := 26) dX9_eventsOf_26 rfl rfl ?_
      refine x_geti (pc := 27) dX9_eventsOf_27 f_RX9_317 (we_13 (i := 0) hW (wk_9_6 hW hk0) (wl_9_6 hW hk0) ⟨by decide, by decide⟩) ?_
      refine x_iload_n (pc := 30) dX9_eventsOf_30 rfl rfl ?_
      obtain ⟨g8, h⟩ := h
      obtain ⟨g9, h⟩ := h
      refine x_ceq (pc := 31) 75 dX9_eventsOf_31 (by decide) ⟨g8, g9⟩ (fun hc => ?_) (fun hc => ?_)
      · replace h := h.1 hc
        refine x_aload_n (pc := 75) dX9_eventsOf_75 rfl rfl ?_
        exact x_aret (pc := 76) dX9_eventsOf_76 rfl h
      · replace h := h.2 hc
        exact h
set_option maxRecDepth 100000 in
theorem b_X9_eventsOf_34 {E : fxE} (hW : fx_Wt E) (a0 : Nat) (x1 : Int) (x2 : Int) (a3 : Nat) (M : fxM) (Q : Option fxV → fxM → Prop) (hk0 : kd E a0 = 9) (hk3 : kd E a3 = 1) (h : ∃ R1 : Nat → fxM → Prop, CtA E m_X9_traceOf [.inr a0, .inl x1, .inl x2] M R1 ∧ ∀ (v1 : Nat) (M1 : fxM), R1 v1 M1 → kd E v1 = 7 ∧ ∃ R2 : fxM → Prop, CtV E m_X1_find [.inr a3, .inr v1, .inl (M1 (rf E (rf E a0 0) 2) 0), .inl (M1 (rf E (rf E a0 0) 2) 1)] M1 R2 ∧ ∀ M2 : fxM, R2 M2 → ∀ M3 : fxM, M3 = mset M2 a3 7 x2 → ∀ M4 : fxM, M4 = mset M3 a3 8 (M3 a0 8) → Q (some (.inr a3)) M4) : fx_At E m_X9_eventsOf 34 [some (.inr a0), some (.inl x1), some (.inl x2), some (.inr a3)] [] M Q := by
  refine x_aload_n (pc := 34) dX9_eventsOf_34 rfl rfl ?_
  refine x_aload_n (pc := 35) dX9_eventsOf_35 rfl rfl ?_
  refine x_iload_n (pc := 36) dX9_eventsOf_36 rfl rfl ?_
  refine x_iload_n (pc := 37) dX9_eventsOf_37 rfl rfl ?_
  obtain ⟨R1, hc1, h⟩ := h
  refine x_callV (pc := 38) (z := m_X9_traceOf) (b := a0) (as := [.inl x1, .inl x2]) (rest := [.inr a3]) dX9_eventsOf_38 c_RX9_189 (by decide) hk0 rfl (Nat.le_of_ble_eq_true rfl) hc1 (fun r M1 hr => ?_)
  obtain ⟨v1, rfl, hr⟩ := hr
  obtain ⟨hv1, h⟩ := h v1 M1 hr
  show fx_At E m_X9_eventsOf 41 [some (.inr a0), some (.inl x1), some (.inl x2), some (.inr a3)] [.inr v1, .inr a3] M1 Q
  refine x_aload_n (pc := 41) dX9_eventsOf_41 rfl rfl ?_
  refine x_getr (pc := 42) dX9_eventsOf_42 f_RX9_12 hk0 ?_
  refine x_getr (pc := 45) dX9_eventsOf_45 f_RX9_26 (wk_9_0 hW hk0) ?_
  refine x_iconst (pc := 48) dX9_eventsOf_48 ?_
  refine x_iald (pc := 49) dX9_eventsOf_49 (wk_5_2 hW (wk_9_0 hW hk0)) (wl_5_2 hW (wk_9_0 hW hk0)) ⟨by decide, by decide⟩ ?_
  refine x_aload_n (pc := 50) dX9_eventsOf_50 rfl rfl ?_
  refine x_getr (pc := 51) dX9_eventsOf_51 f_RX9_12 hk0 ?_
  refine x_getr (pc := 54) dX9_eventsOf_54 f_RX9_26 (wk_9_0 hW hk0) ?_
  refine x_iconst (pc := 57) dX9_eventsOf_57 ?_
  refine x_iald (pc := 58) dX9_eventsOf_58 (wk_5_2 hW (wk_9_0 hW hk0)) (wl_5_2 hW (wk_9_0 hW hk0)) ⟨by decide, by decide⟩ ?_
  obtain ⟨R2, hc2, h⟩ := h
  refine x_callV (pc := 59) (z := m_X1_find) (b := a3) (as := [.inr v1, .inl (M1 (rf E (rf E a0 0) 2) 0), .inl (M1 (rf E (rf E a0 0) 2) 1)]) (rest := []) dX9_eventsOf_59 c_RX9_318 (by decide) hk3 rfl (Nat.le_of_ble_eq_true rfl) hc2 (fun r M2 hr => ?_)
  obtain ⟨rfl, hr⟩ := hr
  replace h := h M2 hr
  show fx_At E m_X9_eventsOf 62 [some (.inr a0), some (.inl x1), some (.inl x2), some (.inr a3)] [] M2 Q
  refine x_aload_n (pc := 62) dX9_eventsOf_62 rfl rfl ?_
  refine x_iload_n (pc := 63) dX9_eventsOf_63 rfl rfl ?_
  refine x_puti (pc := 64) dX9_eventsOf_64 f_RX9_317 hk3 (fun M3 hM3 => ?_)
  replace h := h M3 hM3
  refine x_aload_n (pc := 67) dX9_eventsOf_67 rfl rfl ?_
  refine x_aload_n (pc := 68) dX9_eventsOf_68 rfl rfl ?_
  refine x_geti (pc := 69) dX9_eventsOf_69 f_RX9_83 hk0 ?_
  refine x_puti (pc := 72) dX9_eventsOf_72 f_RX9_316 hk3 (fun M4 hM4 => ?_)
  replace h := h M4 hM4
  refine x_aload_n (pc := 75) dX9_eventsOf_75 rfl rfl ?_
  exact x_aret (pc := 76) dX9_eventsOf_76 rfl h
theorem dX9_joinSides_0 : decode cX9_joinSides 0 = .ok (.aload_n 0, 1) := by decide +kernel
theorem dX9_joinSides_1 : decode cX9_joinSides 1 = .ok (.getfield 79, 3) := by decide +kernel
theorem dX9_joinSides_4 : decode cX9_joinSides 4 = .ok (.aload_n 1, 1) := by decide +kernel
theorem dX9_joinSides_5 : decode cX9_joinSides 5 = .ok (.aload_n 2, 1) := by decide +kernel
theorem dX9_joinSides_6 : decode cX9_joinSides 6 = .ok (.aload_n 0, 1) := by decide +kernel
theorem dX9_joinSides_7 : decode cX9_joinSides 7 = .ok (.getfield 12, 3) := by decide +kernel
theorem dX9_joinSides_10 : decode cX9_joinSides 10 = .ok (.getfield 16, 3) := by decide +kernel
theorem dX9_joinSides_13 : decode cX9_joinSides 13 = .ok (.invokevirtual 94, 3) := by decide +kernel
theorem dX9_joinSides_16 : decode cX9_joinSides 16 = .ok (.aload_n 0, 1) := by decide +kernel
theorem dX9_joinSides_17 : decode cX9_joinSides 17 = .ok (.getfield 12, 3) := by decide +kernel
theorem dX9_joinSides_20 : decode cX9_joinSides 20 = .ok (.getfield 26, 3) := by decide +kernel
theorem dX9_joinSides_23 : decode cX9_joinSides 23 = .ok (.iconst 2, 1) := by decide +kernel
theorem dX9_joinSides_24 : decode cX9_joinSides 24 = .ok (.iaload, 1) := by decide +kernel
theorem dX9_joinSides_25 : decode cX9_joinSides 25 = .ok (.invokevirtual 322, 3) := by decide +kernel
theorem dX9_joinSides_28 : decode cX9_joinSides 28 = .ok (.return_, 1) := by decide +kernel
set_option maxRecDepth 100000 in
theorem b_X9_joinSides_0 {E : fxE} (hW : fx_Wt E) (a0 : Nat) (a1 : Nat) (a2 : Nat) (M : fxM) (Q : Option fxV → fxM → Prop) (hk0 : kd E a0 = 9) (hk1 : kd E a1 = 1) (hk2 : kd E a2 = 1) (h : (0 ≤ M (rf E (rf E a0 0) 0) 3 ∧ M (rf E (rf E a0 0) 0) 3 ≤ 8) ∧ ∃ R2 : fxM → Prop, CtV E m_X4_pair [.inr (rf E a0 7), .inr a1, .inr a2, .inl (fsum E M (rf E (rf E a0 0) 0) (M (rf E (rf E a0 0) 0) 3).toNat), .inl (M (rf E (rf E a0 0) 2) 2)] M R2 ∧ ∀ M2 : fxM, R2 M2 → Q none M2) : fx_At E m_X9_joinSides 0 [some (.inr a0), some (.inr a1), some (.inr a2)] [] M Q := by
  refine x_aload_n (pc := 0) dX9_joinSides_0 rfl rfl ?_
  refine x_getr (pc := 1) dX9_joinSides_1 f_RX9_79 hk0 ?_
  refine x_aload_n (pc := 4) dX9_joinSides_4 rfl rfl ?_
  refine x_aload_n (pc := 5) dX9_joinSides_5 rfl rfl ?_
  refine x_aload_n (pc := 6) dX9_joinSides_6 rfl rfl ?_
  refine x_getr (pc := 7) dX9_joinSides_7 f_RX9_12 hk0 ?_
  refine x_getr (pc := 10) dX9_joinSides_10 f_RX9_16 (wk_9_0 hW hk0) ?_
  obtain ⟨g1, h⟩ := h
  refine x_callV (pc := 13) (z := m_X2_totalLength) (b := (rf E (rf E a0 0) 0)) (as := []) (rest := [.inr a2, .inr a1, .inr (rf E a0 7)]) dX9_joinSides_13 c_RX9_94 (by decide) (wk_5_0 hW (wk_9_0 hW hk0)) rfl (Nat.le_of_ble_eq_true rfl) (ct_X2_totalLength hW (wk_5_0 hW (wk_9_0 hW hk0)) g1) (fun r M9 hr => ?_)
  obtain ⟨hM9, hr⟩ := hr
  rw [hM9, hr]
  clear hM9 hr
  show fx_At E m_X9_joinSides 16 [some (.inr a0), some (.inr a1), some (.inr a2)] [.inl (fsum E M (rf E (rf E a0 0) 0) (M (rf E (rf E a0 0) 0) 3).toNat), .inr a2, .inr a1, .inr (rf E a0 7)] _ Q
  refine x_aload_n (pc := 16) dX9_joinSides_16 rfl rfl ?_
  refine x_getr (pc := 17) dX9_joinSides_17 f_RX9_12 hk0 ?_
  refine x_getr (pc := 20) dX9_joinSides_20 f_RX9_26 (wk_9_0 hW hk0) ?_
  refine x_iconst (pc := 23) dX9_joinSides_23 ?_
  refine x_iald (pc := 24) dX9_joinSides_24 (wk_5_2 hW (wk_9_0 hW hk0)) (wl_5_2 hW (wk_9_0 hW hk0)) ⟨by decide, by decide⟩ ?_
  obtain ⟨R2, hc2, h⟩ := h
  refine x_callV (pc := 25) (z := m_X4_pair) (b := (rf E a0 7)) (as := [.inr a1, .inr a2, .inl (fsum E M (rf E (rf E a0 0) 0) (M (rf E (rf E a0 0) 0) 3).toNat), .inl (M (rf E (rf E a0 0) 2) 2)]) (rest := []) dX9_joinSides_25 c_RX9_322 (by decide) (wk_9_7 hW hk0) rfl (Nat.le_of_ble_eq_true rfl) hc2 (fun r M2 hr => ?_)
  obtain ⟨rfl, hr⟩ := hr
  replace h := h M2 hr
  show fx_At E m_X9_joinSides 28 [some (.inr a0), some (.inr a1), some (.inr a2)] [] M2 Q
  exact x_vret (pc := 28) dX9_joinSides_28 rfl h
theorem dX9_routeOfEnd_0 : decode cX9_routeOfEnd 0 = .ok (.iload_n 2, 1) := by decide +kernel
theorem dX9_routeOfEnd_1 : decode cX9_routeOfEnd 1 = .ok (.ldc 201, 2) := by decide +kernel
theorem dX9_routeOfEnd_3 : decode cX9_routeOfEnd 3 = .ok (.if_icmp .ne 6, 3) := by decide +kernel
theorem dX9_routeOfEnd_6 : decode cX9_routeOfEnd 6 = .ok (.ldc 201, 2) := by decide +kernel
theorem dX9_routeOfEnd_8 : decode cX9_routeOfEnd 8 = .ok (.ireturn, 1) := by decide +kernel
theorem dX9_routeOfEnd_9 : decode cX9_routeOfEnd 9 = .ok (.iload_n 1, 1) := by decide +kernel
theorem dX9_routeOfEnd_10 : decode cX9_routeOfEnd 10 = .ok (.ifCond .ne 7, 3) := by decide +kernel
theorem dX9_routeOfEnd_13 : decode cX9_routeOfEnd 13 = .ok (.iload_n 2, 1) := by decide +kernel
theorem dX9_routeOfEnd_14 : decode cX9_routeOfEnd 14 = .ok (.goto 15, 3) := by decide +kernel
theorem dX9_routeOfEnd_17 : decode cX9_routeOfEnd 17 = .ok (.aload_n 0, 1) := by decide +kernel
theorem dX9_routeOfEnd_18 : decode cX9_routeOfEnd 18 = .ok (.getfield 12, 3) := by decide +kernel
theorem dX9_routeOfEnd_21 : decode cX9_routeOfEnd 21 = .ok (.getfield 16, 3) := by decide +kernel
theorem dX9_routeOfEnd_24 : decode cX9_routeOfEnd 24 = .ok (.invokevirtual 94, 3) := by decide +kernel
theorem dX9_routeOfEnd_27 : decode cX9_routeOfEnd 27 = .ok (.iload_n 2, 1) := by decide +kernel
theorem dX9_routeOfEnd_28 : decode cX9_routeOfEnd 28 = .ok (.isub, 1) := by decide +kernel
theorem dX9_routeOfEnd_29 : decode cX9_routeOfEnd 29 = .ok (.istore_n 3, 1) := by decide +kernel
theorem dX9_routeOfEnd_30 : decode cX9_routeOfEnd 30 = .ok (.iload_n 3, 1) := by decide +kernel
theorem dX9_routeOfEnd_31 : decode cX9_routeOfEnd 31 = .ok (.ifCond .ge 8, 3) := by decide +kernel
theorem dX9_routeOfEnd_34 : decode cX9_routeOfEnd 34 = .ok (.ldc 201, 2) := by decide +kernel
theorem dX9_routeOfEnd_36 : decode cX9_routeOfEnd 36 = .ok (.goto 14, 3) := by decide +kernel
theorem dX9_routeOfEnd_39 : decode cX9_routeOfEnd 39 = .ok (.aload_n 0, 1) := by decide +kernel
theorem dX9_routeOfEnd_40 : decode cX9_routeOfEnd 40 = .ok (.getfield 12, 3) := by decide +kernel
theorem dX9_routeOfEnd_43 : decode cX9_routeOfEnd 43 = .ok (.getfield 30, 3) := by decide +kernel
theorem dX9_routeOfEnd_46 : decode cX9_routeOfEnd 46 = .ok (.iload_n 3, 1) := by decide +kernel
theorem dX9_routeOfEnd_47 : decode cX9_routeOfEnd 47 = .ok (.invokevirtual 256, 3) := by decide +kernel
theorem dX9_routeOfEnd_50 : decode cX9_routeOfEnd 50 = .ok (.ireturn, 1) := by decide +kernel
set_option maxRecDepth 100000 in
theorem b_X9_routeOfEnd_0 {E : fxE} (hW : fx_Wt E) (a0 : Nat) (x1 : Int) (x2 : Int) (M : fxM) (Q : Option fxV → fxM → Prop) (hk0 : kd E a0 = 9) (h : (-2147483648 ≤ x2 ∧ x2 < 2147483648) ∧ ((¬ x2 = (-1000005 : Int) → (-2147483648 ≤ x1 ∧ x1 < 2147483648) ∧ ((¬ x1 = (0 : Int) → (0 ≤ M (rf E (rf E a0 0) 0) 3 ∧ M (rf E (rf E a0 0) 0) 3 ≤ 8) ∧ (-2147483648 ≤ ((fsum E M (rf E (rf E a0 0) 0) (M (rf E (rf E a0 0) 0) 3).toNat) - x2) ∧ ((fsum E M (rf E (rf E a0 0) 0) (M (rf E (rf E a0 0) 0) 3).toNat) - x2) < 2147483648) ∧ (((0 : Int) ≤ ((fsum E M (rf E (rf E a0 0) 0) (M (rf E (rf E a0 0) 0) 3).toNat) - x2) → ∃ R5 : Int → fxM → Prop, CtI E m_X0_routeOf [.inr (rf E (rf E a0 0) 1), .inl ((fsum E M (rf E (rf E a0 0) 0) (M (rf E (rf E a0 0) 0) 3).toNat) - x2)] M R5 ∧ ∀ (v5 : Int) (M5 : fxM), R5 v5 M5 → Q (some (.inl v5)) M5) ∧ (¬ (0 : Int) ≤ ((fsum E M (rf E (rf E a0 0) 0) (M (rf E (rf E a0 0) 0) 3).toNat) - x2) → Q (some (.inl (-1000005))) M))) ∧ (x1 = (0 : Int) → (((0 : Int) ≤ x2 → ∃ R6 : Int → fxM → Prop, CtI E m_X0_routeOf [.inr (rf E (rf E a0 0) 1), .inl x2] M R6 ∧ ∀ (v6 : Int) (M6 : fxM), R6 v6 M6 → Q (some (.inl v6)) M6) ∧ (¬ (0 : Int) ≤ x2 → Q (some (.inl (-1000005))) M))))) ∧ (x2 = (-1000005 : Int) → Q (some (.inl (-1000005))) M))) : fx_At E m_X9_routeOfEnd 0 [some (.inr a0), some (.inl x1), some (.inl x2), none] [] M Q := by
  refine x_iload_n (pc := 0) dX9_routeOfEnd_0 rfl rfl ?_
  refine x_ldc (pc := 1) (n := -1000005) dX9_routeOfEnd_1 k_RX9_201 rfl ?_
  obtain ⟨g1, h⟩ := h
  refine x_cne (pc := 3) 9 dX9_routeOfEnd_3 (by decide) ⟨g1, ⟨by decide, by decide⟩⟩ (fun hc => ?_) (fun hc => ?_)
  · replace h := h.1 hc
    refine x_iload_n (pc := 9) dX9_routeOfEnd_9 rfl rfl ?_
    obtain ⟨g2, h⟩ := h
    refine x_zne (pc := 10) 17 dX9_routeOfEnd_10 (by decide) g2 (fun hc => ?_) (fun hc => ?_)
    · replace h := h.1 hc
      refine x_aload_n (pc := 17) dX9_routeOfEnd_17 rfl rfl ?_
      refine x_getr (pc := 18) dX9_routeOfEnd_18 f_RX9_12 hk0 ?_
      refine x_getr (pc := 21) dX9_routeOfEnd_21 f_RX9_16 (wk_9_0 hW hk0) ?_
      obtain ⟨g3, h⟩ := h
      refine x_callV (pc := 24) (z := m_X2_totalLength) (b := (rf E (rf E a0 0) 0)) (as := []) (rest := []) dX9_routeOfEnd_24 c_RX9_94 (by decide) (wk_5_0 hW (wk_9_0 hW hk0)) rfl (Nat.le_of_ble_eq_true rfl) (ct_X2_totalLength hW (wk_5_0 hW (wk_9_0 hW hk0)) g3) (fun r M9 hr => ?_)
      obtain ⟨hM9, hr⟩ := hr
      rw [hM9, hr]
      clear hM9 hr
      show fx_At E m_X9_routeOfEnd 27 [some (.inr a0), some (.inl x1), some (.inl x2), none] [.inl (fsum E M (rf E (rf E a0 0) 0) (M (rf E (rf E a0 0) 0) 3).toNat)] _ Q
      refine x_iload_n (pc := 27) dX9_routeOfEnd_27 rfl rfl ?_
      refine x_isub (pc := 28) dX9_routeOfEnd_28 ?_
      refine x_istore_n (pc := 29) (lv' := [some (.inr a0), some (.inl x1), some (.inl x2), some (.inl ((fsum E M (rf E (rf E a0 0) 0) (M (rf E (rf E a0 0) 0) 3).toNat) - x2))]) dX9_routeOfEnd_29 rfl (by decide) rfl ?_
      refine x_iload_n (pc := 30) dX9_routeOfEnd_30 rfl rfl ?_
      obtain ⟨g4, h⟩ := h
      refine x_zge (pc := 31) 39 dX9_routeOfEnd_31 (by decide) g4 (fun hc => ?_) (fun hc => ?_)
      · replace h := h.1 hc
        refine x_aload_n (pc := 39) dX9_routeOfEnd_39 rfl rfl ?_
        refine x_getr (pc := 40) dX9_routeOfEnd_40 f_RX9_12 hk0 ?_
        refine x_getr (pc := 43) dX9_routeOfEnd_43 f_RX9_30 (wk_9_0 hW hk0) ?_
        refine x_iload_n (pc := 46) dX9_routeOfEnd_46 rfl rfl ?_
        obtain ⟨R5, hc5, h⟩ := h
        refine x_callV (pc := 47) (z := m_X0_routeOf) (b := (rf E (rf E a0 0) 1)) (as := [.inl ((fsum E M (rf E (rf E a0 0) 0) (M (rf E (rf E a0 0) 0) 3).toNat) - x2)]) (rest := []) dX9_routeOfEnd_47 c_RX9_256 (by decide) (wk_5_1 hW (wk_9_0 hW hk0)) rfl (Nat.le_of_ble_eq_true rfl) hc5 (fun r M5 hr => ?_)
        obtain ⟨v5, rfl, hr⟩ := hr
        replace h := h v5 M5 hr
        show fx_At E m_X9_routeOfEnd 50 [some (.inr a0), some (.inl x1), some (.inl x2), some (.inl ((fsum E M (rf E (rf E a0 0) 0) (M (rf E (rf E a0 0) 0) 3).toNat) - x2))] [.inl v5] M5 Q
        exact x_iret (pc := 50) dX9_routeOfEnd_50 (Or.inl rfl) h
      · replace h := h.2 hc
        refine x_ldc (pc := 34) (n := -1000005) dX9_routeOfEnd_34 k_RX9_201 rfl ?_
        refine x_goto (pc := 36) 50 dX9_routeOfEnd_36 (by decide) ?_
        exact x_iret (pc := 50) dX9_routeOfEnd_50 (Or.inl rfl) h
    · replace h := h.2 hc
      refine x_iload_n (pc := 13) dX9_routeOfEnd_13 rfl rfl ?_
      refine x_goto (pc := 14) 29 dX9_routeOfEnd_14 (by decide) ?_
      refine x_istore_n (pc := 29) (lv' := [some (.inr a0), some (.inl x1), some (.inl x2), some (.inl x2)]) dX9_routeOfEnd_29 rfl (by decide) rfl ?_
      refine x_iload_n (pc := 30) dX9_routeOfEnd_30 rfl rfl ?_
      refine x_zge (pc := 31) 39 dX9_routeOfEnd_31 (by decide) g1 (fun hc => ?_) (fun hc => ?_)
      · replace h := h.1 hc
        refine x_aload_n (pc := 39) dX9_routeOfEnd_39 rfl rfl ?_
        refine x_getr (pc := 40) dX9_routeOfEnd_40 f_RX9_12 hk0 ?_
        refine x_getr (pc := 43) dX9_routeOfEnd_43 f_RX9_30 (wk_9_0 hW hk0) ?_
        refine x_iload_n (pc := 46) dX9_routeOfEnd_46 rfl rfl ?_
        obtain ⟨R6, hc6, h⟩ := h
        refine x_callV (pc := 47) (z := m_X0_routeOf) (b := (rf E (rf E a0 0) 1)) (as := [.inl x2]) (rest := []) dX9_routeOfEnd_47 c_RX9_256 (by decide) (wk_5_1 hW (wk_9_0 hW hk0)) rfl (Nat.le_of_ble_eq_true rfl) hc6 (fun r M6 hr => ?_)
        obtain ⟨v6, rfl, hr⟩ := hr
        replace h := h v6 M6 hr
        show fx_At E m_X9_routeOfEnd 50 [some (.inr a0), some (.inl x1), some (.inl x2), some (.inl x2)] [.inl v6] M6 Q
        exact x_iret (pc := 50) dX9_routeOfEnd_50 (Or.inl rfl) h
      · replace h := h.2 hc
        refine x_ldc (pc := 34) (n := -1000005) dX9_routeOfEnd_34 k_RX9_201 rfl ?_
        refine x_goto (pc := 36) 50 dX9_routeOfEnd_36 (by decide) ?_
        exact x_iret (pc := 50) dX9_routeOfEnd_50 (Or.inl rfl) h
  · replace h := h.2 hc
    refine x_ldc (pc := 6) (n := -1000005) dX9_routeOfEnd_6 k_RX9_201 rfl ?_
    exact x_iret (pc := 8) dX9_routeOfEnd_8 (Or.inl rfl) h
