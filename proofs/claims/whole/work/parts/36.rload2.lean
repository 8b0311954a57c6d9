/-! load: the reference's items, and the whole of it. -/
section
variable {E : fxE} {M : fxM}
/-- only the reader's places, the count of items and the row of items have changed -/
def Rd (E : fxE) (M M' : fxM) (m : Nat) : Prop := (∀ c, c ≠ m → c ≠ rf E m 23 → M' c = M c) ∧ ∀ k, k ≠ 20 → k ≠ 21 → k ≠ 22 → k ≠ 24 → M' m k = M m k
theorem Rd.trans {M' M'' : fxM} {m : Nat} (h : Rd E M M' m) (h' : Rd E M' M'' m) : Rd E M M'' m := ⟨fun c a b => (h'.1 c a b).trans (h.1 c a b), fun k a b d e => (h'.2 k a b d e).trans (h.2 k a b d e)⟩
theorem Rm.rd {M' : fxM} {m : Nat} (h : Rm M M' m) : Rd E M M' m := ⟨fun c a _ => h.1 c a, fun k a b d _ => h.2 k a b d⟩
theorem Rd_row (hW : fx_Wt E) {m k : Nat} {v : Int} (hm : kd E m = 10) : Rd E M (mset M (rf E m 23) k v) m := ⟨fun c _ b => mset_o b, fun j _ _ _ _ => by rw [mset_o (kd_ne hm (wk_10_23 hW hm) (by decide))]⟩
theorem Rd_cnt {m : Nat} {v : Int} : Rd E M (mset M m 24 v) m := ⟨fun c a _ => mset_o a, fun j _ _ _ a => mset_n a⟩
theorem Rd.rx (hW : fx_Wt E) {M' : fxM} {m n : Nat} {c : Nat → Int} (hm : kd E m = 10) (h : RX E M m n c) (hR : Rd E M M' m) : RX E M' m n c := by
  unfold RX at h ⊢
  rw [hR.2 6 (by decide) (by decide) (by decide) (by decide), hR.1 _ (kd_ne (wk_10_5 hW hm) hm (by decide)) (mne hW hm rfl rfl (by decide))]
  exact h
/-- an item: the fault, or the three numbers in their places -/
def RI (E : fxE) (M M' : fxM) (m n p k : Nat) (c : Nat → Int) (sum : Int) : Prop := Rd E M M' m ∧ M' m 24 = (k : Int) + 1 ∧ ((∃ f, item (cc n c) sum p = .inl f ∧ M' m 22 = f.1 ∧ M' m 21 = (f.2 : Int) ∧ (0 ≤ M' m 20 ∧ M' m 20 ≤ 1002)) ∨ ∃ l a s q, item (cc n c) sum p = .inr (l, a, s, q) ∧ M' m 22 = -1000005 ∧ M' m 20 = (q : Int) ∧ M' (rf E m 23) (3 * k) = l ∧ M' (rf E m 23) (3 * k + 1) = a ∧ M' (rf E m 23) (3 * k + 2) = s ∧ ∀ j, j < 3 * k → M' (rf E m 23) j = M (rf E m 23) j)
theorem at_item114f (hW : fx_Wt E) {m n p k : Nat} {c : Nat → Int} {sum x2 : Int} {M1 : fxM} {f : Int × Nat} (hm : kd E m = 10) (hR : Rd E M M1 m) (h24 : M1 m 24 = (k : Int)) (hf : item (cc n c) sum p = .inl f) (h22 : M1 m 22 = f.1) (h21 : M1 m 21 = (f.2 : Int)) (h20 : 0 ≤ M1 m 20 ∧ M1 m 20 ≤ 1002) : fx_At E m_X10_readItem 114 [some (.inr m), some (.inl sum), some (.inl x2)] [] M1 (fun r M' => r = none ∧ RI E M M' m n p k c sum) := by
  have := item_f hf
  refine b_X10_readItem_114 hW m sum x2 _ _ hm ⟨by omega, fun _ M3 h3 => ⟨rfl, ?_⟩, fun z => absurd (by omega) z⟩
  rw [h24] at h3
  rw [h3]
  exact ⟨hR.trans Rd_cnt, by rw [mset_s], Or.inl ⟨f, hf, by rw [mset_n (by decide), h22], by rw [mset_n (by decide), h21], by rw [mset_n (by decide)]; exact h20⟩⟩
theorem ct_readItem10 (hW : fx_Wt E) {m n p k : Nat} {c : Nat → Int} {sum : Int} (hm : kd E m = 10) (h : RX E M m n c) (hc : ∀ i, i < n → 32 ≤ c i ∧ c i ≤ 126) (hp : M m 20 = (p : Int)) (hpn : p ≤ n) (h22 : M m 22 = -1000005) (h24 : M m 24 = (k : Int)) (hk : k < 8) (hs : 0 ≤ sum ∧ sum ≤ 300) : CtV E m_X10_readItem [.inr m, .inl sum] M (fun M' => RI E M M' m n p k c sum) := by
  have n120 := h.2.1
  have n23 : rf E m 23 ≠ m := kd_ne (wk_10_23 hW hm) hm (by decide)
  refine x_ct (by decide) (Nat.le_of_ble_eq_true rfl) (b_X10_readItem_0 hW m sum M _ hm ?_)
  rw [h24, hp]
  have e3 : (3 * (k : Int)).toNat = 3 * k := by omega
  rw [e3]
  refine ⟨by omega, fun _ => ⟨_, ct_readNumber10 hW hm h hc hp hpn h22 ⟨by decide, by decide⟩ ⟨by decide, by decide⟩, fun v2 M2 h2 => ⟨by omega, fun M4 h4 => ?_⟩⟩, fun z => absurd z (by omega)⟩
  obtain ⟨hv2, hh2⟩ := h2
  rcases hh2 with ⟨f, e1, hf⟩ | ⟨l, q1, e1, rfl, hq1⟩
  · have r4 : Rd E M M4 m := by rw [h4]; exact hf.1.rd.trans (Rd_row hW hm)
    have k24 : M4 m 24 = (k : Int) := by rw [h4, mset_o n23.symm, hf.1.2 24 (by decide) (by decide) (by decide), h24]
    have k22 : M4 m 22 = f.1 := by rw [h4, mset_o n23.symm, hf.2.1]
    have k21 : M4 m 21 = (f.2 : Int) := by rw [h4, mset_o n23.symm, hf.2.2.1]
    have k20 : M4 m 20 = M2 m 20 := by rw [h4, mset_o n23.symm]
    have hff := num_f e1
    have hif : item (cc n c) sum p = .inl f := by simp only [item, e1]
    have hb := hf.2.2.2
    rw [k24, e3]
    have kv : M4 (rf E m 23) (3 * k) = v2 := by rw [h4, mset_s]
    rw [kv]
    have at75 : fx_At E m_X10_readItem 75 [some (.inr m), some (.inl sum), some (.inl (p : Int))] [] M4 (fun r M' => r = none ∧ RI E M M' m n p k c sum) := by
      have wbad := ct_wantW (M0 := M4) (f := f) (s := 120) hW hm (r4.rx hW hm h) hc ⟨Rm.rf', k22, k21, by rw [k20]; exact hb⟩ (by omega) ⟨by decide, by decide⟩
      refine b_X10_readItem_75 hW m sum p _ _ hm ⟨_, wbad, fun M5 h5 => ?_⟩
      have k5 := h5.2.1
      have k6 := h5.2.2.2
      refine ⟨by omega, fun _ => ?_, fun z => absurd (by omega) z⟩
      exact at_item114f hW hm (r4.trans h5.1.rd) (by rw [h5.1.2 24 (by decide) (by decide) (by decide), k24]) hif h5.2.1 h5.2.2.1 (by omega)
    refine ⟨by omega, by omega, fun _ => at75, fun _ => ⟨_, ct_fails hW hm (by rw [k22]; exact ⟨by omega, by omega⟩), fun M7 h7 => ?_⟩⟩
    rw [k22, if_neg (by omega)] at h7
    rw [h7]
    exact at75
  · obtain ⟨hl, hq1a, hq1n⟩ := num_b e1 hpn
    subst hq1
    have k24 : M4 m 24 = (k : Int) := by rw [h4, mset_o n23.symm, mset_n (by decide), h24]
    have k22 : M4 m 22 = -1000005 := by rw [h4, mset_o n23.symm, mset_n (by decide), h22]
    have k20 : M4 m 20 = (q1 : Int) := by rw [h4, mset_o n23.symm, mset_s]
    have r4 : Rd E M M4 m := by rw [h4]; exact Rm_at.rd.trans (Rd_row hW hm)
    have kv : M4 (rf E m 23) (3 * k) = v2 := by rw [h4, mset_s]
    have kj : ∀ j, j < 3 * k → M4 (rf E m 23) j = M (rf E m 23) j := fun j hj => by rw [h4, mset_n (by omega), mset_o n23]
    rw [k24, e3, kv]
    refine ⟨by omega, by omega, fun hle => ?_, fun hgt => ⟨_, ct_fails hW hm (by rw [k22]; exact ⟨by decide, by decide⟩), fun M7 h7 => ?_⟩⟩
    · have i1 : item (cc n c) sum p = (match sgn (cc n c) 120 q1 with
        | .inl f => .inl f
        | .inr q2 => match num (cc n c) 1 60 q2 with
          | .inl f => .inl f
          | .inr (a, q3) => match sgn (cc n c) 98 q3 with
            | .inl f => .inl f
            | .inr q4 => match num (cc n c) 0 2000 q4 with
              | .inl f => .inl f
              | .inr (s, q5) => match sgn (cc n c) 59 q5 with
                | .inl f => .inl f
                | .inr q6 => .inr (v2, a, s, q6)) := by simp only [item, e1]; rw [if_neg (by omega)]; rfl
      refine b_X10_readItem_75 hW m sum p _ _ hm ⟨_, ct_want hW hm (r4.rx hW hm h) hc k20 (by omega) k22 ⟨by decide, by decide⟩ (by decide), fun M5 h5 => ?_⟩
      rcases h5 with ⟨f, e5, hf⟩ | ⟨q2, e5, hq2⟩
      · have hff := sgn_f e5
        have hb := hf.2.2.2
        refine ⟨by rw [hf.2.1]; omega, fun _ => ?_, fun z => absurd (by rw [hf.2.1]; omega) z⟩
        exact at_item114f hW hm (r4.trans hf.1.rd) (by rw [hf.1.2 24 (by decide) (by decide) (by decide), k24]) (by rw [i1]; simp only [e5]) hf.2.1 hf.2.2.1 (by omega)
      obtain ⟨hq2a, hq2n⟩ := sgn_b e5 (by decide)
      subst hq2
      have j22 : mset M4 m 20 (q2 : Int) m 22 = -1000005 := by rw [mset_n (by decide), k22]
      have j24 : mset M4 m 20 (q2 : Int) m 24 = (k : Int) := by rw [mset_n (by decide), k24]
      have r5 : Rd E M (mset M4 m 20 (q2 : Int)) m := r4.trans Rm_at.rd
      rw [j22, j24, show (3 * (k : Int) + 1).toNat = 3 * k + 1 by omega]
      refine ⟨by decide, fun z => absurd rfl z, fun _ => ⟨_, ct_readNumber10 hW hm (r5.rx hW hm h) hc mset_s (by omega) j22 ⟨by decide, by decide⟩ ⟨by decide, by decide⟩, fun v7 M7 h7 => ⟨by omega, fun M8 h8 => ?_⟩⟩⟩
      obtain ⟨hv7, hh7⟩ := h7
      rcases hh7 with ⟨f, e7, hf⟩ | ⟨a, q3, e7, rfl, hq3⟩
      · have hff := num_f e7
        have hb := hf.2.2.2
        have r7 : Rd E M M8 m := by rw [h8]; exact (r5.trans hf.1.rd).trans (Rd_row hW hm)
        have l20 : M8 m 20 = M7 m 20 := by rw [h8, mset_o n23.symm]
        refine ⟨_, ct_wantW (M0 := M8) (f := f) hW hm (r7.rx hW hm h) hc ⟨Rm.rf', by rw [h8, mset_o n23.symm, hf.2.1], by rw [h8, mset_o n23.symm, hf.2.2.1], by rw [l20]; exact hb⟩ (by omega) ⟨by decide, by decide⟩, fun M9 h9 => ?_⟩
        have hb9 := h9.2.2.2
        exact at_item114f hW hm (r7.trans h9.1.rd) (by rw [h9.1.2 24 (by decide) (by decide) (by decide), h8, mset_o n23.symm, hf.1.2 24 (by decide) (by decide) (by decide), j24]) (by rw [i1]; simp only [e5, e7]) h9.2.1 h9.2.2.1 (by omega)
      obtain ⟨ha, hq3a, hq3n⟩ := num_b e7 (by omega)
      subst hq3
      rw [mset_mset] at h8
      have r8 : Rd E M M8 m := by rw [h8]; exact (r4.trans Rm_at.rd).trans (Rd_row hW hm)
      have m20 : M8 m 20 = (q3 : Int) := by rw [h8, mset_o n23.symm, mset_s]
      have m22 : M8 m 22 = -1000005 := by rw [h8, mset_o n23.symm, mset_n (by decide), k22]
      have m24 : M8 m 24 = (k : Int) := by rw [h8, mset_o n23.symm, mset_n (by decide), k24]
      refine ⟨_, ct_want hW hm (r8.rx hW hm h) hc m20 (by omega) m22 ⟨by decide, by decide⟩ (by decide), fun M9 h9 => ?_⟩
      rcases h9 with ⟨f, e9, hf⟩ | ⟨q4, e9, hq4⟩
      · have hff := sgn_f e9
        have hb := hf.2.2.2
        exact at_item114f hW hm (r8.trans hf.1.rd) (by rw [hf.1.2 24 (by decide) (by decide) (by decide), m24]) (by rw [i1]; simp only [e5, e7, e9]) hf.2.1 hf.2.2.1 (by omega)
      obtain ⟨hq4a, hq4n⟩ := sgn_b e9 (by decide)
      subst hq4
      have r9 : Rd E M (mset M8 m 20 (q4 : Int)) m := r8.trans Rm_at.rd
      have o22 : mset M8 m 20 (q4 : Int) m 22 = -1000005 := by rw [mset_n (by decide), m22]
      have o24 : mset M8 m 20 (q4 : Int) m 24 = (k : Int) := by rw [mset_n (by decide), m24]
      refine b_X10_readItem_114 hW m sum p _ _ hm ?_
      rw [o22, o24, show (3 * (k : Int) + 2).toNat = 3 * k + 2 by omega]
      refine ⟨by decide, fun z => absurd rfl z, fun _ => ⟨_, ct_readNumber10 hW hm (r9.rx hW hm h) hc mset_s (by omega) o22 ⟨by decide, by decide⟩ ⟨by decide, by decide⟩, fun v11 M11 h11 => ⟨by omega, fun M12 h12 => ?_⟩⟩⟩
      obtain ⟨hv11, hh11⟩ := h11
      rcases hh11 with ⟨f, e11, hf⟩ | ⟨s, q5, e11, rfl, hq5⟩
      · have hff := num_f e11
        have hb := hf.2.2.2
        have r12 : Rd E M M12 m := by rw [h12]; exact (r9.trans hf.1.rd).trans (Rd_row hW hm)
        have l20 : M12 m 20 = M11 m 20 := by rw [h12, mset_o n23.symm]
        refine ⟨_, ct_wantW (M0 := M12) (f := f) hW hm (r12.rx hW hm h) hc ⟨Rm.rf', by rw [h12, mset_o n23.symm, hf.2.1], by rw [h12, mset_o n23.symm, hf.2.2.1], by rw [l20]; exact hb⟩ (by omega) ⟨by decide, by decide⟩, fun M13 h13 M14 h14 => ⟨rfl, ?_⟩⟩
        have hb13 := h13.2.2.2
        have c24 : M13 m 24 = (k : Int) := by rw [h13.1.2 24 (by decide) (by decide) (by decide), h12, mset_o n23.symm, hf.1.2 24 (by decide) (by decide) (by decide), o24]
        rw [c24] at h14
        rw [h14]
        exact ⟨(r12.trans h13.1.rd).trans Rd_cnt, by rw [mset_s], Or.inl ⟨f, by rw [i1]; simp only [e5, e7, e9, e11], by rw [mset_n (by decide), h13.2.1], by rw [mset_n (by decide), h13.2.2.1], by rw [mset_n (by decide)]; omega⟩⟩
      obtain ⟨hsc, hq5a, hq5n⟩ := num_b e11 (by omega)
      subst hq5
      rw [mset_mset] at h12
      have r12 : Rd E M M12 m := by rw [h12]; exact (r8.trans Rm_at.rd).trans (Rd_row hW hm)
      have s20 : M12 m 20 = (q5 : Int) := by rw [h12, mset_o n23.symm, mset_s]
      have s22 : M12 m 22 = -1000005 := by rw [h12, mset_o n23.symm, mset_n (by decide), m22]
      have s24 : M12 m 24 = (k : Int) := by rw [h12, mset_o n23.symm, mset_n (by decide), m24]
      refine ⟨_, ct_want hW hm (r12.rx hW hm h) hc s20 (by omega) s22 ⟨by decide, by decide⟩ (by decide), fun M13 h13 M14 h14 => ⟨rfl, ?_⟩⟩
      rcases h13 with ⟨f, e13, hf⟩ | ⟨q6, e13, hq6⟩
      · have hff := sgn_f e13
        have hb := hf.2.2.2
        rw [hf.1.2 24 (by decide) (by decide) (by decide), s24] at h14
        rw [h14]
        exact ⟨(r12.trans hf.1.rd).trans Rd_cnt, by rw [mset_s], Or.inl ⟨f, by rw [i1]; simp only [e5, e7, e9, e11, e13], by rw [mset_n (by decide), hf.2.1], by rw [mset_n (by decide), hf.2.2.1], by rw [mset_n (by decide)]; omega⟩⟩
      obtain ⟨hq6a, hq6n⟩ := sgn_b e13 (by decide)
      subst hq6
      rw [mset_n (by decide), s24] at h14
      have row : M14 (rf E m 23) = M12 (rf E m 23) := by rw [h14, mset_o n23, mset_o n23]
      refine ⟨by rw [h14]; exact (r12.trans Rm_at.rd).trans Rd_cnt, by rw [h14, mset_s], Or.inr ⟨v2, v7, v11, q6, by rw [i1]; simp only [e5, e7, e9, e11, e13], by rw [h14, mset_n (by decide), mset_n (by decide), s22], by rw [h14, mset_n (by decide), mset_s], ?_, ?_, ?_, fun j hj => ?_⟩⟩
      · rw [row, h12, mset_n (by omega), mset_o n23, h8, mset_n (by omega), mset_o n23, kv]
      · rw [row, h12, mset_n (by omega), mset_o n23, h8, mset_s]
      · rw [row, h12, mset_s]
      · rw [row, h12, mset_n (by omega), mset_o n23, h8, mset_n (by omega), mset_o n23, kj j hj]
    · rw [k22, if_pos rfl] at h7
      have r7 : Rd E M M7 m := by rw [h7]; exact r4.trans Rm_bl.rd
      have hif : item (cc n c) sum p = .inl (3, p) := by simp only [item, e1]; rw [if_pos (by omega)]
      refine b_X10_readItem_75 hW m sum p _ _ hm ⟨_, ct_wantW (M0 := M7) (f := (3, p)) hW hm (r7.rx hW hm h) hc ⟨Rm.rf', by rw [h7, mset_s], by rw [h7, mset_n (by decide), mset_s], by rw [h7, mset_n (by decide), mset_n (by decide), k20]; omega⟩ (by dsimp only; omega) ⟨by decide, by decide⟩, fun M9 h9 => ?_⟩
      have k5 : M9 m 22 = 3 := h9.2.1
      have k6 := h9.2.2.2
      refine ⟨by omega, fun _ => ?_, fun z => absurd (by omega) z⟩
      exact at_item114f hW hm (r7.trans h9.1.rd) (by rw [h9.1.2 24 (by decide) (by decide) (by decide), h7, mset_n (by decide), mset_n (by decide), k24]) hif h9.2.1 h9.2.2.1 (by omega)
theorem ct_readItem10' (hW : fx_Wt E) {m n p : Nat} {c : Nat → Int} {sum : Int} (hm : kd E m = 10) (h : RX E M m n c) (hc : ∀ i, i < n → 32 ≤ c i ∧ c i ≤ 126) (hp : M m 20 = (p : Int)) (hpn : p ≤ n) (h22 : M m 22 = -1000005) (h24 : M m 24 = 8) : CtV E m_X10_readItem [.inr m, .inl sum] M (fun M' => Rd E M M' m ∧ M' m 24 = 8 ∧ M' m 22 = (if 48 ≤ cc n c p ∧ cc n c p ≤ 57 then 4 else 1) ∧ M' m 21 = (p : Int) ∧ M' m 20 = (p : Int)) := by
  have n120 := h.2.1
  refine x_ct (by decide) (Nat.le_of_ble_eq_true rfl) (b_X10_readItem_0 hW m sum M _ hm ⟨by omega, fun z => absurd h24 z, fun _ => ⟨_, ct_isDigit10 hW hm h hc hp (by omega), fun v8 M8 h8 => ?_⟩⟩)
  obtain ⟨rfl, rfl⟩ := h8
  rw [hp]
  by_cases hd : 48 ≤ cc n c p ∧ cc n c p ≤ 57
  · rw [if_pos hd, if_pos hd]
    refine ⟨by decide, fun z => absurd z (by decide), fun _ => ⟨_, ct_fails hW hm (by rw [h22]; exact ⟨by decide, by decide⟩), fun M11 h11 => ⟨rfl, ?_⟩⟩⟩
    rw [h22, if_pos rfl] at h11
    rw [h11]
    exact ⟨Rm_bl.rd, by rw [mset_n (by decide), mset_n (by decide), h24], by rw [mset_s], by rw [mset_n (by decide), mset_s], by rw [mset_n (by decide), mset_n (by decide), hp]⟩
  · rw [if_neg hd, if_neg hd]
    refine ⟨by decide, fun _ => ⟨_, ct_fails hW hm (by rw [h22]; exact ⟨by decide, by decide⟩), fun M11 h11 => ⟨rfl, ?_⟩⟩, fun z => absurd rfl z⟩
    rw [h22, if_pos rfl] at h11
    rw [h11]
    exact ⟨Rm_bl.rd, by rw [mset_n (by decide), mset_n (by decide), h24], by rw [mset_s], by rw [mset_n (by decide), mset_s], by rw [mset_n (by decide), mset_n (by decide), hp]⟩
end
