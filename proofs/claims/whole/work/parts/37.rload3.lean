/-! load: the whole of the reference's. -/
section
variable {E : fxE} {M : fxM}
theorem at_readAll (hW : fx_Wt E) {m n : Nat} {c : Nat → Int} (hm : kd E m = 10) (hc : ∀ i, i < n → 32 ≤ c i ∧ c i ≤ 126) : ∀ (r p k : Nat) (sum : Int) (M : fxM), RX E M m n c → M m 20 = (p : Int) → p ≤ n → M m 22 = -1000005 → M m 24 = (k : Int) → k + r = 8 → (0 ≤ sum ∧ sum ≤ 300) →
    fx_At E m_X10_readAll 49 [some (.inr m), some (.inl sum)] [] M (fun x M' => x = none ∧ Rd E M M' m ∧ ((∃ f, ldF (cc n c) n r p sum = .inl f ∧ M' m 22 = f.1 ∧ M' m 21 = (f.2 : Int)) ∨ ∃ its, ldF (cc n c) n r p sum = .inr its ∧ M' m 22 = -1000005 ∧ M' m 24 = ((k + its.length : Nat) : Int) ∧ RowIs (M' (rf E m 23)) k its ∧ ∀ j, j < 3 * k → M' (rf E m 23) j = M (rf E m 23) j)) := by
  intro r
  induction r with
  | zero =>
    intro p k sum M hR hp hpn h22 h24 hk hs
    obtain rfl : k = 8 := by omega
    refine b_X10_readAll_49 hW m sum M _ hm ⟨_, ct_readItem10' hW hm hR hc hp hpn h22 h24, fun M1 h1 => ?_⟩
    obtain ⟨g1, g2, g3, g4, g5⟩ := h1
    have hb : 1 ≤ M1 m 22 ∧ M1 m 22 ≤ 4 := by rw [g3]; split <;> omega
    refine ⟨by omega, fun z => absurd z (by omega), fun _ => ⟨by omega, fun _ => ?_, fun z => absurd (by omega) z⟩⟩
    exact b_X10_readAll_24 hW m _ M1 _ hm ⟨by omega, fun _ => ⟨rfl, g1, Or.inl ⟨_, rfl, g3, g4⟩⟩, fun z => absurd (by omega) z⟩
  | succ r ih =>
    intro p k sum M hR hp hpn h22 h24 hk hs
    have n120 := hR.2.1
    refine b_X10_readAll_49 hW m sum M _ hm ⟨_, ct_readItem10 hW hm hR hc hp hpn h22 h24 (by omega) hs, fun M1 h1 => ?_⟩
    obtain ⟨g1, g2, g3⟩ := h1
    rw [g2]
    rcases g3 with ⟨f, e1, f1, f2, f3⟩ | ⟨l, a, s, q, e1, f1, f2, f3, f4, f5, f6⟩
    · have hb := item_f e1
      refine ⟨by omega, fun z => absurd z (by omega), fun _ => ⟨by omega, fun _ => ?_, fun z => absurd (by omega) z⟩⟩
      exact b_X10_readAll_24 hW m _ M1 _ hm ⟨by omega, fun _ => ⟨rfl, g1, Or.inl ⟨f, by rw [ldF, e1], f1, f2⟩⟩, fun z => absurd (by omega) z⟩
    · obtain ⟨i1, i2, i3, i4⟩ := item_ok e1 hpn
      have i5 := i1.1
      have R1 := g1.rx hW hm hR
      have k6 := R1.1
      refine ⟨by omega, fun z => absurd z (by omega), fun _ => ⟨by omega, fun z => absurd f1 z, fun _ => ⟨by omega, ?_⟩⟩⟩
      rw [show (3 * ((k : Int) + 1) - 3).toNat = 3 * k by omega, f3]
      refine b_X10_readAll_24 hW m _ M1 _ hm ⟨by omega, fun z => absurd f1 z, fun _ => ⟨by omega, by omega, fun hlt => ?_, fun hge => ⟨by omega, fun _ => ⟨rfl, g1, Or.inr ⟨[(l, a, s)], ?_, f1, by rw [g2]; simp, ⟨f3, f4, f5, trivial⟩, f6⟩⟩, fun z => absurd z (by omega)⟩⟩⟩
      · have h' := ih q (k + 1) (sum + l) M1 R1 f2 i3 f1 (by rw [g2]; omega) (by omega) (by omega)
        refine x_mono h' (fun x M' hx => ?_)
        obtain ⟨rfl, y1, y2⟩ := hx
        have hld : ldF (cc n c) n (r + 1) p sum = (match ldF (cc n c) n r q (sum + l) with | .inl f => .inl f | .inr t => .inr ((l, a, s) :: t)) := by
          rw [ldF, e1]
          simp only
          rw [if_pos (by omega)]
          rfl
        refine ⟨rfl, g1.trans y1, ?_⟩
        rcases y2 with ⟨f, z1, z2, z3⟩ | ⟨its, z1, z2, z3, z4, z5⟩
        · exact Or.inl ⟨f, by rw [hld, z1], z2, z3⟩
        · refine Or.inr ⟨(l, a, s) :: its, by rw [hld, z1], z2, ?_, ⟨?_, ?_, ?_, z4⟩, fun j hj => ?_⟩
          · rw [z3, List.length_cons]; omega
          · rw [z5 _ (by omega), f3]
          · rw [z5 _ (by omega), f4]
          · rw [z5 _ (by omega), f5]
          · rw [z5 _ (by omega), f6 j hj]
      · rw [ldF, e1]
        simp only
        rw [if_neg (by omega)]
theorem ct_readAll (hW : fx_Wt E) {m n : Nat} {c : Nat → Int} (hm : kd E m = 10) (hc : ∀ i, i < n → 32 ≤ c i ∧ c i ≤ 126) (h : RX E M m n c) : CtV E m_X10_readAll [.inr m] M (fun M' => Rd E M M' m ∧ ((∃ f, ldF (cc n c) n 8 0 0 = .inl f ∧ M' m 22 = f.1 ∧ M' m 21 = (f.2 : Int)) ∨ ∃ its, ldF (cc n c) n 8 0 0 = .inr its ∧ M' m 22 = -1000005 ∧ M' m 24 = ((its.length : Nat) : Int) ∧ RowIs (M' (rf E m 23)) 0 its)) := by
  refine x_ct (by decide) (Nat.le_of_ble_eq_true rfl) (b_X10_readAll_0 hW m M _ hm (fun M1 h1 M2 h2 M3 h3 M4 h4 => ?_))
  have r4 : Rd E M M4 m := by
    rw [h4, h3, h2, h1]
    exact ⟨fun c a b => by rw [mset_o a, mset_o a, mset_o a, mset_o a], fun k a b d e => by rw [mset_n e, mset_n d, mset_n b, mset_n a]⟩
  have k20 : M4 m 20 = ((0 : Nat) : Int) := by rw [h4, mset_n (by decide), h3, mset_n (by decide), h2, mset_n (by decide), h1, mset_s]; rfl
  have k22 : M4 m 22 = -1000005 := by rw [h4, mset_n (by decide), h3, mset_s]
  have k24 : M4 m 24 = ((0 : Nat) : Int) := by rw [h4, mset_s]; rfl
  have R4 := r4.rx hW hm h
  have k6 := R4.1
  have n120 := R4.2.1
  have h' := at_readAll hW hm hc 8 0 0 0 M4 R4 k20 (Nat.zero_le _) k22 k24 rfl (by decide)
  have h'' : fx_At E m_X10_readAll 49 [some (.inr m), some (.inl 0)] [] M4 (fun x M' => x = none ∧ Rd E M M' m ∧ ((∃ f, ldF (cc n c) n 8 0 0 = .inl f ∧ M' m 22 = f.1 ∧ M' m 21 = (f.2 : Int)) ∨ ∃ its, ldF (cc n c) n 8 0 0 = .inr its ∧ M' m 22 = -1000005 ∧ M' m 24 = ((its.length : Nat) : Int) ∧ RowIs (M' (rf E m 23)) 0 its)) := by
    refine x_mono h' (fun x M' hx => ?_)
    obtain ⟨rfl, y1, y2⟩ := hx
    refine ⟨rfl, r4.trans y1, ?_⟩
    rcases y2 with ⟨f, z1, z2, z3⟩ | ⟨its, z1, z2, z3, z4, z5⟩
    · exact Or.inl ⟨f, z1, z2, z3⟩
    · exact Or.inr ⟨its, z1, z2, by rw [z3, Nat.zero_add], z4⟩
  exact b_X10_readAll_24 hW m _ M4 _ hm ⟨by omega, fun z => absurd k22 z, fun _ => ⟨by omega, by omega, fun _ => h'', fun _ => ⟨by omega, fun z => absurd k24 z, fun _ => h''⟩⟩⟩
theorem at_load (hW : fx_Wt E) {m : Nat} (hm : kd E m = 10) : ∀ (its : List (Int × Int × Int)) (k : Nat) (W : Nat → Int) (M : fxM), RowIs (M (rf E m 23)) k its → M m 24 = ((k + its.length : Nat) : Int) → M (rf E m 0) = W → W 0 = (k : Int) → k + its.length ≤ 8 → fx_At E m_X10_load 40 [some (.inr m), some (.inl (k : Int))] [] M (fun r M' => r = some (.inl ((k + its.length : Nat) : Int)) ∧ M' = mrow M (rf E m 0) (wapps W its)) := by
  have n0 : m ≠ rf E m 0 := kd_ne hm (wk_10_0 hW hm) (by decide)
  have n23 : rf E m 23 ≠ rf E m 0 := mne hW hm rfl rfl (by decide)
  intro its
  induction its with
  | nil =>
    intro k W M hR h24 hw h0 hk
    rw [List.length_nil, Nat.add_zero] at h24
    refine b_X10_load_40 hW m k M _ hm ⟨by omega, by omega, fun _ => ⟨by rw [h24]; rfl, ?_⟩, fun z => absurd (by omega) z⟩
    rw [wapps, ← hw, mrow_id]
  | cons t ts ih =>
    intro k W M hR h24 hw h0 hk
    obtain ⟨q1, q2, q3, q4⟩ := hR
    rw [List.length_cons] at h24 hk
    refine b_X10_load_40 hW m k M _ hm ⟨by omega, by omega, fun z => absurd z (by omega), fun _ => ⟨by omega, by omega, by omega, ?_⟩⟩
    rw [show (3 * (k : Int)).toNat = 3 * k by omega, show (3 * (k : Int) + 1).toNat = 3 * k + 1 by omega, show (3 * (k : Int) + 2).toNat = 3 * k + 2 by omega, q1, q2, q3]
    refine ⟨_, ct_X10_append hW hm (by rw [hw, h0]; omega), fun M6 h6 => ?_⟩
    rw [hw] at h6
    have w0 := (wapp_at (l := t.1) (a := t.2.1) (s := t.2.2) h0 (by omega)).1
    have h' := ih (k + 1) (wapp W t.1 t.2.1 t.2.2) M6 (by rw [h6, mrow_o n23]; exact q4) (by rw [h6, mrow_o n0, h24]; omega) (by rw [h6, mrow_s]) (by rw [w0]; omega) (by omega)
    refine x_mono h' (fun r M' hx => ?_)
    obtain ⟨rfl, rfl⟩ := hx
    refine ⟨by rw [List.length_cons, show k + 1 + ts.length = k + (ts.length + 1) by omega], ?_⟩
    rw [h6, mrow_mrow, wapps]
theorem re_load (hW : fx_Wt E) {m n x : Nat} {c : Nat → Int} (hm : kd E m = 10) (hn : M m 2 = (n : Int)) (hn8 : n ≤ 8) (h : RX E M m x c) (hc : ∀ i, i < x → 32 ≤ c i ∧ c i ≤ 126) : CtI E m_X10_load [.inr m] M (fun r M' => ∃ o f, opLoad (M (rf E m 0)) x c r o f ∧ (o = none → M' (rf E m 0) = M (rf E m 0) ∧ M' (rf E m 1) = M (rf E m 1) ∧ M' m 2 = M m 2 ∧ M' m 3 = M m 3) ∧ (∀ w1, o = some w1 → M' (rf E m 0) = w1 ∧ M' (rf E m 1) = rpush (M (rf E m 1)) n (M (rf E m 0)) ∧ M' m 2 = (hlen n : Int) ∧ M' m 3 = -1) ∧ (f = none → M' m 7 = M m 7 ∧ M' m 8 = M m 8) ∧ (∀ g, f = some g → M' m 7 = (g.2 : Int) ∧ M' m 8 = g.1) ∧ (∀ k, k ≠ 2 → k ≠ 3 → k ≠ 7 → k ≠ 8 → k ≠ 20 → k ≠ 21 → k ≠ 22 → k ≠ 24 → M' m k = M m k) ∧ ∀ a, a ≠ m → a ≠ rf E m 0 → a ≠ rf E m 1 → a ≠ rf E m 23 → M' a = M a) := by
  have n0 : m ≠ rf E m 0 := kd_ne hm (wk_10_0 hW hm) (by decide)
  have n1 : m ≠ rf E m 1 := kd_ne hm (wk_10_1 hW hm) (by decide)
  have n10 : rf E m 1 ≠ rf E m 0 := mne hW hm rfl rfl (by decide)
  have n023 : rf E m 0 ≠ rf E m 23 := mne hW hm rfl rfl (by decide)
  have n123 : rf E m 1 ≠ rf E m 23 := mne hW hm rfl rfl (by decide)
  refine x_ct (by decide) (Nat.le_of_ble_eq_true rfl) (b_X10_load_0 hW m M _ hm ⟨_, ct_readAll hW hm hc h, fun M1 h1 => ?_⟩)
  obtain ⟨rd, h1⟩ := h1
  have w1 : M1 (rf E m 0) = M (rf E m 0) := rd.1 _ n0.symm n023
  have p1 : M1 (rf E m 1) = M (rf E m 1) := rd.1 _ n1.symm n123
  rcases h1 with ⟨f, e1, f1, f2⟩ | ⟨its, e1, f1, f2, f3⟩
  · have hb := ldF_f _ _ _ _ e1
    refine ⟨by omega, fun _ M4 h4 M5 h5 => ⟨_, rfl, none, some f, Or.inl ⟨f, e1, rfl, rfl, rfl⟩, fun _ => ⟨?_, ?_, ?_, ?_⟩, fun w1 z => absurd z (by simp), fun z => absurd z (by simp), fun g z => ?_, fun k a2 a3 a7 a8 a20 a21 a22 a24 => ?_, fun a b0 b1 b2 b3 => ?_⟩, fun z => absurd (by omega) z⟩
    · rw [h5, mset_o n0.symm, h4, mset_o n0.symm, w1]
    · rw [h5, mset_o n1.symm, h4, mset_o n1.symm, p1]
    · rw [h5, mset_n (by decide), h4, mset_n (by decide), rd.2 2 (by decide) (by decide) (by decide) (by decide)]
    · rw [h5, mset_n (by decide), h4, mset_n (by decide), rd.2 3 (by decide) (by decide) (by decide) (by decide)]
    · cases z
      exact ⟨by rw [h5, mset_n (by decide), h4, mset_s, f2], by rw [h5, mset_s, h4, mset_n (by decide), f1]⟩
    · rw [h5, mset_n a8, h4, mset_n a7, rd.2 k a20 a21 a22 a24]
    · rw [h5, mset_o b0, h4, mset_o b0, rd.1 a b0 b3]
  · have hl := ldF_len _ _ _ _ e1
    have n1' : M1 m 2 = (n : Int) := by rw [rd.2 2 (by decide) (by decide) (by decide) (by decide), hn]
    refine ⟨by omega, fun z => absurd f1 z, fun _ => ⟨_, ct_X10_keep hW hm n1' hn8, fun M6 h6 => ⟨_, ct_X10_clearFibre hW hm, fun M7 h7 => ?_⟩⟩⟩
    have kp : KP E M1 m n M6 := h6
    have w6 : M6 (rf E m 0) = M (rf E m 0) := (kp.w hW hm).trans w1
    obtain ⟨k1, k2, k3, k4, k5⟩ := h6
    rw [w1] at k4
    rw [p1] at k4
    rw [w6] at h7
    have h' := at_load hW hm its 0 (wz (M (rf E m 0))) M7 (by rw [h7, mrow_o n023.symm, k5 _ (kd_ne (wk_10_23 hW hm) hm (by decide)) n123.symm]; exact f3) (by rw [h7, mrow_o n0, k3 24 (by decide) (by decide), f2, Nat.zero_add]) (by rw [h7, mrow_s]; rfl) rfl (by omega)
    refine x_mono h' (fun r M' hx => ?_)
    obtain ⟨rfl, rfl⟩ := hx
    refine ⟨_, rfl, _, none, Or.inr ⟨its, e1, by rw [Nat.zero_add], rfl, rfl⟩, fun z => absurd z (by simp), fun w2 z => ?_, fun _ => ⟨?_, ?_⟩, fun g z => absurd z (by simp), fun k a2 a3 a7 a8 a20 a21 a22 a24 => ?_, fun a b0 b1 b2 b3 => ?_⟩
    · cases z
      refine ⟨mrow_s, ?_, ?_, ?_⟩
      · rw [mrow_o n10, h7, mrow_o n10, k4]
      · rw [mrow_o n0, h7, mrow_o n0, k1]
      · rw [mrow_o n0, h7, mrow_o n0, k2]
    · rw [mrow_o n0, h7, mrow_o n0, k3 7 (by decide) (by decide), rd.2 7 (by decide) (by decide) (by decide) (by decide)]
    · rw [mrow_o n0, h7, mrow_o n0, k3 8 (by decide) (by decide), rd.2 8 (by decide) (by decide) (by decide) (by decide)]
    · rw [mrow_o n0, h7, mrow_o n0, k3 k a2 a3, rd.2 k a20 a21 a22 a24]
    · rw [mrow_o b1, h7, mrow_o b1, k5 a b0 b2, rd.1 a b0 b3]
end
