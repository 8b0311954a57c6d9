/-! The reference's reflectors, and its trace as a whole. -/
def KI (w : Nat → Int) (σ : Int) (k R : Nat) (X H : Nat → Int) : Prop := R ≤ k ∧ (∀ q, q < R → RefIn w σ (X q) (H q)) ∧ ∀ j : Nat, j < k → 0 < w (26 + 2 * j) → (farS w σ (wsum w j) < endS w σ ∨ w 56 = 0) → ∃ q, q < R ∧ X q = farS w σ (wsum w j) ∧ H q = w (26 + 2 * j)
theorem KI.skip {w : Nat → Int} {σ : Int} {i R : Nat} {X H : Nat → Int} (h : KI w σ i R X H) (hn : ¬ (0 < w (26 + 2 * i) ∧ (farS w σ (wsum w i) < endS w σ ∨ w 56 = 0))) : KI w σ (i + 1) R X H := by
  obtain ⟨h1, h2, h3⟩ := h
  refine ⟨by omega, h2, fun j hj a b => ?_⟩
  by_cases hji : j = i
  · subst hji; exact absurd ⟨a, b⟩ hn
  · exact h3 j (by omega) a b
theorem KI.add {w : Nat → Int} {σ : Int} {i R : Nat} {X H X' H' : Nat → Int} (h : KI w σ i R X H) (hi : (i : Int) ≤ w 0) (hh : 0 < w (26 + 2 * i)) (hc : farS w σ (wsum w i) < endS w σ ∨ w 56 = 0) (hX : ∀ a, a < R → X' a = X a ∧ H' a = H a) (hXR : X' R = farS w σ (wsum w i) ∧ H' R = w (26 + 2 * i)) : KI w σ (i + 1) (R + 1) X' H' := by
  obtain ⟨h1, h2, h3⟩ := h
  refine ⟨by omega, fun q hq => ?_, fun j hj a b => ?_⟩
  · by_cases hqR : q = R
    · subst hqR
      rw [hXR.1, hXR.2]
      exact ⟨hh, Or.inl ⟨i, hi, rfl, rfl, hc⟩⟩
    · rw [(hX q (by omega)).1, (hX q (by omega)).2]
      exact h2 q (by omega)
  · by_cases hji : j = i
    · subst hji
      exact ⟨R, by omega, hXR⟩
    · obtain ⟨q, q1, q2, q3⟩ := h3 j (by omega) a b
      exact ⟨q, by omega, by rw [(hX q q1).1, q2], by rw [(hX q q1).2, q3]⟩
theorem KI.fin {w : Nat → Int} (hw : wOk w) {σ : Int} {R : Nat} {X H : Nat → Int} (h : KI w σ ((w 0).toNat + 1) R X H) (h56 : w 56 = 0 ∨ w 57 ≤ 0) : RfI w σ R X H := by
  have h0 := hw.1
  obtain ⟨h1, h2, h3⟩ := h
  refine ⟨by omega, h2, fun x h hx => ?_⟩
  obtain ⟨hp, ⟨k, k1, k2, k3, k4⟩ | ⟨k1, k2, k3⟩⟩ := hx
  · rw [k2] at k4
    obtain ⟨q, q1, q2, q3⟩ := h3 k (by omega) (by rw [← k3]; exact hp) k4
    exact ⟨q, q1, by rw [q2, k2], by rw [q3, k3]⟩
  · rcases h56 with z | z
    · exact absurd z k1
    · omega
theorem KI.fin1 {w : Nat → Int} (hw : wOk w) {σ : Int} {R : Nat} {X H X' H' : Nat → Int} (h : KI w σ ((w 0).toNat + 1) R X H) (h56 : w 56 ≠ 0) (h57 : 0 < w 57) (hX : ∀ a, a < R → X' a = X a ∧ H' a = H a) (hXR : X' R = endS w σ ∧ H' R = w 57) : RfI w σ (R + 1) X' H' := by
  have h0 := hw.1
  obtain ⟨h1, h2, h3⟩ := h
  refine ⟨by omega, fun q hq => ?_, fun x h hx => ?_⟩
  · by_cases hqR : q = R
    · subst hqR
      rw [hXR.1, hXR.2]
      exact ⟨h57, Or.inr ⟨h56, rfl, rfl⟩⟩
    · rw [(hX q (by omega)).1, (hX q (by omega)).2]
      exact h2 q (by omega)
  · obtain ⟨hp, ⟨k, k1, k2, k3, k4⟩ | ⟨k1, k2, k3⟩⟩ := hx
    · rw [k2] at k4
      obtain ⟨q, q1, q2, q3⟩ := h3 k (by omega) (by rw [← k3]; exact hp) k4
      exact ⟨q, by omega, by rw [(hX q q1).1, q2, k2], by rw [(hX q q1).2, q3, k3]⟩
    · exact ⟨R, by omega, by rw [hXR.1, k2], by rw [hXR.2, k3]⟩
section
variable {E : fxE} {M : fxM}
theorem ct_reflect (hW : fx_Wt E) {m R : Nat} {x h : Int} (hm : kd E m = 10) (h12 : M m 12 = (R : Int)) (hR : R < 10) : CtV E m_X10_reflect [.inr m, .inl x, .inl h] M (fun M' => M' = mset (mset (mset M (rf E m 11) (2 * R) x) (rf E m 11) (2 * R + 1) h) m 12 ((R : Int) + 1)) := by
  have n11 : m ≠ rf E m 11 := kd_ne hm (wk_10_11 hW hm) (by decide)
  refine x_ct (by decide) (Nat.le_of_ble_eq_true rfl) (b_X10_reflect_0 hW m x h M _ hm ?_)
  rw [h12, show (2 * (R : Int)).toNat = 2 * R by omega]
  refine ⟨by omega, fun M2 g2 => ?_⟩
  have k2 : M2 m 12 = (R : Int) := by rw [g2, mset_o n11, h12]
  rw [k2, show (2 * (R : Int) + 1).toNat = 2 * R + 1 by omega]
  refine ⟨by omega, fun M4 g4 M5 g5 => ⟨rfl, ?_⟩⟩
  have k4 : M4 m 12 = (R : Int) := by rw [g4, mset_o n11, k2]
  rw [k4, g4, g2] at g5
  exact g5
/-- the reflectors as they lie -/
def KV (E : fxE) (M0 M : fxM) (m : Nat) : Prop := (∀ c, c ≠ m → c ≠ rf E m 11 → M c = M0 c) ∧ ∀ k, k ≠ 12 → M m k = M0 m k
theorem ct_layReflectors (hW : fx_Wt E) {m : Nat} {w : Nat → Int} {σ : Int} (hm : kd E m = 10) (hwe : M (rf E m 0) = w) (hw : wOk w) (hσ : inR σ) : CtV E m_X10_layReflectors [.inr m, .inl σ, .inl (endS w σ)] M (fun M' => KV E M M' m ∧ ∃ R : Nat, M' m 12 = (R : Int) ∧ RfI w σ R (fun a => M' (rf E m 11) (2 * a)) (fun a => M' (rf E m 11) (2 * a + 1))) := by
  have h0 := hw.1
  have h3 := hw.2.2.1
  have h56 := hw.2.2.2.2.2.2.1
  have h57 := hw.2.2.2.2.2.2.2.1
  have he := endS_b hw (σ := σ)
  have n11 : m ≠ rf E m 11 := kd_ne hm (wk_10_11 hW hm) (by decide)
  have n0 : rf E m 0 ≠ rf E m 11 := mne hW hm rfl rfl (by decide)
  have n00 : rf E m 0 ≠ m := kd_ne (wk_10_0 hW hm) hm (by decide)
  have addR : ∀ (M1 M2 : fxM) (R : Nat) (x h : Int), M2 = mset (mset (mset M1 (rf E m 11) (2 * R) x) (rf E m 11) (2 * R + 1) h) m 12 ((R : Int) + 1) → (KV E M M1 m → KV E M M2 m) ∧ M2 m 12 = ((R + 1 : Nat) : Int) ∧ (∀ a, a < R → M2 (rf E m 11) (2 * a) = M1 (rf E m 11) (2 * a) ∧ M2 (rf E m 11) (2 * a + 1) = M1 (rf E m 11) (2 * a + 1)) ∧ M2 (rf E m 11) (2 * R) = x ∧ M2 (rf E m 11) (2 * R + 1) = h := by
    intro M1 M2 R x h g
    refine ⟨fun hK => ⟨fun c a b => by rw [g, mset_o a, mset_o b, mset_o b, hK.1 c a b], fun k hk => by rw [g, mset_n hk, mset_o n11, mset_o n11, hK.2 k hk]⟩, by rw [g, mset_s]; omega, fun a ha => ⟨?_, ?_⟩, ?_, ?_⟩
    · rw [g, mset_o n11.symm, mset_n (by omega), mset_n (by omega)]
    · rw [g, mset_o n11.symm, mset_n (by omega), mset_n (by omega)]
    · rw [g, mset_o n11.symm, mset_n (by omega), mset_s]
    · rw [g, mset_o n11.symm, mset_s]
  have key : ∀ (n k : Nat) (M1 : fxM), (k : Int) + n = w 0 + 1 → KV E M M1 m → (∃ R : Nat, M1 m 12 = (R : Int) ∧ KI w σ k R (fun a => M1 (rf E m 11) (2 * a)) (fun a => M1 (rf E m 11) (2 * a + 1))) → fx_At E m_X10_layReflectors 7 [some (.inr m), some (.inl σ), some (.inl (endS w σ)), some (.inl (k : Int)), none, none] [] M1 (fun r M' => r = none ∧ KV E M M' m ∧ ∃ R : Nat, M' m 12 = (R : Int) ∧ RfI w σ R (fun a => M' (rf E m 11) (2 * a)) (fun a => M' (rf E m 11) (2 * a + 1))) := by
    intro n
    induction n with
    | zero =>
      intro k M1 hk hK hR
      obtain ⟨R, h12, hI⟩ := hR
      rw [show k = (w 0).toNat + 1 by omega] at hI
      have w1 : M1 (rf E m 0) = w := by rw [hK.1 _ n00 n0, hwe]
      refine b_X10_layReflectors_7 hW m _ _ _ M1 _ hm ?_
      rw [w1]
      refine ⟨by omega, by omega, fun _ => ⟨by omega, fun hz => ⟨rfl, hK, R, h12, hI.fin hw (Or.inl (by omega))⟩, fun hz => ⟨by omega, fun hz2 => ⟨rfl, hK, R, h12, hI.fin hw (Or.inr hz2)⟩, fun hz2 => ⟨_, ct_reflect hW hm h12 (by have := hI.1; omega), fun M5 g5 => ⟨rfl, ?_⟩⟩⟩⟩, fun z => absurd (by omega) z⟩
      obtain ⟨a1, a2, a3, a4, a5⟩ := addR M1 M5 R _ _ g5
      exact ⟨a1 hK, R + 1, a2, hI.fin1 hw (by omega) (by omega) a3 ⟨a4, a5⟩⟩
    | succ n ih =>
      intro k M1 hk hK hR
      obtain ⟨R, h12, hI⟩ := id hR
      have hI1 := hI.1
      have w1 : M1 (rf E m 0) = w := by rw [hK.1 _ n00 n0, hwe]
      have hb := ws_b hw (i := k) (by omega)
      have hjh := (hw.2.2.2.1 k (by omega)).2
      refine b_X10_layReflectors_7 hW m _ _ _ M1 _ hm ?_
      rw [w1, Int.toNat_natCast]
      refine ⟨by omega, by omega, fun z => absurd z (by omega), fun _ => ⟨by omega, _, ct_far hW hm (by rw [w1]; exact hw) hσ, fun v7 M7 g7 => ?_⟩⟩
      obtain ⟨rfl, rfl⟩ := g7
      rw [w1, show (25 + 2 * (k : Int) + 1).toNat = 26 + 2 * k by omega]
      have hfb : 0 ≤ farS w σ (wsum w k) ∧ farS w σ (wsum w k) ≤ tot w := by unfold farS; split <;> omega
      have skip : ¬ (0 < w (26 + 2 * k) ∧ (farS w σ (wsum w k) < endS w σ ∨ w 56 = 0)) → fx_At E m_X10_layReflectors 7 [some (.inr m), some (.inl σ), some (.inl (endS w σ)), some (.inl ((k : Int) + 1)), none, none] [] M7 (fun r M' => r = none ∧ KV E M M' m ∧ ∃ R : Nat, M' m 12 = (R : Int) ∧ RfI w σ R (fun a => M' (rf E m 11) (2 * a)) (fun a => M' (rf E m 11) (2 * a + 1))) := fun hn => ih (k + 1) M7 (by omega) hK ⟨R, h12, hI.skip hn⟩
      have add : 0 < w (26 + 2 * k) → (farS w σ (wsum w k) < endS w σ ∨ w 56 = 0) → ∃ R12 : fxM → Prop, CtV E m_X10_reflect [.inr m, .inl (farS w σ (wsum w k)), .inl (w (26 + 2 * k))] M7 R12 ∧ ∀ M12 : fxM, R12 M12 → fx_At E m_X10_layReflectors 7 [some (.inr m), some (.inl σ), some (.inl (endS w σ)), some (.inl ((k : Int) + 1)), none, none] [] M12 (fun r M' => r = none ∧ KV E M M' m ∧ ∃ R : Nat, M' m 12 = (R : Int) ∧ RfI w σ R (fun a => M' (rf E m 11) (2 * a)) (fun a => M' (rf E m 11) (2 * a + 1))) := fun a b => by
        refine ⟨_, ct_reflect hW hm h12 (by omega), fun M12 g12 => ?_⟩
        obtain ⟨a1, a2, a3, a4, a5⟩ := addR M7 M12 R _ _ g12
        exact ih (k + 1) M12 (by omega) (a1 hK) ⟨R + 1, a2, hI.add (by omega) a b a3 ⟨a4, a5⟩⟩
      refine ⟨by omega, by omega, fun hle => skip (fun z => by omega), fun hgt => ⟨by omega, by omega, fun hlt => add (by omega) (Or.inl hlt), fun hge => ⟨by omega, fun hz => skip (fun z => z.2.elim hge hz), fun hz => ⟨fun hne => ?_, fun _ => add (by omega) (Or.inr hz)⟩⟩⟩⟩
      exfalso
      apply hne
      have : endS w σ = tot w := by rw [endS, if_pos hz]
      omega
  refine x_ct (by decide) (Nat.le_of_ble_eq_true rfl) (b_X10_layReflectors_0 hW m σ _ M _ hm (fun M1 g1 => ?_))
  exact key ((w 0).toNat + 1) 0 M1 (by omega) ⟨fun c a b => by rw [g1, mset_o a], fun k hk => by rw [g1, mset_n hk]⟩ ⟨0, by rw [g1, mset_s]; rfl, by omega, fun q hq => absurd hq (by omega), fun j hj => absurd hj (by omega)⟩
/-- the trace that lies -/
def RC (E : fxE) (M : fxM) (m : Nat) : Prop := (-1 ≤ M m 3 ∧ M m 3 ≤ 1) ∧ (0 ≤ M m 4 ∧ M m 4 ≤ 9) ∧ (0 ≤ M m 3 → IsTr (M (rf E m 0)) (M m 3) (M m 4) (M (rf E m 13)))
/-- what a trace's laying changes -/
def RT (E : fxE) (M M' : fxM) (m : Nat) : Prop := (∀ c, c ≠ m → c ≠ rf E m 9 → c ≠ rf E m 10 → c ≠ rf E m 11 → c ≠ rf E m 13 → M' c = M c) ∧ ∀ k, k ≠ 3 → k ≠ 4 → k ≠ 12 → M' m k = M m k
theorem ct_layTrace (hW : fx_Wt E) {m : Nat} {w : Nat → Int} {σ u : Int} (hm : kd E m = 10) (hwe : M (rf E m 0) = w) (hw : wOk w) (hRC : RC E M m) (hσ : 0 ≤ σ ∧ σ ≤ 1) (hub : 1 ≤ u ∧ u ≤ 9) : CtV E m_X10_layTrace [.inr m, .inl σ, .inl u] M (fun M' => RT E M M' m ∧ M' m 3 = σ ∧ M' m 4 = u ∧ IsTr w σ u (M' (rf E m 13))) := by
  have h0 := hw.1
  have h3 := hw.2.2.1
  have h56 := hw.2.2.2.2.2.2.1
  have he := endS_b hw (σ := σ)
  have nr : ∀ {i j : Nat}, (lay 10)[i]? = some true → (lay 10)[j]? = some true → i ≠ j → rf E m i ≠ rf E m j := fun a b c => mne hW hm a b c
  have nm9 : m ≠ rf E m 9 := kd_ne hm (wk_10_9 hW hm) (by decide)
  have nm10 : m ≠ rf E m 10 := kd_ne hm (wk_10_10 hW hm) (by decide)
  have nm11 : m ≠ rf E m 11 := kd_ne hm (wk_10_11 hW hm) (by decide)
  have nm13 : m ≠ rf E m 13 := kd_ne hm (wk_10_13 hW hm) (by decide)
  have nm0 : m ≠ rf E m 0 := kd_ne hm (wk_10_0 hW hm) (by decide)
  -- the pairs
  have body : ∀ (M6 : fxM) (R : Nat), RT E M M6 m → M6 m 3 = σ → M6 m 4 = u → RLo E M6 m w σ → M6 m 12 = (R : Int) → RfI w σ R (fun a => M6 (rf E m 11) (2 * a)) (fun a => M6 (rf E m 11) (2 * a + 1)) → fx_At E m_X10_layTrace 71 [some (.inr m), some (.inl σ), some (.inl u), some (.inl (endS w σ)), some (.inl 0), none] [] M6 (fun r M' => r = none ∧ RT E M M' m ∧ M' m 3 = σ ∧ M' m 4 = u ∧ IsTr w σ u (M' (rf E m 13))) := by
    intro M6 R rt k3 k4 hL h12 hRf
    have hR10 := hRf.1
    have n11 : rf E m 11 ≠ rf E m 13 := nr rfl rfl (by decide)
    have fin : ∀ T : Nat → Int, IsTr w σ u T → RT E M (mrow M6 (rf E m 13) T) m ∧ mrow M6 (rf E m 13) T m 3 = σ ∧ mrow M6 (rf E m 13) T m 4 = u ∧ IsTr w σ u (mrow M6 (rf E m 13) T (rf E m 13)) := fun T hT => ⟨⟨fun c a b d e f => by rw [mrow_o f, rt.1 c a b d e f], fun k a b d => by rw [mrow_o nm13, rt.2 k a b d]⟩, by rw [mrow_o nm13, k3], by rw [mrow_o nm13, k4], by rw [mrow_s]; exact hT⟩
    have at117 : ∀ (n i : Nat) (T : Nat → Int), i + n = R → TrI w σ u T → Ad w σ u (endS w σ) T → (∀ q, q < i → Bd w σ u (M6 (rf E m 11) (2 * q)) (M6 (rf E m 11) (2 * q + 1)) T) → (∀ a, a < i → ∀ b, b < R → M6 (rf E m 11) (2 * a) < M6 (rf E m 11) (2 * b) → Gd w σ u (M6 (rf E m 11) (2 * a)) (M6 (rf E m 11) (2 * a + 1)) (M6 (rf E m 11) (2 * b)) (M6 (rf E m 11) (2 * b + 1)) T) → fx_At E m_X10_layTrace 117 [some (.inr m), some (.inl σ), some (.inl u), some (.inl (endS w σ)), some (.inl (i : Int)), none] [] (mrow M6 (rf E m 13) T) (fun r M' => r = none ∧ RT E M M' m ∧ M' m 3 = σ ∧ M' m 4 = u ∧ IsTr w σ u (M' (rf E m 13))) := by
      intro n
      induction n with
      | zero =>
        intro i T hi i1 i2 i3 i4
        have e12 : mrow M6 (rf E m 13) T m 12 = (R : Int) := by rw [mrow_o nm13, h12]
        refine b_X10_layTrace_117 hW m _ _ _ _ _ _ hm ?_
        rw [e12]
        refine ⟨by omega, by omega, fun _ => ⟨rfl, fin T (IsTr.mk' i1 i2 (fun x h hr => ?_) (fun p hp q hq r1 r2 hpq => ?_))⟩, fun z => absurd (by omega) z⟩
        · obtain ⟨q, q1, q2, q3⟩ := hRf.2.2 x h hr
          rw [← q2, ← q3]
          exact i3 q (by omega)
        · obtain ⟨a, a1, a2, a3⟩ := hRf.2.2 p hp r1
          obtain ⟨b, b1, b2, b3⟩ := hRf.2.2 q hq r2
          have := i4 a (by omega) b b1 (by dsimp only at a2 b2; omega)
          dsimp only at a2 a3 b2 b3
          rw [a2, a3, b2, b3] at this
          exact this
      | succ n ih =>
        intro i T hi i1 i2 i3 i4
        have at154 : ∀ (k b : Nat) (T : Nat → Int), b + k = R → TrI w σ u T → Ad w σ u (endS w σ) T → (∀ q, q < i + 1 → Bd w σ u (M6 (rf E m 11) (2 * q)) (M6 (rf E m 11) (2 * q + 1)) T) → (∀ a, a < i → ∀ b, b < R → M6 (rf E m 11) (2 * a) < M6 (rf E m 11) (2 * b) → Gd w σ u (M6 (rf E m 11) (2 * a)) (M6 (rf E m 11) (2 * a + 1)) (M6 (rf E m 11) (2 * b)) (M6 (rf E m 11) (2 * b + 1)) T) → (∀ b', b' < b → M6 (rf E m 11) (2 * i) < M6 (rf E m 11) (2 * b') → Gd w σ u (M6 (rf E m 11) (2 * i)) (M6 (rf E m 11) (2 * i + 1)) (M6 (rf E m 11) (2 * b')) (M6 (rf E m 11) (2 * b' + 1)) T) → fx_At E m_X10_layTrace 154 [some (.inr m), some (.inl σ), some (.inl u), some (.inl (endS w σ)), some (.inl (i : Int)), some (.inl (b : Int))] [] (mrow M6 (rf E m 13) T) (fun r M' => r = none ∧ RT E M M' m ∧ M' m 3 = σ ∧ M' m 4 = u ∧ IsTr w σ u (M' (rf E m 13))) := by
          intro k
          induction k with
          | zero =>
            intro b T hb i1 i2 i3 i4 i5
            obtain rfl : b = R := by omega
            refine b_X10_layTrace_154 hW m _ _ _ _ _ _ _ hm ?_
            rw [mrow_o nm13, h12]
            refine ⟨by omega, by omega, fun _ => ih (i + 1) T (by omega) i1 i2 i3 (fun a ha b' hb' hlt => ?_), fun z => absurd (by omega) z⟩
            by_cases hai : a = i
            · subst hai; exact i5 b' hb' hlt
            · exact i4 a (by omega) b' hb' hlt
          | succ k ihk =>
            intro b T hb i1 i2 i3 i4 i5
            have xi := ((hRf.2.1 i (by omega)).b hw).1
            have xb := ((hRf.2.1 b (by omega)).b hw).1
            dsimp only at xi xb
            refine b_X10_layTrace_154 hW m _ _ _ _ _ _ _ hm ?_
            rw [mrow_o nm13, h12, mrow_o n11, show (2 * (i : Int)).toNat = 2 * i by omega, show (2 * (b : Int)).toNat = 2 * b by omega]
            refine ⟨by omega, by omega, fun z => absurd z (by omega), fun _ => ⟨by omega, by omega, by omega, by omega, fun hle => ?_, fun hgt => ⟨_, ct_addGhost10 (i := i) (j := b) hW hm hw hL hub i1 hRf (by omega) (by omega) (by omega), fun M7 g7 => ?_⟩⟩⟩
            · refine ihk (b + 1) T (by omega) i1 i2 i3 i4 (fun b' hb' hlt => ?_)
              by_cases hbb : b' = b
              · subst hbb; omega
              · exact i5 b' (by omega) hlt
            · obtain ⟨T', rfl, j1, j2, j3⟩ := g7
              refine ihk (b + 1) T' (by omega) j1 (i2.mono j2) (fun q hq => (i3 q hq).mono j2) (fun a ha b' hb' hlt => (i4 a ha b' hb' hlt).mono j2) (fun b' hb' hlt => ?_)
              by_cases hbb : b' = b
              · subst hbb; exact j3
              · exact (i5 b' (by omega) hlt).mono j2
        refine b_X10_layTrace_117 hW m _ _ _ _ _ _ hm ?_
        rw [mrow_o nm13, h12, mrow_o n11, show (2 * (i : Int)).toNat = 2 * i by omega, show (2 * (i : Int) + 1).toNat = 2 * i + 1 by omega]
        refine ⟨by omega, by omega, fun z => absurd z (by omega), fun _ => ⟨by omega, by omega, _, ct_addReflector10 hW hm hw hL hub i1 (hRf.2.1 i (by omega)), fun M5 g5 => ?_⟩⟩
        obtain ⟨T', rfl, j1, j2, j3⟩ := g5
        refine at154 R 0 T' (by omega) j1 (i2.mono j2) (fun q hq => ?_) (fun a ha b' hb' hlt => (i4 a ha b' hb' hlt).mono j2) (fun b' hb' => absurd hb' (by omega))
        by_cases hqi : q = i
        · subst hqi; exact j3
        · exact (i3 q (by omega)).mono j2
    have het : endS w σ ≤ tot w := by
      unfold endS farS; split
      · omega
      · split <;> omega
    have at71 : ∀ (n d : Nat) (T : Nat → Int), d + n = 401 → (∀ j : Nat, j < d → 5000 ≤ T j ∧ (T j = 5000 ∨ Contr w σ u j (T j))) → (∀ j : Nat, j < d → (j : Int) < endS w σ → scl w σ u j ≤ T j) → fx_At E m_X10_layTrace 71 [some (.inr m), some (.inl σ), some (.inl u), some (.inl (endS w σ)), some (.inl (d : Int)), none] [] (mrow M6 (rf E m 13) T) (fun r M' => r = none ∧ RT E M M' m ∧ M' m 3 = σ ∧ M' m 4 = u ∧ IsTr w σ u (M' (rf E m 13))) := by
      intro n
      induction n with
      | zero =>
        intro d T hd i1 i2
        refine b_X10_layTrace_71 hW m _ _ _ _ _ _ hm ⟨by omega, fun _ => ?_, fun z => absurd (by omega) z⟩
        exact at117 R 0 T (by omega) (fun j hj => i1 j (by omega)) (fun j hj hj4 => i2 j (by omega) hj) (fun q hq => absurd hq (by omega)) (fun q hq => absurd hq (by omega))
      | succ n ih =>
        intro d T hd i1 i2
        refine b_X10_layTrace_71 hW m _ _ _ _ _ _ hm ⟨by omega, fun z => absurd z (by omega), fun _ => ⟨by omega, fun M3 g3 => ?_⟩⟩
        rw [Int.toNat_natCast, mset_row] at g3
        have t1 : ∀ j : Nat, j < d + 1 → 5000 ≤ (fun j => if j = d then (5000 : Int) else T j) j ∧ ((fun j => if j = d then (5000 : Int) else T j) j = 5000 ∨ Contr w σ u j ((fun j => if j = d then (5000 : Int) else T j) j)) := fun j hj => by
          by_cases hjd : j = d
          · simp only [if_pos hjd]; exact ⟨by decide, Or.inl trivial⟩
          · simp only [if_neg hjd]; exact i1 j (by omega)
        refine ⟨by omega, fun hge => ?_, fun hlt => ?_⟩
        · rw [g3]
          refine ih (d + 1) _ (by omega) t1 (fun j hj hje => ?_)
          simp only [if_neg (show j ≠ d by omega)]
          exact i2 j (by omega) hje
        · have sb := scl_b (σ := σ) (d := (d : Int)) hw hub (by omega)
          rw [g3, rsc_at (hL.row hW hm) (by omega)]
          refine ⟨by omega, ?_⟩
          have rc : CtV E m_X10_raise [.inr m, .inl (d : Int), .inl (scl w σ u d)] (mrow M6 (rf E m 13) (fun j => if j = d then (5000 : Int) else T j)) (fun M' => M' = mrow M6 (rf E m 13) (fun j => if j = d then max 5000 (scl w σ u d) else T j)) := by
            refine x_ct (by decide) (Nat.le_of_ble_eq_true rfl) (b_X10_raise_0 hW m d _ _ _ hm ⟨by omega, fun z => absurd z (by omega), fun _ => ?_⟩)
            rw [mrow_s, Int.toNat_natCast, if_pos rfl]
            refine ⟨by omega, by omega, by decide, fun hle => ⟨rfl, ?_⟩, fun hgt M5 g5 => ⟨rfl, ?_⟩⟩
            · rw [show max 5000 (scl w σ u d) = 5000 by omega]
            · rw [g5, mset_row]
              congr 1
              funext j
              by_cases hjd : j = d
              · rw [if_pos hjd, if_pos hjd]; omega
              · rw [if_neg hjd, if_neg hjd, if_neg hjd]
          refine ⟨_, rc, fun M7 g7 => ?_⟩
          rw [g7]
          refine ih (d + 1) _ (by omega) (fun j hj => ?_) (fun j hj hje => ?_)
          · by_cases hjd : j = d
            · subst hjd
              simp only [if_true]
              refine ⟨by omega, ?_⟩
              by_cases hm5 : scl w σ u j ≤ 5000
              · exact Or.inl (by omega)
              · refine Or.inr (Or.inl ⟨by omega, by omega, by omega⟩)
            · simp only [if_neg hjd]; exact i1 j (by omega)
          · by_cases hjd : j = d
            · subst hjd
              simp only [if_true]
              omega
            · simp only [if_neg hjd]; exact i2 j (by omega) hje
    have h' := at71 401 0 (M6 (rf E m 13)) (by omega) (fun j hj => absurd hj (by omega)) (fun j hj => absurd hj (by omega))
    rw [mrow_id] at h'
    exact h'
  have at17 : fx_At E m_X10_layTrace 17 [some (.inr m), some (.inl σ), some (.inl u), none, none, none] [] M (fun r M' => r = none ∧ RT E M M' m ∧ M' m 3 = σ ∧ M' m 4 = u ∧ IsTr w σ u (M' (rf E m 13))) := by
    refine b_X10_layTrace_17 hW m _ _ M _ hm (fun M1 g1 M2 g2 => ?_)
    have w2 : M2 (rf E m 0) = w := by rw [g2, mset_o nm0.symm, g1, mset_o nm0.symm, hwe]
    refine ⟨_, ct_layLosses hW hm (by rw [w2]; exact hw) ⟨by omega, by omega⟩, fun M3 g3 => ?_⟩
    obtain ⟨l1, l2, l3⟩ := g3
    rw [w2] at l2 l3
    have w3 : M3 (rf E m 0) = w := by rw [l1 _ (nr rfl rfl (by decide)) (nr rfl rfl (by decide)), w2]
    have L3 : RLo E M3 m w σ := ⟨w3, fun y hy => l2 y (by omega), fun y hy => l3 y (by omega) hy⟩
    have m3 : M3 m = M2 m := l1 m nm9 nm10
    have ref : ∃ R8 : fxM → Prop, CtV E m_X10_layReflectors [.inr m, .inl σ, .inl (endS w σ)] M3 R8 ∧ ∀ M8 : fxM, R8 M8 → fx_At E m_X10_layTrace 71 [some (.inr m), some (.inl σ), some (.inl u), some (.inl (endS w σ)), some (.inl 0), none] [] M8 (fun r M' => r = none ∧ RT E M M' m ∧ M' m 3 = σ ∧ M' m 4 = u ∧ IsTr w σ u (M' (rf E m 13))) := by
      refine ⟨_, ct_layReflectors hW hm w3 hw ⟨by omega, by omega⟩, fun M8 g8 => ?_⟩
      obtain ⟨kv, R, h12, hRf⟩ := g8
      refine body M8 R ⟨fun c a b d e f => by rw [kv.1 c a e, l1 c b d, g2, mset_o a, g1, mset_o a], fun k a b d => by rw [kv.2 k d, m3, g2, mset_n b, g1, mset_n a]⟩ (by rw [kv.2 3 (by decide), m3, g2, mset_n (by decide), g1, mset_s]) (by rw [kv.2 4 (by decide), m3, g2, mset_s]) (L3.same (kv.1 _ nm0.symm (nr rfl rfl (by decide))) (kv.1 _ nm9.symm (nr rfl rfl (by decide))) (kv.1 _ nm10.symm (nr rfl rfl (by decide)))) h12 hRf
    rw [w3]
    refine ⟨by omega, fun hz => ⟨by omega, ?_⟩, fun hz => ⟨_, ct_far hW hm (by rw [w3]; exact hw) ⟨by omega, by omega⟩, fun v7 M7 g7 => ?_⟩⟩
    · have e : wsum w (w 0).toNat = endS w σ := by rw [endS, if_pos (by omega)]; rfl
      rw [e]
      exact ref
    · obtain ⟨rfl, rfl⟩ := g7
      rw [w3]
      have e : farS w σ (w 56) = endS w σ := by rw [endS, if_neg (by omega)]
      rw [e]
      exact ref
  obtain ⟨c1, c2, c3⟩ := hRC
  refine x_ct (by decide) (Nat.le_of_ble_eq_true rfl) (b_X10_layTrace_0 hW m σ u M _ hm ⟨by omega, by omega, fun _ => at17, fun he => ⟨by omega, by omega, fun _ => at17, fun he2 => ⟨rfl, ⟨fun _ _ _ _ _ _ => rfl, fun _ _ _ _ => rfl⟩, he.symm, he2.symm, ?_⟩⟩⟩)
  have := c3 (by omega)
  rw [hwe, ← he, ← he2] at this
  exact this
end
