/-! The reference's trace. -/
/-- losses and scatters as they lie for a side -/
def RLo (E : fxE) (M : fxM) (m : Nat) (w : Nat → Int) (σ : Int) : Prop := M (rf E m 0) = w ∧ (∀ y : Nat, (y : Int) ≤ tot w → M (rf E m 9) y = lss w σ y) ∧ ∀ y : Nat, (y : Int) < tot w → M (rf E m 10) y = scS w (plS w σ y)
section
variable {E : fxE} {M : fxM}
theorem RLo.same {M' : fxM} {m : Nat} {w : Nat → Int} {σ : Int} (h : RLo E M m w σ) (h0 : M' (rf E m 0) = M (rf E m 0)) (h9 : M' (rf E m 9) = M (rf E m 9)) (h10 : M' (rf E m 10) = M (rf E m 10)) : RLo E M' m w σ := by
  unfold RLo at h ⊢
  rw [h0, h9, h10]
  exact h
theorem rsc_at {m : Nat} {w : Nat → Int} {σ u d : Int} (h : RLo E M m w σ) (hd : 0 ≤ d ∧ d < tot w) : rsc E M m u d = scl w σ u d := by
  have h1 := h.2.1 d.toNat (by omega)
  have h2 := h.2.2 d.toNat (by omega)
  rw [rsc, scl, h1, h2, show ((d.toNat : Nat) : Int) = d by omega]
theorem ct_before (hW : fx_Wt E) {m : Nat} {w : Nat → Int} {σ u x : Int} (hm : kd E m = 10) (hw : wOk w) (h : RLo E M m w σ) (hx : 0 ≤ x ∧ x ≤ tot w) : CtI E m_X10_before [.inr m, .inl u, .inl x] M (fun r M' => r = bfr w σ u x ∧ M' = M) := by
  have h1 := hw.tot1
  have h3 := hw.2.2.1
  refine x_ct (by decide) (Nat.le_of_ble_eq_true rfl) (b_X10_before_0 hW m u x M _ hm ⟨by omega, fun hz => ⟨by omega, _, rfl, ?_, rfl⟩, fun hz => ⟨by omega, _, rfl, ?_, rfl⟩⟩)
  · rw [rsc_at h (by omega), bfr, if_neg (by omega)]
  · rw [rsc_at h (by omega), bfr, if_pos (by omega)]
theorem ct_raise (hW : fx_Wt E) {m : Nat} {d lv : Int} {T : Nat → Int} (hm : kd E m = 10) (hd : 0 ≤ d ∧ d < 100000) (hl : inR lv) (hT : ∀ j : Nat, j ≤ 400 → inR (T j)) : CtV E m_X10_raise [.inr m, .inl d, .inl lv] (mrow M (rf E m 13) T) (fun M' => M' = mrow M (rf E m 13) (rz T d lv)) := by
  have same : (∀ j : Nat, ¬ ((j : Int) = d ∧ j ≤ 400 ∧ T j < lv)) → rz T d lv = T := fun h => by
    funext j
    rw [rz, if_neg (h j)]
  refine x_ct (by decide) (Nat.le_of_ble_eq_true rfl) (b_X10_raise_0 hW m d lv _ _ hm ⟨by omega, fun hbig => ⟨rfl, by rw [same (fun j => by omega)]⟩, fun hsm => ?_⟩)
  obtain ⟨n, rfl⟩ : ∃ n : Nat, d = (n : Int) := ⟨d.toNat, by omega⟩
  rw [mrow_s, Int.toNat_natCast]
  have := hT n (by omega)
  refine ⟨by omega, hl, this, fun hle => ⟨rfl, by rw [same (fun j z => by
    have : j = n := by omega
    subst this
    omega)]⟩, fun hgt M5 g5 => ⟨rfl, ?_⟩⟩
  rw [g5, mset_row]
  congr 1
  funext j
  by_cases hj : j = n
  · subst hj; rw [if_pos rfl, rz, if_pos (by omega)]
  · rw [if_neg hj, rz, if_neg (by omega)]
theorem RLo.row (hW : fx_Wt E) {m : Nat} {w : Nat → Int} {σ : Int} {T : Nat → Int} (hm : kd E m = 10) (h : RLo E M m w σ) : RLo E (mrow M (rf E m 13) T) m w σ := h.same (mrow_o (mne hW hm rfl rfl (by decide))) (mrow_o (mne hW hm rfl rfl (by decide))) (mrow_o (mne hW hm rfl rfl (by decide)))
theorem ct_addReflector10 (hW : fx_Wt E) {m : Nat} {w : Nat → Int} {σ u x h : Int} {T : Nat → Int} (hm : kd E m = 10) (hw : wOk w) (hL : RLo E M m w σ) (hub : 1 ≤ u ∧ u ≤ 9) (hI : TrI w σ u T) (hr : RefIn w σ x h) : CtV E m_X10_addReflector [.inr m, .inl u, .inl x, .inl h] (mrow M (rf E m 13) T) (fun M' => ∃ T', M' = mrow M (rf E m 13) T' ∧ TrI w σ u T' ∧ TLe T T' ∧ Bd w σ u x h T') := by
  have hb := hr.b hw
  have h3 := hw.2.2.1
  have bb := bfr_b (σ := σ) (x := x) hw hub (by omega)
  have done : ∀ (j : Nat) (T' : Nat → Int), 1 ≤ j → h - 300 * (u - 1) - 1000 * (j : Int) ≤ 0 → (∀ k' d : Nat, (k' : Int) < u - 1 + j → d ≤ 400 → (d : Int) = x + k' → 0 < rfd h u k' → bfr w σ u x + rfd h u k' ≤ T' d) → Bd w σ u x h T' := fun j T' hj hle i3 k' d hd e hp => by
    by_cases hk : (k' : Int) < u - 1 + j
    · exact i3 k' d hk hd e hp
    · unfold rfd at hp
      omega
  have at69 : ∀ (n j : Nat) (X : Int) (T' : Nat → Int), 1 ≤ j → j ≤ 100 → X = h - 300 * (u - 1) - 1000 * (j : Int) → X < 1000 * (n : Int) → j + n ≤ 12 → TrI w σ u T' → TLe T T' → (∀ k' d : Nat, (k' : Int) < u - 1 + j → d ≤ 400 → (d : Int) = x + k' → 0 < rfd h u k' → bfr w σ u x + rfd h u k' ≤ T' d) → fx_At E m_X10_addReflector 69 [some (.inr m), some (.inl u), some (.inl x), some (.inl h), some (.inl (bfr w σ u x)), some (.inl X), some (.inl (j : Int))] [] (mrow M (rf E m 13) T') (fun r M' => r = none ∧ ∃ T', M' = mrow M (rf E m 13) T' ∧ TrI w σ u T' ∧ TLe T T' ∧ Bd w σ u x h T') := by
    intro n
    induction n with
    | zero =>
      intro j X T' hj hj1 hX hn hjn i1 i2 i3
      exact b_X10_addReflector_69 hW m _ _ _ _ _ _ _ _ hm ⟨by omega, fun hle => ⟨rfl, T', rfl, i1, i2, done j T' hj (by omega) i3⟩, fun z => absurd (by omega) z⟩
    | succ n ih =>
      intro j X T' hj hj1 hX hn hjn i1 i2 i3
      refine b_X10_addReflector_69 hW m _ _ _ _ _ _ _ _ hm ⟨by omega, fun hle => ⟨rfl, T', rfl, i1, i2, done j T' hj (by omega) i3⟩, fun hpos => ⟨_, ct_raise hW hm ⟨by omega, by omega⟩ ⟨by omega, by omega⟩ (fun i hi => by have := i1.b hw hub hi; exact ⟨by omega, by omega⟩), fun M2 g2 => ?_⟩⟩
      rw [g2]
      obtain ⟨k, hk⟩ : ∃ k : Nat, (k : Int) = u - 1 + j := ⟨(u - 1 + j).toNat, by omega⟩
      have hrk : rfd h u k = X := by unfold rfd; omega
      have hd : x + u - 1 + (j : Int) = x + (k : Int) := by omega
      rw [hd]
      refine ih (j + 1) (X + -1000) _ (by omega) (by omega) (by omega) (by omega) (by omega) (rz_I i1 (Or.inr (Or.inl ⟨x, h, k, hr, rfl, by omega, by rw [hrk]⟩))) (i2.trans rz_le) (fun k' d hk' hd' e hp => ?_)
      by_cases hkk : k' = k
      · subst hkk
        rw [hrk, ← e]
        exact rz_at hd'
      · exact Int.le_trans (i3 k' d (by omega) hd' e hp) (rz_le d hd')
  have at11 : ∀ (n k : Nat) (T' : Nat → Int), (k : Int) + n = u → TrI w σ u T' → TLe T T' → (∀ k' d : Nat, k' < k → d ≤ 400 → (d : Int) = x + k' → 0 < rfd h u k' → bfr w σ u x + rfd h u k' ≤ T' d) → fx_At E m_X10_addReflector 11 [some (.inr m), some (.inl u), some (.inl x), some (.inl h), some (.inl (bfr w σ u x)), some (.inl (k : Int)), none] [] (mrow M (rf E m 13) T') (fun r M' => r = none ∧ ∃ T', M' = mrow M (rf E m 13) T' ∧ TrI w σ u T' ∧ TLe T T' ∧ Bd w σ u x h T') := by
    intro n
    induction n with
    | zero =>
      intro k T' hk i1 i2 i3
      refine b_X10_addReflector_11 hW m _ _ _ _ _ _ _ hm ⟨by omega, by omega, fun _ => ?_, fun z => absurd (by omega) z⟩
      exact at69 10 1 _ T' (by omega) (by omega) (by omega) (by omega) (by omega) i1 i2 (fun k' d hk' => i3 k' d (by omega))
    | succ n ih =>
      intro k T' hk i1 i2 i3
      have hrk : rfd h u k = h - 300 * (k : Int) := by unfold rfd; omega
      refine b_X10_addReflector_11 hW m _ _ _ _ _ _ _ hm ⟨by omega, by omega, fun z => absurd z (by omega), fun _ => ⟨by omega, fun hle => ?_, fun hpos => ⟨_, ct_raise hW hm ⟨by omega, by omega⟩ ⟨by omega, by omega⟩ (fun i hi => by have := i1.b hw hub hi; exact ⟨by omega, by omega⟩), fun M2 g2 => ?_⟩⟩⟩
      · refine ih (k + 1) T' (by omega) i1 i2 (fun k' d hk' hd e hp => ?_)
        by_cases hkk : k' = k
        · subst hkk; omega
        · exact i3 k' d (by omega) hd e hp
      · rw [g2, ← hrk]
        refine ih (k + 1) _ (by omega) (rz_I i1 (Or.inr (Or.inl ⟨x, h, k, hr, rfl, by omega, rfl⟩))) (i2.trans rz_le) (fun k' d hk' hd' e hp => ?_)
        by_cases hkk : k' = k
        · subst hkk
          rw [← e]
          exact rz_at hd'
        · exact Int.le_trans (i3 k' d (by omega) hd' e hp) (rz_le d hd')
  refine x_ct (by decide) (Nat.le_of_ble_eq_true rfl) (b_X10_addReflector_0 hW m u x h _ _ hm ⟨_, ct_before hW hm hw (hL.row hW hm) hb.1, fun v1 M1 g1 => ?_⟩)
  obtain ⟨rfl, rfl⟩ := g1
  exact at11 u.toNat 0 T (by omega) hI TLe.rfl' (fun k' d hk' => absurd hk' (by omega))
theorem ct_addGhost10 (hW : fx_Wt E) {m R i j : Nat} {w : Nat → Int} {σ u : Int} {T : Nat → Int} (hm : kd E m = 10) (hw : wOk w) (hL : RLo E M m w σ) (hub : 1 ≤ u ∧ u ≤ 9) (hI : TrI w σ u T) (hRf : RfI w σ R (fun a => M (rf E m 11) (2 * a)) (fun a => M (rf E m 11) (2 * a + 1))) (hi : i < R) (hj : j < R) (hij : M (rf E m 11) (2 * i) < M (rf E m 11) (2 * j)) : CtV E m_X10_addGhost [.inr m, .inl u, .inl (i : Int), .inl (j : Int)] (mrow M (rf E m 13) T) (fun M' => ∃ T', M' = mrow M (rf E m 13) T' ∧ TrI w σ u T' ∧ TLe T T' ∧ Gd w σ u (M (rf E m 11) (2 * i)) (M (rf E m 11) (2 * i + 1)) (M (rf E m 11) (2 * j)) (M (rf E m 11) (2 * j + 1)) T') := by
  have r1 := hRf.2.1 i hi
  have r2 := hRf.2.1 j hj
  have h3 := hw.2.2.1
  have hR10 := hRf.1
  dsimp only at r1 r2
  obtain ⟨p, hp⟩ : ∃ x, M (rf E m 11) (2 * i) = x := ⟨_, rfl⟩
  obtain ⟨hp', hhp⟩ : ∃ h, M (rf E m 11) (2 * i + 1) = h := ⟨_, rfl⟩
  obtain ⟨q, hq⟩ : ∃ x, M (rf E m 11) (2 * j) = x := ⟨_, rfl⟩
  obtain ⟨hq', hhq⟩ : ∃ h, M (rf E m 11) (2 * j + 1) = h := ⟨_, rfl⟩
  rw [hp, hq] at hij
  rw [hp, hhp] at r1 ⊢
  rw [hq, hhq] at r2 ⊢
  have b1 := r1.b hw
  have b2 := r2.b hw
  have n11 : rf E m 11 ≠ rf E m 13 := mne hW hm rfl rfl (by decide)
  have n9 : rf E m 9 ≠ rf E m 13 := mne hW hm rfl rfl (by decide)
  have bb := bfr_b (σ := σ) (x := q) hw hub (by omega)
  have gb := ght_b hw r1 r2
  have key : ∀ (n k : Nat) (T' : Nat → Int), (k : Int) + n = u → TrI w σ u T' → TLe T T' → (∀ k' d : Nat, k' < k → d ≤ 400 → (d : Int) = 2 * q - p + k' → 0 < ght w σ p hp' q hq' - 300 * k' → bfr w σ u q + (ght w σ p hp' q hq' - 300 * k') ≤ T' d) → fx_At E m_X10_addGhost 70 [some (.inr m), some (.inl u), some (.inl (i : Int)), some (.inl (j : Int)), some (.inl p), some (.inl q), some (.inl (ght w σ p hp' q hq')), some (.inl (k : Int))] [] (mrow M (rf E m 13) T') (fun r M' => r = none ∧ ∃ T', M' = mrow M (rf E m 13) T' ∧ TrI w σ u T' ∧ TLe T T' ∧ Gd w σ u p hp' q hq' T') := by
    intro n
    induction n with
    | zero =>
      intro k T' hk i1 i2 i3
      exact b_X10_addGhost_70 hW m _ _ _ _ _ _ _ _ _ hm ⟨by omega, by omega, fun _ => ⟨rfl, T', rfl, i1, i2, fun k' d hd hk' e hp => i3 k' d (by omega) hd e hp⟩, fun z => absurd (by omega) z⟩
    | succ n ih =>
      intro k T' hk i1 i2 i3
      refine b_X10_addGhost_70 hW m _ _ _ _ _ _ _ _ _ hm ⟨by omega, by omega, fun z => absurd z (by omega), fun _ => ⟨by omega, fun hle => ?_, fun hpos => ⟨_, ct_before hW hm hw (hL.row hW hm) b2.1, fun v4 M4 g4 => ?_⟩⟩⟩
      · refine ih (k + 1) T' (by omega) i1 i2 (fun k' d hk' hd e hp => ?_)
        by_cases hkk : k' = k
        · subst hkk; omega
        · exact i3 k' d (by omega) hd e hp
      · obtain ⟨rfl, rfl⟩ := g4
        refine ⟨_, ct_raise hW hm ⟨by omega, by omega⟩ ⟨by omega, by omega⟩ (fun i hi => by have := i1.b hw hub hi; exact ⟨by omega, by omega⟩), fun M5 g5 => ?_⟩
        rw [g5, show bfr w σ u q + ght w σ p hp' q hq' - 300 * (k : Int) = bfr w σ u q + (ght w σ p hp' q hq' - 300 * (k : Int)) by omega]
        refine ih (k + 1) _ (by omega) (rz_I i1 (Or.inr (Or.inr ⟨p, hp', q, hq', k, r1, r2, hij, by omega, rfl, by omega, rfl⟩))) (i2.trans rz_le) (fun k' d hk' hd e hp => ?_)
        by_cases hkk : k' = k
        · subst hkk
          rw [← e]
          exact rz_at hd
        · exact Int.le_trans (i3 k' d (by omega) hd e hp) (rz_le d hd)
  refine x_ct (by decide) (Nat.le_of_ble_eq_true rfl) (b_X10_addGhost_0 hW m u i j _ _ hm ?_)
  rw [mrow_o n11, mrow_o n9, show (2 * (i : Int)).toNat = 2 * i by omega, show (2 * (j : Int)).toNat = 2 * j by omega, show (2 * (i : Int) + 1).toNat = 2 * i + 1 by omega, show (2 * (j : Int) + 1).toNat = 2 * j + 1 by omega, hp, hq, hhp, hhq, hL.2.1 p.toNat (by omega), hL.2.1 q.toNat (by omega)]
  exact ⟨by omega, by omega, by omega, by omega, by omega, by omega, key u.toNat 0 T (by omega) hI TLe.rfl' (fun k' d hk' => absurd hk' (by omega))⟩
end
