/-! The class's trace. -/
section
variable {E : fxE} {M : fxM}
theorem t0_ne (hW : fx_Wt E) {t : Nat} (ht : kd E t = 7) : rf E t 0 ≠ t := kd_ne (wk_7_0 hW ht) ht (by decide)
theorem ot0 (hW : fx_Wt E) {t : Nat} (ht : kd E t = 7) : own E (rf E t 0) = t := own_r hW ht (wk_7_0 hW ht) (by decide) rfl (by decide)
theorem Fo_mrow {r a : Nat} {g : Nat → Int} (h : own E a = r) : Fo E M (mrow M a g) r := fun c hc => mrow_o (fun e => hc (e ▸ h))
theorem ct_raiseTo (hW : fx_Wt E) {t : Nat} {d lv : Int} {T : Nat → Int} (ht : kd E t = 7) (hd : inR d) (hl : inR lv) (hT : ∀ j : Nat, j ≤ 400 → inR (T j)) : CtV E m_X7_raiseTo [.inr t, .inl d, .inl lv] (mrow M (rf E t 0) T) (fun M' => M' = mrow M (rf E t 0) (rz T d lv)) := by
  have same : (∀ j : Nat, ¬ ((j : Int) = d ∧ j ≤ 400 ∧ T j < lv)) → rz T d lv = T := fun h => by
    funext j
    rw [rz, if_neg (h j)]
  refine x_ct (by decide) (Nat.le_of_ble_eq_true rfl) (b_X7_raiseTo_0 hW t d lv _ _ ht ⟨hd, fun hneg => ⟨rfl, by rw [same (fun j => by omega)]⟩, fun hpos => ⟨fun hbig => ⟨rfl, by rw [same (fun j => by omega)]⟩, fun hsm => ?_⟩⟩)
  obtain ⟨n, rfl⟩ : ∃ n : Nat, d = (n : Int) := ⟨d.toNat, by omega⟩
  rw [mrow_s, Int.toNat_natCast]
  have := hT n (by omega)
  refine ⟨by omega, hl, this, fun hle => ⟨rfl, by rw [same (fun j z => by
    have : j = n := by omega
    subst this
    omega)]⟩, fun hgt M5 g5 => ⟨rfl, ?_⟩⟩
  rw [g5, mset_row]
  congr 1
  funext j
  by_cases hj : j = n
  · subst hj; rw [if_pos rfl, rz, if_pos (by omega)]
  · rw [if_neg hj, rz, if_neg (by omega)]
/-- what the view says, while the trace's row is written -/
theorem VI.row (hW : fx_Wt E) {t v : Nat} {w : Nat → Int} {σ : Int} {T : Nat → Int} (ht : kd E t = 7) (hv : kd E v = 8) (h : VI E M v w σ) : VI E (mrow M (rf E t 0) T) v w σ := h.fo hW hv (Fo_mrow (ot0 hW ht)) (kd_ne hv ht (by decide))
theorem ct_levelBefore (hW : fx_Wt E) {t v : Nat} {w : Nat → Int} {σ u x : Int} (ht : kd E t = 7) (hv : kd E v = 8) (hV : VI E M v w σ) (hw : wOk w) (hu : M t 1 = u) (hx : 0 ≤ x ∧ x ≤ tot w) : CtI E m_X7_levelBefore [.inr t, .inr v, .inl x] M (fun r M' => r = bfr w σ u x ∧ M' = M) := by
  have h3 := hw.2.2.1
  have h1 := hw.tot1
  refine x_ct (by decide) (Nat.le_of_ble_eq_true rfl) (b_X7_levelBefore_0 hW t v x M _ ht hv ⟨by omega, fun h => ⟨_, rfl, ?_, rfl⟩, fun h => ⟨by omega, _, rfl, ?_, rfl⟩⟩)
  · rw [hu, vlv, if_pos (by decide), bfr, if_pos h, scl]
    have := hV.2.2.2 0 (by omega)
    rw [show (0 : Int).toNat = 0 from rfl, this]
    show _ = 30000 + 300 * u + scS w (plS w σ ((0 : Nat) : Int)) - lss w σ 0
    omega
  · rw [hu, vlv, if_pos (by omega), bfr, if_neg h, scl]
    have := hV.2.2.2 (x - 1).toNat (by omega)
    rw [this, show (((x - 1).toNat : Nat) : Int) = x - 1 by omega]
    omega
theorem ct_addReflection (hW : fx_Wt E) {t v R q : Nat} {w : Nat → Int} {σ u : Int} {T : Nat → Int} (ht : kd E t = 7) (hv : kd E v = 8) (hV : VI E M v w σ) (hw : wOk w) (hu : M t 1 = u) (hub : 1 ≤ u ∧ u ≤ 9) (hI : TrI w σ u T) (hR : M v 4 = (R : Int)) (hRf : RfI w σ R (M (rf E v 2)) (M (rf E v 3))) (hq : q < R) : CtV E m_X7_addReflection [.inr t, .inr v, .inl (q : Int)] (mrow M (rf E t 0) T) (fun M' => ∃ T', M' = mrow M (rf E t 0) T' ∧ TrI w σ u T' ∧ TLe T T' ∧ Bd w σ u (M (rf E v 2) q) (M (rf E v 3) q) T') := by
  have hr := hRf.2.1 q hq
  have hb := hr.b hw
  have h3 := hw.2.2.1
  have hR10 := hRf.1
  obtain ⟨x, hx⟩ : ∃ x, M (rf E v 2) q = x := ⟨_, rfl⟩
  obtain ⟨h, hh⟩ : ∃ h, M (rf E v 3) q = h := ⟨_, rfl⟩
  rw [hx, hh] at hr hb ⊢
  have nt : t ≠ rf E t 0 := (t0_ne hW ht).symm
  have n2 : rf E v 2 ≠ rf E t 0 := fun e => kd_ne hv ht (by decide) ((ov hW hv (k := 2) (by decide)).symm.trans ((congrArg (own E) e).trans (ot0 hW ht)))
  have n3 : rf E v 3 ≠ rf E t 0 := fun e => kd_ne hv ht (by decide) ((ov hW hv (k := 3) (by decide)).symm.trans ((congrArg (own E) e).trans (ot0 hW ht)))
  have bb := bfr_b (σ := σ) (x := x) hw hub (by omega)
  have key : ∀ (n k : Nat) (T' : Nat → Int), k + n = 401 → TrI w σ u T' → TLe T T' → (∀ k' d : Nat, k' < k → d ≤ 400 → (d : Int) = x + k' → 0 < rfd h u k' → bfr w σ u x + rfd h u k' ≤ T' d) → fx_At E m_X7_addReflection 18 [some (.inr t), some (.inr v), some (.inl (q : Int)), some (.inl x), some (.inl (bfr w σ u x)), some (.inl (k : Int)), none, none] [] (mrow M (rf E t 0) T') (fun r M' => r = none ∧ ∃ T', M' = mrow M (rf E t 0) T' ∧ TrI w σ u T' ∧ TLe T T' ∧ Bd w σ u x h T') := by
    intro n
    induction n with
    | zero =>
      intro k T' hk i1 i2 i3
      exact b_X7_addReflection_18 hW t v _ _ _ _ _ _ ht hv ⟨by omega, fun _ => ⟨rfl, T', rfl, i1, i2, fun k' d hd e hp => i3 k' d (by omega) hd e hp⟩, fun z => absurd (by omega) z⟩
    | succ n ih =>
      intro k T' hk i1 i2 i3
      refine b_X7_addReflection_18 hW t v _ _ _ _ _ _ ht hv ?_
      rw [mrow_o nt, mrow_o n3, hu, Int.toNat_natCast, hh]
      have ed : h - 300 * min (k : Int) (u - 1) - 1000 * ((k : Int) - min (k : Int) (u - 1)) = rfd h u k := rfl
      rw [ed]
      have rb : -1000000 ≤ rfd h u k ∧ rfd h u k ≤ 9000 := by unfold rfd; omega
      refine ⟨by omega, fun z => absurd z (by omega), fun _ => ⟨by omega, by omega, by omega, fun hpos => ⟨_, ct_raiseTo hW ht ⟨by omega, by omega⟩ ⟨by omega, by omega⟩ (fun j hj => by have := i1.b hw hub hj; exact ⟨by omega, by omega⟩), fun M5 g5 => ?_⟩, fun hneg => ⟨rfl, T', rfl, i1, i2, fun k' d hd e hp => ?_⟩⟩⟩
      · rw [g5]
        refine ih (k + 1) _ (by omega) (rz_I i1 (Or.inr (Or.inl ⟨x, h, k, hr, rfl, hpos, rfl⟩))) (i2.trans rz_le) (fun k' d hk' hd e hp => ?_)
        by_cases hkk : k' = k
        · subst hkk
          rw [← e]
          exact rz_at hd
        · exact Int.le_trans (i3 k' d (by omega) hd e hp) (rz_le d hd)
      · by_cases hkk : k' < k
        · exact i3 k' d hkk hd e hp
        · have := rfd_anti (h := h) (u := u) (k := k) (k' := k') (by omega)
          omega
  refine x_ct (by decide) (Nat.le_of_ble_eq_true rfl) (b_X7_addReflection_0 hW t v q _ _ ht hv ?_)
  rw [mrow_o n2, Int.toNat_natCast, hx]
  refine ⟨by omega, _, ct_levelBefore (u := u) hW ht hv (hV.row hW ht hv) hw (by rw [mrow_o nt, hu]) hb.1, fun v2 M2 g2 => ?_⟩
  obtain ⟨rfl, rfl⟩ := g2
  exact key 401 0 T (by omega) hI TLe.rfl' (fun k' d hk' => absurd hk' (by omega))
theorem ct_addGhost (hW : fx_Wt E) {t v R i j : Nat} {w : Nat → Int} {σ u : Int} {T : Nat → Int} (ht : kd E t = 7) (hv : kd E v = 8) (hV : VI E M v w σ) (hw : wOk w) (hu : M t 1 = u) (hub : 1 ≤ u ∧ u ≤ 9) (hI : TrI w σ u T) (hR : M v 4 = (R : Int)) (hRf : RfI w σ R (M (rf E v 2)) (M (rf E v 3))) (hi : i < R) (hj : j < R) (hij : M (rf E v 2) i < M (rf E v 2) j) : CtV E m_X7_addGhost [.inr t, .inr v, .inl (i : Int), .inl (j : Int)] (mrow M (rf E t 0) T) (fun M' => ∃ T', M' = mrow M (rf E t 0) T' ∧ TrI w σ u T' ∧ TLe T T' ∧ Gd w σ u (M (rf E v 2) i) (M (rf E v 3) i) (M (rf E v 2) j) (M (rf E v 3) j) T') := by
  have r1 := hRf.2.1 i hi
  have r2 := hRf.2.1 j hj
  have h3 := hw.2.2.1
  have hR10 := hRf.1
  obtain ⟨p, hp⟩ : ∃ x, M (rf E v 2) i = x := ⟨_, rfl⟩
  obtain ⟨hp', hhp⟩ : ∃ h, M (rf E v 3) i = h := ⟨_, rfl⟩
  obtain ⟨q, hq⟩ : ∃ x, M (rf E v 2) j = x := ⟨_, rfl⟩
  obtain ⟨hq', hhq⟩ : ∃ h, M (rf E v 3) j = h := ⟨_, rfl⟩
  rw [hp, hq] at hij
  rw [hp, hhp] at r1 ⊢
  rw [hq, hhq] at r2 ⊢
  have b1 := r1.b hw
  have b2 := r2.b hw
  have nt : t ≠ rf E t 0 := (t0_ne hW ht).symm
  have n2 : rf E v 2 ≠ rf E t 0 := fun e => kd_ne hv ht (by decide) ((ov hW hv (k := 2) (by decide)).symm.trans ((congrArg (own E) e).trans (ot0 hW ht)))
  have n3 : rf E v 3 ≠ rf E t 0 := fun e => kd_ne hv ht (by decide) ((ov hW hv (k := 3) (by decide)).symm.trans ((congrArg (own E) e).trans (ot0 hW ht)))
  have n0 : rf E v 0 ≠ rf E t 0 := fun e => kd_ne hv ht (by decide) ((ov hW hv (k := 0) (by decide)).symm.trans ((congrArg (own E) e).trans (ot0 hW ht)))
  have bb := bfr_b (σ := σ) (x := q) hw hub (by omega)
  have gb := ght_b hw r1 r2
  have key : ∀ (n k : Nat) (T' : Nat → Int), (k : Int) + n = u → TrI w σ u T' → TLe T T' → (∀ k' d : Nat, k' < k → d ≤ 400 → (d : Int) = 2 * q - p + k' → 0 < ght w σ p hp' q hq' - 300 * k' → bfr w σ u q + (ght w σ p hp' q hq' - 300 * k') ≤ T' d) → fx_At E m_X7_addGhost 65 [some (.inr t), some (.inr v), some (.inl (i : Int)), some (.inl (j : Int)), some (.inl p), some (.inl q), some (.inl (ght w σ p hp' q hq')), some (.inl (bfr w σ u q)), some (.inl (k : Int)), none] [] (mrow M (rf E t 0) T') (fun r M' => r = none ∧ ∃ T', M' = mrow M (rf E t 0) T' ∧ TrI w σ u T' ∧ TLe T T' ∧ Gd w σ u p hp' q hq' T') := by
    intro n
    induction n with
    | zero =>
      intro k T' hk i1 i2 i3
      refine b_X7_addGhost_65 hW t v _ _ _ _ _ _ _ _ _ ht hv ?_
      rw [mrow_o nt, hu]
      exact ⟨by omega, by omega, fun _ => ⟨rfl, T', rfl, i1, i2, fun k' d hd hk' e hp => i3 k' d (by omega) hd e hp⟩, fun z => absurd (by omega) z⟩
    | succ n ih =>
      intro k T' hk i1 i2 i3
      refine b_X7_addGhost_65 hW t v _ _ _ _ _ _ _ _ _ ht hv ?_
      rw [mrow_o nt, hu]
      refine ⟨by omega, by omega, fun z => absurd z (by omega), fun _ => ⟨by omega, fun hpos => ⟨_, ct_raiseTo hW ht ⟨by omega, by omega⟩ ⟨by omega, by omega⟩ (fun j hj => by have := i1.b hw hub hj; exact ⟨by omega, by omega⟩), fun M5 g5 => ?_⟩, fun hneg => ⟨rfl, T', rfl, i1, i2, fun k' d hd hk' e hp => ?_⟩⟩⟩
      · rw [g5]
        refine ih (k + 1) _ (by omega) (rz_I i1 (Or.inr (Or.inr ⟨p, hp', q, hq', k, r1, r2, hij, by omega, rfl, hpos, rfl⟩))) (i2.trans rz_le) (fun k' d hk' hd e hp => ?_)
        by_cases hkk : k' = k
        · subst hkk
          rw [← e]
          exact rz_at hd
        · exact Int.le_trans (i3 k' d (by omega) hd e hp) (rz_le d hd)
      · by_cases hkk : k' < k
        · exact i3 k' d hkk hd e hp
        · omega
  have lv : ∀ x : Int, 0 ≤ x ∧ x ≤ tot w → vls E (mrow M (rf E t 0) T) v x = lss w σ x.toNat := fun x hx => by
    rw [vls, if_pos (by omega), mrow_o n0, hV.2.2.1 x.toNat (by omega)]
  refine x_ct (by decide) (Nat.le_of_ble_eq_true rfl) (b_X7_addGhost_0 hW t v i j _ _ ht hv ?_)
  rw [mrow_o n2, mrow_o n3, Int.toNat_natCast, Int.toNat_natCast, hp, hq, hhp, hhq, lv p b1.1, lv q b2.1]
  refine ⟨by omega, by omega, by omega, by omega, _, ct_levelBefore (u := u) hW ht hv (hV.row hW ht hv) hw (by rw [mrow_o nt, hu]) b2.1, fun v5 M5 g5 => ?_⟩
  obtain ⟨rfl, rfl⟩ := g5
  exact key u.toNat 0 T (by omega) hI TLe.rfl' (fun k' d hk' => absurd hk' (by omega))
end
