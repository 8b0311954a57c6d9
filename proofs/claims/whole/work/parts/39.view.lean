/-! The class's view: units, bends. -/
theorem attS_out {w : Nat → Int} (hw : wOk w) {p : Int} (h : p < 0 ∨ tot w ≤ p) : attS w p = 0 := by
  have h0 := hw.1
  unfold attS
  have := sg_congr (f := fun k => if wsum w k ≤ p ∧ p < wsum w (k + 1) then w (2 + 3 * k) else 0) (g := fun _ => 0) (w 0).toNat (fun i hi => if_neg (fun z => by
    have b1 := ws_b hw (i := i) (by omega)
    have b2 := ws_b hw (i := i + 1) (by omega)
    omega))
  rw [this]
  generalize (w 0).toNat = n
  clear this
  induction n with
  | zero => rfl
  | succ n ih => rw [sg, ih]; rfl
theorem plS_inv {w : Nat → Int} {σ u : Int} : plS w σ (plS w σ u) = u := by
  unfold plS
  split <;> omega
theorem ws_sec {w : Nat → Int} (hw : wOk w) {k : Nat} {p : Int} (hk : (k : Int) < w 0) (h : wsum w k ≤ p ∧ p < wsum w (k + 1)) : 0 ≤ p ∧ p < tot w := by
  have b1 := ws_b hw (i := k) (by omega)
  have b2 := ws_b hw (i := k + 1) (by omega)
  omega
section
variable {E : fxE} {M : fxM}
theorem ct_fill (hW : fx_Wt E) {a n : Nat} {v : Int} (ha : kd E a = 11) (hn : ln E a = n) (hn1 : n < 100000) : CtV E m_J7_fill_53178 [.inr a, .inl v] M (fun M' => M' = mrow M a (fun j => if j < n then v else M a j)) := by
  refine x_ct (by decide) (Nat.le_of_ble_eq_true rfl) (b_J7_fill_53178_0 hW a v M _ ha ?_)
  have key : ∀ (q x : Nat), x + q = n → fx_At E m_J7_fill_53178 5 [some (.inr a), some (.inl v), some (.inl (x : Int)), some (.inl (ln E a : Int))] [] (mrow M a (fun j => if j < x then v else M a j)) (fun r M' => r = none ∧ M' = mrow M a (fun j => if j < n then v else M a j)) := by
    intro q
    induction q with
    | zero =>
      intro x hx
      obtain rfl : x = n := by omega
      exact b_J7_fill_53178_5 hW a v _ _ _ _ ha ⟨by omega, by omega, fun _ => ⟨rfl, rfl⟩, fun z => absurd (by omega) z⟩
    | succ q ih =>
      intro x hx
      refine b_J7_fill_53178_5 hW a v _ _ _ _ ha ⟨by omega, by omega, fun z => absurd z (by omega), fun _ => ⟨by omega, fun M4 h4 => ?_⟩⟩
      rw [Int.toNat_natCast, mset_row] at h4
      have e : (fun j => if j = x then v else if j < x then v else M a j) = fun j => if j < x + 1 then v else M a j := by
        funext j
        by_cases h1 : j = x
        · rw [if_pos h1, if_pos (by omega)]
        · rw [if_neg h1]
          by_cases h2 : j < x
          · rw [if_pos h2, if_pos (by omega)]
          · rw [if_neg h2, if_neg (by omega)]
      rw [e] at h4
      rw [h4]
      exact ih (x + 1) (by omega)
  have h0 := key n 0 (by omega)
  have e : mrow M a (fun j => if j < 0 then v else M a j) = M := by
    have : (fun j => if j < 0 then v else M a j) = M a := by funext j; simp
    rw [this, mrow_id]
  rw [e] at h0
  exact h0
theorem ct_distanceOf (hW : fx_Wt E) {v : Nat} {p : Int} (hv : kd E v = 8) (h5 : inR (M v 5)) : CtI E m_X8_distanceOf [.inr v, .inl p] M (fun r M' => r = (if M v 5 = 0 then p else M v 6 - p) ∧ M' = M) :=
  x_ct (by decide) (Nat.le_of_ble_eq_true rfl) (b_X8_distanceOf_0 hW v p M _ hv ⟨h5, fun h => ⟨_, rfl, by rw [if_neg h], rfl⟩, fun h => ⟨_, rfl, by rw [if_pos h], rfl⟩⟩)
theorem ov (hW : fx_Wt E) {v k : Nat} (hv : kd E v = 8) (hk : k < 4) : own E (rf E v k) = v := by
  match k, hk with
  | 0, _ => exact own_r hW hv (wk_8_0 hW hv) (by decide) rfl (by decide)
  | 1, _ => exact own_r hW hv (wk_8_1 hW hv) (by decide) rfl (by decide)
  | 2, _ => exact own_r hW hv (wk_8_2 hW hv) (by decide) rfl (by decide)
  | 3, _ => exact own_r hW hv (wk_8_3 hW hv) (by decide) rfl (by decide)
theorem vne (hW : fx_Wt E) {v i j : Nat} (hv : kd E v = 8) (hi : (lay 8)[i]? = some true) (hj : (lay 8)[j]? = some true) (h : i ≠ j) : rf E v i ≠ rf E v j := one_ne hW hv (by decide) hi hj h
theorem vnr (hW : fx_Wt E) {v k : Nat} (hv : kd E v = 8) (hk : k < 4) : rf E v k ≠ v := fun e => by
  match k, hk with
  | 0, _ => exact kd_ne (wk_8_0 hW hv) hv (by decide) e
  | 1, _ => exact kd_ne (wk_8_1 hW hv) hv (by decide) e
  | 2, _ => exact kd_ne (wk_8_2 hW hv) hv (by decide) e
  | 3, _ => exact kd_ne (wk_8_3 hW hv) hv (by decide) e
/-- units done up to place P -/
def UI (E : fxE) (M0 M : fxM) (v : Nat) (w : Nat → Int) (σ P : Int) : Prop := (∀ c, c ≠ rf E v 0 → c ≠ rf E v 1 → M c = M0 c) ∧ (∀ y : Nat, y ≤ 300 → M (rf E v 0) y = M0 (rf E v 0) y + (if 1 ≤ y ∧ 0 ≤ plS w σ ((y : Int) - 1) ∧ plS w σ ((y : Int) - 1) < P then cU w σ y else 0)) ∧ ∀ d : Nat, d < 300 → 0 ≤ plS w σ d → plS w σ d < P → M (rf E v 1) d = 30000 + scS w (plS w σ d)
theorem ct_lookAtUnits (hW : fx_Wt E) {v f : Nat} {w : Nat → Int} {σ : Int} (hv : kd E v = 8) (hf : kd E f = 2) (hF : FR E M f w) (hw : wOk w) (h5 : M v 5 = σ) (h6 : M v 6 = tot w) (hσ : inR σ) : CtV E m_X8_lookAtUnits [.inr v, .inr f] M (fun M' => (∀ c, c ≠ rf E v 0 → c ≠ rf E v 1 → M' c = M c) ∧ (∀ y : Nat, y ≤ 300 → M' (rf E v 0) y = M (rf E v 0) y + cU w σ y) ∧ ∀ d : Nat, (d : Int) < tot w → M' (rf E v 1) d = 30000 + scS w (plS w σ d)) := by
  have h0 := hw.1
  have h3 := hw.2.2.1
  have h1 := hw.tot1
  have n01 : rf E v 0 ≠ rf E v 1 := vne hW hv rfl rfl (by decide)
  have v0 : v ≠ rf E v 0 := (vnr hW hv (by decide)).symm
  have v1 : v ≠ rf E v 1 := (vnr hW hv (by decide)).symm
  have frR : ∀ M1 : fxM, (∀ c, c ≠ rf E v 0 → c ≠ rf E v 1 → M1 c = M c) → FR E M1 f w := fun M1 h => hF.sa hW hf (fun c hc => h c (fun e => by rw [e, ov hW hv (by decide)] at hc; exact kd_ne hv hf (by decide) hc) (fun e => by rw [e, ov hW hv (by decide)] at hc; exact kd_ne hv hf (by decide) hc))
  have step : ∀ (k : Nat) (P : Int) (M1 : fxM) (Q : Option fxV → fxM → Prop) (x4 : Int), (k : Int) < w 0 → wsum w k ≤ P ∧ P < wsum w (k + 1) → UI E M M1 v w σ P → (∀ M2, UI E M M2 v w σ (P + 1) → fx_At E m_X8_lookAtUnits 15 [some (.inr v), some (.inr f), some (.inl (P + 1)), some (.inl (k : Int)), some (.inl (x4 + 1)), none] [] M2 Q) → fx_At E m_X8_lookAtUnits 45 [some (.inr v), some (.inr f), some (.inl P), some (.inl (k : Int)), some (.inl x4), none] [.inl (plS w σ P)] M1 Q := by
    intro k P M1 Q x4 hk hP hU hN
    obtain ⟨u1, u2, u3⟩ := id hU
    have hp := ws_sec hw hk hP
    have hs := plS_b (σ := σ) hp
    obtain ⟨s, hse⟩ : ∃ s : Nat, plS w σ P = (s : Int) := ⟨(plS w σ P).toNat, by omega⟩
    have hinv : plS w σ (s : Int) = P := by rw [← hse, plS_inv]
    have hF1 := frR M1 u1
    refine b_X8_lookAtUnits_45 hW v f _ _ _ _ M1 Q hv hf ?_
    rw [hse, show ((s : Int) + 1).toNat = s + 1 by omega, Int.toNat_natCast, Int.toNat_natCast]
    refine ⟨by omega, fun z => absurd z (by omega), fun _ => ⟨fun z => absurd z (by omega), fun _ => ⟨by omega, by omega, fun M4 h4 => ⟨by omega, fun M6 h6' => hN M6 ?_⟩⟩⟩⟩
    have hF4 : FR E M4 f w := frR M4 (fun c a b => by rw [h4, mset_o b, u1 c a b])
    rw [(hF1.2.1 k hk).2.2, ← scS_at hw hk hP] at h4
    rw [(hF4.2.1 k hk).2.1, ← attS_at hw hk hP] at h6'
    have hcu : attS w P = cU w σ ((s + 1 : Nat) : Int) := by
      rw [cU, if_neg (by omega), show ((s + 1 : Nat) : Int) - 1 = (s : Int) by omega, hinv]
    refine ⟨fun c a b => by rw [h6', mset_o a, h4, mset_o b, u1 c a b], fun y hy => ?_, fun d hd hd0 hdP => ?_⟩
    · rw [h6', h4, mset_o n01]
      by_cases hys : y = s + 1
      · subst hys
        rw [mset_s, u2 (s + 1) hy, if_neg (by rw [show ((s + 1 : Nat) : Int) - 1 = (s : Int) by omega, hinv]; omega), if_pos (by rw [show ((s + 1 : Nat) : Int) - 1 = (s : Int) by omega, hinv]; omega), hcu]
        omega
      · rw [mset_n hys, mset_o n01, u2 y hy]
        have hne : 1 ≤ y → plS w σ ((y : Int) - 1) ≠ P := fun h1y e => by
          have : plS w σ (plS w σ ((y : Int) - 1)) = plS w σ P := by rw [e]
          rw [plS_inv, hse] at this
          omega
        by_cases hD : 1 ≤ y ∧ 0 ≤ plS w σ ((y : Int) - 1) ∧ plS w σ ((y : Int) - 1) < P
        · rw [if_pos hD, if_pos (by omega)]
        · rw [if_neg hD, if_neg (fun z => hD ⟨z.1, z.2.1, by have := hne z.1; omega⟩)]
    · rw [h6', mset_o n01.symm, h4]
      by_cases hds : d = s
      · subst hds; rw [mset_s, hinv]
      · rw [mset_n hds]
        refine u3 d hd hd0 ?_
        have : plS w σ d ≠ P := fun e => by
          have e2 : plS w σ (plS w σ (d : Int)) = plS w σ P := by rw [e]
          rw [plS_inv, hse] at e2
          omega
        omega
  have at15 : ∀ (k : Nat) (Q : Option fxV → fxM → Prop), (k : Int) < w 0 → (∀ M2, UI E M M2 v w σ (wsum w (k + 1)) → fx_At E m_X8_lookAtUnits 4 [some (.inr v), some (.inr f), some (.inl (wsum w (k + 1))), some (.inl ((k : Int) + 1)), none, none] [] M2 Q) → ∀ (q i : Nat) (M1 : fxM), (i : Int) + q = w (1 + 3 * k) → UI E M M1 v w σ (wsum w k + i) → fx_At E m_X8_lookAtUnits 15 [some (.inr v), some (.inr f), some (.inl (wsum w k + i)), some (.inl (k : Int)), some (.inl (i : Int)), none] [] M1 Q := by
    intro k Q hk hN q
    have hsec := hw.2.1 k hk
    have hl := hsec.1
    have hws := ws_s w k
    induction q with
    | zero =>
      intro i M1 hi hU
      have hF1 := frR M1 hU.1
      refine b_X8_lookAtUnits_15 hW v f _ _ _ M1 Q hv hf ?_
      rw [Int.toNat_natCast, (hF1.2.1 k hk).1]
      refine ⟨by omega, by omega, by omega, fun _ => ?_, fun z => absurd (by omega) z⟩
      have e : wsum w k + (i : Int) = wsum w (k + 1) := by omega
      rw [e] at hU ⊢
      exact hN M1 hU
    | succ q ih =>
      intro i M1 hi hU
      have hF1 := frR M1 hU.1
      have hst := step k (wsum w k + i) M1 Q i hk (by omega) hU (fun M2 hU2 => by
        have h' := ih (i + 1) M2 (by omega) (by rw [show wsum w k + ((i + 1 : Nat) : Int) = wsum w k + i + 1 by omega]; exact hU2)
        rw [show wsum w k + ((i + 1 : Nat) : Int) = wsum w k + i + 1 by omega] at h'
        exact h')
      have k5 : M1 v 5 = σ := by rw [hU.1 v v0 v1, h5]
      have k6 : M1 v 6 = tot w := by rw [hU.1 v v0 v1, h6]
      refine b_X8_lookAtUnits_15 hW v f _ _ _ M1 Q hv hf ?_
      rw [Int.toNat_natCast, (hF1.2.1 k hk).1, k5, k6]
      refine ⟨by omega, by omega, by omega, fun z => absurd z (by omega), fun _ => ⟨hσ, fun hz => ?_, fun hz => ?_⟩⟩
      · rw [plS, if_neg hz] at hst
        exact hst
      · have hst' : fx_At E m_X8_lookAtUnits 45 [some (.inr v), some (.inr f), some (.inl (wsum w k + i)), some (.inl (k : Int)), some (.inl (i : Int)), none] [.inl (plS w σ (wsum w k + i))] M1 Q := hst
        rw [show plS w σ (wsum w k + i) = wsum w k + i by rw [plS, if_pos hz]] at hst'
        exact hst'
  have key : ∀ (q k : Nat) (M1 : fxM), (k : Int) + q = w 0 → UI E M M1 v w σ (wsum w k) → fx_At E m_X8_lookAtUnits 4 [some (.inr v), some (.inr f), some (.inl (wsum w k)), some (.inl (k : Int)), none, none] [] M1 (fun r M' => r = none ∧ UI E M M' v w σ (tot w)) := by
    intro q
    induction q with
    | zero =>
      intro k M1 hk hU
      have hF1 := frR M1 hU.1
      refine b_X8_lookAtUnits_4 hW v f _ _ M1 _ hv hf ?_
      rw [hF1.1]
      refine ⟨by omega, by omega, fun _ => ⟨rfl, ?_⟩, fun z => absurd (by omega) z⟩
      rw [show k = (w 0).toNat by omega, ws_tot hw] at hU
      exact hU
    | succ q ih =>
      intro k M1 hk hU
      have hF1 := frR M1 hU.1
      refine b_X8_lookAtUnits_4 hW v f _ _ M1 _ hv hf ?_
      rw [hF1.1]
      refine ⟨by omega, by omega, fun z => absurd z (by omega), fun _ => ?_⟩
      have hl := (hw.2.1 k (by omega)).1
      have h' := at15 k _ (by omega) (fun M2 hU2 => ih (k + 1) M2 (by omega) hU2) (w (1 + 3 * k)).toNat 0 M1 (by omega) (by rw [show wsum w k + ((0 : Nat) : Int) = wsum w k by omega]; exact hU)
      rw [show wsum w k + ((0 : Nat) : Int) = wsum w k by omega] at h'
      exact h'
  refine x_ct (by decide) (Nat.le_of_ble_eq_true rfl) (b_X8_lookAtUnits_0 hW v f M _ hv hf ?_)
  have h00 := key (w 0).toNat 0 M (by omega) ⟨fun _ _ _ => rfl, fun y hy => by rw [if_neg (by have : wsum w 0 = 0 := rfl; omega)]; omega, fun d hd a b => by have : wsum w 0 = 0 := rfl; omega⟩
  refine x_mono h00 (fun r M' hq => ⟨hq.1, hq.2.1, fun y hy => ?_, fun d hd => ?_⟩)
  · rw [hq.2.2.1 y hy]
    by_cases hD : 1 ≤ y ∧ 0 ≤ plS w σ ((y : Int) - 1) ∧ plS w σ ((y : Int) - 1) < tot w
    · rw [if_pos hD]
    · rw [if_neg hD, cU]
      by_cases hy0 : (y : Int) = 0
      · rw [if_pos hy0]
      · rw [if_neg hy0, attS_out hw (by omega)]
  · have := plS_b (w := w) (σ := σ) (u := (d : Int)) (by omega)
    exact hq.2.2.2 d (by omega) this.1 this.2
theorem ct_lookAtBends (hW : fx_Wt E) {v f : Nat} {w : Nat → Int} {σ : Int} (hv : kd E v = 8) (hf : kd E f = 2) (hF : FR E M f w) (hw : wOk w) (h5 : M v 5 = σ) (h6 : M v 6 = tot w) (hσ : inR σ) : CtV E m_X8_lookAtBends [.inr v, .inr f] M (fun M' => (∀ c, c ≠ rf E v 0 → M' c = M c) ∧ ∀ y : Nat, y ≤ 300 → M' (rf E v 0) y = M (rf E v 0) y + sg (fB w σ y) (w 43).toNat) := by
  have h43 := hw.2.2.2.2.1
  have h3 := hw.2.2.1
  have v0 : v ≠ rf E v 0 := (vnr hW hv (by decide)).symm
  have frR : ∀ M1 : fxM, (∀ c, c ≠ rf E v 0 → M1 c = M c) → FR E M1 f w := fun M1 h => hF.sa hW hf (fun c hc => h c (fun e => by rw [e, ov hW hv (by decide)] at hc; exact kd_ne hv hf (by decide) hc))
  have key : ∀ (q k : Nat) (M1 : fxM), (k : Int) + q = w 43 → (∀ c, c ≠ rf E v 0 → M1 c = M c) → (∀ y : Nat, y ≤ 300 → M1 (rf E v 0) y = M (rf E v 0) y + sg (fB w σ y) k) → fx_At E m_X8_lookAtBends 2 [some (.inr v), some (.inr f), some (.inl (k : Int)), none] [] M1 (fun r M' => r = none ∧ (∀ c, c ≠ rf E v 0 → M' c = M c) ∧ ∀ y : Nat, y ≤ 300 → M' (rf E v 0) y = M (rf E v 0) y + sg (fB w σ y) (w 43).toNat) := by
    intro q
    induction q with
    | zero =>
      intro k M1 hk u1 u2
      have hF1 := frR M1 u1
      refine b_X8_lookAtBends_2 hW v f _ M1 _ hv hf ?_
      rw [hF1.2.2.2.1]
      refine ⟨by omega, by omega, fun _ => ⟨rfl, u1, ?_⟩, fun z => absurd (by omega) z⟩
      rw [show (w 43).toNat = k by omega]
      exact u2
    | succ q ih =>
      intro k M1 hk u1 u2
      have hF1 := frR M1 u1
      have k5 : M1 v 5 = σ := by rw [u1 v v0, h5]
      have k6 : M1 v 6 = tot w := by rw [u1 v v0, h6]
      have hb := hw.2.2.2.2.2.1 k (by omega)
      refine b_X8_lookAtBends_2 hW v f _ M1 _ hv hf ?_
      rw [hF1.2.2.2.1, Int.toNat_natCast, (hF1.2.2.2.2.1 k (by omega)).1]
      refine ⟨by omega, by omega, fun z => absurd z (by omega), fun _ => ⟨by omega, _, ct_distanceOf hW hv (by rw [k5]; exact hσ), fun v4 M4 h4 => ?_⟩⟩
      obtain ⟨rfl, rfl⟩ := h4
      have e : (if M4 v 5 = 0 then w (44 + 2 * k) else M4 v 6 - w (44 + 2 * k)) = farS w σ (w (44 + 2 * k)) := by rw [k5, k6]; rfl
      rw [e]
      have hfb : 0 ≤ farS w σ (w (44 + 2 * k)) ∧ farS w σ (w (44 + 2 * k)) ≤ 300 := by unfold farS; split <;> omega
      rw [(hF1.2.2.2.2.1 k (by omega)).2]
      refine ⟨by omega, fun z => absurd z (by omega), fun _ => ⟨fun z => absurd z (by omega), fun _ => ⟨by omega, fun M7 h7 => ?_⟩⟩⟩
      refine ih (k + 1) M7 (by omega) (fun c a => by rw [h7, mset_o a, u1 c a]) (fun y hy => ?_)
      rw [h7]
      by_cases hyd : y = (farS w σ (w (44 + 2 * k))).toNat
      · subst hyd
        rw [mset_s, u2 _ hy, sg, fB, if_pos (by omega)]; omega
      · rw [mset_n hyd, u2 y hy, sg, fB, if_neg (by omega)]; omega
  refine x_ct (by decide) (Nat.le_of_ble_eq_true rfl) (b_X8_lookAtBends_0 hW v f M _ hv hf ?_)
  exact key (w 43).toNat 0 M (by omega) (fun _ _ => rfl) (fun y hy => by rw [sg]; omega)
end
