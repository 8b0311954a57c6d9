/-! Losses: what a row w says of them, and the reference's. -/
def farS (w : Nat → Int) (σ p : Int) : Int := if σ = 0 then p else tot w - p
def plS (w : Nat → Int) (σ u : Int) : Int := if σ = 0 then u else tot w - 1 - u
def attS (w : Nat → Int) (p : Int) : Int := sg (fun k => if wsum w k ≤ p ∧ p < wsum w (k + 1) then w (2 + 3 * k) else 0) (w 0).toNat
def scS (w : Nat → Int) (p : Int) : Int := sg (fun k => if wsum w k ≤ p ∧ p < wsum w (k + 1) then w (3 + 3 * k) else 0) (w 0).toNat
def fJ (w : Nat → Int) (σ y : Int) : Nat → Int := fun k => if farS w σ (wsum w k) = y then w (25 + 2 * k) else 0
def fB (w : Nat → Int) (σ y : Int) : Nat → Int := fun k => if farS w σ (w (44 + 2 * k)) = y then w (45 + 2 * k) else 0
def cU (w : Nat → Int) (σ y : Int) : Int := if y = 0 then 0 else attS w (plS w σ (y - 1))
def cstS (w : Nat → Int) (σ y : Int) : Int := cU w σ y + sg (fJ w σ y) ((w 0).toNat + 1) + sg (fB w σ y) (w 43).toNat
def lss (w : Nat → Int) (σ : Int) (x : Nat) : Int := sg (fun y => cstS w σ (y : Int)) (x + 1)
theorem sg_pick {g : Nat → Int} {k : Nat} : ∀ (n : Nat), k < n → (∀ i, i < n → i ≠ k → g i = 0) → sg g n = g k
  | 0, h, _ => absurd h (by omega)
  | n + 1, h, h0 => by
    rw [sg]
    by_cases hk : k = n
    · subst hk
      have : sg g k = 0 := by
        have := sg_congr (f := g) (g := fun _ => 0) k (fun i hi => h0 i (by omega) (by omega))
        rw [this]
        clear this h h0
        induction k with
        | zero => rfl
        | succ k ih => rw [sg, ih]; rfl
      omega
    · rw [sg_pick n (by omega) (fun i hi => h0 i (by omega)), h0 n (by omega) (by omega)]; omega
theorem ws_s (w : Nat → Int) (k : Nat) : wsum w (k + 1) = wsum w k + w (1 + 3 * k) := rfl
theorem ws_mono {w : Nat → Int} (hw : wOk w) : ∀ {j i : Nat}, i ≤ j → (j : Int) ≤ w 0 → wsum w i ≤ wsum w j
  | 0, i, h, _ => by rw [show i = 0 by omega]; omega
  | j + 1, i, h, hj => by
    by_cases e : i = j + 1
    · rw [e]; omega
    · have := ws_mono hw (j := j) (i := i) (by omega) (by omega)
      have := (hw.2.1 j (by omega)).1
      rw [ws_s]; omega
theorem ws_lt {w : Nat → Int} (hw : wOk w) {i j : Nat} (h : i < j) (hj : (j : Int) ≤ w 0) : wsum w i < wsum w j := by
  have := ws_mono hw (i := i + 1) (j := j) h hj
  have := (hw.2.1 i (by omega)).1
  rw [ws_s] at *
  omega
theorem ws_tot {w : Nat → Int} (hw : wOk w) : wsum w (w 0).toNat = tot w := rfl
theorem ws_b {w : Nat → Int} (hw : wOk w) {i : Nat} (hi : (i : Int) ≤ w 0) : 0 ≤ wsum w i ∧ wsum w i ≤ tot w := by
  have h1 := ws_mono hw (Nat.zero_le i) hi
  have h0 := hw.1
  have h2 := ws_mono hw (i := i) (j := (w 0).toNat) (by omega) (by omega)
  have h3 : wsum w 0 = 0 := rfl
  rw [ws_tot hw] at h2
  omega
theorem inS_u {w : Nat → Int} (hw : wOk w) {p : Int} {i j : Nat} (hi : (i : Int) < w 0) (hj : (j : Int) < w 0) (h1 : wsum w i ≤ p ∧ p < wsum w (i + 1)) (h2 : wsum w j ≤ p ∧ p < wsum w (j + 1)) : i = j := by
  rcases Nat.lt_trichotomy i j with h | h | h
  · have := ws_mono hw (i := i + 1) (j := j) h (by omega); omega
  · exact h
  · have := ws_mono hw (i := j + 1) (j := i) h (by omega); omega
theorem attS_at {w : Nat → Int} (hw : wOk w) {p : Int} {k : Nat} (hk : (k : Int) < w 0) (h : wsum w k ≤ p ∧ p < wsum w (k + 1)) : attS w p = w (2 + 3 * k) := by
  have h0 := hw.1
  unfold attS
  rw [sg_pick (k := k) _ (by omega) (fun i hi hik => if_neg (fun z => hik (inS_u hw (by omega) hk z h)))]
  rw [if_pos h]
theorem scS_at {w : Nat → Int} (hw : wOk w) {p : Int} {k : Nat} (hk : (k : Int) < w 0) (h : wsum w k ≤ p ∧ p < wsum w (k + 1)) : scS w p = w (3 + 3 * k) := by
  have h0 := hw.1
  unfold scS
  rw [sg_pick (k := k) _ (by omega) (fun i hi hik => if_neg (fun z => hik (inS_u hw (by omega) hk z h)))]
  rw [if_pos h]
theorem plS_b {w : Nat → Int} {σ u : Int} (h : 0 ≤ u ∧ u < tot w) : 0 ≤ plS w σ u ∧ plS w σ u < tot w := by
  unfold plS
  split <;> omega
section
variable {E : fxE} {M : fxM}
theorem ct_far (hW : fx_Wt E) {m : Nat} {σ p : Int} (hm : kd E m = 10) (hw : wOk (M (rf E m 0))) (hσ : inR σ) : CtI E m_X10_far [.inr m, .inl σ, .inl p] M (fun r M' => r = farS (M (rf E m 0)) σ p ∧ M' = M) := by
  have h0 := hw.1
  exact x_ct (by decide) (Nat.le_of_ble_eq_true rfl) (b_X10_far_0 hW m σ p M _ hm ⟨hσ, fun h => ⟨by omega, _, rfl, by rw [farS, if_neg h]; rfl, rfl⟩, fun h => ⟨_, rfl, by rw [farS, if_pos h], rfl⟩⟩)
theorem ct_sectionOf (hW : fx_Wt E) {m : Nat} {σ u : Int} (hm : kd E m = 10) (hw : wOk (M (rf E m 0))) (hσ : inR σ) (hu : 0 ≤ u ∧ u < tot (M (rf E m 0))) : CtI E m_X10_sectionOf [.inr m, .inl σ, .inl u] M (fun r M' => M' = M ∧ ∃ k : Nat, r = (k : Int) ∧ (k : Int) < M (rf E m 0) 0 ∧ wsum (M (rf E m 0)) k ≤ plS (M (rf E m 0)) σ u ∧ plS (M (rf E m 0)) σ u < wsum (M (rf E m 0)) (k + 1)) := by
  have h0 := hw.1
  have h3 := hw.2.2.1
  obtain ⟨p0, p1⟩ := plS_b (σ := σ) hu
  have key : ∀ (n i : Nat), ((i : Int) + n = M (rf E m 0) 0) → 0 < n → wsum (M (rf E m 0)) i ≤ plS (M (rf E m 0)) σ u → fx_At E m_X10_sectionOf 20 [some (.inr m), some (.inl σ), some (.inl u), some (.inl (plS (M (rf E m 0)) σ u)), some (.inl (i : Int))] [] M (fun r M' => ∃ v : Int, r = some (.inl v) ∧ M' = M ∧ ∃ k : Nat, v = (k : Int) ∧ (k : Int) < M (rf E m 0) 0 ∧ wsum (M (rf E m 0)) k ≤ plS (M (rf E m 0)) σ u ∧ plS (M (rf E m 0)) σ u < wsum (M (rf E m 0)) (k + 1)) := by
    intro n
    induction n with
    | zero => intro i _ h; exact absurd h (by omega)
    | succ n ih =>
      intro i hi _ hle
      have hb := ws_b hw (i := i + 1) (by omega)
      refine b_X10_sectionOf_20 hW m σ u _ _ M _ hm ?_
      rw [show ((i : Int) + 1).toNat = i + 1 by omega]
      refine ⟨by omega, by omega, by omega, fun hlt => ⟨_, rfl, rfl, i, rfl, by omega, hle, hlt⟩, fun hge => ?_⟩
      by_cases hn : n = 0
      · have e : i + 1 = (M (rf E m 0) 0).toNat := by omega
        rw [e, ws_tot hw] at hge
        omega
      · exact ih (i + 1) (by omega) (by omega) (by omega)
  have hb0 : wsum (M (rf E m 0)) 0 = 0 := rfl
  have h20 : ∀ P : Int, P = plS (M (rf E m 0)) σ u → fx_At E m_X10_sectionOf 20 [some (.inr m), some (.inl σ), some (.inl u), some (.inl P), some (.inl 0)] [] M _ := fun P hP => by
    rw [hP]
    exact key (M (rf E m 0) 0).toNat 0 (by omega) (by omega) (by omega)
  exact x_ct (by decide) (Nat.le_of_ble_eq_true rfl) (b_X10_sectionOf_0 hW m σ u M _ hm ⟨hσ, fun h => ⟨by omega, h20 _ (by rw [plS, if_neg h]; rfl)⟩, fun h => h20 _ (by rw [plS, if_pos h])⟩)
/-- what the losses' laying has done up to x -/
def LL (E : fxE) (M0 M : fxM) (m : Nat) (σ : Int) (x : Nat) : Prop := (∀ c, c ≠ rf E m 9 → c ≠ rf E m 10 → M c = M0 c) ∧ (∀ y, y < x → M (rf E m 9) y = lss (M0 (rf E m 0)) σ y) ∧ ∀ y, y < x → (y : Int) < tot (M0 (rf E m 0)) → M (rf E m 10) y = scS (M0 (rf E m 0)) (plS (M0 (rf E m 0)) σ y)
theorem ct_layLosses (hW : fx_Wt E) {m : Nat} {σ : Int} (hm : kd E m = 10) (hw : wOk (M (rf E m 0))) (hσ : inR σ) : CtV E m_X10_layLosses [.inr m, .inl σ] M (fun M' => LL E M M' m σ ((tot (M (rf E m 0))).toNat + 1)) := by
  obtain ⟨w, hwe⟩ : ∃ w, M (rf E m 0) = w := ⟨_, rfl⟩
  rw [hwe] at hw ⊢
  have h0 := hw.1
  have h3 := hw.2.2.1
  have h1 := hw.tot1
  have h43 := hw.2.2.2.2.1
  have n09 : rf E m 0 ≠ rf E m 9 := mne hW hm rfl rfl (by decide)
  have n010 : rf E m 0 ≠ rf E m 10 := mne hW hm rfl rfl (by decide)
  have n910 : rf E m 9 ≠ rf E m 10 := mne hW hm rfl rfl (by decide)
  have at51 : ∀ (M1 : fxM) (s : Int) (x : Nat) (Q : Option fxV → fxM → Prop), M1 (rf E m 0) = w → (x : Int) ≤ tot w → fx_At E m_X10_layLosses 106 [some (.inr m), some (.inl σ), some (.inl (tot w)), some (.inl (s + sg (fJ w σ x) ((w 0).toNat + 1))), some (.inl (x : Int)), some (.inl 0)] [] M1 Q → ∀ (q k : Nat), k + q = (w 0).toNat + 1 → fx_At E m_X10_layLosses 51 [some (.inr m), some (.inl σ), some (.inl (tot w)), some (.inl (s + sg (fJ w σ x) k)), some (.inl (x : Int)), some (.inl (k : Int))] [] M1 Q := by
    intro M1 s x Q hw1 hx hk q
    induction q with
    | zero =>
      intro k hkq
      obtain rfl : k = (w 0).toNat + 1 := by omega
      refine b_X10_layLosses_51 hW m σ _ _ _ _ M1 Q hm ?_
      rw [hw1]
      exact ⟨by omega, by omega, fun _ => hk, fun z => absurd (by omega) z⟩
    | succ q ih =>
      intro k hkq
      have hb := ws_b hw (i := k) (by omega)
      refine b_X10_layLosses_51 hW m σ _ _ _ _ M1 Q hm ?_
      rw [hw1, Int.toNat_natCast]
      refine ⟨by omega, by omega, fun z => absurd z (by omega), fun _ => ⟨by omega, _, ct_far hW hm (by rw [hw1]; exact hw) hσ, fun v4 M4 h4 => ?_⟩⟩
      obtain ⟨rfl, rfl⟩ := h4
      rw [hw1]
      have hfb : 0 ≤ farS w σ (wsum w k) ∧ farS w σ (wsum w k) ≤ 300 := by unfold farS; split <;> omega
      have h' := ih (k + 1) (by omega)
      refine ⟨by omega, by omega, fun hne => ?_, fun he => ⟨by omega, ?_⟩⟩
      · have e : s + sg (fJ w σ x) (k + 1) = s + sg (fJ w σ x) k + 0 := by
          rw [sg, fJ, if_neg hne]; omega
        rw [e] at h'
        exact h'
      · have e : s + sg (fJ w σ x) (k + 1) = s + sg (fJ w σ x) k + w (25 + 2 * (k : Int)).toNat := by
          rw [sg, fJ, if_pos he, show (25 + 2 * (k : Int)).toNat = 25 + 2 * k by omega]; omega
        rw [e] at h'
        exact h'
  have key : ∀ (n x : Nat) (M1 : fxM), (x : Int) + n = tot w + 1 → LL E M M1 m σ x → fx_At E m_X10_layLosses 10 [some (.inr m), some (.inl σ), some (.inl (tot w)), some (.inl (sg (fun y => cstS w σ (y : Int)) x)), some (.inl (x : Int)), none] [] M1 (fun r M' => r = none ∧ LL E M M' m σ ((tot w).toNat + 1)) := by
    intro n
    induction n with
    | zero =>
      intro x M1 hx hL
      refine b_X10_layLosses_10 hW m σ _ _ _ M1 _ hm ⟨by omega, by omega, fun _ => ⟨rfl, ?_⟩, fun z => absurd (by omega) z⟩
      rw [show (tot w).toNat + 1 = x by omega]
      exact hL
    | succ n ih =>
      intro x M1 hx hL
      have hw1 : M1 (rf E m 0) = w := by rw [hL.1 _ n09 n010, hwe]
      have at106 : ∀ (q k : Nat), k + q = (w 43).toNat → fx_At E m_X10_layLosses 106 [some (.inr m), some (.inl σ), some (.inl (tot w)), some (.inl (sg (fun y => cstS w σ (y : Int)) x + cU w σ x + sg (fJ w σ x) ((w 0).toNat + 1) + sg (fB w σ x) k)), some (.inl (x : Int)), some (.inl (k : Int))] [] M1 (fun r M' => r = none ∧ LL E M M' m σ ((tot w).toNat + 1)) := by
        intro q
        induction q with
        | zero =>
          intro k hk
          obtain rfl : k = (w 43).toNat := by omega
          have es : sg (fun y => cstS w σ (y : Int)) x + cU w σ x + sg (fJ w σ x) ((w 0).toNat + 1) + sg (fB w σ x) (w 43).toNat = sg (fun y => cstS w σ (y : Int)) (x + 1) := by
            show _ = sg (fun y => cstS w σ (y : Int)) x + cstS w σ x
            unfold cstS
            omega
          rw [es]
          refine b_X10_layLosses_106 hW m σ _ _ _ _ M1 _ hm ?_
          rw [hw1, Int.toNat_natCast]
          refine ⟨by omega, by omega, fun _ => ⟨by omega, fun M4 h4 => ⟨by omega, by omega, fun hle => ?_, fun hlt => ?_⟩⟩, fun z => absurd (by omega) z⟩
          · refine ih (x + 1) M4 (by omega) ⟨fun c a b => by rw [h4, mset_o a, hL.1 c a b], fun y hy => ?_, fun y hy hyt => ?_⟩
            · rw [h4]
              by_cases hyx : y = x
              · subst hyx; rw [mset_s, hwe]; rfl
              · rw [mset_n hyx]; exact hL.2.1 y (by omega)
            · rw [h4, mset_o n910.symm]
              rw [hwe] at hyt
              exact hL.2.2 y (by omega) (by rw [hwe]; exact hyt)
          · have hw4 : M4 (rf E m 0) = w := by rw [h4, mset_o n09, hw1]
            refine ⟨_, ct_sectionOf hW hm (by rw [hw4]; exact hw) hσ (by rw [hw4]; omega), fun v7 M7 h7 => ?_⟩
            obtain ⟨rfl, k, rfl, k1, k2, k3⟩ := h7
            rw [hw4] at k1 k2 k3
            refine ⟨by omega, by omega, fun M10 h10 => ?_⟩
            rw [hw4, show (1 + 3 * (k : Int) + 2).toNat = 3 + 3 * k by omega, ← scS_at hw k1 ⟨k2, k3⟩] at h10
            refine ih (x + 1) M10 (by omega) ⟨fun c a b => by rw [h10, mset_o b, h4, mset_o a, hL.1 c a b], fun y hy => ?_, fun y hy hyt => ?_⟩
            · rw [h10, mset_o n910, h4]
              by_cases hyx : y = x
              · subst hyx; rw [mset_s, hwe]; rfl
              · rw [mset_n hyx]; exact hL.2.1 y (by omega)
            · rw [h10]
              by_cases hyx : y = x
              · subst hyx; rw [mset_s, hwe]
              · rw [mset_n hyx, h4, mset_o n910.symm]; exact hL.2.2 y (by omega) hyt
        | succ q ihq =>
          intro k hk
          have hbk := (hw.2.2.2.2.2.1 k (by omega)).1
          refine b_X10_layLosses_106 hW m σ _ _ _ _ M1 _ hm ?_
          rw [hw1]
          have ea : (44 + 2 * (k : Int)).toNat = 44 + 2 * k := by omega
          have eb : (44 + 2 * (k : Int) + 1).toNat = 45 + 2 * k := by omega
          rw [ea, eb]
          refine ⟨by omega, by omega, fun z => absurd z (by omega), fun _ => ⟨by omega, _, ct_far hW hm (by rw [hw1]; exact hw) hσ, fun v12 M12 h12 => ?_⟩⟩
          obtain ⟨rfl, rfl⟩ := h12
          rw [hw1]
          have hfb : 0 ≤ farS w σ (w (44 + 2 * k)) ∧ farS w σ (w (44 + 2 * k)) ≤ 300 := by unfold farS; split <;> omega
          have h' := ihq (k + 1) (by omega)
          refine ⟨by omega, by omega, fun hne => ?_, fun he => ⟨by omega, ?_⟩⟩
          · rw [show sg (fB w σ x) (k + 1) = sg (fB w σ x) k + 0 by rw [sg, fB, if_neg hne], ← Int.add_assoc] at h'
            exact h'
          · rw [show sg (fB w σ x) (k + 1) = sg (fB w σ x) k + w (45 + 2 * k) by rw [sg, fB, if_pos he], ← Int.add_assoc] at h'
            exact h'
      have h106 := at106 (w 43).toNat 0 (by omega)
      have e0 : ∀ s : Int, s + sg (fB w σ x) 0 = s := fun s => by rw [sg]; omega
      rw [e0] at h106
      have h51 := at51 M1 _ x _ hw1 (by omega) h106 ((w 0).toNat + 1) 0 (by omega)
      have e1 : ∀ s : Int, s + sg (fJ w σ x) 0 = s := fun s => by rw [sg]; omega
      rw [e1] at h51
      refine b_X10_layLosses_10 hW m σ _ _ _ M1 _ hm ⟨by omega, by omega, fun z => absurd z (by omega), fun _ => ⟨fun hx0 => ?_, fun hx0 => ?_⟩⟩
      · refine ⟨_, ct_sectionOf hW hm (by rw [hw1]; exact hw) hσ (by rw [hw1]; omega), fun v3 M3 h3 => ?_⟩
        obtain ⟨rfl, k, rfl, k1, k2, k3⟩ := h3
        rw [hw1] at k1 k2 k3
        rw [hw1, show (1 + 3 * (k : Int) + 1).toNat = 2 + 3 * k by omega]
        rw [cU, if_neg hx0, attS_at hw k1 ⟨k2, k3⟩] at h51
        exact ⟨by omega, h51⟩
      · rw [cU, if_pos hx0] at h51
        exact h51
  refine x_ct (by decide) (Nat.le_of_ble_eq_true rfl) (b_X10_layLosses_0 hW m σ M _ hm ?_)
  rw [hwe]
  exact ⟨by omega, key ((tot w).toNat + 1) 0 M (by omega) ⟨fun _ _ _ => rfl, fun y hy => absurd hy (by omega), fun y hy => absurd hy (by omega)⟩⟩
end
