/-! The class's view: joints, reflectors, the whole of look. -/
theorem sg_first (g : Nat → Int) : ∀ (n : Nat), sg g (n + 1) = g 0 + sg (fun i => g (i + 1)) n
  | 0 => by rw [sg, sg, sg]; omega
  | n + 1 => by rw [sg, sg_first g n, sg]; omega
theorem sg_rev (g : Nat → Int) : ∀ (n : Nat), sg (fun i => g (n - i)) (n + 1) = sg g (n + 1)
  | 0 => by rw [sg, sg, sg, sg]
  | n + 1 => by
    rw [sg_first]
    have e : (fun i => g (n + 1 - (i + 1))) = fun i => g (n - i) := by
      funext i
      rw [show n + 1 - (i + 1) = n - i by omega]
    rw [e, sg_rev g n]
    show g (n + 1 - 0) + sg g (n + 1) = sg g (n + 1) + g (n + 1)
    rw [Nat.sub_zero]; omega
def endS (w : Nat → Int) (σ : Int) : Int := if w 56 = 0 then tot w else farS w σ (w 56)
/-- a reflector at x of height h -/
def RefIn (w : Nat → Int) (σ x h : Int) : Prop := 0 < h ∧ ((∃ k : Nat, (k : Int) ≤ w 0 ∧ x = farS w σ (wsum w k) ∧ h = w (26 + 2 * k) ∧ (x < endS w σ ∨ w 56 = 0)) ∨ (w 56 ≠ 0 ∧ x = endS w σ ∧ h = w 57))
/-- the joint that comes i-th from a side -/
def jt (w : Nat → Int) (σ : Int) (i : Nat) : Nat := if σ = 0 then i else (w 0).toNat - i
def jX (w : Nat → Int) (σ : Int) (i : Nat) : Int := farS w σ (wsum w (jt w σ i))
theorem fJ_jt (w : Nat → Int) (σ y : Int) (i : Nat) : fJ w σ y (jt w σ i) = if jX w σ i = y then w (25 + 2 * jt w σ i) else 0 := rfl
theorem endS_b {w : Nat → Int} (hw : wOk w) {σ : Int} : 1 ≤ endS w σ ∧ endS w σ ≤ 300 := by
  have h1 := hw.tot1
  have h3 := hw.2.2.1
  have h56 := hw.2.2.2.2.2.2.1
  unfold endS farS
  split
  · omega
  · split <;> omega
theorem jt_b {w : Nat → Int} (hw : wOk w) {σ : Int} {i : Nat} (hi : (i : Int) ≤ w 0) : (jt w σ i : Int) ≤ w 0 := by
  have := hw.1
  unfold jt
  split <;> omega
theorem jX_b {w : Nat → Int} (hw : wOk w) {σ : Int} {i : Nat} (hi : (i : Int) ≤ w 0) : 0 ≤ jX w σ i ∧ jX w σ i ≤ 300 := by
  have h3 := hw.2.2.1
  have := ws_b hw (jt_b hw (σ := σ) hi)
  unfold jX farS
  split <;> omega
theorem jX_lt {w : Nat → Int} (hw : wOk w) {σ : Int} {i j : Nat} (hij : i < j) (hj : (j : Int) ≤ w 0) : jX w σ i < jX w σ j := by
  have h0 := hw.1
  unfold jX farS jt
  split
  · exact ws_lt hw hij hj
  · have := ws_lt hw (i := (w 0).toNat - j) (j := (w 0).toNat - i) (by omega) (by omega)
    omega
/-- the reflectors among the first i joints, in their order -/
def JI (w : Nat → Int) (σ : Int) (i R : Nat) (X H : Nat → Int) : Prop := R ≤ i ∧ (∀ q, q < R → ∃ j, j < i ∧ X q = jX w σ j ∧ H q = w (26 + 2 * jt w σ j) ∧ 0 < H q ∧ (X q < endS w σ ∨ w 56 = 0)) ∧ (∀ j, j < i → 0 < w (26 + 2 * jt w σ j) → (jX w σ j < endS w σ ∨ w 56 = 0) → ∃ q, q < R ∧ X q = jX w σ j ∧ H q = w (26 + 2 * jt w σ j)) ∧ ∀ p q, p < q → q < R → X p < X q
theorem JI.skip {w : Nat → Int} {σ : Int} {i R : Nat} {X H : Nat → Int} (h : JI w σ i R X H) (hn : ¬ (0 < w (26 + 2 * jt w σ i) ∧ (jX w σ i < endS w σ ∨ w 56 = 0))) : JI w σ (i + 1) R X H := by
  obtain ⟨h1, h2, h3, h4⟩ := h
  refine ⟨by omega, fun q hq => ?_, fun j hj a b => ?_, h4⟩
  · obtain ⟨j, a, b⟩ := h2 q hq
    exact ⟨j, by omega, b⟩
  · by_cases hji : j = i
    · subst hji; exact absurd ⟨a, b⟩ hn
    · exact h3 j (by omega) a b
theorem JI.add {w : Nat → Int} (hw : wOk w) {σ : Int} {i R : Nat} {X H : Nat → Int} (h : JI w σ i R X H) (hi : (i : Int) ≤ w 0) (hh : 0 < w (26 + 2 * jt w σ i)) (hc : jX w σ i < endS w σ ∨ w 56 = 0) : JI w σ (i + 1) (R + 1) (fun j => if j = R then jX w σ i else X j) (fun j => if j = R then w (26 + 2 * jt w σ i) else H j) := by
  obtain ⟨h1, h2, h3, h4⟩ := h
  refine ⟨by omega, fun q hq => ?_, fun j hj a b => ?_, fun p q hpq hq => ?_⟩
  · by_cases hqR : q = R
    · subst hqR
      exact ⟨i, by omega, by simp, by simp, by simpa using hh, by simpa using hc⟩
    · obtain ⟨j, a, b⟩ := h2 q (by omega)
      refine ⟨j, by omega, ?_⟩
      simp only [if_neg hqR]
      exact b
  · by_cases hji : j = i
    · subst hji
      exact ⟨R, by omega, by simp, by simp⟩
    · obtain ⟨q, q1, q2, q3⟩ := h3 j (by omega) a b
      refine ⟨q, by omega, ?_⟩
      simp only [if_neg (show q ≠ R by omega)]
      exact ⟨q2, q3⟩
  · by_cases hqR : q = R
    · subst hqR
      simp only [if_neg (show p ≠ q by omega), if_true]
      obtain ⟨j, a, b, -⟩ := h2 p hpq
      rw [b]
      exact jX_lt hw a hi
    · simp only [if_neg (show p ≠ R by omega), if_neg hqR]
      exact h4 p q hpq (by omega)
section
variable {E : fxE} {M : fxM}
/-- a reflector is added -/
theorem ct_addReflector (hW : fx_Wt E) {v R : Nat} {x h : Int} (hv : kd E v = 8) (h4 : M v 4 = (R : Int)) (hR : R < 10) (hh : inR h) : CtV E m_X8_addReflector [.inr v, .inl x, .inl h] M (fun M' => (¬ 0 < h ∧ M' = M) ∨ (0 < h ∧ M' = mset (mset (mset M (rf E v 2) R x) (rf E v 3) R h) v 4 ((R : Int) + 1))) := by
  have v2 : v ≠ rf E v 2 := (vnr hW hv (by decide)).symm
  have v3 : v ≠ rf E v 3 := (vnr hW hv (by decide)).symm
  refine x_ct (by decide) (Nat.le_of_ble_eq_true rfl) (b_X8_addReflector_0 hW v x h M _ hv ⟨hh, fun hle => ⟨rfl, Or.inl ⟨by omega, rfl⟩⟩, fun hgt => ⟨by omega, fun z => absurd z (by omega), fun _ => ⟨by omega, fun M4 g4 => ?_⟩⟩⟩)
  rw [h4, Int.toNat_natCast] at g4
  have k4 : M4 v 4 = (R : Int) := by rw [g4, mset_o v2, h4]
  rw [k4, Int.toNat_natCast]
  refine ⟨by omega, fun M6 g6 M7 g7 => ⟨rfl, Or.inr ⟨by omega, ?_⟩⟩⟩
  have k6 : M6 v 4 = (R : Int) := by rw [g6, mset_o v3, k4]
  rw [k6, g6, g4] at g7
  exact g7
/-- joints done up to i -/
def JV (E : fxE) (M0 M : fxM) (v : Nat) (w : Nat → Int) (σ : Int) (i : Nat) : Prop := (∀ c, c ≠ rf E v 0 → c ≠ rf E v 2 → c ≠ rf E v 3 → c ≠ v → M c = M0 c) ∧ (∀ k, k ≠ 4 → M v k = M0 v k) ∧ (∀ y : Nat, y ≤ 300 → M (rf E v 0) y = M0 (rf E v 0) y + sg (fun j => fJ w σ y (jt w σ j)) i) ∧ ∃ R : Nat, M v 4 = (R : Int) ∧ JI w σ i R (M (rf E v 2)) (M (rf E v 3))
theorem ct_lookAtJoints (hW : fx_Wt E) {v f : Nat} {w : Nat → Int} {σ : Int} (hv : kd E v = 8) (hf : kd E f = 2) (hF : FR E M f w) (hw : wOk w) (h5 : M v 5 = σ) (h6 : M v 6 = tot w) (h7 : M v 7 = endS w σ) (hσ : inR σ) : CtV E m_X8_lookAtJoints [.inr v, .inr f] M (fun M' => JV E M M' v w σ ((w 0).toNat + 1)) := by
  have h0 := hw.1
  have h3 := hw.2.2.1
  have h56 := hw.2.2.2.2.2.2.1
  have he := endS_b hw (σ := σ)
  have v0 : v ≠ rf E v 0 := (vnr hW hv (by decide)).symm
  have v2 : v ≠ rf E v 2 := (vnr hW hv (by decide)).symm
  have v3 : v ≠ rf E v 3 := (vnr hW hv (by decide)).symm
  have n02 : rf E v 0 ≠ rf E v 2 := vne hW hv rfl rfl (by decide)
  have n03 : rf E v 0 ≠ rf E v 3 := vne hW hv rfl rfl (by decide)
  have n23 : rf E v 2 ≠ rf E v 3 := vne hW hv rfl rfl (by decide)
  have frR : ∀ M1 : fxM, (∀ c, c ≠ rf E v 0 → c ≠ rf E v 2 → c ≠ rf E v 3 → c ≠ v → M1 c = M c) → FR E M1 f w := fun M1 h => by
    have hn : ∀ c, own E c = f → ∀ k, k < 4 → c ≠ rf E v k := fun c hc k hk e => by
      rw [e, ov hW hv hk] at hc; exact kd_ne hv hf (by decide) hc
    exact hF.sa hW hf (fun c hc => h c (hn c hc 0 (by decide)) (hn c hc 2 (by decide)) (hn c hc 3 (by decide)) (fun e => by rw [e, own_o hv (by decide)] at hc; exact kd_ne hv hf (by decide) hc))
  have key : ∀ (bk : Int), (bk = 0 ↔ w 56 = 0) → (0 ≤ bk ∧ bk ≤ 1) → ∀ (q i : Nat) (M1 : fxM), (i : Int) + q = w 0 + 1 → JV E M M1 v w σ i → fx_At E m_X8_lookAtJoints 20 [some (.inr v), some (.inr f), some (.inl bk), some (.inl (i : Int)), none, none] [] M1 (fun r M' => r = none ∧ JV E M M' v w σ ((w 0).toNat + 1)) := by
    intro bk hbk hbb q
    induction q with
    | zero =>
      intro i M1 hi hJ
      have hF1 := frR M1 hJ.1
      refine b_X8_lookAtJoints_20 hW v f _ _ M1 _ hv hf ?_
      rw [hF1.1]
      refine ⟨by omega, by omega, fun _ => ⟨rfl, ?_⟩, fun z => absurd (by omega) z⟩
      rw [show (w 0).toNat + 1 = i by omega]
      exact hJ
    | succ q ih =>
      intro i M1 hi hJ
      have hF1 := frR M1 hJ.1
      obtain ⟨j1, j2, j3, R, j4, j5⟩ := id hJ
      have k5 : M1 v 5 = σ := by rw [j2 5 (by decide), h5]
      have k6 : M1 v 6 = tot w := by rw [j2 6 (by decide), h6]
      have k7 : M1 v 7 = endS w σ := by rw [j2 7 (by decide), h7]
      have hjb := jt_b hw (σ := σ) (i := i) (by omega)
      have hxb := jX_b hw (σ := σ) (i := i) (by omega)
      have hjh := hw.2.2.2.1 (jt w σ i) hjb
      have hR9 := j5.1
      have at91 : ∀ M2 : fxM, M2 = mset M1 (rf E v 0) (jX w σ i).toNat (M1 (rf E v 0) (jX w σ i).toNat + w (25 + 2 * jt w σ i)) → fx_At E m_X8_lookAtJoints 91 [some (.inr v), some (.inr f), some (.inl bk), some (.inl (i : Int)), some (.inl ((jt w σ i : Nat) : Int)), some (.inl (jX w σ i))] [] M2 (fun r M' => r = none ∧ JV E M M' v w σ ((w 0).toNat + 1)) := by
        intro M2 g2
        have o0 : ∀ c, c ≠ rf E v 0 → M2 c = M1 c := fun c a => by rw [g2, mset_o a]
        have hF2 : FR E M2 f w := frR M2 (fun c a b d e => by rw [o0 c a, j1 c a b d e])
        have r0 : ∀ y : Nat, y ≤ 300 → M2 (rf E v 0) y = M (rf E v 0) y + sg (fun j => fJ w σ y (jt w σ j)) (i + 1) := fun y hy => by
          rw [g2, sg]
          by_cases hyd : y = (jX w σ i).toNat
          · subst hyd
            rw [mset_s, j3 _ hy]
            show _ = _ + (_ + fJ w σ _ _)
            rw [fJ_jt, if_pos (by omega)]; omega
          · rw [mset_n hyd, j3 y hy]
            show _ = _ + (_ + fJ w σ _ _)
            rw [fJ_jt, if_neg (by omega)]; omega
        have skip : ¬ (0 < w (26 + 2 * jt w σ i) ∧ (jX w σ i < endS w σ ∨ w 56 = 0)) → JV E M M2 v w σ (i + 1) := fun hn =>
          ⟨fun c a b d e => by rw [o0 c a, j1 c a b d e], fun k hk => by rw [o0 v v0, j2 k hk], r0, R, by rw [o0 v v0, j4], by rw [o0 _ n02.symm, o0 _ n03.symm]; exact j5.skip hn⟩
        have k7' : M2 v 7 = endS w σ := by rw [o0 v v0, k7]
        have k4' : M2 v 4 = (R : Int) := by rw [o0 v v0, j4]
        have add : (jX w σ i < endS w σ ∨ w 56 = 0) → ∃ R4 : fxM → Prop, CtV E m_X8_addReflector [.inr v, .inl (jX w σ i), .inl (w (26 + 2 * jt w σ i))] M2 R4 ∧ ∀ M4 : fxM, R4 M4 → fx_At E m_X8_lookAtJoints 20 [some (.inr v), some (.inr f), some (.inl bk), some (.inl ((i : Int) + 1)), none, none] [] M4 (fun r M' => r = none ∧ JV E M M' v w σ ((w 0).toNat + 1)) := by
          intro hc
          refine ⟨_, ct_addReflector hW hv k4' (by omega) ⟨by omega, by omega⟩, fun M4 g4 => ?_⟩
          rcases g4 with ⟨g, g4⟩ | ⟨g, g4⟩
          · rw [g4]
            exact ih (i + 1) M2 (by omega) (skip (fun z => g z.1))
          · refine ih (i + 1) M4 (by omega) ⟨fun c a b d e => by rw [g4, mset_o e, mset_o d, mset_o b, o0 c a, j1 c a b d e], fun k hk => by rw [g4, mset_n hk, mset_o v3, mset_o v2, o0 v v0, j2 k hk], fun y hy => by rw [g4, mset_o v0.symm, mset_o n03, mset_o n02]; exact r0 y hy, R + 1, by rw [g4, mset_s]; omega, ?_⟩
            have e2 : M4 (rf E v 2) = fun j => if j = R then jX w σ i else M1 (rf E v 2) j := by
              rw [g4, mset_o v2.symm, mset_o n23, mset_a, o0 _ n02.symm]
            have e3 : M4 (rf E v 3) = fun j => if j = R then w (26 + 2 * jt w σ i) else M1 (rf E v 3) j := by
              rw [g4, mset_o v3.symm, mset_a, mset_o n23.symm, o0 _ n03.symm]
            rw [e2, e3]
            exact j5.add hw (by omega) g hc
        refine b_X8_lookAtJoints_91 hW v f _ _ _ _ M2 _ hv hf ?_
        rw [k7', Int.toNat_natCast, (hF2.2.2.1 _ hjb).2]
        refine ⟨by omega, by omega, fun hlt => ⟨by omega, add (Or.inl hlt)⟩, fun hge => ⟨by omega, fun hb1 => ?_, fun hb0 => ⟨by omega, add (Or.inr (hbk.mp hb0))⟩⟩⟩
        exact ih (i + 1) M2 (by omega) (skip (fun z => z.2.elim hge (fun z => hb1 (hbk.mpr z))))
      have at45 : fx_At E m_X8_lookAtJoints 45 [some (.inr v), some (.inr f), some (.inl bk), some (.inl (i : Int)), none, none] [.inl ((jt w σ i : Nat) : Int)] M1 (fun r M' => r = none ∧ JV E M M' v w σ ((w 0).toNat + 1)) := by
        refine b_X8_lookAtJoints_45 hW v f _ _ _ M1 _ hv hf ?_
        rw [hF1.1, Int.toNat_natCast, hF1.sum hjb]
        refine ⟨by omega, _, ct_distanceOf hW hv (by rw [k5]; exact hσ), fun v2' M2 g2 => ?_⟩
        obtain ⟨rfl, rfl⟩ := g2
        have e : (if M2 v 5 = 0 then wsum w (jt w σ i) else M2 v 6 - wsum w (jt w σ i)) = jX w σ i := by rw [k5, k6]; rfl
        rw [e, (hF1.2.2.1 _ hjb).1]
        exact ⟨by omega, fun z => absurd z (by omega), fun _ => ⟨fun z => absurd z (by omega), fun _ => ⟨by omega, by omega, fun M6 g6 => at91 M6 g6⟩⟩⟩
      refine b_X8_lookAtJoints_20 hW v f _ _ M1 _ hv hf ?_
      rw [hF1.1, k5]
      refine ⟨by omega, by omega, fun z => absurd z (by omega), fun _ => ⟨hσ, fun hz => ?_, fun hz => ?_⟩⟩
      · have e : ((jt w σ i : Nat) : Int) = w 0 - (i : Int) := by rw [jt, if_neg hz]; omega
        rw [e] at at45
        exact at45
      · have e : ((jt w σ i : Nat) : Int) = (i : Int) := by rw [jt, if_pos hz]
        rw [e] at at45
        exact at45
  have fin : ∀ (bk : Int) (M1 : fxM), (bk = 0 ↔ w 56 = 0) → (0 ≤ bk ∧ bk ≤ 1) → M1 = mset M v 4 0 → fx_At E m_X8_lookAtJoints 20 [some (.inr v), some (.inr f), some (.inl bk), some (.inl 0), none, none] [] M1 (fun r M' => r = none ∧ JV E M M' v w σ ((w 0).toNat + 1)) := fun bk M1 a b g1 =>
    key bk a b ((w 0).toNat + 1) 0 M1 (by omega) ⟨fun c _ _ _ e => by rw [g1, mset_o e], fun k hk => by rw [g1, mset_n hk], fun y hy => by rw [g1, mset_o v0.symm, sg]; omega, 0, by rw [g1, mset_s]; rfl, by omega, fun q hq => absurd hq (by omega), fun j hj => absurd hj (by omega), fun p q _ hq => absurd hq (by omega)⟩
  refine x_ct (by decide) (Nat.le_of_ble_eq_true rfl) (b_X8_lookAtJoints_0 hW v f M _ hv hf (fun M1 g1 => ?_))
  have e9 : M1 f 9 = w 56 := by rw [g1, mset_o (kd_ne hf hv (by decide)), hF.2.2.2.2.2.1]
  rw [e9]
  exact ⟨by omega, fun hz => fin 0 M1 ⟨fun _ => hz, fun _ => rfl⟩ (by decide) g1, fun hz => fin 1 M1 ⟨fun z => absurd z (by decide), fun z => absurd z hz⟩ (by decide) g1⟩
end
