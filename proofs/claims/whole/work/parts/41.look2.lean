/-! The class's view as a whole; lossTo. -/
/-- rows of reflectors -/
def RfI (w : Nat → Int) (σ : Int) (R : Nat) (X H : Nat → Int) : Prop := R ≤ 10 ∧ (∀ q, q < R → RefIn w σ (X q) (H q)) ∧ ∀ x h, RefIn w σ x h → ∃ q, q < R ∧ X q = x ∧ H q = h
def VI (E : fxE) (M : fxM) (v : Nat) (w : Nat → Int) (σ : Int) : Prop := M v 7 = endS w σ ∧ (∃ R : Nat, M v 4 = (R : Int) ∧ RfI w σ R (M (rf E v 2)) (M (rf E v 3)) ∧ ∀ p q, p < q → q < R → M (rf E v 2) p < M (rf E v 2) q) ∧ (∀ x : Nat, (x : Int) ≤ tot w → M (rf E v 0) x = lss w σ x) ∧ ∀ d : Nat, (d : Int) < tot w → M (rf E v 1) d = 30000 + scS w (plS w σ d) - lss w σ d
theorem jt_inv {w : Nat → Int} (hw : wOk w) {σ : Int} {k : Nat} (hk : (k : Int) ≤ w 0) : jt w σ (jt w σ k) = k := by
  have := hw.1
  unfold jt
  split <;> omega
theorem JI.rf0 {w : Nat → Int} (hw : wOk w) {σ : Int} {R : Nat} {X H : Nat → Int} (h : JI w σ ((w 0).toNat + 1) R X H) (h56 : w 56 = 0 ∨ w 57 ≤ 0) : RfI w σ R X H := by
  have h0 := hw.1
  obtain ⟨h1, h2, h3, h4⟩ := h
  refine ⟨by omega, fun q hq => ?_, fun x h hx => ?_⟩
  · obtain ⟨j, a, b, c, d, e⟩ := h2 q hq
    exact ⟨d, Or.inl ⟨jt w σ j, jt_b hw (by omega), b, c, e⟩⟩
  · obtain ⟨hp, ⟨k, k1, k2, k3, k4⟩ | ⟨k1, k2, k3⟩⟩ := hx
    · have hkb := jt_b hw (σ := σ) k1
      have hki := jt_inv hw (σ := σ) k1
      have e : jX w σ (jt w σ k) = x := by unfold jX; rw [hki]; exact k2.symm
      obtain ⟨q, q1, q2, q3⟩ := h3 (jt w σ k) (by omega) (by rw [hki, ← k3]; exact hp) (by rw [e]; exact k4)
      rw [hki] at q3
      exact ⟨q, q1, by rw [q2, e], by rw [q3, k3]⟩
    · rcases h56 with z | z
      · exact absurd z k1
      · omega
theorem JI.rf1 {w : Nat → Int} (hw : wOk w) {σ : Int} {R : Nat} {X H : Nat → Int} (h : JI w σ ((w 0).toNat + 1) R X H) (h56 : w 56 ≠ 0) (h57 : 0 < w 57) : RfI w σ (R + 1) (fun j => if j = R then endS w σ else X j) (fun j => if j = R then w 57 else H j) ∧ ∀ p q, p < q → q < R + 1 → (fun j => if j = R then endS w σ else X j) p < (fun j => if j = R then endS w σ else X j) q := by
  have h0 := hw.1
  obtain ⟨h1, h2, h3, h4⟩ := h
  refine ⟨⟨by omega, fun q hq => ?_, fun x h hx => ?_⟩, fun p q hpq hq => ?_⟩
  · by_cases hqR : q = R
    · subst hqR
      simp only [if_true]
      exact ⟨h57, Or.inr ⟨h56, rfl, rfl⟩⟩
    · simp only [if_neg hqR]
      obtain ⟨j, a, b, c, d, e⟩ := h2 q (by omega)
      exact ⟨d, Or.inl ⟨jt w σ j, jt_b hw (by omega), b, c, e⟩⟩
  · obtain ⟨hp, ⟨k, k1, k2, k3, k4⟩ | ⟨k1, k2, k3⟩⟩ := hx
    · have hkb := jt_b hw (σ := σ) k1
      have hki := jt_inv hw (σ := σ) k1
      have e : jX w σ (jt w σ k) = x := by unfold jX; rw [hki]; exact k2.symm
      obtain ⟨q, q1, q2, q3⟩ := h3 (jt w σ k) (by omega) (by rw [hki, ← k3]; exact hp) (by rw [e]; exact k4)
      rw [hki] at q3
      refine ⟨q, by omega, ?_⟩
      simp only [if_neg (show q ≠ R by omega)]
      exact ⟨by rw [q2, e], by rw [q3, k3]⟩
    · exact ⟨R, by omega, by simp [k2], by simp [k3]⟩
  · by_cases hqR : q = R
    · subst hqR
      simp only [if_neg (show p ≠ q by omega), if_true]
      obtain ⟨j, a, b, c, d, e⟩ := h2 p hpq
      rcases e with e | e
      · exact e
      · exact absurd e h56
    · simp only [if_neg (show p ≠ R by omega), if_neg hqR]
      exact h4 p q hpq (by omega)
theorem sg_jt {w : Nat → Int} (hw : wOk w) (σ : Int) (g : Nat → Int) : sg (fun j => g (jt w σ j)) ((w 0).toNat + 1) = sg g ((w 0).toNat + 1) := by
  by_cases h : σ = 0
  · have e : (fun j => g (jt w σ j)) = g := by funext j; rw [jt, if_pos h]
    rw [e]
  · have e : (fun j => g (jt w σ j)) = fun j => g ((w 0).toNat - j) := by funext j; rw [jt, if_neg h]
    rw [e, sg_rev]
theorem lss_s (w : Nat → Int) (σ : Int) (x : Nat) : lss w σ (x + 1) = lss w σ x + cstS w σ ((x + 1 : Nat) : Int) := rfl
section
variable {E : fxE} {M : fxM}
theorem VI.sa {M' : fxM} (hW : fx_Wt E) {v : Nat} {w : Nat → Int} {σ : Int} (hv : kd E v = 8) (h : VI E M v w σ) (hr : ∀ k, k < 4 → M' (rf E v k) = M (rf E v k)) (h4 : M' v 4 = M v 4) (h7 : M' v 7 = M v 7) : VI E M' v w σ := by
  unfold VI at h ⊢
  rw [hr 0 (by decide), hr 1 (by decide), hr 2 (by decide), hr 3 (by decide), h4, h7]
  exact h
theorem ct_look (hW : fx_Wt E) {v f : Nat} {w : Nat → Int} {σ : Int} (hv : kd E v = 8) (hf : kd E f = 2) (hF : FR E M f w) (hw : wOk w) (hσ : inR σ) : CtV E m_X8_look [.inr v, .inr f, .inl σ] M (fun M' => VI E M' v w σ ∧ Fo E M M' v ∧ M' v 8 = M v 8) := by
  have h0 := hw.1
  have h3 := hw.2.2.1
  have h1 := hw.tot1
  have h56 := hw.2.2.2.2.2.2.1
  have h57 := hw.2.2.2.2.2.2.2.1
  have hfv : f ≠ v := kd_ne hf hv (by decide)
  have vr := fun k (hk : k < 4) => vnr hW hv (k := k) hk
  have n01 : rf E v 0 ≠ rf E v 1 := vne hW hv rfl rfl (by decide)
  have n02 : rf E v 0 ≠ rf E v 2 := vne hW hv rfl rfl (by decide)
  have n03 : rf E v 0 ≠ rf E v 3 := vne hW hv rfl rfl (by decide)
  have n12 : rf E v 1 ≠ rf E v 2 := vne hW hv rfl rfl (by decide)
  have n13 : rf E v 1 ≠ rf E v 3 := vne hW hv rfl rfl (by decide)
  have n23 : rf E v 2 ≠ rf E v 3 := vne hW hv rfl rfl (by decide)
  have frR : ∀ M1 : fxM, Fo E M M1 v → FR E M1 f w := fun M1 h => hF.sa hW hf (h.sa hfv)
  have of1 : ∀ {M1 M2 : fxM}, (∀ c, c ≠ rf E v 0 → c ≠ rf E v 1 → c ≠ rf E v 2 → c ≠ rf E v 3 → c ≠ v → M2 c = M1 c) → Fo E M1 M2 v := fun h c hc => h c (fun e => hc (by rw [e, ov hW hv (by decide)])) (fun e => hc (by rw [e, ov hW hv (by decide)])) (fun e => hc (by rw [e, ov hW hv (by decide)])) (fun e => hc (by rw [e, ov hW hv (by decide)])) (fun e => hc (by rw [e, own_o hv (by decide)]))
  -- the levels and the break
  have at98 : ∀ (R : Nat) (M6 : fxM), Fo E M M6 v → M6 v 8 = M v 8 → M6 v 7 = endS w σ → M6 v 6 = tot w → M6 v 4 = (R : Int) → JI w σ ((w 0).toNat + 1) R (M6 (rf E v 2)) (M6 (rf E v 3)) → (∀ x : Nat, x ≤ 300 → M6 (rf E v 0) x = lss w σ x) → ∀ (q x : Nat) (M1 : fxM), x + q = (tot w).toNat → (∀ c, c ≠ rf E v 1 → M1 c = M6 c) → (∀ d : Nat, d < x → (d : Int) < tot w → M1 (rf E v 1) d = 30000 + scS w (plS w σ d) - lss w σ d) → (∀ d : Nat, x ≤ d → (d : Int) < tot w → M1 (rf E v 1) d = 30000 + scS w (plS w σ d)) → fx_At E m_X8_look 98 [some (.inr v), some (.inr f), some (.inl σ), some (.inl (x : Int))] [] M1 (fun r M' => r = none ∧ VI E M' v w σ ∧ Fo E M M' v ∧ M' v 8 = M v 8) := by
    intro R M6 f6 m8 m7 m6 m4 mJ m0 q
    induction q with
    | zero =>
      intro x M1 hx u1 u2 u3
      have f1 : Fo E M M1 v := f6.trans (of1 (fun c a b d e g => u1 c b))
      have hF1 := frR M1 f1
      have kv : M1 v = M6 v := u1 v (vr 1 (by decide)).symm
      have k2 : M1 (rf E v 2) = M6 (rf E v 2) := u1 _ n12.symm
      have k3 : M1 (rf E v 3) = M6 (rf E v 3) := u1 _ n13.symm
      have k0 : M1 (rf E v 0) = M6 (rf E v 0) := u1 _ n01
      refine b_X8_look_98 hW v f _ _ M1 _ hv hf ?_
      rw [hF1.2.2.2.2.2.1, hF1.2.2.2.2.2.2, kv, m7, m6]
      have vi : (w 56 = 0 ∨ w 57 ≤ 0) → VI E M1 v w σ := fun hz => ⟨by rw [kv, m7], ⟨R, by rw [kv, m4], by rw [k2, k3]; exact mJ.rf0 hw hz, by rw [k2]; exact mJ.2.2.2⟩, fun y hy => by rw [k0]; exact m0 y (by omega), fun d hd => u2 d (by omega) hd⟩
      refine ⟨by omega, by omega, fun _ => ⟨by omega, fun hz => ⟨rfl, vi (Or.inl hz), f1, m8⟩, fun hz => ⟨_, ct_addReflector hW hv (by rw [kv, m4]) (by have := mJ.1; omega) ⟨by omega, by omega⟩, fun M3 g3 => ⟨rfl, ?_⟩⟩⟩, fun z => absurd (by omega) z⟩
      rcases g3 with ⟨g, g3⟩ | ⟨g, g3⟩
      · rw [g3]
        exact ⟨vi (Or.inr (by omega)), f1, by rw [kv, m8]⟩
      · have e2 : M3 (rf E v 2) = fun j => if j = R then endS w σ else M6 (rf E v 2) j := by
          rw [g3, mset_o (vr 2 (by decide)), mset_o n23, mset_a, k2]
        have e3 : M3 (rf E v 3) = fun j => if j = R then w 57 else M6 (rf E v 3) j := by
          rw [g3, mset_o (vr 3 (by decide)), mset_a, mset_o n23.symm, k3]
        have hr := mJ.rf1 hw hz g
        refine ⟨⟨?_, ⟨R + 1, by rw [g3, mset_s]; omega, by rw [e2, e3]; exact hr.1, by rw [e2]; exact hr.2⟩, fun y hy => ?_, fun d hd => ?_⟩, f1.trans (of1 (fun c a b d e g' => by rw [g3, mset_o g', mset_o e, mset_o d])), ?_⟩
        · rw [g3, mset_n (by decide), mset_o (vr 3 (by decide)).symm, mset_o (vr 2 (by decide)).symm, kv, m7]
        · rw [g3, mset_o (vr 0 (by decide)), mset_o n03, mset_o n02, k0]; exact m0 y (by omega)
        · rw [g3, mset_o (vr 1 (by decide)), mset_o n13, mset_o n12]; exact u2 d (by omega) hd
        · rw [g3, mset_n (by decide), mset_o (vr 3 (by decide)).symm, mset_o (vr 2 (by decide)).symm, kv, m8]
    | succ q ih =>
      intro x M1 hx u1 u2 u3
      have kv : M1 v = M6 v := u1 v (vr 1 (by decide)).symm
      refine b_X8_look_98 hW v f _ _ M1 _ hv hf ?_
      rw [Int.toNat_natCast, u1 (rf E v 0) n01, m0 x (by omega), kv, m6]
      refine ⟨by omega, by omega, fun z => absurd z (by omega), fun _ => ⟨fun z => absurd z (by omega), fun _ => ⟨by omega, by omega, fun M2 g2 => ?_⟩⟩⟩
      refine ih (x + 1) M2 (by omega) (fun c a => by rw [g2, mset_o a, u1 c a]) (fun d hd hdt => ?_) (fun d hd hdt => ?_)
      · rw [g2]
        by_cases hdx : d = x
        · subst hdx; rw [mset_s, u3 d (Nat.le_refl d) hdt]
        · rw [mset_n hdx]; exact u2 d (by omega) hdt
      · rw [g2, mset_n (by omega)]; exact u3 d (by omega) hdt
  -- the sums
  have at64 : ∀ (R : Nat) (M5 : fxM), Fo E M M5 v → M5 v 8 = M v 8 → M5 v 7 = endS w σ → M5 v 6 = tot w → M5 v 4 = (R : Int) → JI w σ ((w 0).toNat + 1) R (M5 (rf E v 2)) (M5 (rf E v 3)) → (∀ d : Nat, (d : Int) < tot w → M5 (rf E v 1) d = 30000 + scS w (plS w σ d)) → ∀ (q x : Nat) (M1 : fxM), x + 1 + q = 301 → (∀ c, c ≠ rf E v 0 → M1 c = M5 c) → (∀ y : Nat, y ≤ x → M1 (rf E v 0) y = lss w σ y) → (∀ y : Nat, x < y → y ≤ 300 → M1 (rf E v 0) y = cstS w σ y) → fx_At E m_X8_look 64 [some (.inr v), some (.inr f), some (.inl σ), some (.inl ((x + 1 : Nat) : Int))] [] M1 (fun r M' => r = none ∧ VI E M' v w σ ∧ Fo E M M' v ∧ M' v 8 = M v 8) := by
    intro R M5 f5 m8 m7 m6 m4 mJ m1 q
    induction q with
    | zero =>
      intro x M1 hx u1 u2 u3
      have kv : M1 v = M5 v := u1 v (vr 0 (by decide)).symm
      refine b_X8_look_64 hW v f _ _ M1 _ hv hf ⟨by omega, fun _ => ?_, fun z => absurd (by omega) z⟩
      exact at98 R M1 (f5.trans (of1 (fun c a b d e g => u1 c a))) (by rw [kv, m8]) (by rw [kv, m7]) (by rw [kv, m6]) (by rw [kv, m4]) (by rw [u1 _ n02.symm, u1 _ n03.symm]; exact mJ) (fun y hy => u2 y (by omega)) (tot w).toNat 0 M1 (by omega) (fun _ _ => rfl) (fun d hd => absurd hd (by omega)) (fun d _ hd => by rw [u1 _ n01.symm]; exact m1 d hd)
    | succ q ih =>
      intro x M1 hx u1 u2 u3
      refine b_X8_look_64 hW v f _ _ M1 _ hv hf ?_
      rw [show (((x + 1 : Nat) : Int) - 1).toNat = x by omega, Int.toNat_natCast, u2 x (Nat.le_refl x), u3 (x + 1) (by omega) (by omega)]
      refine ⟨by omega, fun z => absurd z (by omega), fun _ => ⟨by omega, by omega, fun M2 g2 => ?_⟩⟩
      refine ih (x + 1) M2 (by omega) (fun c a => by rw [g2, mset_o a, u1 c a]) (fun y hy => ?_) (fun y hy hy3 => ?_)
      · rw [g2]
        by_cases hyx : y = x + 1
        · subst hyx; rw [mset_s, lss_s]; omega
        · rw [mset_n hyx]; exact u2 y (by omega)
      · rw [g2, mset_n (by omega)]; exact u3 y (by omega) hy3
  -- from the end's place on
  have at36 : ∀ M3 : fxM, Fo E M M3 v → M3 v 5 = σ → M3 v 6 = tot w → M3 v 8 = M v 8 → fx_At E m_X8_look 36 [some (.inr v), some (.inr f), some (.inl σ), none] [.inl (endS w σ), .inr v] M3 (fun r M' => r = none ∧ VI E M' v w σ ∧ Fo E M M' v ∧ M' v 8 = M v 8) := by
    intro M3 f3 m5 m6 m8
    refine b_X8_look_36 hW v f _ _ _ M3 _ hv hf hv (fun M4 g4 => ⟨_, ct_fill hW (wk_8_0 hW hv) (wl_8_0 hW hv) (by decide), fun M5 g5 => ?_⟩)
    have f5 : Fo E M M5 v := f3.trans (of1 (fun c a b d e g => by rw [g5, mrow_o a, g4, mset_o g]))
    have kv5 : M5 v = M4 v := by rw [g5, mrow_o (vr 0 (by decide)).symm]
    have hF5 := frR M5 f5
    refine ⟨_, ct_lookAtUnits (σ := σ) hW hv hf hF5 hw (by rw [kv5, g4, mset_n (by decide), m5]) (by rw [kv5, g4, mset_n (by decide), m6]) hσ, fun M6 g6 => ?_⟩
    obtain ⟨p1, p2, p3⟩ := g6
    have f6 : Fo E M M6 v := f5.trans (of1 (fun c a b d e g => p1 c a b))
    have kv6 : M6 v = M4 v := by rw [p1 v (vr 0 (by decide)).symm (vr 1 (by decide)).symm, kv5]
    refine ⟨_, ct_lookAtBends (σ := σ) hW hv hf (frR M6 f6) hw (by rw [kv6, g4, mset_n (by decide), m5]) (by rw [kv6, g4, mset_n (by decide), m6]) hσ, fun M7 g7 => ?_⟩
    obtain ⟨b1, b2⟩ := g7
    have f7 : Fo E M M7 v := f6.trans (of1 (fun c a b d e g => b1 c a))
    have kv7 : M7 v = M4 v := by rw [b1 v (vr 0 (by decide)).symm, kv6]
    refine ⟨_, ct_lookAtJoints (σ := σ) hW hv hf (frR M7 f7) hw (by rw [kv7, g4, mset_n (by decide), m5]) (by rw [kv7, g4, mset_n (by decide), m6]) (by rw [kv7, g4, mset_s]) hσ, fun M8 g8 => ?_⟩
    obtain ⟨j1, j2, j3, R, j4, j5⟩ := g8
    have row : ∀ y : Nat, y ≤ 300 → M8 (rf E v 0) y = cstS w σ y := fun y hy => by
      rw [j3 y hy, b2 y hy, p2 y hy, g5, mrow_s, sg_jt hw]
      show (if y < 301 then 0 else _) + _ + _ + _ = _
      rw [if_pos (by omega), cstS]
      omega
    have h' := at64 R M8 (f7.trans (of1 (fun c a b d e g => j1 c a d e g))) (by rw [j2 8 (by decide), kv7, g4, mset_n (by decide), m8]) (by rw [j2 7 (by decide), kv7, g4, mset_s]) (by rw [j2 6 (by decide), kv7, g4, mset_n (by decide), m6]) j4 j5 (fun d hd => by rw [j1 _ n01.symm n12 n13 (vr 1 (by decide)), b1 _ n01.symm]; exact p3 d hd) 300 0 M8 (by omega) (fun _ _ => rfl) (fun y hy => by rw [show y = 0 by omega, row 0 (by omega)]; show _ = 0 + _; simp) (fun y hy hy3 => row y hy3)
    exact h'
  refine x_ct (by decide) (Nat.le_of_ble_eq_true rfl) (b_X8_look_0 hW v f σ M _ hv hf (fun M1 g1 => ?_))
  have f1 : Fo E M M1 v := by rw [g1]; exact Fo_mset (own_o hv (by decide))
  have hF1 := frR M1 f1
  refine ⟨by rw [hF1.1]; omega, fun M3 g3 => ?_⟩
  rw [hF1.tot (by omega)] at g3
  have f3 : Fo E M M3 v := f1.trans (by rw [g3]; exact Fo_mset (own_o hv (by decide)))
  have hF3 := frR M3 f3
  have k5 : M3 v 5 = σ := by rw [g3, mset_n (by decide), g1, mset_s]
  have k6 : M3 v 6 = tot w := by rw [g3, mset_s]
  have k8 : M3 v 8 = M v 8 := by rw [g3, mset_n (by decide), g1, mset_n (by decide)]
  have h36 := at36 M3 f3 k5 k6 k8
  rw [hF3.2.2.2.2.2.1]
  refine ⟨by omega, fun hz => ⟨_, ct_distanceOf hW hv (by rw [k5]; exact hσ), fun v5 M5 g5 => ?_⟩, fun hz => ?_⟩
  · obtain ⟨rfl, rfl⟩ := g5
    have e : (if M5 v 5 = 0 then w 56 else M5 v 6 - w 56) = endS w σ := by rw [k5, k6, endS, if_neg hz]; rfl
    rw [e]
    exact h36
  · rw [k6]
    rw [endS, if_pos hz] at h36
    exact h36
end
