/-! The class's trace as a whole. -/
section
variable {E : fxE} {M : fxM}
theorem ct_compute (hW : fx_Wt E) {t v : Nat} {w : Nat → Int} {σ u : Int} (ht : kd E t = 7) (hv : kd E v = 8) (hV : VI E M v w σ) (hw : wOk w) (hub : 1 ≤ u ∧ u ≤ 9) : CtV E m_X7_compute [.inr t, .inr v, .inl u] M (fun M' => Fo E M M' t ∧ M' t 1 = u ∧ M' t 2 = M t 2 ∧ IsTr w σ u (M' (rf E t 0))) := by
  have h3 := hw.2.2.1
  have he := endS_b hw (σ := σ)
  have nt : t ≠ rf E t 0 := (t0_ne hW ht).symm
  refine x_ct (by decide) (Nat.le_of_ble_eq_true rfl) (b_X7_compute_0 hW t v u M _ ht hv (fun M1 g1 => ?_))
  have hV1 : VI E M1 v w σ := by rw [g1]; exact hV.fo hW hv (Fo_mset (own_o ht (by decide))) (kd_ne hv ht (by decide))
  have k1 : M1 t 1 = u := by rw [g1, mset_s]
  have k2 : M1 t 2 = M t 2 := by rw [g1, mset_n (by decide)]
  have f1 : Fo E M M1 t := by rw [g1]; exact Fo_mset (own_o ht (by decide))
  obtain ⟨R, hR, hRf, hsort⟩ := hV1.2.1
  have hR10 := hRf.1
  have rown : ∀ T : Nat → Int, mrow M1 (rf E t 0) T v = M1 v := fun T => mrow_o (kd_ne hv (wk_7_0 hW ht) (by decide))
  have fin : ∀ T : Nat → Int, IsTr w σ u T → Fo E M (mrow M1 (rf E t 0) T) t ∧ mrow M1 (rf E t 0) T t 1 = u ∧ mrow M1 (rf E t 0) T t 2 = M t 2 ∧ IsTr w σ u (mrow M1 (rf E t 0) T (rf E t 0)) := fun T hT => ⟨f1.trans (Fo_mrow (ot0 hW ht)), by rw [mrow_o nt, k1], by rw [mrow_o nt, k2], by rw [mrow_s]; exact hT⟩
  have X0 : ∀ i, i < R → 0 ≤ M1 (rf E v 2) i ∧ M1 (rf E v 2) i ≤ 300 := fun i hi => by
    have := (hRf.2.1 i hi).b hw
    omega
  have at52 : ∀ (n i : Nat) (T : Nat → Int), i + n = R → TrI w σ u T → Ad w σ u (endS w σ) T → (∀ q, q < i → Bd w σ u (M1 (rf E v 2) q) (M1 (rf E v 3) q) T) → (∀ q, q < i → ∀ p, p < q → Gd w σ u (M1 (rf E v 2) p) (M1 (rf E v 3) p) (M1 (rf E v 2) q) (M1 (rf E v 3) q) T) → fx_At E m_X7_compute 52 [some (.inr t), some (.inr v), some (.inl u), some (.inl (i : Int)), none] [] (mrow M1 (rf E t 0) T) (fun r M' => r = none ∧ Fo E M M' t ∧ M' t 1 = u ∧ M' t 2 = M t 2 ∧ IsTr w σ u (M' (rf E t 0))) := by
    intro n
    induction n with
    | zero =>
      intro i T hi i1 i2 i3 i4
      refine b_X7_compute_52 hW t v _ _ _ _ ht hv ?_
      rw [rown, hR]
      refine ⟨by omega, by omega, fun _ => ⟨rfl, fin T (IsTr.mk' i1 i2 (fun x h hr => ?_) (fun p hp q hq r1 r2 hpq => ?_))⟩, fun z => absurd (by omega) z⟩
      · obtain ⟨q, q1, rfl, rfl⟩ := hRf.2.2 x h hr
        exact i3 q (by omega)
      · obtain ⟨a, a1, rfl, rfl⟩ := hRf.2.2 p hp r1
        obtain ⟨b, b1, rfl, rfl⟩ := hRf.2.2 q hq r2
        rcases Nat.lt_trichotomy a b with z | z | z
        · exact i4 b (by omega) a z
        · subst z; omega
        · have := hsort b a z a1; omega
    | succ n ih =>
      intro i T hi i1 i2 i3 i4
      have at69 : ∀ (m p : Nat) (T : Nat → Int), p + m = i → TrI w σ u T → Ad w σ u (endS w σ) T → (∀ q, q < i + 1 → Bd w σ u (M1 (rf E v 2) q) (M1 (rf E v 3) q) T) → (∀ q, q < i → ∀ p, p < q → Gd w σ u (M1 (rf E v 2) p) (M1 (rf E v 3) p) (M1 (rf E v 2) q) (M1 (rf E v 3) q) T) → (∀ p', p' < p → Gd w σ u (M1 (rf E v 2) p') (M1 (rf E v 3) p') (M1 (rf E v 2) i) (M1 (rf E v 3) i) T) → fx_At E m_X7_compute 69 [some (.inr t), some (.inr v), some (.inl u), some (.inl (i : Int)), some (.inl (p : Int))] [] (mrow M1 (rf E t 0) T) (fun r M' => r = none ∧ Fo E M M' t ∧ M' t 1 = u ∧ M' t 2 = M t 2 ∧ IsTr w σ u (M' (rf E t 0))) := by
        intro m
        induction m with
        | zero =>
          intro p T hp i1 i2 i3 i4 i5
          obtain rfl : p = i := by omega
          refine b_X7_compute_69 hW t v _ _ _ _ _ ht hv ⟨by omega, by omega, fun _ => ih (p + 1) T (by omega) i1 i2 i3 (fun q hq p' hp' => ?_), fun z => absurd (by omega) z⟩
          by_cases hqi : q = p
          · subst hqi; exact i5 p' hp'
          · exact i4 q (by omega) p' hp'
        | succ m ihm =>
          intro p T hp i1 i2 i3 i4 i5
          refine b_X7_compute_69 hW t v _ _ _ _ _ ht hv ⟨by omega, by omega, fun z => absurd z (by omega), fun _ => ⟨_, ct_addGhost (i := p) (j := i) hW ht hv hV1 hw k1 hub i1 hR hRf (by omega) (by omega) (hsort p i (by omega) (by omega)), fun M3 g3 => ?_⟩⟩
          obtain ⟨T', rfl, j1, j2, j3⟩ := g3
          refine ihm (p + 1) T' (by omega) j1 (i2.mono j2) (fun q hq => (i3 q hq).mono j2) (fun q hq p' hp' => (i4 q hq p' hp').mono j2) (fun p' hp' => ?_)
          by_cases hpp : p' = p
          · subst hpp; exact j3
          · exact (i5 p' (by omega)).mono j2
      refine b_X7_compute_52 hW t v _ _ _ _ ht hv ?_
      rw [rown, hR]
      refine ⟨by omega, by omega, fun z => absurd z (by omega), fun _ => ⟨_, ct_addReflection (q := i) hW ht hv hV1 hw k1 hub i1 hR hRf (by omega), fun M3 g3 => ?_⟩⟩
      obtain ⟨T', rfl, j1, j2, j3⟩ := g3
      refine at69 i 0 T' (by omega) j1 (i2.mono j2) (fun q hq => ?_) (fun q hq p' hp' => (i4 q hq p' hp').mono j2) (fun p' hp' => absurd hp' (by omega))
      by_cases hqi : q = i
      · subst hqi; exact j3
      · exact (i3 q (by omega)).mono j2
  have at17 : ∀ (n d : Nat) (T : Nat → Int), (d : Int) + n = endS w σ → TrI w σ u T → Ad w σ u d T → fx_At E m_X7_compute 17 [some (.inr t), some (.inr v), some (.inl u), some (.inl (d : Int)), none] [] (mrow M1 (rf E t 0) T) (fun r M' => r = none ∧ Fo E M M' t ∧ M' t 1 = u ∧ M' t 2 = M t 2 ∧ IsTr w σ u (M' (rf E t 0))) := by
    intro n
    induction n with
    | zero =>
      intro d T hd i1 i2
      refine b_X7_compute_17 hW t v _ _ _ _ ht hv ?_
      rw [rown, hV1.1]
      refine ⟨by omega, by omega, fun _ => at52 R 0 T (by omega) i1 ?_ (fun q hq => absurd hq (by omega)) (fun q hq => absurd hq (by omega)), fun z => absurd (by omega) z⟩
      rw [show endS w σ = (d : Int) by omega]
      exact i2
    | succ n ih =>
      intro d T hd i1 i2
      have het : endS w σ ≤ tot w := by
        have h56 := hw.2.2.2.2.2.2.1
        unfold endS farS; split
        · omega
        · split <;> omega
      refine b_X7_compute_17 hW t v _ _ _ _ ht hv ?_
      have n1 : rf E v 1 ≠ rf E t 0 := fun e => kd_ne hv ht (by decide) ((ov hW hv (k := 1) (by decide)).symm.trans ((congrArg (own E) e).trans (ot0 hW ht)))
      have hl : vlv E (mrow M1 (rf E t 0) T) v (d : Int) + 300 * mrow M1 (rf E t 0) T t 1 = scl w σ u d := by
        rw [vlv, if_pos (by omega), mrow_o n1, Int.toNat_natCast, hV1.2.2.2 d (by omega), mrow_o nt, k1, scl, Int.toNat_natCast]
        omega
      rw [rown, hV1.1, hl]
      have sb := scl_b (σ := σ) (d := (d : Int)) hw hub (by omega)
      refine ⟨by omega, by omega, fun z => absurd z (by omega), fun _ => ⟨_, ct_raiseTo hW ht ⟨by omega, by omega⟩ ⟨by omega, by omega⟩ (fun j hj => by have := i1.b hw hub hj; exact ⟨by omega, by omega⟩), fun M3 g3 => ?_⟩⟩
      rw [g3]
      refine ih (d + 1) _ (by omega) (rz_I i1 (Or.inl ⟨by omega, by omega, rfl⟩)) (fun d' hd' hd4 => ?_)
      by_cases hdd : d' = d
      · subst hdd; exact rz_at hd4
      · exact Int.le_trans (i2 d' (by omega) hd4) (rz_le d' hd4)
  refine ⟨_, ct_fill hW (wk_7_0 hW ht) (wl_7_0 hW ht) (by decide), fun M2 g2 => ?_⟩
  rw [g2]
  refine at17 (endS w σ).toNat 0 _ (by omega) (fun d hd => ?_) (fun d hd => absurd hd (by omega))
  rw [if_pos (by omega)]
  exact ⟨by decide, Or.inl rfl⟩
end
