/-! The views as they are kept; lossTo. -/
def vw (E : fxE) (b s : Nat) : Nat := rf E (rf E b 4) s
def CV (E : fxE) (M : fxM) (b : Nat) (w : Nat → Int) (v : Nat) : Prop := ∀ s : Nat, s < 2 → (-1 ≤ M (vw E b s) 8 ∧ M (vw E b s) 8 ≤ (v : Int)) ∧ (M (vw E b s) 8 = (v : Int) → VI E M (vw E b s) w s)
section
variable {E : fxE} {M : fxM}
theorem vw_kd (hW : fx_Wt E) {b s : Nat} (hb : kd E b = 9) (hs : s < 2) : kd E (vw E b s) = 8 := by
  have := we_16 (i := (s : Int)) hW (wk_9_4 hW hb) (wl_9_4 hW hb) ⟨by omega, by omega⟩
  rwa [Int.toNat_natCast] at this
theorem vw_ne (hW : fx_Wt E) {b i j : Nat} (hb : kd E b = 9) (hi : i < 2) (hj : j < 2) (hij : i ≠ j) : vw E b i ≠ vw E b j := fun e => by
  have hk := wk_9_4 hW hb
  have hl := wl_9_4 hW hb
  exact hij (wd hW (rs_a hk (by decide) (by omega)) (rs_a hk (by decide) (by omega)) e).2
theorem VI.fo {M' : fxM} (hW : fx_Wt E) {v a : Nat} {w : Nat → Int} {σ : Int} (hv : kd E v = 8) (h : VI E M v w σ) (hF : Fo E M M' a) (hne : v ≠ a) : VI E M' v w σ := by
  have hs : Sa E M M' v := hF.sa hne
  exact h.sa hW hv (fun k hk => hs _ (ov hW hv hk)) (by rw [hs v (own_o hv (by decide))]) (by rw [hs v (own_o hv (by decide))])
theorem VI.kf {M' : fxM} (hW : fx_Wt E) {v : Nat} {w : Nat → Int} {σ : Int} {ks : List Nat} (hv : kd E v = 8) (h : VI E M v w σ) (hF : KF E M M' ks) (hk : 8 ∉ ks) : VI E M' v w σ := by
  have hs : Sa E M M' v := fun c hc => hF c (by rw [reg_own (by omega) hc, reg_top hv rfl, hv]; exact hk)
  exact h.sa hW hv (fun k hk => hs _ (ov hW hv hk)) (by rw [hs v (own_o hv (by decide))]) (by rw [hs v (own_o hv (by decide))])
theorem CV.fo {M' : fxM} (hW : fx_Wt E) {b v a : Nat} {w : Nat → Int} (hb : kd E b = 9) (h : CV E M b w v) (hF : Fo E M M' a) (hne : ∀ s, s < 2 → vw E b s ≠ a) : CV E M' b w v := fun s hs => by
  have hv := vw_kd hW hb hs
  have e : M' (vw E b s) = M (vw E b s) := hF _ (by rw [own_o hv (by decide)]; exact hne s hs)
  rw [e]
  exact ⟨(h s hs).1, fun z => ((h s hs).2 z).fo hW hv hF (hne s hs)⟩
/-- one view is made anew -/
theorem CV.new {M' : fxM} (hW : fx_Wt E) {b v s : Nat} {w : Nat → Int} (hb : kd E b = 9) (h : CV E M b w v) (hs : s < 2) (hF : Fo E M M' (vw E b s)) (h8 : M' (vw E b s) 8 = (v : Int)) (hV : VI E M' (vw E b s) w s) : CV E M' b w v := fun i hi => by
  by_cases his : i = s
  · subst his
    rw [h8]
    exact ⟨by omega, fun _ => hV⟩
  · have hv := vw_kd hW hb hi
    have hne := vw_ne hW hb hi hs his
    have e : M' (vw E b i) = M (vw E b i) := hF _ (by rw [own_o hv (by decide)]; exact hne)
    rw [e]
    exact ⟨(h i hi).1, fun z => ((h i hi).2 z).fo hW hv hF hne⟩
/-- after a change nothing that was made is of this version -/
theorem CV.next {M' : fxM} (hW : fx_Wt E) {b v : Nat} {w w' : Nat → Int} {ks : List Nat} (hb : kd E b = 9) (h : CV E M b w v) (hF : KF E M M' ks) (hk : 8 ∉ ks) : CV E M' b w' (v + 1) := fun s hs => by
  have hv := vw_kd hW hb hs
  have e : M' (vw E b s) = M (vw E b s) := hF _ (by rw [reg_top hv rfl, hv]; exact hk)
  rw [e]
  have := (h s hs).1
  exact ⟨by omega, fun z => absurd z (by omega)⟩
theorem CV.kf {M' : fxM} (hW : fx_Wt E) {b v : Nat} {w : Nat → Int} {ks : List Nat} (hb : kd E b = 9) (h : CV E M b w v) (hF : KF E M M' ks) (hk : 8 ∉ ks) : CV E M' b w v := fun s hs => by
  have hv := vw_kd hW hb hs
  have e : M' (vw E b s) = M (vw E b s) := hF _ (by rw [reg_top hv rfl, hv]; exact hk)
  rw [e]
  exact ⟨(h s hs).1, fun z => ((h s hs).2 z).kf hW hv hF hk⟩
theorem Fo.kf {M' : fxM} {a k : Nat} {ks : List Nat} (h : Fo E M M' a) (ha : kd E a = k) (hk : k ≤ 10) (ht : isTop k = true) (hks : k ∈ ks) : KF E M M' ks := fun c hc => h c (fun e => hc (by rw [reg_own (by omega) e, reg_top ha ht, ha]; exact hks))
theorem ct_viewOf (hW : fx_Wt E) {b n v s : Nat} {w : Nat → Int} {H : Nat → Nat → Int} (hb : kd E b = 9) (hC : CI E M b w H n v) (hw : wOk w) (hV : CV E M b w v) (hs : s < 2) (hv : v < 1000000) : CtA E m_X9_viewOf [.inr b, .inl (s : Int)] M (fun r M' => r = vw E b s ∧ Fo E M M' (vw E b s) ∧ M' (vw E b s) 8 = (v : Int) ∧ VI E M' (vw E b s) w s) := by
  obtain ⟨hst, hf, -⟩ := wne hW hb
  have hk := vw_kd hW hb hs
  have hk4 := wk_9_4 hW hb
  have hl4 := wl_9_4 hW hb
  have h8 := hC.2.2
  have hvb := (hV s hs).1
  have at13 : fx_At E m_X9_viewOf 13 [some (.inr b), some (.inl (s : Int)), none] [.inl (s : Int), .inr (rf E b 4)] M (fun r M' => ∃ x : Nat, r = some (.inr x) ∧ x = vw E b s ∧ Fo E M M' (vw E b s) ∧ M' (vw E b s) 8 = (v : Int) ∧ VI E M' (vw E b s) w s) := by
    refine b_X9_viewOf_13 hW b _ _ _ M _ hb hk4 ?_
    rw [Int.toNat_natCast]
    show _ ∧ (-2147483648 ≤ M (vw E b s) 8 ∧ M (vw E b s) 8 < 2147483648) ∧ _ ∧ (M (vw E b s) 8 = _ → _) ∧ (¬ M (vw E b s) 8 = _ → _)
    refine ⟨by omega, by omega, by omega, fun he => ⟨_, rfl, rfl, Fo.rfl', he.trans h8, (hV s hs).2 (he.trans h8)⟩, fun hne => ⟨_, ct_look hW hk hf hC.1.1 hw ⟨by omega, by omega⟩, fun M4 g4 M5 g5 => ⟨_, rfl, rfl, ?_, ?_, ?_⟩⟩⟩
    · rw [g5]
      exact g4.2.1.trans (Fo_mset (own_o hk (by decide)))
    · rw [g5]
      show mset M4 (vw E b s) 8 (M4 b 8) (vw E b s) 8 = _
      rw [mset_s, g4.2.1 b (by rw [own_o hb (by decide)]; exact kd_ne hb hk (by decide)), h8]
    · rw [g5]
      exact g4.1.sa hW hk (fun k hk' => mset_o (vnr hW hk hk')) (mset_n (by decide)) (mset_n (by decide))
  refine x_ct (by decide) (Nat.le_of_ble_eq_true rfl) (b_X9_viewOf_0 hW b s M _ hb ⟨by omega, fun h => ?_, fun h => ?_⟩)
  · rw [show s = 1 by omega] at at13 ⊢
    exact at13
  · rw [show s = 0 by omega] at at13 ⊢
    exact at13
def fLss (w : Nat → Int) (σ x : Int) : Int := if (0 ≤ σ ∧ σ ≤ 1) ∧ (0 ≤ x ∧ x ≤ tot w) then lss w σ x.toNat else -1000002
/-- what a question may change of the class -/
def CA (E : fxE) (M M' : fxM) (b : Nat) : Prop := KF E M M' [1, 4, 7, 8]
theorem cl_lossTo (hW : fx_Wt E) {b n v : Nat} {w : Nat → Int} {H : Nat → Nat → Int} {σ x : Int} (hb : kd E b = 9) (hC : CI E M b w H n v) (hw : wOk w) (hV : CV E M b w v) (hv : v < 1000000) (h1 : inR σ) (h2 : inR x) : CtI E m_X9_lossTo [.inr b, .inl σ, .inl x] M (fun r M' => r = fLss w σ x ∧ KF E M M' [8] ∧ CV E M' b w v) := by
  have h0 := hw.1
  have h3 := hw.2.2.1
  have ht := hw.tot1
  have hF := hC.1.1
  refine x_ct (by decide) (Nat.le_of_ble_eq_true rfl) (b_X9_lossTo_0 hW b σ x M _ hb ?_)
  rw [hF.tot (by omega), hF.1]
  refine ⟨h1, fun hs => ⟨by omega, h2, by omega, fun hx => ?_, fun hx => ⟨_, rfl, by rw [fLss, if_neg (fun z => hx z.2)], fun _ _ => rfl, hV⟩⟩, fun hs => ⟨_, rfl, by rw [fLss, if_neg (fun z => hs z.1)], fun _ _ => rfl, hV⟩⟩
  obtain ⟨s, rfl⟩ : ∃ s : Nat, σ = (s : Int) := ⟨σ.toNat, by omega⟩
  have hk := vw_kd (s := s) hW hb (by omega)
  refine ⟨_, ct_viewOf (s := s) hW hb hC hw hV (by omega) hv, fun v7 M7 g7 => ?_⟩
  obtain ⟨rfl, g1, g2, g3⟩ := g7
  refine ⟨hk, _, rfl, ?_, g1.kf hk (by decide) rfl (by decide), hV.new hW hb (by omega) g1 g2 g3⟩
  rw [fLss, if_pos ⟨by omega, hx⟩, vls, if_pos (by omega), g3.2.2.1 x.toNat (by omega)]
theorem re_lossTo (hW : fx_Wt E) {m : Nat} {σ x : Int} (hm : kd E m = 10) (hw : wOk (M (rf E m 0))) (h1 : inR σ) (h2 : inR x) : CtI E m_X10_lossTo [.inr m, .inl σ, .inl x] M (fun r M' => r = fLss (M (rf E m 0)) σ x ∧ ∀ c, c ≠ rf E m 9 → c ≠ rf E m 10 → M' c = M c) := by
  have h0 := hw.1
  have h3 := hw.2.2.1
  have ht := hw.tot1
  refine x_ct (by decide) (Nat.le_of_ble_eq_true rfl) (b_X10_lossTo_0 hW m σ x M _ hm ?_)
  rw [ws_tot hw]
  refine ⟨h1, fun hs => ⟨by omega, h2, by omega, fun hx => ⟨_, ct_layLosses hW hm hw h1, fun M7 g7 => ⟨by omega, _, rfl, ?_, g7.1⟩⟩, fun hx => ⟨_, rfl, by rw [fLss, if_neg (fun z => hx z.2)], fun _ _ _ => rfl⟩⟩, fun hs => ⟨_, rfl, by rw [fLss, if_neg (fun z => hs z.1)], fun _ _ _ => rfl⟩⟩
  rw [fLss, if_pos ⟨hs, hx⟩, g7.2.1 x.toNat (by omega)]
end
