/-! sample, visible, stitched: the class. -/
abbrev okT (σ u : Int) : Prop := (0 ≤ σ ∧ σ ≤ 1) ∧ (1 ≤ u ∧ u ≤ 9)
noncomputable def fSmp (w : Nat → Int) (σ u d : Int) : Int := if okT σ u ∧ (0 ≤ d ∧ d ≤ 400) then trA w σ u d else -1000002
/-- how far the trace is above the floor, from n on -/
def visF (T : Int → Int) : Nat → Nat → Int
  | 0, n => (n : Int)
  | f + 1, n => if T (n : Int) ≤ 5000 then (n : Int) else visF T f (n + 1)
noncomputable def fVis (w : Nat → Int) (σ u : Int) : Int := if okT σ u then visF (trA w σ u) 401 0 else -1000002
noncomputable def stS (w : Nat → Int) (σ d : Int) : Int := if 5000 + w 61 ≤ trA w σ 1 d then trA w σ 1 d - 300 else if 5000 + w 61 ≤ trA w σ 3 d then trA w σ 3 d - 900 else if 5000 + w 61 ≤ trA w σ 9 d then trA w σ 9 d - 2700 else -1000005
noncomputable def fSti (w : Nat → Int) (σ d : Int) : Int := if (0 ≤ σ ∧ σ ≤ 1) ∧ (0 ≤ d ∧ d ≤ 400) then stS w σ d else -1000002
noncomputable def fStc (w : Nat → Int) (σ : Int) : Int := if 0 ≤ σ ∧ σ ≤ 1 then sg (fun d => if stS w σ (d : Int) = -1000005 then 0 else 1) 401 else -1000002
section
variable {E : fxE} {M : fxM}
theorem PT.rf' {b v : Nat} {w : Nat → Int} (hV : CV E M b w v) (hT : CT E M b w v) : PT E M M b w v := ⟨fun _ _ => rfl, hV, hT⟩
theorem PT.ci {M' : fxM} (hW : fx_Wt E) {b n v : Nat} {w : Nat → Int} {H : Nat → Nat → Int} (hb : kd E b = 9) (h : PT E M M' b w v) (hC : CI E M b w H n v) : CI E M' b w H n v := hC.kf hW hb h.1 (by decide)
theorem cl_sample (hW : fx_Wt E) {b n v : Nat} {w : Nat → Int} {H : Nat → Nat → Int} {σ u d : Int} (hb : kd E b = 9) (hC : CI E M b w H n v) (hw : wOk w) (hV : CV E M b w v) (hT : CT E M b w v) (hv : v < 1000000) (h1 : inR σ) (h2 : inR u) (h3 : inR d) : CtI E m_X9_sample [.inr b, .inl σ, .inl u, .inl d] M (fun r M' => r = fSmp w σ u d ∧ PT E M M' b w v) := by
  have bad : ¬ (okT σ u ∧ (0 ≤ d ∧ d ≤ 400)) → (∃ x : Int, some (Sum.inl (-1000002) : fxV) = some (.inl x) ∧ x = fSmp w σ u d ∧ PT E M M b w v) := fun h => ⟨_, rfl, by rw [fSmp, if_neg h], PT.rf' hV hT⟩
  refine x_ct (by decide) (Nat.le_of_ble_eq_true rfl) (b_X9_sample_0 hW b σ u d M _ hb ⟨h1, fun hs => ⟨h2, fun hu => ⟨h3, fun hd => ?_, fun hd => bad (fun z => hd z.2)⟩, fun hu => bad (fun z => hu z.1.2)⟩, fun hs => bad (fun z => hs z.1.1)⟩)
  obtain ⟨s, rfl⟩ : ∃ s : Nat, σ = (s : Int) := ⟨σ.toNat, by omega⟩
  refine ⟨_, ct_traceOf hW hb hC hw hV hT (by omega) hu hv, fun v7 M7 g7 => ?_⟩
  obtain ⟨rfl, g1, g2⟩ := g7
  refine ⟨tr_kd hW hb (slt_b (by omega)).1, _, rfl, ?_, g1⟩
  rw [g2, fSmp, if_pos ⟨⟨by omega, hu⟩, hd⟩]
theorem cl_visible (hW : fx_Wt E) {b n v : Nat} {w : Nat → Int} {H : Nat → Nat → Int} {σ u : Int} (hb : kd E b = 9) (hC : CI E M b w H n v) (hw : wOk w) (hV : CV E M b w v) (hT : CT E M b w v) (hv : v < 1000000) (h1 : inR σ) (h2 : inR u) : CtI E m_X9_visible [.inr b, .inl σ, .inl u] M (fun r M' => r = fVis w σ u ∧ PT E M M' b w v) := by
  have bad : ¬ okT σ u → (∃ x : Int, some (Sum.inl (-1000002) : fxV) = some (.inl x) ∧ x = fVis w σ u ∧ PT E M M b w v) := fun h => ⟨_, rfl, by rw [fVis, if_neg h], PT.rf' hV hT⟩
  refine x_ct (by decide) (Nat.le_of_ble_eq_true rfl) (b_X9_visible_0 hW b σ u M _ hb ⟨h1, fun hs => ⟨h2, fun hu => ?_, fun hu => bad (fun z => hu z.2)⟩, fun hs => bad (fun z => hs z.1)⟩)
  obtain ⟨s, rfl⟩ : ∃ s : Nat, σ = (s : Int) := ⟨σ.toNat, by omega⟩
  refine ⟨_, ct_traceOf hW hb hC hw hV hT (by omega) hu hv, fun v5 M5 g5 => ?_⟩
  obtain ⟨rfl, g1, g2⟩ := g5
  have hk := tr_kd hW hb (slt_b (s := s) (u := u) (by omega)).1
  refine ⟨hk, ?_⟩
  have key : ∀ (f k : Nat), k + f = 401 → fx_At E m_X9_visible 27 [some (.inr b), some (.inl (s : Int)), some (.inl u), some (.inr (tr E b (slt s u))), some (.inl (k : Int))] [] M5 (fun r M' => ∃ x : Int, r = some (.inl x) ∧ x = visF (trA w s u) f k ∧ PT E M M' b w v) := by
    intro f
    induction f with
    | zero =>
      intro k hk1
      exact b_X9_visible_27 hW b _ _ _ _ M5 _ hb hk ⟨by omega, fun _ => ⟨_, rfl, rfl, g1⟩, fun z => absurd (by omega) z⟩
    | succ f ih =>
      intro k hk1
      refine b_X9_visible_27 hW b _ _ _ _ M5 _ hb hk ?_
      rw [g2]
      have := trA_b hw hu (σ := (s : Int)) (k : Int)
      refine ⟨by omega, fun z => absurd z (by omega), fun _ => ⟨by omega, fun hle => ⟨_, rfl, by rw [visF, if_pos hle], g1⟩, fun hgt => ?_⟩⟩
      rw [visF, if_neg hgt]
      exact ih (k + 1) (by omega)
  have h0 := key 401 0 rfl
  have e : fVis w (s : Int) u = visF (trA w s u) 401 0 := by rw [fVis, if_pos ⟨by omega, hu⟩]
  rw [e]
  exact h0
theorem stS_b {w : Nat → Int} (hw : wOk w) (σ d : Int) : (0 ≤ stS w σ d ∧ stS w σ d ≤ 100000000) ∨ stS w σ d = -1000005 := by
  have b1 := trA_b hw (σ := σ) (u := 1) (by decide) d
  have b3 := trA_b hw (σ := σ) (u := 3) (by decide) d
  have b9 := trA_b hw (σ := σ) (u := 9) (by decide) d
  unfold stS
  split
  · omega
  · split
    · omega
    · split <;> omega
theorem ct_stitchedAt (hW : fx_Wt E) {b n v s : Nat} {w : Nat → Int} {H : Nat → Nat → Int} {d : Int} (hb : kd E b = 9) (hC : CI E M b w H n v) (hw : wOk w) (hV : CV E M b w v) (hT : CT E M b w v) (hv : v < 1000000) (hs : s < 2) (hd : inR d) : CtI E m_X9_stitchedAt [.inr b, .inl (s : Int), .inl d] M (fun r M' => r = stS w s d ∧ PT E M M' b w v) := by
  have h61 := hw.2.2.2.2.2.2.2.2.1 3 (by decide)
  have hsv : sv 0 3 = 0 ∧ sv 1 3 = 9000 := ⟨rfl, rfl⟩
  have e61 : M (rf E (rf E b 0) 2) 3 = w 61 := hC.1.2.2 3 (by decide)
  rw [show 58 + 3 = 61 from rfl] at h61
  refine x_ct (by decide) (Nat.le_of_ble_eq_true rfl) (b_X9_stitchedAt_0 hW b s d M _ hb ?_)
  rw [e61]
  have b1 := trA_b hw (σ := (s : Int)) (u := 1) (by decide) d
  have b3 := trA_b hw (σ := (s : Int)) (u := 3) (by decide) d
  have b9 := trA_b hw (σ := (s : Int)) (u := 9) (by decide) d
  have s0 : sv 2 (Int.toNat 0) = 1 := rfl
  have s1 : sv 2 (Int.toNat (0 + 1)) = 3 := rfl
  have s2 : sv 2 (Int.toNat (0 + 1 + 1)) = 9 := rfl
  refine b_X9_stitchedAt_17 hW b _ _ _ _ M _ hb ?_
  rw [s0]
  refine ⟨by decide, fun z => absurd z (by decide), fun _ => ⟨by decide, _, ct_traceOf hW hb hC hw hV hT hs (by decide) hv, fun t1 M1 g1 => ?_⟩⟩
  obtain ⟨rfl, p1, q1⟩ := g1
  rw [q1]
  refine ⟨tr_kd hW hb (slt_b hs).1, hd, by omega, by omega, fun c1 => ?_, fun c1 => ⟨_, rfl, by rw [stS, if_pos (by omega)]; omega, p1⟩⟩
  refine b_X9_stitchedAt_17 hW b _ _ _ _ M1 _ hb ?_
  rw [s1]
  refine ⟨by decide, fun z => absurd z (by decide), fun _ => ⟨by decide, _, ct_traceOf hW hb (p1.ci hW hb hC) hw p1.2.1 p1.2.2 hs (by decide) hv, fun t3 M3 g3 => ?_⟩⟩
  obtain ⟨rfl, p3, q3⟩ := g3
  rw [q3]
  have p13 := p1.trans p3
  refine ⟨tr_kd hW hb (slt_b hs).1, hd, by omega, by omega, fun c3 => ?_, fun c3 => ⟨_, rfl, by rw [stS, if_neg (by omega), if_pos (by omega)]; omega, p13⟩⟩
  refine b_X9_stitchedAt_17 hW b _ _ _ _ M3 _ hb ?_
  rw [s2]
  refine ⟨by decide, fun z => absurd z (by decide), fun _ => ⟨by decide, _, ct_traceOf hW hb (p13.ci hW hb hC) hw p13.2.1 p13.2.2 hs (by decide) hv, fun t9 M9 g9 => ?_⟩⟩
  obtain ⟨rfl, p9, q9⟩ := g9
  rw [q9]
  have p19 := p13.trans p9
  refine ⟨tr_kd hW hb (slt_b hs).1, hd, by omega, by omega, fun c9 => ?_, fun c9 => ⟨_, rfl, by rw [stS, if_neg (by omega), if_neg (by omega), if_pos (by omega)]; omega, p19⟩⟩
  exact b_X9_stitchedAt_17 hW b _ _ _ _ M9 _ hb ⟨by decide, fun _ => ⟨_, rfl, by rw [stS, if_neg (by omega), if_neg (by omega), if_neg (by omega)], p19⟩, fun z => absurd (by decide) z⟩
theorem cl_stitched (hW : fx_Wt E) {b n v : Nat} {w : Nat → Int} {H : Nat → Nat → Int} {σ d : Int} (hb : kd E b = 9) (hC : CI E M b w H n v) (hw : wOk w) (hV : CV E M b w v) (hT : CT E M b w v) (hv : v < 1000000) (h1 : inR σ) (h3 : inR d) : CtI E m_X9_stitched [.inr b, .inl σ, .inl d] M (fun r M' => r = fSti w σ d ∧ PT E M M' b w v) := by
  have bad : ¬ ((0 ≤ σ ∧ σ ≤ 1) ∧ (0 ≤ d ∧ d ≤ 400)) → (∃ x : Int, some (Sum.inl (-1000002) : fxV) = some (.inl x) ∧ x = fSti w σ d ∧ PT E M M b w v) := fun h => ⟨_, rfl, by rw [fSti, if_neg h], PT.rf' hV hT⟩
  refine x_ct (by decide) (Nat.le_of_ble_eq_true rfl) (b_X9_stitched_0 hW b σ d M _ hb ⟨h1, fun hs => ⟨h3, fun hd => ?_, fun hd => bad (fun z => hd z.2)⟩, fun hs => bad (fun z => hs z.1)⟩)
  obtain ⟨s, rfl⟩ : ∃ s : Nat, σ = (s : Int) := ⟨σ.toNat, by omega⟩
  refine ⟨_, ct_stitchedAt hW hb hC hw hV hT hv (by omega) h3, fun v5 M5 g5 => ⟨_, rfl, ?_, g5.2⟩⟩
  rw [g5.1, fSti, if_pos ⟨hs, hd⟩]
theorem cl_stitchedCount (hW : fx_Wt E) {b n v : Nat} {w : Nat → Int} {H : Nat → Nat → Int} {σ : Int} (hb : kd E b = 9) (hC : CI E M b w H n v) (hw : wOk w) (hV : CV E M b w v) (hT : CT E M b w v) (hv : v < 1000000) (h1 : inR σ) : CtI E m_X9_stitchedCount [.inr b, .inl σ] M (fun r M' => r = fStc w σ ∧ PT E M M' b w v) := by
  refine x_ct (by decide) (Nat.le_of_ble_eq_true rfl) (b_X9_stitchedCount_0 hW b σ M _ hb ⟨h1, fun hs => ?_, fun hs => ⟨_, rfl, by rw [fStc, if_neg hs], PT.rf' hV hT⟩⟩)
  obtain ⟨s, rfl⟩ : ∃ s : Nat, σ = (s : Int) := ⟨σ.toNat, by omega⟩
  have key : ∀ (f k : Nat) (M1 : fxM), k + f = 401 → PT E M M1 b w v → fx_At E m_X9_stitchedCount 14 [some (.inr b), some (.inl (s : Int)), some (.inl (sg (fun d => if stS w s (d : Int) = -1000005 then 0 else 1) k)), some (.inl (k : Int))] [] M1 (fun r M' => ∃ x : Int, r = some (.inl x) ∧ x = fStc w s ∧ PT E M M' b w v) := by
    intro f
    induction f with
    | zero =>
      intro k M1 hk p1
      obtain rfl : k = 401 := by omega
      exact b_X9_stitchedCount_14 hW b _ _ _ M1 _ hb ⟨by omega, fun _ => ⟨_, rfl, by rw [fStc, if_pos hs], p1⟩, fun z => absurd (by omega) z⟩
    | succ f ih =>
      intro k M1 hk p1
      refine b_X9_stitchedCount_14 hW b _ _ _ M1 _ hb ⟨by omega, fun z => absurd z (by omega), fun _ => ⟨_, ct_stitchedAt hW hb (p1.ci hW hb hC) hw p1.2.1 p1.2.2 hv (by omega) ⟨by omega, by omega⟩, fun v2 M2 g2 => ?_⟩⟩
      have e2 := g2.1
      have p2 := g2.2
      rw [e2]
      have hb2 := stS_b hw (s : Int) (k : Int)
      have h' := ih (k + 1) M2 (by omega) (p1.trans p2)
      refine ⟨by omega, fun he => ?_, fun hne => ?_⟩
      · rw [sg, if_pos he, Int.add_zero] at h'
        exact h'
      · rw [sg, if_neg hne] at h'
        exact h'
  exact key 401 0 M rfl (PT.rf' hV hT)
end
