/-! sample, visible, stitched: the reference. -/
/-- what a question leaves alone of the reference -/
def RQ (E : fxE) (M M' : fxM) (m : Nat) : Prop := (∀ c, own E c ≠ m → M' c = M c) ∧ (M' (rf E m 0) = M (rf E m 0) ∧ M' (rf E m 1) = M (rf E m 1) ∧ M' (rf E m 5) = M (rf E m 5)) ∧ M' m 2 = M m 2 ∧ M' m 6 = M m 6 ∧ M' m 7 = M m 7 ∧ M' m 8 = M m 8
def RP (E : fxE) (M M' : fxM) (m : Nat) : Prop := RQ E M M' m ∧ RC E M' m
section
variable {E : fxE} {M : fxM}
theorem RQ.trans {M' M'' : fxM} {m : Nat} (h : RQ E M M' m) (h' : RQ E M' M'' m) : RQ E M M'' m := by
  obtain ⟨a1, ⟨a2, a3, a4⟩, a5, a6, a7, a8⟩ := h
  obtain ⟨b1, ⟨b2, b3, b4⟩, b5, b6, b7, b8⟩ := h'
  exact ⟨fun c hc => (b1 c hc).trans (a1 c hc), ⟨b2.trans a2, b3.trans a3, b4.trans a4⟩, b5.trans a5, b6.trans a6, b7.trans a7, b8.trans a8⟩
theorem RQ.rf' {m : Nat} : RQ E M M m := ⟨fun _ _ => rfl, ⟨rfl, rfl, rfl⟩, rfl, rfl, rfl, rfl⟩
theorem RP.trans {M' M'' : fxM} {m : Nat} (h : RP E M M' m) (h' : RP E M' M'' m) : RP E M M'' m := ⟨h.1.trans h'.1, h'.2⟩
theorem rk10 (hW : fx_Wt E) {m k : Nat} (hm : kd E m = 10) (hk : (lay 10)[k]? = some true) : kd E (rf E m k) = 11 := by
  have hl := (List.getElem?_eq_some_iff.mp hk).1
  match k, hk, hl with
  | 0, _, _ => exact wk_10_0 hW hm
  | 1, _, _ => exact wk_10_1 hW hm
  | 5, _, _ => exact wk_10_5 hW hm
  | 9, _, _ => exact wk_10_9 hW hm
  | 10, _, _ => exact wk_10_10 hW hm
  | 11, _, _ => exact wk_10_11 hW hm
  | 13, _, _ => exact wk_10_13 hW hm
  | 14, _, _ => exact wk_10_14 hW hm
  | 15, _, _ => exact wk_10_15 hW hm
  | 17, _, _ => exact wk_10_17 hW hm
  | 18, _, _ => exact wk_10_18 hW hm
  | 23, _, _ => exact wk_10_23 hW hm
  | n + 25, _, hl => exact absurd hl (by simp [lay])
theorem orr (hW : fx_Wt E) {m k : Nat} (hm : kd E m = 10) (hk : (lay 10)[k]? = some true) : own E (rf E m k) = m := own_r hW hm (rk10 hW hm hk) (by decide) hk (by decide)
theorem mnr (hW : fx_Wt E) {m k : Nat} (hm : kd E m = 10) (hk : (lay 10)[k]? = some true) : m ≠ rf E m k := kd_ne hm (rk10 hW hm hk) (by decide)
theorem on_m (hW : fx_Wt E) {m k c : Nat} (hm : kd E m = 10) (hk : (lay 10)[k]? = some true) (hc : own E c ≠ m) : c ≠ m ∧ c ≠ rf E m k := ⟨fun e => hc (by rw [e, own_o hm (by decide)]), fun e => hc (by rw [e, orr hW hm hk])⟩
theorem RT.rq (hW : fx_Wt E) {M' : fxM} {m : Nat} (hm : kd E m = 10) (h : RT E M M' m) : RQ E M M' m := by
  obtain ⟨h1, h2⟩ := h
  have g : ∀ k, (lay 10)[k]? = some true → k ≠ 9 → k ≠ 10 → k ≠ 11 → k ≠ 13 → M' (rf E m k) = M (rf E m k) := fun k hk a b c d => h1 _ (mnr hW hm hk).symm (mne hW hm hk rfl a) (mne hW hm hk rfl b) (mne hW hm hk rfl c) (mne hW hm hk rfl d)
  exact ⟨fun c hc => h1 c (on_m (k := 9) hW hm rfl hc).1 (on_m (k := 9) hW hm rfl hc).2 (on_m (k := 10) hW hm rfl hc).2 (on_m (k := 11) hW hm rfl hc).2 (on_m (k := 13) hW hm rfl hc).2, ⟨g 0 rfl (by decide) (by decide) (by decide) (by decide), g 1 rfl (by decide) (by decide) (by decide) (by decide), g 5 rfl (by decide) (by decide) (by decide) (by decide)⟩, h2 2 (by decide) (by decide) (by decide), h2 6 (by decide) (by decide) (by decide), h2 7 (by decide) (by decide) (by decide), h2 8 (by decide) (by decide) (by decide)⟩
/-- a row of the reference's own that may be written -/
theorem RP_row (hW : fx_Wt E) {M' : fxM} {m k : Nat} {g : Nat → Int} (hm : kd E m = 10) (hk : (lay 10)[k]? = some true) (hn : k ≠ 0 ∧ k ≠ 1 ∧ k ≠ 5 ∧ k ≠ 13) (hC : RC E M m) (he : M' = mrow M (rf E m k) g) : RP E M M' m := by
  have n0 := mnr hW hm hk
  refine ⟨⟨fun c hc => by rw [he, mrow_o (on_m hW hm hk hc).2], ⟨by rw [he, mrow_o (mne hW hm rfl hk hn.1.symm)], by rw [he, mrow_o (mne hW hm rfl hk hn.2.1.symm)], by rw [he, mrow_o (mne hW hm rfl hk hn.2.2.1.symm)]⟩, by rw [he, mrow_o n0], by rw [he, mrow_o n0], by rw [he, mrow_o n0], by rw [he, mrow_o n0]⟩, ?_⟩
  unfold RC at hC ⊢
  rw [he, mrow_o n0, mrow_o (mne hW hm rfl hk hn.1.symm), mrow_o (mne hW hm rfl hk hn.2.2.2.symm)]
  exact hC
/-- a number of the reference's own that may be written -/
theorem RP_set (hW : fx_Wt E) {M' : fxM} {m k : Nat} {v : Int} (hm : kd E m = 10) (hn : k ≠ 2 ∧ k ≠ 3 ∧ k ≠ 4 ∧ k ≠ 6 ∧ k ≠ 7 ∧ k ≠ 8) (hC : RC E M m) (he : M' = mset M m k v) : RP E M M' m := by
  refine ⟨⟨fun c hc => by rw [he, mset_o (fun e => hc (by rw [e, own_o hm (by decide)]))], ⟨by rw [he, mset_o (mnr hW hm rfl).symm], by rw [he, mset_o (mnr hW hm rfl).symm], by rw [he, mset_o (mnr hW hm rfl).symm]⟩, by rw [he, mset_n (by omega)], by rw [he, mset_n (by omega)], by rw [he, mset_n (by omega)], by rw [he, mset_n (by omega)]⟩, ?_⟩
  unfold RC at hC ⊢
  rw [he, mset_n (by omega), mset_n (by omega), mset_o (mnr hW hm rfl).symm, mset_o (mnr hW hm rfl).symm]
  exact hC
/-- the trace is laid -/
theorem ct_layT (hW : fx_Wt E) {m : Nat} {w : Nat → Int} {σ u : Int} (hm : kd E m = 10) (hwe : M (rf E m 0) = w) (hw : wOk w) (hRC : RC E M m) (hσ : 0 ≤ σ ∧ σ ≤ 1) (hub : 1 ≤ u ∧ u ≤ 9) : CtV E m_X10_layTrace [.inr m, .inl σ, .inl u] M (fun M' => RT E M M' m ∧ RP E M M' m ∧ M' m 3 = σ ∧ M' m 4 = u ∧ ∀ d : Nat, d ≤ 400 → M' (rf E m 13) d = trS w σ u d) := by
  refine x_post (ct_layTrace hW hm hwe hw hRC hσ hub) (fun r M' h => ⟨h.1, h.2.1, ⟨h.2.1.rq hW hm, ?_⟩, h.2.2.1, h.2.2.2.1, fun d hd => h.2.2.2.2.eq hd⟩)
  refine ⟨by rw [h.2.2.1]; omega, by rw [h.2.2.2.1]; omega, fun _ => ?_⟩
  rw [(h.2.1.rq hW hm).2.1.1, hwe, h.2.2.1, h.2.2.2.1]
  exact h.2.2.2.2
theorem re_sample (hW : fx_Wt E) {m : Nat} {w : Nat → Int} {σ u d : Int} (hm : kd E m = 10) (hwe : M (rf E m 0) = w) (hw : wOk w) (hRC : RC E M m) (h1 : inR σ) (h2 : inR u) (h3 : inR d) : CtI E m_X10_sample [.inr m, .inl σ, .inl u, .inl d] M (fun r M' => r = fSmp w σ u d ∧ RP E M M' m) := by
  have bad : ¬ (okT σ u ∧ (0 ≤ d ∧ d ≤ 400)) → (∃ x : Int, some (Sum.inl (-1000002) : fxV) = some (.inl x) ∧ x = fSmp w σ u d ∧ RP E M M m) := fun h => ⟨_, rfl, by rw [fSmp, if_neg h], RQ.rf', hRC⟩
  refine x_ct (by decide) (Nat.le_of_ble_eq_true rfl) (b_X10_sample_0 hW m σ u d M _ hm ⟨h1, h2, fun ht => ⟨h3, fun hd => ⟨_, ct_layT hW hm hwe hw hRC ht.1 ht.2, fun M6 g6 => ⟨by omega, _, rfl, ?_, g6.2.1⟩⟩, fun hd => bad (fun z => hd z.2)⟩, fun ht => bad (fun z => ht z.1)⟩)
  rw [g6.2.2.2.2 d.toNat (by omega), fSmp, if_pos ⟨ht, hd⟩, trA, if_pos (by omega)]
theorem re_visible (hW : fx_Wt E) {m : Nat} {w : Nat → Int} {σ u : Int} (hm : kd E m = 10) (hwe : M (rf E m 0) = w) (hw : wOk w) (hRC : RC E M m) (h1 : inR σ) (h2 : inR u) : CtI E m_X10_visible [.inr m, .inl σ, .inl u] M (fun r M' => r = fVis w σ u ∧ RP E M M' m) := by
  refine x_ct (by decide) (Nat.le_of_ble_eq_true rfl) (b_X10_visible_0 hW m σ u M _ hm ⟨h1, h2, fun ht => ⟨_, ct_layT hW hm hwe hw hRC ht.1 ht.2, fun M4 g4 => ?_⟩, fun ht => ⟨_, rfl, by rw [fVis, if_neg (c := okT σ u) ht], RQ.rf', hRC⟩⟩)
  have hu := ht.2
  have key : ∀ (f k : Nat), k + f = 401 → fx_At E m_X10_visible 19 [some (.inr m), some (.inl σ), some (.inl u), some (.inl (k : Int))] [] M4 (fun r M' => ∃ x : Int, r = some (.inl x) ∧ x = visF (trA w σ u) f k ∧ RP E M M' m) := by
    intro f
    induction f with
    | zero =>
      intro k hk
      exact b_X10_visible_19 hW m _ _ _ M4 _ hm ⟨by omega, fun _ => ⟨_, rfl, rfl, g4.2.1⟩, fun z => absurd (by omega) z⟩
    | succ f ih =>
      intro k hk
      refine b_X10_visible_19 hW m _ _ _ M4 _ hm ?_
      have e : M4 (rf E m 13) ((k : Int).toNat) = trA w σ u k := by rw [Int.toNat_natCast, g4.2.2.2.2 k (by omega), trA, if_pos (by omega), Int.toNat_natCast]
      rw [e]
      have := trA_b hw hu (σ := σ) (k : Int)
      refine ⟨by omega, fun z => absurd z (by omega), fun _ => ⟨by omega, by omega, fun hle => ⟨_, rfl, by rw [visF, if_pos hle], g4.2.1⟩, fun hgt => ?_⟩⟩
      rw [visF, if_neg hgt]
      exact ih (k + 1) (by omega)
  have h0 := key 401 0 rfl
  have e : fVis w σ u = visF (trA w σ u) 401 0 := by rw [fVis, if_pos (c := okT σ u) ht]
  rw [e]
  exact h0
def stA (w : Nat → Int) (T S : Nat → Int) (u : Int) : Nat → Int := fun d => if S d = -1000005 ∧ 5000 + w 61 ≤ T d then T d - 300 * u else S d
theorem ct_stitch (hW : fx_Wt E) {m : Nat} {w : Nat → Int} {σ u : Int} (hm : kd E m = 10) (hwe : M (rf E m 0) = w) (hw : wOk w) (hRC : RC E M m) (hσ : 0 ≤ σ ∧ σ ≤ 1) (hub : 1 ≤ u ∧ u ≤ 9) (hS : ∀ d : Nat, d ≤ 400 → inR (M (rf E m 14) d)) : CtV E m_X10_stitch [.inr m, .inl σ, .inl u] M (fun M' => RP E M M' m ∧ ∀ d : Nat, d ≤ 400 → M' (rf E m 14) d = stA w (trS w σ u) (M (rf E m 14)) u d) := by
  have h61 := hw.2.2.2.2.2.2.2.2.1 3 (by decide)
  have hsv : sv 0 3 = 0 ∧ sv 1 3 = 9000 := ⟨rfl, rfl⟩
  rw [show 58 + 3 = 61 from rfl] at h61
  have n14 : rf E m 13 ≠ rf E m 14 := mne hW hm rfl rfl (by decide)
  have n0 : rf E m 0 ≠ rf E m 14 := mne hW hm rfl rfl (by decide)
  refine x_ct (by decide) (Nat.le_of_ble_eq_true rfl) (b_X10_stitch_0 hW m σ u M _ hm ⟨_, ct_layT hW hm hwe hw hRC hσ hub, fun M1 g1 => ?_⟩)
  obtain ⟨rt, rp, -, -, hT⟩ := g1
  have e14 : M1 (rf E m 14) = M (rf E m 14) := rt.1 _ (mnr hW hm rfl).symm (mne hW hm rfl rfl (by decide)) (mne hW hm rfl rfl (by decide)) (mne hW hm rfl rfl (by decide)) n14.symm
  have e0 : M1 (rf E m 0) = w := by rw [rp.1.2.1.1, hwe]
  have key : ∀ (f k : Nat) (S' : Nat → Int), k + f = 401 → (∀ d, d < k → S' d = stA w (trS w σ u) (M (rf E m 14)) u d) → (∀ d, k ≤ d → S' d = M (rf E m 14) d) → fx_At E m_X10_stitch 8 [some (.inr m), some (.inl σ), some (.inl u), some (.inl (k : Int)), none] [] (mrow M1 (rf E m 14) S') (fun r M' => r = none ∧ RP E M M' m ∧ ∀ d : Nat, d ≤ 400 → M' (rf E m 14) d = stA w (trS w σ u) (M (rf E m 14)) u d) := by
    intro f
    induction f with
    | zero =>
      intro k S' hk a1 a2
      exact b_X10_stitch_8 hW m _ _ _ _ _ hm ⟨by omega, fun _ => ⟨rfl, rp.trans (RP_row hW hm rfl (by decide) rp.2 rfl), fun d hd => by rw [mrow_s]; exact a1 d (by omega)⟩, fun z => absurd (by omega) z⟩
    | succ f ih =>
      intro k S' hk a1 a2
      have tb := trS_b hw hub (σ := σ) k
      have hs := hS k (by omega)
      have h51 : ∀ s0 : Int, (s0 = 0 ∧ ¬ (M (rf E m 14) k = -1000005 ∧ 5000 + w 61 ≤ trS w σ u k)) ∨ (s0 = 1 ∧ (M (rf E m 14) k = -1000005 ∧ 5000 + w 61 ≤ trS w σ u k)) → fx_At E m_X10_stitch 51 [some (.inr m), some (.inl σ), some (.inl u), some (.inl (k : Int)), none] [.inl s0] (mrow M1 (rf E m 14) S') (fun r M' => r = none ∧ RP E M M' m ∧ ∀ d : Nat, d ≤ 400 → M' (rf E m 14) d = stA w (trS w σ u) (M (rf E m 14)) u d) := by
        intro s0 h0
        have go : ∀ (M3 : fxM) (v : Int), v = stA w (trS w σ u) (M (rf E m 14)) u k → M3 = mset (mrow M1 (rf E m 14) S') (rf E m 14) k v → fx_At E m_X10_stitch 8 [some (.inr m), some (.inl σ), some (.inl u), some (.inl ((k : Int) + 1)), none] [] M3 (fun r M' => r = none ∧ RP E M M' m ∧ ∀ d : Nat, d ≤ 400 → M' (rf E m 14) d = stA w (trS w σ u) (M (rf E m 14)) u d) := by
          intro M3 v hv g3
          rw [g3, mset_row]
          refine ih (k + 1) _ (by omega) (fun d hd => ?_) (fun d hd => ?_)
          · by_cases hdk : d = k
            · subst hdk; rw [if_pos rfl, hv]
            · rw [if_neg hdk]; exact a1 d (by omega)
          · rw [if_neg (by omega)]; exact a2 d (by omega)
        refine b_X10_stitch_51 hW m _ _ _ _ _ _ hm ?_
        rw [mrow_s, mrow_o n14, Int.toNat_natCast, hT k (by omega), a2 k (Nat.le_refl k)]
        refine ⟨by omega, fun hz => ⟨by omega, fun M3 g3 => go M3 _ ?_ g3⟩, fun hz => ⟨by omega, fun M3 g3 => go M3 _ ?_ g3⟩⟩
        · rcases h0 with h0 | h0
          · rw [stA, if_neg h0.2]
          · omega
        · rcases h0 with h0 | h0
          · exact absurd h0.1 hz
          · rw [stA, if_pos h0.2]
      refine b_X10_stitch_8 hW m _ _ _ _ _ hm ?_
      rw [mrow_s, mrow_o n14, mrow_o n0, Int.toNat_natCast, hT k (by omega), a2 k (Nat.le_refl k), e0]
      refine ⟨by omega, fun z => absurd z (by omega), fun _ => ⟨by omega, hs, fun hne => h51 0 (Or.inl ⟨rfl, fun z => hne z.1⟩), fun he => ⟨by omega, by omega, fun hlt => h51 0 (Or.inl ⟨rfl, fun z => by omega⟩), fun hge => h51 1 (Or.inr ⟨rfl, he, by omega⟩)⟩⟩⟩
  have h0 := key 401 0 (M1 (rf E m 14)) rfl (fun d hd => absurd hd (by omega)) (fun d _ => by rw [e14])
  rw [mrow_id] at h0
  exact h0
theorem ct_layStitches (hW : fx_Wt E) {m : Nat} {w : Nat → Int} {σ : Int} (hm : kd E m = 10) (hwe : M (rf E m 0) = w) (hw : wOk w) (hRC : RC E M m) (hσ : 0 ≤ σ ∧ σ ≤ 1) : CtV E m_X10_layStitches [.inr m, .inl σ] M (fun M' => RP E M M' m ∧ ∀ d : Nat, d ≤ 400 → M' (rf E m 14) d = stS w σ d) := by
  refine x_ct (by decide) (Nat.le_of_ble_eq_true rfl) (b_X10_layStitches_0 hW m σ M _ hm ?_)
  have n0 : rf E m 0 ≠ rf E m 14 := mne hW hm rfl rfl (by decide)
  have key : ∀ (f k : Nat) (S' : Nat → Int), k + f = 401 → (∀ d, d < k → S' d = -1000005) → fx_At E m_X10_layStitches 2 [some (.inr m), some (.inl σ), some (.inl (k : Int))] [] (mrow M (rf E m 14) S') (fun r M' => r = none ∧ RP E M M' m ∧ ∀ d : Nat, d ≤ 400 → M' (rf E m 14) d = stS w σ d) := by
    intro f
    induction f with
    | zero =>
      intro k S' hk a1
      have p0 : RP E M (mrow M (rf E m 14) S') m := RP_row hW hm rfl (by decide) hRC rfl
      refine b_X10_layStitches_2 hW m _ _ _ _ hm ⟨by omega, fun _ => ⟨_, ct_stitch (u := 1) hW hm (by rw [mrow_o n0, hwe]) hw p0.2 hσ (by decide) (fun d hd => by rw [mrow_s, a1 d (by omega)]; exact ⟨by decide, by decide⟩), fun M2 g2 => ?_⟩, fun z => absurd (by omega) z⟩
      have p2 := p0.trans g2.1
      have v2 : ∀ d : Nat, d ≤ 400 → M2 (rf E m 14) d = if 5000 + w 61 ≤ trS w σ 1 d then trS w σ 1 d - 300 else -1000005 := fun d hd => by
        rw [g2.2 d hd, stA, mrow_s, a1 d (by omega)]
        by_cases hc : 5000 + w 61 ≤ trS w σ 1 d
        · rw [if_pos ⟨rfl, hc⟩, if_pos hc]; omega
        · rw [if_neg (fun z => hc z.2), if_neg hc]
      refine ⟨_, ct_stitch (u := 3) hW hm (by rw [p2.1.2.1.1, hwe]) hw p2.2 hσ (by decide) (fun d hd => by
        rw [v2 d hd]
        have := trS_b hw (u := 1) (by decide) (σ := σ) d
        split
        · exact ⟨by omega, by omega⟩
        · exact ⟨by decide, by decide⟩), fun M3 g3 => ?_⟩
      have p3 := p2.trans g3.1
      have v3 : ∀ d : Nat, d ≤ 400 → M3 (rf E m 14) d = if 5000 + w 61 ≤ trS w σ 1 d then trS w σ 1 d - 300 else if 5000 + w 61 ≤ trS w σ 3 d then trS w σ 3 d - 900 else -1000005 := fun d hd => by
        have := trS_b hw (u := 1) (by decide) (σ := σ) d
        rw [g3.2 d hd, stA, v2 d hd]
        by_cases hc : 5000 + w 61 ≤ trS w σ 1 d
        · rw [if_pos hc, if_neg (by omega), if_pos hc]
        · rw [if_neg hc, if_neg hc]
          by_cases hc3 : 5000 + w 61 ≤ trS w σ 3 d
          · rw [if_pos ⟨rfl, hc3⟩, if_pos hc3]; omega
          · rw [if_neg (fun z => hc3 z.2), if_neg hc3]
      refine ⟨_, ct_stitch (u := 9) hW hm (by rw [p3.1.2.1.1, hwe]) hw p3.2 hσ (by decide) (fun d hd => by
        rw [v3 d hd]
        have := trS_b hw (u := 1) (by decide) (σ := σ) d
        have := trS_b hw (u := 3) (by decide) (σ := σ) d
        split
        · exact ⟨by omega, by omega⟩
        · split
          · exact ⟨by omega, by omega⟩
          · exact ⟨by decide, by decide⟩), fun M4 g4 => ⟨rfl, p3.trans g4.1, fun d hd => ?_⟩⟩
      have b1 := trS_b hw (u := 1) (by decide) (σ := σ) d
      have b3 := trS_b hw (u := 3) (by decide) (σ := σ) d
      have ta : ∀ u : Int, trA w σ u (d : Int) = trS w σ u d := fun u => by rw [trA, if_pos (by omega), Int.toNat_natCast]
      rw [g4.2 d hd, stA, v3 d hd, stS, ta, ta, ta]
      by_cases hc : 5000 + w 61 ≤ trS w σ 1 d
      · rw [if_pos hc, if_pos hc, if_neg (by omega)]
      · rw [if_neg hc, if_neg hc]
        by_cases hc3 : 5000 + w 61 ≤ trS w σ 3 d
        · rw [if_pos hc3, if_pos hc3, if_neg (by omega)]
        · rw [if_neg hc3, if_neg hc3]
          by_cases hc9 : 5000 + w 61 ≤ trS w σ 9 d
          · rw [if_pos ⟨rfl, hc9⟩, if_pos hc9]; omega
          · rw [if_neg (fun z => hc9 z.2), if_neg hc9]
    | succ f ih =>
      intro k S' hk a1
      refine b_X10_layStitches_2 hW m _ _ _ _ hm ⟨by omega, fun z => absurd z (by omega), fun _ => ⟨by omega, fun M6 g6 => ?_⟩⟩
      rw [g6, Int.toNat_natCast, mset_row]
      refine ih (k + 1) _ (by omega) (fun d hd => ?_)
      by_cases hdk : d = k
      · rw [if_pos hdk]
      · rw [if_neg hdk]; exact a1 d (by omega)
  have h0 := key 401 0 (M (rf E m 14)) rfl (fun d hd => absurd hd (by omega))
  rw [mrow_id] at h0
  exact h0
theorem re_stitched (hW : fx_Wt E) {m : Nat} {w : Nat → Int} {σ d : Int} (hm : kd E m = 10) (hwe : M (rf E m 0) = w) (hw : wOk w) (hRC : RC E M m) (h1 : inR σ) (h3 : inR d) : CtI E m_X10_stitched [.inr m, .inl σ, .inl d] M (fun r M' => r = fSti w σ d ∧ RP E M M' m) := by
  have bad : ¬ ((0 ≤ σ ∧ σ ≤ 1) ∧ (0 ≤ d ∧ d ≤ 400)) → (∃ x : Int, some (Sum.inl (-1000002) : fxV) = some (.inl x) ∧ x = fSti w σ d ∧ RP E M M m) := fun h => ⟨_, rfl, by rw [fSti, if_neg h], RQ.rf', hRC⟩
  refine x_ct (by decide) (Nat.le_of_ble_eq_true rfl) (b_X10_stitched_0 hW m σ d M _ hm ⟨h1, fun hs => ⟨h3, fun hd => ⟨_, ct_layStitches hW hm hwe hw hRC hs, fun M5 g5 => ⟨by omega, _, rfl, ?_, g5.1⟩⟩, fun hd => bad (fun z => hd z.2)⟩, fun hs => bad (fun z => hs z.1)⟩)
  rw [g5.2 d.toNat (by omega), fSti, if_pos ⟨hs, hd⟩, show ((d.toNat : Nat) : Int) = d by omega]
theorem re_stitchedCount (hW : fx_Wt E) {m : Nat} {w : Nat → Int} {σ : Int} (hm : kd E m = 10) (hwe : M (rf E m 0) = w) (hw : wOk w) (hRC : RC E M m) (h1 : inR σ) : CtI E m_X10_stitchedCount [.inr m, .inl σ] M (fun r M' => r = fStc w σ ∧ RP E M M' m) := by
  refine x_ct (by decide) (Nat.le_of_ble_eq_true rfl) (b_X10_stitchedCount_0 hW m σ M _ hm ⟨h1, fun hs => ⟨_, ct_layStitches hW hm hwe hw hRC hs, fun M3 g3 => ?_⟩, fun hs => ⟨_, rfl, by rw [fStc, if_neg hs], RQ.rf', hRC⟩⟩)
  have key : ∀ (f k : Nat), k + f = 401 → fx_At E m_X10_stitchedCount 19 [some (.inr m), some (.inl σ), some (.inl (sg (fun d => if stS w σ (d : Int) = -1000005 then 0 else 1) k)), some (.inl (k : Int))] [] M3 (fun r M' => ∃ x : Int, r = some (.inl x) ∧ x = fStc w σ ∧ RP E M M' m) := by
    intro f
    induction f with
    | zero =>
      intro k hk
      obtain rfl : k = 401 := by omega
      exact b_X10_stitchedCount_19 hW m _ _ _ M3 _ hm ⟨by omega, fun _ => ⟨_, rfl, by rw [fStc, if_pos hs], g3.1⟩, fun z => absurd (by omega) z⟩
    | succ f ih =>
      intro k hk
      refine b_X10_stitchedCount_19 hW m _ _ _ M3 _ hm ?_
      rw [Int.toNat_natCast, g3.2 k (by omega)]
      have hb2 := stS_b hw σ (k : Int)
      have h' := ih (k + 1) (by omega)
      refine ⟨by omega, fun z => absurd z (by omega), fun _ => ⟨by omega, by omega, fun he => ?_, fun hne => ?_⟩⟩
      · rw [sg, if_pos he] at h'
        exact h'
      · rw [sg, if_neg hne] at h'
        exact h'
  exact key 401 0 rfl
end
