/-! The traces as the class keeps them; sample, visible, stitched. -/
noncomputable def trS (w : Nat → Int) (σ u : Int) : Nat → Int := @dite (Nat → Int) (∃ T, IsTr w σ u T) (Classical.propDecidable _) (fun h d => if d ≤ 400 then h.choose d else 5000) (fun _ _ => 5000)
theorem IsTr.eq {w : Nat → Int} {σ u : Int} {T : Nat → Int} (h : IsTr w σ u T) {d : Nat} (hd : d ≤ 400) : T d = trS w σ u d := by
  have hx : ∃ T, IsTr w σ u T := ⟨T, h⟩
  unfold trS
  rw [dif_pos hx]
  rw [if_pos hd]
  exact h.uniq hx.choose_spec hd
theorem trS_b {w : Nat → Int} (hw : wOk w) {σ u : Int} (hu : 1 ≤ u ∧ u ≤ 9) (d : Nat) : 5000 ≤ trS w σ u d ∧ trS w σ u d ≤ 100000000 := by
  unfold trS
  by_cases hx : ∃ T, IsTr w σ u T
  · rw [dif_pos hx]
    by_cases hd : d ≤ 400
    · rw [if_pos hd]; exact hx.choose_spec.1.b hw hu hd
    · rw [if_neg hd]; decide
  · rw [dif_neg hx]; decide
noncomputable def trA (w : Nat → Int) (σ u d : Int) : Int := if 0 ≤ d ∧ d < 401 then trS w σ u d.toNat else 5000
theorem trA_b {w : Nat → Int} (hw : wOk w) {σ u : Int} (hu : 1 ≤ u ∧ u ≤ 9) (d : Int) : 5000 ≤ trA w σ u d ∧ trA w σ u d ≤ 100000000 := by
  unfold trA
  split
  · exact trS_b hw hu _
  · decide
def tr (E : fxE) (b j : Nat) : Nat := rf E (rf E b 5) j
def sd (j : Nat) : Int := if j < 4 then 0 else 1
def CT (E : fxE) (M : fxM) (b : Nat) (w : Nat → Int) (v : Nat) : Prop := ∀ j : Nat, j < 8 → (-1 ≤ M (tr E b j) 2 ∧ M (tr E b j) 2 ≤ (v : Int)) ∧ (0 ≤ M (tr E b j) 1 ∧ M (tr E b j) 1 ≤ 9) ∧ (M (tr E b j) 2 = (v : Int) → IsTr w (sd j) (M (tr E b j) 1) (M (rf E (tr E b j) 0)))
def slt (s : Nat) (u : Int) : Nat := if u = 1 then 4 * s else if u = 3 then 4 * s + 1 else if u = 9 then 4 * s + 2 else 4 * s + 3
theorem slt_b {s : Nat} {u : Int} (hs : s < 2) : slt s u < 8 ∧ sd (slt s u) = (s : Int) := by
  unfold sd
  have : 4 * s ≤ slt s u ∧ slt s u < 4 * s + 4 := by unfold slt; split <;> (try split) <;> (try split) <;> omega
  refine ⟨by omega, ?_⟩
  split <;> omega
section
variable {E : fxE} {M : fxM}
def PT (E : fxE) (M M' : fxM) (b : Nat) (w : Nat → Int) (v : Nat) : Prop := KF E M M' [7, 8] ∧ CV E M' b w v ∧ CT E M' b w v
theorem PT.trans {M' M'' : fxM} {b v : Nat} {w : Nat → Int} (h : PT E M M' b w v) (h' : PT E M' M'' b w v) : PT E M M'' b w v := ⟨h.1.trans h'.1, h'.2⟩
theorem tr_kd (hW : fx_Wt E) {b j : Nat} (hb : kd E b = 9) (hj : j < 8) : kd E (tr E b j) = 7 := by
  have := we_15 (i := (j : Int)) hW (wk_9_5 hW hb) (wl_9_5 hW hb) ⟨by omega, by omega⟩
  rwa [Int.toNat_natCast] at this
theorem tr_ne (hW : fx_Wt E) {b i j : Nat} (hb : kd E b = 9) (hi : i < 8) (hj : j < 8) (hij : i ≠ j) : tr E b i ≠ tr E b j := fun e => by
  have hk := wk_9_5 hW hb
  have hl := wl_9_5 hW hb
  exact hij (wd hW (rs_a hk (by decide) (by omega)) (rs_a hk (by decide) (by omega)) e).2
theorem CT.kf {M' : fxM} (hW : fx_Wt E) {b v : Nat} {w : Nat → Int} {ks : List Nat} (hb : kd E b = 9) (h : CT E M b w v) (hF : KF E M M' ks) (hk : 7 ∉ ks) : CT E M' b w v := fun j hj => by
  have ht := tr_kd hW hb hj
  have e : M' (tr E b j) = M (tr E b j) := hF _ (by rw [reg_top ht rfl, ht]; exact hk)
  have e0 : M' (rf E (tr E b j) 0) = M (rf E (tr E b j) 0) := hF _ (by rw [reg_own (by omega) (ot0 hW ht), reg_top ht rfl, ht]; exact hk)
  rw [e, e0]
  exact h j hj
theorem CT.next {M' : fxM} (hW : fx_Wt E) {b v : Nat} {w w' : Nat → Int} {ks : List Nat} (hb : kd E b = 9) (h : CT E M b w v) (hF : KF E M M' ks) (hk : 7 ∉ ks) : CT E M' b w' (v + 1) := fun j hj => by
  have ht := tr_kd hW hb hj
  have e : M' (tr E b j) = M (tr E b j) := hF _ (by rw [reg_top ht rfl, ht]; exact hk)
  rw [e]
  have := h j hj
  exact ⟨by omega, this.2.1, fun z => absurd z (by omega)⟩
theorem CT.new {M' : fxM} (hW : fx_Wt E) {b v j : Nat} {w : Nat → Int} {u : Int} (hb : kd E b = 9) (h : CT E M b w v) (hj : j < 8) (hF : Fo E M M' (tr E b j)) (h2 : M' (tr E b j) 2 = (v : Int)) (h1 : M' (tr E b j) 1 = u) (hu : 1 ≤ u ∧ u ≤ 9) (hT : IsTr w (sd j) u (M' (rf E (tr E b j) 0))) : CT E M' b w v := fun i hi => by
  by_cases hij : i = j
  · subst hij
    rw [h1, h2]
    exact ⟨by omega, by omega, fun _ => hT⟩
  · have ht := tr_kd hW hb hi
    have hne := tr_ne hW hb hi hj hij
    have e : M' (tr E b i) = M (tr E b i) := hF _ (by rw [own_o ht (by decide)]; exact hne)
    have e0 : M' (rf E (tr E b i) 0) = M (rf E (tr E b i) 0) := hF _ (by rw [ot0 hW ht]; exact hne)
    rw [e, e0]
    exact h i hi
theorem sv2 {i : Nat} : sv 2 i = if i = 0 then 1 else if i = 1 then 3 else 9 := rfl
theorem ct_slotOf (hW : fx_Wt E) {s : Nat} {u : Int} (hs : s < 2) (hu : inR u) : CtI E m_X9_slotOf [.inl (s : Int), .inl u] M (fun r M' => r = (slt s u : Int) ∧ M' = M) := by
  have at12 : ∀ x2 : Int, x2 = 4 * (s : Int) → fx_At E m_X9_slotOf 12 [some (.inl (s : Int)), some (.inl u), some (.inl x2), some (.inl 0)] [] M (fun r M' => ∃ v : Int, r = some (.inl v) ∧ v = (slt s u : Int) ∧ M' = M) := by
    intro x2 hx
    refine b_X9_slotOf_12 hW _ _ _ _ M _ ⟨by decide, fun z => absurd z (by decide), fun _ => ⟨by decide, by decide, hu, fun h1 => ?_, fun h1 => ⟨_, rfl, ?_, rfl⟩⟩⟩
    · have h1' : ¬ u = 1 := fun z => h1 (by rw [z]; rfl)
      refine b_X9_slotOf_12 hW _ _ _ _ M _ ⟨by decide, fun z => absurd z (by decide), fun _ => ⟨by decide, by decide, hu, fun h3 => ?_, fun h3 => ⟨_, rfl, ?_, rfl⟩⟩⟩
      · have h3' : ¬ u = 3 := fun z => h3 (by rw [z]; rfl)
        refine b_X9_slotOf_12 hW _ _ _ _ M _ ⟨by decide, fun z => absurd z (by decide), fun _ => ⟨by decide, by decide, hu, fun h9 => ?_, fun h9 => ⟨_, rfl, ?_, rfl⟩⟩⟩
        · have h9' : ¬ u = 9 := fun z => h9 (by rw [z]; rfl)
          refine b_X9_slotOf_12 hW _ _ _ _ M _ ⟨by decide, fun _ => ⟨_, rfl, ?_, rfl⟩, fun z => absurd (by decide) z⟩
          rw [slt, if_neg h1', if_neg h3', if_neg h9']; omega
        · have h9' : u = 9 := h9.symm
          rw [slt, if_neg h1', if_neg h3', if_pos h9']; omega
      · have h3' : u = 3 := h3.symm
        rw [slt, if_neg h1', if_pos h3']; omega
    · have h1' : u = 1 := h1.symm
      rw [slt, if_pos h1']; omega
  exact x_ct (by decide) (Nat.le_of_ble_eq_true rfl) (b_X9_slotOf_0 hW s u M _ ⟨by omega, fun h => at12 4 (by omega), fun h => at12 0 (by omega)⟩)
theorem ct_traceOf (hW : fx_Wt E) {b n v s : Nat} {w : Nat → Int} {H : Nat → Nat → Int} {u : Int} (hb : kd E b = 9) (hC : CI E M b w H n v) (hw : wOk w) (hV : CV E M b w v) (hT : CT E M b w v) (hs : s < 2) (hu : 1 ≤ u ∧ u ≤ 9) (hv : v < 1000000) : CtA E m_X9_traceOf [.inr b, .inl (s : Int), .inl u] M (fun r M' => r = tr E b (slt s u) ∧ PT E M M' b w v ∧ ∀ d : Int, tat E M' (tr E b (slt s u)) d = trA w s u d) := by
  obtain ⟨hj, hsd⟩ := slt_b (u := u) hs
  have ht := tr_kd hW hb hj
  have h8 := hC.2.2
  obtain ⟨q1, q2, q3⟩ := hT (slt s u) hj
  have tt : ∀ M' : fxM, IsTr w s u (M' (rf E (tr E b (slt s u)) 0)) → ∀ d : Int, tat E M' (tr E b (slt s u)) d = trA w s u d := fun M' h d => by
    unfold tat trA
    by_cases hd : 0 ≤ d ∧ d < 401
    · rw [if_pos hd, if_pos hd]; exact h.eq (by omega)
    · rw [if_neg hd, if_neg hd]
  have mk : ∃ R5 : Nat → fxM → Prop, CtA E m_X9_viewOf [.inr b, .inl (s : Int)] M R5 ∧ ∀ (v5 : Nat) (M5 : fxM), R5 v5 M5 → kd E v5 = 8 ∧ ∃ R6 : fxM → Prop, CtV E m_X7_compute [.inr (tr E b (slt s u)), .inr v5, .inl u] M5 R6 ∧ ∀ M6 : fxM, R6 M6 → ∀ M7 : fxM, M7 = mset M6 (tr E b (slt s u)) 2 (M6 b 8) → ∃ x : Nat, some (Sum.inr (tr E b (slt s u)) : fxV) = some (.inr x) ∧ x = tr E b (slt s u) ∧ PT E M M7 b w v ∧ ∀ d : Int, tat E M7 (tr E b (slt s u)) d = trA w s u d := by
    refine ⟨_, ct_viewOf hW hb hC hw hV hs hv, fun v5 M5 g5 => ?_⟩
    obtain ⟨rfl, f1, f2, f3⟩ := g5
    have hk := vw_kd hW hb hs
    have hV5 := hV.new hW hb hs f1 f2 f3
    have kf5 : KF E M M5 [8] := f1.kf hk (by decide) rfl (by decide)
    have hT5 := hT.kf hW hb kf5 (by decide)
    refine ⟨hk, _, ct_compute hW ht hk f3 hw hu, fun M6 g6 M7 g7 => ⟨_, rfl, rfl, ?_⟩⟩
    obtain ⟨p1, p2, p3, p4⟩ := g6
    have b6 : M6 b 8 = (v : Int) := by rw [p1 b (by rw [own_o hb (by decide)]; exact kd_ne hb ht (by decide)), f1 b (by rw [own_o hb (by decide)]; exact kd_ne hb hk (by decide)), h8]
    rw [b6] at g7
    have n0 := t0_ne hW ht
    have r7 : M7 (rf E (tr E b (slt s u)) 0) = M6 (rf E (tr E b (slt s u)) 0) := by rw [g7, mset_o n0]
    have F7 : Fo E M5 M7 (tr E b (slt s u)) := p1.trans (by rw [g7]; exact Fo_mset (own_o ht (by decide)))
    have kf7 : KF E M5 M7 [7] := F7.kf ht (by decide) rfl (by decide)
    refine ⟨⟨(kf5.mono (by decide)).trans (kf7.mono (by decide)), hV5.kf hW hb kf7 (by decide), hT5.new hW hb hj F7 (by rw [g7, mset_s]) (by rw [g7, mset_n (by decide), p2]) hu (by rw [r7, hsd]; exact p4)⟩, tt M7 (by rw [r7]; exact p4)⟩
  refine x_ct (by decide) (Nat.le_of_ble_eq_true rfl) (b_X9_traceOf_0 hW b s u M _ hb ⟨_, ct_slotOf hW hs ⟨by omega, by omega⟩, fun v1 M1 g1 => ?_⟩)
  obtain ⟨rfl, rfl⟩ := g1
  rw [Int.toNat_natCast]
  show _ ∧ (-2147483648 ≤ M1 (tr E b (slt s u)) 2 ∧ M1 (tr E b (slt s u)) 2 < 2147483648) ∧ _
  refine ⟨by omega, by omega, by omega, fun _ => mk, fun he => ?_⟩
  have he' : M1 (tr E b (slt s u)) 2 = M1 b 8 := he
  show (-2147483648 ≤ M1 (tr E b (slt s u)) 1 ∧ M1 (tr E b (slt s u)) 1 < 2147483648) ∧ _
  refine ⟨by omega, by omega, fun hwd => ⟨_, rfl, rfl, ⟨fun _ _ => rfl, hV, hT⟩, tt M1 ?_⟩, fun _ => mk⟩
  have hi := q3 (by rw [he', h8])
  have hwd' : M1 (tr E b (slt s u)) 1 = u := hwd
  rw [hwd', hsd] at hi
  exact hi
end
