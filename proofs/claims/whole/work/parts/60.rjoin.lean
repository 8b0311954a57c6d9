/-! joinedCount, joined, placed: the reference. -/
section
variable {E : fxE} {M : fxM}
/-- only joins and events have changed -/
def JS (E : fxE) (M M' : fxM) (m : Nat) : Prop := (∀ c, c ≠ m → c ≠ rf E m 15 → c ≠ rf E m 17 → c ≠ rf E m 18 → M' c = M c) ∧ ∀ k, k ≠ 19 → M' m k = M m k
theorem JS.rp (hW : fx_Wt E) {M' : fxM} {m : Nat} (hm : kd E m = 10) (hC : RC E M m) (h : JS E M M' m) : RP E M M' m := by
  obtain ⟨h1, h2⟩ := h
  have g : ∀ k, (lay 10)[k]? = some true → k ≠ 15 → k ≠ 17 → k ≠ 18 → M' (rf E m k) = M (rf E m k) := fun k hk a b c => h1 _ (mnr hW hm hk).symm (mne hW hm hk rfl a) (mne hW hm hk rfl b) (mne hW hm hk rfl c)
  refine ⟨⟨fun c hc => h1 c (on_m (k := 15) hW hm rfl hc).1 (on_m (k := 15) hW hm rfl hc).2 (on_m (k := 17) hW hm rfl hc).2 (on_m (k := 18) hW hm rfl hc).2, ⟨g 0 rfl (by decide) (by decide) (by decide), g 1 rfl (by decide) (by decide) (by decide), g 5 rfl (by decide) (by decide) (by decide)⟩, h2 2 (by decide), h2 6 (by decide), h2 7 (by decide), h2 8 (by decide)⟩, ?_⟩
  unfold RC at hC ⊢
  rw [h2 3 (by decide), h2 4 (by decide), g 0 rfl (by decide) (by decide) (by decide), g 13 rfl (by decide) (by decide) (by decide)]
  exact hC
theorem JS.trans {M' M'' : fxM} {m : Nat} (h : JS E M M' m) (h' : JS E M' M'' m) : JS E M M'' m := ⟨fun c a b d e => (h'.1 c a b d e).trans (h.1 c a b d e), fun k a => (h'.2 k a).trans (h.2 k a)⟩
theorem lsL_at {T : Int → Int} {a : Int} {L : List (Nat × Nat)} {i : Nat} {p : Nat × Nat} (h : L[i]? = some p) : lsL T a L i = eLs T a p := by unfold lsL; rw [h]
/-- the pairs joined so far -/
def RJ (E : fxE) (M : fxM) (m : Nat) (T0 T1 : Int → Int) (a : Int) (L0 L1 : List (Nat × Nat)) (P : List (Nat × Nat)) : Prop := M m 19 = ((P.length : Nat) : Int) ∧ ∀ i q, P[i]? = some q → M (rf E m 17) (2 * i) = (q.1 : Int) ∧ M (rf E m 17) (2 * i + 1) = (q.2 : Int) ∧ M (rf E m 18) q.1 = lsL T0 a L0 q.1 + lsL T1 a L1 q.2 ∧ M (rf E m 15) (7 * q.1 + 5) = lsL T0 a L0 q.1 - lsL T1 a L1 q.2
theorem ct_layJoins (hW : fx_Wt E) {m : Nat} {w : Nat → Int} {u : Int} (hm : kd E m = 10) (hwe : M (rf E m 0) = w) (hw : wOk w) (hRC : RC E M m) (hub : 1 ≤ u ∧ u ≤ 9) : CtV E m_X10_layJoins [.inr m, .inl u] M (fun M' => RP E M M' m ∧ RJ E M' m (trA w 0 u) (trA w 1 u) (w 58) (evW w 0 u) (evW w 1 u) (jW w u)) := by
  have h0 := hw.1
  have h3 := hw.2.2.1
  have h1 := hw.tot1
  have w60 := hw.2.2.2.2.2.2.2.2.1 2 (by decide)
  have hsv : sv 0 2 = 0 ∧ sv 1 2 = 20 := ⟨rfl, rfl⟩
  rw [show 58 + 2 = 60 from rfl] at w60
  obtain ⟨T0, hT0⟩ : ∃ T, trA w 0 u = T := ⟨_, rfl⟩
  obtain ⟨T1, hT1⟩ : ∃ T, trA w 1 u = T := ⟨_, rfl⟩
  obtain ⟨L0, hL0e⟩ : ∃ L, evW w 0 u = L := ⟨_, rfl⟩
  obtain ⟨L1, hL1e⟩ : ∃ L, evW w 1 u = L := ⟨_, rfl⟩
  have hL0 : RunOk 1 L0 ∧ L0.length ≤ 200 := by rw [← hL0e]; exact evR_ok _ _ _
  have hL1 : RunOk 1 L1 ∧ L1.length ≤ 200 := by rw [← hL1e]; exact evR_ok _ _ _
  have hjW : jW w u = pG T0 T1 (w 58) L0 L1 (tot w) (w 60) L0.length 0 [] := by rw [← hT0, ← hT1, ← hL0e, ← hL1e]; rfl
  rw [hjW, hT0, hT1, hL0e, hL1e]
  have n1517 : rf E m 15 ≠ rf E m 17 := mne hW hm rfl rfl (by decide)
  have n1518 : rf E m 15 ≠ rf E m 18 := mne hW hm rfl rfl (by decide)
  have n1718 : rf E m 17 ≠ rf E m 18 := mne hW hm rfl rfl (by decide)
  have n015 : rf E m 0 ≠ rf E m 15 := mne hW hm rfl rfl (by decide)
  have n017 : rf E m 0 ≠ rf E m 17 := mne hW hm rfl rfl (by decide)
  have n018 : rf E m 0 ≠ rf E m 18 := mne hW hm rfl rfl (by decide)
  have nm15 := mnr (k := 15) hW hm rfl
  have nm17 := mnr (k := 17) hW hm rfl
  have nm18 := mnr (k := 18) hW hm rfl
  refine x_ct (by decide) (Nat.le_of_ble_eq_true rfl) (b_X10_layJoins_0 hW m u M _ hm ⟨_, ct_layEvents (σ := 0) hW hm hwe hw hRC (by decide) hub, fun M1 g1 => ?_⟩)
  rw [hT0, hL0e] at g1
  obtain ⟨p1, v1, -⟩ := g1
  have c1 : M1 m 16 = ((L0.length : Nat) : Int) := by rw [v1.1, Nat.zero_add]
  refine ⟨_, ct_addEvents (σ := 1) hW hm (by rw [p1.1.2.1.1, hwe]) hw p1.2 (by decide) hub c1 hL0.2, fun M2 g2 M3 g3 => ?_⟩
  rw [hT1, hL1e] at g2
  obtain ⟨p2, v2, -, o2⟩ := g2
  have p12 := p1.trans p2
  have w2 : M2 (rf E m 0) = w := by rw [p12.1.2.1.1, hwe]
  rw [c1]
  -- the events of both sides, as they lie
  have ev0 : ∀ i p, L0[i]? = some p → M2 (rf E m 15) (7 * i) = (p.1 : Int) ∧ M2 (rf E m 15) (7 * i + 2) = eKd T0 (w 58) p ∧ M2 (rf E m 15) (7 * i + 3) = eLs T0 (w 58) p := fun i p hp => by
    have hi := (List.getElem?_eq_some_iff.mp hp).1
    have e := v1.2 i p hp
    rw [Nat.zero_add] at e
    rw [o2 _ (by omega), o2 _ (by omega), o2 _ (by omega)]
    exact ⟨e.1, e.2.2.1, e.2.2.2.1⟩
  have ev1 : ∀ i p, L1[i]? = some p → M2 (rf E m 15) (7 * (L0.length + i)) = (p.1 : Int) ∧ M2 (rf E m 15) (7 * (L0.length + i) + 2) = eKd T1 (w 58) p ∧ M2 (rf E m 15) (7 * (L0.length + i) + 3) = eLs T1 (w 58) p := fun i p hp => by
    have e := v2.2 i p hp
    exact ⟨e.1, e.2.2.1, e.2.2.2.1⟩
  have c2 : M2 m 16 = ((L0.length + L1.length : Nat) : Int) := v2.1
  -- the invariant of the loop over side 0
  have at47 : ∀ (n k : Nat) (P : List (Nat × Nat)) (M4 : fxM), k + n = L0.length → P.length ≤ k → (∀ q, q ∈ P → q.1 < k ∧ q.2 < L1.length) → JS E M2 M4 m → (∀ j, (∀ a, a < L0.length → j ≠ 7 * a + 5) → M4 (rf E m 15) j = M2 (rf E m 15) j) → RJ E M4 m T0 T1 (w 58) L0 L1 P → (∀ b, b < L1.length → (M4 (rf E m 18) (L0.length + b) = 0 ∨ M4 (rf E m 18) (L0.length + b) = 1) ∧ (M4 (rf E m 18) (L0.length + b) = 1 ↔ ∃ q, q ∈ P ∧ q.2 = b)) → fx_At E m_X10_layJoins 47 [some (.inr m), some (.inl u), some (.inl ((L0.length : Nat) : Int)), some (.inl (k : Int)), none, none, none, none] [] M4 (fun r M' => r = none ∧ RP E M M' m ∧ RJ E M' m T0 T1 (w 58) L0 L1 (pG T0 T1 (w 58) L0 L1 (tot w) (w 60) n k P)) := by
    intro n
    induction n with
    | zero =>
      intro k P M4 hk hPk hPb hJ h15 hR hTk
      exact b_X10_layJoins_47 hW m _ _ _ M4 _ hm ⟨by omega, by omega, fun _ => ⟨rfl, p12.trans (hJ.rp hW hm p12.2), hR⟩, fun z => absurd (by omega) z⟩
    | succ n ih =>
      intro k P M4 hk hPk hPb hJ h15 hR hTk
      obtain ⟨p, hp⟩ : ∃ p, L0[k]? = some p := ⟨L0[k]'(by omega), List.getElem?_eq_getElem (by omega)⟩
      have hpb := hL0.1.at hp
      have e0 := ev0 k p hp
      have ep : pG T0 T1 (w 58) L0 L1 (tot w) (w 60) (n + 1) k P = if eKd T0 (w 58) p = 2 ∨ ptG T1 (w 58) L1 (tot w) (w 60) P (p.1 : Int) L1.length 0 = -1000005 then pG T0 T1 (w 58) L0 L1 (tot w) (w 60) n (k + 1) P else pG T0 T1 (w 58) L0 L1 (tot w) (w 60) n (k + 1) (P ++ [(k, (ptG T1 (w 58) L1 (tot w) (w 60) P (p.1 : Int) L1.length 0).toNat)]) := by
        rw [pG, hp]
      rw [ep]
      have w4 : M4 (rf E m 0) = w := by rw [hJ.1 _ (mnr hW hm rfl).symm n015 n017 n018, w2]
      have c4 : M4 m 16 = ((L0.length + L1.length : Nat) : Int) := by rw [hJ.2 16 (by decide), c2]
      have k0 : M4 (rf E m 15) (7 * k) = (p.1 : Int) := by rw [h15 _ (fun a _ => by omega), e0.1]
      have k2 : M4 (rf E m 15) (7 * k + 2) = eKd T0 (w 58) p := by rw [h15 _ (fun a _ => by omega), e0.2.1]
      have k3 : M4 (rf E m 15) (7 * k + 3) = eLs T0 (w 58) p := by rw [h15 _ (fun a _ => by omega), e0.2.2]
      have kb := eKd_b (T := T0) (a := w 58) (p := p)
      have skip : fx_At E m_X10_layJoins 47 [some (.inr m), some (.inl u), some (.inl ((L0.length : Nat) : Int)), some (.inl ((k : Int) + 1)), none, none, none, none] [] M4 (fun r M' => r = none ∧ RP E M M' m ∧ RJ E M' m T0 T1 (w 58) L0 L1 (pG T0 T1 (w 58) L0 L1 (tot w) (w 60) n (k + 1) P)) := ih (k + 1) P M4 (by omega) (by omega) (fun q hq => by have := hPb q hq; omega) hJ h15 hR hTk
      have at64 : ∀ (b : Nat), b ≤ L1.length → ∀ x4 : Int, x4 = (if ptG T1 (w 58) L1 (tot w) (w 60) P (p.1 : Int) (L1.length - b) b = -1000005 then -1000005 else ((L0.length : Nat) : Int) + ptG T1 (w 58) L1 (tot w) (w 60) P (p.1 : Int) (L1.length - b) b) → fx_At E m_X10_layJoins 64 [some (.inr m), some (.inl u), some (.inl ((L0.length : Nat) : Int)), some (.inl (k : Int)), some (.inl x4), some (.inl (((L0.length + b : Nat) : Int) - 1)), none, none] [] M4 (fun r M' => r = none ∧ RP E M M' m ∧ RJ E M' m T0 T1 (w 58) L0 L1 (if eKd T0 (w 58) p = 2 ∨ ptG T1 (w 58) L1 (tot w) (w 60) P (p.1 : Int) L1.length 0 = -1000005 then pG T0 T1 (w 58) L0 L1 (tot w) (w 60) n (k + 1) P else pG T0 T1 (w 58) L0 L1 (tot w) (w 60) n (k + 1) (P ++ [(k, (ptG T1 (w 58) L1 (tot w) (w 60) P (p.1 : Int) L1.length 0).toNat)]))) := by
        intro b
        induction b with
        | zero =>
          intro hb x4 hx4
          rw [Nat.sub_zero] at hx4
          have pb := ptG_b (T := T1) (a := w 58) (L := L1) (t := tot w) (tl := w 60) (P := P) (s := (p.1 : Int)) L1.length 0
          refine b_X10_layJoins_64 hW m _ _ _ _ _ M4 _ hm ?_
          rw [show (7 * (k : Int) + 2).toNat = 7 * k + 2 by omega, k2]
          refine ⟨by omega, by omega, fun _ => ⟨by omega, by omega, fun hk2 => ?_, fun hk2 => ?_⟩, fun z => absurd (by omega) z⟩
          · rw [if_pos (Or.inl (by omega))]; exact skip
          · by_cases hN : ptG T1 (w 58) L1 (tot w) (w 60) P (p.1 : Int) L1.length 0 = -1000005
            · rw [if_pos hN] at hx4
              rw [if_pos (Or.inr hN)]
              exact ⟨by omega, fun _ => skip, fun z => absurd hx4 z⟩
            · rw [if_neg hN] at hx4
              rw [if_neg (fun z => z.elim (fun z => by omega) hN)]
              obtain ⟨c, hc⟩ : ∃ c : Nat, ptG T1 (w 58) L1 (tot w) (w 60) P (p.1 : Int) L1.length 0 = (c : Int) := ⟨(ptG T1 (w 58) L1 (tot w) (w 60) P (p.1 : Int) L1.length 0).toNat, by omega⟩
              rw [hc, Int.toNat_natCast]
              rw [hc] at hx4 pb
              have hc1 : c < L1.length := by omega
              obtain ⟨q, hq⟩ : ∃ q, L1[c]? = some q := ⟨L1[c]'hc1, List.getElem?_eq_getElem hc1⟩
              have f3 : M4 (rf E m 15) (7 * (L0.length + c) + 3) = eLs T1 (w 58) q := by rw [h15 _ (fun a _ => by omega), (ev1 c q hq).2.2]
              have hx : x4 = ((L0.length + c : Nat) : Int) := by omega
              rw [hx]
              rw [Int.toNat_natCast, show (7 * (k : Int) + 3).toNat = 7 * k + 3 by omega, show (7 * (k : Int) + 5).toNat = 7 * k + 5 by omega, show (7 * ((L0.length + c : Nat) : Int) + 3).toNat = 7 * (L0.length + c) + 3 by omega, Int.toNat_natCast]
              refine ⟨by omega, fun z => absurd z (by omega), fun _ => ⟨by omega, fun N7 a7 => ?_⟩⟩
              have d7 : N7 m 19 = ((P.length : Nat) : Int) := by rw [a7, mset_o nm18, hR.1]
              rw [d7, show (2 * ((P.length : Nat) : Int)).toNat = 2 * P.length by omega]
              refine ⟨by omega, fun N9 a9 => ?_⟩
              have d9 : N9 m 19 = ((P.length : Nat) : Int) := by rw [a9, mset_o nm17, d7]
              rw [d9, show (2 * ((P.length : Nat) : Int) + 1).toNat = 2 * P.length + 1 by omega]
              refine ⟨by omega, fun N11 a11 => ⟨by omega, by omega, by omega, fun N15 a15 => ⟨by omega, fun N17 a17 N18 a18 => ?_⟩⟩⟩
              have r15 : N11 (rf E m 15) = M4 (rf E m 15) := by rw [a11, mset_o n1517, a9, mset_o n1517, a7, mset_o n1518]
              have r15' : N15 (rf E m 15) = M4 (rf E m 15) := by rw [a15, mset_o n1518, r15]
              rw [r15, k3, f3] at a15
              rw [r15', k3, f3] at a17
              have d17 : N17 m 19 = ((P.length : Nat) : Int) := by rw [a17, mset_o nm15, a15, mset_o nm18, a11, mset_o nm17, d9]
              rw [d17] at a18
              have R17 : ∀ j, N18 (rf E m 17) j = if j = 2 * P.length + 1 then (c : Int) else if j = 2 * P.length then (k : Int) else M4 (rf E m 17) j := fun j => by
                rw [a18, mset_o nm17.symm, a17, mset_o n1517.symm, a15, mset_o n1718, a11, mset_a, a9, mset_a, a7, mset_o n1718]
                rw [show ((L0.length + c : Nat) : Int) - ((L0.length : Nat) : Int) = (c : Int) by omega]
              have R18 : ∀ j, N18 (rf E m 18) j = if j = k then eLs T0 (w 58) p + eLs T1 (w 58) q else if j = L0.length + c then 1 else M4 (rf E m 18) j := fun j => by
                rw [a18, mset_o nm18.symm, a17, mset_o n1518.symm, a15, mset_a, a11, mset_o n1718.symm, a9, mset_o n1718.symm, a7, mset_a]
              have R15 : ∀ j, N18 (rf E m 15) j = if j = 7 * k + 5 then eLs T0 (w 58) p - eLs T1 (w 58) q else M4 (rf E m 15) j := fun j => by
                rw [a18, mset_o nm15.symm, a17, mset_a, r15']
              refine ih (k + 1) (P ++ [(k, c)]) N18 (by omega) (by rw [List.length_append, List.length_singleton]; omega) (fun x hx => ?_) (hJ.trans ⟨fun z a b d e => by rw [a18, mset_o a, a17, mset_o b, a15, mset_o e, a11, mset_o d, a9, mset_o d, a7, mset_o e], fun z hz => by rw [a18, mset_n hz, a17, mset_o nm15, a15, mset_o nm18, a11, mset_o nm17, a9, mset_o nm17, a7, mset_o nm18]⟩) (fun j hj => ?_) ⟨?_, fun i x hx => ?_⟩ (fun b hb => ?_)
              · rcases List.mem_append.mp hx with hx | hx
                · have := hPb x hx; omega
                · have : x = (k, c) := by simpa using hx
                  subst this
                  exact ⟨by dsimp only; omega, hc1⟩
              · rw [R15, if_neg (hj k (by omega))]; exact h15 j hj
              · rw [a18, mset_s, List.length_append, List.length_singleton]; omega
              · rcases app_at hx with ⟨hi, hx⟩ | ⟨hi, rfl⟩
                · have hxb := hPb x (List.mem_of_getElem? hx)
                  rw [R17, R17, R18, R15, if_neg (by omega), if_neg (by omega), if_neg (by omega), if_neg (by omega), if_neg (by omega), if_neg (by omega), if_neg (by omega)]
                  exact hR.2 i x hx
                · subst hi
                  dsimp only
                  rw [R17, R17, R18, R15, if_neg (by omega), if_pos rfl, if_pos rfl, if_pos rfl, if_pos rfl, lsL_at hp, lsL_at hq]
                  exact ⟨rfl, rfl, rfl, rfl⟩
              · rw [R18, if_neg (by omega)]
                by_cases hbc : b = c
                · subst hbc
                  rw [if_pos rfl]
                  exact ⟨Or.inr rfl, fun _ => ⟨(k, b), by simp, rfl⟩, fun _ => rfl⟩
                · rw [if_neg (by omega)]
                  refine ⟨(hTk b hb).1, fun h => ?_, fun h => (hTk b hb).2.mpr ?_⟩
                  · obtain ⟨x, x1, x2⟩ := (hTk b hb).2.mp h
                    exact ⟨x, by simp [x1], x2⟩
                  · obtain ⟨x, x1, x2⟩ := h
                    rcases List.mem_append.mp x1 with x1 | x1
                    · exact ⟨x, x1, x2⟩
                    · have : x = (k, c) := by simpa using x1
                      subst this
                      exact absurd x2.symm hbc
        | succ b ihb =>
          intro hb x4 hx4
          obtain ⟨q, hq⟩ : ∃ q, L1[b]? = some q := ⟨L1[b]'(by omega), List.getElem?_eq_getElem (by omega)⟩
          have hqb := hL1.1.at hq
          have f := ev1 b q hq
          have kb1 := eKd_b (T := T1) (a := w 58) (p := q)
          have f0 : M4 (rf E m 15) (7 * (L0.length + b)) = (q.1 : Int) := by rw [h15 _ (fun a _ => by omega), f.1]
          have f2 : M4 (rf E m 15) (7 * (L0.length + b) + 2) = eKd T1 (w 58) q := by rw [h15 _ (fun a _ => by omega), f.2.1]
          have tk := hTk b (by omega)
          have pe : ptG T1 (w 58) L1 (tot w) (w 60) P (p.1 : Int) (L1.length - b) b = @ite Int (jok T1 (w 58) L1 (tot w) (w 60) P (p.1 : Int) b) (Classical.propDecidable _) (b : Int) (ptG T1 (w 58) L1 (tot w) (w 60) P (p.1 : Int) (L1.length - (b + 1)) (b + 1)) := by
            rw [show L1.length - b = (L1.length - (b + 1)) + 1 by omega, ptG]
          have no : ¬ jok T1 (w 58) L1 (tot w) (w 60) P (p.1 : Int) b → fx_At E m_X10_layJoins 64 [some (.inr m), some (.inl u), some (.inl ((L0.length : Nat) : Int)), some (.inl (k : Int)), some (.inl x4), some (.inl (((L0.length + (b + 1) : Nat) : Int) - 1 + -1)), none, none] [] M4 (fun r M' => r = none ∧ RP E M M' m ∧ RJ E M' m T0 T1 (w 58) L0 L1 (if eKd T0 (w 58) p = 2 ∨ ptG T1 (w 58) L1 (tot w) (w 60) P (p.1 : Int) L1.length 0 = -1000005 then pG T0 T1 (w 58) L0 L1 (tot w) (w 60) n (k + 1) P else pG T0 T1 (w 58) L0 L1 (tot w) (w 60) n (k + 1) (P ++ [(k, (ptG T1 (w 58) L1 (tot w) (w 60) P (p.1 : Int) L1.length 0).toNat)]))) := fun hn => by
            rw [show ((L0.length + (b + 1) : Nat) : Int) - 1 + -1 = ((L0.length + b : Nat) : Int) - 1 by omega]
            refine ihb (by omega) x4 ?_
            rw [pe, if_neg hn]
            exact hx4
          have pbn := ptG_b (T := T1) (a := w 58) (L := L1) (t := tot w) (tl := w 60) (P := P) (s := (p.1 : Int)) (L1.length - (b + 1)) (b + 1)
          refine b_X10_layJoins_64 hW m _ _ _ _ _ M4 _ hm ?_
          have ex : ((L0.length + (b + 1) : Nat) : Int) - 1 = ((L0.length + b : Nat) : Int) := by omega
          rw [show (7 * (((L0.length + (b + 1) : Nat) : Int) - 1) + 0).toNat = 7 * (L0.length + b) by omega, show (7 * (((L0.length + (b + 1) : Nat) : Int) - 1) + 2).toNat = 7 * (L0.length + b) + 2 by omega, show (((L0.length + (b + 1) : Nat) : Int) - 1).toNat = L0.length + b by omega, show (7 * (k : Int) + 0).toNat = 7 * k by omega, k0, f0, f2, w4, ws_tot hw]
          refine ⟨by omega, by omega, fun z => absurd z (by omega), fun _ => ⟨by omega, by omega, by omega, by omega, by omega, fun hk2 => no (fun z => ?_), fun hk2 => ⟨by omega, ?_, fun ht1 => no (fun z => ?_), fun ht0 => ⟨by omega, by omega, by omega, fun hin => ?_, fun hin => no (fun z => ?_)⟩⟩⟩⟩
          · obtain ⟨⟨q', hq', hne, _⟩, _⟩ := z
            rw [hq] at hq'
            cases hq'
            omega
          · obtain ⟨t1, -⟩ := tk
            omega
          · obtain ⟨t1, t2⟩ := tk
            have : M4 (rf E m 18) (L0.length + b) = 1 := by omega
            exact z.2 (t2.mp this)
          · have hj : jok T1 (w 58) L1 (tot w) (w 60) P (p.1 : Int) b := ⟨⟨q, hq, by omega, hin⟩, fun z => by
              have := tk.2.mpr z
              omega⟩
            rw [show ((L0.length + (b + 1) : Nat) : Int) - 1 + -1 = ((L0.length + b : Nat) : Int) - 1 by omega, ex]
            refine ihb (by omega) _ ?_
            rw [pe, if_pos hj, if_neg (by omega)]
            omega
          · obtain ⟨⟨q', hq', _, hr⟩, _⟩ := z
            rw [hq] at hq'
            cases hq'
            exact hin hr
      refine b_X10_layJoins_47 hW m _ _ _ M4 _ hm ?_
      rw [c4]
      refine ⟨by omega, by omega, fun z => absurd z (by omega), fun _ => at64 L1.length (Nat.le_refl _) _ ?_⟩
      rw [Nat.sub_self, ptG, if_pos rfl]
  have at24 : ∀ (n x : Nat) (M4 : fxM), x + n = L0.length + L1.length → JS E M2 M4 m → M4 (rf E m 15) = M2 (rf E m 15) → M4 m 19 = 0 → (∀ j, j < x → M4 (rf E m 18) j = 0) → fx_At E m_X10_layJoins 24 [some (.inr m), some (.inl u), some (.inl ((L0.length : Nat) : Int)), some (.inl (x : Int)), none, none, none, none] [] M4 (fun r M' => r = none ∧ RP E M M' m ∧ RJ E M' m T0 T1 (w 58) L0 L1 (pG T0 T1 (w 58) L0 L1 (tot w) (w 60) L0.length 0 [])) := by
    intro n
    induction n with
    | zero =>
      intro x M4 hx hJ h15 h19 hz
      refine b_X10_layJoins_24 hW m _ _ _ M4 _ hm ?_
      rw [hJ.2 16 (by decide), c2]
      refine ⟨by omega, by omega, fun _ => ?_, fun z => absurd (by omega) z⟩
      refine at47 L0.length 0 [] M4 (by omega) (by simp) (fun q hq => by simp at hq) hJ (fun j _ => by rw [h15]) ⟨h19, fun i q hq => by simp at hq⟩ (fun b hb => ?_)
      rw [hz _ (by omega)]
      exact ⟨Or.inl rfl, fun z => absurd z (by decide), fun ⟨q, hq, _⟩ => by simp at hq⟩
    | succ n ih =>
      intro x M4 hx hJ h15 h19 hz
      refine b_X10_layJoins_24 hW m _ _ _ M4 _ hm ?_
      rw [hJ.2 16 (by decide), c2, Int.toNat_natCast]
      refine ⟨by omega, by omega, fun z => absurd z (by omega), fun _ => ⟨by omega, fun M5 g5 => ?_⟩⟩
      refine ih (x + 1) M5 (by omega) (hJ.trans ⟨fun z a b d e => by rw [g5, mset_o e], fun z hz => by rw [g5, mset_o nm18]⟩) (by rw [g5, mset_o n1518, h15]) (by rw [g5, mset_o nm18, h19]) (fun j hj => ?_)
      rw [g5]
      by_cases hjx : j = x
      · rw [hjx, mset_s]
      · rw [mset_n hjx]; exact hz j (by omega)
  exact at24 (L0.length + L1.length) 0 M3 (by omega) ⟨fun z a b d e => by rw [g3, mset_o a], fun z hz => by rw [g3, mset_n hz]⟩ (by rw [g3, mset_o nm15.symm]) (by rw [g3, mset_s]) (fun j hj => absurd hj (by omega))
end
