/-! joinedCount, joined, placed: the reference's answers. -/
section
variable {E : fxE} {M : fxM}
theorem re_joinedCount (hW : fx_Wt E) {m : Nat} {w : Nat → Int} {u : Int} (hm : kd E m = 10) (hwe : M (rf E m 0) = w) (hw : wOk w) (hRC : RC E M m) (h2 : inR u) : CtI E m_X10_joinedCount [.inr m, .inl u] M (fun r M' => r = fJc w u ∧ RP E M M' m) := by
  refine x_ct (by decide) (Nat.le_of_ble_eq_true rfl) (b_X10_joinedCount_0 hW m u M _ hm ⟨h2, fun hu => ⟨_, ct_layJoins hW hm hwe hw hRC hu, fun M3 g3 => ⟨_, rfl, ?_, g3.1⟩⟩, fun hu => ⟨_, rfl, by rw [fJc, if_neg hu], RQ.rf', hRC⟩⟩)
  rw [g3.2.1, fJc, if_pos hu]
theorem re_joined (hW : fx_Wt E) {m : Nat} {w : Nat → Int} {u k j : Int} (hm : kd E m = 10) (hwe : M (rf E m 0) = w) (hw : wOk w) (hRC : RC E M m) (h2 : inR u) (h3 : inR k) (h4 : inR j) : CtI E m_X10_joined [.inr m, .inl u, .inl k, .inl j] M (fun r M' => r = fJd w u k j ∧ RP E M M' m) := by
  have bad : ¬ ((1 ≤ u ∧ u ≤ 9) ∧ 0 ≤ k ∧ (0 ≤ j ∧ j ≤ 3)) → (∃ x : Int, some (Sum.inl (-1000002) : fxV) = some (.inl x) ∧ x = fJd w u k j ∧ RP E M M m) := fun h => ⟨_, rfl, by rw [fJd, if_neg h], RQ.rf', hRC⟩
  refine x_ct (by decide) (Nat.le_of_ble_eq_true rfl) (b_X10_joined_0 hW m u k j M _ hm ⟨h2, fun hu => ⟨h3, fun hk => bad (fun z => by omega), fun hk => ⟨h4, fun hj => ⟨_, ct_layJoins hW hm hwe hw hRC hu, fun M6 g6 => ?_⟩, fun hj => bad (fun z => hj z.2.2)⟩⟩, fun hu => bad (fun z => hu z.1)⟩)
  obtain ⟨p6, c6, r6⟩ := g6
  have jo := jW_ok w u
  obtain ⟨q, rfl⟩ : ∃ q : Nat, k = (q : Int) := ⟨k.toNat, by omega⟩
  rw [c6]
  refine ⟨by omega, fun hlt => ?_, fun hge => ⟨_, rfl, by rw [fJd, if_pos ⟨hu, by omega, hj⟩, Int.toNat_natCast, List.getElem?_eq_none (by omega)], p6⟩⟩
  obtain ⟨p, hp⟩ : ∃ p, (jW w u)[q]? = some p := ⟨(jW w u)[q]'(by omega), List.getElem?_eq_getElem (by omega)⟩
  have e := r6 q p hp
  have pb := jo.2 p (List.mem_of_getElem? hp)
  have ef : fJd w u q j = jA w u j p := by rw [fJd, if_pos ⟨hu, by omega, hj⟩, Int.toNat_natCast, hp]
  rw [ef, show (2 * (q : Int)).toNat = 2 * q by omega, e.1]
  refine ⟨by omega, fun h2j => ⟨fun hne => ⟨by omega, _, rfl, ?_, p6⟩, fun heq => ⟨by omega, _, rfl, ?_, p6⟩⟩, fun h2j => ⟨by omega, _, rfl, ?_, p6⟩⟩
  · rw [show (7 * ((p.1 : Nat) : Int) + 5).toNat = 7 * p.1 + 5 by omega, e.2.2.2, jA, if_neg (by omega), if_neg (by omega), if_neg hne]
  · rw [Int.toNat_natCast, e.2.2.1, jA, if_neg (by omega), if_neg (by omega), if_pos heq]
  · rcases (show j = 0 ∨ j = 1 by omega) with rfl | rfl
    · rw [show (2 * (q : Int) + 0).toNat = 2 * q by omega, e.1, jA, if_pos rfl]
    · rw [show (2 * (q : Int) + 1).toNat = 2 * q + 1 by omega, e.2.1, jA, if_neg (by decide), if_pos rfl]
theorem re_placed (hW : fx_Wt E) {m : Nat} {w : Nat → Int} {u j : Int} (hm : kd E m = 10) (hwe : M (rf E m 0) = w) (hw : wOk w) (hRC : RC E M m) (h2 : inR u) (h4 : inR j) : CtI E m_X10_placed [.inr m, .inl u, .inl j] M (fun r M' => r = fPlc w u j ∧ RP E M M' m) := by
  have h0 := hw.1
  have h3 := hw.2.2.1
  have h1 := hw.tot1
  have bad : ¬ ((1 ≤ u ∧ u ≤ 9) ∧ (0 ≤ j ∧ j ≤ 2)) → (∃ x : Int, some (Sum.inl (-1000002) : fxV) = some (.inl x) ∧ x = fPlc w u j ∧ RP E M M m) := fun h => ⟨_, rfl, by rw [fPlc, if_neg h], RQ.rf', hRC⟩
  refine x_ct (by decide) (Nat.le_of_ble_eq_true rfl) (b_X10_placed_0 hW m u j M _ hm ⟨h2, fun hu => ⟨h4, fun hj => ⟨_, ct_firstEnd10 (σ := 0) hW hm hwe hw hRC (by decide) hu, fun v5 M5 g5 => ?_⟩, fun hj => bad (fun z => hj z.2)⟩, fun hu => bad (fun z => hu z.1)⟩)
  have fb : ∀ σ : Int, fEnd (trA w σ u) (w 58) (evW w σ u) = -1000005 ∨ (1 ≤ fEnd (trA w σ u) (w 58) (evW w σ u) ∧ fEnd (trA w σ u) (w 58) (evW w σ u) ≤ 400) := fun σ => by
    rcases fEnd_b (T := trA w σ u) (a := w 58) (evR_ok (trA w σ u) (w 58) (w 59)).1 with z | z
    · exact Or.inl z
    · exact Or.inr z
  have fb0 := fb 0
  have fb1 := fb 1
  have b0 := rte_b hw 0 (fEnd (trA w 0 u) (w 58) (evW w 0 u))
  have b1 := rte_b hw 1 (fEnd (trA w 1 u) (w 58) (evW w 1 u))
  obtain ⟨e5, p5⟩ := g5
  rw [e5]
  have ef : fPlc w u j = if j = 0 then rte w 0 (fEnd (trA w 0 u) (w 58) (evW w 0 u)) else if j = 1 then rte w 1 (fEnd (trA w 1 u) (w 58) (evW w 1 u)) else if rte w 0 (fEnd (trA w 0 u) (w 58) (evW w 0 u)) = -1000005 ∨ rte w 1 (fEnd (trA w 1 u) (w 58) (evW w 1 u)) = -1000005 then -1000005 else rte w 1 (fEnd (trA w 1 u) (w 58) (evW w 1 u)) - rte w 0 (fEnd (trA w 0 u) (w 58) (evW w 0 u)) := by
    rw [fPlc, if_pos ⟨hu, hj⟩]
  have r0 : ∀ e : Int, ¬ e = -1000005 → 0 ≤ e → rte w 0 e = rtG w e (wn w) := fun e a b => by rw [rte, if_neg a, if_pos rfl, if_pos b]
  have e1 : ∀ e : Int, (if (1 : Int) = 0 then e else tot w - e) = tot w - e := fun e => if_neg (by decide)
  have r1 : ∀ e : Int, ¬ e = -1000005 → e ≤ tot w → rte w 1 e = rtG w (tot w - e) (wn w) := fun e a b => by rw [rte, e1, if_neg a, if_pos (by omega)]
  have r1n : ∀ e : Int, ¬ e ≤ tot w → rte w 1 e = -1000005 := fun e b => by
    rw [rte, e1]
    by_cases a : e = -1000005
    · rw [if_pos a]
    · rw [if_neg a, if_neg (by omega)]
  have rN : ∀ σ : Int, rte w σ (-1000005) = -1000005 := fun σ => by rw [rte, if_pos rfl]
  obtain ⟨F0, hF0⟩ : ∃ F, fEnd (trA w 0 u) (w 58) (evW w 0 u) = F := ⟨_, rfl⟩
  obtain ⟨F1, hF1⟩ : ∃ F, fEnd (trA w 1 u) (w 58) (evW w 1 u) = F := ⟨_, rfl⟩
  rw [hF0] at fb0 b0 ef ⊢
  rw [hF1] at fb1 b1 ef
  rw [ef]
  have at83 : ∀ (x3 s0 : Int) (M1 : fxM), RP E M M1 m → s0 = rte w 1 F1 → fx_At E m_X10_placed 83 [some (.inr m), some (.inl u), some (.inl j), some (.inl x3), some (.inl (rte w 0 F0)), none] [.inl s0] M1 (fun r M' => ∃ x : Int, r = some (.inl x) ∧ x = (if j = 0 then rte w 0 F0 else if j = 1 then rte w 1 F1 else if rte w 0 F0 = -1000005 ∨ rte w 1 F1 = -1000005 then -1000005 else rte w 1 F1 - rte w 0 F0) ∧ RP E M M' m) := by
    intro x3 s0 M1 p1 hs
    subst hs
    refine b_X10_placed_83 hW m _ _ _ _ _ M1 _ hm ⟨h4, fun h2j => ⟨by omega, fun ha => ⟨_, rfl, by rw [if_neg (by omega), if_neg (by omega), if_pos (Or.inl ha)], p1⟩, fun ha => ⟨by omega, fun hb => ⟨_, rfl, by rw [if_neg (by omega), if_neg (by omega), if_neg (fun z => z.elim ha hb)], p1⟩, fun hb => ⟨_, rfl, by rw [if_neg (by omega), if_neg (by omega), if_pos (Or.inr hb)], p1⟩⟩⟩, fun h2j => ⟨fun hj0 => ⟨_, rfl, by rw [if_neg hj0, if_pos (by omega)], p1⟩, fun hj0 => ⟨_, rfl, by rw [if_pos hj0], p1⟩⟩⟩
  have at45 : ∀ (x3 s0 : Int) (M1 : fxM), RP E M M1 m → s0 = rte w 0 F0 → fx_At E m_X10_placed 45 [some (.inr m), some (.inl u), some (.inl j), some (.inl x3), none, none] [.inl s0] M1 (fun r M' => ∃ x : Int, r = some (.inl x) ∧ x = (if j = 0 then rte w 0 F0 else if j = 1 then rte w 1 F1 else if rte w 0 F0 = -1000005 ∨ rte w 1 F1 = -1000005 then -1000005 else rte w 1 F1 - rte w 0 F0) ∧ RP E M M' m) := by
    intro x3 s0 M1 p1 hs
    subst hs
    have w1 : M1 (rf E m 0) = w := by rw [p1.1.2.1.1, hwe]
    refine b_X10_placed_45 hW m _ _ _ _ M1 _ hm ⟨_, ct_firstEnd10 (σ := 1) hW hm w1 hw p1.2 (by decide) hu, fun v1 M2 g1 => ?_⟩
    obtain ⟨e1, p2⟩ := g1
    rw [hF1] at e1
    have p12 := p1.trans p2
    have w2 : M2 (rf E m 0) = w := by rw [p12.1.2.1.1, hwe]
    rw [e1, w2, ws_tot hw]
    refine ⟨by omega, fun hn => at83 _ _ M2 p12 (by rw [hn, rN]), fun hn => ⟨by omega, by omega, fun hle => ⟨_, ct_onRoute hW hm (by rw [w2]; exact hw) (by omega), fun v5 M5 g5 => ?_⟩, fun hgt => at83 _ _ M2 p12 (by rw [r1n F1 hgt])⟩⟩
    rw [w2] at g5
    rw [g5.2]
    exact at83 _ _ M2 p12 (by rw [g5.1, r1 F1 hn hle])
  have w5 : M5 (rf E m 0) = w := by rw [p5.1.2.1.1, hwe]
  refine ⟨by omega, fun hn => ⟨_, ct_onRoute hW hm (by rw [w5]; exact hw) (by omega), fun v7 M7 g7 => ?_⟩, fun hn => at45 _ _ M5 p5 (by rw [hn, rN])⟩
  rw [w5] at g7
  rw [g7.2]
  exact at45 _ _ M5 p5 (by rw [g7.1, r0 F0 hn (by omega)])
end
