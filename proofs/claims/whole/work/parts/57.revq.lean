/-! events, event, ghosts, endSeen: the reference. -/
section
variable {E : fxE} {M : fxM}
/-- all of the events lie, from the f-th place on -/
def RvA (E : fxE) (M : fxM) (m f : Nat) (T : Int → Int) (a : Int) (L : List (Nat × Nat)) : Prop := RvI E M m f T a L ∧ ∀ i p, L[i]? = some p → M (rf E m 15) (7 * (f + i) + 5) = ghN T a L i p ∧ M (rf E m 15) (7 * (f + i) + 6) = ghO T a L i p
theorem ct_layEvents (hW : fx_Wt E) {m : Nat} {w : Nat → Int} {σ u : Int} (hm : kd E m = 10) (hwe : M (rf E m 0) = w) (hw : wOk w) (hRC : RC E M m) (hσ : 0 ≤ σ ∧ σ ≤ 1) (hub : 1 ≤ u ∧ u ≤ 9) : CtV E m_X10_layEvents [.inr m, .inl σ, .inl u] M (fun M' => RP E M M' m ∧ RvA E M' m 0 (trA w σ u) (w 58) (evW w σ u)) := by
  refine x_ct (by decide) (Nat.le_of_ble_eq_true rfl) (b_X10_layEvents_0 hW m σ u M _ hm (fun M1 g1 => ?_))
  have p1 : RP E M M1 m := RP_set hW hm (by decide) hRC g1
  refine ⟨_, ct_addEvents (f := 0) hW hm (by rw [p1.1.2.1.1, hwe]) hw p1.2 hσ hub (by rw [g1, mset_s]; rfl) (by decide), fun M2 g2 => ⟨rfl, p1.trans g2.1, g2.2.1, g2.2.2.1⟩⟩
theorem re_events (hW : fx_Wt E) {m : Nat} {w : Nat → Int} {σ u : Int} (hm : kd E m = 10) (hwe : M (rf E m 0) = w) (hw : wOk w) (hRC : RC E M m) (h1 : inR σ) (h2 : inR u) : CtI E m_X10_events [.inr m, .inl σ, .inl u] M (fun r M' => r = fEvs w σ u ∧ RP E M M' m) := by
  refine x_ct (by decide) (Nat.le_of_ble_eq_true rfl) (b_X10_events_0 hW m σ u M _ hm ⟨h1, h2, fun ht => ⟨_, ct_layEvents hW hm hwe hw hRC ht.1 ht.2, fun M4 g4 => ⟨_, rfl, ?_, g4.1⟩⟩, fun ht => ⟨_, rfl, by rw [fEvs, if_neg (c := okT σ u) ht], RQ.rf', hRC⟩⟩)
  rw [g4.2.1.1, fEvs, if_pos (c := okT σ u) ht, Nat.zero_add]
theorem re_event (hW : fx_Wt E) {m : Nat} {w : Nat → Int} {σ u k j : Int} (hm : kd E m = 10) (hwe : M (rf E m 0) = w) (hw : wOk w) (hRC : RC E M m) (h1 : inR σ) (h2 : inR u) (h3 : inR k) (h4 : inR j) : CtI E m_X10_event [.inr m, .inl σ, .inl u, .inl k, .inl j] M (fun r M' => r = fEvt w σ u k j ∧ RP E M M' m) := by
  have bad : ¬ (okT σ u ∧ (0 ≤ j ∧ j ≤ 6)) → (∃ x : Int, some (Sum.inl (-1000002) : fxV) = some (.inl x) ∧ x = fEvt w σ u k j ∧ RP E M M m) := fun h => ⟨_, rfl, by rw [fEvt, if_neg h], RQ.rf', hRC⟩
  refine x_ct (by decide) (Nat.le_of_ble_eq_true rfl) (b_X10_event_0 hW m σ u k j M _ hm ⟨h1, h2, fun ht => ⟨h4, fun hj => ⟨_, ct_layEvents hW hm hwe hw hRC ht.1 ht.2, fun M6 g6 => ?_⟩, fun hj => bad (fun z => hj z.2)⟩, fun ht => bad (fun z => ht z.1)⟩)
  have ht' : okT σ u := ht
  have hL : RunOk 1 (evW w σ u) ∧ (evW w σ u).length ≤ 200 := evR_ok _ _ _
  obtain ⟨p6, hI, hN⟩ := g6
  rw [hI.1, Nat.zero_add]
  refine ⟨h3, by omega, fun hk => ⟨by omega, _, rfl, ?_, p6⟩, fun hk => ⟨_, rfl, by rw [fEvt, if_pos ⟨ht', hj⟩, if_neg hk], p6⟩⟩
  obtain ⟨q, rfl⟩ : ∃ q : Nat, k = (q : Int) := ⟨k.toNat, by omega⟩
  obtain ⟨p, hp⟩ : ∃ p, (evW w σ u)[q]? = some p := ⟨(evW w σ u)[q]'(by omega), List.getElem?_eq_getElem (by omega)⟩
  have e0 := hI.2 q p hp
  have e1 := hN q p hp
  rw [Nat.zero_add] at e0 e1
  have ea : evA (trA w σ u) (w 58) (evW w σ u) q j = if j = 0 then (p.1 : Int) else if j = 1 then (p.2 : Int) else if j = 2 then eKd (trA w σ u) (w 58) p else if j = 3 then eLs (trA w σ u) (w 58) p else if j = 4 then eRs (trA w σ u) p else if j = 5 then ghN (trA w σ u) (w 58) (evW w σ u) q p else ghO (trA w σ u) (w 58) (evW w σ u) q p := by
    unfold evA
    rw [hp]
  rw [fEvt, if_pos ⟨ht', hj⟩, if_pos hk, Int.toNat_natCast, ea]
  rcases (show j = 0 ∨ j = 1 ∨ j = 2 ∨ j = 3 ∨ j = 4 ∨ j = 5 ∨ j = 6 by omega) with rfl | rfl | rfl | rfl | rfl | rfl | rfl
  · rw [show (7 * (q : Int) + 0).toNat = 7 * q by omega, e0.1, if_pos rfl]
  · rw [show (7 * (q : Int) + 1).toNat = 7 * q + 1 by omega, e0.2.1, if_neg (by decide), if_pos rfl]
  · rw [show (7 * (q : Int) + 2).toNat = 7 * q + 2 by omega, e0.2.2.1, if_neg (by decide), if_neg (by decide), if_pos rfl]
  · rw [show (7 * (q : Int) + 3).toNat = 7 * q + 3 by omega, e0.2.2.2.1, if_neg (by decide), if_neg (by decide), if_neg (by decide), if_pos rfl]
  · rw [show (7 * (q : Int) + 4).toNat = 7 * q + 4 by omega, e0.2.2.2.2, if_neg (by decide), if_neg (by decide), if_neg (by decide), if_neg (by decide), if_pos rfl]
  · rw [show (7 * (q : Int) + 5).toNat = 7 * q + 5 by omega, e1.1, if_neg (by decide), if_neg (by decide), if_neg (by decide), if_neg (by decide), if_neg (by decide), if_pos rfl]
  · rw [show (7 * (q : Int) + 6).toNat = 7 * q + 6 by omega, e1.2, if_neg (by decide), if_neg (by decide), if_neg (by decide), if_neg (by decide), if_neg (by decide), if_neg (by decide)]
theorem re_ghosts (hW : fx_Wt E) {m : Nat} {w : Nat → Int} {σ u : Int} (hm : kd E m = 10) (hwe : M (rf E m 0) = w) (hw : wOk w) (hRC : RC E M m) (h1 : inR σ) (h2 : inR u) : CtI E m_X10_ghosts [.inr m, .inl σ, .inl u] M (fun r M' => r = fGhs w σ u ∧ RP E M M' m) := by
  refine x_ct (by decide) (Nat.le_of_ble_eq_true rfl) (b_X10_ghosts_0 hW m σ u M _ hm ⟨h1, h2, fun ht => ⟨_, ct_layEvents hW hm hwe hw hRC ht.1 ht.2, fun M4 g4 => ?_⟩, fun ht => ⟨_, rfl, by rw [fGhs, if_neg (c := okT σ u) ht], RQ.rf', hRC⟩⟩)
  have hL : RunOk 1 (evW w σ u) ∧ (evW w σ u).length ≤ 200 := evR_ok _ _ _
  obtain ⟨p4, hI, hN⟩ := g4
  have h16 : M4 m 16 = (((evW w σ u).length : Nat) : Int) := by rw [hI.1, Nat.zero_add]
  have key : ∀ (f k c : Nat), k + f = min (evW w σ u).length 30 → fx_At E m_X10_ghosts 22 [some (.inr m), some (.inl σ), some (.inl u), some (.inl (c : Int)), some (.inl (k : Int))] [] M4 (fun r M' => ∃ x : Int, r = some (.inl x) ∧ x = ((gsG (trA w σ u) (w 58) (evW w σ u) f k c : Nat) : Int) ∧ RP E M M' m) := by
    intro f
    induction f with
    | zero =>
      intro k c hk
      refine b_X10_ghosts_22 hW m _ _ _ _ M4 _ hm ?_
      rw [h16]
      exact ⟨by omega, by omega, fun _ => ⟨_, rfl, rfl, p4⟩, fun _ => ⟨fun _ => ⟨_, rfl, rfl, p4⟩, fun z => absurd (by omega) z⟩⟩
    | succ f ih =>
      intro k c hk
      obtain ⟨p, hp⟩ : ∃ p, (evW w σ u)[k]? = some p := ⟨(evW w σ u)[k]'(by omega), List.getElem?_eq_getElem (by omega)⟩
      have hg : gN (trA w σ u) (w 58) (evW w σ u) k = ghN (trA w σ u) (w 58) (evW w σ u) k p := by unfold gN; rw [hp]
      have gb := ghN_b (T := trA w σ u) (a := w 58) (k := k) (p := p) hL.1
      have e5 := (hN k p hp).1
      rw [Nat.zero_add] at e5
      refine b_X10_ghosts_22 hW m _ _ _ _ M4 _ hm ?_
      rw [h16, show (7 * (k : Int) + 5).toNat = 7 * k + 5 by omega, e5]
      have h' := ih (k + 1)
      refine ⟨by omega, by omega, fun z => absurd z (by omega), fun _ => ⟨fun z => absurd z (by omega), fun _ => ⟨by omega, by omega, fun heq => ⟨c, 0, rfl, rfl, ?_⟩, fun hne => ⟨k, rfl, by omega, c, 2 ^ k, rfl, rfl, ?_⟩⟩⟩⟩
      · rw [gsG, if_pos (by rw [hg, heq]), Nat.or_zero]
        exact h' c (by omega)
      · rw [gsG, if_neg (by rw [hg]; exact hne)]
        exact h' (c ||| 2 ^ k) (by omega)
  have h0 := key (min (evW w σ u).length 30) 0 0 (by omega)
  have e : fGhs w σ u = ((gsG (trA w σ u) (w 58) (evW w σ u) (min (evW w σ u).length 30) 0 0 : Nat) : Int) := by rw [fGhs, if_pos (c := okT σ u) ht]
  rw [e]
  exact h0
theorem ct_firstEnd10 (hW : fx_Wt E) {m : Nat} {w : Nat → Int} {σ u : Int} (hm : kd E m = 10) (hwe : M (rf E m 0) = w) (hw : wOk w) (hRC : RC E M m) (hσ : 0 ≤ σ ∧ σ ≤ 1) (hub : 1 ≤ u ∧ u ≤ 9) : CtI E m_X10_firstEnd [.inr m, .inl σ, .inl u] M (fun r M' => r = fEnd (trA w σ u) (w 58) (evW w σ u) ∧ RP E M M' m) := by
  refine x_ct (by decide) (Nat.le_of_ble_eq_true rfl) (b_X10_firstEnd_0 hW m σ u M _ hm ⟨_, ct_layEvents hW hm hwe hw hRC hσ hub, fun M1 g1 => ?_⟩)
  have hL : RunOk 1 (evW w σ u) ∧ (evW w σ u).length ≤ 200 := evR_ok _ _ _
  obtain ⟨p1, hI, hN⟩ := g1
  have h16 : M1 m 16 = (((evW w σ u).length : Nat) : Int) := by rw [hI.1, Nat.zero_add]
  have key : ∀ (n i : Nat), i + n = (evW w σ u).length → fx_At E m_X10_firstEnd 8 [some (.inr m), some (.inl σ), some (.inl u), some (.inl (i : Int))] [] M1 (fun r M' => ∃ x : Int, r = some (.inl x) ∧ x = fEnd (trA w σ u) (w 58) ((evW w σ u).drop i) ∧ RP E M M' m) := by
    intro n
    induction n with
    | zero =>
      intro i hi
      refine b_X10_firstEnd_8 hW m _ _ _ M1 _ hm ?_
      rw [h16]
      refine ⟨by omega, by omega, fun _ => ⟨_, rfl, ?_, p1⟩, fun z => absurd (by omega) z⟩
      rw [List.drop_of_length_le (by omega)]
      rfl
    | succ n ih =>
      intro i hi
      obtain ⟨p, hp⟩ : ∃ p, (evW w σ u)[i]? = some p := ⟨(evW w σ u)[i]'(by omega), List.getElem?_eq_getElem (by omega)⟩
      have e0 := hI.2 i p hp
      rw [Nat.zero_add] at e0
      have hkb := eKd_b (T := trA w σ u) (a := w 58) (p := p)
      refine b_X10_firstEnd_8 hW m _ _ _ M1 _ hm ?_
      rw [h16, show (7 * (i : Int) + 2).toNat = 7 * i + 2 by omega, show (7 * (i : Int) + 0).toNat = 7 * i by omega, e0.1, e0.2.2.1, drop_cons hp, fEnd]
      refine ⟨by omega, by omega, fun z => absurd z (by omega), fun _ => ⟨by omega, by omega, fun hne => ?_, fun heq => ⟨by omega, _, rfl, by rw [if_pos heq], p1⟩⟩⟩
      rw [if_neg hne]
      exact ih (i + 1) (by omega)
  exact key (evW w σ u).length 0 (by omega)
theorem re_endSeen (hW : fx_Wt E) {m : Nat} {w : Nat → Int} {σ u : Int} (hm : kd E m = 10) (hwe : M (rf E m 0) = w) (hw : wOk w) (hRC : RC E M m) (h1 : inR σ) (h2 : inR u) : CtI E m_X10_endSeen [.inr m, .inl σ, .inl u] M (fun r M' => r = fSee w σ u ∧ RP E M M' m) := by
  refine x_ct (by decide) (Nat.le_of_ble_eq_true rfl) (b_X10_endSeen_0 hW m σ u M _ hm ⟨h1, h2, fun ht => ⟨_, ct_firstEnd10 hW hm hwe hw hRC ht.1 ht.2, fun v4 M4 g4 => ⟨_, rfl, ?_, g4.2⟩⟩, fun ht => ⟨_, rfl, by rw [fSee, if_neg (c := okT σ u) ht], RQ.rf', hRC⟩⟩)
  rw [g4.1, fSee, if_pos (c := okT σ u) ht]
end
