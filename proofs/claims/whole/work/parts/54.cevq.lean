/-! events, event, ghosts, endSeen: the class. -/
noncomputable def evW (w : Nat → Int) (σ u : Int) : List (Nat × Nat) := evR (trA w σ u) (w 58) (w 59)
noncomputable def fEvs (w : Nat → Int) (σ u : Int) : Int := if okT σ u then (((evW w σ u).length : Nat) : Int) else -1000002
noncomputable def fEvt (w : Nat → Int) (σ u k j : Int) : Int := if okT σ u ∧ (0 ≤ j ∧ j ≤ 6) then (if 0 ≤ k ∧ k ≤ (((evW w σ u).length : Nat) : Int) - 1 then evA (trA w σ u) (w 58) (evW w σ u) k.toNat j else -1000001) else -1000002
/-- the set of ghosts among events k and on, f of them -/
noncomputable def gsG (T : Int → Int) (a : Int) (L : List (Nat × Nat)) : Nat → Nat → Nat → Nat
  | 0, _, c => c
  | f + 1, k, c => gsG T a L f (k + 1) (if gN T a L k = -1000005 then c else c ||| 2 ^ k)
noncomputable def fGhs (w : Nat → Int) (σ u : Int) : Int := if okT σ u then ((gsG (trA w σ u) (w 58) (evW w σ u) (min (evW w σ u).length 30) 0 0 : Nat) : Int) else -1000002
noncomputable def fSee (w : Nat → Int) (σ u : Int) : Int := if okT σ u then fEnd (trA w σ u) (w 58) (evW w σ u) else -1000002
section
variable {E : fxE} {M : fxM}
theorem cl_events (hW : fx_Wt E) {b n v : Nat} {w : Nat → Int} {H : Nat → Nat → Int} {σ u : Int} (hb : kd E b = 9) (hC : CI E M b w H n v) (hw : wOk w) (hV : CV E M b w v) (hT : CT E M b w v) (hE : CE E M b w v) (hv : v < 1000000) (h1 : inR σ) (h2 : inR u) : CtI E m_X9_events [.inr b, .inl σ, .inl u] M (fun r M' => r = fEvs w σ u ∧ PE E M M' b w v) := by
  have bad : ¬ okT σ u → (∃ x : Int, some (Sum.inl (-1000002) : fxV) = some (.inl x) ∧ x = fEvs w σ u ∧ PE E M M b w v) := fun h => ⟨_, rfl, by rw [fEvs, if_neg h], PE.rf' hV hT hE⟩
  refine x_ct (by decide) (Nat.le_of_ble_eq_true rfl) (b_X9_events_0 hW b σ u M _ hb ⟨h1, fun hs => ⟨h2, fun hu => ?_, fun hu => bad (fun z => hu z.2)⟩, fun hs => bad (fun z => hs z.1)⟩)
  obtain ⟨s, rfl⟩ : ∃ s : Nat, σ = (s : Int) := ⟨σ.toNat, by omega⟩
  refine ⟨_, ct_eventsOf hW hb hC hw hV hT hE (by omega) hu hv, fun v5 M5 g5 => ?_⟩
  obtain ⟨rfl, p1, i1, -⟩ := g5
  refine ⟨el_kd hW hb (by omega), _, rfl, ?_, p1⟩
  rw [i1.1, fEvs, if_pos ⟨hs, hu⟩]
  rfl
theorem cl_event (hW : fx_Wt E) {b n v : Nat} {w : Nat → Int} {H : Nat → Nat → Int} {σ u k j : Int} (hb : kd E b = 9) (hC : CI E M b w H n v) (hw : wOk w) (hV : CV E M b w v) (hT : CT E M b w v) (hE : CE E M b w v) (hv : v < 1000000) (h1 : inR σ) (h2 : inR u) (h3 : inR k) (h4 : inR j) : CtI E m_X9_event [.inr b, .inl σ, .inl u, .inl k, .inl j] M (fun r M' => r = fEvt w σ u k j ∧ PE E M M' b w v) := by
  have bad : ¬ (okT σ u ∧ (0 ≤ j ∧ j ≤ 6)) → (∃ x : Int, some (Sum.inl (-1000002) : fxV) = some (.inl x) ∧ x = fEvt w σ u k j ∧ PE E M M b w v) := fun h => ⟨_, rfl, by rw [fEvt, if_neg h], PE.rf' hV hT hE⟩
  refine x_ct (by decide) (Nat.le_of_ble_eq_true rfl) (b_X9_event_0 hW b σ u k j M _ hb ⟨h1, fun hs => ⟨h2, fun hu => ⟨h4, fun hj => ?_, fun hj => bad (fun z => hj z.2)⟩, fun hu => bad (fun z => hu z.1.2)⟩, fun hs => bad (fun z => hs z.1.1)⟩)
  obtain ⟨s, rfl⟩ : ∃ s : Nat, σ = (s : Int) := ⟨σ.toNat, by omega⟩
  refine ⟨_, ct_eventsOf hW hb hC hw hV hT hE (by omega) hu hv, fun v7 M7 g7 => ?_⟩
  obtain ⟨rfl, p1, i1, -⟩ := g7
  have he := el_kd hW hb (s := s) (by omega)
  have hL : RunOk 1 (evW w s u) ∧ (evW w s u).length ≤ 200 := evR_ok _ _ _
  have h6 : M7 (el E b s) 6 = (((evW w s u).length : Nat) : Int) := i1.1
  rw [h6]
  refine ⟨he, h3, by omega, fun hk => ?_, fun hk => ⟨_, rfl, by rw [fEvt, if_pos ⟨⟨hs, hu⟩, hj⟩, if_neg hk], p1⟩⟩
  obtain ⟨q, rfl⟩ : ∃ q : Nat, k = (q : Int) := ⟨k.toNat, by omega⟩
  obtain ⟨p, hp⟩ : ∃ p, (evW w s u)[q]? = some p := ⟨(evW w s u)[q]'(by omega), List.getElem?_eq_getElem (by omega)⟩
  have e0 := i1.2.1 q p hp
  have ef : fEvt w s u q j = evA (trA w s u) (w 58) (evW w s u) q j := by rw [fEvt, if_pos ⟨⟨hs, hu⟩, hj⟩, if_pos hk, Int.toNat_natCast]
  have ea : evA (trA w s u) (w 58) (evW w s u) q j = if j = 0 then (p.1 : Int) else if j = 1 then (p.2 : Int) else if j = 2 then eKd (trA w s u) (w 58) p else if j = 3 then eLs (trA w s u) (w 58) p else if j = 4 then eRs (trA w s u) p else if j = 5 then ghN (trA w s u) (w 58) (evW w s u) q p else ghO (trA w s u) (w 58) (evW w s u) q p := by
    unfold evA
    rw [hp]
  rw [ef, ea, Int.toNat_natCast]
  refine ⟨fun h => ⟨by omega, _, rfl, ?_, p1⟩, fun h => ⟨by omega, _, rfl, ?_, p1⟩, fun h => ⟨by omega, _, rfl, ?_, p1⟩, fun h => ⟨by omega, _, rfl, ?_, p1⟩, fun h => ⟨by omega, _, rfl, ?_, p1⟩, fun h => ⟨_, ct_ghostMirror hW he i1 hL.1 hL.2 hp, fun v16 M16 g16 => ⟨_, rfl, ?_, ?_⟩⟩, fun h => ⟨_, ct_ghostOrigin hW he i1 hL.1 hL.2 hp, fun v17 M17 g17 => ⟨_, rfl, ?_, ?_⟩⟩⟩
  · rw [if_pos h, e0.1]
  · rw [if_neg (by omega), if_pos h, e0.2.1]
  · rw [if_neg (by omega), if_neg (by omega), if_pos h, e0.2.2.1]
  · rw [if_neg (by omega), if_neg (by omega), if_neg (by omega), if_pos h, e0.2.2.2.1]
  · rw [if_neg (by omega), if_neg (by omega), if_neg (by omega), if_neg (by omega), if_pos h, e0.2.2.2.2]
  · rw [if_neg (by omega), if_neg (by omega), if_neg (by omega), if_neg (by omega), if_neg (by omega), if_pos h, g16.1]; rfl
  · rw [g16.2]; exact p1
  · rw [if_neg (by omega), if_neg (by omega), if_neg (by omega), if_neg (by omega), if_neg (by omega), if_neg (by omega), g17.1]; rfl
  · rw [g17.2]; exact p1
theorem cl_ghosts (hW : fx_Wt E) {b n v : Nat} {w : Nat → Int} {H : Nat → Nat → Int} {σ u : Int} (hb : kd E b = 9) (hC : CI E M b w H n v) (hw : wOk w) (hV : CV E M b w v) (hT : CT E M b w v) (hE : CE E M b w v) (hv : v < 1000000) (h1 : inR σ) (h2 : inR u) : CtI E m_X9_ghosts [.inr b, .inl σ, .inl u] M (fun r M' => r = fGhs w σ u ∧ PE E M M' b w v) := by
  have bad : ¬ okT σ u → (∃ x : Int, some (Sum.inl (-1000002) : fxV) = some (.inl x) ∧ x = fGhs w σ u ∧ PE E M M b w v) := fun h => ⟨_, rfl, by rw [fGhs, if_neg h], PE.rf' hV hT hE⟩
  refine x_ct (by decide) (Nat.le_of_ble_eq_true rfl) (b_X9_ghosts_0 hW b σ u M _ hb ⟨h1, fun hs => ⟨h2, fun hu => ?_, fun hu => bad (fun z => hu z.2)⟩, fun hs => bad (fun z => hs z.1)⟩)
  obtain ⟨s, rfl⟩ : ∃ s : Nat, σ = (s : Int) := ⟨σ.toNat, by omega⟩
  refine ⟨_, ct_eventsOf hW hb hC hw hV hT hE (by omega) hu hv, fun v5 M5 g5 => ?_⟩
  obtain ⟨rfl, p1, i1, -⟩ := g5
  have he := el_kd hW hb (s := s) (by omega)
  have hL : RunOk 1 (evW w s u) ∧ (evW w s u).length ≤ 200 := evR_ok _ _ _
  have h6 : M5 (el E b s) 6 = (((evW w s u).length : Nat) : Int) := i1.1
  refine ⟨he, ?_⟩
  have key : ∀ (f k c : Nat), k + f = min (evW w s u).length 30 → fx_At E m_X9_ghosts 30 [some (.inr b), some (.inl (s : Int)), some (.inl u), some (.inr (el E b s)), some (.inl (c : Int)), some (.inl (k : Int))] [] M5 (fun r M' => ∃ x : Int, r = some (.inl x) ∧ x = ((gsG (trA w s u) (w 58) (evW w s u) f k c : Nat) : Int) ∧ PE E M M' b w v) := by
    intro f
    induction f with
    | zero =>
      intro k c hk
      refine b_X9_ghosts_30 hW b _ _ _ _ _ M5 _ hb he ?_
      rw [h6]
      exact ⟨by omega, by omega, fun _ => ⟨_, rfl, rfl, p1⟩, fun _ => ⟨fun _ => ⟨_, rfl, rfl, p1⟩, fun z => absurd (by omega) z⟩⟩
    | succ f ih =>
      intro k c hk
      obtain ⟨p, hp⟩ : ∃ p, (evW w s u)[k]? = some p := ⟨(evW w s u)[k]'(by omega), List.getElem?_eq_getElem (by omega)⟩
      have hg : gN (trA w s u) (w 58) (evW w s u) k = ghN (trA w s u) (w 58) (evW w s u) k p := by unfold gN; rw [hp]
      have gb := ghN_b (T := trA w s u) (a := w 58) (k := k) (p := p) hL.1
      refine b_X9_ghosts_30 hW b _ _ _ _ _ M5 _ hb he ?_
      rw [h6]
      refine ⟨by omega, by omega, fun z => absurd z (by omega), fun _ => ⟨fun z => absurd z (by omega), fun _ => ⟨_, ct_ghostMirror hW he i1 hL.1 hL.2 hp, fun v3 M3 g3 => ?_⟩⟩⟩
      have e3 : v3 = ghN (trA w s u) (w 58) (evW w s u) k p := g3.1
      have m3 : M3 = M5 := g3.2
      rw [m3]
      have h' := ih (k + 1)
      refine ⟨by omega, fun heq => ?_, fun hne => ⟨k, rfl, by omega, c, 2 ^ k, rfl, rfl, ?_⟩⟩
      · rw [gsG, if_pos (by rw [hg, ← e3, heq])]
        exact h' c (by omega)
      · rw [gsG, if_neg (by rw [hg, ← e3]; exact hne)]
        exact h' (c ||| 2 ^ k) (by omega)
  have h0 := key (min (evW w s u).length 30) 0 0 (by omega)
  have e : fGhs w (s : Int) u = ((gsG (trA w s u) (w 58) (evW w s u) (min (evW w s u).length 30) 0 0 : Nat) : Int) := by rw [fGhs, if_pos ⟨hs, hu⟩]
  rw [e]
  exact h0
theorem cl_endSeen (hW : fx_Wt E) {b n v : Nat} {w : Nat → Int} {H : Nat → Nat → Int} {σ u : Int} (hb : kd E b = 9) (hC : CI E M b w H n v) (hw : wOk w) (hV : CV E M b w v) (hT : CT E M b w v) (hE : CE E M b w v) (hv : v < 1000000) (h1 : inR σ) (h2 : inR u) : CtI E m_X9_endSeen [.inr b, .inl σ, .inl u] M (fun r M' => r = fSee w σ u ∧ PE E M M' b w v) := by
  have bad : ¬ okT σ u → (∃ x : Int, some (Sum.inl (-1000002) : fxV) = some (.inl x) ∧ x = fSee w σ u ∧ PE E M M b w v) := fun h => ⟨_, rfl, by rw [fSee, if_neg h], PE.rf' hV hT hE⟩
  refine x_ct (by decide) (Nat.le_of_ble_eq_true rfl) (b_X9_endSeen_0 hW b σ u M _ hb ⟨h1, fun hs => ⟨h2, fun hu => ?_, fun hu => bad (fun z => hu z.2)⟩, fun hs => bad (fun z => hs z.1)⟩)
  obtain ⟨s, rfl⟩ : ∃ s : Nat, σ = (s : Int) := ⟨σ.toNat, by omega⟩
  refine ⟨_, ct_eventsOf hW hb hC hw hV hT hE (by omega) hu hv, fun v5 M5 g5 => ?_⟩
  obtain ⟨rfl, p1, i1, -⟩ := g5
  refine ⟨el_kd hW hb (by omega), _, ct_firstEnd hW (el_kd hW hb (by omega)) i1 (evR_ok _ _ _).2, fun v6 M6 g6 => ⟨_, rfl, ?_, by rw [g6.2]; exact p1⟩⟩
  rw [g6.1, fSee, if_pos ⟨hs, hu⟩]
  rfl
end
