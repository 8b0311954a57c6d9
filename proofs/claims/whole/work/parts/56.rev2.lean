/-! The reference's events as a whole; events, event, ghosts, endSeen. -/
section
variable {E : fxE} {M : fxM}
/-- events from the f-th place on -/
def RvI (E : fxE) (M : fxM) (m f : Nat) (T : Int → Int) (a : Int) (A : List (Nat × Nat)) : Prop := M m 16 = ((f + A.length : Nat) : Int) ∧ ∀ (i : Nat) (p : Nat × Nat), A[i]? = some p → M (rf E m 15) (7 * (f + i)) = (p.1 : Int) ∧ M (rf E m 15) (7 * (f + i) + 1) = (p.2 : Int) ∧ M (rf E m 15) (7 * (f + i) + 2) = eKd T a p ∧ M (rf E m 15) (7 * (f + i) + 3) = eLs T a p ∧ M (rf E m 15) (7 * (f + i) + 4) = eRs T p
/-- only the events have changed -/
def RvS (E : fxE) (M0 M1 : fxM) (m f : Nat) : Prop := (∀ c, c ≠ m → c ≠ rf E m 15 → M1 c = M0 c) ∧ (∀ k, k ≠ 16 → M1 m k = M0 m k) ∧ ∀ j, j < 7 * f → M1 (rf E m 15) j = M0 (rf E m 15) j
theorem RvS.rp (hW : fx_Wt E) {M' : fxM} {m f : Nat} (hm : kd E m = 10) (hC : RC E M m) (h : RvS E M M' m f) : RP E M M' m := by
  obtain ⟨h1, h2, h3⟩ := h
  have g : ∀ k, (lay 10)[k]? = some true → k ≠ 15 → M' (rf E m k) = M (rf E m k) := fun k hk hn => h1 _ (mnr hW hm hk).symm (mne hW hm hk rfl hn)
  refine ⟨⟨fun c hc => h1 c (on_m (k := 15) hW hm rfl hc).1 (on_m (k := 15) hW hm rfl hc).2, ⟨g 0 rfl (by decide), g 1 rfl (by decide), g 5 rfl (by decide)⟩, h2 2 (by decide), h2 6 (by decide), h2 7 (by decide), h2 8 (by decide)⟩, ?_⟩
  unfold RC at hC ⊢
  rw [h2 3 (by decide), h2 4 (by decide), g 0 rfl (by decide), g 13 rfl (by decide)]
  exact hC
theorem RvS.tr (hW : fx_Wt E) {M' : fxM} {m f : Nat} {T : Int → Int} {a : Int} (hm : kd E m = 10) (h : RvS E M M' m f) (hT : RTr E M m T a) : RTr E M' m T a := by
  unfold RTr at hT ⊢
  rw [h.1 _ (mnr hW hm rfl).symm (mne hW hm rfl rfl (by decide)), h.1 _ (mnr hW hm rfl).symm (mne hW hm rfl rfl (by decide))]
  exact hT
theorem RvS.trans {M' M'' : fxM} {m f : Nat} (h : RvS E M M' m f) (h' : RvS E M' M'' m f) : RvS E M M'' m f := ⟨fun c a b => (h'.1 c a b).trans (h.1 c a b), fun k a => (h'.2.1 k a).trans (h.2.1 k a), fun j a => (h'.2.2 j a).trans (h.2.2 j a)⟩
/-- the naming of all -/
theorem at_names (hW : fx_Wt E) {m f : Nat} {T : Int → Int} {a : Int} {L : List (Nat × Nat)} {x1 x2 x4 : Int} (hm : kd E m = 10) (hb : ∀ d, 5000 ≤ T d ∧ T d ≤ 100000000) (ha : 0 ≤ a ∧ a ≤ 60) (hL : RunOk 1 L) (hf : f + L.length ≤ 400) (hT : RTr E M m T a) : ∀ (n k : Nat) (M1 : fxM), k + n = L.length → RvS E M M1 m f → RvI E M1 m f T a L → (∀ i p, L[i]? = some p → i < k → M1 (rf E m 15) (7 * (f + i) + 5) = ghN T a L i p ∧ M1 (rf E m 15) (7 * (f + i) + 6) = ghO T a L i p) → (∀ i p, L[i]? = some p → k ≤ i → M1 (rf E m 15) (7 * (f + i) + 5) = -1000005 ∧ M1 (rf E m 15) (7 * (f + i) + 6) = -1000005) → fx_At E m_X10_addEvents 90 [some (.inr m), some (.inl x1), some (.inl x2), some (.inl (f : Int)), some (.inl x4), some (.inl ((f + k : Nat) : Int))] [] M1 (fun r M' => r = none ∧ RvS E M M' m f ∧ RvI E M' m f T a L ∧ ∀ i p, L[i]? = some p → M' (rf E m 15) (7 * (f + i) + 5) = ghN T a L i p ∧ M' (rf E m 15) (7 * (f + i) + 6) = ghO T a L i p) := by
  intro n
  induction n with
  | zero =>
    intro k M1 hk hS hI h1 h2
    refine b_X10_addEvents_90 hW m _ _ _ _ _ M1 _ hm ?_
    rw [hI.1]
    exact ⟨by omega, by omega, fun _ => ⟨rfl, hS, hI, fun i p hp => h1 i p hp (by have := (List.getElem?_eq_some_iff.mp hp).1; omega)⟩, fun z => absurd (by omega) z⟩
  | succ n ih =>
    intro k M1 hk hS hI h1 h2
    obtain ⟨p, hp⟩ : ∃ p, L[k]? = some p := ⟨L[k]'(by omega), List.getElem?_eq_getElem (by omega)⟩
    refine b_X10_addEvents_90 hW m _ _ _ _ _ M1 _ hm ?_
    rw [hI.1]
    refine ⟨by omega, by omega, fun z => absurd z (by omega), fun _ => ⟨_, ct_name hW hm (hS.tr hW hm hT) hb ha hL hf (fun i q hq => (hI.2 i q hq).1) hp (h2 k p hp (Nat.le_refl k)).1 (h2 k p hp (Nat.le_refl k)).2, fun M3 g3 => ?_⟩⟩
    have nm : ∀ j, j ≠ 7 * (f + k) + 5 → j ≠ 7 * (f + k) + 6 → M3 (rf E m 15) j = M1 (rf E m 15) j := fun j a b => by rw [g3, mrow_s, nmG, if_neg a, if_neg b]
    have S3 : RvS E M1 M3 m f := ⟨fun c _ b => by rw [g3, mrow_o b], fun j _ => by rw [g3, mrow_o (mnr hW hm rfl)], fun j hj => nm j (by omega) (by omega)⟩
    refine ih (k + 1) M3 (by omega) (hS.trans S3) ⟨by rw [g3, mrow_o (mnr hW hm rfl), hI.1], fun i q hq => ?_⟩ (fun i q hq hi => ?_) (fun i q hq hi => ?_)
    · rw [nm _ (by omega) (by omega), nm _ (by omega) (by omega), nm _ (by omega) (by omega), nm _ (by omega) (by omega), nm _ (by omega) (by omega)]
      exact hI.2 i q hq
    · by_cases hik : i = k
      · subst hik
        rw [hp] at hq
        cases hq
        rw [g3, mrow_s]
        exact ⟨by rw [nmG, if_pos rfl], by rw [nmG, if_neg (by omega), if_pos rfl]⟩
      · rw [nm _ (by omega) (by omega), nm _ (by omega) (by omega)]
        exact h1 i q hq (by omega)
    · rw [nm _ (by omega) (by omega), nm _ (by omega) (by omega)]
      exact h2 i q hq (by omega)
theorem ct_addEvents (hW : fx_Wt E) {m f : Nat} {w : Nat → Int} {σ u : Int} (hm : kd E m = 10) (hwe : M (rf E m 0) = w) (hw : wOk w) (hRC : RC E M m) (hσ : 0 ≤ σ ∧ σ ≤ 1) (hub : 1 ≤ u ∧ u ≤ 9) (hf : M m 16 = (f : Int)) (hf2 : f ≤ 200) : CtV E m_X10_addEvents [.inr m, .inl σ, .inl u] M (fun M' => RP E M M' m ∧ RvI E M' m f (trA w σ u) (w 58) (evW w σ u) ∧ (∀ i p, (evW w σ u)[i]? = some p → M' (rf E m 15) (7 * (f + i) + 5) = ghN (trA w σ u) (w 58) (evW w σ u) i p ∧ M' (rf E m 15) (7 * (f + i) + 6) = ghO (trA w σ u) (w 58) (evW w σ u) i p) ∧ ∀ j, j < 7 * f → M' (rf E m 15) j = M (rf E m 15) j) := by
  have w58 := hw.2.2.2.2.2.2.2.2.1 0 (by decide)
  have w59 := hw.2.2.2.2.2.2.2.2.1 1 (by decide)
  have hsv : sv 0 0 = 0 ∧ sv 1 0 = 60 ∧ sv 0 1 = 1 ∧ sv 1 1 = 5000 := ⟨rfl, rfl, rfl, rfl⟩
  rw [show 58 + 0 = 58 from rfl] at w58
  rw [show 58 + 1 = 59 from rfl] at w59
  obtain ⟨T, hTe⟩ : ∃ T, trA w σ u = T := ⟨_, rfl⟩
  have hb : ∀ d, 5000 ≤ T d ∧ T d ≤ 100000000 := fun d => by rw [← hTe]; exact trA_b hw hub d
  obtain ⟨L, hLe⟩ : ∃ L, evW w σ u = L := ⟨_, rfl⟩
  have hLr : evR T (w 58) (w 59) = L := by rw [← hLe, ← hTe]; rfl
  have hL : RunOk 1 L ∧ L.length ≤ 200 := by rw [← hLr]; exact evR_ok _ _ _
  rw [hTe, hLe]
  refine x_ct (by decide) (Nat.le_of_ble_eq_true rfl) (b_X10_addEvents_0 hW m σ u M _ hm ⟨_, ct_layT hW hm hwe hw hRC hσ hub, fun M0 g0 => ?_⟩)
  obtain ⟨rt, rp, -, -, hTr⟩ := g0
  have w0 : M0 (rf E m 0) = w := by rw [rp.1.2.1.1, hwe]
  have k16 : M0 m 16 = (f : Int) := by rw [rt.2 16 (by decide) (by decide) (by decide), hf]
  have r15 : M0 (rf E m 15) = M (rf E m 15) := rt.1 _ (mnr hW hm rfl).symm (mne hW hm rfl rfl (by decide)) (mne hW hm rfl rfl (by decide)) (mne hW hm rfl rfl (by decide)) (mne hW hm rfl rfl (by decide))
  have tr0 : RTr E M0 m T (w 58) := ⟨fun d hd => by rw [hTr d hd, ← hTe, trA, if_pos (by omega), Int.toNat_natCast], by rw [w0]⟩
  rw [k16]
  have fin : ∀ (M' : fxM), RvS E M0 M' m f → RvI E M' m f T (w 58) L → (∀ i p, L[i]? = some p → M' (rf E m 15) (7 * (f + i) + 5) = ghN T (w 58) L i p ∧ M' (rf E m 15) (7 * (f + i) + 6) = ghO T (w 58) L i p) → RP E M M' m ∧ RvI E M' m f T (w 58) L ∧ (∀ i p, L[i]? = some p → M' (rf E m 15) (7 * (f + i) + 5) = ghN T (w 58) L i p ∧ M' (rf E m 15) (7 * (f + i) + 6) = ghO T (w 58) L i p) ∧ ∀ j, j < 7 * f → M' (rf E m 15) j = M (rf E m 15) j := fun M' a b c => ⟨rp.trans (a.rp hW hm rp.2), b, c, fun j hj => by rw [a.2.2 j hj, r15]⟩
  have at14 : ∀ (N d : Nat) (A : List (Nat × Nat)) (M1 : fxM), 401 ≤ d + N → 1 ≤ d → d ≤ 401 → A ++ rG T (w 58) (w 59) (401 - d) d 0 = L → RvS E M0 M1 m f → RvI E M1 m f T (w 58) A → (∀ i p, A[i]? = some p → M1 (rf E m 15) (7 * (f + i) + 5) = -1000005 ∧ M1 (rf E m 15) (7 * (f + i) + 6) = -1000005) → fx_At E m_X10_addEvents 14 [some (.inr m), some (.inl σ), some (.inl u), some (.inl (f : Int)), some (.inl (d : Int)), none] [] M1 (fun r M' => r = none ∧ RP E M M' m ∧ RvI E M' m f T (w 58) L ∧ (∀ i p, L[i]? = some p → M' (rf E m 15) (7 * (f + i) + 5) = ghN T (w 58) L i p ∧ M' (rf E m 15) (7 * (f + i) + 6) = ghO T (w 58) L i p) ∧ ∀ j, j < 7 * f → M' (rf E m 15) j = M (rf E m 15) j) := by
    intro N
    induction N with
    | zero =>
      intro d A M1 hN hd1 hd4 hA hS hI hn
      obtain rfl : d = 401 := by omega
      have hA' : A = L := by rw [← hA, rG, List.append_nil]
      subst hA'
      refine b_X10_addEvents_14 hW m _ _ _ _ M1 _ hm ⟨by omega, fun _ => ?_, fun z => absurd (by omega) z⟩
      refine x_mono (at_names (x1 := σ) (x2 := u) (x4 := ((401 : Nat) : Int)) hW hm hb (by omega) hL.1 (by omega) tr0 A.length 0 M1 (by omega) hS hI (fun i p _ hi => absurd hi (by omega)) (fun i p hp _ => hn i p hp)) (fun r M' hq => ⟨hq.1, fin M' hq.2.1 hq.2.2.1 hq.2.2.2⟩)
    | succ N ih =>
      intro d A M1 hN hd1 hd4 hA hS hI hn
      by_cases hd : d = 401
      · subst hd
        have hA' : A = L := by rw [← hA, rG, List.append_nil]
        subst hA'
        refine b_X10_addEvents_14 hW m _ _ _ _ M1 _ hm ⟨by omega, fun _ => ?_, fun z => absurd (by omega) z⟩
        refine x_mono (at_names (x1 := σ) (x2 := u) (x4 := ((401 : Nat) : Int)) hW hm hb (by omega) hL.1 (by omega) tr0 A.length 0 M1 (by omega) hS hI (fun i p _ hi => absurd hi (by omega)) (fun i p hp _ => hn i p hp)) (fun r M' hq => ⟨hq.1, fin M' hq.2.1 hq.2.2.1 hq.2.2.2⟩)
      · have tr1 := hS.tr hW hm tr0
        have th1 : M1 (rf E m 0) 59 = w 59 := by rw [hS.1 _ (mnr hW hm rfl).symm (mne hW hm rfl rfl (by decide)), w0]
        have hlen : A.length + (rG T (w 58) (w 59) (401 - d) d 0).length ≤ 200 := by rw [← List.length_append, hA]; exact hL.2
        -- an event from d up to stop - 1, and on from stop
        have ev : ∀ st : Nat, d < st → st ≤ 401 → rG T (w 58) (w 59) (401 - d) d 0 = (d, st - 1) :: rG T (w 58) (w 59) (401 - st) st 0 → fx_At E m_X10_addEvents 49 [some (.inr m), some (.inl σ), some (.inl u), some (.inl (f : Int)), some (.inl (d : Int)), some (.inl (st : Int))] [] M1 (fun r M' => r = none ∧ RP E M M' m ∧ RvI E M' m f T (w 58) L ∧ (∀ i p, L[i]? = some p → M' (rf E m 15) (7 * (f + i) + 5) = ghN T (w 58) L i p ∧ M' (rf E m 15) (7 * (f + i) + 6) = ghO T (w 58) L i p) ∧ ∀ j, j < 7 * f → M' (rf E m 15) j = M (rf E m 15) j) := by
          intro st h1 h2 hr
          rw [hr, List.length_cons] at hlen
          refine b_X10_addEvents_49 hW m _ _ _ _ _ M1 _ hm ⟨by omega, by omega, fun z => absurd z (by omega), fun _ => ?_⟩
          rw [show (st : Int) - 1 = ((st - 1 : Nat) : Int) by omega]
          refine ⟨_, ct_addEvent hW hm tr1 hb (by omega) hI.1 (by omega) hd1 (by omega) (by omega), fun M3 g3 => ⟨fun z => absurd z (by omega), fun _ => ?_⟩⟩
          have e15 : M3 (rf E m 15) = evG (M1 (rf E m 15)) (f + A.length) d ((st - 1 : Nat) : Int) (eKd T (w 58) (d, st - 1)) (eLs T (w 58) (d, st - 1)) (eRs T (d, st - 1)) := by rw [g3, mset_o (mnr hW hm rfl).symm, mrow_s]
          have old : ∀ j, j < 7 * (f + A.length) → M3 (rf E m 15) j = M1 (rf E m 15) j := fun j hj => by
            rw [e15]
            unfold evG
            rw [if_neg (by omega), if_neg (by omega), if_neg (by omega), if_neg (by omega), if_neg (by omega), if_neg (by omega), if_neg (by omega)]
          have S3 : RvS E M1 M3 m f := ⟨fun c a b => by rw [g3, mset_o a, mrow_o b], fun k hk => by rw [g3, mset_n hk, mrow_o (mnr hW hm rfl)], fun j hj => old j (by omega)⟩
          refine ih st (A ++ [(d, st - 1)]) M3 (by omega) (by omega) h2 ?_ (hS.trans S3) ⟨?_, fun i p hp => ?_⟩ (fun i p hp => ?_)
          · rw [List.append_assoc, List.singleton_append, ← hr, hA]
          · rw [g3, mset_s, List.length_append, List.length_singleton]; omega
          · rcases app_at hp with ⟨hi, hp⟩ | ⟨hi, rfl⟩
            · rw [old _ (by omega), old _ (by omega), old _ (by omega), old _ (by omega), old _ (by omega)]
              exact hI.2 i p hp
            · subst hi
              rw [e15]
              unfold evG
              refine ⟨by rw [if_pos rfl], by rw [if_neg (by omega), if_pos rfl], by rw [if_neg (by omega), if_neg (by omega), if_pos rfl], by rw [if_neg (by omega), if_neg (by omega), if_neg (by omega), if_pos rfl], by rw [if_neg (by omega), if_neg (by omega), if_neg (by omega), if_neg (by omega), if_pos rfl]⟩
          · rcases app_at hp with ⟨hi, hp⟩ | ⟨hi, rfl⟩
            · rw [old _ (by omega), old _ (by omega)]
              exact hn i p hp
            · subst hi
              rw [e15]
              unfold evG
              exact ⟨by rw [if_neg (by omega), if_neg (by omega), if_neg (by omega), if_neg (by omega), if_neg (by omega), if_pos rfl], by rw [if_neg (by omega), if_neg (by omega), if_neg (by omega), if_neg (by omega), if_neg (by omega), if_neg (by omega), if_pos rfl]⟩
        have s1 : ∀ (n d s : Nat), rG T (w 58) (w 59) (n + 1) d s = if mkd T (w 58) (w 59) (d : Int) then (if d = 400 then (if s = 0 then d else s, d) :: rG T (w 58) (w 59) n (d + 1) 0 else rG T (w 58) (w 59) n (d + 1) (if s = 0 then d else s)) else (if s = 0 then rG T (w 58) (w 59) n (d + 1) 0 else (s, d - 1) :: rG T (w 58) (w 59) n (d + 1) 0) := fun _ _ _ => rfl
        have at26 : ∀ (q st : Nat), st + q = 401 → d ≤ st → ((st ≤ 400 ∧ rG T (w 58) (w 59) (401 - d) d 0 = rG T (w 58) (w 59) (401 - st) st (if st = d then 0 else d)) ∨ (st = 401 ∧ d < st ∧ rG T (w 58) (w 59) (401 - d) d 0 = [(d, 400)])) → fx_At E m_X10_addEvents 26 [some (.inr m), some (.inl σ), some (.inl u), some (.inl (f : Int)), some (.inl (d : Int)), some (.inl (st : Int))] [] M1 (fun r M' => r = none ∧ RP E M M' m ∧ RvI E M' m f T (w 58) L ∧ (∀ i p, L[i]? = some p → M' (rf E m 15) (7 * (f + i) + 5) = ghN T (w 58) L i p ∧ M' (rf E m 15) (7 * (f + i) + 6) = ghO T (w 58) L i p) ∧ ∀ j, j < 7 * f → M' (rf E m 15) j = M (rf E m 15) j) := by
          intro q
          induction q with
          | zero =>
            intro st hst hds hr
            obtain rfl : st = 401 := by omega
            rcases hr with ⟨h, -⟩ | ⟨-, h2, hr⟩
            · omega
            · refine b_X10_addEvents_26 hW m _ _ _ _ _ M1 _ hm ⟨by omega, fun _ => ev 401 (by omega) (by omega) (by rw [hr]; rfl), fun z => absurd (by omega) z⟩
          | succ q ihq =>
            intro st hst hds hr
            rcases hr with ⟨h4, hr⟩ | ⟨h, -, -⟩
            · rw [show 401 - st = (400 - st) + 1 by omega, s1] at hr
              refine b_X10_addEvents_26 hW m _ _ _ _ _ M1 _ hm ⟨by omega, fun z => absurd z (by omega), fun _ => ⟨_, ct_isMarked10 hW hm tr1 th1 hb (by omega) (by omega) (by omega), fun v2 M2 g2 => ?_⟩⟩
              obtain ⟨rfl, rfl⟩ := g2
              by_cases hmk : mkd T (w 58) (w 59) (st : Int)
              · rw [if_pos hmk] at hr ⊢
                refine ⟨by decide, fun z => absurd z (by decide), fun _ => ?_⟩
                have es : (if (if st = d then 0 else d) = 0 then st else (if st = d then 0 else d)) = d := by
                  by_cases hsd : st = d
                  · rw [if_pos hsd, if_pos rfl]; exact hsd
                  · rw [if_neg hsd, if_neg (by omega)]
                rw [es] at hr
                refine ihq (st + 1) (by omega) (by omega) ?_
                by_cases h400 : st = 400
                · subst h400
                  rw [if_pos rfl] at hr
                  exact Or.inr ⟨rfl, by omega, by rw [hr]; rfl⟩
                · rw [if_neg h400] at hr
                  refine Or.inl ⟨by omega, ?_⟩
                  rw [hr, show 401 - (st + 1) = 400 - st by omega, if_neg (by omega)]
              · rw [if_neg hmk] at hr ⊢
                refine ⟨by decide, fun _ => ?_, fun z => absurd rfl z⟩
                by_cases hsd : st = d
                · subst hsd
                  rw [if_pos rfl, if_pos rfl] at hr
                  refine b_X10_addEvents_49 hW m _ _ _ _ _ M2 _ hm ⟨by omega, by omega, fun _ => ⟨fun _ => ?_, fun z => absurd (by omega) z⟩, fun z => absurd (by omega) z⟩
                  refine ih (st + 1) A M2 (by omega) (by omega) (by omega) ?_ hS hI hn
                  rw [show 401 - (st + 1) = 400 - st by omega, ← hr]
                  exact hA
                · rw [if_neg hsd, if_neg (by omega)] at hr
                  refine ev st (by omega) (by omega) ?_
                  rw [hr, show 401 - st = (400 - st) + 1 by omega, s1, if_neg hmk, if_pos rfl]
            · omega
        refine b_X10_addEvents_14 hW m _ _ _ _ M1 _ hm ⟨by omega, fun z => absurd z (by omega), fun _ => at26 (401 - d) d (by omega) (Nat.le_refl d) (Or.inl ⟨by omega, by rw [if_pos rfl]⟩)⟩
  refine at14 400 1 [] M0 (by omega) (by omega) (by omega) (by rw [List.nil_append, ← hLr]; rfl) ⟨fun _ _ _ => rfl, fun _ _ => rfl, fun _ _ => rfl⟩ ⟨by rw [k16, List.length_nil]; rfl, fun i p hp => by simp at hp⟩ (fun i p hp => by simp at hp)
end
