/-! joinedCount, joined, placed: the class. -/
noncomputable def jW (w : Nat → Int) (u : Int) : List (Nat × Nat) := pG (trA w 0 u) (trA w 1 u) (w 58) (evW w 0 u) (evW w 1 u) (tot w) (w 60) (evW w 0 u).length 0 []
noncomputable def fJc (w : Nat → Int) (u : Int) : Int := if 1 ≤ u ∧ u ≤ 9 then (((jW w u).length : Nat) : Int) else -1000002
def lsL (T : Int → Int) (a : Int) (L : List (Nat × Nat)) (i : Nat) : Int := match L[i]? with
  | some p => eLs T a p
  | none => 0
noncomputable def jA (w : Nat → Int) (u : Int) (j : Int) (q : Nat × Nat) : Int := if j = 0 then (q.1 : Int) else if j = 1 then (q.2 : Int) else if j = 2 then lsL (trA w 0 u) (w 58) (evW w 0 u) q.1 + lsL (trA w 1 u) (w 58) (evW w 1 u) q.2 else lsL (trA w 0 u) (w 58) (evW w 0 u) q.1 - lsL (trA w 1 u) (w 58) (evW w 1 u) q.2
noncomputable def fJd (w : Nat → Int) (u k j : Int) : Int := if (1 ≤ u ∧ u ≤ 9) ∧ 0 ≤ k ∧ (0 ≤ j ∧ j ≤ 3) then (match (jW w u)[k.toNat]? with
  | some q => jA w u j q
  | none => -1000005) else -1000002
def rte (w : Nat → Int) (σ e : Int) : Int := if e = -1000005 then -1000005 else if 0 ≤ (if σ = 0 then e else tot w - e) then rtG w (if σ = 0 then e else tot w - e) (wn w) else -1000005
noncomputable def fPlc (w : Nat → Int) (u j : Int) : Int := if (1 ≤ u ∧ u ≤ 9) ∧ (0 ≤ j ∧ j ≤ 2) then (if j = 0 then rte w 0 (fEnd (trA w 0 u) (w 58) (evW w 0 u)) else if j = 1 then rte w 1 (fEnd (trA w 1 u) (w 58) (evW w 1 u)) else if rte w 0 (fEnd (trA w 0 u) (w 58) (evW w 0 u)) = -1000005 ∨ rte w 1 (fEnd (trA w 1 u) (w 58) (evW w 1 u)) = -1000005 then -1000005 else rte w 1 (fEnd (trA w 1 u) (w 58) (evW w 1 u)) - rte w 0 (fEnd (trA w 0 u) (w 58) (evW w 0 u))) else -1000002
theorem fEnd_b {T : Int → Int} {a : Int} : ∀ {L : List (Nat × Nat)} {lo : Nat}, RunOk lo L → fEnd T a L = -1000005 ∨ ((lo : Int) ≤ fEnd T a L ∧ fEnd T a L ≤ 400)
  | [], _, _ => Or.inl rfl
  | p :: t, lo, ⟨b, c, d, e⟩ => by
    rw [fEnd]
    by_cases h : eKd T a p = 2
    · rw [if_pos h]; right; omega
    · rw [if_neg h]
      rcases fEnd_b (T := T) (a := a) e with z | z
      · exact Or.inl z
      · right; omega
theorem rtG_b {w : Nat → Int} (hw : wOk w) {u : Int} (hu : 0 ≤ u) : ∀ (d : Nat), d ≤ wn w → rtG w u d = -1000005 ∨ (0 ≤ rtG w u d ∧ rtG w u d ≤ 100000000)
  | 0, _ => Or.inl rfl
  | d + 1, hd => by
    obtain ⟨hn, hn10⟩ := wn_b hw
    have o11 := hw.2.2.2.2.2.2.2.2.2.2.1
    have h83 := hw.2.2.2.2.2.2.2.2.2.2.2.2
    have hp := o11 (wn w - (d + 1)) (by omega)
    rw [rtG_s]
    by_cases h1 : u ≤ rch w (wn w - (d + 1)) + w (64 + 2 * (wn w - (d + 1)))
    · rw [if_pos h1]; right; omega
    · rw [if_neg h1]
      by_cases h2 : 0 < d ∧ u < rch w (wn w - d)
      · rw [if_pos h2]
        right
        have hb := rch_b hw (i := wn w - d) (by omega)
        have hb0 := rch_b hw (i := wn w - (d + 1)) (by omega)
        have hx : 0 ≤ (u - (rch w (wn w - (d + 1)) + w (64 + 2 * (wn w - (d + 1))))) * 1000 ∧ (u - (rch w (wn w - (d + 1)) + w (64 + 2 * (wn w - (d + 1))))) * 1000 ≤ 120000 * 1000 := by omega
        have h10 : 0 ≤ (u - (rch w (wn w - (d + 1)) + w (64 + 2 * (wn w - (d + 1))))) * 1000 / (1000 + w 83) := Int.ediv_nonneg hx.1 (by omega)
        have h11 : (u - (rch w (wn w - (d + 1)) + w (64 + 2 * (wn w - (d + 1))))) * 1000 / (1000 + w 83) ≤ (u - (rch w (wn w - (d + 1)) + w (64 + 2 * (wn w - (d + 1))))) * 1000 / 1000 := by
          apply Int.le_ediv_of_mul_le (by decide)
          have hm : (u - (rch w (wn w - (d + 1)) + w (64 + 2 * (wn w - (d + 1))))) * 1000 / (1000 + w 83) * (1000 + w 83) ≤ (u - (rch w (wn w - (d + 1)) + w (64 + 2 * (wn w - (d + 1))))) * 1000 := Int.ediv_mul_le _ (by omega)
          have hm2 : (u - (rch w (wn w - (d + 1)) + w (64 + 2 * (wn w - (d + 1))))) * 1000 / (1000 + w 83) * 1000 ≤ (u - (rch w (wn w - (d + 1)) + w (64 + 2 * (wn w - (d + 1))))) * 1000 / (1000 + w 83) * (1000 + w 83) := Int.mul_le_mul_of_nonneg_left (by omega) h10
          omega
        omega
      · rw [if_neg h2]
        exact rtG_b hw hu d (by omega)
theorem rte_b {w : Nat → Int} (hw : wOk w) (σ e : Int) : rte w σ e = -1000005 ∨ (0 ≤ rte w σ e ∧ rte w σ e ≤ 100000000) := by
  unfold rte
  by_cases h : e = -1000005
  · rw [if_pos h]; exact Or.inl rfl
  · rw [if_neg h]
    by_cases h2 : 0 ≤ (if σ = 0 then e else tot w - e)
    · rw [if_pos h2]; exact rtG_b hw h2 _ (Nat.le_refl _)
    · rw [if_neg h2]; exact Or.inl rfl
theorem pG_ok {T0 T1 : Int → Int} {a : Int} {L0 L1 : List (Nat × Nat)} {t tl : Int} : ∀ (n k : Nat) (P : List (Nat × Nat)), (∀ q, q ∈ P → q.1 < k ∧ q.2 < L1.length) → (pG T0 T1 a L0 L1 t tl n k P).length ≤ P.length + n ∧ ∀ q, q ∈ pG T0 T1 a L0 L1 t tl n k P → q.1 < k + n ∧ q.2 < L1.length
  | 0, k, P, h => ⟨Nat.le_refl _, h⟩
  | n + 1, k, P, h => by
    have i1 := pG_ok (T0 := T0) (T1 := T1) (a := a) (L0 := L0) (L1 := L1) (t := t) (tl := tl) n (k + 1) P (fun q hq => by have := h q hq; omega)
    have r1 : (pG T0 T1 a L0 L1 t tl n (k + 1) P).length ≤ P.length + (n + 1) ∧ ∀ q, q ∈ pG T0 T1 a L0 L1 t tl n (k + 1) P → q.1 < k + (n + 1) ∧ q.2 < L1.length := ⟨by omega, fun q hq => by have := i1.2 q hq; omega⟩
    rw [pG]
    cases hp : L0[k]? with
    | none => exact r1
    | some p =>
      dsimp only
      by_cases hc : eKd T0 a p = 2 ∨ ptG T1 a L1 t tl P (p.1 : Int) L1.length 0 = -1000005
      · rw [if_pos hc]; exact r1
      · rw [if_neg hc]
        have pb := ptG_b (T := T1) (a := a) (L := L1) (t := t) (tl := tl) (P := P) (s := (p.1 : Int)) L1.length 0
        have hpb : (ptG T1 a L1 t tl P (p.1 : Int) L1.length 0).toNat < L1.length := by
          rcases pb with z | z
          · exact absurd (Or.inr z) hc
          · omega
        have i2 := pG_ok (T0 := T0) (T1 := T1) (a := a) (L0 := L0) (L1 := L1) (t := t) (tl := tl) n (k + 1) (P ++ [(k, (ptG T1 a L1 t tl P (p.1 : Int) L1.length 0).toNat)]) (fun q hq => by
          rcases List.mem_append.mp hq with hq | hq
          · have := h q hq; omega
          · have : q = (k, (ptG T1 a L1 t tl P (p.1 : Int) L1.length 0).toNat) := by simpa using hq
            subst this
            exact ⟨by dsimp only; omega, hpb⟩)
        rw [List.length_append, List.length_singleton] at i2
        exact ⟨by omega, fun q hq => by have := i2.2 q hq; omega⟩
theorem jW_ok (w : Nat → Int) (u : Int) : (jW w u).length ≤ 200 ∧ ∀ q, q ∈ jW w u → q.1 < 200 ∧ q.2 < 200 := by
  have h0 : (evW w 0 u).length ≤ 200 := (evR_ok _ _ _).2
  have h1 : (evW w 1 u).length ≤ 200 := (evR_ok _ _ _).2
  have h := pG_ok (T0 := trA w 0 u) (T1 := trA w 1 u) (a := w 58) (L0 := evW w 0 u) (L1 := evW w 1 u) (t := tot w) (tl := w 60) (evW w 0 u).length 0 [] (fun q hq => by simp at hq)
  rw [List.length_nil] at h
  exact ⟨by unfold jW; omega, fun q hq => by have := h.2 q hq; omega⟩
def CQ (E : fxE) (M M' : fxM) (b : Nat) (w : Nat → Int) (v : Nat) : Prop := KF E M M' [1, 4, 7, 8] ∧ CV E M' b w v ∧ CT E M' b w v ∧ CE E M' b w v
section
variable {E : fxE} {M : fxM}
theorem PE.cq {M' : fxM} {b v : Nat} {w : Nat → Int} (h : PE E M M' b w v) : CQ E M M' b w v := ⟨h.1.mono (by decide), h.2⟩
theorem PT.cq {M' : fxM} (hW : fx_Wt E) {b v : Nat} {w : Nat → Int} (hb : kd E b = 9) (hE : CE E M b w v) (h : PT E M M' b w v) : CQ E M M' b w v := ⟨h.1.mono (by decide), h.2.1, h.2.2, hE.kf hW hb h.1 (by decide)⟩
theorem CQ.trans {M' M'' : fxM} {b v : Nat} {w : Nat → Int} (h : CQ E M M' b w v) (h' : CQ E M' M'' b w v) : CQ E M M'' b w v := ⟨h.1.trans h'.1, h'.2⟩
theorem CQ.rf' {b v : Nat} {w : Nat → Int} (hV : CV E M b w v) (hT : CT E M b w v) (hE : CE E M b w v) : CQ E M M b w v := ⟨fun _ _ => rfl, hV, hT, hE⟩
/-- both lists, and the pairs of them -/
theorem ct_joinSides (hW : fx_Wt E) {b n v : Nat} {w : Nat → Int} {H : Nat → Nat → Int} {T0 T1 : Int → Int} {L0 L1 : List (Nat × Nat)} (hb : kd E b = 9) (hC : CI E M b w H n v) (hw : wOk w) (hI0 : EvI E M (el E b 0) T0 (w 58) L0) (hI1 : EvI E M (el E b 1) T1 (w 58) L1) (hL0 : RunOk 1 L0 ∧ L0.length ≤ 200) (hL1 : RunOk 1 L1 ∧ L1.length ≤ 200) : CtV E m_X9_joinSides [.inr b, .inr (el E b 0), .inr (el E b 1)] M (fun M' => PI E M' (rf E b 7) (pG T0 T1 (w 58) L0 L1 (tot w) (w 60) L0.length 0 []) ∧ Fo E M M' (rf E b 7)) := by
  have h0 := hw.1
  have h3 := hw.2.2.1
  have h1 := hw.tot1
  have w60 := hw.2.2.2.2.2.2.2.2.1 2 (by decide)
  have hsv : sv 0 2 = 0 ∧ sv 1 2 = 20 := ⟨rfl, rfl⟩
  rw [show 58 + 2 = 60 from rfl] at w60
  have e60 : M (rf E (rf E b 0) 2) 2 = w 60 := hC.1.2.2 2 (by decide)
  refine x_ct (by decide) (Nat.le_of_ble_eq_true rfl) (b_X9_joinSides_0 hW b _ _ M _ hb (el_kd hW hb (by decide)) (el_kd hW hb (by decide)) ?_)
  rw [hC.1.1.tot (by omega), hC.1.1.1, e60]
  exact ⟨by omega, _, ct_pair hW (wk_9_7 hW hb) (el_kd hW hb (by decide)) (el_kd hW hb (by decide)) hI0 hI1 hL0.1 hL1.1 hL0.2 hL1.2 (by omega) (by omega), fun M2 g2 => ⟨rfl, g2⟩⟩
theorem Fo.cq {M' : fxM} (hW : fx_Wt E) {b v : Nat} {w : Nat → Int} (hb : kd E b = 9) (hV : CV E M b w v) (hT : CT E M b w v) (hE : CE E M b w v) (h : Fo E M M' (rf E b 7)) : CQ E M M' b w v := by
  have hk : KF E M M' [4] := h.kf (wk_9_7 hW hb) (by decide) rfl (by decide)
  exact ⟨hk.mono (by decide), hV.kf hW hb hk (by decide), hT.kf hW hb hk (by decide), hE.kf hW hb hk (by decide)⟩
theorem cl_joinedCount (hW : fx_Wt E) {b n v : Nat} {w : Nat → Int} {H : Nat → Nat → Int} {u : Int} (hb : kd E b = 9) (hC : CI E M b w H n v) (hw : wOk w) (hV : CV E M b w v) (hT : CT E M b w v) (hE : CE E M b w v) (hv : v < 1000000) (h2 : inR u) : CtI E m_X9_joinedCount [.inr b, .inl u] M (fun r M' => r = fJc w u ∧ CQ E M M' b w v) := by
  refine x_ct (by decide) (Nat.le_of_ble_eq_true rfl) (b_X9_joinedCount_0 hW b u M _ hb ⟨h2, fun hu => ⟨_, ct_eventsOf (s := 0) hW hb hC hw hV hT hE (by decide) hu hv, fun v3 M3 g3 => ?_⟩, fun hu => ⟨_, rfl, by rw [fJc, if_neg hu], CQ.rf' hV hT hE⟩⟩)
  obtain ⟨rfl, p3, i3, -⟩ := g3
  have hC3 := p3.ci hW hb hC
  refine ⟨el_kd hW hb (by decide), _, ct_eventsOf (s := 1) hW hb hC3 hw p3.2.1 p3.2.2.1 p3.2.2.2 (by decide) hu hv, fun v4 M4 g4 => ?_⟩
  obtain ⟨rfl, p4, i4, o4⟩ := g4
  have he0 := el_kd hW hb (s := 0) (by decide)
  have i30 : EvI E M4 (el E b 0) (trA w (0 : Nat) u) (w 58) (evR (trA w (0 : Nat) u) (w 58) (w 59)) := i3.sa hW he0 (fun k hk => o4 0 (by decide) (by decide) _ (oe hW he0 hk)) (by rw [o4 0 (by decide) (by decide) _ (own_o he0 (by decide))])
  have p34 := p3.cq.trans p4.cq
  refine ⟨el_kd hW hb (by decide), _, ct_joinSides hW hb (p4.ci hW hb hC3) hw i30 i4 (evR_ok _ _ _) (evR_ok _ _ _), fun M5 g5 => ⟨_, rfl, ?_, p34.trans (g5.2.cq hW hb p34.2.1 p34.2.2.1 p34.2.2.2)⟩⟩
  rw [g5.1.1, fJc, if_pos hu]
  rfl
theorem cl_joined (hW : fx_Wt E) {b n v : Nat} {w : Nat → Int} {H : Nat → Nat → Int} {u k j : Int} (hb : kd E b = 9) (hC : CI E M b w H n v) (hw : wOk w) (hV : CV E M b w v) (hT : CT E M b w v) (hE : CE E M b w v) (hv : v < 1000000) (h2 : inR u) (h3 : inR k) (h4 : inR j) : CtI E m_X9_joined [.inr b, .inl u, .inl k, .inl j] M (fun r M' => r = fJd w u k j ∧ CQ E M M' b w v) := by
  have bad : ¬ ((1 ≤ u ∧ u ≤ 9) ∧ 0 ≤ k ∧ (0 ≤ j ∧ j ≤ 3)) → (∃ x : Int, some (Sum.inl (-1000002) : fxV) = some (.inl x) ∧ x = fJd w u k j ∧ CQ E M M b w v) := fun h => ⟨_, rfl, by rw [fJd, if_neg h], CQ.rf' hV hT hE⟩
  refine x_ct (by decide) (Nat.le_of_ble_eq_true rfl) (b_X9_joined_0 hW b u k j M _ hb ⟨h2, fun hu => ⟨h3, fun hk => bad (fun z => by omega), fun hk => ⟨h4, fun hj => ⟨_, ct_eventsOf (s := 0) hW hb hC hw hV hT hE (by decide) hu hv, fun v3 M3 g3 => ?_⟩, fun hj => bad (fun z => hj z.2.2)⟩⟩, fun hu => bad (fun z => hu z.1)⟩)
  obtain ⟨rfl, p3, i3, -⟩ := g3
  have hC3 := p3.ci hW hb hC
  refine ⟨el_kd hW hb (by decide), _, ct_eventsOf (s := 1) hW hb hC3 hw p3.2.1 p3.2.2.1 p3.2.2.2 (by decide) hu hv, fun v4 M4 g4 => ?_⟩
  obtain ⟨rfl, p4, i4, o4⟩ := g4
  have he0 := el_kd hW hb (s := 0) (by decide)
  have he1 := el_kd hW hb (s := 1) (by decide)
  have hr := wk_9_7 hW hb
  have i30 : EvI E M4 (el E b 0) (trA w (0 : Nat) u) (w 58) (evR (trA w (0 : Nat) u) (w 58) (w 59)) := i3.sa hW he0 (fun k hk => o4 0 (by decide) (by decide) _ (oe hW he0 hk)) (by rw [o4 0 (by decide) (by decide) _ (own_o he0 (by decide))])
  have p34 := p3.cq.trans p4.cq
  refine ⟨he1, _, ct_joinSides hW hb (p4.ci hW hb hC3) hw i30 i4 (evR_ok _ _ _) (evR_ok _ _ _), fun M5 g5 => ?_⟩
  have pf := p34.trans (g5.2.cq hW hb p34.2.1 p34.2.2.1 p34.2.2.2)
  have i0 := i30.fo hW he0 g5.2 (kd_ne he0 hr (by decide))
  have i1 := i4.fo hW he1 g5.2 (kd_ne he1 hr (by decide))
  have len : M5 (rf E b 7) 3 = (((jW w u).length : Nat) : Int) := g5.1.1
  have evl : ∀ (s i : Nat), s < 2 → EvI E M5 (el E b s) (trA w s u) (w 58) (evW w s u) → evL E M5 (el E b s) (i : Int) = lsL (trA w s u) (w 58) (evW w s u) i := fun s i hs hI => by
    unfold evL lsL
    rw [hI.1]
    by_cases hi : i < (evW w s u).length
    · rw [if_pos (by omega), Int.toNat_natCast]
      obtain ⟨p, hp⟩ : ∃ p, (evW w s u)[i]? = some p := ⟨(evW w s u)[i], List.getElem?_eq_getElem hi⟩
      rw [hp, (hI.2.1 i p hp).2.2.2.1]
    · rw [if_neg (by omega), List.getElem?_eq_none (by omega)]
  have hlN := (jW_ok w u).1
  obtain ⟨q, rfl⟩ : ∃ q : Nat, k = (q : Int) := ⟨k.toNat, by omega⟩
  rw [len, Int.toNat_natCast]
  refine ⟨by omega, fun hlt => ?_, fun hge => ⟨_, rfl, ?_, pf⟩⟩
  · obtain ⟨p, hp⟩ : ∃ p, (jW w u)[q]? = some p := ⟨(jW w u)[q]'(by omega), List.getElem?_eq_getElem (by omega)⟩
    have e := g5.1.2.1 q p hp
    have ef : fJd w u q j = jA w u j p := by rw [fJd, if_pos ⟨hu, by omega, hj⟩, Int.toNat_natCast, hp]
    have l0 : M5 (el E b 0) 6 = (((evW w (0 : Nat) u).length : Nat) : Int) := i0.1
    have l1 : M5 (el E b 1) 6 = (((evW w (1 : Nat) u).length : Nat) : Int) := i1.1
    have n0 : (evW w (0 : Nat) u).length ≤ 200 := (evR_ok _ _ _).2
    have n1 : (evW w (1 : Nat) u).length ≤ 200 := (evR_ok _ _ _).2
    have ep := (jW_ok w u).2 p (List.mem_of_getElem? hp)
    rw [ef, e.1, e.2, evl 0 p.1 (by decide) i0, evl 1 p.2 (by decide) i1]
    refine ⟨by omega, fun h => ⟨_, rfl, ?_, pf⟩, fun h => ⟨_, rfl, ?_, pf⟩, fun h => ⟨by omega, by omega, by omega, by omega, _, rfl, ?_, pf⟩, fun h => ⟨by omega, by omega, by omega, by omega, _, rfl, ?_, pf⟩⟩
    · rw [jA, if_pos h]
    · rw [jA, if_neg (by omega), if_pos h]
    · rw [jA, if_neg (by omega), if_neg (by omega), if_pos h]; rfl
    · rw [jA, if_neg (by omega), if_neg (by omega), if_neg (by omega)]; rfl
  · rw [fJd, if_pos ⟨hu, by omega, hj⟩, Int.toNat_natCast, List.getElem?_eq_none (by omega)]
theorem ct_routeOfEnd (hW : fx_Wt E) {b n v : Nat} {w : Nat → Int} {H : Nat → Nat → Int} {σ e : Int} (hb : kd E b = 9) (hC : CI E M b w H n v) (hw : wOk w) (hσ : inR σ) (he : e = -1000005 ∨ (0 ≤ e ∧ e ≤ 400)) : CtI E m_X9_routeOfEnd [.inr b, .inl σ, .inl e] M (fun r M' => r = rte w σ e ∧ M' = M) := by
  have h0 := hw.1
  have h3 := hw.2.2.1
  have h1 := hw.tot1
  obtain ⟨-, -, hm⟩ := wne hW hb
  refine x_ct (by decide) (Nat.le_of_ble_eq_true rfl) (b_X9_routeOfEnd_0 hW b σ e M _ hb ?_)
  rw [hC.1.1.tot (by omega), hC.1.1.1]
  refine ⟨by omega, fun hne => ⟨hσ, fun hs => ⟨by omega, by omega, fun hp => ⟨_, ct_routeOf hW hm hC.1.2.1 hw (by omega), fun v5 M5 g5 => ⟨_, rfl, ?_, g5.2⟩⟩, fun hp => ⟨_, rfl, ?_, rfl⟩⟩, fun hs => ⟨fun hp => ⟨_, ct_routeOf hW hm hC.1.2.1 hw (by omega), fun v5 M5 g5 => ⟨_, rfl, ?_, g5.2⟩⟩, fun hp => ⟨_, rfl, ?_, rfl⟩⟩⟩, fun heq => ⟨_, rfl, by rw [rte, if_pos heq], rfl⟩⟩
  · rw [rte, if_neg hne, if_neg hs, if_pos hp, g5.1]
  · rw [rte, if_neg hne, if_neg hs, if_neg hp]
  · rw [rte, if_neg hne, if_pos hs, if_pos hp, g5.1]
  · rw [rte, if_neg hne, if_pos hs, if_neg hp]
theorem cl_placed (hW : fx_Wt E) {b n v : Nat} {w : Nat → Int} {H : Nat → Nat → Int} {u j : Int} (hb : kd E b = 9) (hC : CI E M b w H n v) (hw : wOk w) (hV : CV E M b w v) (hT : CT E M b w v) (hE : CE E M b w v) (hv : v < 1000000) (h2 : inR u) (h4 : inR j) : CtI E m_X9_placed [.inr b, .inl u, .inl j] M (fun r M' => r = fPlc w u j ∧ CQ E M M' b w v) := by
  have bad : ¬ ((1 ≤ u ∧ u ≤ 9) ∧ (0 ≤ j ∧ j ≤ 2)) → (∃ x : Int, some (Sum.inl (-1000002) : fxV) = some (.inl x) ∧ x = fPlc w u j ∧ CQ E M M b w v) := fun h => ⟨_, rfl, by rw [fPlc, if_neg h], CQ.rf' hV hT hE⟩
  -- one side's end on the route
  have side : ∀ (s : Nat), s < 2 → (1 ≤ u ∧ u ≤ 9) → ∀ (M1 : fxM), CQ E M M1 b w v → ∀ (K : Int → fxM → Prop), (∀ (x : Int) (M2 : fxM), x = rte w s (fEnd (trA w s u) (w 58) (evW w s u)) → CQ E M M2 b w v → K x M2) → ∃ R5 : Nat → fxM → Prop, CtA E m_X9_eventsOf [.inr b, .inl (s : Int), .inl u] M1 R5 ∧ ∀ (v5 : Nat) (M5 : fxM), R5 v5 M5 → kd E v5 = 1 ∧ ∃ R6 : Int → fxM → Prop, CtI E m_X1_firstEnd [.inr v5] M5 R6 ∧ ∀ (v6 : Int) (M6 : fxM), R6 v6 M6 → ∃ R7 : Int → fxM → Prop, CtI E m_X9_routeOfEnd [.inr b, .inl (s : Int), .inl v6] M6 R7 ∧ ∀ (v7 : Int) (M7 : fxM), R7 v7 M7 → K v7 M7 := by
    intro s hs hu M1 q1 K hK
    have hC1 := hC.kf hW hb q1.1 (by decide)
    have hL : RunOk 1 (evW w s u) ∧ (evW w s u).length ≤ 200 := evR_ok _ _ _
    refine ⟨_, ct_eventsOf hW hb hC1 hw q1.2.1 q1.2.2.1 q1.2.2.2 hs hu hv, fun v5 M5 g5 => ?_⟩
    obtain ⟨rfl, p5, i5, -⟩ := g5
    refine ⟨el_kd hW hb hs, _, ct_firstEnd hW (el_kd hW hb hs) i5 hL.2, fun v6 M6 g6 => ?_⟩
    obtain ⟨e6, rfl⟩ := g6
    have fb : fEnd (trA w s u) (w 58) (evW w s u) = -1000005 ∨ (0 ≤ fEnd (trA w s u) (w 58) (evW w s u) ∧ fEnd (trA w s u) (w 58) (evW w s u) ≤ 400) := by
      rcases fEnd_b (T := trA w s u) (a := w 58) hL.1 with z | z
      · exact Or.inl z
      · exact Or.inr (by omega)
    have e6' : v6 = fEnd (trA w s u) (w 58) (evW w s u) := e6
    refine ⟨_, ct_routeOfEnd hW hb (p5.ci hW hb hC1) hw ⟨by omega, by omega⟩ (by rw [e6']; exact fb), fun v7 M7 g7 => ?_⟩
    refine hK v7 M7 (by rw [g7.1, e6']) ?_
    rw [g7.2]
    exact q1.trans p5.cq
  refine x_ct (by decide) (Nat.le_of_ble_eq_true rfl) (b_X9_placed_0 hW b u j M _ hb ⟨h2, fun hu => ⟨h4, fun hj => ?_, fun hj => bad (fun z => hj z.2)⟩, fun hu => bad (fun z => hu z.1)⟩)
  have q0 : CQ E M M b w v := CQ.rf' hV hT hE
  have b0 := rte_b hw (0 : Nat) (fEnd (trA w (0 : Nat) u) (w 58) (evW w (0 : Nat) u))
  have b1 := rte_b hw (1 : Nat) (fEnd (trA w (1 : Nat) u) (w 58) (evW w (1 : Nat) u))
  have ef : fPlc w u j = if j = 0 then rte w (0 : Nat) (fEnd (trA w (0 : Nat) u) (w 58) (evW w (0 : Nat) u)) else if j = 1 then rte w (1 : Nat) (fEnd (trA w (1 : Nat) u) (w 58) (evW w (1 : Nat) u)) else if rte w (0 : Nat) (fEnd (trA w (0 : Nat) u) (w 58) (evW w (0 : Nat) u)) = -1000005 ∨ rte w (1 : Nat) (fEnd (trA w (1 : Nat) u) (w 58) (evW w (1 : Nat) u)) = -1000005 then -1000005 else rte w (1 : Nat) (fEnd (trA w (1 : Nat) u) (w 58) (evW w (1 : Nat) u)) - rte w (0 : Nat) (fEnd (trA w (0 : Nat) u) (w 58) (evW w (0 : Nat) u)) := by
    rw [fPlc, if_pos ⟨hu, hj⟩]
    rfl
  obtain ⟨A0, hA0⟩ : ∃ A0, rte w (0 : Nat) (fEnd (trA w (0 : Nat) u) (w 58) (evW w (0 : Nat) u)) = A0 := ⟨_, rfl⟩
  obtain ⟨A1, hA1⟩ : ∃ A1, rte w (1 : Nat) (fEnd (trA w (1 : Nat) u) (w 58) (evW w (1 : Nat) u)) = A1 := ⟨_, rfl⟩
  rw [hA0, hA1] at ef
  rw [hA0] at b0
  rw [hA1] at b1
  rw [ef]
  have at65 : ∀ (x3 s0 : Int) (M1 : fxM), CQ E M M1 b w v → (j = 1 ∨ x3 = A0) → (j = 0 ∨ s0 = A1) → (j = 1 → x3 = 0) → (j = 0 → s0 = 0) → fx_At E m_X9_placed 65 [some (.inr b), some (.inl u), some (.inl j), some (.inl x3), none] [.inl s0] M1 (fun r M' => ∃ x : Int, r = some (.inl x) ∧ x = (if j = 0 then A0 else if j = 1 then A1 else if A0 = -1000005 ∨ A1 = -1000005 then -1000005 else A1 - A0) ∧ CQ E M M' b w v) := by
    intro x3 s0 M1 q1 c1 c2 c3 c4
    refine b_X9_placed_65 hW b _ _ _ _ M1 _ hb ⟨by omega, fun hx => ⟨_, rfl, ?_, q1⟩, fun hx => ⟨by omega, fun hs => ⟨by omega, fun hj0 => ⟨fun hj1 => ⟨_, rfl, ?_, q1⟩, fun hj1 => ⟨_, rfl, ?_, q1⟩⟩, fun hj0 => ⟨_, rfl, ?_, q1⟩⟩, fun hs => ⟨_, rfl, ?_, q1⟩⟩⟩
    · by_cases j0 : j = 0
      · rw [if_pos j0]; omega
      · rw [if_neg j0, if_neg (by omega), if_pos (Or.inl (by omega))]
    · rw [if_neg hj0, if_neg hj1, if_neg (by omega)]; omega
    · rw [if_neg hj0, if_pos hj1]; omega
    · rw [if_pos hj0]; omega
    · by_cases j1 : j = 1
      · rw [if_neg (by omega), if_pos j1]; omega
      · rw [if_neg (by omega), if_neg j1, if_pos (Or.inr (by omega))]
  refine ⟨fun hj1 => side 0 (by decide) hu M q0 _ (fun x M2 hx q2 => ⟨fun hj0 => side 1 (by decide) hu M2 q2 _ (fun y M3 hy q3 => at65 x y M3 q3 (Or.inr (by rw [hx, hA0])) (Or.inr (by rw [hy, hA1])) (fun z => absurd z hj1) (fun z => absurd z hj0)), fun hj0 => at65 x 0 M2 q2 (Or.inr (by rw [hx, hA0])) (Or.inl hj0) (fun z => absurd z hj1) (fun _ => rfl)⟩), fun hj1 => ⟨fun hj0 => side 1 (by decide) hu M q0 _ (fun y M3 hy q3 => at65 0 y M3 q3 (Or.inl hj1) (Or.inr (by rw [hy, hA1])) (fun _ => rfl) (fun z => absurd z hj0)), fun hj0 => absurd hj0 (by omega)⟩⟩
end
