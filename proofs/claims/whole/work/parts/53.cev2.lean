/-! The class's events: ghosts, the first end; the lists as they are kept. -/
noncomputable def gN (T : Int → Int) (a : Int) (L : List (Nat × Nat)) (k : Nat) : Int := match L[k]? with
  | some p => ghN T a L k p
  | none => -1000005
noncomputable def evA (T : Int → Int) (a : Int) (L : List (Nat × Nat)) (k : Nat) (j : Int) : Int := match L[k]? with
  | some p => if j = 0 then (p.1 : Int) else if j = 1 then (p.2 : Int) else if j = 2 then eKd T a p else if j = 3 then eLs T a p else if j = 4 then eRs T p else if j = 5 then ghN T a L k p else ghO T a L k p
  | none => 0
theorem Bon_b {T : Int → Int} {a d : Int} {L : List (Nat × Nat)} (hL : RunOk 1 L) (h : Bon T a L d) : 1 ≤ d ∧ d ≤ 400 := by
  obtain ⟨i, p, h1, h2, h3⟩ := h
  have := hL.at h1
  omega
theorem ghN_b {T : Int → Int} {a : Int} {L : List (Nat × Nat)} {k : Nat} {p : Nat × Nat} (hL : RunOk 1 L) : ghN T a L k p = -1000005 ∨ (1 ≤ ghN T a L k p ∧ ghN T a L k p ≤ 400) := by
  unfold ghN
  split
  · have : ∀ (L : List (Nat × Nat)) (lo k : Nat), RunOk lo L → RunOk lo (L.take k) := by
      intro L
      induction L with
      | nil => intro lo k h; rw [List.take_nil]; exact trivial
      | cons q t ih =>
        intro lo k h
        cases k with
        | zero => exact trivial
        | succ k => exact ⟨h.1, h.2.1, h.2.2.1, ih _ k h.2.2.2⟩
    exact ghG_b (this L 1 k hL)
  · exact Or.inl rfl
theorem drop_take {L : List (Nat × Nat)} {k i : Nat} {q : Nat × Nat} (hi : i < k) (hq : L[i]? = some q) : (L.take k).drop i = q :: (L.take k).drop (i + 1) := by
  have hlt : i < (L.take k).length := by
    rw [List.length_take]
    have := (List.getElem?_eq_some_iff.mp hq).1
    omega
  rw [List.drop_eq_getElem_cons hlt]
  congr 1
  rw [List.getElem_take]
  exact (List.getElem?_eq_some_iff.mp hq).2
theorem drop_cons {L : List (Nat × Nat)} {i : Nat} {q : Nat × Nat} (hq : L[i]? = some q) : L.drop i = q :: L.drop (i + 1) := by
  obtain ⟨h1, h2⟩ := List.getElem?_eq_some_iff.mp hq
  rw [List.drop_eq_getElem_cons h1, h2]
def el (E : fxE) (b s : Nat) : Nat := rf E (rf E b 6) s
def CE (E : fxE) (M : fxM) (b : Nat) (w : Nat → Int) (v : Nat) : Prop := ∀ s : Nat, s < 2 → (-1 ≤ M (el E b s) 8 ∧ M (el E b s) 8 ≤ (v : Int)) ∧ (0 ≤ M (el E b s) 7 ∧ M (el E b s) 7 ≤ 9) ∧ (M (el E b s) 8 = (v : Int) → EvI E M (el E b s) (trA w s (M (el E b s) 7)) (w 58) (evR (trA w s (M (el E b s) 7)) (w 58) (w 59)))
def PE (E : fxE) (M M' : fxM) (b : Nat) (w : Nat → Int) (v : Nat) : Prop := KF E M M' [1, 7, 8] ∧ CV E M' b w v ∧ CT E M' b w v ∧ CE E M' b w v
section
variable {E : fxE} {M : fxM}
theorem PE.trans {M' M'' : fxM} {b v : Nat} {w : Nat → Int} (h : PE E M M' b w v) (h' : PE E M' M'' b w v) : PE E M M'' b w v := ⟨h.1.trans h'.1, h'.2⟩
theorem PE.rf' {b v : Nat} {w : Nat → Int} (hV : CV E M b w v) (hT : CT E M b w v) (hE : CE E M b w v) : PE E M M b w v := ⟨fun _ _ => rfl, hV, hT, hE⟩
theorem PE.ci {M' : fxM} (hW : fx_Wt E) {b n v : Nat} {w : Nat → Int} {H : Nat → Nat → Int} (hb : kd E b = 9) (h : PE E M M' b w v) (hC : CI E M b w H n v) : CI E M' b w H n v := hC.kf hW hb h.1 (by decide)
theorem EvI.sa {M' : fxM} (hW : fx_Wt E) {e : Nat} {T : Int → Int} {a : Int} {A : List (Nat × Nat)} (he : kd E e = 1) (h : EvI E M e T a A) (hS : ∀ k, k < 6 → M' (rf E e k) = M (rf E e k)) (h6 : M' e 6 = M e 6) : EvI E M' e T a A := by
  unfold EvI at h ⊢
  rw [hS 0 (by decide), hS 1 (by decide), hS 2 (by decide), hS 3 (by decide), hS 4 (by decide), hS 5 (by decide), h6]
  exact h
theorem el_kd (hW : fx_Wt E) {b s : Nat} (hb : kd E b = 9) (hs : s < 2) : kd E (el E b s) = 1 := by
  have := we_13 (i := (s : Int)) hW (wk_9_6 hW hb) (wl_9_6 hW hb) ⟨by omega, by omega⟩
  rwa [Int.toNat_natCast] at this
theorem el_ne (hW : fx_Wt E) {b i j : Nat} (hb : kd E b = 9) (hi : i < 2) (hj : j < 2) (hij : i ≠ j) : el E b i ≠ el E b j := fun e => by
  have hk := wk_9_6 hW hb
  have hl := wl_9_6 hW hb
  exact hij (wd hW (rs_a hk (by decide) (by omega)) (rs_a hk (by decide) (by omega)) e).2
theorem KF.el {M' : fxM} (hW : fx_Wt E) {b s : Nat} {ks : List Nat} (hb : kd E b = 9) (hs : s < 2) (hF : KF E M M' ks) (hk : 1 ∉ ks) : Sa E M M' (el E b s) := fun c hc => hF c (by
  have he := el_kd hW hb hs
  rw [reg_own (by omega) hc, reg_top he rfl, he]; exact hk)
theorem CE.sa {M' : fxM} (hW : fx_Wt E) {b v : Nat} {w : Nat → Int} (hb : kd E b = 9) (h : CE E M b w v) (hS : ∀ s, s < 2 → Sa E M M' (el E b s)) : CE E M' b w v := fun s hs => by
  have he := el_kd hW hb hs
  have e : M' (el E b s) = M (el E b s) := hS s hs _ (own_o he (by decide))
  rw [e]
  exact ⟨(h s hs).1, (h s hs).2.1, fun z => ((h s hs).2.2 z).sa hW he (fun k hk => hS s hs _ (oe hW he hk)) (by rw [e])⟩
theorem CE.kf {M' : fxM} (hW : fx_Wt E) {b v : Nat} {w : Nat → Int} {ks : List Nat} (hb : kd E b = 9) (h : CE E M b w v) (hF : KF E M M' ks) (hk : 1 ∉ ks) : CE E M' b w v := h.sa hW hb (fun _ hs => hF.el hW hb hs hk)
theorem CE.next {M' : fxM} (hW : fx_Wt E) {b v : Nat} {w w' : Nat → Int} {ks : List Nat} (hb : kd E b = 9) (h : CE E M b w v) (hF : KF E M M' ks) (hk : 1 ∉ ks) : CE E M' b w' (v + 1) := fun s hs => by
  have he := el_kd hW hb hs
  have e : M' (el E b s) = M (el E b s) := hF.el hW hb hs hk _ (own_o he (by decide))
  rw [e]
  have := h s hs
  exact ⟨by omega, this.2.1, fun z => absurd z (by omega)⟩
theorem ct_bouncesFrom (hW : fx_Wt E) {e : Nat} {T : Int → Int} {a d : Int} {A : List (Nat × Nat)} (he : kd E e = 1) (hI : EvI E M e T a A) (hA : RunOk 1 A) (hd : inR d) : CtI E m_X1_bouncesFrom [.inr e, .inl d] M (fun r M' => M' = M ∧ ((Bon T a A d ∧ r = 1) ∨ (¬ Bon T a A d ∧ r = 0))) := by
  refine x_ct (by decide) (Nat.le_of_ble_eq_true rfl) (b_X1_bouncesFrom_0 hW e d M _ he ⟨hd, fun h => ⟨_, rfl, rfl, Or.inr ⟨fun z => by have := Bon_b hA z; omega, rfl⟩⟩, fun h => ⟨fun h2 => ⟨_, rfl, rfl, Or.inr ⟨fun z => by have := Bon_b hA z; omega, rfl⟩⟩, fun h2 => ?_⟩⟩)
  obtain ⟨n, rfl⟩ : ∃ n : Nat, d = (n : Int) := ⟨d.toNat, by omega⟩
  have hb := hI.2.2 n (by omega)
  rw [Int.toNat_natCast]
  refine ⟨by omega, by omega, fun h0 => ⟨_, rfl, rfl, Or.inr ⟨fun z => ?_, rfl⟩⟩, fun h0 => ⟨_, rfl, rfl, Or.inl ⟨hb.2.mp (by omega), rfl⟩⟩⟩
  have := hb.2.mpr z
  omega
theorem ct_ghostMirror (hW : fx_Wt E) {e k : Nat} {T : Int → Int} {a : Int} {L : List (Nat × Nat)} {p : Nat × Nat} (he : kd E e = 1) (hI : EvI E M e T a L) (hL : RunOk 1 L) (hN : L.length ≤ 200) (hp : L[k]? = some p) : CtI E m_X1_ghostMirror [.inr e, .inl (k : Int)] M (fun r M' => r = ghN T a L k p ∧ M' = M) := by
  have hk := (List.getElem?_eq_some_iff.mp hp).1
  have h6 := hI.1
  have hpb := hL.at hp
  have es : evS E M e (k : Int) = (p.1 : Int) := by rw [evS, h6, if_pos (by omega), Int.toNat_natCast, (hI.2.1 k p hp).1]
  have key : 0 < dv T a (p.1 : Int) → ∀ (m i : Nat), i + m = k → fx_At E m_X1_ghostMirror 19 [some (.inr e), some (.inl (k : Int)), some (.inl (p.1 : Int)), some (.inl (i : Int)), none, none] [] M (fun r M' => ∃ x : Int, r = some (.inl x) ∧ x = ghG T a L (p.1 : Int) ((L.take k).drop i) ∧ M' = M) := by
    intro hdv m
    induction m with
    | zero =>
      intro i hi
      obtain rfl : i = k := by omega
      refine b_X1_ghostMirror_19 hW e _ _ _ M _ he ⟨by omega, by omega, fun _ => ⟨_, rfl, ?_, rfl⟩, fun z => absurd (by omega) z⟩
      rw [List.drop_of_length_le (by rw [List.length_take]; omega)]
      rfl
    | succ m ih =>
      intro i hi
      obtain ⟨q, hq⟩ : ∃ q, L[i]? = some q := ⟨L[i]'(by omega), List.getElem?_eq_getElem (by omega)⟩
      have hqb := hL.at hq
      have e0 := (hI.2.1 i q hq).1
      refine b_X1_ghostMirror_19 hW e _ _ _ M _ he ?_
      rw [Int.toNat_natCast, e0, drop_take (by omega) hq, ghG]
      refine ⟨by omega, by omega, fun z => absurd z (by omega), fun _ => ⟨by omega, _, ct_bouncesFrom hW he hI hL ⟨by omega, by omega⟩, fun v4 M4 g4 => ?_⟩⟩
      obtain ⟨rfl, g4⟩ := g4
      rcases g4 with ⟨b1, rfl⟩ | ⟨b1, rfl⟩
      · refine ⟨by decide, fun z => absurd z (by decide), fun _ => ⟨by omega, fun hz => ⟨_, rfl, by rw [if_pos ⟨b1, Or.inl hz⟩], rfl⟩, fun hz => ⟨_, ct_bouncesFrom hW he hI hL ⟨by omega, by omega⟩, fun v7 M7 g7 => ?_⟩⟩⟩
        obtain ⟨rfl, g7⟩ := g7
        rcases g7 with ⟨b2, rfl⟩ | ⟨b2, rfl⟩
        · exact ⟨by decide, fun z => absurd z (by decide), fun _ => ⟨_, rfl, by rw [if_pos ⟨b1, Or.inr b2⟩], rfl⟩⟩
        · refine ⟨by decide, fun _ => ?_, fun z => absurd rfl z⟩
          rw [if_neg (fun z => z.2.elim hz b2)]
          exact ih (i + 1) (by omega)
      · refine ⟨by decide, fun _ => ?_, fun z => absurd rfl z⟩
        rw [if_neg (fun z => b1 z.1)]
        exact ih (i + 1) (by omega)
  refine x_ct (by decide) (Nat.le_of_ble_eq_true rfl) (b_X1_ghostMirror_0 hW e k M _ he ?_)
  rw [es]
  refine ⟨by omega, by omega, _, ct_bouncesFrom hW he hI hL ⟨by omega, by omega⟩, fun v3 M3 g3 => ?_⟩
  obtain ⟨rfl, g3⟩ := g3
  rcases g3 with ⟨b1, rfl⟩ | ⟨b1, rfl⟩
  · refine ⟨by decide, fun _ => ?_, fun z => absurd z (by decide)⟩
    have hdv : 0 < dv T a (p.1 : Int) := by obtain ⟨_, _, _, _, h⟩ := b1; exact h
    have := key hdv k 0 (by omega)
    rw [List.drop_zero] at this
    rw [ghN, if_pos hdv]
    exact this
  · refine ⟨by decide, fun z => absurd rfl z, fun _ => ⟨_, rfl, ?_, rfl⟩⟩
    rw [ghN, if_neg (fun z => b1 ⟨k, p, hp, rfl, z⟩)]
theorem ct_ghostOrigin (hW : fx_Wt E) {e k : Nat} {T : Int → Int} {a : Int} {L : List (Nat × Nat)} {p : Nat × Nat} (he : kd E e = 1) (hI : EvI E M e T a L) (hL : RunOk 1 L) (hN : L.length ≤ 200) (hp : L[k]? = some p) : CtI E m_X1_ghostOrigin [.inr e, .inl (k : Int)] M (fun r M' => r = ghO T a L k p ∧ M' = M) := by
  have hk := (List.getElem?_eq_some_iff.mp hp).1
  have h6 := hI.1
  have hg := ghN_b (T := T) (a := a) (k := k) (p := p) hL
  have es : evS E M e (k : Int) = (p.1 : Int) := by rw [evS, h6, if_pos (by omega), Int.toNat_natCast, (hI.2.1 k p hp).1]
  refine x_ct (by decide) (Nat.le_of_ble_eq_true rfl) (b_X1_ghostOrigin_0 hW e k M _ he ⟨_, ct_ghostMirror hW he hI hL hN hp, fun v1 M1 g1 => ?_⟩)
  obtain ⟨rfl, rfl⟩ := g1
  refine ⟨by omega, fun hne => ⟨by omega, by omega, _, rfl, by rw [es, ghO, if_neg hne], rfl⟩, fun heq => ⟨_, rfl, by rw [ghO, if_pos heq], rfl⟩⟩
theorem eKd_b {T : Int → Int} {a : Int} {p : Nat × Nat} : 0 ≤ eKd T a p ∧ eKd T a p ≤ 2 := by
  unfold eKd
  split
  · decide
  · split <;> decide
theorem ct_firstEnd (hW : fx_Wt E) {e : Nat} {T : Int → Int} {a : Int} {L : List (Nat × Nat)} (he : kd E e = 1) (hI : EvI E M e T a L) (hN : L.length ≤ 200) : CtI E m_X1_firstEnd [.inr e] M (fun r M' => r = fEnd T a L ∧ M' = M) := by
  have h6 := hI.1
  have key : ∀ (m i : Nat), i + m = L.length → fx_At E m_X1_firstEnd 2 [some (.inr e), some (.inl (i : Int))] [] M (fun r M' => ∃ x : Int, r = some (.inl x) ∧ x = fEnd T a (L.drop i) ∧ M' = M) := by
    intro m
    induction m with
    | zero =>
      intro i hi
      refine b_X1_firstEnd_2 hW e _ M _ he ⟨by omega, by omega, fun _ => ⟨_, rfl, ?_, rfl⟩, fun z => absurd (by omega) z⟩
      rw [List.drop_of_length_le (by omega)]
      rfl
    | succ m ih =>
      intro i hi
      obtain ⟨q, hq⟩ : ∃ q, L[i]? = some q := ⟨L[i]'(by omega), List.getElem?_eq_getElem (by omega)⟩
      have e0 := hI.2.1 i q hq
      have hkb := eKd_b (T := T) (a := a) (p := q)
      refine b_X1_firstEnd_2 hW e _ M _ he ?_
      rw [Int.toNat_natCast, e0.1, e0.2.2.1, drop_cons hq, fEnd]
      refine ⟨by omega, by omega, fun z => absurd z (by omega), fun _ => ⟨by omega, by omega, fun hne => ?_, fun heq => ⟨_, rfl, by rw [if_pos heq], rfl⟩⟩⟩
      rw [if_neg hne]
      exact ih (i + 1) (by omega)
  refine x_ct (by decide) (Nat.le_of_ble_eq_true rfl) (b_X1_firstEnd_0 hW e M _ he ?_)
  exact key L.length 0 (by omega)
theorem ct_isInside (hW : fx_Wt E) {e k : Nat} {T : Int → Int} {a : Int} {L : List (Nat × Nat)} {p : Nat × Nat} (he : kd E e = 1) (hI : EvI E M e T a L) (hN : L.length ≤ 200) (hp : L[k]? = some p) : CtI E m_X1_isInside [.inr e, .inl (k : Int)] M (fun r M' => r = (if eKd T a p = 2 then 0 else 1) ∧ M' = M) := by
  have hk := (List.getElem?_eq_some_iff.mp hp).1
  have h6 := hI.1
  have hkb := eKd_b (T := T) (a := a) (p := p)
  refine x_ct (by decide) (Nat.le_of_ble_eq_true rfl) (b_X1_isInside_0 hW e k M _ he ?_)
  rw [Int.toNat_natCast, (hI.2.1 k p hp).2.2.1]
  exact ⟨by omega, fun z => absurd z (by omega), fun _ => ⟨by omega, fun z => absurd z (by omega), fun _ => ⟨by omega, by omega, fun h => ⟨_, rfl, by rw [if_pos h], rfl⟩, fun h => ⟨_, rfl, by rw [if_neg h], rfl⟩⟩⟩⟩
theorem ct_eventsOf (hW : fx_Wt E) {b n v s : Nat} {w : Nat → Int} {H : Nat → Nat → Int} {u : Int} (hb : kd E b = 9) (hC : CI E M b w H n v) (hw : wOk w) (hV : CV E M b w v) (hT : CT E M b w v) (hE : CE E M b w v) (hs : s < 2) (hu : 1 ≤ u ∧ u ≤ 9) (hv : v < 1000000) : CtA E m_X9_eventsOf [.inr b, .inl (s : Int), .inl u] M (fun r M' => r = el E b s ∧ PE E M M' b w v ∧ EvI E M' (el E b s) (trA w s u) (w 58) (evR (trA w s u) (w 58) (w 59)) ∧ ∀ i, i < 2 → i ≠ s → Sa E M M' (el E b i)) := by
  have he := el_kd hW hb hs
  have h8 := hC.2.2
  obtain ⟨q1, q2, q3⟩ := hE s hs
  have w58 := hw.2.2.2.2.2.2.2.2.1 0 (by decide)
  have w59 := hw.2.2.2.2.2.2.2.2.1 1 (by decide)
  have hsv : sv 0 0 = 0 ∧ sv 1 0 = 60 ∧ sv 0 1 = 1 ∧ sv 1 1 = 5000 := ⟨rfl, rfl, rfl, rfl⟩
  rw [show 58 + 0 = 58 from rfl] at w58
  rw [show 58 + 1 = 59 from rfl] at w59
  have at34 : fx_At E m_X9_eventsOf 34 [some (.inr b), some (.inl (s : Int)), some (.inl u), some (.inr (el E b s))] [] M (fun r M' => ∃ x : Nat, r = some (.inr x) ∧ x = el E b s ∧ PE E M M' b w v ∧ EvI E M' (el E b s) (trA w s u) (w 58) (evR (trA w s u) (w 58) (w 59)) ∧ ∀ i, i < 2 → i ≠ s → Sa E M M' (el E b i)) := by
    refine b_X9_eventsOf_34 hW b _ _ _ M _ hb he ⟨_, ct_traceOf hW hb hC hw hV hT hs hu hv, fun v1 M1 g1 => ?_⟩
    obtain ⟨rfl, p1, t1⟩ := g1
    have ht := tr_kd hW hb (slt_b (s := s) (u := u) hs).1
    have hC1 := p1.ci hW hb hC
    have e58 : M1 (rf E (rf E b 0) 2) 0 = w 58 := hC1.1.2.2 0 (by decide)
    have e59 : M1 (rf E (rf E b 0) 2) 1 = w 59 := hC1.1.2.2 1 (by decide)
    rw [e58, e59]
    refine ⟨ht, _, ct_find hW he ht t1 (fun d => trA_b hw hu d) (by omega) (by omega), fun M2 g2 M3 g3 M4 g4 => ⟨_, rfl, rfl, ?_⟩⟩
    obtain ⟨i1, i2, i3, i4⟩ := g2
    have b3 : M3 b 8 = (v : Int) := by
      have hbe : b ≠ el E b s := kd_ne hb he (by decide)
      rw [g3, mset_o hbe, i2 b (by rw [own_o hb (by decide)]; exact hbe), hC1.2.2]
    rw [b3] at g4
    have F4 : Fo E M1 M4 (el E b s) := i2.trans (by rw [g4, g3]; exact (Fo_mset (own_o he (by decide))).trans (Fo_mset (own_o he (by decide))))
    have K4 : KF E M1 M4 [1] := F4.kf he (by decide) rfl (by decide)
    have ev4 : EvI E M4 (el E b s) (trA w s u) (w 58) (evR (trA w s u) (w 58) (w 59)) := i1.sa hW he (fun k hk => by rw [g4, mset_o (enr hW he hk), g3, mset_o (enr hW he hk)]) (by rw [g4, mset_n (by decide), g3, mset_n (by decide)])
    have oth : ∀ i, i < 2 → i ≠ s → Sa E M M4 (el E b i) := fun i hi his => (p1.1.el hW hb hi (by decide)).trans (F4.sa (el_ne hW hb hi hs his))
    have k7 : M4 (el E b s) 7 = u := by rw [g4, mset_n (by decide), g3, mset_s]
    have k8 : M4 (el E b s) 8 = (v : Int) := by rw [g4, mset_s]
    refine ⟨⟨(p1.1.mono (by decide)).trans (K4.mono (by decide)), p1.2.1.kf hW hb K4 (by decide), p1.2.2.kf hW hb K4 (by decide), fun i hi => ?_⟩, ev4, oth⟩
    by_cases his : i = s
    · subst his
      rw [k7, k8]
      exact ⟨by omega, by omega, fun _ => ev4⟩
    · have hei := el_kd hW hb hi
      have e : M4 (el E b i) = M (el E b i) := oth i hi his _ (own_o hei (by decide))
      rw [e]
      exact ⟨(hE i hi).1, (hE i hi).2.1, fun z => ((hE i hi).2.2 z).sa hW hei (fun k hk => oth i hi his _ (oe hW hei hk)) (by rw [e])⟩
  have cached : M (el E b s) 8 = M b 8 → M (el E b s) 7 = u → ∃ x : Nat, some (Sum.inr (el E b s) : fxV) = some (.inr x) ∧ x = el E b s ∧ PE E M M b w v ∧ EvI E M (el E b s) (trA w s u) (w 58) (evR (trA w s u) (w 58) (w 59)) ∧ ∀ i, i < 2 → i ≠ s → Sa E M M (el E b i) := fun h1 h2 => by
    refine ⟨_, rfl, rfl, PE.rf' hV hT hE, ?_, fun _ _ _ _ _ => rfl⟩
    have := q3 (by rw [h1, h8])
    rw [h2] at this
    exact this
  refine x_ct (by decide) (Nat.le_of_ble_eq_true rfl) (b_X9_eventsOf_0 hW b s u M _ hb ⟨by omega, fun h => ?_, fun h => ?_⟩)
  · have hs1 : s = 1 := by omega
    subst hs1
    show (-2147483648 ≤ M (el E b 1) 8 ∧ M (el E b 1) 8 < 2147483648) ∧ _ ∧ (¬ M (el E b 1) 8 = M b 8 → _) ∧ (M (el E b 1) 8 = M b 8 → (-2147483648 ≤ M (el E b 1) 7 ∧ M (el E b 1) 7 < 2147483648) ∧ _ ∧ (M (el E b 1) 7 = u → _) ∧ (¬ M (el E b 1) 7 = u → _))
    exact ⟨by omega, by omega, fun _ => at34, fun h1 => ⟨by omega, by omega, fun h2 => cached h1 h2, fun _ => at34⟩⟩
  · have hs0 : s = 0 := by omega
    subst hs0
    show (-2147483648 ≤ M (el E b 0) 8 ∧ M (el E b 0) 8 < 2147483648) ∧ _ ∧ (¬ M (el E b 0) 8 = M b 8 → _) ∧ (M (el E b 0) 8 = M b 8 → (-2147483648 ≤ M (el E b 0) 7 ∧ M (el E b 0) 7 < 2147483648) ∧ _ ∧ (M (el E b 0) 7 = u → _) ∧ (¬ M (el E b 0) 7 = u → _))
    exact ⟨by omega, by omega, fun _ => at34, fun h1 => ⟨by omega, by omega, fun h2 => cached h1 h2, fun _ => at34⟩⟩
end
