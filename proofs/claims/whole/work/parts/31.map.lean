/-! The map: reaches, places on the route. -/
def run (w : Nat → Int) (i : Nat) : Int := (w (65 + 2 * i) - w (63 + 2 * i)) * (1000 + w 83) / 1000
def rch (w : Nat → Int) : Nat → Int
  | 0 => 0
  | i + 1 => rch w i + (w (64 + 2 * i) + run w i)
def wn (w : Nat → Int) : Nat := (w 62).toNat
/-- the route from the point at d before the end on -/
def rtG (w : Nat → Int) (u : Int) : Nat → Int
  | 0 => -1000005
  | d + 1 => if u ≤ rch w (wn w - (d + 1)) + w (64 + 2 * (wn w - (d + 1))) then w (63 + 2 * (wn w - (d + 1)))
    else if 0 < d ∧ u < rch w (wn w - d) then w (63 + 2 * (wn w - (d + 1))) + (u - (rch w (wn w - (d + 1)) + w (64 + 2 * (wn w - (d + 1))))) * 1000 / (1000 + w 83) else rtG w u d
theorem rtG_s (w : Nat → Int) (u : Int) (d : Nat) : rtG w u (d + 1) = if u ≤ rch w (wn w - (d + 1)) + w (64 + 2 * (wn w - (d + 1))) then w (63 + 2 * (wn w - (d + 1))) else if 0 < d ∧ u < rch w (wn w - d) then w (63 + 2 * (wn w - (d + 1))) + (u - (rch w (wn w - (d + 1)) + w (64 + 2 * (wn w - (d + 1))))) * 1000 / (1000 + w 83) else rtG w u d := rfl
def pbG (w : Nat → Int) (u : Int) : Nat → Int
  | 0 => -1000005
  | k + 1 => if rch w k ≤ u then (k : Int) else pbG w u k
theorem mulB {a b A B : Int} (ha : 0 ≤ a ∧ a ≤ A) (hb : 0 ≤ b ∧ b ≤ B) : 0 ≤ a * b ∧ a * b ≤ A * B := ⟨Int.mul_nonneg ha.1 hb.1, Int.mul_le_mul ha.2 hb.2 hb.1 (by omega)⟩
theorem run_prod {w : Nat → Int} (hw : wOk w) {i : Nat} (hi : i + 1 < wn w) : 0 ≤ (w (65 + 2 * i) - w (63 + 2 * i)) * (1000 + w 83) ∧ (w (65 + 2 * i) - w (63 + 2 * i)) * (1000 + w 83) ≤ 10998900 := by
  obtain ⟨o1, o2, o3, o4, o5, o6, o7, o8, o9, o10, o11, o12, o13⟩ := hw
  unfold wn at hi
  have h1 := o12 i (by omega)
  have h2 := (o11 i (by omega)).1
  have h3 := (o11 (i + 1) (by omega)).1
  rw [show 63 + 2 * (i + 1) = 65 + 2 * i by omega] at h3
  have := mulB (a := w (65 + 2 * i) - w (63 + 2 * i)) (b := 1000 + w 83) (A := 9999) (B := 1100) (by omega) (by omega)
  omega
theorem run_b {w : Nat → Int} (hw : wOk w) {i : Nat} (hi : i + 1 < wn w) : 0 ≤ run w i ∧ run w i ≤ 10998 := by
  have := run_prod hw hi
  unfold run
  omega
theorem rch_b {w : Nat → Int} (hw : wOk w) : ∀ {i : Nat}, i < wn w → 0 ≤ rch w i ∧ rch w i ≤ 11097 * (i : Int)
  | 0, _ => by simp [rch]
  | i + 1, hi => by
    have ih := rch_b hw (i := i) (by omega)
    have hr := run_b hw (i := i) hi
    have hs := (hw.2.2.2.2.2.2.2.2.2.2.1 i (by unfold wn at hi; omega)).2
    rw [rch]
    omega
theorem rch_mono {w : Nat → Int} (hw : wOk w) {i : Nat} (hi : i + 1 < wn w) : rch w i ≤ rch w (i + 1) := by
  have hr := run_b hw hi
  have hs := (hw.2.2.2.2.2.2.2.2.2.2.1 i (by unfold wn at hi; omega)).2
  rw [rch]
  omega
theorem wn_b {w : Nat → Int} (hw : wOk w) : w 62 = (wn w : Int) ∧ wn w ≤ 10 := by
  have := hw.2.2.2.2.2.2.2.2.2.1
  unfold wn
  omega
section
variable {E : fxE} {M : fxM}
theorem ct_runAfter (hW : fx_Wt E) {p i : Nat} {w : Nat → Int} (hp : kd E p = 0) (h : MR E M p w) (hw : wOk w) (hi : i < 100) : CtI E m_X0_runAfter [.inr p, .inl (i : Int)] M (fun r M' => r = (if i + 1 < wn w then run w i else 0) ∧ M' = M) := by
  obtain ⟨e0, e1, e2⟩ := h
  obtain ⟨hn, hn10⟩ := wn_b hw
  refine x_ct (by decide) (Nat.le_of_ble_eq_true rfl) (b_X0_runAfter_0 hW p i M _ hp ⟨by omega, fun z => absurd z (by omega), fun _ => ⟨by omega, by omega, fun hlt => ?_, fun hlt => ⟨_, rfl, by rw [if_neg (by omega)], rfl⟩⟩⟩)
  have hi1 : i + 1 < wn w := by omega
  have a0 := (e1 i (by omega)).1
  have a1 := (e1 (i + 1) (by omega)).1
  rw [show 63 + 2 * (i + 1) = 65 + 2 * i by omega] at a1
  have ei : ((i : Int) + 1).toNat = i + 1 := by omega
  rw [ei, Int.toNat_natCast, a0, a1, e2]
  have hb := run_prod hw hi1
  have h83 := hw.2.2.2.2.2.2.2.2.2.2.2.2
  refine ⟨by omega, by omega, by omega, by omega, _, rfl, ?_, rfl⟩
  rw [if_pos hi1, run]
theorem ct_reachOf (hW : fx_Wt E) {p k : Nat} {w : Nat → Int} (hp : kd E p = 0) (h : MR E M p w) (hw : wOk w) (hk : k < wn w) : CtI E m_X0_reachOf [.inr p, .inl (k : Int)] M (fun r M' => r = rch w k ∧ M' = M) := by
  obtain ⟨hn, hn10⟩ := wn_b hw
  have e0 := h.1
  refine x_ct (by decide) (Nat.le_of_ble_eq_true rfl) (b_X0_reachOf_0 hW p k M _ hp ?_)
  have key : ∀ (q i : Nat), i + q = k → fx_At E m_X0_reachOf 4 [some (.inr p), some (.inl (k : Int)), some (.inl (rch w i)), some (.inl (i : Int))] [] M (fun r M' => ∃ v : Int, r = some (.inl v) ∧ v = rch w k ∧ M' = M) := by
    intro q
    induction q with
    | zero =>
      intro i hi
      obtain rfl : i = k := by omega
      exact b_X0_reachOf_4 hW p _ _ _ M _ hp ⟨by omega, by omega, fun _ => ⟨_, rfl, rfl, rfl⟩, fun z => absurd (by omega) z⟩
    | succ q ih =>
      intro i hi
      refine b_X0_reachOf_4 hW p _ _ _ M _ hp ⟨by omega, by omega, fun z => absurd z (by omega), fun _ => ⟨by omega, fun z => absurd z (by omega), fun _ => ⟨by omega, _, ct_runAfter hW hp h hw (by omega), fun v5 M5 h5 => ?_⟩⟩⟩
      obtain ⟨rfl, rfl⟩ := h5
      rw [if_pos (by omega), Int.toNat_natCast, (h.2.1 i (by omega)).2]
      exact ih (i + 1) (by omega)
  exact key k 0 (by omega)
theorem ct_routeOf (hW : fx_Wt E) {p : Nat} {w : Nat → Int} {u : Int} (hp : kd E p = 0) (h : MR E M p w) (hw : wOk w) (hu : 0 ≤ u ∧ u < 2147483648) : CtI E m_X0_routeOf [.inr p, .inl u] M (fun r M' => r = rtG w u (wn w) ∧ M' = M) := by
  obtain ⟨hn, hn10⟩ := wn_b hw
  have e0 := h.1
  have e2 := h.2.2
  have h83 := hw.2.2.2.2.2.2.2.2.2.2.2.2
  refine x_ct (by decide) (Nat.le_of_ble_eq_true rfl) (b_X0_routeOf_0 hW p u M _ hp ?_)
  have key : ∀ (d i : Nat) (x : Int), i + d = wn w → (0 < d → x = u - rch w i) → 0 ≤ x → x ≤ u → fx_At E m_X0_routeOf 4 [some (.inr p), some (.inl u), some (.inl x), some (.inl (i : Int)), none, none] [] M (fun r M' => ∃ v : Int, r = some (.inl v) ∧ v = rtG w u d ∧ M' = M) := by
    intro d
    induction d with
    | zero =>
      intro i x hi _ _ _
      exact b_X0_routeOf_4 hW p _ _ _ M _ hp ⟨by omega, by omega, fun _ => ⟨_, rfl, rfl, rfl⟩, fun z => absurd (by omega) z⟩
    | succ d ih =>
      intro i x hi hx hx0 hxu
      have hxe := hx (by omega)
      have ed : wn w - (d + 1) = i := by omega
      have hpi := h.2.1 i (by omega)
      have hsl := (hw.2.2.2.2.2.2.2.2.2.2.1 i (by omega)).2
      refine b_X0_routeOf_4 hW p _ _ _ M _ hp ?_
      rw [Int.toNat_natCast, hpi.2]
      refine ⟨by omega, by omega, fun z => absurd z (by omega), fun _ => ⟨by omega, by omega, fun hpos => ⟨_, ct_runAfter hW hp h hw (by omega), fun v5 M5 h5 => ?_⟩, fun hneg => ⟨_, rfl, ?_, rfl⟩⟩⟩
      · obtain ⟨rfl, rfl⟩ := h5
        rw [hpi.1, e2]
        by_cases hl : i + 1 < wn w
        · have hrb := run_b hw hl
          have hre : rch w (i + 1) = rch w i + (w (64 + 2 * i) + run w i) := rfl
          have ed1 : wn w - d = i + 1 := by omega
          rw [if_pos hl]
          refine ⟨by omega, fun hge => ?_, fun hlt => ⟨by omega, by omega, _, rfl, ?_, rfl⟩⟩
          · have hrt : rtG w u (d + 1) = rtG w u d := by
              rw [rtG_s, ed, ed1, if_neg (by omega), if_neg (by omega)]
            rw [hrt]
            exact ih (i + 1) _ (by omega) (fun _ => by omega) (by omega) (by omega)
          · rw [rtG_s, ed, ed1, if_neg (by omega), if_pos (by omega), hxe]
            rw [show u - rch w i - w (64 + 2 * i) = u - (rch w i + w (64 + 2 * i)) by omega]
        · rw [if_neg hl]
          have hd0 : d = 0 := by omega
          subst hd0
          refine ⟨by omega, fun hge => ?_, fun hlt => absurd (by omega) hlt⟩
          have hrt : rtG w u (0 + 1) = rtG w u 0 := by
            rw [rtG_s, ed, if_neg (by omega), if_neg (by omega)]
          rw [hrt]
          exact ih (i + 1) _ (by omega) (fun z => absurd z (by omega)) (by omega) (by omega)
      · rw [hpi.1, rtG_s, ed, if_pos (by omega)]
  exact key (wn w) 0 u (by omega) (fun _ => by simp [rch]) hu.1 (by omega)
theorem pb_const {w : Nat → Int} {u : Int} (hw : wOk w) {i : Nat} : ∀ (d : Nat), i + d ≤ wn w → (i < wn w → u < rch w i) → pbG w u (i + d) = pbG w u i
  | 0, _, _ => rfl
  | d + 1, hd, hi => by
    have ih := pb_const hw (i := i) d (by omega) hi
    have hm : ∀ (e : Nat), i + e < wn w → u < rch w (i + e) := by
      intro e
      induction e with
      | zero => intro he; exact hi he
      | succ e ihe =>
        intro he
        have := rch_mono hw (i := i + e) he
        have := ihe (by omega)
        rw [show i + (e + 1) = i + e + 1 by omega]
        omega
    rw [show i + (d + 1) = (i + d) + 1 by omega, pbG, if_neg (by have := hm d (by omega); omega), ih]
theorem ct_lastReached (hW : fx_Wt E) {p : Nat} {w : Nat → Int} {u : Int} (hp : kd E p = 0) (h : MR E M p w) (hw : wOk w) (hu : 0 ≤ u ∧ u < 2147483648) : CtI E m_X0_lastReached [.inr p, .inl u] M (fun r M' => r = pbG w u (wn w) ∧ M' = M) := by
  obtain ⟨hn, hn10⟩ := wn_b hw
  have e0 := h.1
  refine x_ct (by decide) (Nat.le_of_ble_eq_true rfl) (b_X0_lastReached_0 hW p u M _ hp ?_)
  have key : ∀ (d i : Nat) (x : Int), i + d = wn w → (0 < d → x = rch w i) → (-2147483648 ≤ x ∧ x < 2147483648) → fx_At E m_X0_lastReached 8 [some (.inr p), some (.inl u), some (.inl (pbG w u i)), some (.inl x), some (.inl (i : Int))] [] M (fun r M' => ∃ v : Int, r = some (.inl v) ∧ v = pbG w u (wn w) ∧ M' = M) := by
    intro d
    induction d with
    | zero =>
      intro i x hi _ _
      obtain rfl : i = wn w := by omega
      exact b_X0_lastReached_8 hW p _ _ _ _ M _ hp ⟨by omega, by omega, fun _ => ⟨_, rfl, rfl, rfl⟩, fun z => absurd (by omega) z⟩
    | succ d ih =>
      intro i x hi hx hxr
      have hxe := hx (by omega)
      have hb := rch_b hw (i := i) (by omega)
      have hsl := (hw.2.2.2.2.2.2.2.2.2.2.1 i (by omega)).2
      refine b_X0_lastReached_8 hW p _ _ _ _ M _ hp ⟨by omega, by omega, fun z => absurd z (by omega), fun _ => ⟨hxr, by omega, fun hgt => ⟨_, rfl, ?_, rfl⟩, fun hle => ⟨by omega, _, ct_runAfter hW hp h hw (by omega), fun v6 M6 h6 => ?_⟩⟩⟩
      · rw [show wn w = i + (d + 1) by omega]
        exact (pb_const hw (d + 1) (by omega) (fun _ => by omega)).symm
      · obtain ⟨rfl, rfl⟩ := h6
        rw [Int.toNat_natCast, (h.2.1 i (by omega)).2]
        have e : (i : Int) = pbG w u (i + 1) := by rw [pbG, if_pos (by omega)]
        have h' := ih (i + 1) (x + (w (64 + 2 * i) + (if i + 1 < wn w then run w i else 0))) (by omega) (fun hd => by rw [if_pos (by omega), hxe]; rfl) (by
          by_cases hl : i + 1 < wn w
          · have := run_b hw hl
            rw [if_pos hl]; omega
          · rw [if_neg hl]; omega)
        rw [← e] at h'
        exact h'
  exact key (wn w) 0 0 (by omega) (fun _ => rfl) (by omega)
def fPnt (w : Nat → Int) (k j : Int) : Int := if 0 ≤ k ∧ k ≤ w 62 - 1 then (if j = 0 then w (63 + 2 * k.toNat) else if j = 1 then w (64 + 2 * k.toNat) else if j = 2 then rch w k.toNat else -1000002) else -1000001
theorem cl_pnt (hW : fx_Wt E) {b n v : Nat} {w : Nat → Int} {H : Nat → Nat → Int} {k j : Int} (hb : kd E b = 9) (hC : CI E M b w H n v) (hw : wOk w) (h1 : inR k) (h2 : inR j) : CtI E m_X9_point [.inr b, .inl k, .inl j] M (fun r M' => r = fPnt w k j ∧ M' = M) := by
  obtain ⟨hn, hn10⟩ := wn_b hw
  obtain ⟨-, -, hm⟩ := wne hW hb
  have hR := hC.1.2.1
  have e0 := hR.1
  refine x_ct (by decide) (Nat.le_of_ble_eq_true rfl) (b_X9_point_0 hW b k j M _ hb ⟨h1, by omega, fun hk => ⟨h2, ?_⟩, fun hk => ⟨_, rfl, by rw [fPnt, if_neg (by omega)], rfl⟩⟩)
  obtain ⟨i, rfl⟩ : ∃ i : Nat, k = (i : Int) := ⟨k.toNat, by omega⟩
  have hs := hR.2.1 i (by omega)
  rw [Int.toNat_natCast]
  refine ⟨fun h => ⟨by omega, _, rfl, ?_, rfl⟩, fun h => ⟨by omega, _, rfl, ?_, rfl⟩, fun h => ⟨_, ct_reachOf hW hm hR hw (by omega), fun v7 M7 h7 => ⟨_, rfl, ?_, h7.2⟩⟩, fun h => ⟨_, rfl, ?_, rfl⟩⟩
  · rw [fPnt, if_pos (by omega), if_pos h, Int.toNat_natCast, hs.1]
  · rw [fPnt, if_pos (by omega), if_neg (by omega), if_pos h, Int.toNat_natCast, hs.2]
  · rw [fPnt, if_pos (by omega), if_neg (by omega), if_neg (by omega), if_pos h, Int.toNat_natCast, h7.1]
  · rw [fPnt, if_pos (by omega), if_neg (by omega), if_neg (by omega), if_neg (by omega)]
theorem cl_route (hW : fx_Wt E) {b n v : Nat} {w : Nat → Int} {H : Nat → Nat → Int} {u : Int} (hb : kd E b = 9) (hC : CI E M b w H n v) (hw : wOk w) (h1 : inR u) : CtI E m_X9_toRoute [.inr b, .inl u] M (fun r M' => r = (if 0 ≤ u then rtG w u (wn w) else -1000002) ∧ M' = M) := by
  obtain ⟨-, -, hm⟩ := wne hW hb
  exact x_ct (by decide) (Nat.le_of_ble_eq_true rfl) (b_X9_toRoute_0 hW b u M _ hb ⟨h1, fun h => ⟨_, ct_routeOf hW hm hC.1.2.1 hw ⟨h, h1.2⟩, fun v2 M2 h2 => ⟨_, rfl, by rw [if_pos h]; exact h2.1, h2.2⟩⟩, fun h => ⟨_, rfl, by rw [if_neg h], rfl⟩⟩)
theorem cl_before (hW : fx_Wt E) {b n v : Nat} {w : Nat → Int} {H : Nat → Nat → Int} {u : Int} (hb : kd E b = 9) (hC : CI E M b w H n v) (hw : wOk w) (h1 : inR u) : CtI E m_X9_pointBefore [.inr b, .inl u] M (fun r M' => r = (if 0 ≤ u then pbG w u (wn w) else -1000002) ∧ M' = M) := by
  obtain ⟨-, -, hm⟩ := wne hW hb
  exact x_ct (by decide) (Nat.le_of_ble_eq_true rfl) (b_X9_pointBefore_0 hW b u M _ hb ⟨h1, fun h => ⟨_, ct_lastReached hW hm hC.1.2.1 hw ⟨h, h1.2⟩, fun v2 M2 h2 => ⟨_, rfl, by rw [if_pos h]; exact h2.1, h2.2⟩⟩, fun h => ⟨_, rfl, by rw [if_neg h], rfl⟩⟩)
theorem ct_reach (hW : fx_Wt E) {m k : Nat} (hm : kd E m = 10) (hw : wOk (M (rf E m 0))) (hk : k < wn (M (rf E m 0))) : CtI E m_X10_reach [.inr m, .inl (k : Int)] M (fun r M' => r = rch (M (rf E m 0)) k ∧ M' = M) := by
  obtain ⟨hn, hn10⟩ := wn_b hw
  refine x_ct (by decide) (Nat.le_of_ble_eq_true rfl) (b_X10_reach_0 hW m k M _ hm ?_)
  have key : ∀ (q i : Nat), i + q = k → fx_At E m_X10_reach 4 [some (.inr m), some (.inl (k : Int)), some (.inl (rch (M (rf E m 0)) i)), some (.inl (i : Int))] [] M (fun r M' => ∃ v : Int, r = some (.inl v) ∧ v = rch (M (rf E m 0)) k ∧ M' = M) := by
    intro q
    induction q with
    | zero =>
      intro i hi
      obtain rfl : i = k := by omega
      exact b_X10_reach_4 hW m _ _ _ M _ hm ⟨by omega, by omega, fun _ => ⟨_, rfl, rfl, rfl⟩, fun z => absurd (by omega) z⟩
    | succ q ih =>
      intro i hi
      have hb := run_prod hw (i := i) (by omega)
      have ea : (63 + 2 * (i : Int) + 1).toNat = 64 + 2 * i := by omega
      have eb : (63 + 2 * (i : Int) + 2).toNat = 65 + 2 * i := by omega
      have ec : (63 + 2 * (i : Int)).toNat = 63 + 2 * i := by omega
      refine b_X10_reach_4 hW m _ _ _ M _ hm ?_
      rw [ea, eb, ec]
      exact ⟨by omega, by omega, fun z => absurd z (by omega), fun _ => ⟨by omega, by omega, by omega, by omega, ih (i + 1) (by omega)⟩⟩
  exact key k 0 (by omega)
theorem re_pnt (hW : fx_Wt E) {m : Nat} {k j : Int} (hm : kd E m = 10) (hw : wOk (M (rf E m 0))) (h1 : inR k) (h2 : inR j) : CtI E m_X10_point [.inr m, .inl k, .inl j] M (fun r M' => r = fPnt (M (rf E m 0)) k j ∧ M' = M) := by
  obtain ⟨hn, hn10⟩ := wn_b hw
  refine x_ct (by decide) (Nat.le_of_ble_eq_true rfl) (b_X10_point_0 hW m k j M _ hm ⟨h1, by omega, fun hk => ⟨h2, ?_⟩, fun hk => ⟨_, rfl, by rw [fPnt, if_neg (by omega)], rfl⟩⟩)
  obtain ⟨i, rfl⟩ : ∃ i : Nat, k = (i : Int) := ⟨k.toNat, by omega⟩
  refine ⟨fun hj => ⟨fun h3 => ⟨by omega, _, rfl, ?_, rfl⟩, fun h3 => ⟨_, ct_reach hW hm hw (by omega), fun v7 M7 h7 => ⟨_, rfl, ?_, h7.2⟩⟩⟩, fun hj => ⟨_, rfl, ?_, rfl⟩⟩
  · rw [fPnt, if_pos hk]
    rcases (show j = 0 ∨ j = 1 by omega) with rfl | rfl
    · rw [if_pos rfl, Int.toNat_natCast, show (63 + 2 * (i : Int) + 0).toNat = 63 + 2 * i by omega]
    · rw [if_neg (by omega), if_pos rfl, Int.toNat_natCast, show (63 + 2 * (i : Int) + 1).toNat = 64 + 2 * i by omega]
  · rw [fPnt, if_pos hk, if_neg (by omega), if_neg (by omega), if_pos h3, Int.toNat_natCast, h7.1]
  · rw [fPnt, if_pos hk, if_neg (by omega), if_neg (by omega), if_neg (by omega)]
theorem ct_onRoute (hW : fx_Wt E) {m : Nat} {u : Int} (hm : kd E m = 10) (hw : wOk (M (rf E m 0))) (hu : 0 ≤ u ∧ u < 2147483648) : CtI E m_X10_onRoute [.inr m, .inl u] M (fun r M' => r = rtG (M (rf E m 0)) u (wn (M (rf E m 0))) ∧ M' = M) := by
  obtain ⟨hn, hn10⟩ := wn_b hw
  have h83 := hw.2.2.2.2.2.2.2.2.2.2.2.2
  refine x_ct (by decide) (Nat.le_of_ble_eq_true rfl) (b_X10_onRoute_0 hW m u M _ hm ?_)
  have key : ∀ (d i : Nat), i + d = wn (M (rf E m 0)) → fx_At E m_X10_onRoute 2 [some (.inr m), some (.inl u), some (.inl (i : Int)), none] [] M (fun r M' => ∃ v : Int, r = some (.inl v) ∧ v = rtG (M (rf E m 0)) u d ∧ M' = M) := by
    intro d
    induction d with
    | zero =>
      intro i hi
      exact b_X10_onRoute_2 hW m _ _ M _ hm ⟨by omega, by omega, fun _ => ⟨_, rfl, rfl, rfl⟩, fun z => absurd (by omega) z⟩
    | succ d ih =>
      intro i hi
      have ed : wn (M (rf E m 0)) - (d + 1) = i := by omega
      have hb := rch_b hw (i := i) (by omega)
      have hsl := (hw.2.2.2.2.2.2.2.2.2.2.1 i (by omega)).2
      have ea : (63 + 2 * (i : Int) + 1).toNat = 64 + 2 * i := by omega
      have ec : (63 + 2 * (i : Int)).toNat = 63 + 2 * i := by omega
      refine b_X10_onRoute_2 hW m _ _ M _ hm ⟨by omega, by omega, fun z => absurd z (by omega), fun _ => ⟨_, ct_reach hW hm hw (k := i) (by omega), fun v3 M3 h3 => ?_⟩⟩
      obtain ⟨rfl, rfl⟩ := h3
      rw [ea, ec]
      refine ⟨by omega, by omega, by omega, fun hgt => ⟨by omega, by omega, fun hl => ?_, fun hl => ?_⟩, fun hle => ⟨by omega, _, rfl, ?_, rfl⟩⟩
      · have hd0 : d = 0 := by omega
        subst hd0
        have hrt : rtG (M3 (rf E m 0)) u (0 + 1) = rtG (M3 (rf E m 0)) u 0 := by
          rw [rtG_s, ed, if_neg (by omega), if_neg (by omega)]
        rw [hrt]
        exact ih (i + 1) (by omega)
      · have hl' : i + 1 < wn (M3 (rf E m 0)) := by omega
        have hrb := run_b hw hl'
        have hre : rch (M3 (rf E m 0)) (i + 1) = rch (M3 (rf E m 0)) i + (M3 (rf E m 0) (64 + 2 * i) + run (M3 (rf E m 0)) i) := rfl
        have ed1 : wn (M3 (rf E m 0)) - d = i + 1 := by omega
        have hb1 := rch_b hw hl'
        refine ⟨_, ct_reach hW hm hw (k := i + 1) hl', fun v9 M9 h9 => ?_⟩
        obtain ⟨rfl, rfl⟩ := h9
        refine ⟨by omega, fun hge => ?_, fun hlt => ⟨by omega, by omega, _, rfl, ?_, rfl⟩⟩
        · have hrt : rtG (M9 (rf E m 0)) u (d + 1) = rtG (M9 (rf E m 0)) u d := by
            rw [rtG_s, ed, ed1, if_neg (by omega), if_neg (by omega)]
          rw [hrt]
          exact ih (i + 1) (by omega)
        · rw [rtG_s, ed, ed1, if_neg (by omega), if_pos (by omega)]
      · rw [rtG_s, ed, if_pos (by omega)]
  exact key (wn (M (rf E m 0))) 0 (by omega)
theorem re_route (hW : fx_Wt E) {m : Nat} {u : Int} (hm : kd E m = 10) (hw : wOk (M (rf E m 0))) (h1 : inR u) : CtI E m_X10_toRoute [.inr m, .inl u] M (fun r M' => r = (if 0 ≤ u then rtG (M (rf E m 0)) u (wn (M (rf E m 0))) else -1000002) ∧ M' = M) :=
  x_ct (by decide) (Nat.le_of_ble_eq_true rfl) (b_X10_toRoute_0 hW m u M _ hm ⟨h1, fun h => ⟨_, ct_onRoute hW hm hw ⟨h, h1.2⟩, fun v2 M2 h2 => ⟨_, rfl, by rw [if_pos h]; exact h2.1, h2.2⟩⟩, fun h => ⟨_, rfl, by rw [if_neg h], rfl⟩⟩)
theorem re_before (hW : fx_Wt E) {m : Nat} {u : Int} (hm : kd E m = 10) (hw : wOk (M (rf E m 0))) (h1 : inR u) : CtI E m_X10_pointBefore [.inr m, .inl u] M (fun r M' => r = (if 0 ≤ u then pbG (M (rf E m 0)) u (wn (M (rf E m 0))) else -1000002) ∧ M' = M) := by
  obtain ⟨hn, hn10⟩ := wn_b hw
  refine x_ct (by decide) (Nat.le_of_ble_eq_true rfl) (b_X10_pointBefore_0 hW m u M _ hm ⟨h1, fun h => ?_, fun h => ⟨_, rfl, by rw [if_neg h], rfl⟩⟩)
  rw [if_pos h]
  have key : ∀ (d i : Nat), i + d = wn (M (rf E m 0)) → fx_At E m_X10_pointBefore 12 [some (.inr m), some (.inl u), some (.inl (pbG (M (rf E m 0)) u i)), some (.inl (i : Int))] [] M (fun r M' => ∃ v : Int, r = some (.inl v) ∧ v = pbG (M (rf E m 0)) u (wn (M (rf E m 0))) ∧ M' = M) := by
    intro d
    induction d with
    | zero =>
      intro i hi
      obtain rfl : i = wn (M (rf E m 0)) := by omega
      exact b_X10_pointBefore_12 hW m _ _ _ M _ hm ⟨by omega, by omega, fun _ => ⟨_, rfl, rfl, rfl⟩, fun z => absurd (by omega) z⟩
    | succ d ih =>
      intro i hi
      have hb := rch_b hw (i := i) (by omega)
      refine b_X10_pointBefore_12 hW m _ _ _ M _ hm ⟨by omega, by omega, fun z => absurd z (by omega), fun _ => ⟨_, ct_reach hW hm hw (k := i) (by omega), fun v3 M3 h3 => ?_⟩⟩
      obtain ⟨rfl, rfl⟩ := h3
      have h' := ih (i + 1) (by omega)
      refine ⟨by omega, h1, fun hlt => ?_, fun hge => ?_⟩
      · rw [pbG, if_neg (by omega)] at h'
        exact h'
      · rw [pbG, if_pos (by omega)] at h'
        exact h'
  exact key (wn (M (rf E m 0))) 0 (by omega)
end
