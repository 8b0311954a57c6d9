/-! Break, settings, map, undo of the class. -/
section
variable {E : fxE} {M : fxM}
theorem FR.brk {f : Nat} {w : Nat → Int} {p q : Int} (h : FR E M f w) (hW : fx_Wt E) (hf : kd E f = 2) (h0 : w 0 ≤ 8) (h43 : w 43 ≤ 6) : FR E (mset (mset M f 9 p) f 10 q) f (wu (wu w 56 p) 57 q) := by
  obtain ⟨e0, e1, e2, e4, e5, e6, e7⟩ := h
  refine ⟨?_, fun i hi => ?_, fun i hi => ?_, ?_, fun i hi => ?_, ?_, ?_⟩
  · rw [wu_n (by omega), wu_n (by omega), ← e0]; simp [mset]
  · rw [wu_n (by omega), wu_n (by omega)] at hi
    rw [wu_n (by omega), wu_n (by omega), wu_n (by omega), wu_n (by omega), wu_n (by omega), wu_n (by omega)]
    simpa [mset, fib_ne hW hf] using e1 i hi
  · rw [wu_n (by omega), wu_n (by omega)] at hi
    rw [wu_n (by omega), wu_n (by omega), wu_n (by omega), wu_n (by omega)]
    simpa [mset, fib_ne hW hf] using e2 i hi
  · rw [wu_n (by omega), wu_n (by omega), ← e4]; simp [mset]
  · rw [wu_n (by omega), wu_n (by omega)] at hi
    rw [wu_n (by omega), wu_n (by omega), wu_n (by omega), wu_n (by omega)]
    simpa [mset, fib_ne hW hf] using e5 i hi
  · rw [wu_n (by omega), wu_s]; simp [mset]
  · rw [wu_s]; simp [mset]
theorem cl_break (hW : fx_Wt E) {b n v : Nat} {w : Nat → Int} {H : Nat → Nat → Int} {p h : Int} (hb : kd E b = 9) (hC : CI E M b w H n v) (hw : wOk w) (h1 : inR p) (h2 : inR h) : CtI E m_X9_setBreak [.inr b, .inl p, .inl h] M (fun r M' => ∃ o, opBreak w p h r o ∧ CRes E M b w H n v o M') := by
  obtain ⟨hs, hf, -⟩ := wne hW hb
  have e3 := hC.1.1.1
  have e9 : M (rf E (rf E b 0) 0) 9 = w 56 := hC.1.1.2.2.2.2.2.1
  have et := hC.1.1.tot (by have := hw.1; omega)
  have h0 := hw.1
  have ht := hw.tot1
  have ht3 := hw.2.2.1
  have hbk := hw.2.2.2.2.2.2.1
  have oF : own E (rf E (rf E b 0) 0) = rf E (rf E b 0) 0 := own_o hf (by decide)
  have fin : ∀ (M7 M8 M9 : fxM) (q : Int), (CI E M7 b w (hpush H n w) (hlen n) (v + 1) ∧ KF E M M7 [3, 5, 9] ∧ ∀ c, reg E c = rf E b 0 → M7 c = M c) → M8 = mset M7 (rf E (rf E b 0) 0) 9 p → M9 = mset M8 (rf E (rf E b 0) 0) 10 q → CI E M9 b (wu (wu w 56 p) 57 q) (hpush H n w) (hlen n) (v + 1) ∧ KF E M M9 [3, 5, 9] := by
    intro M7 M8 M9 q h7 h8 h9
    subst h8 h9
    exact fin_fib hW hb h7.1 h7.2.1 ((Fo_mset oF).trans (Fo_mset oF)) (h7.1.1.1.brk hW hf hw.wB.1 hw.wB.2.1) (fun i hi => by rw [wu_n (by omega), wu_n (by omega)])
  refine x_ct (by decide) (Nat.le_of_ble_eq_true rfl) (b_X9_setBreak_0 hW b p h M _ hb ⟨by omega, h1, by rw [et]; omega, fun hp => ⟨h2, fun hh => ⟨fun p0 => ⟨_, ct_X9_recordChange hW hb hC hw.wB, fun M7 h7 M8 h8 => ⟨fun _ M9 h9 => ?_, fun z => absurd z p0⟩⟩, fun p0 => ⟨by omega, fun b0 => ⟨_, ct_X9_recordChange hW hb hC hw.wB, fun M7 h7 M8 h8 => ⟨fun z => absurd p0 z, fun _ M9 h9 => ?_⟩⟩, fun b0 => ?_⟩⟩, fun hh => ?_⟩, fun hp => ?_⟩)
  · rw [et] at hp
    have hf := fin M7 M8 M9 h h7 h8 h9
    refine ⟨_, rfl, _, Or.inl ⟨⟨hp, hh⟩, fun z => p0 z.1, e9, rfl⟩, Or.inr ⟨_, rfl, ?_⟩⟩
    rw [if_neg p0]
    exact hf
  · rw [et] at hp
    have hf := fin M7 M8 M9 0 h7 h8 h9
    refine ⟨_, rfl, _, Or.inl ⟨⟨hp, hh⟩, fun z => b0 (by rw [e9]; exact z.2), e9, rfl⟩, Or.inr ⟨_, rfl, ?_⟩⟩
    rw [if_pos p0]
    exact hf
  · rw [et] at hp
    exact ⟨_, rfl, none, Or.inr (Or.inl ⟨⟨hp, hh⟩, ⟨p0, by rw [← e9]; exact b0⟩, rfl, rfl⟩), Or.inl ⟨rfl, rfl⟩⟩
  · exact ⟨_, rfl, none, Or.inr (Or.inr ⟨fun z => hh z.2, rfl, rfl⟩), Or.inl ⟨rfl, rfl⟩⟩
  · rw [et] at hp
    exact ⟨_, rfl, none, Or.inr (Or.inr ⟨fun z => hp z.1, rfl, rfl⟩), Or.inl ⟨rfl, rfl⟩⟩
theorem MR.congr {p : Nat} {w w' : Nat → Int} (h : MR E M p w) (hw : ∀ j, 62 ≤ j → j < 84 → w' j = w j) (h62 : w 62 ≤ 10) : MR E M p w' := by
  unfold MR at h ⊢
  rw [hw 62 (by omega) (by omega), hw 83 (by omega) (by omega)]
  refine ⟨h.1, fun i hi => ?_, h.2.2⟩
  rw [hw (63 + 2 * i) (by omega) (by omega), hw (64 + 2 * i) (by omega) (by omega)]
  exact h.2.1 i hi
theorem sv_in (i j : Nat) : -2147483648 ≤ sv i j ∧ sv i j < 2147483648 := by
  unfold sv
  split <;> dsimp only <;> repeat (first | omega | split)
theorem cl_set (hW : fx_Wt E) {b n v : Nat} {w : Nat → Int} {H : Nat → Nat → Int} {k x : Int} (hb : kd E b = 9) (hC : CI E M b w H n v) (hw : wOk w) (h1 : inR k) (h2 : inR x) : CtI E m_X9_set [.inr b, .inl k, .inl x] M (fun r M' => ∃ o, opSet w k x r o ∧ CRes E M b w H n v o M') := by
  obtain ⟨hs, hf, hp⟩ := wne hW hb
  refine x_ct (by decide) (Nat.le_of_ble_eq_true rfl) (b_X9_set_0 hW b k x M _ hb ⟨h1, fun hk => ⟨by omega, h2, sv_in _ _, sv_in _ _, fun hx => ⟨_, ct_X9_recordChange hW hb hC hw.wB, fun M8 h8 M9 h9 => ?_⟩, fun hx => ?_⟩, fun hk => ?_⟩)
  · obtain ⟨j, rfl⟩ : ∃ j : Nat, k = (j : Int) := ⟨k.toNat, by omega⟩
    have hj : j < 4 := by omega
    refine ⟨_, rfl, _, Or.inl ⟨hk, hx, ?_, rfl⟩, Or.inr ⟨_, rfl, ?_⟩⟩
    · rw [Int.toNat_natCast]; exact hC.1.2.2 j hj
    · rw [Int.toNat_natCast] at h9 ⊢
      have F9 : Fo E M8 M9 (rf E b 0) := by rw [h9]; exact Fo_mset (os_2 hW hs)
      have Fr9 : Fr E M8 M9 (rf E b 0) := F9.fr (by omega) (reg_top hs rfl)
      have hB := hw.wB
      refine ⟨h8.1.upd hW hb Fr9 ⟨?_, ?_, fun i hi => ?_⟩, h8.2.1.trans (Fr9.kf hs (by decide))⟩
      · exact (h8.1.1.1.sa hW hf (F9.sa (kd_ne hf hs (by decide)))).congr hB.1 hB.2.1 (fun i hi => wu_n (by omega))
      · exact (h8.1.1.2.1.sa hW hp (F9.sa (kd_ne hp hs (by decide)))).congr (fun i hi _ => wu_n (by omega)) hB.2.2
      · rw [h9]
        by_cases hij : i = j
        · subst hij
          rw [mset_s, wu_s]
        · rw [mset_n hij, wu_n (by omega)]
          exact h8.1.1.2.2 i hi
  · exact ⟨_, rfl, none, Or.inr (Or.inr ⟨hk, hx, rfl, rfl⟩), Or.inl ⟨rfl, rfl⟩⟩
  · exact ⟨_, rfl, none, Or.inr (Or.inl ⟨hk, rfl, rfl⟩), Or.inl ⟨rfl, rfl⟩⟩
theorem ct_X0_append (hW : fx_Wt E) {f : Nat} {p s : Int} {w : Nat → Int} (hf : kd E f = 0) (h : MR E M f w) (h62 : 0 ≤ w 62 ∧ w 62 < 10) : CtV E m_X0_append [.inr f, .inl p, .inl s] M (fun M' => MR E M' f (wu (wu (wu w (63 + 2 * (w 62).toNat) p) (64 + 2 * (w 62).toNat) s) 62 (w 62 + 1)) ∧ Fo E M M' f) := by
  obtain ⟨e0, e1, e2⟩ := h
  obtain ⟨k, hk⟩ : ∃ k : Nat, w 62 = (k : Int) := ⟨(w 62).toNat, by omega⟩
  refine x_ct (by decide) (Nat.le_of_ble_eq_true rfl) (b_X0_append_0 hW f p s M _ hf ⟨by omega, fun hc => absurd hc (by omega), fun _ => ⟨fun _ => ⟨by omega, fun M3 h3 => ?_⟩, fun hc => absurd hc (by omega)⟩⟩)
  have k3 : M3 f 2 = (k : Int) := by rw [h3, mset_o (kd_ne hf (wk_0_0 hW hf) (by decide)), e0, hk]
  refine ⟨by omega, fun M5 h5 M6 h6 => ⟨rfl, ?_, ?_⟩⟩
  · have k5 : M5 f 2 = (k : Int) := by rw [h5, mset_o (kd_ne hf (wk_0_1 hW hf) (by decide)), k3]
    rw [k5] at h6; rw [k3] at h5; rw [e0, hk] at h3
    rw [Int.toNat_natCast] at h3 h5
    clear k3 k5
    subst h3 h5 h6
    rw [hk, Int.toNat_natCast]
    refine ⟨by rw [wu_s]; simp [mset], fun i hi => ?_, ?_⟩
    · rw [wu_s] at hi
      by_cases hik : i = k
      · subst hik
        rw [wu_n (by omega), wu_n (by omega), wu_s, wu_n (by omega), wu_s]; simp [mset, map_ne hW hf]
      · have := e1 i (by omega)
        rw [wu_n (by omega), wu_n (by omega), wu_n (by omega), wu_n (by omega), wu_n (by omega), wu_n (by omega)]; simp [mset, map_ne hW hf, hik, this]
    · rw [wu_n (by omega), wu_n (by omega), wu_n (by omega), ← e2]; simp [mset, map_ne hW hf]
  · rw [h6, h5, h3]; exact ((Fo_mset (om_0 hW hf)).trans (Fo_mset (om_1 hW hf))).trans (Fo_mset (own_o hf (by decide)))
theorem cl_point (hW : fx_Wt E) {b n v : Nat} {w : Nat → Int} {H : Nat → Nat → Int} {p s : Int} (hb : kd E b = 9) (hC : CI E M b w H n v) (hw : wOk w) (h1 : inR p) (h2 : inR s) : CtI E m_X9_addPoint [.inr b, .inl p, .inl s] M (fun r M' => ∃ o, opPoint w p s r o ∧ CRes E M b w H n v o M') := by
  obtain ⟨hs, -, hm⟩ := wne hW hb
  have e2 : M (rf E (rf E b 0) 1) 2 = w 62 := hC.1.2.1.1
  have h62 := hw.2.2.2.2.2.2.2.2.2.1
  have hpt := hw.2.2.2.2.2.2.2.2.2.2.1
  have fin : (0 ≤ p ∧ p ≤ 9999) ∧ (0 ≤ s ∧ s ≤ 99) → w 62 < 10 → (w 62 = 0 ∨ w (61 + 2 * (w 62).toNat) < p) → ∃ R : fxM → Prop, CtV E m_X9_recordChange [.inr b] M R ∧ ∀ M6, R M6 → ∃ R' : fxM → Prop, CtV E m_X0_append [.inr (rf E (rf E b 0) 1), .inl p, .inl s] M6 R' ∧ ∀ M7, R' M7 → ∃ x : Int, some (.inl (M7 (rf E (rf E b 0) 1) 2 - 1)) = some (.inl x : fxV) ∧ ∃ o, opPoint w p s x o ∧ CRes E M b w H n v o M7 := by
    intro hr h10 hg
    refine ⟨_, ct_X9_recordChange hW hb hC hw.wB, fun M6 h6 => ⟨_, ct_X0_append hW hm h6.1.1.2.1 (by omega), fun M7 h7 => ⟨_, rfl, _, Or.inl ⟨hr, h10, hg, ?_, rfl⟩, Or.inr ⟨_, rfl, ?_⟩⟩⟩⟩
    · rw [h7.1.1, wu_s]; omega
    · exact fin_map hW hb hw.wB h6.1 h6.2.1 h7.2 h7.1 (fun i hi => by rw [wu_n (by omega), wu_n (by omega), wu_n (by omega)])
  refine x_ct (by decide) (Nat.le_of_ble_eq_true rfl) (b_X9_addPoint_0 hW b p s M _ hb ⟨h1, fun hp => ⟨h2, fun hsl => ⟨by omega, fun hc => ⟨fun hz => fin ⟨hp, hsl⟩ (by omega) (Or.inl (by omega)), fun hz => ?_⟩, fun hc => ?_⟩, fun hsl => ?_⟩, fun hp => ?_⟩)
  · have hlast := hC.1.2.1.2.1 ((w 62).toNat - 1) (by omega)
    have ei : (M (rf E (rf E b 0) 1) 2 - 1).toNat = (w 62).toNat - 1 := by rw [e2]; omega
    have ew : 63 + 2 * ((w 62).toNat - 1) = 61 + 2 * (w 62).toNat := by omega
    have hb9 := (hpt ((w 62).toNat - 1) (by omega)).1
    rw [ew] at hlast hb9
    rw [ei, hlast.1]
    refine ⟨by omega, by omega, fun hg => fin ⟨hp, hsl⟩ (by omega) (Or.inr hg), fun hg => ?_⟩
    exact ⟨_, rfl, none, Or.inr (Or.inr (Or.inl ⟨⟨hp, hsl⟩, by omega, by omega, rfl, rfl⟩)), Or.inl ⟨rfl, rfl⟩⟩
  · exact ⟨_, rfl, none, Or.inr (Or.inl ⟨⟨hp, hsl⟩, by omega, rfl, rfl⟩), Or.inl ⟨rfl, rfl⟩⟩
  · exact ⟨_, rfl, none, Or.inr (Or.inr (Or.inr ⟨fun z => hsl z.2, rfl, rfl⟩)), Or.inl ⟨rfl, rfl⟩⟩
  · exact ⟨_, rfl, none, Or.inr (Or.inr (Or.inr ⟨fun z => hp z.1, rfl, rfl⟩)), Or.inl ⟨rfl, rfl⟩⟩
theorem cl_clear (hW : fx_Wt E) {b n v : Nat} {w : Nat → Int} {H : Nat → Nat → Int} (hb : kd E b = 9) (hC : CI E M b w H n v) (hw : wOk w) : CtI E m_X9_clearMap [.inr b] M (fun r M' => ∃ o, opClear w r o ∧ CRes E M b w H n v o M') := by
  obtain ⟨hs, -, hm⟩ := wne hW hb
  refine x_ct (by decide) (Nat.le_of_ble_eq_true rfl) (b_X9_clearMap_0 hW b M _ hb ⟨_, ct_X9_recordChange hW hb hC hw.wB, fun M1 h1 M2 h2 => ⟨_, rfl, _, ⟨hC.1.2.1.1, rfl⟩, Or.inr ⟨_, rfl, ?_⟩⟩⟩)
  refine fin_map hW hb hw.wB h1.1 h1.2.1 (M2 := M2) (by rw [h2]; exact Fo_mset (own_o hm (by decide))) ?_ (fun i hi => wu_n (by omega))
  rw [h2]
  refine ⟨by rw [wu_s, mset_s], fun i hi => absurd hi (by rw [wu_s]; omega), ?_⟩
  rw [wu_n (by omega), mset_n (by decide)]
  exact h1.1.1.2.1.2.2
theorem cl_exc (hW : fx_Wt E) {b n v : Nat} {w : Nat → Int} {H : Nat → Nat → Int} {e : Int} (hb : kd E b = 9) (hC : CI E M b w H n v) (hw : wOk w) (h1 : inR e) : CtI E m_X9_setExcess [.inr b, .inl e] M (fun r M' => ∃ o, opExc w e r o ∧ CRes E M b w H n v o M') := by
  obtain ⟨hs, -, hm⟩ := wne hW hb
  refine x_ct (by decide) (Nat.le_of_ble_eq_true rfl) (b_X9_setExcess_0 hW b e M _ hb ⟨h1, fun he => ⟨_, ct_X9_recordChange hW hb hC hw.wB, fun M1 h1 M2 h2 => ⟨_, rfl, _, Or.inl ⟨he, hC.1.2.1.2.2, rfl⟩, Or.inr ⟨_, rfl, ?_⟩⟩⟩, fun he => ⟨_, rfl, none, Or.inr ⟨he, rfl, rfl⟩, Or.inl ⟨rfl, rfl⟩⟩⟩)
  refine fin_map hW hb hw.wB h1.1 h1.2.1 (M2 := M2) (by rw [h2]; exact Fo_mset (own_o hm (by decide))) ?_ (fun i hi => wu_n (by omega))
  rw [h2]
  have h62 := hw.wB.2.2
  refine ⟨by rw [wu_n (by omega), mset_n (by decide)]; exact h1.1.1.2.1.1, fun i hi => ?_, by rw [wu_s, mset_s]⟩
  rw [wu_n (by omega)] at hi
  rw [wu_n (by omega), wu_n (by omega), mset_o (map_ne hW hm).1, mset_o (map_ne hW hm).2.2.1]
  exact h1.1.1.2.1.2.1 i hi
/-- undo -/
theorem cl_undo (hW : fx_Wt E) {b n v : Nat} {w : Nat → Int} {H : Nat → Nat → Int} (hb : kd E b = 9) (hC : CI E M b w H n v) (hH : ∀ i, i < n → wB (H i)) : CtI E m_X9_undo [.inr b] M (fun r M' => (n = 0 ∧ r = -1000004 ∧ M' = M) ∨ ∃ k, n = k + 1 ∧ r = (k : Int) ∧ CI E M' b (H k) H k (v + 1) ∧ KF E M M' [3, 5, 9]) := by
  have hs := wk_9_0 hW hb
  have hh := wk_9_1 hW hb
  obtain ⟨c1, c2, c3⟩ := hC
  have hn := c2.1
  have hn8 := c2.2.1
  refine x_ct (by decide) (Nat.le_of_ble_eq_true rfl) (b_X9_undo_0 hW b M _ hb ⟨by omega, fun h => ?_, fun h => ⟨_, rfl, Or.inl ⟨by omega, rfl, rfl⟩⟩⟩)
  obtain ⟨k, rfl⟩ : ∃ k, n = k + 1 := ⟨n - 1, by omega⟩
  refine ⟨_, ct_X3_restore hW hh hs (now_ne hW hb) c2 (hH k (by omega)), fun M2 h2 M3 h3 => ?_⟩
  have F3 : Fr E M2 M3 b := by rw [h3]; exact Fr_mset (reg_top hb rfl)
  have kb : M2 b = M b := h2.2.2 b (by rw [reg_top hb rfl]; exact kd_ne hb hh (by decide)) (by rw [reg_top hb rfl]; exact kd_ne hb hs (by decide))
  have kh : M3 (rf E b 1) = M2 (rf E b 1) := F3 _ (by rw [reg_top hh rfl]; exact kd_ne hh hb (by decide))
  refine ⟨_, rfl, Or.inr ⟨k, rfl, by rw [kh]; exact h2.1.1, ⟨h2.2.1.fr hW hs F3 (kd_ne hs hb (by decide)), ?_, by rw [h3, mset_s, kb, c3]; omega⟩, fun c hc => ?_⟩⟩
  · obtain ⟨q1, q2, o, q3, q4, q5⟩ := h2.1
    refine ⟨by rw [kh]; exact q1, q2, o, q3, by rw [kh]; exact q4, fun i hi => ?_⟩
    have hi8 : (o + i) % 8 < 8 := Nat.mod_lt _ (by decide)
    exact (q5 i hi).fr hW (st_kd hW hh hi8) F3 (kd_ne (st_kd hW hh hi8) hb (by decide))
  · rw [F3 c (fun z => hc (by rw [z, hb]; decide)), h2.2.2 c (fun z => hc (by rw [z, hh]; decide)) (fun z => hc (by rw [z, hs]; decide))]
end
