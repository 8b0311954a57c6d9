/-! The reference's changes. -/
section
variable {E : fxE} {M : fxM}
def KP (E : fxE) (M : fxM) (m n : Nat) (M1 : fxM) : Prop := M1 m 2 = (hlen n : Int) ∧ M1 m 3 = -1 ∧ (∀ k, k ≠ 2 → k ≠ 3 → M1 m k = M m k) ∧ M1 (rf E m 1) = rpush (M (rf E m 1)) n (M (rf E m 0)) ∧ ∀ c, c ≠ m → c ≠ rf E m 1 → M1 c = M c
theorem KP.w (hW : fx_Wt E) {m n : Nat} {M1 : fxM} (hm : kd E m = 10) (h : KP E M m n M1) : M1 (rf E m 0) = M (rf E m 0) := h.2.2.2.2 _ (kd_ne (wk_10_0 hW hm) hm (by decide)) (mne hW hm rfl rfl (by decide))
theorem fin_ref (hW : fx_Wt E) {m n : Nat} {M1 : fxM} {w1 : Nat → Int} (hm : kd E m = 10) (h : KP E M m n M1) : RRes E M m n (some w1) (mrow M1 (rf E m 0) w1) := by
  have n0 : m ≠ rf E m 0 := kd_ne hm (wk_10_0 hW hm) (by decide)
  have n01 : rf E m 1 ≠ rf E m 0 := mne hW hm rfl rfl (by decide)
  obtain ⟨k1, k2, k3, k4, k5⟩ := h
  exact Or.inr ⟨w1, rfl, mrow_s, by rw [mrow_o n01, k4], by rw [mrow_o n0, k1], by rw [mrow_o n0, k2], fun k a b => by rw [mrow_o n0, k3 k a b], fun c a b d => by rw [mrow_o b, k5 c a d]⟩
theorem mset_wu {a k : Nat} {v : Int} : mset M a k v = mrow M a (wu (M a) k v) := mset_mrow
theorem mset_rwu {a k : Nat} {v : Int} {g : Nat → Int} : mset (mrow M a g) a k v = mrow M a (wu g k v) := mset_row
theorem re_begin (hW : fx_Wt E) {m n : Nat} {l a s : Int} (hm : kd E m = 10) (hn : M m 2 = (n : Int)) (hn8 : n ≤ 8) (hw : wOk (M (rf E m 0))) (h1 : inR l) (h2 : inR a) (h3 : inR s) : CtI E m_X10_begin [.inr m, .inl l, .inl a, .inl s] M (fun r M' => ∃ o, opBegin (M (rf E m 0)) l a s r o ∧ RRes E M m n o M') := by
  have h0 := hw.1
  refine x_ct (by decide) (Nat.le_of_ble_eq_true rfl) (b_X10_begin_0 hW m l a s M _ hm ⟨h1, h2, h3, fun ok => ⟨_, ct_X10_keep hW hm hn hn8, fun M5 h5 => ?_⟩, fun nok => ⟨_, rfl, none, Or.inr ⟨nok, rfl, rfl⟩, Or.inl ⟨rfl, rfl⟩⟩⟩)
  have kp : KP E M m n M5 := h5
  have e5 := kp.w hW hm
  rw [e5]
  refine ⟨by omega, _, ct_X10_renew hW hm, fun M7 h7 => ⟨_, rfl, _, Or.inl ⟨ok, rfl, rfl⟩, ?_⟩⟩
  rw [h7, e5]
  exact fin_ref hW hm kp
theorem re_add (hW : fx_Wt E) {m n : Nat} {l a s : Int} (hm : kd E m = 10) (hn : M m 2 = (n : Int)) (hn8 : n ≤ 8) (hw : wOk (M (rf E m 0))) (h1 : inR l) (h2 : inR a) (h3 : inR s) : CtI E m_X10_addSection [.inr m, .inl l, .inl a, .inl s] M (fun r M' => ∃ o, opAdd (M (rf E m 0)) l a s r o ∧ RRes E M m n o M') := by
  have h0 := hw.1
  have ht := hw.tot1
  have ht3 := hw.2.2.1
  have et : wsum (M (rf E m 0)) (M (rf E m 0) 0).toNat = tot (M (rf E m 0)) := rfl
  refine x_ct (by decide) (Nat.le_of_ble_eq_true rfl) (b_X10_addSection_0 hW m l a s M _ hm ⟨h1, h2, h3, fun ok => ⟨by omega, fun hc => ?_, fun hc => ⟨by omega, by rw [et]; have := ok.1; omega, fun hc2 => ?_, fun hc2 => ?_⟩⟩, fun nok => ⟨_, rfl, none, Or.inr (Or.inr ⟨nok, rfl, rfl⟩), Or.inl ⟨rfl, rfl⟩⟩⟩)
  · exact ⟨_, rfl, none, Or.inr (Or.inl ⟨ok, by omega, rfl, rfl⟩), Or.inl ⟨rfl, rfl⟩⟩
  · rw [et] at hc2
    refine ⟨_, ct_X10_keep hW hm hn hn8, fun M5 h5 => ?_⟩
    have kp : KP E M m n M5 := h5
    have e5 := kp.w hW hm
    refine ⟨_, ct_X10_append hW hm (by rw [e5]; omega), fun M9 h9 => ⟨_, rfl, _, Or.inl ⟨ok, ⟨by omega, hc2⟩, ?_, rfl⟩, ?_⟩⟩
    · have hn : M (rf E m 0) 0 = (((M (rf E m 0) 0).toNat : Nat) : Int) := by omega
      rw [h9, mrow_s, e5, (wapp_at (l := l) (a := a) (s := s) hn (by omega)).1]
      omega
    · rw [h9, e5]
      exact fin_ref hW hm kp
  · rw [et] at hc2
    exact ⟨_, rfl, none, Or.inr (Or.inl ⟨ok, by omega, rfl, rfl⟩), Or.inl ⟨rfl, rfl⟩⟩
theorem re_joint (hW : fx_Wt E) {m n : Nat} {j l h : Int} (hm : kd E m = 10) (hn : M m 2 = (n : Int)) (hn8 : n ≤ 8) (hw : wOk (M (rf E m 0))) (h1 : inR j) (h2 : inR l) (h3 : inR h) : CtI E m_X10_setJoint [.inr m, .inl j, .inl l, .inl h] M (fun r M' => ∃ o, opJoint (M (rf E m 0)) j l h r o ∧ RRes E M m n o M') := by
  have h0 := hw.1
  refine x_ct (by decide) (Nat.le_of_ble_eq_true rfl) (b_X10_setJoint_0 hW m j l h M _ hm ⟨h1, by omega, fun hj => ⟨h2, fun hl => ⟨h3, fun hh => ⟨_, ct_X10_keep hW hm hn hn8, fun M8 h8 => ⟨by omega, fun M10 h10 => ⟨by omega, fun M12 h12 => ?_⟩⟩⟩, fun hh => ?_⟩, fun hl => ?_⟩, fun hj => ?_⟩)
  · have kp : KP E M m n M8 := h8
    have e8 := kp.w hW hm
    obtain ⟨k, rfl⟩ : ∃ k : Nat, j = (k : Int) := ⟨j.toNat, by omega⟩
    have e1 : (25 + 2 * (k : Int)).toNat = 25 + 2 * k := by omega
    have e2 : (25 + 2 * (k : Int) + 1).toNat = 26 + 2 * k := by omega
    rw [e1] at h10
    rw [e2] at h12
    rw [e1, e8]
    refine ⟨_, rfl, _, Or.inl ⟨hj, ⟨hl, hh⟩, rfl, rfl⟩, ?_⟩
    rw [mset_wu, e8] at h10
    rw [h10, mset_rwu] at h12
    rw [h12, Int.toNat_natCast]
    exact fin_ref hW hm kp
  · exact ⟨_, rfl, none, Or.inr (Or.inr ⟨hj, fun z => hh z.2, rfl, rfl⟩), Or.inl ⟨rfl, rfl⟩⟩
  · exact ⟨_, rfl, none, Or.inr (Or.inr ⟨hj, fun z => hl z.1, rfl, rfl⟩), Or.inl ⟨rfl, rfl⟩⟩
  · exact ⟨_, rfl, none, Or.inr (Or.inl ⟨hj, rfl, rfl⟩), Or.inl ⟨rfl, rfl⟩⟩
theorem re_bendA (hW : fx_Wt E) {m n : Nat} {p l : Int} (hm : kd E m = 10) (hn : M m 2 = (n : Int)) (hn8 : n ≤ 8) (hw : wOk (M (rf E m 0))) (h1 : inR p) (h2 : inR l) : CtI E m_X10_addBend [.inr m, .inl p, .inl l] M (fun r M' => ∃ o, opBendA (M (rf E m 0)) p l r o ∧ RRes E M m n o M') := by
  have h0 := hw.1
  have ht := hw.tot1
  have ht3 := hw.2.2.1
  have hb6 := hw.2.2.2.2.1
  have et : wsum (M (rf E m 0)) (M (rf E m 0) 0).toNat = tot (M (rf E m 0)) := rfl
  refine x_ct (by decide) (Nat.le_of_ble_eq_true rfl) (b_X10_addBend_0 hW m p l M _ hm ⟨by omega, h1, by rw [et]; omega, fun hp => ⟨h2, fun hl => ⟨by omega, fun hc => ⟨_, ct_X10_keep hW hm hn hn8, fun M8 h8 => ?_⟩, fun hc => ?_⟩, fun hl => ?_⟩, fun hp => ?_⟩)
  · have kp : KP E M m n M8 := h8
    have e8 := kp.w hW hm
    rw [e8]
    obtain ⟨k, hk⟩ : ∃ k : Nat, M (rf E m 0) 43 = (k : Int) := ⟨(M (rf E m 0) 43).toNat, by omega⟩
    refine ⟨by omega, fun M10 h10 => ?_⟩
    have e1 : (44 + 2 * M (rf E m 0) 43).toNat = 44 + 2 * (M (rf E m 0) 43).toNat := by omega
    rw [e1, mset_wu, e8] at h10
    have k10 : M10 (rf E m 0) 43 = M (rf E m 0) 43 := by rw [h10, mrow_s, wu_n (by omega)]
    rw [k10]
    refine ⟨by omega, fun M12 h12 M13 h13 => ?_⟩
    have e2 : (44 + 2 * M (rf E m 0) 43 + 1).toNat = 45 + 2 * (M (rf E m 0) 43).toNat := by omega
    rw [e2, h10, mset_rwu] at h12
    have k12 : M12 (rf E m 0) 43 = M (rf E m 0) 43 := by rw [h12, mrow_s, wu_n (by omega), wu_n (by omega)]
    rw [k12, h12, mset_rwu] at h13
    refine ⟨_, rfl, _, Or.inl ⟨⟨hp, hl⟩, by omega, ?_, rfl⟩, ?_⟩
    · rw [h13, mrow_s, wu_s]; omega
    · rw [h13]
      exact fin_ref hW hm kp
  · exact ⟨_, rfl, none, Or.inr (Or.inl ⟨⟨hp, hl⟩, by omega, rfl, rfl⟩), Or.inl ⟨rfl, rfl⟩⟩
  · exact ⟨_, rfl, none, Or.inr (Or.inr ⟨fun z => hl z.2, rfl, rfl⟩), Or.inl ⟨rfl, rfl⟩⟩
  · exact ⟨_, rfl, none, Or.inr (Or.inr ⟨fun z => hp z.1, rfl, rfl⟩), Or.inl ⟨rfl, rfl⟩⟩
theorem re_bendR (hW : fx_Wt E) {m n : Nat} {k : Int} (hm : kd E m = 10) (hn : M m 2 = (n : Int)) (hn8 : n ≤ 8) (hw : wOk (M (rf E m 0))) (h1 : inR k) : CtI E m_X10_removeBend [.inr m, .inl k] M (fun r M' => ∃ o, opBendR (M (rf E m 0)) k r o ∧ RRes E M m n o M') := by
  have hb6 := hw.2.2.2.2.1
  refine x_ct (by decide) (Nat.le_of_ble_eq_true rfl) (b_X10_removeBend_0 hW m k M _ hm ⟨h1, by omega, fun hk => ⟨_, ct_X10_keep hW hm hn hn8, fun M4 h4 => ⟨by omega, fun M6 h6 => ?_⟩⟩, fun hk => ⟨_, rfl, none, Or.inr ⟨hk, rfl, rfl⟩, Or.inl ⟨rfl, rfl⟩⟩⟩)
  have kp : KP E M m n M4 := h4
  have e4 := kp.w hW hm
  obtain ⟨j, rfl⟩ : ∃ j : Nat, k = (j : Int) := ⟨k.toNat, by omega⟩
  obtain ⟨c, hc⟩ : ∃ c : Nat, M (rf E m 0) 43 = (c : Int) + 1 := ⟨(M (rf E m 0) 43 - 1).toNat, by omega⟩
  have e1 : (44 + 2 * (j : Int) + 1).toNat = 45 + 2 * j := by omega
  rw [e4, mset_wu, e4, hc, show (c : Int) + 1 - 1 = c by omega] at h6
  rw [e1, e4]
  have key : ∀ (q x : Nat), x + q = 44 + 2 * c → 44 + 2 * j ≤ x → fx_At E m_X10_removeBend 47 [some (.inr m), some (.inl (j : Int)), some (.inl (M (rf E m 0) (45 + 2 * j))), some (.inl (x : Int))] [] (mrow M4 (rf E m 0) (fun i => if 44 + 2 * j ≤ i ∧ i < x then M (rf E m 0) (i + 2) else if i = 43 then (c : Int) else M (rf E m 0) i)) (fun r M' => r = some (.inl (M (rf E m 0) (45 + 2 * j))) ∧ M' = mrow M4 (rf E m 0) (fun i => if 44 + 2 * j ≤ i ∧ i < 44 + 2 * c then M (rf E m 0) (i + 2) else if i = 43 then (c : Int) else M (rf E m 0) i)) := by
    intro q
    induction q with
    | zero =>
      intro x hx hjx
      obtain rfl : x = 44 + 2 * c := by omega
      refine b_X10_removeBend_47 hW m _ _ _ _ _ hm ?_
      rw [mrow_s]
      rw [if_neg (by omega : ¬ (44 + 2 * j ≤ 43 ∧ 43 < 44 + 2 * c)), if_pos rfl]
      exact ⟨by omega, by omega, fun _ => ⟨rfl, rfl⟩, fun z => absurd (by omega) z⟩
    | succ q ih =>
      intro x hx hjx
      refine b_X10_removeBend_47 hW m _ _ _ _ _ hm ?_
      rw [mrow_s]
      rw [if_neg (by omega : ¬ (44 + 2 * j ≤ 43 ∧ 43 < x)), if_pos rfl]
      refine ⟨by omega, by omega, fun z => absurd z (by omega), fun _ => ⟨by omega, by omega, fun M5 h5 => ?_⟩⟩
      have ex : ((x : Int) + 2).toNat = x + 2 := by omega
      rw [ex, Int.toNat_natCast, if_neg (by omega), if_neg (by omega), mset_row] at h5
      have e : (fun i => if i = x then M (rf E m 0) (x + 2) else if 44 + 2 * j ≤ i ∧ i < x then M (rf E m 0) (i + 2) else if i = 43 then (c : Int) else M (rf E m 0) i) = fun i => if 44 + 2 * j ≤ i ∧ i < x + 1 then M (rf E m 0) (i + 2) else if i = 43 then (c : Int) else M (rf E m 0) i := by
        funext i
        by_cases g1 : i = x
        · rw [if_pos g1, if_pos (by omega), g1]
        · rw [if_neg g1]
          by_cases g2 : 44 + 2 * j ≤ i ∧ i < x
          · rw [if_pos g2, if_pos (by omega)]
          · rw [if_neg g2, if_neg (show ¬ (44 + 2 * j ≤ i ∧ i < x + 1) by omega)]
      rw [e] at h5
      rw [h5]
      exact ih (x + 1) (by omega) (by omega)
  have h := key (2 * c - 2 * j) (44 + 2 * j) (by omega) (Nat.le_refl _)
  have e : (fun i => if 44 + 2 * j ≤ i ∧ i < 44 + 2 * j then M (rf E m 0) (i + 2) else if i = 43 then (c : Int) else M (rf E m 0) i) = wu (M (rf E m 0)) 43 (c : Int) := by
    funext i
    rw [if_neg (by omega)]
    rfl
  rw [e, ← h6] at h
  have e44 : ((44 + 2 * j : Nat) : Int) = 44 + 2 * (j : Int) := by omega
  rw [e44] at h
  refine x_mono h (fun r M' q => ⟨_, q.1, _, Or.inl ⟨by omega, by rw [Int.toNat_natCast], rfl⟩, ?_⟩)
  rw [q.2, Int.toNat_natCast]
  have e2 : (fun i => if 44 + 2 * j ≤ i ∧ i < 44 + 2 * c then M (rf E m 0) (i + 2) else if i = 43 then (c : Int) else M (rf E m 0) i) = wrem (M (rf E m 0)) j := by
    funext i
    simp only [wrem]
    rw [hc]
    by_cases g : 44 + 2 * j ≤ i ∧ i < 44 + 2 * c
    · rw [if_pos g, if_pos (by omega)]
    · rw [if_neg g, if_neg (show ¬ (44 + 2 * j ≤ i ∧ (i : Int) < 44 + 2 * ((c : Int) + 1 - 1)) by omega), show (c : Int) + 1 - 1 = c by omega]
  rw [e2]
  exact fin_ref hW hm kp
theorem re_break (hW : fx_Wt E) {m n : Nat} {p h : Int} (hm : kd E m = 10) (hn : M m 2 = (n : Int)) (hn8 : n ≤ 8) (hw : wOk (M (rf E m 0))) (h1 : inR p) (h2 : inR h) : CtI E m_X10_setBreak [.inr m, .inl p, .inl h] M (fun r M' => ∃ o, opBreak (M (rf E m 0)) p h r o ∧ RRes E M m n o M') := by
  have h0 := hw.1
  have ht := hw.tot1
  have ht3 := hw.2.2.1
  have hbk := hw.2.2.2.2.2.2.1
  have et : wsum (M (rf E m 0)) (M (rf E m 0) 0).toNat = tot (M (rf E m 0)) := rfl
  have at49 : (0 ≤ p ∧ p ≤ tot (M (rf E m 0)) - 1) → (0 ≤ h ∧ h ≤ 9000) → ¬ (p = 0 ∧ M (rf E m 0) 56 = 0) → fx_At E m_X10_setBreak 49 [some (.inr m), some (.inl p), some (.inl h), none] [] M (fun r M' => ∃ v : Int, r = some (.inl v) ∧ ∃ o, opBreak (M (rf E m 0)) p h v o ∧ RRes E M m n o M') := by
    intro hp hh hz
    refine b_X10_setBreak_49 hW m p h M _ hm ⟨_, ct_X10_keep hW hm hn hn8, fun M1 h1' M2 h2' => ?_⟩
    have kp : KP E M m n M1 := h1'
    have e1 := kp.w hW hm
    rw [mset_wu, e1] at h2'
    rw [e1]
    refine ⟨h1, fun p0 M4 h4 => ?_, fun p0 M4 h4 => ?_⟩
    · rw [h2', mset_rwu] at h4
      refine ⟨_, rfl, _, Or.inl ⟨⟨hp, hh⟩, hz, rfl, rfl⟩, ?_⟩
      rw [h4, if_neg p0]
      exact fin_ref hW hm kp
    · rw [h2', mset_rwu] at h4
      refine ⟨_, rfl, _, Or.inl ⟨⟨hp, hh⟩, hz, rfl, rfl⟩, ?_⟩
      rw [h4, if_pos p0]
      exact fin_ref hW hm kp
  have at18 : (0 ≤ p ∧ p ≤ tot (M (rf E m 0)) - 1) → fx_At E m_X10_setBreak 18 [some (.inr m), some (.inl p), some (.inl h), none] [] M (fun r M' => ∃ v : Int, r = some (.inl v) ∧ ∃ o, opBreak (M (rf E m 0)) p h v o ∧ RRes E M m n o M') := by
    intro hp
    refine b_X10_setBreak_18 hW m p h M _ hm ⟨h2, fun hh => ⟨h1, fun p0 => at49 hp hh (fun z => p0 z.1), fun p0 => ⟨by omega, fun b0 => at49 hp hh (fun z => b0 z.2), fun b0 => ?_⟩⟩, fun hh => ?_⟩
    · exact ⟨_, rfl, none, Or.inr (Or.inl ⟨⟨hp, hh⟩, ⟨p0, b0⟩, rfl, rfl⟩), Or.inl ⟨rfl, rfl⟩⟩
    · exact ⟨_, rfl, none, Or.inr (Or.inr ⟨fun z => hh z.2, rfl, rfl⟩), Or.inl ⟨rfl, rfl⟩⟩
  refine x_ct (by decide) (Nat.le_of_ble_eq_true rfl) (b_X10_setBreak_0 hW m p h M _ hm ⟨h1, fun p0 => at18 (by omega), fun p0 => ⟨by omega, by rw [et]; omega, fun hp => at18 (by rw [et] at hp; omega), fun hp => ?_⟩⟩)
  rw [et] at hp
  exact ⟨_, rfl, none, Or.inr (Or.inr ⟨fun z => hp (by have := z.1; omega), rfl, rfl⟩), Or.inl ⟨rfl, rfl⟩⟩
theorem re_set (hW : fx_Wt E) {m n : Nat} {k x : Int} (hm : kd E m = 10) (hn : M m 2 = (n : Int)) (hn8 : n ≤ 8) (h1 : inR k) (h2 : inR x) : CtI E m_X10_set [.inr m, .inl k, .inl x] M (fun r M' => ∃ o, opSet (M (rf E m 0)) k x r o ∧ RRes E M m n o M') := by
  have at57 : ∀ lo hi : Int, (0 ≤ k ∧ k ≤ 3) → lo = sv 0 k.toNat → hi = sv 1 k.toNat → fx_At E m_X10_set 57 [some (.inr m), some (.inl k), some (.inl x), some (.inl hi), none] [.inl lo, .inl x] M (fun r M' => ∃ v : Int, r = some (.inl v) ∧ ∃ o, opSet (M (rf E m 0)) k x v o ∧ RRes E M m n o M') := by
    intro lo hi hk e1 e2
    refine b_X10_set_57 hW m k x hi x lo M _ hm ⟨h2, by rw [e1]; exact sv_in _ _, by rw [e2]; exact sv_in _ _, fun hx => ⟨_, ct_X10_keep hW hm hn hn8, fun M5 h5 => ⟨by omega, fun M7 h7 => ?_⟩⟩, fun hx => ?_⟩
    · have kp : KP E M m n M5 := h5
      have e5 := kp.w hW hm
      have ek : (58 + k).toNat = 58 + k.toNat := by omega
      rw [ek, mset_wu, e5] at h7
      rw [ek, e5]
      rw [e1, e2] at hx
      refine ⟨_, rfl, _, Or.inl ⟨hk, hx, rfl, rfl⟩, ?_⟩
      rw [h7]
      exact fin_ref hW hm kp
    · rw [e1, e2] at hx
      exact ⟨_, rfl, none, Or.inr (Or.inr ⟨hk, hx, rfl, rfl⟩), Or.inl ⟨rfl, rfl⟩⟩
  refine x_ct (by decide) (Nat.le_of_ble_eq_true rfl) (b_X10_set_0 hW m k x M _ hm ⟨h1, fun hk => ⟨fun k0 => ⟨fun k1 => ⟨fun k2 => ⟨fun _ => at57 _ _ hk ?_ ?_, fun z => absurd z k1⟩, fun k2 => ⟨fun _ => at57 _ _ hk ?_ ?_, fun z => absurd z k1⟩⟩, fun k1 => ⟨fun z => absurd k1 z, fun _ => at57 _ _ hk ?_ ?_⟩⟩, fun k0 => ⟨fun _ => at57 _ _ hk ?_ ?_, fun z => absurd (k0.symm.trans z) (by decide)⟩⟩, fun hk => ⟨_, rfl, none, Or.inr (Or.inl ⟨hk, rfl, rfl⟩), Or.inl ⟨rfl, rfl⟩⟩⟩)
  · rw [show k.toNat = 3 by omega]; rfl
  · rw [show k.toNat = 3 by omega]; rfl
  · rw [show k.toNat = 2 by omega]; rfl
  · rw [show k.toNat = 2 by omega]; rfl
  · rw [show k.toNat = 1 by omega]; rfl
  · rw [show k.toNat = 1 by omega]; rfl
  · rw [show k.toNat = 0 by omega]; rfl
  · rw [show k.toNat = 0 by omega]; rfl
theorem re_point (hW : fx_Wt E) {m n : Nat} {p s : Int} (hm : kd E m = 10) (hn : M m 2 = (n : Int)) (hn8 : n ≤ 8) (hw : wOk (M (rf E m 0))) (h1 : inR p) (h2 : inR s) : CtI E m_X10_addPoint [.inr m, .inl p, .inl s] M (fun r M' => ∃ o, opPoint (M (rf E m 0)) p s r o ∧ RRes E M m n o M') := by
  have h62 := hw.2.2.2.2.2.2.2.2.2.1
  have hpt := hw.2.2.2.2.2.2.2.2.2.2.1
  have at65 : (0 ≤ p ∧ p ≤ 9999) ∧ (0 ≤ s ∧ s ≤ 99) → M (rf E m 0) 62 < 10 → (M (rf E m 0) 62 = 0 ∨ M (rf E m 0) (61 + 2 * (M (rf E m 0) 62).toNat) < p) → fx_At E m_X10_addPoint 65 [some (.inr m), some (.inl p), some (.inl s), some (.inl (M (rf E m 0) 62))] [] M (fun r M' => ∃ v : Int, r = some (.inl v) ∧ ∃ o, opPoint (M (rf E m 0)) p s v o ∧ RRes E M m n o M') := by
    intro hr h10 hg
    refine b_X10_addPoint_65 hW m p s _ M _ hm ⟨_, ct_X10_keep hW hm hn hn8, fun M1 h1' => ⟨by omega, fun M3 h3 => ⟨by omega, fun M5 h5 M6 h6 => ?_⟩⟩⟩
    have kp : KP E M m n M1 := h1'
    have e1 := kp.w hW hm
    have ea : (63 + 2 * M (rf E m 0) 62).toNat = 63 + 2 * (M (rf E m 0) 62).toNat := by omega
    have eb : (63 + 2 * M (rf E m 0) 62 + 1).toNat = 64 + 2 * (M (rf E m 0) 62).toNat := by omega
    rw [ea, mset_wu, e1] at h3
    rw [eb, h3, mset_rwu] at h5
    have k5 : M5 (rf E m 0) 62 = M (rf E m 0) 62 := by rw [h5, mrow_s, wu_n (by omega), wu_n (by omega)]
    rw [k5, h5, mset_rwu] at h6
    refine ⟨_, rfl, _, Or.inl ⟨hr, h10, hg, rfl, rfl⟩, ?_⟩
    rw [h6]
    exact fin_ref hW hm kp
  refine x_ct (by decide) (Nat.le_of_ble_eq_true rfl) (b_X10_addPoint_0 hW m p s M _ hm ⟨h1, fun hp => ⟨h2, fun hsl => ⟨by omega, fun hc => ⟨fun hz => at65 ⟨hp, hsl⟩ (by omega) (Or.inl (by omega)), fun hz => ?_⟩, fun hc => ?_⟩, fun hsl => ?_⟩, fun hp => ?_⟩)
  · have ei : (63 + 2 * M (rf E m 0) 62 - 2).toNat = 61 + 2 * (M (rf E m 0) 62).toNat := by omega
    have hb9 := (hpt ((M (rf E m 0) 62).toNat - 1) (by omega)).1
    have ew : 63 + 2 * ((M (rf E m 0) 62).toNat - 1) = 61 + 2 * (M (rf E m 0) 62).toNat := by omega
    rw [ew] at hb9
    rw [ei]
    refine ⟨by omega, by omega, fun hg => at65 ⟨hp, hsl⟩ (by omega) (Or.inr hg), fun hg => ?_⟩
    exact ⟨_, rfl, none, Or.inr (Or.inr (Or.inl ⟨⟨hp, hsl⟩, by omega, by omega, rfl, rfl⟩)), Or.inl ⟨rfl, rfl⟩⟩
  · exact ⟨_, rfl, none, Or.inr (Or.inl ⟨⟨hp, hsl⟩, by omega, rfl, rfl⟩), Or.inl ⟨rfl, rfl⟩⟩
  · exact ⟨_, rfl, none, Or.inr (Or.inr (Or.inr ⟨fun z => hsl z.2, rfl, rfl⟩)), Or.inl ⟨rfl, rfl⟩⟩
  · exact ⟨_, rfl, none, Or.inr (Or.inr (Or.inr ⟨fun z => hp z.1, rfl, rfl⟩)), Or.inl ⟨rfl, rfl⟩⟩
theorem re_clear (hW : fx_Wt E) {m n : Nat} (hm : kd E m = 10) (hn : M m 2 = (n : Int)) (hn8 : n ≤ 8) : CtI E m_X10_clearMap [.inr m] M (fun r M' => ∃ o, opClear (M (rf E m 0)) r o ∧ RRes E M m n o M') := by
  refine x_ct (by decide) (Nat.le_of_ble_eq_true rfl) (b_X10_clearMap_0 hW m M _ hm ⟨_, ct_X10_keep hW hm hn hn8, fun M1 h1' M2 h2 => ?_⟩)
  have kp : KP E M m n M1 := h1'
  have e1 := kp.w hW hm
  rw [mset_wu, e1] at h2
  rw [e1]
  refine ⟨_, rfl, _, ⟨rfl, rfl⟩, ?_⟩
  rw [h2]
  exact fin_ref hW hm kp
theorem re_exc (hW : fx_Wt E) {m n : Nat} {e : Int} (hm : kd E m = 10) (hn : M m 2 = (n : Int)) (hn8 : n ≤ 8) (h1 : inR e) : CtI E m_X10_setExcess [.inr m, .inl e] M (fun r M' => ∃ o, opExc (M (rf E m 0)) e r o ∧ RRes E M m n o M') := by
  refine x_ct (by decide) (Nat.le_of_ble_eq_true rfl) (b_X10_setExcess_0 hW m e M _ hm ⟨h1, fun he => ⟨_, ct_X10_keep hW hm hn hn8, fun M1 h1' M2 h2 => ?_⟩, fun he => ⟨_, rfl, none, Or.inr ⟨he, rfl, rfl⟩, Or.inl ⟨rfl, rfl⟩⟩⟩)
  have kp : KP E M m n M1 := h1'
  have e1 := kp.w hW hm
  rw [mset_wu, e1] at h2
  rw [e1]
  refine ⟨_, rfl, _, Or.inl ⟨he, rfl, rfl⟩, ?_⟩
  rw [h2]
  exact fin_ref hW hm kp
theorem re_undo (hW : fx_Wt E) {m n : Nat} (hm : kd E m = 10) (hn : M m 2 = (n : Int)) (hn8 : n ≤ 8) : CtI E m_X10_undo [.inr m] M (fun r M' => (n = 0 ∧ r = -1000004 ∧ M' = M) ∨ ∃ k, n = k + 1 ∧ r = (k : Int) ∧ M' (rf E m 0) = (fun j => if j < 84 then M (rf E m 1) (84 * k + j) else M (rf E m 0) j) ∧ M' m 2 = (k : Int) ∧ M' m 3 = -1 ∧ (∀ i, i ≠ 2 → i ≠ 3 → M' m i = M m i) ∧ ∀ c, c ≠ m → c ≠ rf E m 0 → M' c = M c) := by
  have n0 : m ≠ rf E m 0 := kd_ne hm (wk_10_0 hW hm) (by decide)
  have n1 : rf E m 1 ≠ m := kd_ne (wk_10_1 hW hm) hm (by decide)
  have n10 : rf E m 1 ≠ rf E m 0 := mne hW hm rfl rfl (by decide)
  refine x_ct (by decide) (Nat.le_of_ble_eq_true rfl) (b_X10_undo_0 hW m M _ hm ⟨by omega, fun h => ?_, fun h => ⟨_, rfl, Or.inl ⟨by omega, rfl, rfl⟩⟩⟩)
  obtain ⟨k, rfl⟩ : ∃ k, n = k + 1 := ⟨n - 1, by omega⟩
  intro M2 h2 M3 h3
  have k2 : M3 m 2 = (k : Int) := by rw [h3, mset_n (by decide), h2, mset_s, hn]; omega
  have k3 : M3 m 3 = -1 := by rw [h3, mset_s]
  have kP : M3 (rf E m 1) = M (rf E m 1) := by rw [h3, mset_o n1, h2, mset_o n1]
  have kw : M3 (rf E m 0) = M (rf E m 0) := by rw [h3, mset_o n0.symm, h2, mset_o n0.symm]
  have key : ∀ (q x : Nat), x + q = 84 → fx_At E m_X10_undo 27 [some (.inr m), some (.inl (x : Int))] [] (mrow M3 (rf E m 0) (fun j => if j < x then M (rf E m 1) (84 * k + j) else M (rf E m 0) j)) (fun r M' => r = some (.inl (k : Int)) ∧ M' = mrow M3 (rf E m 0) (fun j => if j < 84 then M (rf E m 1) (84 * k + j) else M (rf E m 0) j)) := by
    have kk : ∀ g, mrow M3 (rf E m 0) g m 2 = (k : Int) := fun g => by rw [mrow_o n0, k2]
    intro q
    induction q with
    | zero =>
      intro x hx
      obtain rfl : x = 84 := by omega
      refine b_X10_undo_27 hW m _ _ _ hm ⟨by omega, fun _ => ⟨by rw [kk], rfl⟩, fun z => absurd (by omega) z⟩
    | succ q ih =>
      intro x hx
      refine b_X10_undo_27 hW m _ _ _ hm ⟨by omega, fun z => absurd z (by omega), fun _ => ⟨by rw [kk]; omega, by omega, fun M4 h4 => ?_⟩⟩
      have e1 : (84 * (k : Int) + (x : Int)).toNat = 84 * k + x := by omega
      rw [kk, e1, Int.toNat_natCast, mrow_o n10, kP, mset_row] at h4
      have e : (fun j => if j = x then M (rf E m 1) (84 * k + x) else if j < x then M (rf E m 1) (84 * k + j) else M (rf E m 0) j) = fun j => if j < x + 1 then M (rf E m 1) (84 * k + j) else M (rf E m 0) j := by
        funext j
        by_cases g1 : j = x
        · rw [if_pos g1, if_pos (by omega), g1]
        · rw [if_neg g1]
          by_cases g2 : j < x
          · rw [if_pos g2, if_pos (by omega)]
          · rw [if_neg g2, if_neg (by omega)]
      rw [e] at h4
      rw [h4]
      exact ih (x + 1) (by omega)
  have h0 := key 84 0 (by omega)
  have e : (fun j => if j < 0 then M (rf E m 1) (84 * k + j) else M (rf E m 0) j) = M3 (rf E m 0) := by
    rw [kw]; funext j; simp
  rw [e, mrow_id] at h0
  refine x_mono h0 (fun r M' q => ⟨_, q.1, Or.inr ⟨k, rfl, rfl, ?_⟩⟩)
  rw [q.2]
  exact ⟨mrow_s, by rw [mrow_o n0, k2], by rw [mrow_o n0, k3], fun i a b => by rw [mrow_o n0, h3, mset_n b, h2, mset_n a], fun c a b => by rw [mrow_o b, h3, mset_o a, h2, mset_o a]⟩
end
