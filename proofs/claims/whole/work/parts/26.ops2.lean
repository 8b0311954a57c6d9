/-! The other changes of the class. -/
section
variable {E : fxE} {M : fxM}
theorem wne {b : Nat} (hW : fx_Wt E) (hb : kd E b = 9) : kd E (rf E b 0) = 5 ∧ kd E (rf E (rf E b 0) 0) = 2 ∧ kd E (rf E (rf E b 0) 1) = 0 := ⟨wk_9_0 hW hb, wk_5_0 hW (wk_9_0 hW hb), wk_5_1 hW (wk_9_0 hW hb)⟩
theorem cl_joint (hW : fx_Wt E) {b n v : Nat} {w : Nat → Int} {H : Nat → Nat → Int} {j l h : Int} (hb : kd E b = 9) (hC : CI E M b w H n v) (hw : wOk w) (h1 : inR j) (h2 : inR l) (h3 : inR h) : CtI E m_X9_setJoint [.inr b, .inl j, .inl l, .inl h] M (fun r M' => ∃ o, opJoint w j l h r o ∧ CRes E M b w H n v o M') := by
  obtain ⟨hs, hf, -⟩ := wne hW hb
  have e3 := hC.1.1.1
  have h0 := hw.1
  refine x_ct (by decide) (Nat.le_of_ble_eq_true rfl) (b_X9_setJoint_0 hW b j l h M _ hb ⟨h1, by omega, fun hj => ⟨h2, fun hl => ⟨h3, fun hh => ⟨by omega, _, ct_X9_recordChange hW hb hC hw.wB, fun M9 h9 M10 h10 M11 h11 => ?_⟩, fun hh => ?_⟩, fun hl => ?_⟩, fun hj => ?_⟩)
  · obtain ⟨k, rfl⟩ : ∃ k : Nat, j = (k : Int) := ⟨j.toNat, by omega⟩
    rw [Int.toNat_natCast] at h10 h11
    rw [e3] at hj
    refine ⟨_, rfl, _, Or.inl ⟨hj, ⟨hl, hh⟩, ?_, rfl⟩, Or.inr ⟨_, rfl, ?_⟩⟩
    · rw [Int.toNat_natCast]
      exact (hC.1.1.2.2.1 k (by omega)).1
    · rw [Int.toNat_natCast]
      obtain ⟨e0, e1, e2, e4, e5, e6, e7⟩ := h9.1.1.1
      refine fin_fib hW hb h9.1 h9.2.1 (M2 := M11) ?_ ?_ (fun i hi => by rw [wu_n (by omega), wu_n (by omega)])
      · rw [h11, h10]; exact (Fo_mset (of_4 hW hf)).trans (Fo_mset (of_5 hW hf))
      · subst h10 h11
        refine ⟨?_, fun i hi => ?_, fun i hi => ?_, ?_, fun i hi => ?_, ?_, ?_⟩
        · rw [wu_n (by omega), wu_n (by omega), ← e0]; simp [mset, fib_ne hW hf]
        · rw [wu_n (by omega), wu_n (by omega)] at hi
          rw [wu_n (by omega), wu_n (by omega), wu_n (by omega), wu_n (by omega), wu_n (by omega), wu_n (by omega)]
          simpa [mset, fib_ne hW hf] using e1 i hi
        · rw [wu_n (by omega), wu_n (by omega)] at hi
          have := e2 i hi
          by_cases hik : i = k
          · subst hik
            rw [wu_n (by omega), wu_s, wu_s]; simp [mset, fib_ne hW hf]
          · rw [wu_n (by omega), wu_n (by omega), wu_n (by omega), wu_n (by omega)]; simp [mset, fib_ne hW hf, hik, this]
        · rw [wu_n (by omega), wu_n (by omega), ← e4]; simp [mset, fib_ne hW hf]
        · rw [wu_n (by omega), wu_n (by omega)] at hi
          rw [wu_n (by omega), wu_n (by omega), wu_n (by omega), wu_n (by omega)]
          simpa [mset, fib_ne hW hf] using e5 i hi
        · rw [wu_n (by omega), wu_n (by omega), ← e6]; simp [mset, fib_ne hW hf]
        · rw [wu_n (by omega), wu_n (by omega), ← e7]; simp [mset, fib_ne hW hf]
  · exact ⟨_, rfl, none, Or.inr (Or.inr ⟨by omega, fun z => hh z.2, rfl, rfl⟩), Or.inl ⟨rfl, rfl⟩⟩
  · exact ⟨_, rfl, none, Or.inr (Or.inr ⟨by omega, fun z => hl z.1, rfl, rfl⟩), Or.inl ⟨rfl, rfl⟩⟩
  · exact ⟨_, rfl, none, Or.inr (Or.inl ⟨by omega, rfl, rfl⟩), Or.inl ⟨rfl, rfl⟩⟩
theorem ct_X2_appendBend (hW : fx_Wt E) {f : Nat} {p l : Int} {w : Nat → Int} (hf : kd E f = 2) (h : FR E M f w) (h0 : w 0 ≤ 8) (h43 : 0 ≤ w 43 ∧ w 43 < 6) : CtV E m_X2_appendBend [.inr f, .inl p, .inl l] M (fun M' => FR E M' f (wu (wu (wu w (44 + 2 * (w 43).toNat) p) (45 + 2 * (w 43).toNat) l) 43 (w 43 + 1)) ∧ Fo E M M' f) := by
  obtain ⟨e0, e1, e2, e4, e5, e6, e7⟩ := h
  obtain ⟨k, hk⟩ : ∃ k : Nat, w 43 = (k : Int) := ⟨(w 43).toNat, by omega⟩
  refine x_ct (by decide) (Nat.le_of_ble_eq_true rfl) (b_X2_appendBend_0 hW f p l M _ hf ⟨by omega, fun hc => absurd hc (by omega), fun _ => ⟨fun _ => ⟨by omega, fun M3 h3 => ?_⟩, fun hc => absurd hc (by omega)⟩⟩)
  have k3 : M3 f 8 = (k : Int) := by rw [h3, mset_o (kd_ne hf (wk_2_6 hW hf) (by decide)), e4, hk]
  refine ⟨by omega, fun M5 h5 M6 h6 => ⟨rfl, ?_, ?_⟩⟩
  · have k5 : M5 f 8 = (k : Int) := by rw [h5, mset_o (kd_ne hf (wk_2_7 hW hf) (by decide)), k3]
    rw [k5] at h6; rw [k3] at h5; rw [e4, hk] at h3
    rw [Int.toNat_natCast] at h3 h5
    clear k3 k5
    subst h3 h5 h6
    rw [hk, Int.toNat_natCast]
    refine ⟨?_, fun i hi => ?_, fun i hi => ?_, ?_, fun i hi => ?_, ?_, ?_⟩
    · rw [wu_n (by omega), wu_n (by omega), wu_n (by omega), ← e0]; simp [mset, fib_ne hW hf]
    · rw [wu_n (by omega), wu_n (by omega), wu_n (by omega)] at hi
      rw [wu_n (by omega), wu_n (by omega), wu_n (by omega), wu_n (by omega), wu_n (by omega), wu_n (by omega), wu_n (by omega), wu_n (by omega), wu_n (by omega)]
      simpa [mset, fib_ne hW hf] using e1 i hi
    · rw [wu_n (by omega), wu_n (by omega), wu_n (by omega)] at hi
      rw [wu_n (by omega), wu_n (by omega), wu_n (by omega), wu_n (by omega), wu_n (by omega), wu_n (by omega)]
      simpa [mset, fib_ne hW hf] using e2 i hi
    · rw [wu_s]; simp [mset]
    · rw [wu_s] at hi
      by_cases hik : i = k
      · subst hik
        rw [wu_n (by omega), wu_n (by omega), wu_s, wu_n (by omega), wu_s]; simp [mset, fib_ne hW hf]
      · have := e5 i (by omega)
        rw [wu_n (by omega), wu_n (by omega), wu_n (by omega), wu_n (by omega), wu_n (by omega), wu_n (by omega)]; simp [mset, fib_ne hW hf, hik, this]
    · rw [wu_n (by omega), wu_n (by omega), wu_n (by omega), ← e6]; simp [mset, fib_ne hW hf]
    · rw [wu_n (by omega), wu_n (by omega), wu_n (by omega), ← e7]; simp [mset, fib_ne hW hf]
  · rw [h6, h5, h3]; exact ((Fo_mset (of_6 hW hf)).trans (Fo_mset (of_7 hW hf))).trans (Fo_mset (own_o hf (by decide)))
theorem cl_bendA (hW : fx_Wt E) {b n v : Nat} {w : Nat → Int} {H : Nat → Nat → Int} {p l : Int} (hb : kd E b = 9) (hC : CI E M b w H n v) (hw : wOk w) (h1 : inR p) (h2 : inR l) : CtI E m_X9_addBend [.inr b, .inl p, .inl l] M (fun r M' => ∃ o, opBendA w p l r o ∧ CRes E M b w H n v o M') := by
  obtain ⟨hs, hf, -⟩ := wne hW hb
  have e3 := hC.1.1.1
  have e8 := hC.1.1.2.2.2.1
  have et := hC.1.1.tot (by have := hw.1; omega)
  have h0 := hw.1
  have ht := hw.tot1
  have ht3 := hw.2.2.1
  have hb6 := hw.2.2.2.2.1
  refine x_ct (by decide) (Nat.le_of_ble_eq_true rfl) (b_X9_addBend_0 hW b p l M _ hb ⟨by omega, h1, by rw [et]; omega, fun hp => ⟨h2, fun hl => ⟨by omega, fun hc => ⟨_, ct_X9_recordChange hW hb hC hw.wB, fun M8 h8 => ⟨_, ct_X2_appendBend hW hf h8.1.1.1 (by omega) (by omega), fun M9 h9 => ?_⟩⟩, fun hc => ?_⟩, fun hl => ?_⟩, fun hp => ?_⟩)
  · rw [et] at hp
    refine ⟨_, rfl, _, Or.inl ⟨⟨hp, hl⟩, by omega, ?_, rfl⟩, Or.inr ⟨_, rfl, ?_⟩⟩
    · rw [h9.1.2.2.2.1, wu_s]; omega
    · exact fin_fib hW hb h8.1 h8.2.1 h9.2 h9.1 (fun i hi => by rw [wu_n (by omega), wu_n (by omega), wu_n (by omega)])
  · rw [et] at hp
    exact ⟨_, rfl, none, Or.inr (Or.inl ⟨⟨hp, hl⟩, by omega, rfl, rfl⟩), Or.inl ⟨rfl, rfl⟩⟩
  · exact ⟨_, rfl, none, Or.inr (Or.inr ⟨fun z => hl z.2, rfl, rfl⟩), Or.inl ⟨rfl, rfl⟩⟩
  · rw [et] at hp
    exact ⟨_, rfl, none, Or.inr (Or.inr ⟨fun z => hp z.1, rfl, rfl⟩), Or.inl ⟨rfl, rfl⟩⟩
theorem ct_X2_dropBend (hW : fx_Wt E) {f k : Nat} {w : Nat → Int} (hf : kd E f = 2) (h : FR E M f w) (h0 : w 0 ≤ 8) (h43 : (k : Int) < w 43 ∧ w 43 ≤ 6) : CtV E m_X2_dropBend [.inr f, .inl (k : Int)] M (fun M' => FR E M' f (wrem w k) ∧ Fo E M M' f) := by
  obtain ⟨e0, e1, e2, e4, e5, e6, e7⟩ := h
  obtain ⟨n, hn⟩ : ∃ n : Nat, w 43 = (n : Int) + 1 := ⟨(w 43 - 1).toNat, by omega⟩
  have n6 : f ≠ rf E f 6 := kd_ne hf (wk_2_6 hW hf) (by decide)
  have n7 : f ≠ rf E f 7 := kd_ne hf (wk_2_7 hW hf) (by decide)
  have n67 : rf E f 6 ≠ rf E f 7 := one_ne hW hf (by decide) rfl rfl (by decide)
  refine x_ct (by decide) (Nat.le_of_ble_eq_true rfl) (b_X2_dropBend_0 hW f k M _ hf ⟨by omega, fun hc => absurd hc (by omega), fun _ => ⟨by omega, fun _ M3 h3 => ?_, fun hc => absurd (by omega) hc⟩⟩)
  rw [e4, hn, show (n : Int) + 1 - 1 = n by omega] at h3
  have key : ∀ (q x : Nat), x + q = n → k ≤ x → fx_At E m_X2_dropBend 25 [some (.inr f), some (.inl (k : Int)), some (.inl (x : Int))] [] (mrow (mrow M3 (rf E f 6) (fun j => if k ≤ j ∧ j < x then M (rf E f 6) (j + 1) else M (rf E f 6) j)) (rf E f 7) (fun j => if k ≤ j ∧ j < x then M (rf E f 7) (j + 1) else M (rf E f 7) j)) (fun r M' => r = none ∧ M' = mrow (mrow M3 (rf E f 6) (fun j => if k ≤ j ∧ j < n then M (rf E f 6) (j + 1) else M (rf E f 6) j)) (rf E f 7) (fun j => if k ≤ j ∧ j < n then M (rf E f 7) (j + 1) else M (rf E f 7) j)) := by
    have kf : ∀ g g', mrow (mrow M3 (rf E f 6) g) (rf E f 7) g' f 8 = (n : Int) := fun g g' => by rw [mrow_o n7, mrow_o n6, h3, mset_s]
    have step : ∀ (A : Nat → Int) (x : Nat), (fun j => if j = x then (if k ≤ x + 1 ∧ x + 1 < x then A (x + 1 + 1) else A (x + 1)) else if k ≤ j ∧ j < x then A (j + 1) else A j) = fun j => if (j = x ∨ (k ≤ j ∧ j < x)) then A (j + 1) else A j := fun A x => by
      funext j
      by_cases g1 : j = x
      · rw [if_pos g1, if_neg (by omega), if_pos (Or.inl g1), g1]
      · rw [if_neg g1]
        by_cases g2 : k ≤ j ∧ j < x
        · rw [if_pos g2, if_pos (Or.inr g2)]
        · rw [if_neg g2, if_neg (by omega)]
    have step2 : ∀ (A : Nat → Int) (x : Nat), k ≤ x → (fun j => if (j = x ∨ (k ≤ j ∧ j < x)) then A (j + 1) else A j) = fun j => if k ≤ j ∧ j < x + 1 then A (j + 1) else A j := fun A x hx => by
      funext j
      by_cases g1 : j = x ∨ (k ≤ j ∧ j < x)
      · rw [if_pos g1, if_pos (by omega)]
      · rw [if_neg g1, if_neg (by omega)]
    intro q
    induction q with
    | zero =>
      intro x hx hkx
      obtain rfl : x = n := by omega
      exact b_X2_dropBend_25 hW f _ _ _ _ hf ⟨by omega, by rw [kf]; omega, fun _ => ⟨rfl, rfl⟩, fun hc => absurd (by rw [kf]; omega) hc⟩
    | succ q ih =>
      intro x hx hkx
      refine b_X2_dropBend_25 hW f _ _ _ _ hf ⟨by omega, by rw [kf]; omega, fun hc => absurd hc (by rw [kf]; omega), fun _ => ⟨by omega, by omega, fun M5 h5 M6 h6 => ?_⟩⟩
      have ex : ((x : Int) + 1).toNat = x + 1 := by omega
      rw [ex, Int.toNat_natCast] at h5 h6
      rw [mrow_o n67, mrow_s] at h5
      have h5' : M5 = mrow (mrow M3 (rf E f 6) (fun j => if k ≤ j ∧ j < x + 1 then M (rf E f 6) (j + 1) else M (rf E f 6) j)) (rf E f 7) (fun j => if k ≤ j ∧ j < x then M (rf E f 7) (j + 1) else M (rf E f 7) j) := by
        rw [h5]
        funext c
        by_cases c7 : c = rf E f 7
        · subst c7
          rw [mset_o n67.symm, mrow_s, mrow_s]
        · rw [mrow_o c7]
          by_cases c6 : c = rf E f 6
          · subst c6
            rw [mset_a, mrow_o n67, mrow_s, mrow_s, step, step2 _ _ hkx]
          · rw [mset_o c6, mrow_o c7, mrow_o c6, mrow_o c6]
      rw [h5', mrow_s, mset_row, step, step2 _ _ hkx] at h6
      rw [h6]
      exact ih (x + 1) (by omega) (by omega)
  have h := key (n - k) k (by omega) (Nat.le_refl k)
  have e : mrow (mrow M3 (rf E f 6) (fun j => if k ≤ j ∧ j < k then M (rf E f 6) (j + 1) else M (rf E f 6) j)) (rf E f 7) (fun j => if k ≤ j ∧ j < k then M (rf E f 7) (j + 1) else M (rf E f 7) j) = M3 := by
    funext c
    have hz : ∀ A : Nat → Int, (fun j => if k ≤ j ∧ j < k then A (j + 1) else A j) = A := fun A => by funext j; rw [if_neg (by omega)]
    rw [hz, hz]
    by_cases c7 : c = rf E f 7
    · subst c7
      rw [mrow_s, h3, mset_o n7.symm]
    · rw [mrow_o c7]
      by_cases c6 : c = rf E f 6
      · subst c6
        rw [mrow_s, h3, mset_o n6.symm]
      · rw [mrow_o c6]
  rw [e] at h
  refine x_mono h (fun r M' q => ⟨q.1, ?_, ?_⟩)
  · rw [q.2, h3]
    have w0 : wrem w k 0 = w 0 := by simp only [wrem]; rw [if_neg (by omega), if_neg (by omega)]
    have w43 : wrem w k 43 = (n : Int) := by simp only [wrem]; rw [if_neg (by omega), if_pos trivial, hn]; omega
    have wlo : ∀ i, i < 43 → wrem w k i = w i := fun i hi => by simp only [wrem]; rw [if_neg (by omega), if_neg (by omega)]
    have whi : ∀ i, 56 ≤ i → wrem w k i = w i := fun i hi => by simp only [wrem]; rw [if_neg (by omega), if_neg (by omega)]
    have hfn := fib_ne hW hf
    refine ⟨?_, fun i hi => ?_, fun i hi => ?_, ?_, fun i hi => ?_, ?_, ?_⟩
    · rw [w0, ← e0]; simp [mrow, mset, hfn]
    · clear hfn
      rw [w0] at hi
      rw [wlo _ (by omega), wlo _ (by omega), wlo _ (by omega)]
      simpa [mrow, mset, fib_ne hW hf] using e1 i hi
    · clear hfn
      rw [w0] at hi
      rw [wlo _ (by omega), wlo _ (by omega)]
      simpa [mrow, mset, fib_ne hW hf] using e2 i hi
    · rw [w43]; simp [mrow, mset, hfn]
    · clear hfn
      rw [w43] at hi
      by_cases hik : k ≤ i
      · have := e5 (i + 1) (by omega)
        have a1 : wrem w k (44 + 2 * i) = w (44 + 2 * (i + 1)) := by simp only [wrem]; rw [if_pos (by omega), show 44 + 2 * i + 2 = 44 + 2 * (i + 1) by omega]
        have a2 : wrem w k (45 + 2 * i) = w (45 + 2 * (i + 1)) := by simp only [wrem]; rw [if_pos (by omega), show 45 + 2 * i + 2 = 45 + 2 * (i + 1) by omega]
        rw [a1, a2, mrow_o n67, mrow_s, mrow_s]
        rw [if_pos (by omega), if_pos (by omega)]
        exact this
      · have := e5 i (by omega)
        have a1 : wrem w k (44 + 2 * i) = w (44 + 2 * i) := by simp only [wrem]; rw [if_neg (by omega), if_neg (by omega)]
        have a2 : wrem w k (45 + 2 * i) = w (45 + 2 * i) := by simp only [wrem]; rw [if_neg (by omega), if_neg (by omega)]
        rw [a1, a2, mrow_o n67, mrow_s, mrow_s]
        rw [if_neg (by omega), if_neg (by omega)]
        exact this
    · clear hfn
      rw [whi 56 (by omega), ← e6]; simp [mrow, mset, fib_ne hW hf]
    · clear hfn
      rw [whi 57 (by omega), ← e7]; simp [mrow, mset, fib_ne hW hf]
  · intro c hc
    rw [q.2, mrow_o (fun z => hc (by rw [z]; exact of_7 hW hf)), mrow_o (fun z => hc (by rw [z]; exact of_6 hW hf)), h3, mset_o (fun z => hc (by rw [z]; exact own_o hf (by decide)))]
theorem cl_bendR (hW : fx_Wt E) {b n v : Nat} {w : Nat → Int} {H : Nat → Nat → Int} {k : Int} (hb : kd E b = 9) (hC : CI E M b w H n v) (hw : wOk w) (h1 : inR k) : CtI E m_X9_removeBend [.inr b, .inl k] M (fun r M' => ∃ o, opBendR w k r o ∧ CRes E M b w H n v o M') := by
  obtain ⟨hs, hf, -⟩ := wne hW hb
  have e8 := hC.1.1.2.2.2.1
  have hb6 := hw.2.2.2.2.1
  refine x_ct (by decide) (Nat.le_of_ble_eq_true rfl) (b_X9_removeBend_0 hW b k M _ hb ⟨h1, by omega, fun hk => ⟨by omega, ?_⟩, fun hk => ⟨_, rfl, none, Or.inr ⟨by omega, rfl, rfl⟩, Or.inl ⟨rfl, rfl⟩⟩⟩)
  obtain ⟨j, rfl⟩ : ∃ j : Nat, k = (j : Int) := ⟨k.toNat, by omega⟩
  refine ⟨_, ct_X9_recordChange hW hb hC hw.wB, fun M5 h5 => ⟨_, ct_X2_dropBend hW hf h5.1.1.1 hw.wB.1 (by omega), fun M6 h6 => ?_⟩⟩
  refine ⟨_, rfl, _, Or.inl ⟨by omega, ?_, rfl⟩, Or.inr ⟨_, rfl, ?_⟩⟩
  · rw [Int.toNat_natCast]
    exact (hC.1.1.2.2.2.2.1 j (by omega)).2
  · rw [Int.toNat_natCast]
    exact fin_fib hW hb h5.1 h5.2.1 h6.2 h6.1 (fun i hi => by simp only [wrem]; rw [if_neg (by omega), if_neg (by omega)])
end
