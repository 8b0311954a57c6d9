/-! The fibre, the map and a state, by the reference's row of 84 cells. -/
def FR (E : fxE) (M : fxM) (f : Nat) (w : Nat → Int) : Prop := M f 3 = w 0 ∧ (∀ i : Nat, (i : Int) < w 0 → M (rf E f 0) i = w (1 + 3 * i) ∧ M (rf E f 1) i = w (2 + 3 * i) ∧ M (rf E f 2) i = w (3 + 3 * i)) ∧ (∀ k : Nat, (k : Int) ≤ w 0 → M (rf E f 4) k = w (25 + 2 * k) ∧ M (rf E f 5) k = w (26 + 2 * k)) ∧ M f 8 = w 43 ∧ (∀ i : Nat, (i : Int) < w 43 → M (rf E f 6) i = w (44 + 2 * i) ∧ M (rf E f 7) i = w (45 + 2 * i)) ∧ M f 9 = w 56 ∧ M f 10 = w 57
def MR (E : fxE) (M : fxM) (p : Nat) (w : Nat → Int) : Prop := M p 2 = w 62 ∧ (∀ i : Nat, (i : Int) < w 62 → M (rf E p 0) i = w (63 + 2 * i) ∧ M (rf E p 1) i = w (64 + 2 * i)) ∧ M p 3 = w 83
def SR (E : fxE) (M : fxM) (s : Nat) (w : Nat → Int) : Prop := FR E M (rf E s 0) w ∧ MR E M (rf E s 1) w ∧ ∀ j : Nat, j < 4 → M (rf E s 2) j = w (58 + j)
theorem mcpy_o {M : fxM} {a b c : Nat} {n : Int} (h : c ≠ b) : mcpy M a b n c = M c := by
  funext j
  simp [mcpy, h]
theorem mcpy_s {M : fxM} {a b j : Nat} {n : Int} (h : (j : Int) < n) : mcpy M a b n b j = M a j := by simp [mcpy, h]
theorem kd_ne {E : fxE} {a b x y : Nat} (ha : kd E a = x) (hb : kd E b = y) (h : x ≠ y) : a ≠ b := fun e => h (by rw [← ha, ← hb, e])
theorem ne_of_reg {E : fxE} {a b : Nat} (h : reg E a ≠ reg E b) : a ≠ b := fun e => h (by rw [e])
theorem one_ne {E : fxE} (hW : fx_Wt E) {a i j C : Nat} (ha : kd E a = C) (hC : C ≤ 10) (hi : (lay C)[i]? = some true) (hj : (lay C)[j]? = some true) (h : i ≠ j) : rf E a i ≠ rf E a j := fun e => h (wd hW (rs_o ha hC hi) (rs_o ha hC hj) e).2

theorem fib_ne {E : fxE} (hW : fx_Wt E) {f : Nat} (hf : kd E f = 2) : rf E f 0 ≠ f ∧ f ≠ rf E f 0 ∧ rf E f 1 ≠ f ∧ f ≠ rf E f 1 ∧ rf E f 2 ≠ f ∧ f ≠ rf E f 2 ∧ rf E f 4 ≠ f ∧ f ≠ rf E f 4 ∧ rf E f 5 ≠ f ∧ f ≠ rf E f 5 ∧ rf E f 6 ≠ f ∧ f ≠ rf E f 6 ∧ rf E f 7 ≠ f ∧ f ≠ rf E f 7 ∧ rf E f 0 ≠ rf E f 1 ∧ rf E f 0 ≠ rf E f 2 ∧ rf E f 0 ≠ rf E f 4 ∧ rf E f 0 ≠ rf E f 5 ∧ rf E f 0 ≠ rf E f 6 ∧ rf E f 0 ≠ rf E f 7 ∧ rf E f 1 ≠ rf E f 0 ∧ rf E f 1 ≠ rf E f 2 ∧ rf E f 1 ≠ rf E f 4 ∧ rf E f 1 ≠ rf E f 5 ∧ rf E f 1 ≠ rf E f 6 ∧ rf E f 1 ≠ rf E f 7 ∧ rf E f 2 ≠ rf E f 0 ∧ rf E f 2 ≠ rf E f 1 ∧ rf E f 2 ≠ rf E f 4 ∧ rf E f 2 ≠ rf E f 5 ∧ rf E f 2 ≠ rf E f 6 ∧ rf E f 2 ≠ rf E f 7 ∧ rf E f 4 ≠ rf E f 0 ∧ rf E f 4 ≠ rf E f 1 ∧ rf E f 4 ≠ rf E f 2 ∧ rf E f 4 ≠ rf E f 5 ∧ rf E f 4 ≠ rf E f 6 ∧ rf E f 4 ≠ rf E f 7 ∧ rf E f 5 ≠ rf E f 0 ∧ rf E f 5 ≠ rf E f 1 ∧ rf E f 5 ≠ rf E f 2 ∧ rf E f 5 ≠ rf E f 4 ∧ rf E f 5 ≠ rf E f 6 ∧ rf E f 5 ≠ rf E f 7 ∧ rf E f 6 ≠ rf E f 0 ∧ rf E f 6 ≠ rf E f 1 ∧ rf E f 6 ≠ rf E f 2 ∧ rf E f 6 ≠ rf E f 4 ∧ rf E f 6 ≠ rf E f 5 ∧ rf E f 6 ≠ rf E f 7 ∧ rf E f 7 ≠ rf E f 0 ∧ rf E f 7 ≠ rf E f 1 ∧ rf E f 7 ≠ rf E f 2 ∧ rf E f 7 ≠ rf E f 4 ∧ rf E f 7 ≠ rf E f 5 ∧ rf E f 7 ≠ rf E f 6 := ⟨kd_ne (wk_2_0 hW hf) hf (by decide), kd_ne hf (wk_2_0 hW hf) (by decide), kd_ne (wk_2_1 hW hf) hf (by decide), kd_ne hf (wk_2_1 hW hf) (by decide), kd_ne (wk_2_2 hW hf) hf (by decide), kd_ne hf (wk_2_2 hW hf) (by decide), kd_ne (wk_2_4 hW hf) hf (by decide), kd_ne hf (wk_2_4 hW hf) (by decide), kd_ne (wk_2_5 hW hf) hf (by decide), kd_ne hf (wk_2_5 hW hf) (by decide), kd_ne (wk_2_6 hW hf) hf (by decide), kd_ne hf (wk_2_6 hW hf) (by decide), kd_ne (wk_2_7 hW hf) hf (by decide), kd_ne hf (wk_2_7 hW hf) (by decide), one_ne hW hf (by decide) rfl rfl (by decide), one_ne hW hf (by decide) rfl rfl (by decide), one_ne hW hf (by decide) rfl rfl (by decide), one_ne hW hf (by decide) rfl rfl (by decide), one_ne hW hf (by decide) rfl rfl (by decide), one_ne hW hf (by decide) rfl rfl (by decide), one_ne hW hf (by decide) rfl rfl (by decide), one_ne hW hf (by decide) rfl rfl (by decide), one_ne hW hf (by decide) rfl rfl (by decide), one_ne hW hf (by decide) rfl rfl (by decide), one_ne hW hf (by decide) rfl rfl (by decide), one_ne hW hf (by decide) rfl rfl (by decide), one_ne hW hf (by decide) rfl rfl (by decide), one_ne hW hf (by decide) rfl rfl (by decide), one_ne hW hf (by decide) rfl rfl (by decide), one_ne hW hf (by decide) rfl rfl (by decide), one_ne hW hf (by decide) rfl rfl (by decide), one_ne hW hf (by decide) rfl rfl (by decide), one_ne hW hf (by decide) rfl rfl (by decide), one_ne hW hf (by decide) rfl rfl (by decide), one_ne hW hf (by decide) rfl rfl (by decide), one_ne hW hf (by decide) rfl rfl (by decide), one_ne hW hf (by decide) rfl rfl (by decide), one_ne hW hf (by decide) rfl rfl (by decide), one_ne hW hf (by decide) rfl rfl (by decide), one_ne hW hf (by decide) rfl rfl (by decide), one_ne hW hf (by decide) rfl rfl (by decide), one_ne hW hf (by decide) rfl rfl (by decide), one_ne hW hf (by decide) rfl rfl (by decide), one_ne hW hf (by decide) rfl rfl (by decide), one_ne hW hf (by decide) rfl rfl (by decide), one_ne hW hf (by decide) rfl rfl (by decide), one_ne hW hf (by decide) rfl rfl (by decide), one_ne hW hf (by decide) rfl rfl (by decide), one_ne hW hf (by decide) rfl rfl (by decide), one_ne hW hf (by decide) rfl rfl (by decide), one_ne hW hf (by decide) rfl rfl (by decide), one_ne hW hf (by decide) rfl rfl (by decide), one_ne hW hf (by decide) rfl rfl (by decide), one_ne hW hf (by decide) rfl rfl (by decide), one_ne hW hf (by decide) rfl rfl (by decide), one_ne hW hf (by decide) rfl rfl (by decide)⟩
theorem map_ne {E : fxE} (hW : fx_Wt E) {f : Nat} (hf : kd E f = 0) : rf E f 0 ≠ f ∧ f ≠ rf E f 0 ∧ rf E f 1 ≠ f ∧ f ≠ rf E f 1 ∧ rf E f 0 ≠ rf E f 1 ∧ rf E f 1 ≠ rf E f 0 := ⟨kd_ne (wk_0_0 hW hf) hf (by decide), kd_ne hf (wk_0_0 hW hf) (by decide), kd_ne (wk_0_1 hW hf) hf (by decide), kd_ne hf (wk_0_1 hW hf) (by decide), one_ne hW hf (by decide) rfl rfl (by decide), one_ne hW hf (by decide) rfl rfl (by decide)⟩
theorem of_0 {E : fxE} (hW : fx_Wt E) {f : Nat} (hf : kd E f = 2) : own E (rf E f 0) = f := own_r hW hf (wk_2_0 hW hf) (by decide) rfl (by decide)
theorem of_1 {E : fxE} (hW : fx_Wt E) {f : Nat} (hf : kd E f = 2) : own E (rf E f 1) = f := own_r hW hf (wk_2_1 hW hf) (by decide) rfl (by decide)
theorem of_2 {E : fxE} (hW : fx_Wt E) {f : Nat} (hf : kd E f = 2) : own E (rf E f 2) = f := own_r hW hf (wk_2_2 hW hf) (by decide) rfl (by decide)
theorem of_4 {E : fxE} (hW : fx_Wt E) {f : Nat} (hf : kd E f = 2) : own E (rf E f 4) = f := own_r hW hf (wk_2_4 hW hf) (by decide) rfl (by decide)
theorem of_5 {E : fxE} (hW : fx_Wt E) {f : Nat} (hf : kd E f = 2) : own E (rf E f 5) = f := own_r hW hf (wk_2_5 hW hf) (by decide) rfl (by decide)
theorem of_6 {E : fxE} (hW : fx_Wt E) {f : Nat} (hf : kd E f = 2) : own E (rf E f 6) = f := own_r hW hf (wk_2_6 hW hf) (by decide) rfl (by decide)
theorem of_7 {E : fxE} (hW : fx_Wt E) {f : Nat} (hf : kd E f = 2) : own E (rf E f 7) = f := own_r hW hf (wk_2_7 hW hf) (by decide) rfl (by decide)
theorem om_0 {E : fxE} (hW : fx_Wt E) {f : Nat} (hf : kd E f = 0) : own E (rf E f 0) = f := own_r hW hf (wk_0_0 hW hf) (by decide) rfl (by decide)
theorem om_1 {E : fxE} (hW : fx_Wt E) {f : Nat} (hf : kd E f = 0) : own E (rf E f 1) = f := own_r hW hf (wk_0_1 hW hf) (by decide) rfl (by decide)
theorem os_2 {E : fxE} (hW : fx_Wt E) {s : Nat} (hs : kd E s = 5) : own E (rf E s 2) = s := own_r hW hs (wk_5_2 hW hs) (by decide) rfl (by decide)
section
variable {E : fxE} {M : fxM}
theorem FR.sa {M' : fxM} (hW : fx_Wt E) {f : Nat} {w : Nat → Int} (hf : kd E f = 2) (h : FR E M f w) (hS : Sa E M M' f) : FR E M' f w := by
  unfold FR at h ⊢
  rw [hS f (own_o hf (by decide)), hS _ (of_0 hW hf), hS _ (of_1 hW hf), hS _ (of_2 hW hf), hS _ (of_4 hW hf), hS _ (of_5 hW hf), hS _ (of_6 hW hf), hS _ (of_7 hW hf)]
  exact h
theorem MR.sa {M' : fxM} (hW : fx_Wt E) {p : Nat} {w : Nat → Int} (hp : kd E p = 0) (h : MR E M p w) (hS : Sa E M M' p) : MR E M' p w := by
  unfold MR at h ⊢
  rw [hS p (own_o hp (by decide)), hS _ (om_0 hW hp), hS _ (om_1 hW hp)]
  exact h
theorem SR.fr {M' : fxM} (hW : fx_Wt E) {s r : Nat} {w : Nat → Int} (hs : kd E s = 5) (h : SR E M s w) (hF : Fr E M M' r) (hr : s ≠ r) : SR E M' s w := by
  have k0 := wk_5_0 hW hs
  have k1 := wk_5_1 hW hs
  refine ⟨h.1.sa hW k0 (hF.sa (by omega) (by rw [reg_fib hW hs]; exact hr)), h.2.1.sa hW k1 (hF.sa (by omega) (by rw [reg_map hW hs]; exact hr)), ?_⟩
  rw [hF (rf E s 2) (by rw [reg_set hW hs]; exact hr)]
  exact h.2.2
theorem ct_X2_clear (hW : fx_Wt E) {f : Nat} (hf : kd E f = 2) : CtV E m_X2_clear [.inr f] M (fun M' => FR E M' f (fun _ => 0) ∧ Fo E M M' f) := by
  refine x_ct (by decide) (Nat.le_of_ble_eq_true rfl) (b_X2_clear_0 hW f M _ hf ?_)
  intro M1 h1 M2 h2 M3 h3 M4 h4 M5 h5 M6 h6
  refine ⟨rfl, ?_, ?_⟩
  · subst h1 h2 h3 h4 h5 h6
    refine ⟨?_, fun i hi => absurd (show (i : Int) < 0 from hi) (by omega), fun k hk => ?_, ?_, fun i hi => absurd (show (i : Int) < 0 from hi) (by omega), ?_, ?_⟩
    · simp [mset, fib_ne hW hf]
    · obtain rfl : k = 0 := by have hk' : (k : Int) ≤ 0 := hk; omega
      simp [mset, fib_ne hW hf]
    · simp [mset, fib_ne hW hf]
    · simp [mset, fib_ne hW hf]
    · simp [mset, fib_ne hW hf]
  · subst h1 h2 h3 h4 h5 h6
    exact (((((Fo_mset (own_o hf (by decide))).trans (Fo_mset (of_4 hW hf))).trans (Fo_mset (of_5 hW hf))).trans (Fo_mset (own_o hf (by decide)))).trans (Fo_mset (own_o hf (by decide)))).trans (Fo_mset (own_o hf (by decide)))
/-- the reference's row with a section more -/
def wapp (w : Nat → Int) (l a s : Int) : Nat → Int := fun j => if j = 26 + 2 * ((w 0).toNat + 1) then 0 else if j = 25 + 2 * ((w 0).toNat + 1) then 0 else if j = 0 then w 0 + 1 else if j = 3 + 3 * (w 0).toNat then s else if j = 2 + 3 * (w 0).toNat then a else if j = 1 + 3 * (w 0).toNat then l else w j
theorem wapp_at {w : Nat → Int} {l a s : Int} {n : Nat} (hn : w 0 = (n : Int)) (h7 : n < 24) : wapp w l a s 0 = (n : Int) + 1 ∧ wapp w l a s (1 + 3 * n) = l ∧ wapp w l a s (2 + 3 * n) = a ∧ wapp w l a s (3 + 3 * n) = s ∧ wapp w l a s (25 + 2 * (n + 1)) = 0 ∧ wapp w l a s (26 + 2 * (n + 1)) = 0 ∧ ∀ j, j ≠ 0 → (j < 1 + 3 * n ∨ (3 + 3 * n < j ∧ j < 27 + 2 * n) ∨ 28 + 2 * n < j) → wapp w l a s j = w j := by
  have t0 : (w 0).toNat = n := by omega
  refine ⟨?_, ?_, ?_, ?_, ?_, ?_, fun j h0 hj => ?_⟩ <;> simp only [wapp, t0]
  · rw [if_neg (by omega), if_neg (by omega), if_pos trivial, hn]
  · rw [if_neg (by omega), if_neg (by omega), if_neg (by omega), if_neg (by omega), if_neg (by omega), if_pos trivial]
  · rw [if_neg (by omega), if_neg (by omega), if_neg (by omega), if_neg (by omega), if_pos trivial]
  · rw [if_neg (by omega), if_neg (by omega), if_neg (by omega), if_pos trivial]
  · rw [if_neg (by omega), if_pos trivial]
  · rw [if_pos trivial]
  · rw [if_neg (by omega), if_neg (by omega), if_neg h0, if_neg (by omega), if_neg (by omega), if_neg (by omega)]
theorem ct_X2_append (hW : fx_Wt E) {f : Nat} {l a s : Int} {w : Nat → Int} (hf : kd E f = 2) (h : FR E M f w) (h0 : 0 ≤ w 0 ∧ w 0 < 8) (h43 : w 43 ≤ 6) : CtV E m_X2_append [.inr f, .inl l, .inl a, .inl s] M (fun M' => FR E M' f (wapp w l a s) ∧ Fo E M M' f) := by
  obtain ⟨e0, e1, e2, e3, e4, e5, e6⟩ := h
  obtain ⟨n, hn0⟩ : ∃ n : Nat, w 0 = (n : Int) := ⟨(w 0).toNat, by omega⟩
  have hn8 : n < 8 := by omega
  refine x_ct (by decide) (Nat.le_of_ble_eq_true rfl) (b_X2_append_0 hW f l a s M _ hf ⟨by omega, fun hc => absurd hc (by omega), fun _ => ⟨fun _ => ⟨by omega, ?_⟩, fun hc => absurd hc (by omega)⟩⟩)
  intro M3 h3
  have k3 : M3 f 3 = (n : Int) := by rw [h3, mset_o (fib_ne hW hf).2.1]; exact e0.trans hn0
  refine ⟨by omega, fun M5 h5 => ?_⟩
  have k5 : M5 f 3 = (n : Int) := by rw [h5, mset_o (fib_ne hW hf).2.2.2.1]; exact k3
  refine ⟨by omega, fun M7 h7 M8 h8 => ?_⟩
  have k7 : M7 f 3 = (n : Int) := by rw [h7, mset_o (fib_ne hW hf).2.2.2.2.2.1]; exact k5
  have k8 : M8 f 3 = (n : Int) + 1 := by rw [h8, mset_s, k7]
  refine ⟨by omega, fun M10 h10 => ?_⟩
  have k10 : M10 f 3 = (n : Int) + 1 := by rw [h10, mset_o (fib_ne hW hf).2.2.2.2.2.2.2.1]; exact k8
  refine ⟨by omega, fun M12 h12 => ⟨rfl, ?_, ?_⟩⟩
  · rw [k10] at h12; rw [k8] at h10; rw [k7] at h8; rw [k5] at h7; rw [k3] at h5; rw [e0, hn0] at h3
    clear k3 k5 k7 k8 k10
    have t1 : ((n : Int) + 1).toNat = n + 1 := rfl
    rw [Int.toNat_natCast] at h3 h5 h7
    rw [t1] at h10 h12
    subst h3 h5 h7 h8 h10 h12
    obtain ⟨q0, q1, q2, q3, q4, q5, q6⟩ := wapp_at (l := l) (a := a) (s := s) hn0 (by omega)
    refine ⟨?_, fun i hi => ?_, fun k hk => ?_, ?_, fun i hi => ?_, ?_, ?_⟩
    · rw [q0]; simp [mset, fib_ne hW hf]
    · rw [q0] at hi
      by_cases hin : i = n
      · subst hin
        rw [q1, q2, q3]
        simp [mset, fib_ne hW hf]
      · have := e1 i (by omega)
        rw [q6 (1 + 3 * i) (by omega) (by omega), q6 (2 + 3 * i) (by omega) (by omega), q6 (3 + 3 * i) (by omega) (by omega)]
        simp [mset, fib_ne hW hf, hin, this]
    · rw [q0] at hk
      by_cases hkn : k = n + 1
      · subst hkn
        rw [q4, q5]
        simp [mset, fib_ne hW hf]
      · have := e2 k (by omega)
        rw [q6 (25 + 2 * k) (by omega) (by omega), q6 (26 + 2 * k) (by omega) (by omega)]
        simp [mset, fib_ne hW hf, hkn, this]
    · rw [q6 43 (by omega) (by omega)]; simp [mset, fib_ne hW hf, e3]
    · rw [q6 43 (by omega) (by omega)] at hi
      have := e4 i hi
      rw [q6 (44 + 2 * i) (by omega) (by omega), q6 (45 + 2 * i) (by omega) (by omega)]
      simp [mset, fib_ne hW hf, this]
    · rw [q6 56 (by omega) (by omega)]; simp [mset, fib_ne hW hf, e5]
    · rw [q6 57 (by omega) (by omega)]; simp [mset, fib_ne hW hf, e6]
  · subst h3 h5 h7 h8 h10 h12
    exact (((((Fo_mset (of_0 hW hf)).trans (Fo_mset (of_1 hW hf))).trans (Fo_mset (of_2 hW hf))).trans (Fo_mset (own_o hf (by decide)))).trans (Fo_mset (of_4 hW hf))).trans (Fo_mset (of_5 hW hf))
theorem ct_X2_copyFrom (hW : fx_Wt E) {f g : Nat} (hf : kd E f = 2) (hg : kd E g = 2) (hr : g ≠ f) : CtV E m_X2_copyFrom [.inr f, .inr g] M (fun M' => Fo E M M' f ∧ ∀ w : Nat → Int, w 0 ≤ 8 → w 43 ≤ 6 → FR E M g w → FR E M' f w) := by
  refine x_ct (by decide) (Nat.le_of_ble_eq_true rfl) (b_X2_copyFrom_0 hW f g M _ hf hg ?_)
  refine ⟨_, ct_X9_copyRow hW (wk_2_0 hW hg) (wk_2_0 hW hf) (wl_2_0 hW hg) (wl_2_0 hW hf) (by omega), fun M1 h1 => ⟨_, ct_X9_copyRow hW (wk_2_1 hW hg) (wk_2_1 hW hf) (wl_2_1 hW hg) (wl_2_1 hW hf) (by omega), fun M2 h2 => ⟨_, ct_X9_copyRow hW (wk_2_2 hW hg) (wk_2_2 hW hf) (wl_2_2 hW hg) (wl_2_2 hW hf) (by omega), fun M3 h3 M4 h4 => ⟨_, ct_X9_copyRow hW (wk_2_4 hW hg) (wk_2_4 hW hf) (wl_2_4 hW hg) (wl_2_4 hW hf) (by omega), fun M5 h5 => ⟨_, ct_X9_copyRow hW (wk_2_5 hW hg) (wk_2_5 hW hf) (wl_2_5 hW hg) (wl_2_5 hW hf) (by omega), fun M6 h6 => ⟨_, ct_X9_copyRow hW (wk_2_6 hW hg) (wk_2_6 hW hf) (wl_2_6 hW hg) (wl_2_6 hW hf) (by omega), fun M7 h7 => ⟨_, ct_X9_copyRow hW (wk_2_7 hW hg) (wk_2_7 hW hf) (wl_2_7 hW hg) (wl_2_7 hW hf) (by omega), fun M8 h8 M9 h9 M10 h10 M11 h11 => ?_⟩⟩⟩⟩⟩⟩⟩
  have F1 : Fo E M M1 f := by rw [h1]; exact Fo_mcpy (of_0 hW hf)
  have F2 : Fo E M M2 f := F1.trans (by rw [h2]; exact Fo_mcpy (of_1 hW hf))
  have F3 : Fo E M M3 f := F2.trans (by rw [h3]; exact Fo_mcpy (of_2 hW hf))
  have F4 : Fo E M M4 f := F3.trans (by rw [h4]; exact Fo_mset (own_o hf (by decide)))
  have F5 : Fo E M M5 f := F4.trans (by rw [h5]; exact Fo_mcpy (of_4 hW hf))
  have F6 : Fo E M M6 f := F5.trans (by rw [h6]; exact Fo_mcpy (of_5 hW hf))
  have F7 : Fo E M M7 f := F6.trans (by rw [h7]; exact Fo_mcpy (of_6 hW hf))
  have F8 : Fo E M M8 f := F7.trans (by rw [h8]; exact Fo_mcpy (of_7 hW hf))
  have F9 : Fo E M M9 f := F8.trans (by rw [h9]; exact Fo_mset (own_o hf (by decide)))
  have F10 : Fo E M M10 f := F9.trans (by rw [h10]; exact Fo_mset (own_o hf (by decide)))
  have F11 : Fo E M M11 f := F10.trans (by rw [h11]; exact Fo_mset (own_o hf (by decide)))
  refine ⟨rfl, F11, fun w w0 w43 h => ?_⟩
  have g1 : M1 (rf E g 1) = M (rf E g 1) := F1 _ (by rw [of_1 hW hg]; exact hr)
  have g2 : M2 (rf E g 2) = M (rf E g 2) := F2 _ (by rw [of_2 hW hg]; exact hr)
  have g3 : M3 g = M g := F3 _ (by rw [own_o hg (by decide)]; exact hr)
  have g4 : M4 (rf E g 4) = M (rf E g 4) := F4 _ (by rw [of_4 hW hg]; exact hr)
  have g5 : M5 (rf E g 5) = M (rf E g 5) := F5 _ (by rw [of_5 hW hg]; exact hr)
  have g6 : M6 (rf E g 6) = M (rf E g 6) := F6 _ (by rw [of_6 hW hg]; exact hr)
  have g7 : M7 (rf E g 7) = M (rf E g 7) := F7 _ (by rw [of_7 hW hg]; exact hr)
  have g8 : M8 g = M g := F8 _ (by rw [own_o hg (by decide)]; exact hr)
  have g9 : M9 g = M g := F9 _ (by rw [own_o hg (by decide)]; exact hr)
  have g10 : M10 g = M g := F10 _ (by rw [own_o hg (by decide)]; exact hr)
  obtain ⟨e0, e1, e2, e3, e4, e5, e6⟩ := h
  rw [g10] at h11; rw [g9] at h10; rw [g8] at h9; rw [g3] at h4
  have a0 : ∀ j : Nat, j < 8 → M11 (rf E f 0) j = M (rf E g 0) j := fun j hj => by
    rw [h11, h10, h9, h8, h7, h6, h5, h4, h3, h2, h1]; simp [mset, mcpy, fib_ne hW hf]; omega
  have a1 : ∀ j : Nat, j < 8 → M11 (rf E f 1) j = M (rf E g 1) j := fun j hj => by
    rw [h11, h10, h9, h8, h7, h6, h5, h4, h3, h2]; simp [mset, mcpy, fib_ne hW hf, g1]; omega
  have a2 : ∀ j : Nat, j < 8 → M11 (rf E f 2) j = M (rf E g 2) j := fun j hj => by
    rw [h11, h10, h9, h8, h7, h6, h5, h4, h3]; simp [mset, mcpy, fib_ne hW hf, g2]; omega
  have a4 : ∀ j : Nat, j < 9 → M11 (rf E f 4) j = M (rf E g 4) j := fun j hj => by
    rw [h11, h10, h9, h8, h7, h6, h5]; simp [mset, mcpy, fib_ne hW hf, g4]; omega
  have a5 : ∀ j : Nat, j < 9 → M11 (rf E f 5) j = M (rf E g 5) j := fun j hj => by
    rw [h11, h10, h9, h8, h7, h6]; simp [mset, mcpy, fib_ne hW hf, g5]; omega
  have a6 : ∀ j : Nat, j < 6 → M11 (rf E f 6) j = M (rf E g 6) j := fun j hj => by
    rw [h11, h10, h9, h8, h7]; simp [mset, mcpy, fib_ne hW hf, g6]; omega
  have a7 : ∀ j : Nat, j < 6 → M11 (rf E f 7) j = M (rf E g 7) j := fun j hj => by
    rw [h11, h10, h9, h8]; simp [mset, mcpy, fib_ne hW hf, g7]; omega
  refine ⟨?_, fun i hi => ?_, fun k hk => ?_, ?_, fun i hi => ?_, ?_, ?_⟩
  · rw [← e0, h11, h10, h9, h8, h7, h6, h5, h4]; simp [mset, mcpy, fib_ne hW hf]
  · rw [a0 i (by omega), a1 i (by omega), a2 i (by omega)]; exact e1 i hi
  · rw [a4 k (by omega), a5 k (by omega)]; exact e2 k hk
  · rw [← e3, h11, h10, h9]; simp [mset]
  · rw [a6 i (by omega), a7 i (by omega)]; exact e4 i hi
  · rw [← e5, h11, h10]; simp [mset]
  · rw [← e6, h11]; simp [mset]
theorem ct_X0_copyFrom (hW : fx_Wt E) {f g : Nat} (hf : kd E f = 0) (hg : kd E g = 0) (hr : g ≠ f) : CtV E m_X0_copyFrom [.inr f, .inr g] M (fun M' => Fo E M M' f ∧ ∀ w : Nat → Int, w 62 ≤ 10 → MR E M g w → MR E M' f w) := by
  refine x_ct (by decide) (Nat.le_of_ble_eq_true rfl) (b_X0_copyFrom_0 hW f g M _ hf hg ?_)
  refine ⟨_, ct_X9_copyRow hW (wk_0_0 hW hg) (wk_0_0 hW hf) (wl_0_0 hW hg) (wl_0_0 hW hf) (by omega), fun M1 h1 => ⟨_, ct_X9_copyRow hW (wk_0_1 hW hg) (wk_0_1 hW hf) (wl_0_1 hW hg) (wl_0_1 hW hf) (by omega), fun M2 h2 M3 h3 M4 h4 => ?_⟩⟩
  have F1 : Fo E M M1 f := by rw [h1]; exact Fo_mcpy (om_0 hW hf)
  have F2 : Fo E M M2 f := F1.trans (by rw [h2]; exact Fo_mcpy (om_1 hW hf))
  have F3 : Fo E M M3 f := F2.trans (by rw [h3]; exact Fo_mset (own_o hf (by decide)))
  have F4 : Fo E M M4 f := F3.trans (by rw [h4]; exact Fo_mset (own_o hf (by decide)))
  refine ⟨rfl, F4, fun w w62 h => ?_⟩
  have g1 : M1 (rf E g 1) = M (rf E g 1) := F1 _ (by rw [om_1 hW hg]; exact hr)
  have g2 : M2 g = M g := F2 _ (by rw [own_o hg (by decide)]; exact hr)
  have g3 : M3 g = M g := F3 _ (by rw [own_o hg (by decide)]; exact hr)
  rw [g2] at h3; rw [g3] at h4
  obtain ⟨e0, e1, e2⟩ := h
  refine ⟨?_, fun i hi => ?_, ?_⟩
  · rw [← e0, h4, h3]; simp [mset]
  · have := e1 i hi
    rw [← this.1, ← this.2]
    have hi10 : (i : Int) < 10 := by omega
    constructor
    · rw [h4, h3, h2, h1]; simp [mset, mcpy, map_ne hW hf, hi10]
    · rw [h4, h3, h2]; simp [mset, mcpy, map_ne hW hf, hi10, g1]
  · rw [← e2, h4]; simp [mset]
theorem ct_X5_copyFrom (hW : fx_Wt E) {s t : Nat} (hs : kd E s = 5) (ht : kd E t = 5) (hr : t ≠ s) : CtV E m_X5_copyFrom [.inr s, .inr t] M (fun M' => Fr E M M' s ∧ ∀ w : Nat → Int, w 0 ≤ 8 → w 43 ≤ 6 → w 62 ≤ 10 → SR E M t w → SR E M' s w) := by
  refine x_ct (by decide) (Nat.le_of_ble_eq_true rfl) (b_X5_copyFrom_0 hW s t M _ hs ht ?_)
  have k0 := wk_5_0 hW hs
  have k1 := wk_5_1 hW hs
  have k0t := wk_5_0 hW ht
  have k1t := wk_5_1 hW ht
  have n00 : rf E t 0 ≠ rf E s 0 := fun e => hr (wd hW (rs_o ht (by decide) rfl) (rs_o hs (by decide) rfl) e).1
  have n11 : rf E t 1 ≠ rf E s 1 := fun e => hr (wd hW (rs_o ht (by decide) rfl) (rs_o hs (by decide) rfl) e).1
  refine ⟨_, ct_X2_copyFrom hW k0 k0t n00, fun M1 h1 => ⟨_, ct_X0_copyFrom hW k1 k1t n11, fun M2 h2 => ⟨_, ct_X9_copyRow hW (wk_5_2 hW ht) (wk_5_2 hW hs) (wl_5_2 hW ht) (wl_5_2 hW hs) (by omega), fun M3 h3 => ?_⟩⟩⟩
  have F3 : Fo E M2 M3 s := by rw [h3]; exact Fo_mcpy (os_2 hW hs)
  refine ⟨rfl, ((h1.1.fr (by omega) (reg_fib hW hs)).trans (h2.1.fr (by omega) (reg_map hW hs))).trans (F3.fr (by omega) (reg_top hs rfl)), fun w w0 w43 w62 h => ?_⟩
  obtain ⟨s1, s2, s3⟩ := h
  have n01 : rf E s 0 ≠ rf E s 1 := kd_ne k0 k1 (by decide)
  refine ⟨((h1.2 w w0 w43 s1).sa hW k0 (h2.1.sa n01)).sa hW k0 (F3.sa (kd_ne k0 hs (by decide))), (h2.2 w w62 (s2.sa hW k1t (h1.1.sa (kd_ne k1t k0 (by decide))))).sa hW k1 (F3.sa (kd_ne k1 hs (by decide))), fun j hj => ?_⟩
  rw [h3, mcpy_s (by omega), h2.1 _ (by rw [os_2 hW ht]; exact kd_ne ht k1 (by decide)), h1.1 _ (by rw [os_2 hW ht]; exact kd_ne ht k0 (by decide))]
  exact s3 j hj
end
