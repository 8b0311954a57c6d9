/-! Questions that change nothing; the text but for load. -/
def fTold (w : Nat → Int) (t k : Int) : Int := if k = 0 then tot w else if k = 1 then w 0 else if k = 2 then w 43 else if k = 3 then w 56 else if k = 4 then w 57 else if k = 5 then w 62 else if k = 6 then w 83 else if k = 7 then t else -1000002
def fSec (w : Nat → Int) (k j : Int) : Int := if 0 ≤ k ∧ k ≤ w 0 - 1 then (if j = 0 then w (1 + 3 * k.toNat) else if j = 1 then w (2 + 3 * k.toNat) else if j = 2 then w (3 + 3 * k.toNat) else if j = 3 then wsum w k.toNat else -1000002) else -1000001
def fJnt (w : Nat → Int) (k j : Int) : Int := if 0 ≤ k ∧ k ≤ w 0 then (if j = 0 then w (25 + 2 * k.toNat) else if j = 1 then w (26 + 2 * k.toNat) else if j = 2 then wsum w k.toNat else -1000002) else -1000001
def fBnd (w : Nat → Int) (k j : Int) : Int := if 0 ≤ k ∧ k ≤ w 43 - 1 then (if j = 0 then w (45 + 2 * k.toNat) else if j = 1 then w (44 + 2 * k.toNat) else -1000002) else -1000001
/-- the class's text -/
def TX (E : fxE) (M : fxM) (t n : Nat) (c : Nat → Int) : Prop := M t 1 = (n : Int) ∧ n ≤ 120 ∧ ∀ i, i < n → M (rf E t 0) i = c i
section
variable {E : fxE} {M : fxM}
theorem cl_told (hW : fx_Wt E) {b n v : Nat} {w : Nat → Int} {H : Nat → Nat → Int} {k : Int} (hb : kd E b = 9) (hC : CI E M b w H n v) (hw : wOk w) (h1 : inR k) : CtI E m_X9_told [.inr b, .inl k] M (fun r M' => r = fTold w (M (rf E b 3) 1) k ∧ M' = M) := by
  have h0 := hw.1
  obtain ⟨⟨⟨e0, -, -, e3, -, e5, e6⟩, ⟨m0, -, m2⟩, -⟩, -, -⟩ := id hC
  have et := hC.1.1.tot (by omega)
  refine x_ct (by decide) (Nat.le_of_ble_eq_true rfl) (b_X9_told_0 hW b k M _ hb ⟨h1, fun h => ⟨by omega, _, rfl, ?_, rfl⟩, fun h => ⟨_, rfl, ?_, rfl⟩, fun h => ⟨_, rfl, ?_, rfl⟩, fun h => ⟨_, rfl, ?_, rfl⟩, fun h => ⟨_, rfl, ?_, rfl⟩, fun h => ⟨_, rfl, ?_, rfl⟩, fun h => ⟨_, rfl, ?_, rfl⟩, fun h => ⟨_, rfl, ?_, rfl⟩, fun h => ⟨_, rfl, ?_, rfl⟩⟩)
  · subst h; rw [et]; rfl
  · subst h; rw [e0]; rfl
  · subst h; rw [e3]; rfl
  · subst h; rw [e5]; rfl
  · subst h; rw [e6]; rfl
  · subst h; rw [m0]; rfl
  · subst h; rw [m2]; rfl
  · subst h; rfl
  · simp only [fTold]; rw [if_neg (by omega), if_neg (by omega), if_neg (by omega), if_neg (by omega), if_neg (by omega), if_neg (by omega), if_neg (by omega), if_neg (by omega)]
theorem re_told (hW : fx_Wt E) {m : Nat} {k : Int} (hm : kd E m = 10) (hw : wOk (M (rf E m 0))) (h1 : inR k) : CtI E m_X10_told [.inr m, .inl k] M (fun r M' => r = fTold (M (rf E m 0)) (M m 6) k ∧ M' = M) := by
  have h0 := hw.1
  refine x_ct (by decide) (Nat.le_of_ble_eq_true rfl) (b_X10_told_0 hW m k M _ hm ⟨h1, fun h => ⟨by omega, _, rfl, ?_, rfl⟩, fun h => ⟨_, rfl, ?_, rfl⟩, fun h => ⟨_, rfl, ?_, rfl⟩, fun h => ⟨_, rfl, ?_, rfl⟩, fun h => ⟨_, rfl, ?_, rfl⟩, fun h => ⟨_, rfl, ?_, rfl⟩, fun h => ⟨_, rfl, ?_, rfl⟩, fun h => ⟨_, rfl, ?_, rfl⟩, fun h => ⟨_, rfl, ?_, rfl⟩⟩)
  · subst h; rfl
  · subst h; rfl
  · subst h; rfl
  · subst h; rfl
  · subst h; rfl
  · subst h; rfl
  · subst h; rfl
  · subst h; rfl
  · simp only [fTold]; rw [if_neg (by omega), if_neg (by omega), if_neg (by omega), if_neg (by omega), if_neg (by omega), if_neg (by omega), if_neg (by omega), if_neg (by omega)]
theorem cl_sec (hW : fx_Wt E) {b n v : Nat} {w : Nat → Int} {H : Nat → Nat → Int} {k j : Int} (hb : kd E b = 9) (hC : CI E M b w H n v) (hw : wOk w) (h1 : inR k) (h2 : inR j) : CtI E m_X9_section [.inr b, .inl k, .inl j] M (fun r M' => r = fSec w k j ∧ M' = M) := by
  have h0 := hw.1
  have hF := hC.1.1
  obtain ⟨e0, e1, -⟩ := id hF
  refine x_ct (by decide) (Nat.le_of_ble_eq_true rfl) (b_X9_section_0 hW b k j M _ hb ⟨h1, by omega, fun hk => ⟨h2, ?_⟩, fun hk => ⟨_, rfl, by rw [fSec, if_neg (by omega)], rfl⟩⟩)
  have hs := e1 k.toNat (by omega)
  refine ⟨fun h => ⟨by omega, _, rfl, ?_, rfl⟩, fun h => ⟨by omega, _, rfl, ?_, rfl⟩, fun h => ⟨by omega, _, rfl, ?_, rfl⟩, fun h => ⟨by omega, _, rfl, ?_, rfl⟩, fun h => ⟨_, rfl, ?_, rfl⟩⟩
  · rw [fSec, if_pos (by omega), if_pos h, hs.1]
  · rw [fSec, if_pos (by omega), if_neg (by omega), if_pos h, hs.2.1]
  · rw [fSec, if_pos (by omega), if_neg (by omega), if_neg (by omega), if_pos h, hs.2.2]
  · rw [fSec, if_pos (by omega), if_neg (by omega), if_neg (by omega), if_neg (by omega), if_pos h, hF.sum (by omega)]
  · rw [fSec, if_pos (by omega), if_neg (by omega), if_neg (by omega), if_neg (by omega), if_neg (by omega)]
theorem re_sec (hW : fx_Wt E) {m : Nat} {k j : Int} (hm : kd E m = 10) (hw : wOk (M (rf E m 0))) (h1 : inR k) (h2 : inR j) : CtI E m_X10_section [.inr m, .inl k, .inl j] M (fun r M' => r = fSec (M (rf E m 0)) k j ∧ M' = M) := by
  have h0 := hw.1
  refine x_ct (by decide) (Nat.le_of_ble_eq_true rfl) (b_X10_section_0 hW m k j M _ hm ⟨h1, by omega, fun hk => ⟨h2, fun hj => ⟨fun h3 => ⟨by omega, _, rfl, ?_, rfl⟩, fun h3 => ⟨by omega, _, rfl, ?_, rfl⟩⟩, fun hj => ⟨_, rfl, ?_, rfl⟩⟩, fun hk => ⟨_, rfl, by rw [fSec, if_neg (by omega)], rfl⟩⟩)
  · rw [fSec, if_pos hk]
    rcases (show j = 0 ∨ j = 1 ∨ j = 2 by omega) with rfl | rfl | rfl
    · rw [if_pos rfl, show (1 + 3 * k + 0).toNat = 1 + 3 * k.toNat by omega]
    · rw [if_neg (by omega), if_pos rfl, show (1 + 3 * k + 1).toNat = 2 + 3 * k.toNat by omega]
    · rw [if_neg (by omega), if_neg (by omega), if_pos rfl, show (1 + 3 * k + 2).toNat = 3 + 3 * k.toNat by omega]
  · rw [fSec, if_pos hk, if_neg (by omega), if_neg (by omega), if_neg (by omega), if_pos h3]
  · rw [fSec, if_pos hk, if_neg (by omega), if_neg (by omega), if_neg (by omega), if_neg (by omega)]
theorem cl_jnt (hW : fx_Wt E) {b n v : Nat} {w : Nat → Int} {H : Nat → Nat → Int} {k j : Int} (hb : kd E b = 9) (hC : CI E M b w H n v) (hw : wOk w) (h1 : inR k) (h2 : inR j) : CtI E m_X9_joint [.inr b, .inl k, .inl j] M (fun r M' => r = fJnt w k j ∧ M' = M) := by
  have h0 := hw.1
  have hF := hC.1.1
  obtain ⟨e0, -, e2, -⟩ := id hF
  refine x_ct (by decide) (Nat.le_of_ble_eq_true rfl) (b_X9_joint_0 hW b k j M _ hb ⟨h1, by omega, fun hk => ⟨h2, ?_⟩, fun hk => ⟨_, rfl, by rw [fJnt, if_neg (by omega)], rfl⟩⟩)
  have hs := e2 k.toNat (by omega)
  refine ⟨fun h => ⟨by omega, _, rfl, ?_, rfl⟩, fun h => ⟨by omega, _, rfl, ?_, rfl⟩, fun h => ⟨by omega, _, rfl, ?_, rfl⟩, fun h => ⟨_, rfl, ?_, rfl⟩⟩
  · rw [fJnt, if_pos (by omega), if_pos h, hs.1]
  · rw [fJnt, if_pos (by omega), if_neg (by omega), if_pos h, hs.2]
  · rw [fJnt, if_pos (by omega), if_neg (by omega), if_neg (by omega), if_pos h, hF.sum (by omega)]
  · rw [fJnt, if_pos (by omega), if_neg (by omega), if_neg (by omega), if_neg (by omega)]
theorem re_jnt (hW : fx_Wt E) {m : Nat} {k j : Int} (hm : kd E m = 10) (hw : wOk (M (rf E m 0))) (h1 : inR k) (h2 : inR j) : CtI E m_X10_joint [.inr m, .inl k, .inl j] M (fun r M' => r = fJnt (M (rf E m 0)) k j ∧ M' = M) := by
  have h0 := hw.1
  refine x_ct (by decide) (Nat.le_of_ble_eq_true rfl) (b_X10_joint_0 hW m k j M _ hm ⟨h1, by omega, fun hk => ⟨h2, fun hj => ⟨fun h3 => ⟨by omega, _, rfl, ?_, rfl⟩, fun h3 => ⟨by omega, _, rfl, ?_, rfl⟩⟩, fun hj => ⟨_, rfl, ?_, rfl⟩⟩, fun hk => ⟨_, rfl, by rw [fJnt, if_neg (by omega)], rfl⟩⟩)
  · rw [fJnt, if_pos hk]
    rcases (show j = 0 ∨ j = 1 by omega) with rfl | rfl
    · rw [if_pos rfl, show (25 + 2 * k + 0).toNat = 25 + 2 * k.toNat by omega]
    · rw [if_neg (by omega), if_pos rfl, show (25 + 2 * k + 1).toNat = 26 + 2 * k.toNat by omega]
  · rw [fJnt, if_pos hk, if_neg (by omega), if_neg (by omega), if_pos h3]
  · rw [fJnt, if_pos hk, if_neg (by omega), if_neg (by omega), if_neg (by omega)]
theorem cl_bnd (hW : fx_Wt E) {b n v : Nat} {w : Nat → Int} {H : Nat → Nat → Int} {k j : Int} (hb : kd E b = 9) (hC : CI E M b w H n v) (hw : wOk w) (h1 : inR k) (h2 : inR j) : CtI E m_X9_bend [.inr b, .inl k, .inl j] M (fun r M' => r = fBnd w k j ∧ M' = M) := by
  have hb6 := hw.2.2.2.2.1
  obtain ⟨-, -, -, e3, e4, -⟩ := id hC.1.1
  refine x_ct (by decide) (Nat.le_of_ble_eq_true rfl) (b_X9_bend_0 hW b k j M _ hb ⟨h1, by omega, fun hk => ⟨h2, ?_⟩, fun hk => ⟨_, rfl, by rw [fBnd, if_neg (by omega)], rfl⟩⟩)
  have hs := e4 k.toNat (by omega)
  refine ⟨fun h => ⟨by omega, _, rfl, ?_, rfl⟩, fun h0 => ⟨fun h => ⟨by omega, _, rfl, ?_, rfl⟩, fun h => ⟨_, rfl, ?_, rfl⟩⟩⟩
  · rw [fBnd, if_pos (by omega), if_pos h, hs.2]
  · rw [fBnd, if_pos (by omega), if_neg (by omega), if_pos h, hs.1]
  · rw [fBnd, if_pos (by omega), if_neg (by omega), if_neg (by omega)]
theorem re_bnd (hW : fx_Wt E) {m : Nat} {k j : Int} (hm : kd E m = 10) (hw : wOk (M (rf E m 0))) (h1 : inR k) (h2 : inR j) : CtI E m_X10_bend [.inr m, .inl k, .inl j] M (fun r M' => r = fBnd (M (rf E m 0)) k j ∧ M' = M) := by
  have hb6 := hw.2.2.2.2.1
  refine x_ct (by decide) (Nat.le_of_ble_eq_true rfl) (b_X10_bend_0 hW m k j M _ hm ⟨h1, by omega, fun hk => ⟨h2, fun hj => ⟨by omega, _, rfl, ?_, rfl⟩, fun hj => ⟨_, rfl, ?_, rfl⟩⟩, fun hk => ⟨_, rfl, by rw [fBnd, if_neg (by omega)], rfl⟩⟩)
  · rw [fBnd, if_pos hk]
    rcases (show j = 0 ∨ j = 1 by omega) with rfl | rfl
    · rw [if_pos rfl, show (44 + 2 * k + 1 - 0).toNat = 45 + 2 * k.toNat by omega]
    · rw [if_neg (by omega), if_pos rfl, show (44 + 2 * k + 1 - 1).toNat = 44 + 2 * k.toNat by omega]
  · rw [fBnd, if_pos hk, if_neg (by omega), if_neg (by omega)]
theorem ot_0 (hW : fx_Wt E) {t : Nat} (ht : kd E t = 6) : own E (rf E t 0) = t := own_r hW ht (wk_6_0 hW ht) (by decide) rfl (by decide)
/-- write: the class -/
theorem cl_write (hW : fx_Wt E) {b n : Nat} {c : Nat → Int} {x : Int} (hb : kd E b = 9) (hT : TX E M (rf E b 3) n c) (h1 : inR x) : CtI E m_X9_write [.inr b, .inl x] M (fun r M' => ((32 ≤ x ∧ x ≤ 126) ∧ n < 120 ∧ r = (n : Int) + 1 ∧ TX E M' (rf E b 3) (n + 1) (wu c n x) ∧ Fo E M M' (rf E b 3) ∧ ∀ k, k ≠ 1 → M' (rf E b 3) k = M (rf E b 3) k) ∨ ((32 ≤ x ∧ x ≤ 126) ∧ ¬ n < 120 ∧ r = -1000003 ∧ M' = M) ∨ (¬ (32 ≤ x ∧ x ≤ 126) ∧ r = -1000002 ∧ M' = M)) := by
  have ht := wk_9_3 hW hb
  obtain ⟨t1, t2, t3⟩ := hT
  have n0 : rf E b 3 ≠ rf E (rf E b 3) 0 := kd_ne ht (wk_6_0 hW ht) (by decide)
  have app : n < 120 → CtV E m_X6_append [.inr (rf E b 3), .inl x] M (fun M' => M' = mset (mset M (rf E (rf E b 3) 0) n x) (rf E b 3) 1 ((n : Int) + 1)) := by
    intro hn
    refine x_ct (by decide) (Nat.le_of_ble_eq_true rfl) (b_X6_append_0 hW (rf E b 3) x M _ ht ⟨by omega, fun z => absurd z (by omega), fun _ => ⟨fun z => absurd z (by omega), fun _ => ⟨by omega, fun M3 h3 M4 h4 => ⟨rfl, ?_⟩⟩⟩⟩)
    rw [t1, Int.toNat_natCast] at h3
    rw [h3, mset_o n0, t1] at h4
    exact h4
  refine x_ct (by decide) (Nat.le_of_ble_eq_true rfl) (b_X9_write_0 hW b x M _ hb ⟨h1, fun hx => ⟨by omega, fun hn => ⟨_, app (by omega), fun M4 h4 => ⟨_, rfl, Or.inl ⟨hx, by omega, ?_, ⟨?_, by omega, fun i hi => ?_⟩, ?_, fun k hk => ?_⟩⟩⟩, fun hn => ⟨_, rfl, Or.inr (Or.inl ⟨hx, by omega, rfl, rfl⟩)⟩⟩, fun hx => ⟨_, rfl, Or.inr (Or.inr ⟨hx, rfl, rfl⟩)⟩⟩)
  · rw [h4, mset_s]
  · rw [h4, mset_s]; omega
  · rw [h4, mset_o n0.symm]
    by_cases hin : i = n
    · subst hin; rw [mset_s, wu_s]
    · rw [mset_n hin, wu_n hin]; exact t3 i (by omega)
  · rw [h4]; exact (Fo_mset (ot_0 hW ht)).trans (Fo_mset (own_o ht (by decide)))
  · rw [h4, mset_n hk, mset_o n0]
theorem re_write (hW : fx_Wt E) {m n : Nat} {x : Int} (hm : kd E m = 10) (hn : M m 6 = (n : Int)) (hn8 : n ≤ 120) (h1 : inR x) : CtI E m_X10_write [.inr m, .inl x] M (fun r M' => ((32 ≤ x ∧ x ≤ 126) ∧ n < 120 ∧ r = (n : Int) + 1 ∧ M' = mset (mset M (rf E m 5) n x) m 6 ((n : Int) + 1)) ∨ ((32 ≤ x ∧ x ≤ 126) ∧ ¬ n < 120 ∧ r = -1000003 ∧ M' = M) ∨ (¬ (32 ≤ x ∧ x ≤ 126) ∧ r = -1000002 ∧ M' = M)) := by
  have n0 : m ≠ rf E m 5 := kd_ne hm (wk_10_5 hW hm) (by decide)
  refine x_ct (by decide) (Nat.le_of_ble_eq_true rfl) (b_X10_write_0 hW m x M _ hm ⟨h1, fun hx => ⟨by omega, fun h => ⟨by omega, fun M5 h5 M6 h6 => ?_⟩, fun h => ⟨_, rfl, Or.inr (Or.inl ⟨hx, by omega, rfl, rfl⟩)⟩⟩, fun hx => ⟨_, rfl, Or.inr (Or.inr ⟨hx, rfl, rfl⟩)⟩⟩)
  rw [hn, Int.toNat_natCast] at h5
  rw [h5, mset_o n0, hn] at h6
  refine ⟨_, rfl, Or.inl ⟨hx, by omega, ?_, h6⟩⟩
  rw [h6, mset_s]
theorem cl_wipe (hW : fx_Wt E) {b n : Nat} {c : Nat → Int} (hb : kd E b = 9) (hT : TX E M (rf E b 3) n c) : CtI E m_X9_wipe [.inr b] M (fun r M' => r = (n : Int) ∧ TX E M' (rf E b 3) 0 c ∧ Fo E M M' (rf E b 3) ∧ ∀ k, k ≠ 1 → M' (rf E b 3) k = M (rf E b 3) k) := by
  have ht := wk_9_3 hW hb
  obtain ⟨t1, t2, t3⟩ := hT
  refine x_ct (by decide) (Nat.le_of_ble_eq_true rfl) (b_X9_wipe_0 hW b M _ hb (fun M1 h1 => ⟨_, rfl, t1, ⟨?_, by omega, fun i hi => absurd hi (by omega)⟩, ?_, fun k hk => ?_⟩))
  · rw [h1, mset_s]; rfl
  · rw [h1]; exact Fo_mset (own_o ht (by decide))
  · rw [h1, mset_n hk]
theorem re_wipe (hW : fx_Wt E) {m n : Nat} (hm : kd E m = 10) (hn : M m 6 = (n : Int)) : CtI E m_X10_wipe [.inr m] M (fun r M' => r = (n : Int) ∧ M' = mset M m 6 0) :=
  x_ct (by decide) (Nat.le_of_ble_eq_true rfl) (b_X10_wipe_0 hW m M _ hm (fun M1 h1 => ⟨_, rfl, hn, h1⟩))
def fFlt (p q x : Int) : Int := if 0 ≤ x ∧ x ≤ 1 then (if x = 0 then p else q) else -1000002
theorem cl_fault (hW : fx_Wt E) {b : Nat} {x p q : Int} (hb : kd E b = 9) (h1 : inR x) (hf : (M (rf E b 3) 2 = 0 ∧ p = -1000005 ∧ q = -1000005) ∨ ((1 ≤ M (rf E b 3) 2 ∧ M (rf E b 3) 2 ≤ 4) ∧ p = M (rf E b 3) 3 ∧ q = M (rf E b 3) 2)) : CtI E m_X9_fault [.inr b, .inl x] M (fun r M' => r = fFlt p q x ∧ M' = M) := by
  refine x_ct (by decide) (Nat.le_of_ble_eq_true rfl) (b_X9_fault_0 hW b x M _ hb ⟨h1, fun hx => ⟨by omega, fun hz => ⟨fun x0 => ⟨_, rfl, ?_, rfl⟩, fun x0 => ⟨_, rfl, ?_, rfl⟩⟩, fun hz => ⟨_, rfl, ?_, rfl⟩⟩, fun hx => ⟨_, rfl, by rw [fFlt, if_neg hx], rfl⟩⟩)
  · rw [fFlt, if_pos hx, if_neg x0]; omega
  · rw [fFlt, if_pos hx, if_pos x0]; omega
  · rw [fFlt, if_pos hx]; split <;> omega
theorem re_fault (hW : fx_Wt E) {m : Nat} {x : Int} (hm : kd E m = 10) (h1 : inR x) : CtI E m_X10_fault [.inr m, .inl x] M (fun r M' => r = fFlt (M m 7) (M m 8) x ∧ M' = M) := by
  refine x_ct (by decide) (Nat.le_of_ble_eq_true rfl) (b_X10_fault_0 hW m x M _ hm ⟨h1, fun hx => ⟨fun x0 => ⟨_, rfl, ?_, rfl⟩, fun x0 => ⟨_, rfl, ?_, rfl⟩⟩, fun hx => ⟨_, rfl, by rw [fFlt, if_neg hx], rfl⟩⟩)
  · rw [fFlt, if_pos hx, if_neg x0]
  · rw [fFlt, if_pos hx, if_pos x0]
end
