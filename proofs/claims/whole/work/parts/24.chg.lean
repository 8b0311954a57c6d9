/-! The class's state and what a change does. -/
def CI (E : fxE) (M : fxM) (b : Nat) (w : Nat → Int) (H : Nat → Nat → Int) (n v : Nat) : Prop := SR E M (rf E b 0) w ∧ HS E M (rf E b 1) H n ∧ M b 8 = (v : Int)
/-- nothing changes in regions of kinds other than those in ks -/
def KF (E : fxE) (M M' : fxM) (ks : List Nat) : Prop := ∀ c, kd E (reg E c) ∉ ks → M' c = M c
section
variable {E : fxE} {M : fxM}
theorem KF.trans {M' M'' : fxM} {ks : List Nat} (h : KF E M M' ks) (h' : KF E M' M'' ks) : KF E M M'' ks := fun c hc => (h' c hc).trans (h c hc)
theorem KF.mono {M' : fxM} {ks ks' : List Nat} (h : KF E M M' ks) (hk : ∀ k ∈ ks, k ∈ ks') : KF E M M' ks' := fun c hc => h c (fun z => hc (hk _ z))
theorem Fr.kf {M' : fxM} {r k : Nat} {ks : List Nat} (h : Fr E M M' r) (hr : kd E r = k) (hk : k ∈ ks) : KF E M M' ks := fun c hc => h c (fun e => hc (by rw [e, hr]; exact hk))
theorem now_ne (hW : fx_Wt E) {b : Nat} (hb : kd E b = 9) : ∀ j, j < 8 → rf E b 0 ≠ rf E (rf E (rf E b 1) 0) j := fun j hj e => by
  have hh := wk_9_1 hW hb
  have hk := wk_3_0 hW hh
  have hl := wl_3_0 hW hh
  exact kd_ne hb hk (by decide) (wd hW (rs_o hb (by decide) rfl) (rs_a hk (by decide) (by omega)) e).1
theorem ct_X9_recordChange (hW : fx_Wt E) {b n v : Nat} {w : Nat → Int} {H : Nat → Nat → Int} (hb : kd E b = 9) (hC : CI E M b w H n v) (hw : wB w) : CtV E m_X9_recordChange [.inr b] M (fun M' => CI E M' b w (hpush H n w) (hlen n) (v + 1) ∧ KF E M M' [3, 5, 9] ∧ ∀ c, reg E c = rf E b 0 → M' c = M c) := by
  obtain ⟨c1, c2, c3⟩ := hC
  have hh := wk_9_1 hW hb
  have hs := wk_9_0 hW hb
  refine x_ct (by decide) (Nat.le_of_ble_eq_true rfl) (b_X9_recordChange_0 hW b M _ hb ⟨_, ct_X3_keep hW hh hs (now_ne hW hb) c2 c1 hw, fun M1 h1 M2 h2 => ?_⟩)
  have F2 : Fr E M1 M2 b := by rw [h2]; exact Fr_mset (reg_top hb rfl)
  have nh : rf E b 0 ≠ rf E b 1 := kd_ne hs hh (by decide)
  have same : ∀ c, reg E c = rf E b 0 → M1 c = M c := fun c hc => h1.2 c (by rw [hc]; exact nh) (fun j hj => by rw [hc]; exact now_ne hW hb j hj)
  have same2 : ∀ c, reg E c = rf E b 0 → M2 c = M c := fun c hc => (F2 c (by rw [hc]; exact kd_ne hs hb (by decide))).trans (same c hc)
  have kb : M1 b = M b := h1.2 b (by rw [reg_top hb rfl]; exact kd_ne hb hh (by decide)) (fun j hj => by rw [reg_top hb rfl]; exact kd_ne hb (st_kd hW hh hj) (by decide))
  have sr : SR E M2 (rf E b 0) w := by
    have k0 := wk_5_0 hW hs
    have k1 := wk_5_1 hW hs
    refine ⟨c1.1.sa hW k0 (fun c hc => same2 c ?_), c1.2.1.sa hW k1 (fun c hc => same2 c ?_), ?_⟩
    · rw [reg_own (by omega) hc, reg_fib hW hs]
    · rw [reg_own (by omega) hc, reg_map hW hs]
    · rw [same2 _ (reg_set hW hs)]; exact c1.2.2
  refine ⟨rfl, ⟨sr, ?_, ?_⟩, fun c hc => ?_, same2⟩
  · obtain ⟨q1, q2, o, q3, q4, q5⟩ := h1.1
    have kh : M2 (rf E b 1) = M1 (rf E b 1) := F2 _ (by rw [reg_top hh rfl]; exact kd_ne hh hb (by decide))
    refine ⟨by rw [kh]; exact q1, q2, o, q3, by rw [kh]; exact q4, fun i hi => ?_⟩
    have hi8 : (o + i) % 8 < 8 := Nat.mod_lt _ (by decide)
    exact (q5 i hi).fr hW (st_kd hW hh hi8) F2 (kd_ne (st_kd hW hh hi8) hb (by decide))
  · rw [h2, mset_s, kb, c3]; omega
  · rw [F2 c (fun e => hc (by rw [e, hb]; decide)), h1.2 c (fun e => hc (by rw [e, hh]; decide)) (fun j hj e => hc (by rw [e, st_kd hW hh hj]; decide))]
/-- the now state is changed by a method of its own: the rest of the class's state stays -/
theorem CI.upd {M' : fxM} {b n v : Nat} {w w' : Nat → Int} {H : Nat → Nat → Int} (hW : fx_Wt E) (hb : kd E b = 9) (hC : CI E M b w H n v) (hF : Fr E M M' (rf E b 0)) (hS : SR E M' (rf E b 0) w') : CI E M' b w' H n v := by
  obtain ⟨c1, c2, c3⟩ := hC
  have hh := wk_9_1 hW hb
  have hs := wk_9_0 hW hb
  refine ⟨hS, ?_, ?_⟩
  · obtain ⟨q1, q2, o, q3, q4, q5⟩ := c2
    have kh : M' (rf E b 1) = M (rf E b 1) := hF _ (by rw [reg_top hh rfl]; exact kd_ne hh hs (by decide))
    refine ⟨by rw [kh]; exact q1, q2, o, q3, by rw [kh]; exact q4, fun i hi => ?_⟩
    have hi8 : (o + i) % 8 < 8 := Nat.mod_lt _ (by decide)
    exact (q5 i hi).fr hW (st_kd hW hh hi8) hF (now_ne hW hb _ hi8).symm
  · rw [hF b (by rw [reg_top hb rfl]; exact kd_ne hb hs (by decide))]; exact c3
/-- the fibre is changed -/
theorem SR.fib {M' : fxM} {s : Nat} {w w' : Nat → Int} (hW : fx_Wt E) (hs : kd E s = 5) (h : SR E M s w) (hF : Fo E M M' (rf E s 0)) (hf : FR E M' (rf E s 0) w') (hw : ∀ j, 58 ≤ j → w' j = w j) : SR E M' s w' := by
  have k0 := wk_5_0 hW hs
  have k1 := wk_5_1 hW hs
  refine ⟨hf, ?_, fun j hj => ?_⟩
  · have h2 := h.2.1.sa hW k1 (hF.sa (kd_ne k1 k0 (by decide)))
    unfold MR at h2 ⊢
    rw [hw 62 (by omega), hw 83 (by omega)]
    refine ⟨h2.1, fun i hi => ?_, h2.2.2⟩
    rw [hw (63 + 2 * i) (by omega), hw (64 + 2 * i) (by omega)]
    exact h2.2.1 i hi
  · rw [hF _ (by rw [os_2 hW hs]; exact kd_ne hs k0 (by decide)), hw (58 + j) (by omega)]
    exact h.2.2 j hj
theorem Fo.fr0 {M' : fxM} {s : Nat} (hW : fx_Wt E) (hs : kd E s = 5) (hF : Fo E M M' (rf E s 0)) : Fr E M M' s := hF.fr (by rw [wk_5_0 hW hs]; decide) (reg_fib hW hs)
theorem Fo.fr1 {M' : fxM} {s : Nat} (hW : fx_Wt E) (hs : kd E s = 5) (hF : Fo E M M' (rf E s 1)) : Fr E M M' s := hF.fr (by rw [wk_5_1 hW hs]; decide) (reg_map hW hs)
/-- sums of the sections -/
theorem sg_congr {f g : Nat → Int} : ∀ (n : Nat), (∀ i, i < n → f i = g i) → sg f n = sg g n
  | 0, _ => rfl
  | n + 1, h => by rw [sg, sg, sg_congr n (fun i hi => h i (by omega)), h n (by omega)]
def tot (w : Nat → Int) : Int := wsum w (w 0).toNat
theorem FR.sum {f : Nat} {w : Nat → Int} (h : FR E M f w) {n : Nat} (hn : (n : Int) ≤ w 0) : fsum E M f n = wsum w n := sg_congr n (fun i hi => (h.2.1 i (by omega)).1)
theorem FR.tot {f : Nat} {w : Nat → Int} (h : FR E M f w) (h0 : 0 ≤ w 0) : fsum E M f (M f 3).toNat = tot w := by
  rw [h.1]
  exact h.sum (by omega)
end
