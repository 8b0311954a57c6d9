/-! The class's history: a ring of eight states. -/
def hpush (H : Nat → Nat → Int) (n : Nat) (w : Nat → Int) : Nat → Nat → Int := fun i => if n < 8 then (if i = n then w else H i) else (if i = 7 then w else H (i + 1))
def hlen (n : Nat) : Nat := if n < 8 then n + 1 else 8
def wB (w : Nat → Int) : Prop := w 0 ≤ 8 ∧ w 43 ≤ 6 ∧ w 62 ≤ 10
def HS (E : fxE) (M : fxM) (h : Nat) (H : Nat → Nat → Int) (n : Nat) : Prop := M h 2 = (n : Int) ∧ n ≤ 8 ∧ ∃ o : Nat, o < 8 ∧ M h 1 = (o : Int) ∧ ∀ i, i < n → SR E M (rf E (rf E h 0) ((o + i) % 8)) (H i)
section
variable {E : fxE} {M : fxM}
theorem st_kd (hW : fx_Wt E) {h : Nat} (hh : kd E h = 3) {j : Nat} (hj : j < 8) : kd E (rf E (rf E h 0) j) = 5 := by
  have := we_14 (i := (j : Int)) hW (wk_3_0 hW hh) (wl_3_0 hW hh) ⟨by omega, by omega⟩
  rwa [Int.toNat_natCast] at this
theorem st_ne (hW : fx_Wt E) {h : Nat} (hh : kd E h = 3) {i j : Nat} (hi : i < 8) (hj : j < 8) (hij : i ≠ j) : rf E (rf E h 0) i ≠ rf E (rf E h 0) j := fun e => by
  have hk := wk_3_0 hW hh
  have hl := wl_3_0 hW hh
  exact hij (wd hW (rs_a hk (by decide) (by omega)) (rs_a hk (by decide) (by omega)) e).2
theorem at_X3_keep (hW : fx_Wt E) {h s n : Nat} {H : Nat → Nat → Int} {w : Nat → Int} (hh : kd E h = 3) (hs : kd E s = 5) (hns : ∀ j, j < 8 → s ≠ rf E (rf E h 0) j) (hH : HS E M h H n) (hn7 : n < 8) (hS : SR E M s w) (hw : wB w) : fx_At E m_X3_keep 30 [some (.inr h), some (.inr s)] [] M (fun r M' => r = none ∧ HS E M' h (fun i => if i = n then w else H i) (n + 1) ∧ ∀ c, reg E c ≠ h → (∀ j, j < 8 → reg E c ≠ rf E (rf E h 0) j) → M' c = M c) := by
  obtain ⟨hn, hn8, o, ho, hoe, hst⟩ := hH
  have hhs : ∀ j, j < 8 → rf E (rf E h 0) j ≠ h := fun j hj => kd_ne (st_kd hW hh hj) hh (by decide)
  refine b_X3_keep_30 hW h s M _ hh hs ⟨by omega, by omega, ?_⟩
  have ej : ((M h 1 + M h 2) % 8).toNat = (o + n) % 8 := by rw [hoe, hn]; omega
  rw [ej]
  have hlt : (o + n) % 8 < 8 := Nat.mod_lt _ (by decide)
  refine ⟨_, ct_X5_copyFrom hW (st_kd hW hh hlt) hs (hns _ hlt), fun M4 h4 M5 h5 => ⟨rfl, ?_, ?_⟩⟩
  · have k2 : M4 h = M h := h4.1 h (by rw [reg_top hh rfl]; exact (hhs _ hlt).symm)
    have F5 : Fr E M4 M5 h := by rw [h5]; exact Fr_mset (reg_top hh rfl)
    refine ⟨?_, by omega, o, ho, ?_, fun i hi => ?_⟩
    · rw [h5, mset_s, k2, hn]; omega
    · rw [h5, mset_n (by decide), k2, hoe]
    · have hi8 : (o + i) % 8 < 8 := Nat.mod_lt _ (by decide)
      by_cases hin : i = n
      · show SR E M5 _ (if i = n then w else H i)
        rw [if_pos hin]
        subst hin
        exact (h4.2 w hw.1 hw.2.1 hw.2.2 hS).fr hW (st_kd hW hh hi8) F5 (hhs _ hi8)
      · show SR E M5 _ (if i = n then w else H i)
        rw [if_neg hin]
        exact ((hst i (by omega)).fr hW (st_kd hW hh hi8) h4.1 (st_ne hW hh hi8 hlt (by omega))).fr hW (st_kd hW hh hi8) F5 (hhs _ hi8)
  · intro c hc1 hc2
    rw [h5, mset_o (fun e => hc1 (by rw [e]; exact reg_top hh rfl))]
    exact h4.1 c (hc2 _ hlt)
theorem x_mono {y : fxY} {pc : Nat} {lv : List (Option fxV)} {stk : List fxV} {Q Q' : Option fxV → fxM → Prop} (h : fx_At E y pc lv stk M Q) (hq : ∀ r M', Q r M' → Q' r M') : fx_At E y pc lv stk M Q' := by
  intro hO p l e s m args below meth c C H locs ls hS hl hP
  intro T hT X
  obtain ⟨t, a, o, b1, b2, ⟨⟨r, M', c1, c2, c3⟩, c4⟩, b5⟩ := h hO p l e s m args below meth c C H locs ls hS hl hP T hT X
  exact ⟨t, a, o, b1, b2, ⟨⟨r, M', c1, hq r M' c2, c3⟩, c4⟩, b5⟩
theorem ct_X3_keep (hW : fx_Wt E) {h s n : Nat} {H : Nat → Nat → Int} {w : Nat → Int} (hh : kd E h = 3) (hs : kd E s = 5) (hns : ∀ j, j < 8 → s ≠ rf E (rf E h 0) j) (hH : HS E M h H n) (hS : SR E M s w) (hw : wB w) : CtV E m_X3_keep [.inr h, .inr s] M (fun M' => HS E M' h (hpush H n w) (hlen n) ∧ ∀ c, reg E c ≠ h → (∀ j, j < 8 → reg E c ≠ rf E (rf E h 0) j) → M' c = M c) := by
  have hH0 := hH
  obtain ⟨hn, hn8, o, ho, hoe, hst⟩ := hH
  have hhs : ∀ j, j < 8 → rf E (rf E h 0) j ≠ h := fun j hj => kd_ne (st_kd hW hh hj) hh (by decide)
  refine x_ct (by decide) (Nat.le_of_ble_eq_true rfl) (b_X3_keep_0 hW h s M _ hh hs ⟨by omega, fun hc => ?_, fun hc => ⟨by omega, ?_⟩⟩)
  · have hc8 : n < 8 := by omega
    refine x_mono (at_X3_keep hW hh hs hns hH0 hc8 hS hw) (fun r M' q => ⟨q.1, ?_, q.2.2⟩)
    have e : hpush H n w = fun i => if i = n then w else H i := by funext i; simp [hpush, hc8]
    rw [e, hlen, if_pos hc8]
    exact q.2.1
  · have hc8 : n = 8 := by omega
    subst hc8
    intro M7 h7 M8 h8
    have k1 : M8 h 1 = (((o + 1) % 8 : Nat) : Int) := by rw [h8, mset_n (by decide), h7, mset_s, hoe]; omega
    have k2 : M8 h 2 = ((7 : Nat) : Int) := by rw [h8, mset_s]; rfl
    have F8 : Fr E M M8 h := by rw [h8, h7]; exact (Fr_mset (reg_top hh rfl)).trans (Fr_mset (reg_top hh rfl))
    have sne : s ≠ h := kd_ne hs hh (by decide)
    have hH8 : HS E M8 h (fun i => H (i + 1)) 7 := by
      refine ⟨k2, by decide, (o + 1) % 8, Nat.mod_lt _ (by decide), k1, fun i hi => ?_⟩
      have hi8 : (o + (i + 1)) % 8 < 8 := Nat.mod_lt _ (by decide)
      have e2 : ((o + 1) % 8 + i) % 8 = (o + (i + 1)) % 8 := by omega
      rw [e2]
      exact (hst (i + 1) (by omega)).fr hW (st_kd hW hh hi8) F8 (hhs _ hi8)
    refine x_mono (at_X3_keep hW hh hs hns hH8 (by decide) (hS.fr hW hs F8 sne) hw) (fun r M' q => ⟨q.1, ?_, fun c c1 c2 => (q.2.2 c c1 c2).trans (F8 c c1)⟩)
    have e : hpush H 8 w = fun i => if i = 7 then w else H (i + 1) := by funext i; simp [hpush]
    rw [e]
    exact q.2.1
theorem ct_X3_restore (hW : fx_Wt E) {h s n : Nat} {H : Nat → Nat → Int} (hh : kd E h = 3) (hs : kd E s = 5) (hns : ∀ j, j < 8 → s ≠ rf E (rf E h 0) j) (hH : HS E M h H (n + 1)) (hw : wB (H n)) : CtV E m_X3_restoreLatest [.inr h, .inr s] M (fun M' => HS E M' h H n ∧ SR E M' s (H n) ∧ ∀ c, reg E c ≠ h → reg E c ≠ s → M' c = M c) := by
  obtain ⟨hn, hn8, o, ho, hoe, hst⟩ := hH
  have hhs : ∀ j, j < 8 → rf E (rf E h 0) j ≠ h := fun j hj => kd_ne (st_kd hW hh hj) hh (by decide)
  have sne : s ≠ h := kd_ne hs hh (by decide)
  refine x_ct (by decide) (Nat.le_of_ble_eq_true rfl) (b_X3_restoreLatest_0 hW h s M _ hh hs ⟨by omega, fun hc => ?_, fun hc => absurd hc (by omega)⟩)
  intro M2 h2
  have k1 : M2 h 1 = (o : Int) := by rw [h2, mset_n (by decide), hoe]
  have k2 : M2 h 2 = (n : Int) := by rw [h2, mset_s, hn]; omega
  refine ⟨by omega, by omega, ?_⟩
  have hlt : (o + n) % 8 < 8 := Nat.mod_lt _ (by decide)
  have ej : ((M2 h 1 + M2 h 2) % 8).toNat = (o + n) % 8 := by rw [k1, k2]; omega
  rw [ej]
  have F2 : Fr E M M2 h := by rw [h2]; exact Fr_mset (reg_top hh rfl)
  refine ⟨_, ct_X5_copyFrom hW hs (st_kd hW hh hlt) (hns _ hlt).symm, fun M5 h5 => ⟨rfl, ?_, ?_, ?_⟩⟩
  · have k3 : M5 h = M2 h := h5.1 h (by rw [reg_top hh rfl]; exact sne.symm)
    refine ⟨by rw [k3, k2], by omega, o, ho, by rw [k3, k1], fun i hi => ?_⟩
    have hi8 : (o + i) % 8 < 8 := Nat.mod_lt _ (by decide)
    exact ((hst i (by omega)).fr hW (st_kd hW hh hi8) F2 (hhs _ hi8)).fr hW (st_kd hW hh hi8) h5.1 (hns _ hi8).symm
  · exact h5.2 _ hw.1 hw.2.1 hw.2.2 ((hst n (by omega)).fr hW (st_kd hW hh hlt) F2 (hhs _ hlt))
  · intro c hc1 hc2
    rw [h5.1 c hc2]
    exact F2 c hc1
end
