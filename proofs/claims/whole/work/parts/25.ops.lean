/-! The changes: what each answers and what it makes of the row w. -/
def wu (w : Nat → Int) (k : Nat) (v : Int) : Nat → Int := fun i => if i = k then v else w i
theorem wu_s {w : Nat → Int} {k : Nat} {v : Int} : wu w k v k = v := by simp [wu]
theorem wu_n {w : Nat → Int} {k j : Nat} {v : Int} (h : j ≠ k) : wu w k v j = w j := by simp [wu, h]
def wOk (w : Nat → Int) : Prop :=
  (1 ≤ w 0 ∧ w 0 ≤ 8) ∧ (∀ i : Nat, (i : Int) < w 0 → okSec (w (1 + 3 * i)) (w (2 + 3 * i)) (w (3 + 3 * i))) ∧ tot w ≤ 300 ∧
  (∀ k : Nat, (k : Int) ≤ w 0 → (0 ≤ w (25 + 2 * k) ∧ w (25 + 2 * k) ≤ 3000) ∧ (0 ≤ w (26 + 2 * k) ∧ w (26 + 2 * k) ≤ 9000)) ∧
  (0 ≤ w 43 ∧ w 43 ≤ 6) ∧ (∀ i : Nat, (i : Int) < w 43 → (1 ≤ w (44 + 2 * i) ∧ w (44 + 2 * i) < tot w) ∧ (1 ≤ w (45 + 2 * i) ∧ w (45 + 2 * i) ≤ 3000)) ∧
  (0 ≤ w 56 ∧ w 56 < tot w) ∧ (0 ≤ w 57 ∧ w 57 ≤ 9000) ∧
  (∀ j : Nat, j < 4 → sv 0 j ≤ w (58 + j) ∧ w (58 + j) ≤ sv 1 j) ∧
  (0 ≤ w 62 ∧ w 62 ≤ 10) ∧ (∀ i : Nat, (i : Int) < w 62 → (0 ≤ w (63 + 2 * i) ∧ w (63 + 2 * i) ≤ 9999) ∧ (0 ≤ w (64 + 2 * i) ∧ w (64 + 2 * i) ≤ 99)) ∧
  (∀ i : Nat, (i : Int) + 1 < w 62 → w (63 + 2 * i) < w (65 + 2 * i)) ∧ (0 ≤ w 83 ∧ w 83 ≤ 100)
theorem sg_ge {g : Nat → Int} : ∀ (n : Nat), (∀ i, i < n → 1 ≤ g i) → (n : Int) ≤ sg g n
  | 0, _ => by simp [sg]
  | n + 1, h => by
    have := sg_ge n (fun i hi => h i (by omega))
    have := h n (by omega)
    rw [sg]; omega
theorem wOk.tot1 {w : Nat → Int} (h : wOk w) : 1 ≤ tot w := by
  have := sg_ge (g := fun i => w (1 + 3 * i)) (w 0).toNat (fun i hi => (h.2.1 i (by omega)).1.1)
  have h0 := h.1
  unfold tot wsum
  omega
theorem wOk.wB {w : Nat → Int} (h : wOk w) : wB w := ⟨h.1.2, h.2.2.2.2.1.2, h.2.2.2.2.2.2.2.2.2.1.2⟩
def opBegin (w : Nat → Int) (l a s r : Int) (o : Option (Nat → Int)) : Prop := (okSec l a s ∧ r = tot w ∧ o = some (wapp (fun j => if j < 58 then 0 else w j) l a s)) ∨ (¬ okSec l a s ∧ r = -1000002 ∧ o = none)
def opAdd (w : Nat → Int) (l a s r : Int) (o : Option (Nat → Int)) : Prop := (okSec l a s ∧ (w 0 < 8 ∧ tot w + l ≤ 300) ∧ r = w 0 ∧ o = some (wapp w l a s)) ∨ (okSec l a s ∧ ¬ (w 0 < 8 ∧ tot w + l ≤ 300) ∧ r = -1000003 ∧ o = none) ∨ (¬ okSec l a s ∧ r = -1000002 ∧ o = none)
def opJoint (w : Nat → Int) (j l h r : Int) (o : Option (Nat → Int)) : Prop := ((0 ≤ j ∧ j ≤ w 0) ∧ ((0 ≤ l ∧ l ≤ 3000) ∧ (0 ≤ h ∧ h ≤ 9000)) ∧ r = w (25 + 2 * j.toNat) ∧ o = some (wu (wu w (25 + 2 * j.toNat) l) (26 + 2 * j.toNat) h)) ∨ (¬ (0 ≤ j ∧ j ≤ w 0) ∧ r = -1000001 ∧ o = none) ∨ ((0 ≤ j ∧ j ≤ w 0) ∧ ¬ ((0 ≤ l ∧ l ≤ 3000) ∧ (0 ≤ h ∧ h ≤ 9000)) ∧ r = -1000002 ∧ o = none)
def opBendA (w : Nat → Int) (p l r : Int) (o : Option (Nat → Int)) : Prop := (((1 ≤ p ∧ p ≤ tot w - 1) ∧ (1 ≤ l ∧ l ≤ 3000)) ∧ w 43 < 6 ∧ r = w 43 ∧ o = some (wu (wu (wu w (44 + 2 * (w 43).toNat) p) (45 + 2 * (w 43).toNat) l) 43 (w 43 + 1))) ∨ (((1 ≤ p ∧ p ≤ tot w - 1) ∧ (1 ≤ l ∧ l ≤ 3000)) ∧ ¬ w 43 < 6 ∧ r = -1000003 ∧ o = none) ∨ (¬ ((1 ≤ p ∧ p ≤ tot w - 1) ∧ (1 ≤ l ∧ l ≤ 3000)) ∧ r = -1000002 ∧ o = none)
def wrem (w : Nat → Int) (k : Nat) : Nat → Int := fun i => if 44 + 2 * k ≤ i ∧ (i : Int) < 44 + 2 * (w 43 - 1) then w (i + 2) else if i = 43 then w 43 - 1 else w i
def opBendR (w : Nat → Int) (k r : Int) (o : Option (Nat → Int)) : Prop := ((0 ≤ k ∧ k ≤ w 43 - 1) ∧ r = w (45 + 2 * k.toNat) ∧ o = some (wrem w k.toNat)) ∨ (¬ (0 ≤ k ∧ k ≤ w 43 - 1) ∧ r = -1000001 ∧ o = none)
def opBreak (w : Nat → Int) (p h r : Int) (o : Option (Nat → Int)) : Prop := (((0 ≤ p ∧ p ≤ tot w - 1) ∧ (0 ≤ h ∧ h ≤ 9000)) ∧ ¬ (p = 0 ∧ w 56 = 0) ∧ r = w 56 ∧ o = some (wu (wu w 56 p) 57 (if p = 0 then 0 else h))) ∨ (((0 ≤ p ∧ p ≤ tot w - 1) ∧ (0 ≤ h ∧ h ≤ 9000)) ∧ (p = 0 ∧ w 56 = 0) ∧ r = -1000004 ∧ o = none) ∨ (¬ ((0 ≤ p ∧ p ≤ tot w - 1) ∧ (0 ≤ h ∧ h ≤ 9000)) ∧ r = -1000002 ∧ o = none)
def opSet (w : Nat → Int) (k v r : Int) (o : Option (Nat → Int)) : Prop := ((0 ≤ k ∧ k ≤ 3) ∧ (sv 0 k.toNat ≤ v ∧ v ≤ sv 1 k.toNat) ∧ r = w (58 + k.toNat) ∧ o = some (wu w (58 + k.toNat) v)) ∨ (¬ (0 ≤ k ∧ k ≤ 3) ∧ r = -1000001 ∧ o = none) ∨ ((0 ≤ k ∧ k ≤ 3) ∧ ¬ (sv 0 k.toNat ≤ v ∧ v ≤ sv 1 k.toNat) ∧ r = -1000002 ∧ o = none)
def opPoint (w : Nat → Int) (p s r : Int) (o : Option (Nat → Int)) : Prop := (((0 ≤ p ∧ p ≤ 9999) ∧ (0 ≤ s ∧ s ≤ 99)) ∧ w 62 < 10 ∧ (w 62 = 0 ∨ w (61 + 2 * (w 62).toNat) < p) ∧ r = w 62 ∧ o = some (wu (wu (wu w (63 + 2 * (w 62).toNat) p) (64 + 2 * (w 62).toNat) s) 62 (w 62 + 1))) ∨ (((0 ≤ p ∧ p ≤ 9999) ∧ (0 ≤ s ∧ s ≤ 99)) ∧ ¬ w 62 < 10 ∧ r = -1000003 ∧ o = none) ∨ (((0 ≤ p ∧ p ≤ 9999) ∧ (0 ≤ s ∧ s ≤ 99)) ∧ w 62 < 10 ∧ ¬ (w 62 = 0 ∨ w (61 + 2 * (w 62).toNat) < p) ∧ r = -1000004 ∧ o = none) ∨ (¬ ((0 ≤ p ∧ p ≤ 9999) ∧ (0 ≤ s ∧ s ≤ 99)) ∧ r = -1000002 ∧ o = none)
def opClear (w : Nat → Int) (r : Int) (o : Option (Nat → Int)) : Prop := r = w 62 ∧ o = some (wu w 62 0)
def opExc (w : Nat → Int) (e r : Int) (o : Option (Nat → Int)) : Prop := ((0 ≤ e ∧ e ≤ 100) ∧ r = w 83 ∧ o = some (wu w 83 e)) ∨ (¬ (0 ≤ e ∧ e ≤ 100) ∧ r = -1000002 ∧ o = none)
/-- what a change leaves of the class -/
def CRes (E : fxE) (M : fxM) (b : Nat) (w : Nat → Int) (H : Nat → Nat → Int) (n v : Nat) (o : Option (Nat → Int)) (M' : fxM) : Prop := (o = none ∧ M' = M) ∨ ∃ w1, o = some w1 ∧ CI E M' b w1 (hpush H n w) (hlen n) (v + 1) ∧ KF E M M' [3, 5, 9]
/-- what a change leaves of the reference -/
def RRes (E : fxE) (M : fxM) (m n : Nat) (o : Option (Nat → Int)) (M' : fxM) : Prop := (o = none ∧ M' = M) ∨ ∃ w1, o = some w1 ∧ M' (rf E m 0) = w1 ∧ M' (rf E m 1) = rpush (M (rf E m 1)) n (M (rf E m 0)) ∧ M' m 2 = (hlen n : Int) ∧ M' m 3 = -1 ∧ (∀ k, k ≠ 2 → k ≠ 3 → M' m k = M m k) ∧ ∀ c, c ≠ m → c ≠ rf E m 0 → c ≠ rf E m 1 → M' c = M c
section
variable {E : fxE} {M : fxM}
theorem fin_fib {M1 M2 : fxM} {b n v : Nat} {w w' : Nat → Int} {H : Nat → Nat → Int} (hW : fx_Wt E) (hb : kd E b = 9) (hC : CI E M1 b w H n v) (hK : KF E M M1 [3, 5, 9]) (hF : Fo E M1 M2 (rf E (rf E b 0) 0)) (hf : FR E M2 (rf E (rf E b 0) 0) w') (hw : ∀ j, 58 ≤ j → w' j = w j) : CI E M2 b w' H n v ∧ KF E M M2 [3, 5, 9] := by
  have hs := wk_9_0 hW hb
  have hFr := hF.fr0 hW hs
  exact ⟨hC.upd hW hb hFr (hC.1.fib hW hs hF hf hw), hK.trans (hFr.kf hs (by decide))⟩
theorem FR.congr {f : Nat} {w w' : Nat → Int} (h : FR E M f w) (h0 : w 0 ≤ 8) (h43 : w 43 ≤ 6) (hw : ∀ j, j < 58 → w' j = w j) : FR E M f w' := by
  obtain ⟨e0, e1, e2, e3, e4, e5, e6⟩ := h
  refine ⟨by rw [hw 0 (by omega)]; exact e0, fun i hi => ?_, fun k hk => ?_, by rw [hw 43 (by omega)]; exact e3, fun i hi => ?_, by rw [hw 56 (by omega)]; exact e5, by rw [hw 57 (by omega)]; exact e6⟩
  · rw [hw 0 (by omega)] at hi
    rw [hw (1 + 3 * i) (by omega), hw (2 + 3 * i) (by omega), hw (3 + 3 * i) (by omega)]
    exact e1 i hi
  · rw [hw 0 (by omega)] at hk
    rw [hw (25 + 2 * k) (by omega), hw (26 + 2 * k) (by omega)]
    exact e2 k hk
  · rw [hw 43 (by omega)] at hi
    rw [hw (44 + 2 * i) (by omega), hw (45 + 2 * i) (by omega)]
    exact e4 i hi
theorem fin_map {M1 M2 : fxM} {b n v : Nat} {w w' : Nat → Int} {H : Nat → Nat → Int} (hW : fx_Wt E) (hb : kd E b = 9) (hB : wB w) (hC : CI E M1 b w H n v) (hK : KF E M M1 [3, 5, 9]) (hF : Fo E M1 M2 (rf E (rf E b 0) 1)) (hf : MR E M2 (rf E (rf E b 0) 1) w') (hw : ∀ j, j < 62 → w' j = w j) : CI E M2 b w' H n v ∧ KF E M M2 [3, 5, 9] := by
  have hs := wk_9_0 hW hb
  have k0 := wk_5_0 hW hs
  have k1 := wk_5_1 hW hs
  have hFr := hF.fr1 hW hs
  refine ⟨hC.upd hW hb hFr ⟨?_, hf, fun j hj => ?_⟩, hK.trans (hFr.kf hs (by decide))⟩
  · exact (hC.1.1.sa hW k0 (hF.sa (kd_ne k0 k1 (by decide)))).congr hB.1 hB.2.1 (fun j hj => hw j (by omega))
  · rw [hF _ (by rw [os_2 hW hs]; exact kd_ne hs k1 (by decide)), hw (58 + j) (by omega)]
    exact hC.1.2.2 j hj
theorem cl_begin (hW : fx_Wt E) {b n v : Nat} {w : Nat → Int} {H : Nat → Nat → Int} {l a s : Int} (hb : kd E b = 9) (hC : CI E M b w H n v) (hw : wOk w) (h1 : inR l) (h2 : inR a) (h3 : inR s) : CtI E m_X9_begin [.inr b, .inl l, .inl a, .inl s] M (fun r M' => ∃ o, opBegin w l a s r o ∧ CRes E M b w H n v o M') := by
  have hs := wk_9_0 hW hb
  have hf := wk_5_0 hW hs
  have e3 := hC.1.1.1
  have et := hC.1.1.tot (by have := hw.1; omega)
  have h0 := hw.1
  refine x_ct (by decide) (Nat.le_of_ble_eq_true rfl) (b_X9_begin_0 hW b l a s M _ hb ⟨h1, h2, h3, fun ok => ⟨by omega, _, ct_X9_recordChange hW hb hC hw.wB, fun M6 h6 => ⟨_, ct_X2_clear hW hf, fun M7 h7 => ⟨_, ct_X2_append hW hf h7.1 (by decide) (by decide), fun M8 h8 => ?_⟩⟩⟩, fun nok => ⟨_, rfl, none, Or.inr ⟨nok, rfl, rfl⟩, Or.inl ⟨rfl, rfl⟩⟩⟩)
  refine ⟨_, rfl, _, Or.inl ⟨ok, et, rfl⟩, Or.inr ⟨_, rfl, ?_⟩⟩
  have e8 : FR E M8 (rf E (rf E b 0) 0) (wapp (fun j => if j < 58 then 0 else w j) l a s) := by
    refine h8.1.congr ?_ ?_ (fun j hj => ?_)
    · exact (wapp_at (n := 0) rfl (by decide)).1 ▸ (by decide)
    · rw [(wapp_at (n := 0) (w := fun _ => 0) (l := l) (a := a) (s := s) rfl (by decide)).2.2.2.2.2.2 43 (by decide) (by decide)]; decide
    · simp only [wapp]
      simp [hj]
  exact fin_fib hW hb h6.1 h6.2.1 (h7.2.trans h8.2) e8 (fun j hj => by
    simp only [wapp]
    rw [if_neg (by simp; omega), if_neg (by simp; omega), if_neg (by omega), if_neg (by simp; omega), if_neg (by simp; omega), if_neg (by simp; omega), if_neg (by omega)])
theorem cl_add (hW : fx_Wt E) {b n v : Nat} {w : Nat → Int} {H : Nat → Nat → Int} {l a s : Int} (hb : kd E b = 9) (hC : CI E M b w H n v) (hw : wOk w) (h1 : inR l) (h2 : inR a) (h3 : inR s) : CtI E m_X9_addSection [.inr b, .inl l, .inl a, .inl s] M (fun r M' => ∃ o, opAdd w l a s r o ∧ CRes E M b w H n v o M') := by
  have hs := wk_9_0 hW hb
  have hf := wk_5_0 hW hs
  have e3 := hC.1.1.1
  have et := hC.1.1.tot (by have := hw.1; omega)
  have h0 := hw.1
  have ht := hw.tot1
  have ht3 := hw.2.2.1
  refine x_ct (by decide) (Nat.le_of_ble_eq_true rfl) (b_X9_addSection_0 hW b l a s M _ hb ⟨h1, h2, h3, fun ok => ⟨by omega, fun hc => ?_, fun hc => ⟨by omega, by rw [et]; have := ok.1; omega, fun hc2 => ?_, fun hc2 => ?_⟩⟩, fun nok => ⟨_, rfl, none, Or.inr (Or.inr ⟨nok, rfl, rfl⟩), Or.inl ⟨rfl, rfl⟩⟩⟩)
  · exact ⟨_, rfl, none, Or.inr (Or.inl ⟨ok, by omega, rfl, rfl⟩), Or.inl ⟨rfl, rfl⟩⟩
  · rw [et] at hc2
    refine ⟨_, ct_X9_recordChange hW hb hC hw.wB, fun M8 h8 => ⟨_, ct_X2_append hW hf h8.1.1.1 (by omega) hw.wB.2.1, fun M9 h9 => ?_⟩⟩
    have hn : w 0 = (((w 0).toNat : Nat) : Int) := by omega
    have wa := wapp_at (l := l) (a := a) (s := s) hn (by omega)
    refine ⟨_, rfl, _, Or.inl ⟨ok, ⟨by omega, hc2⟩, ?_, rfl⟩, Or.inr ⟨_, rfl, ?_⟩⟩
    · rw [h9.1.1, wa.1]; omega
    · exact fin_fib hW hb h8.1 h8.2.1 h9.2 h9.1 (fun j hj => wa.2.2.2.2.2.2 j (by omega) (by omega))
  · rw [et] at hc2
    exact ⟨_, rfl, none, Or.inr (Or.inl ⟨ok, by omega, rfl, rfl⟩), Or.inl ⟨rfl, rfl⟩⟩
end
