/-! Class and reference side by side: what holds between calls, and that each call keeps it. -/
def ClS (E : fxE) (M : fxM) (b : Nat) (w : Nat → Int) (Hh : Nat → Nat → Int) (n v x : Nat) (c : Nat → Int) : Prop := CI E M b w Hh n v ∧ CV E M b w v ∧ CT E M b w v ∧ CE E M b w v ∧ TX E M (rf E b 3) x c
def ReS (E : fxE) (M : fxM) (m : Nat) (w : Nat → Int) (Hh : Nat → Nat → Int) (n x : Nat) (c : Nat → Int) : Prop := M (rf E m 0) = w ∧ M m 2 = (n : Int) ∧ n ≤ 8 ∧ (∀ i, i < n → ∀ j, j < 84 → M (rf E m 1) (84 * i + j) = Hh i j) ∧ RC E M m ∧ RX E M m x c
def Pu (w : Nat → Int) (Hh : Nat → Nat → Int) (n v x : Nat) (c : Nat → Int) (k : Nat) : Prop := wOk w ∧ (∀ i, i < n → wOk (Hh i)) ∧ (∀ i, i < x → 32 ≤ c i ∧ c i ≤ 126) ∧ v ≤ k
def Fl (fk fp p q : Int) : Prop := (fk = 0 ∧ p = -1000005 ∧ q = -1000005) ∨ ((1 ≤ fk ∧ fk ≤ 4) ∧ p = fp ∧ q = fk)
def INV (E : fxE) (M : fxM) (b m k : Nat) : Prop := ∃ (w : Nat → Int) (Hh : Nat → Nat → Int) (n v x : Nat) (c : Nat → Int), ClS E M b w Hh n v x c ∧ ReS E M m w Hh n x c ∧ Pu w Hh n v x c k ∧ Fl (M (rf E b 3) 2) (M (rf E b 3) 3) (M m 7) (M m 8)
section
variable {E : fxE} {M M1 M2 : fxM} {b m k : Nat}
theorem KF.mm (hW : fx_Wt E) (hm : kd E m = 10) {ks : List Nat} (h : KF E M M1 ks) (hk : 10 ∉ ks) : ∀ c, own E c = m → M1 c = M c := fun c hc => h c (by rw [reg_own (by omega) hc, reg_top hm rfl, hm]; exact hk)
theorem KF.tt (hW : fx_Wt E) (hb : kd E b = 9) {ks : List Nat} (h : KF E M M1 ks) (hk : 6 ∉ ks) : M1 (rf E b 3) = M (rf E b 3) := h _ (by rw [reg_top (wk_9_3 hW hb) rfl, wk_9_3 hW hb]; exact hk)
theorem ro_kf (hW : fx_Wt E) (hm : kd E m = 10) (h : ∀ c, own E c ≠ m → M1 c = M c) : KF E M M1 [10] := fun c hc => h c (fun e => hc (by rw [reg_own (by omega) e, reg_top hm rfl, hm]; decide))
theorem ReS.kf (hW : fx_Wt E) (hm : kd E m = 10) {w : Nat → Int} {Hh : Nat → Nat → Int} {n x : Nat} {c : Nat → Int} {ks : List Nat} (h : ReS E M m w Hh n x c) (hF : KF E M M1 ks) (hk : 10 ∉ ks) : ReS E M1 m w Hh n x c ∧ M1 m = M m := by
  have e := hF.mm hW hm hk
  have em : M1 m = M m := e m (own_o hm (by decide))
  have e0 := e _ (orr (k := 0) hW hm rfl)
  have e1 := e _ (orr (k := 1) hW hm rfl)
  have e5 := e _ (orr (k := 5) hW hm rfl)
  have e13 := e _ (orr (k := 13) hW hm rfl)
  unfold ReS RC RX at h ⊢
  rw [em, e0, e1, e5, e13]
  exact ⟨h, rfl⟩
theorem ClS.kf (hW : fx_Wt E) (hb : kd E b = 9) {w : Nat → Int} {Hh : Nat → Nat → Int} {n v x : Nat} {c : Nat → Int} (h : ClS E M b w Hh n v x c) (hF : KF E M M1 [10]) : ClS E M1 b w Hh n v x c :=
  ⟨h.1.kf hW hb hF (by decide), h.2.1.kf hW hb hF (by decide), h.2.2.1.kf hW hb hF (by decide), h.2.2.2.1.kf hW hb hF (by decide), h.2.2.2.2.kf hW hb hF (by decide)⟩
/-- a question -/
theorem INV.quest (hW : fx_Wt E) (hb : kd E b = 9) (hm : kd E m = 10) {w : Nat → Int} {Hh : Nat → Nat → Int} {n v x : Nat} {c : Nat → Int} (hC : ClS E M b w Hh n v x c) (hR : ReS E M m w Hh n x c) (hP : Pu w Hh n v x c k) (hF : Fl (M (rf E b 3) 2) (M (rf E b 3) 3) (M m 7) (M m 8)) (h1 : CQ E M M1 b w v) (h2 : RP E M1 M2 m) : INV E M2 b m (k + 1) := by
  obtain ⟨hR1, em⟩ := hR.kf hW hm h1.1 (by decide)
  have et : M1 (rf E b 3) = M (rf E b 3) := h1.1.tt hW hb (by decide)
  have hC1 : ClS E M1 b w Hh n v x c := ⟨hC.1.kf hW hb h1.1 (by decide), h1.2.1, h1.2.2.1, h1.2.2.2, hC.2.2.2.2.kf hW hb h1.1 (by decide)⟩
  obtain ⟨⟨q1, ⟨q2, q3, q4⟩, q5, q6, q7, q8⟩, q9⟩ := h2
  have hK := ro_kf hW hm q1
  have et2 : M2 (rf E b 3) = M1 (rf E b 3) := hK.tt hW hb (by decide)
  refine ⟨w, Hh, n, v, x, c, hC1.kf hW hb hK, ⟨by rw [q2]; exact hR1.1, by rw [q5]; exact hR1.2.1, hR1.2.2.1, by rw [q3]; exact hR1.2.2.2.1, q9, by unfold RX; rw [q6, q4]; exact hR1.2.2.2.2.2⟩, ⟨hP.1, hP.2.1, hP.2.2.1, by have := hP.2.2.2; omega⟩, ?_⟩
  rw [et2, et, q7, q8, em]
  exact hF
theorem push_rel {P : Nat → Int} {Hh : Nat → Nat → Int} {n : Nat} {w : Nat → Int} (hn : n ≤ 8) (h : ∀ i, i < n → ∀ j, j < 84 → P (84 * i + j) = Hh i j) : ∀ i, i < hlen n → ∀ j, j < 84 → rpush P n w (84 * i + j) = hpush Hh n w i j := by
  intro i hi j hj
  unfold rpush hpush
  unfold hlen at hi
  by_cases h8 : n < 8
  · rw [if_pos h8] at hi
    rw [if_pos h8, if_pos h8]
    by_cases hin : i = n
    · subst hin
      rw [if_pos (by omega), if_pos rfl, Nat.add_sub_cancel_left]
    · rw [if_neg (by omega), if_neg hin]
      exact h i (by omega) j hj
  · rw [if_neg h8] at hi
    rw [if_neg h8, if_neg h8]
    by_cases h7 : i = 7
    · subst h7
      rw [if_pos (by omega), if_pos rfl, show 84 * 7 + j - 588 = j by omega]
    · rw [if_neg (by omega), if_pos (by omega), if_neg h7, show 84 * i + j + 84 = 84 * (i + 1) + j by omega]
      exact h (i + 1) (by omega) j hj
theorem push_ok {Hh : Nat → Nat → Int} {n : Nat} {w : Nat → Int} (hn : n ≤ 8) (hw : wOk w) (h : ∀ i, i < n → wOk (Hh i)) : ∀ i, i < hlen n → wOk (hpush Hh n w i) := by
  intro i hi
  unfold hpush
  unfold hlen at hi
  by_cases h8 : n < 8
  · rw [if_pos h8] at hi
    rw [if_pos h8]
    by_cases hin : i = n
    · rw [if_pos hin]; exact hw
    · rw [if_neg hin]; exact h i (by omega)
  · rw [if_neg h8] at hi
    rw [if_neg h8]
    by_cases h7 : i = 7
    · rw [if_pos h7]; exact hw
    · rw [if_neg h7]; exact h (i + 1) (by omega)
theorem hlen_b {n : Nat} : hlen n ≤ 8 := by unfold hlen; split <;> omega
/-- a change that was made -/
theorem INV.chg (hW : fx_Wt E) (hb : kd E b = 9) (hm : kd E m = 10) {w w1 : Nat → Int} {Hh Hh' : Nat → Nat → Int} {n n' v x : Nat} {c : Nat → Int} {ks : List Nat} (hC : ClS E M b w Hh n v x c) (hP : Pu w Hh n v x c k) (hT : TX E M1 (rf E b 3) x c) (hw1 : wOk w1) (hH1 : ∀ i, i < n' → wOk (Hh' i)) (hC1 : CI E M1 b w1 Hh' n' (v + 1)) (hK1 : KF E M M1 ks) (hks : 8 ∉ ks ∧ 7 ∉ ks ∧ 1 ∉ ks)
    (g0 : M2 (rf E m 0) = w1) (g1 : ∀ i, i < n' → ∀ j, j < 84 → M2 (rf E m 1) (84 * i + j) = Hh' i j) (g2 : M2 m 2 = (n' : Int)) (hn' : n' ≤ 8) (g3 : M2 m 3 = -1) (g4 : 0 ≤ M2 m 4 ∧ M2 m 4 ≤ 9) (gx : RX E M2 m x c) (gc : ∀ c, own E c ≠ m → M2 c = M1 c) (hF : Fl (M1 (rf E b 3) 2) (M1 (rf E b 3) 3) (M2 m 7) (M2 m 8)) : INV E M2 b m (k + 1) := by
  have hK := ro_kf hW hm gc
  have et2 : M2 (rf E b 3) = M1 (rf E b 3) := hK.tt hW hb (by decide)
  have hC2 : ClS E M1 b w1 Hh' n' (v + 1) x c := ⟨hC1, hC.2.1.next hW hb hK1 hks.1, hC.2.2.1.next hW hb hK1 hks.2.1, hC.2.2.2.1.next hW hb hK1 hks.2.2, hT⟩
  refine ⟨w1, Hh', n', v + 1, x, c, hC2.kf hW hb hK, ⟨g0, g2, hn', g1, ⟨by rw [g3]; decide, g4, fun z => absurd z (by rw [g3]; decide)⟩, gx⟩, ⟨hw1, hH1, hP.2.2.1, by have := hP.2.2.2; omega⟩, by rw [et2]; exact hF⟩
/-- the changes by their words -/
theorem INV.res (hW : fx_Wt E) (hb : kd E b = 9) (hm : kd E m = 10) {w : Nat → Int} {Hh : Nat → Nat → Int} {n v x : Nat} {c : Nat → Int} {o : Option (Nat → Int)} (hC : ClS E M b w Hh n v x c) (hR : ReS E M m w Hh n x c) (hP : Pu w Hh n v x c k) (hF : Fl (M (rf E b 3) 2) (M (rf E b 3) 3) (M m 7) (M m 8)) (hok : ∀ w1, o = some w1 → wOk w1) (h1 : CRes E M b w Hh n v o M1) (h2 : RRes E M1 m n o M2) : INV E M2 b m (k + 1) := by
  rcases h1 with ⟨rfl, rfl⟩ | ⟨w1, rfl, c1, c2⟩
  · rcases h2 with ⟨-, rfl⟩ | ⟨w1, z, -⟩
    · exact ⟨w, Hh, n, v, x, c, hC, hR, ⟨hP.1, hP.2.1, hP.2.2.1, by have := hP.2.2.2; omega⟩, hF⟩
    · cases z
  · rcases h2 with ⟨z, -⟩ | ⟨w2, z, g0, g1, g2, g3, g4, g5⟩
    · cases z
    · cases z
      obtain ⟨hR1, em⟩ := hR.kf hW hm c2 (by decide)
      have et : M1 (rf E b 3) = M (rf E b 3) := c2.tt hW hb (by decide)
      refine INV.chg hW hb hm hC hP (hC.2.2.2.2.kf hW hb c2 (by decide)) (hok w1 rfl) (push_ok hR.2.2.1 hP.1 hP.2.1) c1 c2 (by decide) g0 ?_ g2 hlen_b g3 (by rw [g4 4 (by decide) (by decide)]; exact hR1.2.2.2.2.1.2.1) ?_ (fun c hc => ?_) ?_
      · rw [g1, hR1.1]
        exact push_rel hR.2.2.1 hR1.2.2.2.1
      · have e5 : M2 (rf E m 5) = M1 (rf E m 5) := g5 _ (mnr hW hm rfl).symm (mne hW hm rfl rfl (by decide)) (mne hW hm rfl rfl (by decide))
        unfold RX
        rw [g4 6 (by decide) (by decide), e5]
        exact hR1.2.2.2.2.2
      · exact g5 c (on_m (k := 0) hW hm rfl hc).1 (on_m (k := 0) hW hm rfl hc).2 (on_m (k := 1) hW hm rfl hc).2
      · rw [g4 7 (by decide) (by decide), g4 8 (by decide) (by decide), et, em]
        exact hF
end
theorem wOk.congr {w w' : Nat → Int} (h : wOk w) (e : ∀ j, j < 84 → w' j = w j) : wOk w' := by
  obtain ⟨o1, o2, o3, o4, o5, o6, o7, o8, o9, o10, o11, o12, o13⟩ := h
  have et : tot w' = tot w := tot_congr (e 0 (by decide)) o1.2 (fun j hj => e j (by omega))
  unfold wOk
  rw [et, e 0 (by decide), e 43 (by decide), e 56 (by decide), e 57 (by decide), e 62 (by decide), e 83 (by decide)]
  refine ⟨o1, fun i hi => ?_, o3, fun k hk => ?_, o5, fun i hi => ?_, o7, o8, fun j hj => ?_, o10, fun i hi => ?_, fun i hi => ?_, o13⟩
  · rw [e (1 + 3 * i) (by omega), e (2 + 3 * i) (by omega), e (3 + 3 * i) (by omega)]; exact o2 i hi
  · rw [e (25 + 2 * k) (by omega), e (26 + 2 * k) (by omega)]; exact o4 k hk
  · rw [e (44 + 2 * i) (by omega), e (45 + 2 * i) (by omega)]; exact o6 i hi
  · rw [e (58 + j) (by omega)]; exact o9 j hj
  · rw [e (63 + 2 * i) (by omega), e (64 + 2 * i) (by omega)]; exact o11 i hi
  · rw [e (63 + 2 * i) (by omega), e (65 + 2 * i) (by omega)]; exact o12 i hi
theorem CI.congr {E : fxE} {M : fxM} {b n v : Nat} {w w' : Nat → Int} {Hh : Nat → Nat → Int} (h : CI E M b w Hh n v) (hw : wOk w) (e : ∀ j, j < 84 → w' j = w j) : CI E M b w' Hh n v := by
  obtain ⟨⟨a1, a2, a3⟩, h2, h3⟩ := h
  have hB := hw.wB
  exact ⟨⟨a1.congr hB.1 hB.2.1 (fun j hj => e j (by omega)), a2.congr (fun j _ h2 => e j h2) hB.2.2, fun j hj => by rw [e (58 + j) (by omega)]; exact a3 j hj⟩, h2, h3⟩
/-- a call of both, one behind the other: the answers are one, and what holds between calls holds again -/
def Two (E : fxE) (b m k : Nat) (y1 y2 : fxY) (as : List fxV) : Prop := ∀ M, INV E M b m k → ∃ R1 : Int → fxM → Prop, CtI E y1 (.inr b :: as) M R1 ∧ ∀ r1 M1, R1 r1 M1 → ∃ R2 : Int → fxM → Prop, CtI E y2 (.inr m :: as) M1 R2 ∧ ∀ r2 M2, R2 r2 M2 → r1 = r2 ∧ INV E M2 b m (k + 1)
section
variable {E : fxE} {b m k : Nat}
theorem u_begin {w : Nat → Int} {l a s r r' : Int} {o o' : Option (Nat → Int)} (h : opBegin w l a s r o) (h' : opBegin w l a s r' o') : r = r' ∧ o = o' := by
  rcases h with ⟨a1, a2, a3⟩ | ⟨a1, a2, a3⟩ <;> rcases h' with ⟨b1, b2, b3⟩ | ⟨b1, b2, b3⟩ <;> first | exact ⟨a2.trans b2.symm, a3.trans b3.symm⟩ | exact absurd a1 b1 | exact absurd b1 a1
theorem u_add {w : Nat → Int} {l a s r r' : Int} {o o' : Option (Nat → Int)} (h : opAdd w l a s r o) (h' : opAdd w l a s r' o') : r = r' ∧ o = o' := by
  rcases h with ⟨a1, a2, a3, a4⟩ | ⟨a1, a2, a3, a4⟩ | ⟨a1, a3, a4⟩ <;> rcases h' with ⟨b1, b2, b3, b4⟩ | ⟨b1, b2, b3, b4⟩ | ⟨b1, b3, b4⟩ <;> first | exact absurd a1 b1 | exact absurd b1 a1 | exact absurd a2 b2 | exact absurd b2 a2 | exact ⟨a3.trans b3.symm, a4.trans b4.symm⟩
theorem u_joint {w : Nat → Int} {j l h0 r r' : Int} {o o' : Option (Nat → Int)} (h : opJoint w j l h0 r o) (h' : opJoint w j l h0 r' o') : r = r' ∧ o = o' := by
  rcases h with ⟨a1, a2, a3, a4⟩ | ⟨a1, a3, a4⟩ | ⟨a1, a2, a3, a4⟩ <;> rcases h' with ⟨b1, b2, b3, b4⟩ | ⟨b1, b3, b4⟩ | ⟨b1, b2, b3, b4⟩ <;> first | exact absurd a1 b1 | exact absurd b1 a1 | exact absurd a2 b2 | exact absurd b2 a2 | exact ⟨a3.trans b3.symm, a4.trans b4.symm⟩
theorem u_bendA {w : Nat → Int} {p l r r' : Int} {o o' : Option (Nat → Int)} (h : opBendA w p l r o) (h' : opBendA w p l r' o') : r = r' ∧ o = o' := by
  rcases h with ⟨a1, a2, a3, a4⟩ | ⟨a1, a2, a3, a4⟩ | ⟨a1, a3, a4⟩ <;> rcases h' with ⟨b1, b2, b3, b4⟩ | ⟨b1, b2, b3, b4⟩ | ⟨b1, b3, b4⟩ <;> first | exact absurd a1 b1 | exact absurd b1 a1 | exact absurd a2 b2 | exact absurd b2 a2 | exact ⟨a3.trans b3.symm, a4.trans b4.symm⟩
theorem u_bendR {w : Nat → Int} {j r r' : Int} {o o' : Option (Nat → Int)} (h : opBendR w j r o) (h' : opBendR w j r' o') : r = r' ∧ o = o' := by
  rcases h with ⟨a1, a2, a3⟩ | ⟨a1, a2, a3⟩ <;> rcases h' with ⟨b1, b2, b3⟩ | ⟨b1, b2, b3⟩ <;> first | exact absurd a1 b1 | exact absurd b1 a1 | exact ⟨a2.trans b2.symm, a3.trans b3.symm⟩
theorem u_break {w : Nat → Int} {p h0 r r' : Int} {o o' : Option (Nat → Int)} (h : opBreak w p h0 r o) (h' : opBreak w p h0 r' o') : r = r' ∧ o = o' := by
  rcases h with ⟨a1, a2, a3, a4⟩ | ⟨a1, a2, a3, a4⟩ | ⟨a1, a3, a4⟩ <;> rcases h' with ⟨b1, b2, b3, b4⟩ | ⟨b1, b2, b3, b4⟩ | ⟨b1, b3, b4⟩ <;> first | exact absurd a1 b1 | exact absurd b1 a1 | exact absurd a2 b2 | exact absurd b2 a2 | exact ⟨a3.trans b3.symm, a4.trans b4.symm⟩
theorem u_set {w : Nat → Int} {j x r r' : Int} {o o' : Option (Nat → Int)} (h : opSet w j x r o) (h' : opSet w j x r' o') : r = r' ∧ o = o' := by
  rcases h with ⟨a1, a2, a3, a4⟩ | ⟨a1, a3, a4⟩ | ⟨a1, a2, a3, a4⟩ <;> rcases h' with ⟨b1, b2, b3, b4⟩ | ⟨b1, b3, b4⟩ | ⟨b1, b2, b3, b4⟩ <;> first | exact absurd a1 b1 | exact absurd b1 a1 | exact absurd a2 b2 | exact absurd b2 a2 | exact ⟨a3.trans b3.symm, a4.trans b4.symm⟩
theorem u_point {w : Nat → Int} {p s r r' : Int} {o o' : Option (Nat → Int)} (h : opPoint w p s r o) (h' : opPoint w p s r' o') : r = r' ∧ o = o' := by
  rcases h with ⟨a1, a2, a3, a4, a5⟩ | ⟨a1, a2, a4, a5⟩ | ⟨a1, a2, a3, a4, a5⟩ | ⟨a1, a4, a5⟩ <;> rcases h' with ⟨b1, b2, b3, b4, b5⟩ | ⟨b1, b2, b4, b5⟩ | ⟨b1, b2, b3, b4, b5⟩ | ⟨b1, b4, b5⟩ <;> first | exact absurd a1 b1 | exact absurd b1 a1 | exact absurd a2 b2 | exact absurd b2 a2 | exact absurd a3 b3 | exact absurd b3 a3 | exact ⟨a4.trans b4.symm, a5.trans b5.symm⟩
theorem u_exc {w : Nat → Int} {j r r' : Int} {o o' : Option (Nat → Int)} (h : opExc w j r o) (h' : opExc w j r' o') : r = r' ∧ o = o' := by
  rcases h with ⟨a1, a2, a3⟩ | ⟨a1, a2, a3⟩ <;> rcases h' with ⟨b1, b2, b3⟩ | ⟨b1, b2, b3⟩ <;> first | exact absurd a1 b1 | exact absurd b1 a1 | exact ⟨a2.trans b2.symm, a3.trans b3.symm⟩
/-- a change -/
theorem two_op (hW : fx_Wt E) (hb : kd E b = 9) (hm : kd E m = 10) {y1 y2 : fxY} {as : List fxV} (op : (Nat → Int) → Int → Option (Nat → Int) → Prop) (uq : ∀ {w r o r' o'}, op w r o → op w r' o' → r = r' ∧ o = o') (ok : ∀ {w w1 r}, wOk w → op w r (some w1) → wOk w1) (cl : ∀ {M : fxM} {n v : Nat} {w : Nat → Int} {H : Nat → Nat → Int}, CI E M b w H n v → wOk w → CtI E y1 (.inr b :: as) M (fun r M' => ∃ o, op w r o ∧ CRes E M b w H n v o M')) (re : ∀ {M : fxM} {n : Nat}, M m 2 = (n : Int) → n ≤ 8 → wOk (M (rf E m 0)) → CtI E y2 (.inr m :: as) M (fun r M' => ∃ o, op (M (rf E m 0)) r o ∧ RRes E M m n o M')) : Two E b m k y1 y2 as := by
  intro M hI
  obtain ⟨w, Hh, n, v, x, c, hC, hR, hP, hF⟩ := hI
  refine ⟨_, cl hC.1 hP.1, fun r1 M1 h1 => ?_⟩
  obtain ⟨o, g1, g2⟩ := h1
  have hR1 : ReS E M1 m w Hh n x c := by
    rcases g2 with ⟨-, rfl⟩ | ⟨w1, -, -, c2⟩
    · exact hR
    · exact (hR.kf hW hm c2 (by decide)).1
  refine ⟨_, re hR1.2.1 hR1.2.2.1 (by rw [hR1.1]; exact hP.1), fun r2 M2 h2 => ?_⟩
  obtain ⟨o', g3, g4⟩ := h2
  rw [hR1.1] at g3
  obtain ⟨e1, rfl⟩ := uq g1 g3
  exact ⟨e1, INV.res hW hb hm hC hR hP hF (fun w1 ho => ok hP.1 (ho ▸ g1)) g2 g4⟩
/-- a question -/
theorem two_q (hW : fx_Wt E) (hb : kd E b = 9) (hm : kd E m = 10) {y1 y2 : fxY} {as : List fxV} (hk : k < 1000000) (f : (Nat → Int) → Int) (cl : ∀ {M : fxM} {n v : Nat} {w : Nat → Int} {H : Nat → Nat → Int}, CI E M b w H n v → wOk w → CV E M b w v → CT E M b w v → CE E M b w v → v < 1000000 → CtI E y1 (.inr b :: as) M (fun r M' => r = f w ∧ CQ E M M' b w v)) (re : ∀ {M : fxM} {w : Nat → Int}, M (rf E m 0) = w → wOk w → RC E M m → CtI E y2 (.inr m :: as) M (fun r M' => r = f w ∧ RP E M M' m)) : Two E b m k y1 y2 as := by
  intro M hI
  obtain ⟨w, Hh, n, v, x, c, hC, hR, hP, hF⟩ := hI
  refine ⟨_, cl hC.1 hP.1 hC.2.1 hC.2.2.1 hC.2.2.2.1 (by have := hP.2.2.2; omega), fun r1 M1 h1 => ?_⟩
  obtain ⟨hR1, -⟩ := hR.kf hW hm h1.2.1 (by decide)
  refine ⟨_, re hR1.1 hP.1 hR1.2.2.2.2.1, fun r2 M2 h2 => ⟨h1.1.trans h2.1.symm, INV.quest hW hb hm hC hR hP hF h1.2 h2.2⟩⟩
theorem ctI_post {y : fxY} {as : List fxV} {M : fxM} {R R' : Int → fxM → Prop} (h : CtI E y as M R) (hq : ∀ r M', R r M' → R' r M') : CtI E y as M R' := x_post h (fun _ M' ⟨v, e, g⟩ => ⟨v, e, hq v M' g⟩)
end
