/-! load: the class; what the items are. -/
theorem wapp_lo {W W' : Nat → Int} {l a s : Int} (h : ∀ j, j < 58 → W j = W' j) : ∀ j, j < 58 → wapp W l a s j = wapp W' l a s j := fun j hj => by
  simp only [wapp, h 0 (by omega), h j hj]
theorem wapps_lo : ∀ (its : List (Int × Int × Int)) {W W' : Nat → Int}, (∀ j, j < 58 → W j = W' j) → ∀ j, j < 58 → wapps W its j = wapps W' its j
  | [], _, _, h => h
  | t :: ts, _, _, h => wapps_lo ts (wapp_lo h)
theorem wapps_hi : ∀ (its : List (Int × Int × Int)) {W : Nat → Int} {k : Nat}, W 0 = (k : Int) → k + its.length ≤ 8 → wapps W its 0 = ((k + its.length : Nat) : Int) ∧ wapps W its 43 = W 43 ∧ ∀ j, 58 ≤ j → wapps W its j = W j
  | [], W, k, h, _ => ⟨by rw [wapps, h]; rfl, rfl, fun _ _ => rfl⟩
  | t :: ts, W, k, h, hk => by
    rw [List.length_cons] at hk
    obtain ⟨q0, q1, q2, q3, q4, q5, q6⟩ := wapp_at (l := t.1) (a := t.2.1) (s := t.2.2) h (by omega)
    have ih := wapps_hi ts (W := wapp W t.1 t.2.1 t.2.2) (k := k + 1) (by rw [q0]; omega) (by omega)
    refine ⟨?_, ?_, fun j hj => ?_⟩
    · rw [wapps, ih.1, List.length_cons]; omega
    · rw [wapps, ih.2.1, q6 43 (by omega) (by omega)]
    · rw [wapps, ih.2.2 j hj, q6 j (by omega) (by omega)]
theorem num_f {g : Nat → Int} {lo hi : Int} {p : Nat} {f : Int × Nat} (h : num g lo hi p = .inl f) : 1 ≤ f.1 ∧ f.1 ≤ 2 := by
  unfold num at h
  split at h
  · split at h
    · cases h
    · cases h; dsimp only; omega
  · cases h; dsimp only; omega
theorem sgn_f {g : Nat → Int} {s : Int} {p : Nat} {f : Int × Nat} (h : sgn g s p = .inl f) : f.1 = 1 := by
  unfold sgn at h
  split at h
  · cases h
  · cases h; rfl
/-- an item that is read -/
theorem item_ok {n : Nat} {c : Nat → Int} {sum l a s : Int} {p q : Nat} (h : item (cc n c) sum p = .inr (l, a, s, q)) (hp : p ≤ n) : okSec l a s ∧ sum + l ≤ 300 ∧ q ≤ n ∧ p < q := by
  unfold item at h
  cases e1 : num (cc n c) 1 100 p with
  | inl f => rw [e1] at h; cases h
  | inr x =>
    obtain ⟨l', q1⟩ := x
    rw [e1] at h
    dsimp only at h
    obtain ⟨b1, b2, b3⟩ := num_b e1 hp
    by_cases hs : 300 < sum + l'
    · rw [if_pos hs] at h; cases h
    rw [if_neg hs] at h
    cases e2 : sgn (cc n c) 120 q1 with
    | inl f => rw [e2] at h; cases h
    | inr q2 =>
      rw [e2] at h
      dsimp only at h
      obtain ⟨c1, c2⟩ := sgn_b e2 (by decide)
      cases e3 : num (cc n c) 1 60 q2 with
      | inl f => rw [e3] at h; cases h
      | inr x =>
        obtain ⟨a', q3⟩ := x
        rw [e3] at h
        dsimp only at h
        obtain ⟨d1, d2, d3⟩ := num_b e3 (by omega)
        cases e4 : sgn (cc n c) 98 q3 with
        | inl f => rw [e4] at h; cases h
        | inr q4 =>
          rw [e4] at h
          dsimp only at h
          obtain ⟨f1, f2⟩ := sgn_b e4 (by decide)
          cases e5 : num (cc n c) 0 2000 q4 with
          | inl f => rw [e5] at h; cases h
          | inr x =>
            obtain ⟨s', q5⟩ := x
            rw [e5] at h
            dsimp only at h
            obtain ⟨g1, g2, g3⟩ := num_b e5 (by omega)
            cases e6 : sgn (cc n c) 59 q5 with
            | inl f => rw [e6] at h; cases h
            | inr q6 =>
              rw [e6] at h
              obtain ⟨i1, i2⟩ := sgn_b e6 (by decide)
              cases h
              exact ⟨⟨b1, d1, g1⟩, by omega, by omega, by omega⟩
theorem item_f {g : Nat → Int} {sum : Int} {p : Nat} {f : Int × Nat} (h : item g sum p = .inl f) : 1 ≤ f.1 ∧ f.1 ≤ 3 := by
  unfold item at h
  cases e1 : num g 1 100 p with
  | inl f' => rw [e1] at h; cases h; have := num_f e1; omega
  | inr x =>
    obtain ⟨l', q1⟩ := x
    rw [e1] at h
    dsimp only at h
    by_cases hs : 300 < sum + l'
    · rw [if_pos hs] at h; cases h; dsimp only; omega
    rw [if_neg hs] at h
    cases e2 : sgn g 120 q1 with
    | inl f' => rw [e2] at h; cases h; have := sgn_f e2; omega
    | inr q2 =>
      rw [e2] at h
      dsimp only at h
      cases e3 : num g 1 60 q2 with
      | inl f' => rw [e3] at h; cases h; have := num_f e3; omega
      | inr x =>
        obtain ⟨a', q3⟩ := x
        rw [e3] at h
        dsimp only at h
        cases e4 : sgn g 98 q3 with
        | inl f' => rw [e4] at h; cases h; have := sgn_f e4; omega
        | inr q4 =>
          rw [e4] at h
          dsimp only at h
          cases e5 : num g 0 2000 q4 with
          | inl f' => rw [e5] at h; cases h; have := num_f e5; omega
          | inr x =>
            obtain ⟨s', q5⟩ := x
            rw [e5] at h
            dsimp only at h
            cases e6 : sgn g 59 q5 with
            | inl f' => rw [e6] at h; cases h; have := sgn_f e6; omega
            | inr q6 => rw [e6] at h; cases h
theorem ldF_f {g : Nat → Int} {n : Nat} : ∀ (r p : Nat) (sum : Int) (f : Int × Nat), ldF g n r p sum = .inl f → 1 ≤ f.1 ∧ f.1 ≤ 4
  | 0, p, sum, f, h => by
    rw [ldF] at h
    cases h
    dsimp only
    split <;> omega
  | r + 1, p, sum, f, h => by
    rw [ldF] at h
    cases e : item g sum p with
    | inl f' => rw [e] at h; cases h; have := item_f e; omega
    | inr x =>
      obtain ⟨l, a, s, q⟩ := x
      rw [e] at h
      dsimp only at h
      by_cases hq : q < n
      · rw [if_pos hq] at h
        cases e2 : ldF g n r q (sum + l) with
        | inl f' => rw [e2] at h; cases h; exact ldF_f r q _ _ e2
        | inr t => rw [e2] at h; cases h
      · rw [if_neg hq] at h; cases h
theorem ldF_len {g : Nat → Int} {n : Nat} : ∀ (r p : Nat) (sum : Int) (its : List (Int × Int × Int)), ldF g n r p sum = .inr its → 1 ≤ its.length ∧ its.length ≤ r
  | 0, p, sum, its, h => by rw [ldF] at h; cases h
  | r + 1, p, sum, its, h => by
    rw [ldF] at h
    cases e : item g sum p with
    | inl f' => rw [e] at h; cases h
    | inr x =>
      obtain ⟨l, a, s, q⟩ := x
      rw [e] at h
      dsimp only at h
      by_cases hq : q < n
      · rw [if_pos hq] at h
        cases e2 : ldF g n r q (sum + l) with
        | inl f' => rw [e2] at h; cases h
        | inr t =>
          rw [e2] at h
          cases h
          have := ldF_len r q _ _ e2
          rw [List.length_cons]
          omega
      · rw [if_neg hq] at h
        cases h
        simp
theorem tot_app' {W : Nat → Int} {l a s : Int} (h : 0 ≤ W 0 ∧ W 0 < 8) : tot (wapp W l a s) = tot W + l := by
  obtain ⟨k, hk⟩ : ∃ k : Nat, W 0 = (k : Int) := ⟨(W 0).toNat, by omega⟩
  rw [tot_app hk (by omega)]
  unfold tot
  rw [hk, Int.toNat_natCast]
theorem ok_items {n : Nat} {c : Nat → Int} : ∀ (r p : Nat) (sum : Int) (its : List (Int × Int × Int)) (W : Nat → Int), wOk W → W 0 + r ≤ 8 → tot W = sum → ldF (cc n c) n r p sum = .inr its → p ≤ n → wOk (wapps W its)
  | 0, p, sum, its, W, _, _, _, h, _ => by rw [ldF] at h; cases h
  | r + 1, p, sum, its, W, hw, hr, ht, h, hp => by
    rw [ldF] at h
    cases e : item (cc n c) sum p with
    | inl f' => rw [e] at h; cases h
    | inr x =>
      obtain ⟨l, a, s, q⟩ := x
      rw [e] at h
      dsimp only at h
      obtain ⟨i1, i2, i3, i4⟩ := item_ok e hp
      have h0 := hw.1
      have ok1 : wOk (wapp W l a s) := ok_add (r := W 0) hw (Or.inl ⟨i1, ⟨by omega, by omega⟩, rfl, rfl⟩)
      have t1 : tot (wapp W l a s) = sum + l := by rw [tot_app' (by omega), ht]
      by_cases hq : q < n
      · rw [if_pos hq] at h
        cases e2 : ldF (cc n c) n r q (sum + l) with
        | inl f' => rw [e2] at h; cases h
        | inr t =>
          rw [e2] at h
          cases h
          have hk : W 0 = (((W 0).toNat : Nat) : Int) := by omega
          exact ok_items r q (sum + l) t _ ok1 (by rw [(wapp_at (l := l) (a := a) (s := s) hk (by omega)).1]; omega) t1 e2 i3
      · rw [if_neg hq] at h
        cases h
        exact ok1
def wz (w : Nat → Int) : Nat → Int := fun j => if j < 58 then 0 else w j
def opLoad (w : Nat → Int) (n : Nat) (c : Nat → Int) (r : Int) (o : Option (Nat → Int)) (f : Option (Int × Nat)) : Prop := (∃ g, ldF (cc n c) n 8 0 0 = .inl g ∧ r = -1000004 ∧ o = none ∧ f = some g) ∨ ∃ its, ldF (cc n c) n 8 0 0 = .inr its ∧ r = ((its.length : Nat) : Int) ∧ o = some (wapps (wz w) its) ∧ f = none
theorem ok_load {w w1 c : Nat → Int} {n : Nat} {r : Int} {f : Option (Int × Nat)} (hw : wOk w) (h : opLoad w n c r (some w1) f) : wOk w1 := by
  rcases h with ⟨g, -, -, h, -⟩ | ⟨its, h, -, e, -⟩
  · cases h
  cases e
  rw [ldF] at h
  cases e : item (cc n c) 0 0 with
  | inl f' => rw [e] at h; cases h
  | inr x =>
    obtain ⟨l, a, s, q⟩ := x
    rw [e] at h
    dsimp only at h
    obtain ⟨i1, i2, i3, i4⟩ := item_ok e (Nat.zero_le n)
    have ok1 : wOk (wapp (wz w) l a s) := ok_begin (r := tot w) hw (Or.inl ⟨i1, rfl, rfl⟩)
    have z0 : wz w 0 = ((0 : Nat) : Int) := rfl
    have t1 : tot (wapp (wz w) l a s) = 0 + l := by
      rw [tot_app z0 (by omega)]
      rfl
    by_cases hq : q < n
    · rw [if_pos hq] at h
      cases e2 : ldF (cc n c) n 7 q (0 + l) with
      | inl f' => rw [e2] at h; cases h
      | inr t =>
        rw [e2] at h
        cases h
        exact ok_items 7 q (0 + l) t _ ok1 (by rw [(wapp_at (l := l) (a := a) (s := s) z0 (by omega)).1]; decide) t1 e2 i3
    · rw [if_neg hq] at h
      cases h
      exact ok1
section
variable {E : fxE} {M : fxM}
theorem SR.same {M' : fxM} (hW : fx_Wt E) {s : Nat} {w : Nat → Int} (hs : kd E s = 5) (h : SR E M s w) (hF : ∀ c, reg E c = s → M' c = M c) : SR E M' s w := by
  have k0 := wk_5_0 hW hs
  have k1 := wk_5_1 hW hs
  refine ⟨h.1.sa hW k0 (fun c hc => hF c ?_), h.2.1.sa hW k1 (fun c hc => hF c ?_), ?_⟩
  · rw [reg_own (by omega) hc, reg_fib hW hs]
  · rw [reg_own (by omega) hc, reg_map hW hs]
  · rw [hF _ (reg_set hW hs)]; exact h.2.2
theorem CI.same {M' : fxM} (hW : fx_Wt E) {b n v : Nat} {w : Nat → Int} {H : Nat → Nat → Int} (hb : kd E b = 9) (hC : CI E M b w H n v) (hF : ∀ c, kd E (reg E c) = 3 ∨ kd E (reg E c) = 5 ∨ kd E (reg E c) = 9 → M' c = M c) : CI E M' b w H n v := by
  obtain ⟨c1, c2, c3⟩ := hC
  have hh := wk_9_1 hW hb
  have hs := wk_9_0 hW hb
  refine ⟨c1.same hW hs (fun c hc => hF c (by rw [hc, hs]; decide)), ?_, ?_⟩
  · obtain ⟨q1, q2, o, q3, q4, q5⟩ := c2
    have kh : M' (rf E b 1) = M (rf E b 1) := hF _ (by rw [reg_top hh rfl, hh]; decide)
    refine ⟨by rw [kh]; exact q1, q2, o, q3, by rw [kh]; exact q4, fun i hi => ?_⟩
    have hi8 : (o + i) % 8 < 8 := Nat.mod_lt _ (by decide)
    have hk := st_kd hW hh hi8
    exact (q5 i hi).same hW hk (fun c hc => hF c (by rw [hc, hk]; decide))
  · rw [hF b (by rw [reg_top hb rfl, hb]; decide)]; exact c3
theorem CI.kf {M' : fxM} (hW : fx_Wt E) {b n v : Nat} {w : Nat → Int} {H : Nat → Nat → Int} {ks : List Nat} (hb : kd E b = 9) (hC : CI E M b w H n v) (hK : KF E M M' ks) (hk : 3 ∉ ks ∧ 5 ∉ ks ∧ 9 ∉ ks) : CI E M' b w H n v :=
  hC.same hW hb (fun c hc => hK c (by rcases hc with h | h | h <;> rw [h] <;> simp [hk]))
theorem Td.kf {M' : fxM} (hW : fx_Wt E) {b : Nat} (hb : kd E b = 9) (h : Td E M M' (rf E b 3) (rf E b 2)) : KF E M M' [2, 6] := fun c hc => by
  have ht := wk_9_3 hW hb
  have hd := wk_9_2 hW hb
  refine h.1 c (fun e => hc ?_) (fun e => hc ?_)
  · rw [reg_own (by omega) e, reg_draft hW hb, hd]; decide
  · rw [e, reg_top ht rfl, ht]; decide
theorem TX.kf {M' : fxM} (hW : fx_Wt E) {b n : Nat} {c : Nat → Int} {ks : List Nat} (hb : kd E b = 9) (h : TX E M (rf E b 3) n c) (hK : KF E M M' ks) (hk : 6 ∉ ks) : TX E M' (rf E b 3) n c := by
  have ht := wk_9_3 hW hb
  unfold TX at h ⊢
  rw [hK (rf E b 3) (by rw [reg_top ht rfl, ht]; exact hk), hK (rf E (rf E b 3) 0) (by rw [reg_own (by omega) (ot_0 hW ht), reg_top ht rfl, ht]; exact hk)]
  exact h
theorem cl_load (hW : fx_Wt E) {b n v x : Nat} {w c : Nat → Int} {H : Nat → Nat → Int} (hb : kd E b = 9) (hC : CI E M b w H n v) (hw : wOk w) (hT : TX E M (rf E b 3) x c) (hc : ∀ i, i < x → 32 ≤ c i ∧ c i ≤ 126) : CtI E m_X9_load [.inr b] M (fun r M' => ∃ o f, opLoad w x c r o f ∧ (o = none → CI E M' b w H n v) ∧ (∀ w1, o = some w1 → CI E M' b w1 (hpush H n w) (hlen n) (v + 1)) ∧ KF E M M' [2, 3, 5, 6, 9] ∧ TX E M' (rf E b 3) x c ∧ (f = none → M' (rf E b 3) 2 = M (rf E b 3) 2 ∧ M' (rf E b 3) 3 = M (rf E b 3) 3) ∧ ∀ g, f = some g → M' (rf E b 3) 2 = g.1 ∧ M' (rf E b 3) 3 = (g.2 : Int)) := by
  have ht := wk_9_3 hW hb
  have hd := wk_9_2 hW hb
  obtain ⟨hs, hf, -⟩ := wne hW hb
  refine x_ct (by decide) (Nat.le_of_ble_eq_true rfl) (b_X9_load_0 hW b M _ hb ⟨_, ct_readInto hW ht hd hc hT, fun v1 M1 h1 => ?_⟩)
  rcases h1 with ⟨f, e1, rfl, td, hf⟩ | ⟨its, e1, rfl, td, h2, h3, hF⟩
  · refine ⟨by decide, fun z => absurd rfl z, fun _ => ⟨_, rfl, none, some f, Or.inl ⟨f, e1, rfl, rfl, rfl⟩, fun _ => hC.kf hW hb (td.kf hW hb) (by decide), fun w1 z => absurd z (by simp), (td.kf hW hb).mono (by decide), td.tx hW ht hd hT, fun z => absurd z (by simp), fun g hg => ?_⟩⟩
    cases hg
    exact hf
  · have hC1 := hC.kf hW hb (td.kf hW hb) (by decide)
    have hl := ldF_len _ _ _ _ e1
    refine ⟨by decide, fun _ => ⟨_, ct_X9_recordChange hW hb hC1 hw.wB, fun M3 h3' => ⟨_, ct_X2_copyFrom hW hf hd (fun e => ?_), fun M4 h4 => ?_⟩⟩, fun z => absurd z (by decide)⟩
    · have := (wd hW (rs_o hb (by decide) rfl) (rs_o hs (by decide) rfl) e).1
      exact kd_ne hb hs (by decide) this
    · have hz : wz w 0 = ((0 : Nat) : Int) := rfl
      have hz' : (fun _ : Nat => (0 : Int)) 0 = ((0 : Nat) : Int) := rfl
      obtain ⟨a0, a43, ahi⟩ := wapps_hi its hz (by omega)
      obtain ⟨b0, b43, -⟩ := wapps_hi its (W := fun _ => 0) (k := 0) rfl (by omega)
      have hF3 : FR E M3 (rf E b 2) (wapps (fun _ => 0) its) := hF.sa hW hd (fun c' hc' => h3'.2.1 c' (by rw [reg_own (by omega) hc', reg_draft hW hb, hd]; decide))
      have hF4 : FR E M4 (rf E (rf E b 0) 0) (wapps (wz w) its) := (h4.2 _ (by rw [b0]; omega) (by rw [b43]; decide) hF3).congr (by rw [b0]; omega) (by rw [b43]; decide) (fun j hj => wapps_lo its (fun i hi => by simp only [wz, if_pos hi]) j hj)
      have hfin := fin_fib hW hb h3'.1 h3'.2.1 h4.1 hF4 (fun j hj => by rw [ahi j hj]; simp only [wz]; rw [if_neg (by omega)])
      have hK : KF E M M4 [2, 3, 5, 6, 9] := ((td.kf hW hb).mono (by decide)).trans (hfin.2.mono (by decide))
      have kt : M4 (rf E b 3) = M1 (rf E b 3) := hfin.2 _ (by rw [reg_top ht rfl, ht]; decide)
      refine ⟨_, rfl, _, none, Or.inr ⟨its, e1, ?_, rfl, rfl⟩, fun z => absurd z (by simp), fun w1 z => ?_, hK, (td.tx hW ht hd hT).kf hW hb hfin.2 (by decide), fun _ => by rw [kt]; exact ⟨h2, h3⟩, fun g z => absurd z (by simp)⟩
      · rw [hF4.1, a0]; omega
      · cases z
        exact hfin.1
end
