/-! The class's load. -/
theorem mset_mset {M : fxM} {a k : Nat} {u v : Int} : mset (mset M a k u) a k v = mset M a k v := by
  funext c j
  by_cases h : c = a ∧ j = k <;> simp [mset, h]
theorem cc_z (n : Nat) (c : Nat → Int) : ∀ i, n ≤ i → cc n c i = 0 := fun i hi => by unfold cc; rw [if_neg (by omega)]
theorem num_b {n : Nat} {c : Nat → Int} {lo hi v : Int} {p q : Nat} (h : num (cc n c) lo hi p = .inr (v, q)) (hp : p ≤ n) : (lo ≤ v ∧ v ≤ hi) ∧ p ≤ q ∧ q ≤ n := by
  unfold num at h
  by_cases hd : 48 ≤ cc n c p ∧ cc n c p ≤ 57
  · rw [if_pos hd] at h
    by_cases hb : lo ≤ (rn (cc n c) 4 p 0).1 ∧ (rn (cc n c) 4 p 0).1 ≤ hi
    · rw [if_pos hb] at h
      have e := Sum.inr.inj h
      have hr := rn_b (cc n c) n (cc_z n c) 4 p 0 hp (by omega)
      rw [e] at hb hr
      exact ⟨hb, hr.1, hr.2.1⟩
    · rw [if_neg hb] at h; cases h
  · rw [if_neg hd] at h; cases h
theorem sgn_b {n : Nat} {c : Nat → Int} {s : Int} {p q : Nat} (h : sgn (cc n c) s p = .inr q) (hs : s ≠ 0) : q = p + 1 ∧ p < n := by
  unfold sgn at h
  by_cases he : cc n c p = s
  · rw [if_pos he] at h
    refine ⟨(Sum.inr.inj h).symm, ?_⟩
    rcases Nat.lt_or_ge p n with z | z
    · exact z
    · exact absurd ((cc_z n c p z).symm.trans he).symm hs
  · rw [if_neg he] at h; cases h
section
variable {E : fxE} {M : fxM}
theorem TF.pre {M' : fxM} {t : Nat} {f : Int × Nat} {q : Int} (h : TF (mset M t 4 q) M' t f) : TF M M' t f := ⟨Tm_next.trans h.1, h.2⟩
theorem TO.pre {M' : fxM} {t q' : Nat} {q : Int} (h : TO (mset M t 4 q) M' t q') : TO M M' t q' := by
  unfold TO at h ⊢
  rw [h, mset_mset]
theorem FR.at {t d : Nat} {W : Nat → Int} {q : Int} (hW : fx_Wt E) (ht : kd E t = 6) (hd : kd E d = 2) (h : FR E M d W) : FR E (mset M t 4 q) d W := h.sa hW hd (fun c hc => mset_o (fun e => by
  rw [e, own_o ht (by decide)] at hc
  exact kd_ne ht hd (by decide) hc))
theorem ct_readItem6 (hW : fx_Wt E) {t d n p k : Nat} {c W : Nat → Int} {sum : Int} (ht : kd E t = 6) (hd : kd E d = 2) (h : TX E M t n c) (hc : ∀ i, i < n → 32 ≤ c i ∧ c i ≤ 126) (hp : M t 4 = (p : Int)) (hpn : p ≤ n) (hF : FR E M d W) (hk : W 0 = (k : Int)) (hk8 : k < 8) (h43 : W 43 = 0) (hs : tot W = sum) (hs3 : 0 ≤ sum ∧ sum ≤ 300) : CtI E m_X6_readItem [.inr t, .inr d] M (fun r M' => (∃ f, item (cc n c) sum p = .inl f ∧ r = 0 ∧ TF M M' t f) ∨ ∃ l a s q, item (cc n c) sum p = .inr (l, a, s, q) ∧ r = 1 ∧ okSec l a s ∧ sum + l ≤ 300 ∧ q ≤ n ∧ FR E M' d (wapp W l a s) ∧ Fo E (mset M t 4 (q : Int)) M' d) := by
  have n120 := h.2.1
  have tx : ∀ q : Int, TX E (mset M t 4 q) t n c := fun q => Tm_next.tx hW ht h
  have ntd : t ≠ d := kd_ne ht hd (by decide)
  refine x_ct (by decide) (Nat.le_of_ble_eq_true rfl) (b_X6_readItem_0 hW t d M _ ht hd ⟨_, ct_readNumber6 hW ht h hc hp hpn ⟨by decide, by decide⟩ ⟨by decide, by decide⟩ (by decide), fun v1 M1 h1 => ?_⟩)
  rcases h1 with ⟨f, e1, rfl, hf⟩ | ⟨l, q1, e1, rfl, hq1⟩
  · exact ⟨by decide, fun z => absurd rfl z, fun _ => ⟨_, rfl, Or.inl ⟨f, by simp only [item, e1], rfl, hf⟩⟩⟩
  obtain ⟨hl, hq1a, hq1n⟩ := num_b e1 hpn
  have hq1' : M1 = mset M t 4 (q1 : Int) := hq1
  subst hq1'
  have hF1 := hF.at (q := (q1 : Int)) hW ht hd
  have e3 : mset M t 4 (q1 : Int) d 3 = (k : Int) := by rw [hF1.1, hk]
  have et := hF1.tot (by omega)
  rw [et, hs]
  refine ⟨by omega, fun _ => ⟨by omega, by omega, fun hle => ⟨_, ct_readSign6 hW ht (tx _) hc mset_s (by omega) ⟨by decide, by decide⟩, fun v5 M5 h5 => ?_⟩, fun hgt => ⟨_, ct_blame hW ht, fun M16 h16 => ⟨_, rfl, Or.inl ⟨(3, p), by simp only [item, e1]; rw [if_pos (by omega)], rfl, ?_⟩⟩⟩⟩, fun z => absurd z (by omega)⟩
  · have i1 : item (cc n c) sum p = (match sgn (cc n c) 120 q1 with
      | .inl f => .inl f
      | .inr q2 => match num (cc n c) 1 60 q2 with
        | .inl f => .inl f
        | .inr (a, q3) => match sgn (cc n c) 98 q3 with
          | .inl f => .inl f
          | .inr q4 => match num (cc n c) 0 2000 q4 with
            | .inl f => .inl f
            | .inr (s, q5) => match sgn (cc n c) 59 q5 with
              | .inl f => .inl f
              | .inr q6 => .inr (v1, a, s, q6)) := by simp only [item, e1]; rw [if_neg (by omega)]; rfl
    rcases h5 with ⟨f, e5, rfl, hf⟩ | ⟨q2, e5, rfl, hq2⟩
    · exact ⟨by decide, fun z => absurd rfl z, fun _ => ⟨_, rfl, Or.inl ⟨f, by rw [i1]; simp only [e5], rfl, hf.pre⟩⟩⟩
    obtain ⟨hq2a, hq2n⟩ := sgn_b e5 (by decide)
    have hq2' : M5 = mset M t 4 (q2 : Int) := hq2.pre
    subst hq2'
    refine ⟨by decide, fun _ => ⟨_, ct_readNumber6 hW ht (tx _) hc mset_s (by omega) ⟨by decide, by decide⟩ ⟨by decide, by decide⟩ (by decide), fun v7 M7 h7 => ?_⟩, fun z => absurd z (by decide)⟩
    rcases h7 with ⟨f, e7, rfl, hf⟩ | ⟨a, q3, e7, rfl, hq3⟩
    · exact ⟨by decide, fun _ => ⟨_, rfl, Or.inl ⟨f, by rw [i1]; simp only [e5, e7], rfl, hf.pre⟩⟩, fun z => absurd rfl z⟩
    obtain ⟨ha, hq3a, hq3n⟩ := num_b e7 (by omega)
    have hq3' : M7 = mset M t 4 (q3 : Int) := hq3.pre
    subst hq3'
    refine ⟨by omega, fun z => absurd z (by omega), fun _ => ⟨_, ct_readSign6 hW ht (tx _) hc mset_s (by omega) ⟨by decide, by decide⟩, fun v9 M9 h9 => ?_⟩⟩
    rcases h9 with ⟨f, e9, rfl, hf⟩ | ⟨q4, e9, rfl, hq4⟩
    · exact ⟨by decide, fun z => absurd rfl z, fun _ => ⟨_, rfl, Or.inl ⟨f, by rw [i1]; simp only [e5, e7, e9], rfl, hf.pre⟩⟩⟩
    obtain ⟨hq4a, hq4n⟩ := sgn_b e9 (by decide)
    have hq4' : M9 = mset M t 4 (q4 : Int) := hq4.pre
    subst hq4'
    refine ⟨by decide, fun _ => ⟨_, ct_readNumber6 hW ht (tx _) hc mset_s (by omega) ⟨by decide, by decide⟩ ⟨by decide, by decide⟩ (by decide), fun v11 M11 h11 => ?_⟩, fun z => absurd z (by decide)⟩
    rcases h11 with ⟨f, e11, rfl, hf⟩ | ⟨s, q5, e11, rfl, hq5⟩
    · exact ⟨by decide, fun _ => ⟨_, rfl, Or.inl ⟨f, by rw [i1]; simp only [e5, e7, e9, e11], rfl, hf.pre⟩⟩, fun z => absurd rfl z⟩
    obtain ⟨hsc, hq5a, hq5n⟩ := num_b e11 (by omega)
    have hq5' : M11 = mset M t 4 (q5 : Int) := hq5.pre
    subst hq5'
    refine ⟨by omega, fun z => absurd z (by omega), fun _ => ⟨_, ct_readSign6 hW ht (tx _) hc mset_s (by omega) ⟨by decide, by decide⟩, fun v13 M13 h13 => ?_⟩⟩
    rcases h13 with ⟨f, e13, rfl, hf⟩ | ⟨q6, e13, rfl, hq6⟩
    · exact ⟨by decide, fun z => absurd rfl z, fun _ => ⟨_, rfl, Or.inl ⟨f, by rw [i1]; simp only [e5, e7, e9, e11, e13], rfl, hf.pre⟩⟩⟩
    obtain ⟨hq6a, hq6n⟩ := sgn_b e13 (by decide)
    have hq6' : M13 = mset M t 4 (q6 : Int) := hq6.pre
    subst hq6'
    refine ⟨by decide, fun _ => ⟨_, ct_X2_append hW hd (hF.at hW ht hd) (by omega) (by omega), fun M15 h15 => ⟨_, rfl, Or.inr ⟨v1, v7, v11, q6, by rw [i1]; simp only [e5, e7, e9, e11, e13], rfl, ⟨hl, ha, hsc⟩, hle, by omega, h15.1, h15.2⟩⟩⟩, fun z => absurd z (by decide)⟩
  · rw [h16]
    exact ⟨Tm_next.trans Tm_blame, by rw [mset_n (by decide), mset_s], by rw [mset_s, hp]⟩
/-- only the reader's own numbers and what d owns have changed -/
def Td (E : fxE) (M M' : fxM) (t d : Nat) : Prop := (∀ c, own E c ≠ d → c ≠ t → M' c = M c) ∧ ∀ k, k ≠ 2 → k ≠ 3 → k ≠ 4 → M' t k = M t k
theorem Td.trans {M' M'' : fxM} {t d : Nat} (h : Td E M M' t d) (h' : Td E M' M'' t d) : Td E M M'' t d := ⟨fun c a b => (h'.1 c a b).trans (h.1 c a b), fun k a b e => (h'.2 k a b e).trans (h.2 k a b e)⟩
theorem Tm.td {M' : fxM} {t d : Nat} (h : Tm M M' t) : Td E M M' t d := ⟨fun c _ b => h.1 c b, h.2⟩
theorem Td.tx (hW : fx_Wt E) {M' : fxM} {t d n : Nat} {c : Nat → Int} (ht : kd E t = 6) (hd : kd E d = 2) (h : TX E M t n c) (hT : Td E M M' t d) : TX E M' t n c := by
  unfold TX at h ⊢
  rw [hT.2 1 (by decide) (by decide) (by decide), hT.1 _ (by rw [ot_0 hW ht]; exact kd_ne ht hd (by decide)) (kd_ne (wk_6_0 hW ht) ht (by decide))]
  exact h
theorem at_readInto (hW : fx_Wt E) {t d n : Nat} {c : Nat → Int} (ht : kd E t = 6) (hd : kd E d = 2) (hc : ∀ i, i < n → 32 ≤ c i ∧ c i ≤ 126) : ∀ (r p k : Nat) (W : Nat → Int) (sum : Int) (M : fxM), TX E M t n c → M t 4 = (p : Int) → p ≤ n → FR E M d W → W 0 = (k : Int) → k + r = 8 → W 43 = 0 → tot W = sum → (0 ≤ sum ∧ sum ≤ 300) →
    fx_At E m_X6_readInto 11 [some (.inr t), some (.inr d), some (.inl (k : Int))] [] M (fun x M' => ∃ y : Int, x = some (.inl y) ∧ ((∃ f, ldF (cc n c) n r p sum = .inl f ∧ y = 0 ∧ Td E M M' t d ∧ M' t 2 = f.1 ∧ M' t 3 = (f.2 : Int)) ∨ ∃ its, ldF (cc n c) n r p sum = .inr its ∧ y = 1 ∧ Td E M M' t d ∧ M' t 2 = M t 2 ∧ M' t 3 = M t 3 ∧ FR E M' d (wapps W its))) := by
  have ntd : t ≠ d := kd_ne ht hd (by decide)
  intro r
  induction r with
  | zero =>
    intro p k W sum M hT hp hpn hF hk hk8 h43 hs hs3
    have n120 := hT.2.1
    refine b_X6_readInto_11 hW t d k M _ ht hd ⟨by omega, fun _ => ?_, fun z => absurd (by omega) z⟩
    rw [hp]
    refine ⟨_, ct_isDigit6 hW ht hT hc (by omega), fun v2 M2 h2 => ?_⟩
    obtain ⟨rfl, rfl⟩ := h2
    rw [hp]
    by_cases hdg : 48 ≤ cc n c p ∧ cc n c p ≤ 57
    · rw [if_pos hdg]
      refine ⟨by decide, fun z => absurd z (by decide), fun _ => ⟨_, ct_blame hW ht, fun M5 h5 => ⟨_, rfl, Or.inl ⟨(4, p), by rw [ldF, if_pos hdg], rfl, ?_⟩⟩⟩⟩
      rw [h5]
      exact ⟨Tm_blame.td, by rw [mset_n (by decide), mset_s], by rw [mset_s]⟩
    · rw [if_neg hdg]
      refine ⟨by decide, fun _ => ⟨_, ct_blame hW ht, fun M5 h5 => ⟨_, rfl, Or.inl ⟨(1, p), by rw [ldF, if_neg hdg], rfl, ?_⟩⟩⟩, fun z => absurd rfl z⟩
      rw [h5]
      exact ⟨Tm_blame.td, by rw [mset_n (by decide), mset_s], by rw [mset_s]⟩
  | succ r ih =>
    intro p k W sum M hT hp hpn hF hk hk8 h43 hs hs3
    have n120 := hT.2.1
    refine b_X6_readInto_11 hW t d k M _ ht hd ⟨by omega, fun z => absurd z (by omega), fun _ => ⟨_, ct_readItem6 hW ht hd hT hc hp hpn hF hk (by omega) h43 hs hs3, fun v6 M6 h6 => ?_⟩⟩
    rcases h6 with ⟨f, e6, rfl, hf⟩ | ⟨l, a, s, q, e6, rfl, hok, hle, hqn, hF6, hFo⟩
    · exact ⟨by decide, fun z => absurd rfl z, fun _ => ⟨_, rfl, Or.inl ⟨f, by rw [ldF, e6], rfl, hf.1.td, hf.2⟩⟩⟩
    · have wa := wapp_at (l := l) (a := a) (s := s) hk (by omega)
      have ta : tot (wapp W l a s) = sum + l := by
        rw [tot_app hk (by omega), ← hs]
        unfold tot
        rw [hk, Int.toNat_natCast]
      have m4 : M6 t = mset M t 4 (q : Int) t := hFo t (by rw [own_o ht (by decide)]; exact ntd)
      have td : Td E M M6 t d := ⟨fun x y z => by rw [hFo x y, mset_o z], fun j a1 b1 d1 => by rw [m4, mset_n d1]⟩
      have k4 : M6 t 4 = (q : Int) := by rw [m4, mset_s]
      have k1 : M6 t 1 = (n : Int) := by rw [td.2 1 (by decide) (by decide) (by decide)]; exact hT.1
      have k2 : M6 t 2 = M t 2 := by rw [m4, mset_n (by decide)]
      have k3 : M6 t 3 = M t 3 := by rw [m4, mset_n (by decide)]
      refine ⟨by decide, fun _ => ⟨by omega, by omega, fun hlt => ?_, fun hge => ⟨_, rfl, Or.inr ⟨[(l, a, s)], by rw [ldF, e6]; simp only; rw [if_neg (by omega)], rfl, td, k2, k3, hF6⟩⟩⟩, fun z => absurd z (by decide)⟩
      have hl := hok.1
      have h' := ih q (k + 1) (wapp W l a s) (sum + l) M6 (td.tx hW ht hd hT) k4 hqn hF6 (by rw [wa.1]; omega) (by omega) (by rw [wa.2.2.2.2.2.2 43 (by omega) (by omega)]; exact h43) ta (by omega)
      refine x_mono h' (fun x M' hx => ?_)
      obtain ⟨y, rfl, hy⟩ := hx
      have hld : ldF (cc n c) n (r + 1) p sum = (match ldF (cc n c) n r q (sum + l) with | .inl f => .inl f | .inr t => .inr ((l, a, s) :: t)) := by
        rw [ldF, e6]
        simp only
        rw [if_pos (by omega)]
        rfl
      rcases hy with ⟨f, g1, rfl, g2, g3⟩ | ⟨its, g1, rfl, g2, g3, g4, g5⟩
      · exact ⟨_, rfl, Or.inl ⟨f, by rw [hld, g1], rfl, td.trans g2, g3⟩⟩
      · exact ⟨_, rfl, Or.inr ⟨(l, a, s) :: its, by rw [hld, g1], rfl, td.trans g2, by rw [g3, k2], by rw [g4, k3], g5⟩⟩
theorem ct_readInto (hW : fx_Wt E) {t d n : Nat} {c : Nat → Int} (ht : kd E t = 6) (hd : kd E d = 2) (hc : ∀ i, i < n → 32 ≤ c i ∧ c i ≤ 126) (hT : TX E M t n c) : CtI E m_X6_readInto [.inr t, .inr d] M (fun y M' => (∃ f, ldF (cc n c) n 8 0 0 = .inl f ∧ y = 0 ∧ Td E M M' t d ∧ M' t 2 = f.1 ∧ M' t 3 = (f.2 : Int)) ∨ ∃ its, ldF (cc n c) n 8 0 0 = .inr its ∧ y = 1 ∧ Td E M M' t d ∧ M' t 2 = M t 2 ∧ M' t 3 = M t 3 ∧ FR E M' d (wapps (fun _ => 0) its)) := by
  have ntd : t ≠ d := kd_ne ht hd (by decide)
  refine x_ct (by decide) (Nat.le_of_ble_eq_true rfl) (b_X6_readInto_0 hW t d M _ ht hd ⟨_, ct_X2_clear hW hd, fun M1 h1 M2 h2 => ?_⟩)
  have kt : M1 t = M t := h1.2 t (by rw [own_o ht (by decide)]; exact ntd)
  have td : Td E M M2 t d := ⟨fun x y z => by rw [h2, mset_o z, h1.2 x y], fun j a b e => by rw [h2, mset_n e, kt]⟩
  have hF2 : FR E M2 d (fun _ => 0) := by rw [h2]; exact h1.1.at hW ht hd
  have h := at_readInto hW ht hd hc 8 0 0 (fun _ => 0) 0 M2 (td.tx hW ht hd hT) (by rw [h2, mset_s]; rfl) (by omega) hF2 rfl rfl rfl rfl (by decide)
  refine x_mono h (fun x M' hx => ?_)
  obtain ⟨y, rfl, hy⟩ := hx
  have k2 : M2 t 2 = M t 2 := by rw [h2, mset_n (by decide), kt]
  have k3 : M2 t 3 = M t 3 := by rw [h2, mset_n (by decide), kt]
  rcases hy with ⟨f, g1, rfl, g2, g3⟩ | ⟨its, g1, rfl, g2, g3, g4, g5⟩
  · exact ⟨_, rfl, Or.inl ⟨f, g1, rfl, td.trans g2, g3⟩⟩
  · exact ⟨_, rfl, Or.inr ⟨its, g1, rfl, td.trans g2, by rw [g3, k2], by rw [g4, k3], g5⟩⟩
end
