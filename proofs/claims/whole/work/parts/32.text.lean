/-! The text: how it is read. -/
def cc (n : Nat) (c : Nat → Int) (i : Nat) : Int := if i < n then c i else 0
def dgt (x : Int) : Prop := 48 ≤ x ∧ x ≤ 57
/-- up to f digits from p on -/
def rn (g : Nat → Int) : Nat → Nat → Int → Int × Nat
  | 0, p, v => (v, p)
  | f + 1, p, v => if 48 ≤ g p ∧ g p ≤ 57 then rn g f (p + 1) (v * 10 + g p - 48) else (v, p)
/-- a number within bounds: the fault, or the number and the place behind it -/
def num (g : Nat → Int) (lo hi : Int) (p : Nat) : (Int × Nat) ⊕ (Int × Nat) :=
  if 48 ≤ g p ∧ g p ≤ 57 then (if lo ≤ (rn g 4 p 0).1 ∧ (rn g 4 p 0).1 ≤ hi then .inr (rn g 4 p 0) else .inl (2, p)) else .inl (1, p)
def sgn (g : Nat → Int) (s : Int) (p : Nat) : (Int × Nat) ⊕ Nat := if g p = s then .inr (p + 1) else .inl (1, p)
def item (g : Nat → Int) (sum : Int) (p : Nat) : (Int × Nat) ⊕ (Int × Int × Int × Nat) :=
  match num g 1 100 p with
  | .inl f => .inl f
  | .inr (l, q1) => if 300 < sum + l then .inl (3, p) else match sgn g 120 q1 with
    | .inl f => .inl f
    | .inr q2 => match num g 1 60 q2 with
      | .inl f => .inl f
      | .inr (a, q3) => match sgn g 98 q3 with
        | .inl f => .inl f
        | .inr q4 => match num g 0 2000 q4 with
          | .inl f => .inl f
          | .inr (s, q5) => match sgn g 59 q5 with
            | .inl f => .inl f
            | .inr q6 => .inr (l, a, s, q6)
/-- the items, r of them at most -/
def ldF (g : Nat → Int) (n : Nat) : Nat → Nat → Int → (Int × Nat) ⊕ List (Int × Int × Int)
  | 0, p, _ => .inl (if 48 ≤ g p ∧ g p ≤ 57 then 4 else 1, p)
  | r + 1, p, sum => match item g sum p with
    | .inl f => .inl f
    | .inr (l, a, s, q) => if q < n then (match ldF g n r q (sum + l) with | .inl f => .inl f | .inr t => .inr ((l, a, s) :: t)) else .inr [(l, a, s)]
def wapps (w : Nat → Int) : List (Int × Int × Int) → Nat → Int
  | [] => w
  | t :: ts => wapps (wapp w t.1 t.2.1 t.2.2) ts
theorem rn_b (g : Nat → Int) (n : Nat) (h0 : ∀ i, n ≤ i → g i = 0) : ∀ (f p : Nat) (v : Int), p ≤ n → 0 ≤ v → p ≤ (rn g f p v).2 ∧ (rn g f p v).2 ≤ n ∧ (rn g f p v).2 ≤ p + f ∧ 0 ≤ (rn g f p v).1 ∧ (rn g f p v).1 < (v + 1) * 10 ^ f
  | 0, p, v, hp, hv => by simp only [rn]; omega
  | f + 1, p, v, hp, hv => by
    rw [rn]
    by_cases hd : 48 ≤ g p ∧ g p ≤ 57
    · rw [if_pos hd]
      have hpn : p < n := by
        rcases Nat.lt_or_ge p n with q | q
        · exact q
        · have := h0 p q; omega
      have ih := rn_b g n h0 f (p + 1) (v * 10 + g p - 48) (by omega) (by omega)
      have hle : (v * 10 + g p - 48 + 1) * 10 ^ f ≤ ((v + 1) * 10) * 10 ^ f := Int.mul_le_mul_of_nonneg_right (by omega) (Int.pow_nonneg (by decide))
      have e : (v + 1) * 10 ^ (f + 1) = ((v + 1) * 10) * 10 ^ f := by rw [Int.pow_succ, Int.mul_comm (10 ^ f) 10, Int.mul_assoc]
      rw [e]
      omega
    · rw [if_neg hd]
      have hle : (v + 1) * 1 ≤ (v + 1) * 10 ^ (f + 1) := Int.mul_le_mul_of_nonneg_left (Int.pow_pos (by decide)) (by omega)
      simp only
      omega
section
variable {E : fxE} {M : fxM}
/-- only what the reading moves of the reader has changed -/
def Tm (M M' : fxM) (t : Nat) : Prop := (∀ c, c ≠ t → M' c = M c) ∧ ∀ k, k ≠ 2 → k ≠ 3 → k ≠ 4 → M' t k = M t k
theorem Tm.rf' {t : Nat} : Tm M M t := ⟨fun _ _ => rfl, fun _ _ _ _ => rfl⟩
theorem Tm.trans {M' M'' : fxM} {t : Nat} (h : Tm M M' t) (h' : Tm M' M'' t) : Tm M M'' t := ⟨fun c a => (h'.1 c a).trans (h.1 c a), fun k a b d => (h'.2 k a b d).trans (h.2 k a b d)⟩
theorem Tm.tx (hW : fx_Wt E) {M' : fxM} {t n : Nat} {c : Nat → Int} (ht : kd E t = 6) (h : TX E M t n c) (hT : Tm M M' t) : TX E M' t n c := by
  unfold TX at h ⊢
  rw [hT.2 1 (by decide) (by decide) (by decide), hT.1 _ (kd_ne (wk_6_0 hW ht) ht (by decide))]
  exact h
theorem cat_cc {t n : Nat} {c : Nat → Int} (h : TX E M t n c) (i : Nat) : cat E M t (i : Int) = cc n c i := by
  obtain ⟨h1, h2, h3⟩ := h
  unfold cat cc
  rw [h1, Int.toNat_natCast]
  by_cases hi : i < n
  · rw [if_pos (by omega), if_pos hi, h3 i hi]
  · rw [if_neg (by omega), if_neg hi]
theorem ct_isDigit6 (hW : fx_Wt E) {t n i : Nat} {c : Nat → Int} (ht : kd E t = 6) (h : TX E M t n c) (hc : ∀ i, i < n → 32 ≤ c i ∧ c i ≤ 126) (hi : i < 1000) : CtI E m_X6_isDigit [.inr t, .inl (i : Int)] M (fun r M' => r = (if 48 ≤ cc n c i ∧ cc n c i ≤ 57 then 1 else 0) ∧ M' = M) := by
  have hb : 0 ≤ cc n c i ∧ cc n c i ≤ 126 := by
    unfold cc
    by_cases hin : i < n
    · rw [if_pos hin]; have := hc i hin; omega
    · rw [if_neg hin]; omega
  have h1 := h.1
  have h2 := h.2.1
  refine x_ct (by decide) (Nat.le_of_ble_eq_true rfl) (b_X6_isDigit_0 hW t i M _ ht ?_)
  rw [cat_cc h]
  refine ⟨by omega, by omega, by omega, fun hlt => ⟨_, rfl, by rw [if_neg (by omega)], rfl⟩, fun hge => ⟨fun hgt => ⟨_, rfl, by rw [if_neg (by omega)], rfl⟩, fun hle => ⟨_, rfl, by rw [if_pos (by omega)], rfl⟩⟩⟩
theorem ct_blame (hW : fx_Wt E) {t : Nat} {k p : Int} (ht : kd E t = 6) : CtV E m_X6_blame [.inr t, .inl k, .inl p] M (fun M' => M' = mset (mset M t 2 k) t 3 p) :=
  x_ct (by decide) (Nat.le_of_ble_eq_true rfl) (b_X6_blame_0 hW t k p M _ ht (fun M1 h1 M2 h2 => ⟨rfl, by rw [h2, h1]⟩))
theorem Tm_blame {t : Nat} {k p : Int} : Tm M (mset (mset M t 2 k) t 3 p) t := ⟨fun c hc => by rw [mset_o hc, mset_o hc], fun j a b d => by rw [mset_n b, mset_n a]⟩
theorem Tm_next {t : Nat} {p : Int} : Tm M (mset M t 4 p) t := ⟨fun c hc => mset_o hc, fun j a b d => mset_n d⟩
/-- what a reading leaves: the fault told, or the place moved -/
def TF (M M' : fxM) (t : Nat) (f : Int × Nat) : Prop := Tm M M' t ∧ M' t 2 = f.1 ∧ M' t 3 = (f.2 : Int)
def TO (M M' : fxM) (t : Nat) (q : Nat) : Prop := M' = mset M t 4 (q : Int)
theorem ct_readNumber6 (hW : fx_Wt E) {t n p : Nat} {c : Nat → Int} {lo hi : Int} (ht : kd E t = 6) (h : TX E M t n c) (hc : ∀ i, i < n → 32 ≤ c i ∧ c i ≤ 126) (hp : M t 4 = (p : Int)) (hpn : p ≤ n) (hlo : inR lo) (hhi : inR hi) (hlo0 : 0 ≤ lo) : CtI E m_X6_readNumber [.inr t, .inl lo, .inl hi] M (fun r M' => (∃ f, num (cc n c) lo hi p = .inl f ∧ r = -1 ∧ TF M M' t f) ∨ ∃ v q, num (cc n c) lo hi p = .inr (v, q) ∧ r = v ∧ TO M M' t q) := by
  have h1 := h.1
  have h2 := h.2.1
  have hz : ∀ i, n ≤ i → cc n c i = 0 := fun i hi => by unfold cc; rw [if_neg (by omega)]
  refine x_ct (by decide) (Nat.le_of_ble_eq_true rfl) (b_X6_readNumber_0 hW t lo hi M _ ht ?_)
  rw [hp]
  have at61 : ∀ (q : Nat) (v : Int), p ≤ q → q ≤ n → (0 ≤ v ∧ v < 100000) → (q = p ↔ ¬ (48 ≤ cc n c p ∧ cc n c p ≤ 57)) → rn (cc n c) 4 p 0 = (v, q) → fx_At E m_X6_readNumber 61 [some (.inr t), some (.inl lo), some (.inl hi), some (.inl (p : Int)), some (.inl v)] [] (mset M t 4 (q : Int)) (fun r M' => ∃ x : Int, r = some (.inl x) ∧ ((∃ f, num (cc n c) lo hi p = .inl f ∧ x = -1 ∧ TF M M' t f) ∨ ∃ v q, num (cc n c) lo hi p = .inr (v, q) ∧ x = v ∧ TO M M' t q)) := by
    intro q v hpq hqn hv hqp hrn
    refine b_X6_readNumber_61 hW t lo hi p v _ _ ht ?_
    rw [mset_s]
    have bl : ∀ (k : Int) (x : Nat), (∃ f, num (cc n c) lo hi p = .inl f ∧ f = (k, x)) → ∃ R : fxM → Prop, CtV E m_X6_blame [.inr t, .inl k, .inl (x : Int)] (mset M t 4 (q : Int)) R ∧ ∀ M5, R M5 → ∃ y : Int, some (.inl (-1)) = some (.inl y : fxV) ∧ ((∃ f, num (cc n c) lo hi p = .inl f ∧ y = -1 ∧ TF M M5 t f) ∨ ∃ v q, num (cc n c) lo hi p = .inr (v, q) ∧ y = v ∧ TO M M5 t q) := by
      intro k x hf
      obtain ⟨f, hf, rfl⟩ := hf
      refine ⟨_, ct_blame hW ht, fun M5 h5 => ⟨_, rfl, Or.inl ⟨_, hf, rfl, ?_⟩⟩⟩
      rw [h5]
      exact ⟨Tm_next.trans Tm_blame, by rw [mset_n (by decide), mset_s], by rw [mset_s]⟩
    refine ⟨by omega, by omega, fun hne => ⟨by omega, hlo, fun hlt => ?_, fun hge => ⟨hhi, fun hle => ?_, fun hgt => ?_⟩⟩, fun he => ?_⟩
    · have hd : 48 ≤ cc n c p ∧ cc n c p ≤ 57 := Classical.not_not.mp (fun z => hne (by have := hqp.mpr z; omega))
      exact bl 2 p ⟨_, by rw [num, if_pos hd, hrn, if_neg (by dsimp only; omega)], rfl⟩
    · have hd : 48 ≤ cc n c p ∧ cc n c p ≤ 57 := Classical.not_not.mp (fun z => hne (by have := hqp.mpr z; omega))
      exact ⟨_, rfl, Or.inr ⟨v, q, by rw [num, if_pos hd, hrn, if_pos (by dsimp only; omega)], rfl, rfl⟩⟩
    · have hd : 48 ≤ cc n c p ∧ cc n c p ≤ 57 := Classical.not_not.mp (fun z => hne (by have := hqp.mpr z; omega))
      exact bl 2 p ⟨_, by rw [num, if_pos hd, hrn, if_neg (by dsimp only; omega)], rfl⟩
    · have hd : ¬ (48 ≤ cc n c p ∧ cc n c p ≤ 57) := hqp.mp (by omega)
      exact bl 1 q ⟨_, by rw [num, if_neg hd], by rw [show q = p by omega]⟩
  have key : ∀ (f q : Nat) (v : Int), q + f = p + 4 → q ≤ n → p ≤ q → 0 ≤ v → (v + 1) * 10 ^ f ≤ 10000 → rn (cc n c) 4 p 0 = rn (cc n c) f q v → (p < q → 48 ≤ cc n c p ∧ cc n c p ≤ 57) → fx_At E m_X6_readNumber 8 [some (.inr t), some (.inl lo), some (.inl hi), some (.inl (p : Int)), some (.inl v)] [] (mset M t 4 (q : Int)) (fun r M' => ∃ x : Int, r = some (.inl x) ∧ ((∃ f, num (cc n c) lo hi p = .inl f ∧ x = -1 ∧ TF M M' t f) ∨ ∃ v q, num (cc n c) lo hi p = .inr (v, q) ∧ x = v ∧ TO M M' t q)) := by
    intro f
    induction f with
    | zero =>
      intro q v hqf hqn hpq hv hvb hrn hd
      refine b_X6_readNumber_8 hW t lo hi p v _ _ ht ?_
      rw [mset_s]
      refine ⟨by omega, by omega, fun _ => at61 q v hpq hqn (by omega) ⟨fun z => by omega, fun z => absurd (hd (by omega)) z⟩ hrn, fun z => absurd (by omega) z⟩
    | succ f ih =>
      intro q v hqf hqn hpq hv hvb hrn hd
      have hvs : (v + 1) * 1 ≤ (v + 1) * 10 ^ (f + 1) := Int.mul_le_mul_of_nonneg_left (Int.pow_pos (by decide)) (by omega)
      refine b_X6_readNumber_8 hW t lo hi p v _ _ ht ?_
      have hT : TX E (mset M t 4 (q : Int)) t n c := Tm_next.tx hW ht h
      rw [mset_s]
      refine ⟨by omega, by omega, fun z => absurd z (by omega), fun _ => ⟨_, ct_isDigit6 hW ht hT hc (by omega), fun v3 M3 h3 => ?_⟩⟩
      obtain ⟨rfl, rfl⟩ := h3
      by_cases hdq : 48 ≤ cc n c q ∧ cc n c q ≤ 57
      · rw [if_pos hdq]
        refine ⟨by omega, fun z => absurd z (by decide), fun _ => ?_⟩
        rw [mset_s, mset_n (by decide), h1, cat_cc hT]
        refine ⟨by omega, by omega, fun M7 h7 => ?_⟩
        have e7 : M7 = mset M t 4 ((q + 1 : Nat) : Int) := by
          rw [h7]
          funext a j
          simp only [mset]
          by_cases ha : a = t ∧ j = 4 <;> simp [ha]
        rw [e7]
        have hqn' : q < n := by
          rcases Nat.lt_or_ge q n with z | z
          · exact z
          · have := hz q z; omega
        have hle : (v * 10 + cc n c q - 48 + 1) * 10 ^ f ≤ ((v + 1) * 10) * 10 ^ f := Int.mul_le_mul_of_nonneg_right (by omega) (Int.pow_nonneg (by decide))
        have e : (v + 1) * 10 ^ (f + 1) = ((v + 1) * 10) * 10 ^ f := by rw [Int.pow_succ, Int.mul_comm (10 ^ f) 10, Int.mul_assoc]
        refine ih (q + 1) _ (by omega) (by omega) (by omega) (by omega) (by omega) (by rw [hrn, rn, if_pos hdq]) (fun _ => ?_)
        rcases Nat.lt_or_ge p q with z | z
        · exact hd z
        · rw [show p = q by omega]; exact hdq
      · rw [if_neg hdq]
        refine ⟨by omega, fun _ => at61 q v hpq hqn (by omega) ⟨fun z => by rw [← z]; exact hdq, fun z => ?_⟩ (by rw [hrn, rn, if_neg hdq]), fun z => absurd rfl z⟩
        rcases Nat.lt_or_ge p q with y | y
        · exact absurd (hd y) z
        · omega
  have h0 := key 4 p 0 rfl hpn (Nat.le_refl p) (by omega) (by decide) rfl (fun z => absurd z (by omega))
  have e : mset M t 4 (p : Int) = M := by
    funext a j
    by_cases ha : a = t ∧ j = 4
    · obtain ⟨rfl, rfl⟩ := ha; rw [mset_s, hp]
    · simp only [mset, if_neg ha]
  rw [e] at h0
  exact h0
theorem ct_readSign6 (hW : fx_Wt E) {t n p : Nat} {c : Nat → Int} {s : Int} (ht : kd E t = 6) (h : TX E M t n c) (hc : ∀ i, i < n → 32 ≤ c i ∧ c i ≤ 126) (hp : M t 4 = (p : Int)) (hpn : p ≤ 500) (hs : inR s) : CtI E m_X6_readSign [.inr t, .inl s] M (fun r M' => (∃ f, sgn (cc n c) s p = .inl f ∧ r = 0 ∧ TF M M' t f) ∨ ∃ q, sgn (cc n c) s p = .inr q ∧ r = 1 ∧ TO M M' t q) := by
  have h1 := h.1
  have h2 := h.2.1
  have hb : 0 ≤ cc n c p ∧ cc n c p ≤ 126 := by
    unfold cc
    by_cases hin : p < n
    · rw [if_pos hin]; have := hc p hin; omega
    · rw [if_neg hin]; omega
  refine x_ct (by decide) (Nat.le_of_ble_eq_true rfl) (b_X6_readSign_0 hW t s M _ ht ?_)
  rw [hp, cat_cc h]
  refine ⟨by omega, by omega, by omega, hs, fun he M5 h5 => ⟨_, rfl, Or.inr ⟨p + 1, by rw [sgn, if_pos he], rfl, by rw [h5, TO]; rfl⟩⟩, fun hne => ⟨_, ct_blame hW ht, fun M6 h6 => ⟨_, rfl, Or.inl ⟨_, by rw [sgn, if_neg hne], rfl, ?_⟩⟩⟩⟩
  rw [h6]
  exact ⟨Tm_blame, by rw [mset_n (by decide), mset_s], by rw [mset_s]⟩
end
