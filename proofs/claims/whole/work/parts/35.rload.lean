/-! load: the reference. -/
def RowIs (R : Nat → Int) : Nat → List (Int × Int × Int) → Prop
  | _, [] => True
  | k, t :: ts => R (3 * k) = t.1 ∧ R (3 * k + 1) = t.2.1 ∧ R (3 * k + 2) = t.2.2 ∧ RowIs R (k + 1) ts
section
variable {E : fxE} {M : fxM}
/-- the reference's text -/
def RX (E : fxE) (M : fxM) (m n : Nat) (c : Nat → Int) : Prop := M m 6 = (n : Int) ∧ n ≤ 120 ∧ M (rf E m 5) = c
/-- only the reader's places have changed -/
def Rm (M M' : fxM) (m : Nat) : Prop := (∀ c, c ≠ m → M' c = M c) ∧ ∀ k, k ≠ 20 → k ≠ 21 → k ≠ 22 → M' m k = M m k
theorem Rm.rf' {m : Nat} : Rm M M m := ⟨fun _ _ => rfl, fun _ _ _ _ => rfl⟩
theorem Rm.trans {M' M'' : fxM} {m : Nat} (h : Rm M M' m) (h' : Rm M' M'' m) : Rm M M'' m := ⟨fun c a => (h'.1 c a).trans (h.1 c a), fun k a b d => (h'.2 k a b d).trans (h.2 k a b d)⟩
theorem Rm_at {m : Nat} {p : Int} : Rm M (mset M m 20 p) m := ⟨fun c hc => mset_o hc, fun j a b d => mset_n a⟩
theorem Rm_bl {m : Nat} {p q : Int} : Rm M (mset (mset M m 21 p) m 22 q) m := ⟨fun c hc => by rw [mset_o hc, mset_o hc], fun j a b d => by rw [mset_n d, mset_n b]⟩
theorem Rm.rx (hW : fx_Wt E) {M' : fxM} {m n : Nat} {c : Nat → Int} (hm : kd E m = 10) (h : RX E M m n c) (hR : Rm M M' m) : RX E M' m n c := by
  unfold RX at h ⊢
  rw [hR.2 6 (by decide) (by decide) (by decide), hR.1 _ (kd_ne (wk_10_5 hW hm) hm (by decide))]
  exact h
/-- the fault is told -/
def RF (M M' : fxM) (m : Nat) (f : Int × Nat) : Prop := Rm M M' m ∧ M' m 22 = f.1 ∧ M' m 21 = (f.2 : Int) ∧ (0 ≤ M' m 20 ∧ M' m 20 ≤ 1000)
theorem ct_fails (hW : fx_Wt E) {m : Nat} {p q : Int} (hm : kd E m = 10) (h : inR (M m 22)) : CtV E m_X10_fails [.inr m, .inl p, .inl q] M (fun M' => M' = if M m 22 = -1000005 then mset (mset M m 21 p) m 22 q else M) := by
  refine x_ct (by decide) (Nat.le_of_ble_eq_true rfl) (b_X10_fails_0 hW m p q M _ hm ⟨h, fun z => ⟨rfl, by rw [if_neg z]⟩, fun z M3 h3 M4 h4 => ⟨rfl, ?_⟩⟩)
  rw [if_pos (Classical.not_not.mp z), h4, h3]
theorem ccb {n p : Nat} {c : Nat → Int} (hc : ∀ i, i < n → 32 ≤ c i ∧ c i ≤ 126) : 0 ≤ cc n c p ∧ cc n c p ≤ 126 := by
  unfold cc
  by_cases hin : p < n
  · rw [if_pos hin]; have := hc p hin; omega
  · rw [if_neg hin]; omega
theorem ct_isDigit10 (hW : fx_Wt E) {m n p : Nat} {c : Nat → Int} (hm : kd E m = 10) (h : RX E M m n c) (hc : ∀ i, i < n → 32 ≤ c i ∧ c i ≤ 126) (hp : M m 20 = (p : Int)) (hp1 : p ≤ 1000) : CtI E m_X10_isDigit [.inr m] M (fun r M' => r = (if 48 ≤ cc n c p ∧ cc n c p ≤ 57 then 1 else 0) ∧ M' = M) := by
  obtain ⟨h1, h2, h3⟩ := h
  refine x_ct (by decide) (Nat.le_of_ble_eq_true rfl) (b_X10_isDigit_0 hW m M _ hm ?_)
  rw [hp, h1, h3, Int.toNat_natCast]
  refine ⟨by omega, by omega, fun hle => ⟨_, rfl, ?_, rfl⟩, fun hlt => ?_⟩
  · rw [cc_z n c p (by omega), if_neg (by decide)]
  · have hpn : p < n := by omega
    have e : cc n c p = c p := by rw [cc, if_pos hpn]
    have := hc p hpn
    rw [e]
    exact ⟨by omega, by omega, fun z => ⟨_, rfl, by rw [if_pos z], rfl⟩, fun z => ⟨_, rfl, by rw [if_neg z], rfl⟩⟩
theorem mset_self {a k : Nat} {v : Int} (h : M a k = v) : mset M a k v = M := by
  funext b j
  by_cases ha : b = a ∧ j = k
  · obtain ⟨rfl, rfl⟩ := ha; rw [mset_s, h]
  · simp only [mset, if_neg ha]
theorem ct_readNumber10 (hW : fx_Wt E) {m n p : Nat} {c : Nat → Int} {lo hi : Int} (hm : kd E m = 10) (h : RX E M m n c) (hc : ∀ i, i < n → 32 ≤ c i ∧ c i ≤ 126) (hp : M m 20 = (p : Int)) (hpn : p ≤ n) (h22 : M m 22 = -1000005) (hlo : inR lo) (hhi : inR hi) : CtI E m_X10_readNumber [.inr m, .inl lo, .inl hi] M (fun r M' => (0 ≤ r ∧ r < 10000) ∧ ((∃ f, num (cc n c) lo hi p = .inl f ∧ RF M M' m f) ∨ ∃ v q, num (cc n c) lo hi p = .inr (v, q) ∧ r = v ∧ M' = mset M m 20 (q : Int))) := by
  obtain ⟨h1, h2, h3⟩ := id h
  have n5 : rf E m 5 ≠ m := kd_ne (wk_10_5 hW hm) hm (by decide)
  have key : ∀ (f q : Nat) (v : Int), q + f = p + 4 → q ≤ n → p ≤ q → 0 ≤ v → (v + 1) * 10 ^ f ≤ 10000 → rn (cc n c) 4 p 0 = rn (cc n c) f q v → (48 ≤ cc n c p ∧ cc n c p ≤ 57) → fx_At E m_X10_readNumber 24 [some (.inr m), some (.inl lo), some (.inl hi), some (.inl (p : Int)), some (.inl v)] [] (mset M m 20 (q : Int)) (fun r M' => ∃ x : Int, r = some (.inl x) ∧ (0 ≤ x ∧ x < 10000) ∧ ((∃ f, num (cc n c) lo hi p = .inl f ∧ RF M M' m f) ∨ ∃ v q, num (cc n c) lo hi p = .inr (v, q) ∧ x = v ∧ M' = mset M m 20 (q : Int))) := by
    intro f
    induction f with
    | zero =>
      intro q v hqf hqn hpq hv hvb hrn hd
      refine b_X10_readNumber_24 hW m lo hi p v _ _ hm ?_
      have k22 : mset M m 20 (q : Int) m 22 = -1000005 := by rw [mset_n (by decide), h22]
      rw [k22, mset_s]
      have hrn' : rn (cc n c) 4 p 0 = (v, q) := hrn
      refine ⟨by decide, fun z => absurd rfl z, fun _ => ⟨by omega, by omega, fun _ => ⟨by omega, hlo, hhi, fun hin => ⟨_, rfl, by omega, Or.inr ⟨v, q, by rw [num, if_pos hd, hrn', if_pos hin], rfl, rfl⟩⟩, fun hin => ⟨_, ct_fails hW hm (by rw [k22]; exact ⟨by decide, by decide⟩), fun M7 h7 => ⟨_, rfl, by omega, Or.inl ⟨(2, p), by rw [num, if_pos hd, hrn', if_neg hin], ?_⟩⟩⟩⟩, fun z => absurd (by omega) z⟩⟩
      rw [k22, if_pos rfl] at h7
      rw [h7]
      exact ⟨Rm_at.trans Rm_bl, by rw [mset_s], by rw [mset_n (by decide), mset_s], by rw [mset_n (by decide), mset_n (by decide), mset_s]; omega⟩
    | succ f ih =>
      intro q v hqf hqn hpq hv hvb hrn hd
      have hvs : (v + 1) * 1 ≤ (v + 1) * 10 ^ (f + 1) := Int.mul_le_mul_of_nonneg_left (Int.pow_pos (by decide)) (by omega)
      refine b_X10_readNumber_24 hW m lo hi p v _ _ hm ?_
      have k22 : mset M m 20 (q : Int) m 22 = -1000005 := by rw [mset_n (by decide), h22]
      have hT : RX E (mset M m 20 (q : Int)) m n c := Rm_at.rx hW hm h
      rw [k22, mset_s]
      refine ⟨by decide, fun z => absurd rfl z, fun _ => ⟨by omega, by omega, fun z => absurd z (by omega), fun _ => ⟨_, ct_isDigit10 hW hm hT hc mset_s (by omega), fun v15 M15 h15 => ?_⟩⟩⟩
      obtain ⟨rfl, rfl⟩ := h15
      by_cases hdq : 48 ≤ cc n c q ∧ cc n c q ≤ 57
      · rw [if_pos hdq]
        have hqn' : q < n := by
          rcases Nat.lt_or_ge q n with z | z
          · exact z
          · have := cc_z n c q z; omega
        refine ⟨by omega, fun z => absurd z (by decide), fun _ => ?_⟩
        rw [mset_s, mset_o n5, h3, Int.toNat_natCast]
        refine ⟨by omega, fun M23 h23 => ?_⟩
        have e7 : M23 = mset M m 20 ((q + 1 : Nat) : Int) := by rw [h23, mset_mset]; rfl
        have ec : cc n c q = c q := by rw [cc, if_pos hqn']
        rw [e7, ← ec, show 10 * v + cc n c q - 48 = v * 10 + cc n c q - 48 by omega]
        have hle : (v * 10 + cc n c q - 48 + 1) * 10 ^ f ≤ ((v + 1) * 10) * 10 ^ f := Int.mul_le_mul_of_nonneg_right (by omega) (Int.pow_nonneg (by decide))
        have e : (v + 1) * 10 ^ (f + 1) = ((v + 1) * 10) * 10 ^ f := by rw [Int.pow_succ, Int.mul_comm (10 ^ f) 10, Int.mul_assoc]
        exact ih (q + 1) _ (by omega) (by omega) (by omega) (by omega) (by omega) (by rw [hrn, rn, if_pos hdq]) hd
      · rw [if_neg hdq]
        have hrn' : rn (cc n c) 4 p 0 = (v, q) := by rw [hrn, rn, if_neg hdq]
        refine ⟨by omega, fun _ => ⟨by omega, hlo, hhi, fun hin => ⟨_, rfl, by omega, Or.inr ⟨v, q, by rw [num, if_pos hd, hrn', if_pos hin], rfl, rfl⟩⟩, fun hin => ⟨_, ct_fails hW hm (by rw [k22]; exact ⟨by decide, by decide⟩), fun M7 h7 => ⟨_, rfl, by omega, Or.inl ⟨(2, p), by rw [num, if_pos hd, hrn', if_neg hin], ?_⟩⟩⟩⟩, fun z => absurd rfl z⟩
        rw [k22, if_pos rfl] at h7
        rw [h7]
        exact ⟨Rm_at.trans Rm_bl, by rw [mset_s], by rw [mset_n (by decide), mset_s], by rw [mset_n (by decide), mset_n (by decide), mset_s]; omega⟩
  refine x_ct (by decide) (Nat.le_of_ble_eq_true rfl) (b_X10_readNumber_0 hW m lo hi M _ hm ⟨_, ct_isDigit10 hW hm h hc hp (by omega), fun v1 M1 g1 => ?_⟩)
  obtain ⟨rfl, rfl⟩ := g1
  by_cases hd : 48 ≤ cc n c p ∧ cc n c p ≤ 57
  · rw [if_pos hd]
    refine ⟨by decide, fun _ => ?_, fun z => absurd z (by decide)⟩
    have h0 := key 4 p 0 rfl hpn (Nat.le_refl p) (by omega) (by decide) rfl hd
    rw [mset_self hp] at h0
    rw [hp]
    exact h0
  · rw [if_neg hd]
    refine ⟨by decide, fun z => absurd rfl z, fun _ => ⟨_, ct_fails hW hm (by rw [h22]; exact ⟨by decide, by decide⟩), fun M3 g3 => ?_⟩⟩
    rw [h22, if_pos rfl, hp] at g3
    have k22 : M3 m 22 = 1 := by rw [g3, mset_s]
    have k20 : M3 m 20 = (p : Int) := by rw [g3, mset_n (by decide), mset_n (by decide), hp]
    rw [hp]
    have fin : RF M1 M3 m (1, p) := by
      rw [g3]
      exact ⟨Rm_bl, by rw [mset_s], by rw [mset_n (by decide), mset_s], by rw [mset_n (by decide), mset_n (by decide), hp]; omega⟩
    refine b_X10_readNumber_24 hW m lo hi p 0 _ _ hm ?_
    rw [k22]
    refine ⟨by decide, fun _ => ⟨by decide, hlo, hhi, fun _ => ⟨_, rfl, by decide, Or.inl ⟨(1, p), by rw [num, if_neg hd], fin⟩⟩, fun _ => ⟨_, ct_fails hW hm (by rw [k22]; exact ⟨by decide, by decide⟩), fun M7 h7 => ⟨_, rfl, by decide, Or.inl ⟨(1, p), by rw [num, if_neg hd], ?_⟩⟩⟩⟩, fun z => absurd (by decide) z⟩
    rw [k22, if_neg (by decide)] at h7
    rw [h7]
    exact fin
/-- a sign that is wanted, with no fault so far -/
theorem ct_want (hW : fx_Wt E) {m n p : Nat} {c : Nat → Int} {s : Int} (hm : kd E m = 10) (h : RX E M m n c) (hc : ∀ i, i < n → 32 ≤ c i ∧ c i ≤ 126) (hp : M m 20 = (p : Int)) (hpn : p ≤ 500) (h22 : M m 22 = -1000005) (hs : inR s) (hs0 : s ≠ 0) : CtV E m_X10_want [.inr m, .inl s] M (fun M' => (∃ f, sgn (cc n c) s p = .inl f ∧ RF M M' m f) ∨ ∃ q, sgn (cc n c) s p = .inr q ∧ M' = mset M m 20 (q : Int)) := by
  obtain ⟨h1, h2, h3⟩ := id h
  have bad : ¬ cc n c p = s → ∃ R3 : fxM → Prop, CtV E m_X10_fails [.inr m, .inl (p : Int), .inl 1] M R3 ∧ ∀ M3 : fxM, R3 M3 → ∀ M4 : fxM, M4 = mset M3 m 20 (M3 m 20 + 1) → (none : Option fxV) = none ∧ ((∃ f, sgn (cc n c) s p = .inl f ∧ RF M M4 m f) ∨ ∃ q, sgn (cc n c) s p = .inr q ∧ M4 = mset M m 20 (q : Int)) := by
    intro hne
    refine ⟨_, ct_fails hW hm (by rw [h22]; exact ⟨by decide, by decide⟩), fun M3 g3 M4 g4 => ⟨rfl, Or.inl ⟨(1, p), by rw [sgn, if_neg hne], ?_⟩⟩⟩
    rw [h22, if_pos rfl] at g3
    have k20 : M3 m 20 = (p : Int) := by rw [g3, mset_n (by decide), mset_n (by decide), hp]
    rw [k20] at g4
    rw [g4]
    exact ⟨(by rw [g3]; exact Rm_bl.trans Rm_at), by rw [mset_n (by decide), g3, mset_s], by rw [mset_n (by decide), g3, mset_n (by decide), mset_s], by rw [mset_s]; omega⟩
  refine x_ct (by decide) (Nat.le_of_ble_eq_true rfl) (b_X10_want_0 hW m s M _ hm ?_)
  rw [hp, h1, h3, Int.toNat_natCast]
  refine ⟨by omega, by omega, fun hle => bad ?_, fun hlt => ?_⟩
  · rw [cc_z n c p (by omega)]; exact hs0.symm
  · have hpn : p < n := by omega
    have e : cc n c p = c p := by rw [cc, if_pos hpn]
    have := hc p hpn
    rw [← e]
    rw [← e] at this
    exact ⟨by omega, by omega, hs, fun he M8 g8 => ⟨rfl, Or.inr ⟨p + 1, by rw [sgn, if_pos he], g8⟩⟩, fun hne => bad hne⟩
/-- the fault is told, one place on -/
def RG (M M' : fxM) (m : Nat) (f : Int × Nat) : Prop := Rm M M' m ∧ M' m 22 = f.1 ∧ M' m 21 = (f.2 : Int) ∧ (0 ≤ M' m 20 ∧ M' m 20 ≤ 1001)
/-- a sign that is wanted behind a fault -/
theorem ct_wantW (hW : fx_Wt E) {m n : Nat} {c : Nat → Int} {s : Int} {f : Int × Nat} {M0 : fxM} (hm : kd E m = 10) (h : RX E M m n c) (hc : ∀ i, i < n → 32 ≤ c i ∧ c i ≤ 126) (hF : RF M0 M m f) (hf : 1 ≤ f.1 ∧ f.1 ≤ 4) (hs : inR s) : CtV E m_X10_want [.inr m, .inl s] M (fun M' => RG M0 M' m f) := by
  obtain ⟨h1, h2, h3⟩ := id h
  obtain ⟨f1, f2, f3, f4⟩ := hF
  have fin : ∀ M4, M4 = mset M m 20 (M m 20 + 1) → RG M0 M4 m f := fun M4 g => by
    rw [g]
    exact ⟨f1.trans Rm_at, by rw [mset_n (by decide), f2], by rw [mset_n (by decide), f3], by rw [mset_s]; omega⟩
  have bad : ∃ R3 : fxM → Prop, CtV E m_X10_fails [.inr m, .inl (M m 20), .inl 1] M R3 ∧ ∀ M3 : fxM, R3 M3 → ∀ M4 : fxM, M4 = mset M3 m 20 (M3 m 20 + 1) → (none : Option fxV) = none ∧ RG M0 M4 m f := by
    refine ⟨_, ct_fails hW hm (by rw [f2]; exact ⟨by omega, by omega⟩), fun M3 g3 M4 g4 => ⟨rfl, ?_⟩⟩
    rw [f2, if_neg (by omega)] at g3
    subst g3
    exact fin M4 g4
  refine x_ct (by decide) (Nat.le_of_ble_eq_true rfl) (b_X10_want_0 hW m s M _ hm ?_)
  refine ⟨by omega, by omega, fun hle => bad, fun hlt => ?_⟩
  have := hc (M m 20).toNat (by omega)
  rw [h3]
  exact ⟨by omega, by omega, hs, fun he M8 g8 => ⟨rfl, fin M8 g8⟩, fun hne => bad⟩
end
