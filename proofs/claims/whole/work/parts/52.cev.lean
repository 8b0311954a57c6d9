/-! The class's events: how they are found. -/
section
variable {E : fxE} {M : fxM}
theorem oe (hW : fx_Wt E) {e k : Nat} (he : kd E e = 1) (hk : k < 6) : own E (rf E e k) = e := by
  match k, hk with
  | 0, _ => exact own_r hW he (wk_1_0 hW he) (by decide) rfl (by decide)
  | 1, _ => exact own_r hW he (wk_1_1 hW he) (by decide) rfl (by decide)
  | 2, _ => exact own_r hW he (wk_1_2 hW he) (by decide) rfl (by decide)
  | 3, _ => exact own_r hW he (wk_1_3 hW he) (by decide) rfl (by decide)
  | 4, _ => exact own_r hW he (wk_1_4 hW he) (by decide) rfl (by decide)
  | 5, _ => exact own_r hW he (wk_1_5 hW he) (by decide) rfl (by decide)
theorem ene (hW : fx_Wt E) {e i j : Nat} (he : kd E e = 1) (hi : (lay 1)[i]? = some true) (hj : (lay 1)[j]? = some true) (h : i ≠ j) : rf E e i ≠ rf E e j := one_ne hW he (by decide) hi hj h
theorem enr (hW : fx_Wt E) {e k : Nat} (he : kd E e = 1) (hk : k < 6) : rf E e k ≠ e := fun z => by
  match k, hk with
  | 0, _ => exact kd_ne (wk_1_0 hW he) he (by decide) z
  | 1, _ => exact kd_ne (wk_1_1 hW he) he (by decide) z
  | 2, _ => exact kd_ne (wk_1_2 hW he) he (by decide) z
  | 3, _ => exact kd_ne (wk_1_3 hW he) he (by decide) z
  | 4, _ => exact kd_ne (wk_1_4 hW he) he (by decide) z
  | 5, _ => exact kd_ne (wk_1_5 hW he) he (by decide) z
theorem tat_fo {M' : fxM} (hW : fx_Wt E) {t a : Nat} (ht : kd E t = 7) (hF : Fo E M M' a) (hne : t ≠ a) (d : Int) : tat E M' t d = tat E M t d := by
  unfold tat
  rw [hF (rf E t 0) (by rw [ot0 hW ht]; exact hne)]
theorem ct_deviation (hW : fx_Wt E) {t : Nat} {T : Int → Int} {a d : Int} (ht : kd E t = 7) (hT : ∀ d, tat E M t d = T d) (hd : 1 ≤ d ∧ d ≤ 400) : CtI E m_X1_deviation [.inr t, .inl d, .inl a] M (fun r M' => r = dv T a d ∧ M' = M) :=
  x_ct (by decide) (Nat.le_of_ble_eq_true rfl) (b_X1_deviation_0 hW t d a M _ ht ⟨by omega, by omega, _, rfl, by rw [hT, hT, dv], rfl⟩)
theorem ct_isMarked (hW : fx_Wt E) {t : Nat} {T : Int → Int} {a th d : Int} (ht : kd E t = 7) (hT : ∀ d, tat E M t d = T d) (hb : ∀ d, 5000 ≤ T d ∧ T d ≤ 100000000) (ha : 0 ≤ a ∧ a ≤ 60) (hth : 1 ≤ th ∧ th ≤ 5000) (hd : 1 ≤ d ∧ d ≤ 400) : CtI E m_X1_isMarked [.inr t, .inl d, .inl a, .inl th] M (fun r M' => r = (if mkd T a th d then 1 else 0) ∧ M' = M) := by
  have b1 := hb d
  have b2 := hb (d - 1)
  have hdv : dv T a d = T d - T (d - 1) + a := rfl
  have at21 : (th ≤ dv T a d ∨ dv T a d ≤ -th) → ∀ x4 : Int, fx_At E m_X1_isMarked 21 [some (.inr t), some (.inl d), some (.inl a), some (.inl th), some (.inl x4)] [] M (fun r M' => ∃ x : Int, r = some (.inl x) ∧ x = (if mkd T a th d then 1 else 0) ∧ M' = M) := by
    intro ho x4
    refine b_X1_isMarked_21 hW t _ _ _ _ M _ ht ?_
    rw [hT, hT]
    refine ⟨by omega, by omega, fun h1 => ⟨_, rfl, by rw [if_pos ⟨ho, Or.inl h1⟩], rfl⟩, fun h1 => ⟨by omega, by omega, fun h2 => ⟨_, rfl, by rw [if_neg (fun z => z.2.elim h1 (fun z => by omega))], rfl⟩, fun h2 => ⟨_, rfl, by rw [if_pos ⟨ho, Or.inr (by omega)⟩], rfl⟩⟩⟩
  refine x_ct (by decide) (Nat.le_of_ble_eq_true rfl) (b_X1_isMarked_0 hW t d a th M _ ht ⟨_, ct_deviation hW ht hT hd, fun v1 M1 g1 => ?_⟩)
  obtain ⟨rfl, rfl⟩ := g1
  refine ⟨by omega, by omega, fun h => at21 (Or.inl h) _, fun h => ⟨by omega, fun h2 => ⟨_, rfl, by rw [if_neg (fun z => by omega)], rfl⟩, fun h2 => at21 (Or.inr (by omega)) _⟩⟩
/-- the events kept so far -/
def EvI (E : fxE) (M : fxM) (e : Nat) (T : Int → Int) (a : Int) (A : List (Nat × Nat)) : Prop := M e 6 = ((A.length : Nat) : Int) ∧ (∀ (i : Nat) (p : Nat × Nat), A[i]? = some p → M (rf E e 0) i = (p.1 : Int) ∧ M (rf E e 1) i = (p.2 : Int) ∧ M (rf E e 2) i = eKd T a p ∧ M (rf E e 3) i = eLs T a p ∧ M (rf E e 4) i = eRs T p) ∧ ∀ d : Nat, d ≤ 400 → (M (rf E e 5) d = 0 ∨ M (rf E e 5) d = 1) ∧ (M (rf E e 5) d = 1 ↔ Bon T a A (d : Int))
theorem Bon_app {T : Int → Int} {a d : Int} {A : List (Nat × Nat)} {p : Nat × Nat} : Bon T a (A ++ [p]) d ↔ Bon T a A d ∨ ((p.1 : Int) = d ∧ 0 < dv T a d) := by
  constructor
  · rintro ⟨i, q, h1, h2, h3⟩
    rw [List.getElem?_append] at h1
    by_cases hi : i < A.length
    · rw [if_pos hi] at h1; exact Or.inl ⟨i, q, h1, h2, h3⟩
    · rw [if_neg hi] at h1
      have : i - A.length = 0 := by
        have := (List.getElem?_eq_some_iff.mp h1).1
        simp at this
        omega
      rw [this] at h1
      simp at h1
      subst h1
      exact Or.inr ⟨h2, h3⟩
  · rintro (⟨i, q, h1, h2, h3⟩ | ⟨h1, h2⟩)
    · refine ⟨i, q, ?_, h2, h3⟩
      rw [List.getElem?_append, if_pos (List.getElem?_eq_some_iff.mp h1).1, h1]
    · refine ⟨A.length, p, ?_, h1, h2⟩
      rw [List.getElem?_append, if_neg (Nat.lt_irrefl _), Nat.sub_self]
      rfl
theorem app_at {A : List (Nat × Nat)} {p q : Nat × Nat} {i : Nat} (h : (A ++ [q])[i]? = some p) : (i < A.length ∧ A[i]? = some p) ∨ (i = A.length ∧ p = q) := by
  rw [List.getElem?_append] at h
  by_cases hi : i < A.length
  · rw [if_pos hi] at h; exact Or.inl ⟨hi, h⟩
  · rw [if_neg hi] at h
    have h0 : i - A.length = 0 := by
      have := (List.getElem?_eq_some_iff.mp h).1
      simp at this
      omega
    rw [h0] at h
    simp at h
    exact Or.inr ⟨by omega, h.symm⟩
theorem mxT_b {T : Int → Int} (hb : ∀ d, 5000 ≤ T d ∧ T d ≤ 100000000) (s : Nat) : ∀ n, 5000 ≤ mxT T s n ∧ mxT T s n ≤ 100000000
  | 0 => hb _
  | n + 1 => by
    have := mxT_b hb s n
    have := hb ((s + (n + 1) : Nat) : Int)
    rw [mxT]
    omega
theorem ct_keep1 (hW : fx_Wt E) {e t s z : Nat} {T : Int → Int} {a : Int} {A : List (Nat × Nat)} (he : kd E e = 1) (ht : kd E t = 7) (hT : ∀ d, tat E M t d = T d) (hb : ∀ d, 5000 ≤ T d ∧ T d ≤ 100000000) (ha : 0 ≤ a ∧ a ≤ 60) (hI : EvI E M e T a A) (hA : A.length < 200) (hs : 1 ≤ s) (hsz : s ≤ z) (hz : z ≤ 400) : CtV E m_X1_keep [.inr e, .inr t, .inl (s : Int), .inl (z : Int), .inl a] M (fun M' => EvI E M' e T a (A ++ [(s, z)]) ∧ Fo E M M' e ∧ M' e 7 = M e 7 ∧ M' e 8 = M e 8) := by
  obtain ⟨i1, i2, i3⟩ := hI
  have hte : t ≠ e := kd_ne ht he (by decide)
  have er := fun k (hk : k < 6) => enr hW he (k := k) hk
  have n := fun i j (hi : (lay 1)[i]? = some true) (hj : (lay 1)[j]? = some true) (h : i ≠ j) => ene hW he hi hj h
  have hdv : dv T a (s : Int) = T s - T ((s : Int) - 1) + a := rfl
  have bs := hb (s : Int)
  have bs1 := hb ((s : Int) - 1)
  have bz := hb (z : Int)
  -- the last writes
  have at93 : ∀ (x7 s0 : Int), (s0 = 0 ∧ ¬ 0 < dv T a s) ∨ (s0 = 1 ∧ 0 < dv T a s) → fx_At E m_X1_keep 93 [some (.inr e), some (.inr t), some (.inl (s : Int)), some (.inl (z : Int)), some (.inl a), some (.inl (T ((s : Int) - 1))), some (.inl (mxT T s (z - s))), some (.inl x7)] [.inl s0] M (fun r M' => r = none ∧ EvI E M' e T a (A ++ [(s, z)]) ∧ Fo E M M' e ∧ M' e 7 = M e 7 ∧ M' e 8 = M e 8) := by
    intro x7 s0 h0
    refine b_X1_keep_93 hW e t _ _ _ _ _ _ _ M _ he ht ⟨by omega, by omega, fun M3 g3 => ?_⟩
    rw [Int.toNat_natCast] at g3
    have e3 : M3 e 6 = ((A.length : Nat) : Int) := by rw [g3, mset_o (er 5 (by decide)).symm, i1]
    rw [e3, Int.toNat_natCast]
    refine ⟨by omega, fun M5 g5 => ?_⟩
    have e5 : M5 e 6 = ((A.length : Nat) : Int) := by rw [g5, mset_o (er 0 (by decide)).symm, e3]
    rw [e5, Int.toNat_natCast]
    refine ⟨by omega, fun M7 g7 => ?_⟩
    have e7 : M7 e 6 = ((A.length : Nat) : Int) := by rw [g7, mset_o (er 1 (by decide)).symm, e5]
    have F7 : Fo E M M7 e := by
      rw [g7, g5, g3]
      exact ((Fo_mset (oe hW he (by decide))).trans (Fo_mset (oe hW he (by decide)))).trans (Fo_mset (oe hW he (by decide)))
    have T7 : tat E M7 t (z : Int) = T z := by rw [tat_fo hW ht F7 hte, hT]
    have at156 : ∀ (K : Int), K = eKd T a (s, z) → fx_At E m_X1_keep 156 [some (.inr e), some (.inr t), some (.inl (s : Int)), some (.inl (z : Int)), some (.inl a), some (.inl (T ((s : Int) - 1))), some (.inl (mxT T s (z - s))), some (.inl s0)] [.inl K, .inl (M7 e 6), .inr (rf E e 2)] M7 (fun r M' => r = none ∧ EvI E M' e T a (A ++ [(s, z)]) ∧ Fo E M M' e ∧ M' e 7 = M e 7 ∧ M' e 8 = M e 8) := by
      intro K hK
      refine b_X1_keep_156 hW e t _ _ _ _ _ _ _ _ _ M7 _ he ht (wk_1_2 hW he) ?_
      rw [e7, wl_1_2 hW he, Int.toNat_natCast]
      refine ⟨by omega, fun N2 h2 => ⟨by omega, ?_⟩⟩
      have c2 : N2 e 6 = ((A.length : Nat) : Int) := by rw [h2, mset_o (er 2 (by decide)).symm, e7]
      have F2 : Fo E M N2 e := F7.trans (by rw [h2]; exact Fo_mset (oe hW he (by decide)))
      rw [c2, Int.toNat_natCast, tat_fo hW ht F2 hte, hT]
      refine ⟨by omega, fun N5 h5 => ?_⟩
      have c5 : N5 e 6 = ((A.length : Nat) : Int) := by rw [h5, mset_o (er 3 (by decide)).symm, c2]
      rw [c5, Int.toNat_natCast]
      refine ⟨by omega, fun N7 h7 N8 h8 => ⟨rfl, ?_⟩⟩
      have c7 : N7 e 6 = ((A.length : Nat) : Int) := by rw [h7, mset_o (er 4 (by decide)).symm, c5]
      rw [c7] at h8
      have r0 : ∀ i, N8 (rf E e 0) i = if i = A.length then (s : Int) else M (rf E e 0) i := fun i => by
        rw [h8, mset_o (er 0 (by decide)), h7, mset_o (n 0 4 rfl rfl (by decide)), h5, mset_o (n 0 3 rfl rfl (by decide)), h2, mset_o (n 0 2 rfl rfl (by decide)), g7, mset_o (n 0 1 rfl rfl (by decide)), g5, mset_a, g3, mset_o (n 0 5 rfl rfl (by decide))]
      have r1 : ∀ i, N8 (rf E e 1) i = if i = A.length then (z : Int) else M (rf E e 1) i := fun i => by
        rw [h8, mset_o (er 1 (by decide)), h7, mset_o (n 1 4 rfl rfl (by decide)), h5, mset_o (n 1 3 rfl rfl (by decide)), h2, mset_o (n 1 2 rfl rfl (by decide)), g7, mset_a, g5, mset_o (n 1 0 rfl rfl (by decide)), g3, mset_o (n 1 5 rfl rfl (by decide))]
      have r2 : ∀ i, N8 (rf E e 2) i = if i = A.length then K else M (rf E e 2) i := fun i => by
        rw [h8, mset_o (er 2 (by decide)), h7, mset_o (n 2 4 rfl rfl (by decide)), h5, mset_o (n 2 3 rfl rfl (by decide)), h2, mset_a, g7, mset_o (n 2 1 rfl rfl (by decide)), g5, mset_o (n 2 0 rfl rfl (by decide)), g3, mset_o (n 2 5 rfl rfl (by decide))]
      have r3 : ∀ i, N8 (rf E e 3) i = if i = A.length then T ((s : Int) - 1) - T z - a * ((z : Int) - s + 1) else M (rf E e 3) i := fun i => by
        rw [h8, mset_o (er 3 (by decide)), h7, mset_o (n 3 4 rfl rfl (by decide)), h5, mset_a, h2, mset_o (n 3 2 rfl rfl (by decide)), g7, mset_o (n 3 1 rfl rfl (by decide)), g5, mset_o (n 3 0 rfl rfl (by decide)), g3, mset_o (n 3 5 rfl rfl (by decide))]
      have r4 : ∀ i, N8 (rf E e 4) i = if i = A.length then mxT T s (z - s) - T ((s : Int) - 1) else M (rf E e 4) i := fun i => by
        rw [h8, mset_o (er 4 (by decide)), h7, mset_a, h5, mset_o (n 4 3 rfl rfl (by decide)), h2, mset_o (n 4 2 rfl rfl (by decide)), g7, mset_o (n 4 1 rfl rfl (by decide)), g5, mset_o (n 4 0 rfl rfl (by decide)), g3, mset_o (n 4 5 rfl rfl (by decide))]
      have r5 : ∀ i, N8 (rf E e 5) i = if i = s then s0 else M (rf E e 5) i := fun i => by
        rw [h8, mset_o (er 5 (by decide)), h7, mset_o (n 5 4 rfl rfl (by decide)), h5, mset_o (n 5 3 rfl rfl (by decide)), h2, mset_o (n 5 2 rfl rfl (by decide)), g7, mset_o (n 5 1 rfl rfl (by decide)), g5, mset_o (n 5 0 rfl rfl (by decide)), g3, mset_a]
      have rv : ∀ k, k ≠ 6 → N8 e k = M e k := fun k hk => by
        rw [h8, mset_n hk, h7, mset_o (er 4 (by decide)).symm, h5, mset_o (er 3 (by decide)).symm, h2, mset_o (er 2 (by decide)).symm, g7, mset_o (er 1 (by decide)).symm, g5, mset_o (er 0 (by decide)).symm, g3, mset_o (er 5 (by decide)).symm]
      refine ⟨⟨?_, fun i p hp => ?_, fun d hd => ?_⟩, ?_, rv 7 (by decide), rv 8 (by decide)⟩
      · rw [h8, mset_s, List.length_append, List.length_singleton]; omega
      · rcases app_at hp with ⟨hi, hp⟩ | ⟨hi, rfl⟩
        · rw [r0, r1, r2, r3, r4, if_neg (by omega), if_neg (by omega), if_neg (by omega), if_neg (by omega), if_neg (by omega)]
          exact i2 i p hp
        · rw [r0, r1, r2, r3, r4, if_pos hi, if_pos hi, if_pos hi, if_pos hi, if_pos hi]
          exact ⟨rfl, rfl, hK, rfl, rfl⟩
      · rw [r5, Bon_app]
        by_cases hds : d = s
        · subst hds
          rw [if_pos rfl]
          refine ⟨by omega, fun h => Or.inr ⟨rfl, by omega⟩, fun h => ?_⟩
          have : 0 < dv T a (d : Int) := by
            rcases h with ⟨_, _, _, _, h⟩ | ⟨_, h⟩
            · exact h
            · exact h
          omega
        · rw [if_neg hds]
          refine ⟨(i3 d hd).1, fun h => Or.inl ((i3 d hd).2.mp h), fun h => ?_⟩
          rcases h with h | ⟨h, _⟩
          · exact (i3 d hd).2.mpr h
          · dsimp only at h; omega
      · exact F2.trans (by
          rw [h8, h7, h5]
          exact ((Fo_mset (oe hW he (by decide))).trans (Fo_mset (oe hW he (by decide)))).trans (Fo_mset (own_o he (by decide))))
    rw [T7]
    refine ⟨by omega, by omega, fun hne => ⟨by omega, fun h00 => at156 0 ?_, fun h01 => at156 1 ?_⟩, fun heq => at156 2 ?_⟩
    · rw [eKd, if_neg hne, if_neg (by show ¬ 0 < dv T a (s : Int); omega)]
    · rw [eKd, if_neg hne, if_pos (by show 0 < dv T a (s : Int); omega)]
    · rw [eKd, if_pos heq]
  have at53 : ∀ (m k : Nat), s + k + m = z → fx_At E m_X1_keep 53 [some (.inr e), some (.inr t), some (.inl (s : Int)), some (.inl (z : Int)), some (.inl a), some (.inl (T ((s : Int) - 1))), some (.inl (mxT T s k)), some (.inl ((s + k + 1 : Nat) : Int))] [] M (fun r M' => r = none ∧ EvI E M' e T a (A ++ [(s, z)]) ∧ Fo E M M' e ∧ M' e 7 = M e 7 ∧ M' e 8 = M e 8) := by
    intro m
    induction m with
    | zero =>
      intro k hk
      obtain rfl : k = z - s := by omega
      refine b_X1_keep_53 hW e t _ _ _ _ _ _ M _ he ht ⟨by omega, by omega, fun _ => ⟨_, ct_deviation hW ht hT (by omega), fun v3 M3 g3 => ?_⟩, fun z => absurd (by omega) z⟩
      obtain ⟨rfl, rfl⟩ := g3
      exact ⟨by omega, fun h => at93 _ 0 (Or.inl ⟨rfl, by omega⟩), fun h => at93 _ 1 (Or.inr ⟨rfl, by omega⟩)⟩
    | succ m ih =>
      intro k hk
      have bm := mxT_b hb s k
      have bt := hb ((s + k + 1 : Nat) : Int)
      refine b_X1_keep_53 hW e t _ _ _ _ _ _ M _ he ht ?_
      rw [hT]
      refine ⟨by omega, by omega, fun z => absurd z (by omega), fun _ => ⟨by omega, by omega, ?_⟩⟩
      exact ih (k + 1) (by omega)
  refine x_ct (by decide) (Nat.le_of_ble_eq_true rfl) (b_X1_keep_0 hW e t s z a M _ he ht ?_)
  rw [i1, hT, hT]
  exact ⟨by omega, fun z => absurd z (by omega), fun _ => ⟨fun z => absurd z (by omega), fun _ => ⟨by omega, fun z => absurd z (by omega), fun _ => ⟨fun _ => ⟨by omega, at53 (z - s) 0 (by omega)⟩, fun z => absurd (by omega) z⟩⟩⟩⟩
theorem ct_find (hW : fx_Wt E) {e t : Nat} {T : Int → Int} {a th : Int} (he : kd E e = 1) (ht : kd E t = 7) (hT : ∀ d, tat E M t d = T d) (hb : ∀ d, 5000 ≤ T d ∧ T d ≤ 100000000) (ha : 0 ≤ a ∧ a ≤ 60) (hth : 1 ≤ th ∧ th ≤ 5000) : CtV E m_X1_find [.inr e, .inr t, .inl a, .inl th] M (fun M' => EvI E M' e T a (evR T a th) ∧ Fo E M M' e ∧ M' e 7 = M e 7 ∧ M' e 8 = M e 8) := by
  have hte : t ≠ e := kd_ne ht he (by decide)
  have at38 : ∀ (n d s : Nat) (A : List (Nat × Nat)) (M1 : fxM), d + n = 401 → 1 ≤ d → (s = 0 ∨ s < d) → A ++ rG T a th n d s = evR T a th → EvI E M1 e T a A → Fo E M M1 e → M1 e 7 = M e 7 → M1 e 8 = M e 8 → fx_At E m_X1_find 38 [some (.inr e), some (.inr t), some (.inl a), some (.inl th), some (.inl (s : Int)), some (.inl (d : Int)), none] [] M1 (fun r M' => r = none ∧ EvI E M' e T a (evR T a th) ∧ Fo E M M' e ∧ M' e 7 = M e 7 ∧ M' e 8 = M e 8) := by
    intro n
    induction n with
    | zero =>
      intro d s A M1 hd h1 hs hA hI hF h7 h8
      rw [rG, List.append_nil] at hA
      subst hA
      exact b_X1_find_38 hW e t _ _ _ _ M1 _ he ht ⟨by omega, fun _ => ⟨rfl, hI, hF, h7, h8⟩, fun z => absurd (by omega) z⟩
    | succ n ih =>
      intro d s A M1 hd h1 hs hA hI hF h7 h8
      have hT1 : ∀ d, tat E M1 t d = T d := fun d => by rw [tat_fo hW ht hF hte, hT]
      have hlen : A.length + (rG T a th (n + 1) d s).length ≤ 200 := by
        rw [← List.length_append, hA]
        exact (evR_ok T a th).2
      have keep : ∀ (s' z : Nat) (rest : List (Nat × Nat)), 1 ≤ s' → s' ≤ z → z ≤ 400 → rG T a th (n + 1) d s = (s', z) :: rest → rest = rG T a th n (d + 1) 0 → ∃ R3 : fxM → Prop, CtV E m_X1_keep [.inr e, .inr t, .inl (s' : Int), .inl (z : Int), .inl a] M1 R3 ∧ ∀ M3 : fxM, R3 M3 → fx_At E m_X1_find 38 [some (.inr e), some (.inr t), some (.inl a), some (.inl th), some (.inl 0), some (.inl ((d : Int) + 1)), none] [] M3 (fun r M' => r = none ∧ EvI E M' e T a (evR T a th) ∧ Fo E M M' e ∧ M' e 7 = M e 7 ∧ M' e 8 = M e 8) := by
        intro s' z rest b1 b2 b3 hr hrest
        rw [hr, List.length_cons] at hlen
        refine ⟨_, ct_keep1 hW he ht hT1 hb ha hI (by omega) b1 b2 b3, fun M3 g3 => ?_⟩
        refine ih (d + 1) 0 (A ++ [(s', z)]) M3 (by omega) (by omega) (Or.inl rfl) ?_ g3.1 (hF.trans g3.2.1) (g3.2.2.1.trans h7) (g3.2.2.2.trans h8)
        rw [List.append_assoc, ← hrest, List.singleton_append, ← hr, hA]
      have at88m : ∀ (s' : Nat) (v : Int), s' = (if s = 0 then d else s) → mkd T a th (d : Int) → d = 400 → v = 1 → fx_At E m_X1_find 88 [some (.inr e), some (.inr t), some (.inl a), some (.inl th), some (.inl (s' : Int)), some (.inl (d : Int)), some (.inl v)] [] M1 (fun r M' => r = none ∧ EvI E M' e T a (evR T a th) ∧ Fo E M M' e ∧ M' e 7 = M e 7 ∧ M' e 8 = M e 8) := by
        intro s' v hs' hm h4 hv
        have b : 1 ≤ s' ∧ s' ≤ d := by rw [hs']; split <;> omega
        refine b_X1_find_88 hW e t _ _ _ _ _ M1 _ he ht ⟨by omega, fun z => absurd z (by omega), fun _ => ?_⟩
        exact keep s' d _ b.1 b.2 (by omega) (by rw [rG, if_pos hm, if_pos h4, ← hs']) rfl
      have at88u : ¬ mkd T a th (d : Int) → s ≠ 0 → fx_At E m_X1_find 88 [some (.inr e), some (.inr t), some (.inl a), some (.inl th), some (.inl (s : Int)), some (.inl (d : Int)), some (.inl 0)] [] M1 (fun r M' => r = none ∧ EvI E M' e T a (evR T a th) ∧ Fo E M M' e ∧ M' e 7 = M e 7 ∧ M' e 8 = M e 8) := by
        intro hm hs0
        refine b_X1_find_88 hW e t _ _ _ _ _ M1 _ he ht ⟨by decide, fun _ => ?_, fun z => absurd rfl z⟩
        rw [show (d : Int) - 1 = ((d - 1 : Nat) : Int) by omega]
        exact keep s (d - 1) _ (by omega) (by omega) (by omega) (by rw [rG, if_neg hm, if_neg hs0]) rfl
      refine b_X1_find_38 hW e t _ _ _ _ M1 _ he ht ⟨by omega, fun z => absurd z (by omega), fun _ => ⟨_, ct_isMarked hW ht hT1 hb ha hth (by omega), fun v2 M2 g2 => ?_⟩⟩
      obtain ⟨rfl, rfl⟩ := g2
      by_cases hm : mkd T a th (d : Int)
      · rw [if_pos hm]
        have go : d ≠ 400 → ∀ s' : Nat, s' = (if s = 0 then d else s) → fx_At E m_X1_find 38 [some (.inr e), some (.inr t), some (.inl a), some (.inl th), some (.inl (s' : Int)), some (.inl ((d : Int) + 1)), none] [] M2 (fun r M' => r = none ∧ EvI E M' e T a (evR T a th) ∧ Fo E M M' e ∧ M' e 7 = M e 7 ∧ M' e 8 = M e 8) := by
          intro h4 s' hs'
          have b : 1 ≤ s' ∧ s' ≤ d := by rw [hs']; split <;> omega
          refine ih (d + 1) s' A M2 (by omega) (by omega) (Or.inr (by omega)) ?_ hI hF h7 h8
          rw [rG, if_pos hm, if_neg h4, ← hs'] at hA
          exact hA
        refine ⟨by decide, fun z => absurd z (by decide), fun _ => ⟨by omega, fun hs0 => ⟨fun z => absurd z (by omega), fun _ => ⟨fun z => absurd z (by decide), fun _ => ⟨fun h4 => go (by omega) s (by rw [if_neg (by omega)]), fun h4 => at88m s 1 (by rw [if_neg (by omega)]) hm (by omega) rfl⟩⟩⟩, fun hs0 => ⟨fun z => absurd z (by omega), fun _ => ⟨fun z => absurd z (by decide), fun _ => ⟨fun h4 => go (by omega) d (by rw [if_pos (by omega)]), fun h4 => at88m d 1 (by rw [if_pos (by omega)]) hm (by omega) rfl⟩⟩⟩⟩⟩
      · rw [if_neg hm]
        refine ⟨by decide, fun _ => ⟨by omega, fun hs0 => ?_, fun hs0 => ⟨fun _ => at88u hm (by omega), fun z => absurd rfl z⟩⟩, fun z => absurd rfl z⟩
        have hs00 : s = 0 := by omega
        subst hs00
        refine ih (d + 1) 0 A M2 (by omega) (by omega) (Or.inl rfl) ?_ hI hF h7 h8
        rw [rG, if_neg hm, if_pos rfl] at hA
        exact hA
  have at8 : ∀ (n x : Nat) (M1 : fxM), x + n = 401 → M1 e 6 = 0 → Fo E M M1 e → M1 e 7 = M e 7 → M1 e 8 = M e 8 → (∀ d, d < x → M1 (rf E e 5) d = 0) → fx_At E m_X1_find 8 [some (.inr e), some (.inr t), some (.inl a), some (.inl th), some (.inl (x : Int)), none, none] [] M1 (fun r M' => r = none ∧ EvI E M' e T a (evR T a th) ∧ Fo E M M' e ∧ M' e 7 = M e 7 ∧ M' e 8 = M e 8) := by
    intro n
    induction n with
    | zero =>
      intro x M1 hx h6 hF h7 h8 hz
      refine b_X1_find_8 hW e t _ _ _ M1 _ he ht ⟨by omega, fun _ => ?_, fun z => absurd (by omega) z⟩
      refine at38 400 1 0 [] M1 rfl (by omega) (Or.inl rfl) rfl ⟨h6, fun i p hp => by simp at hp, fun d hd => ?_⟩ hF h7 h8
      rw [hz d (by omega)]
      exact ⟨Or.inl rfl, fun z => absurd z (by decide), fun ⟨i, p, hp, _⟩ => by simp at hp⟩
    | succ n ih =>
      intro x M1 hx h6 hF h7 h8 hz
      have e5 := enr hW he (k := 5) (by decide)
      refine b_X1_find_8 hW e t _ _ _ M1 _ he ht ⟨by omega, fun z => absurd z (by omega), fun _ => ⟨by omega, fun M3 g3 => ?_⟩⟩
      rw [Int.toNat_natCast] at g3
      refine ih (x + 1) M3 (by omega) (by rw [g3, mset_o e5.symm, h6]) (hF.trans (by rw [g3]; exact Fo_mset (oe hW he (by decide)))) (by rw [g3, mset_o e5.symm, h7]) (by rw [g3, mset_o e5.symm, h8]) (fun d hd => ?_)
      rw [g3]
      by_cases hdx : d = x
      · rw [hdx, mset_s]
      · rw [mset_n hdx]; exact hz d (by omega)
  refine x_ct (by decide) (Nat.le_of_ble_eq_true rfl) (b_X1_find_0 hW e t a th M _ he ht (fun M1 g1 => ?_))
  exact at8 401 0 M1 rfl (by rw [g1, mset_s]) (by rw [g1]; exact Fo_mset (own_o he (by decide))) (by rw [g1, mset_n (by decide)]) (by rw [g1, mset_n (by decide)]) (fun d hd => absurd hd (by omega))
end
