/-! Joins: what two lists of events say of them; the class. -/
/-- the b-th of side 1 may be joined to an event that starts at s -/
def jok (T : Int → Int) (a : Int) (L : List (Nat × Nat)) (t tl : Int) (P : List (Nat × Nat)) (s : Int) (b : Nat) : Prop := (∃ p, L[b]? = some p ∧ eKd T a p ≠ 2 ∧ (-tl ≤ s + (p.1 : Int) - t ∧ s + (p.1 : Int) - t ≤ tl)) ∧ ¬ ∃ q, q ∈ P ∧ q.2 = b
noncomputable def ptG (T : Int → Int) (a : Int) (L : List (Nat × Nat)) (t tl : Int) (P : List (Nat × Nat)) (s : Int) : Nat → Nat → Int
  | 0, _ => -1000005
  | n + 1, b => @ite Int (jok T a L t tl P s b) (Classical.propDecidable _) (b : Int) (ptG T a L t tl P s n (b + 1))
/-- the pairs, with those of the first k joined already -/
noncomputable def pG (T0 T1 : Int → Int) (a : Int) (L0 L1 : List (Nat × Nat)) (t tl : Int) : Nat → Nat → List (Nat × Nat) → List (Nat × Nat)
  | 0, _, P => P
  | n + 1, k, P => match L0[k]? with
    | none => pG T0 T1 a L0 L1 t tl n (k + 1) P
    | some p => if eKd T0 a p = 2 ∨ ptG T1 a L1 t tl P (p.1 : Int) L1.length 0 = -1000005 then pG T0 T1 a L0 L1 t tl n (k + 1) P else pG T0 T1 a L0 L1 t tl n (k + 1) (P ++ [(k, (ptG T1 a L1 t tl P (p.1 : Int) L1.length 0).toNat)])
theorem ptG_b {T : Int → Int} {a : Int} {L : List (Nat × Nat)} {t tl : Int} {P : List (Nat × Nat)} {s : Int} : ∀ (n b : Nat), ptG T a L t tl P s n b = -1000005 ∨ ((b : Int) ≤ ptG T a L t tl P s n b ∧ ptG T a L t tl P s n b < ((b + n : Nat) : Int))
  | 0, b => Or.inl rfl
  | n + 1, b => by
    rw [ptG]
    by_cases h : jok T a L t tl P s b
    · rw [if_pos h]; right; omega
    · rw [if_neg h]
      rcases ptG_b (T := T) (a := a) (L := L) (t := t) (tl := tl) (P := P) (s := s) n (b + 1) with z | z
      · exact Or.inl z
      · right; omega
def PI (E : fxE) (M : fxM) (r : Nat) (P : List (Nat × Nat)) : Prop := M r 3 = ((P.length : Nat) : Int) ∧ (∀ i q, P[i]? = some q → M (rf E r 0) i = (q.1 : Int) ∧ M (rf E r 1) i = (q.2 : Int)) ∧ ∀ b : Nat, b < 200 → (M (rf E r 2) b = 0 ∨ M (rf E r 2) b = 1) ∧ (M (rf E r 2) b = 1 ↔ ∃ q, q ∈ P ∧ q.2 = b)
section
variable {E : fxE} {M : fxM}
theorem oj (hW : fx_Wt E) {r k : Nat} (hr : kd E r = 4) (hk : k < 3) : own E (rf E r k) = r := by
  match k, hk with
  | 0, _ => exact own_r hW hr (wk_4_0 hW hr) (by decide) rfl (by decide)
  | 1, _ => exact own_r hW hr (wk_4_1 hW hr) (by decide) rfl (by decide)
  | 2, _ => exact own_r hW hr (wk_4_2 hW hr) (by decide) rfl (by decide)
theorem jne (hW : fx_Wt E) {r i j : Nat} (hr : kd E r = 4) (hi : (lay 4)[i]? = some true) (hj : (lay 4)[j]? = some true) (h : i ≠ j) : rf E r i ≠ rf E r j := one_ne hW hr (by decide) hi hj h
theorem jnr (hW : fx_Wt E) {r k : Nat} (hr : kd E r = 4) (hk : k < 3) : rf E r k ≠ r := fun z => by
  match k, hk with
  | 0, _ => exact kd_ne (wk_4_0 hW hr) hr (by decide) z
  | 1, _ => exact kd_ne (wk_4_1 hW hr) hr (by decide) z
  | 2, _ => exact kd_ne (wk_4_2 hW hr) hr (by decide) z
theorem EvI.fo {M' : fxM} (hW : fx_Wt E) {e x : Nat} {T : Int → Int} {a : Int} {A : List (Nat × Nat)} (he : kd E e = 1) (h : EvI E M e T a A) (hF : Fo E M M' x) (hne : e ≠ x) : EvI E M' e T a A := by
  have hs : Sa E M M' e := hF.sa hne
  exact h.sa hW he (fun k hk => hs _ (oe hW he hk)) (by rw [hs e (own_o he (by decide))])
theorem ct_partner (hW : fx_Wt E) {r e : Nat} {T : Int → Int} {a s t tl : Int} {L P : List (Nat × Nat)} (hr : kd E r = 4) (he : kd E e = 1) (hI : EvI E M e T a L) (hL : RunOk 1 L) (hN : L.length ≤ 200) (hP : PI E M r P) (hs : 1 ≤ s ∧ s ≤ 400) (ht : 0 ≤ t ∧ t ≤ 300) (htl : 0 ≤ tl ∧ tl ≤ 20) : CtI E m_X4_partner [.inr r, .inl s, .inr e, .inl t, .inl tl] M (fun x M' => x = ptG T a L t tl P s L.length 0 ∧ M' = M) := by
  have h6 := hI.1
  have key : ∀ (n b : Nat), b + n = L.length → fx_At E m_X4_partner 3 [some (.inr r), some (.inl s), some (.inr e), some (.inl t), some (.inl tl), some (.inl (b : Int)), none] [] M (fun x M' => ∃ y : Int, x = some (.inl y) ∧ y = ptG T a L t tl P s n b ∧ M' = M) := by
    intro n
    induction n with
    | zero =>
      intro b hb
      exact b_X4_partner_3 hW r _ _ _ _ _ M _ hr he ⟨by omega, by omega, fun _ => ⟨_, rfl, rfl, rfl⟩, fun z => absurd (by omega) z⟩
    | succ n ih =>
      intro b hb
      obtain ⟨p, hp⟩ : ∃ p, L[b]? = some p := ⟨L[b]'(by omega), List.getElem?_eq_getElem (by omega)⟩
      have hpb := hL.at hp
      have es : evS E M e (b : Int) = (p.1 : Int) := by rw [evS, h6, if_pos (by omega), Int.toNat_natCast, (hI.2.1 b p hp).1]
      have hT := hP.2.2 b (by omega)
      have h' := ih (b + 1) (by omega)
      have skip : ¬ jok T a L t tl P s b → fx_At E m_X4_partner 3 [some (.inr r), some (.inl s), some (.inr e), some (.inl t), some (.inl tl), some (.inl ((b : Int) + 1)), none] [] M (fun x M' => ∃ y : Int, x = some (.inl y) ∧ y = ptG T a L t tl P s (n + 1) b ∧ M' = M) := fun hn => by
        rw [ptG, if_neg hn]
        exact h'
      refine b_X4_partner_3 hW r _ _ _ _ _ M _ hr he ?_
      rw [es, Int.toNat_natCast]
      refine ⟨by omega, by omega, fun z => absurd z (by omega), fun _ => ⟨fun z => absurd z (by omega), fun _ => ⟨by omega, by omega, by omega, ?_, fun h1 => skip (fun z => ?_), fun h0 => ⟨_, ct_isInside hW he hI hN hp, fun v7 M7 g7 => ?_⟩⟩⟩⟩
      · obtain ⟨hT1, -⟩ := hT
        omega
      · obtain ⟨hT1, hT2⟩ := hT
        have : M (rf E r 2) b = 1 := by omega
        exact z.2 (hT2.mp this)
      · obtain ⟨rfl, rfl⟩ := g7
        have nt : ¬ ∃ q, q ∈ P ∧ q.2 = b := fun z => by
          have := hT.2.mpr z
          omega
        by_cases hk : eKd T a p = 2
        · rw [if_pos hk]
          refine ⟨by decide, fun _ => skip (fun z => ?_), fun z => absurd rfl z⟩
          obtain ⟨⟨q, hq, hk2, _⟩, _⟩ := z
          rw [hp] at hq
          cases hq
          exact hk2 hk
        · rw [if_neg hk]
          refine ⟨by decide, fun z => absurd z (by decide), fun _ => ⟨by split <;> omega, by omega, fun hgt => skip (fun z => ?_), fun hle => ⟨_, rfl, ?_, rfl⟩⟩⟩
          · obtain ⟨⟨q, hq, _, hr2⟩, _⟩ := z
            rw [hp] at hq
            cases hq
            clear hT nt hP
            split at hgt <;> omega
          · rw [ptG, if_pos ⟨⟨p, hp, hk, by clear hT nt hP; split at hle <;> omega⟩, nt⟩]
  refine x_ct (by decide) (Nat.le_of_ble_eq_true rfl) (b_X4_partner_0 hW r s e t tl M _ hr he ?_)
  exact key L.length 0 (by omega)
theorem ct_keep4 (hW : fx_Wt E) {r k b : Nat} {P : List (Nat × Nat)} (hr : kd E r = 4) (hP : PI E M r P) (hl : P.length < 200) (hb : b < 200) : CtV E m_X4_keep [.inr r, .inl (k : Int), .inl (b : Int)] M (fun M' => PI E M' r (P ++ [(k, b)]) ∧ Fo E M M' r) := by
  obtain ⟨i1, i2, i3⟩ := hP
  have er := fun k (hk : k < 3) => jnr hW hr (k := k) hk
  have n01 : rf E r 0 ≠ rf E r 1 := jne hW hr rfl rfl (by decide)
  have n02 : rf E r 0 ≠ rf E r 2 := jne hW hr rfl rfl (by decide)
  have n12 : rf E r 1 ≠ rf E r 2 := jne hW hr rfl rfl (by decide)
  refine x_ct (by decide) (Nat.le_of_ble_eq_true rfl) (b_X4_keep_0 hW r k b M _ hr ?_)
  rw [i1, Int.toNat_natCast]
  refine ⟨by omega, fun z => absurd z (by omega), fun _ => ⟨by omega, fun z => absurd z (by omega), fun _ => ⟨fun _ => ⟨by omega, fun M4 g4 => ?_⟩, fun z => absurd (by omega) z⟩⟩⟩
  have c4 : M4 r 3 = ((P.length : Nat) : Int) := by rw [g4, mset_o (er 2 (by decide)).symm, i1]
  rw [c4, Int.toNat_natCast]
  refine ⟨by omega, fun M6 g6 => ?_⟩
  have c6 : M6 r 3 = ((P.length : Nat) : Int) := by rw [g6, mset_o (er 0 (by decide)).symm, c4]
  rw [c6, Int.toNat_natCast]
  refine ⟨by omega, fun M8 g8 M9 g9 => ⟨rfl, ⟨?_, fun i q hq => ?_, fun c hc => ?_⟩, ?_⟩⟩
  · have c8 : M8 r 3 = ((P.length : Nat) : Int) := by rw [g8, mset_o (er 1 (by decide)).symm, c6]
    rw [g9, mset_s, c8, List.length_append, List.length_singleton]; omega
  · have r0 : M9 (rf E r 0) i = if i = P.length then (k : Int) else M (rf E r 0) i := by
      rw [g9, mset_o (er 0 (by decide)), g8, mset_o n01, g6, mset_a, g4, mset_o n02]
    have r1 : M9 (rf E r 1) i = if i = P.length then (b : Int) else M (rf E r 1) i := by
      rw [g9, mset_o (er 1 (by decide)), g8, mset_a, g6, mset_o n01.symm, g4, mset_o n12]
    rw [r0, r1]
    rcases app_at hq with ⟨hi, hq⟩ | ⟨hi, rfl⟩
    · rw [if_neg (by omega), if_neg (by omega)]; exact i2 i q hq
    · rw [if_pos hi, if_pos hi]; exact ⟨rfl, rfl⟩
  · have r2 : M9 (rf E r 2) c = if c = b then 1 else M (rf E r 2) c := by
      rw [g9, mset_o (er 2 (by decide)), g8, mset_o n12.symm, g6, mset_o n02.symm, g4, mset_a]
    rw [r2]
    by_cases hcb : c = b
    · rw [if_pos hcb]
      exact ⟨Or.inr rfl, fun _ => ⟨(k, b), by simp, hcb.symm⟩, fun _ => rfl⟩
    · rw [if_neg hcb]
      refine ⟨(i3 c hc).1, fun h => ?_, fun h => (i3 c hc).2.mpr ?_⟩
      · obtain ⟨q, h1, h2⟩ := (i3 c hc).2.mp h
        exact ⟨q, by simp [h1], h2⟩
      · obtain ⟨q, h1, h2⟩ := h
        rcases List.mem_append.mp h1 with h1 | h1
        · exact ⟨q, h1, h2⟩
        · have : q = (k, b) := by simpa using h1
          subst this
          exact absurd h2.symm hcb
  · rw [g9, g8, g6, g4]
    exact (((Fo_mset (oj hW hr (by decide))).trans (Fo_mset (oj hW hr (by decide)))).trans (Fo_mset (oj hW hr (by decide)))).trans (Fo_mset (own_o hr (by decide)))
theorem ct_pair (hW : fx_Wt E) {r e0 e1 : Nat} {T0 T1 : Int → Int} {a t tl : Int} {L0 L1 : List (Nat × Nat)} (hr : kd E r = 4) (h0 : kd E e0 = 1) (h1 : kd E e1 = 1) (hI0 : EvI E M e0 T0 a L0) (hI1 : EvI E M e1 T1 a L1) (hL0 : RunOk 1 L0) (hL1 : RunOk 1 L1) (hN0 : L0.length ≤ 200) (hN1 : L1.length ≤ 200) (ht : 0 ≤ t ∧ t ≤ 300) (htl : 0 ≤ tl ∧ tl ≤ 20) : CtV E m_X4_pair [.inr r, .inr e0, .inr e1, .inl t, .inl tl] M (fun M' => PI E M' r (pG T0 T1 a L0 L1 t tl L0.length 0 []) ∧ Fo E M M' r) := by
  have n0 : e0 ≠ r := kd_ne h0 hr (by decide)
  have n1 : e1 ≠ r := kd_ne h1 hr (by decide)
  have at35 : ∀ (n k : Nat) (P : List (Nat × Nat)) (M1 : fxM), k + n = L0.length → P.length ≤ k → PI E M1 r P → Fo E M M1 r → fx_At E m_X4_pair 35 [some (.inr r), some (.inr e0), some (.inr e1), some (.inl t), some (.inl tl), some (.inl (k : Int)), none] [] M1 (fun x M' => x = none ∧ PI E M' r (pG T0 T1 a L0 L1 t tl n k P) ∧ Fo E M M' r) := by
    intro n
    induction n with
    | zero =>
      intro k P M1 hk hPk hP hF
      have I0 := hI0.fo hW h0 hF n0
      refine b_X4_pair_35 hW r e0 e1 _ _ _ M1 _ hr h0 h1 ?_
      rw [I0.1]
      exact ⟨by omega, by omega, fun _ => ⟨rfl, hP, hF⟩, fun z => absurd (by omega) z⟩
    | succ n ih =>
      intro k P M1 hk hPk hP hF
      have I0 := hI0.fo hW h0 hF n0
      have I1 := hI1.fo hW h1 hF n1
      obtain ⟨p, hp⟩ : ∃ p, L0[k]? = some p := ⟨L0[k]'(by omega), List.getElem?_eq_getElem (by omega)⟩
      have hpb := hL0.at hp
      have es : evS E M1 e0 (k : Int) = (p.1 : Int) := by rw [evS, I0.1, if_pos (by omega), Int.toNat_natCast, (I0.2.1 k p hp).1]
      have ep : pG T0 T1 a L0 L1 t tl (n + 1) k P = if eKd T0 a p = 2 ∨ ptG T1 a L1 t tl P (p.1 : Int) L1.length 0 = -1000005 then pG T0 T1 a L0 L1 t tl n (k + 1) P else pG T0 T1 a L0 L1 t tl n (k + 1) (P ++ [(k, (ptG T1 a L1 t tl P (p.1 : Int) L1.length 0).toNat)]) := by
        rw [pG, hp]
      rw [ep]
      have pb := ptG_b (T := T1) (a := a) (L := L1) (t := t) (tl := tl) (P := P) (s := (p.1 : Int)) L1.length 0
      refine b_X4_pair_35 hW r e0 e1 _ _ _ M1 _ hr h0 h1 ?_
      rw [I0.1]
      refine ⟨by omega, by omega, fun z => absurd z (by omega), fun _ => ⟨_, ct_isInside hW h0 I0 hN0 hp, fun v3 M3 g3 => ?_⟩⟩
      obtain ⟨rfl, rfl⟩ := g3
      by_cases hk2 : eKd T0 a p = 2
      · rw [if_pos hk2, if_pos (Or.inl hk2)]
        exact ⟨by decide, fun _ => ih (k + 1) P M3 (by omega) (by omega) hP hF, fun z => absurd rfl z⟩
      · rw [if_neg hk2, es]
        refine ⟨by decide, fun z => absurd z (by decide), fun _ => ⟨by rw [I0.1]; omega, _, ct_partner hW hr h1 I1 hL1 hN1 hP (by omega) ht htl, fun v6 M6 g6 => ?_⟩⟩
        obtain ⟨rfl, rfl⟩ := g6
        refine ⟨by omega, fun hn => ?_, fun hn => ?_⟩
        · rw [if_pos (Or.inr hn)]
          exact ih (k + 1) P M6 (by omega) (by omega) hP hF
        · rw [if_neg (fun z => z.elim hk2 hn)]
          obtain ⟨b, hb⟩ : ∃ b : Nat, ptG T1 a L1 t tl P (p.1 : Int) L1.length 0 = (b : Int) := ⟨(ptG T1 a L1 t tl P (p.1 : Int) L1.length 0).toNat, by omega⟩
          rw [hb, Int.toNat_natCast]
          refine ⟨_, ct_keep4 hW hr hP (by omega) (by omega), fun M8 g8 => ?_⟩
          exact ih (k + 1) (P ++ [(k, b)]) M8 (by omega) (by rw [List.length_append, List.length_singleton]; omega) g8.1 (hF.trans g8.2)
  have at8 : ∀ (n x : Nat) (M1 : fxM), x + n = 200 → M1 r 3 = 0 → Fo E M M1 r → (∀ d, d < x → M1 (rf E r 2) d = 0) → fx_At E m_X4_pair 8 [some (.inr r), some (.inr e0), some (.inr e1), some (.inl t), some (.inl tl), some (.inl (x : Int)), none] [] M1 (fun x M' => x = none ∧ PI E M' r (pG T0 T1 a L0 L1 t tl L0.length 0 []) ∧ Fo E M M' r) := by
    intro n
    induction n with
    | zero =>
      intro x M1 hx h3 hF hz
      refine b_X4_pair_8 hW r e0 e1 _ _ _ M1 _ hr h0 h1 ⟨by omega, fun _ => ?_, fun z => absurd (by omega) z⟩
      refine at35 L0.length 0 [] M1 (by omega) (by simp) ⟨h3, fun i q hq => by simp at hq, fun b hb => ?_⟩ hF
      rw [hz b (by omega)]
      exact ⟨Or.inl rfl, fun z => absurd z (by decide), fun ⟨q, hq, _⟩ => by simp at hq⟩
    | succ n ih =>
      intro x M1 hx h3 hF hz
      have e2 := jnr hW hr (k := 2) (by decide)
      refine b_X4_pair_8 hW r e0 e1 _ _ _ M1 _ hr h0 h1 ⟨by omega, fun z => absurd z (by omega), fun _ => ⟨by omega, fun M3 g3 => ?_⟩⟩
      rw [Int.toNat_natCast] at g3
      refine ih (x + 1) M3 (by omega) (by rw [g3, mset_o e2.symm, h3]) (hF.trans (by rw [g3]; exact Fo_mset (oj hW hr (by decide)))) (fun d hd => ?_)
      rw [g3]
      by_cases hdx : d = x
      · rw [hdx, mset_s]
      · rw [mset_n hdx]; exact hz d (by omega)
  refine x_ct (by decide) (Nat.le_of_ble_eq_true rfl) (b_X4_pair_0 hW r e0 e1 t tl M _ hr h0 h1 (fun M1 g1 => ?_))
  exact at8 200 0 M1 rfl (by rw [g1, mset_s]) (by rw [g1]; exact Fo_mset (own_o hr (by decide))) (fun d hd => absurd hd (by omega))
end
