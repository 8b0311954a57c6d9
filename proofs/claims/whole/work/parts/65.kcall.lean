/-! A method of the pure machine called while objects are being made; shapes out of tables. -/
theorem fx_sta {E : fxE} {B : Nat} {s : State} (hst : fx_st E s s.heap) (hA : kA E B) : (∀ j, j < 3 → sta E j < B) ∧ sta E 0 ≠ sta E 1 ∧ sta E 0 ≠ sta E 2 ∧ sta E 1 ≠ sta E 2 := by
  have h : ∀ j, j < 3 → sta E j < B := fun j hj => by
    obtain ⟨cell, -, -, -, -, -, -, h7⟩ := fx_T hst hj
    exact Nat.not_le.mp (fun z => h7 ((hA _).mpr z))
  have d : ∀ i j, i < 3 → j < 3 → i3 (sv i 0) ≠ i3 (sv j 0) → sta E i ≠ sta E j := fun i j hi hj hne e => by
    obtain ⟨c1, a1, -, -, -, -, a6, -⟩ := fx_T hst hi
    obtain ⟨c2, b1, -, -, -, -, b6, -⟩ := fx_T hst hj
    rw [e] at a1
    cases a1.symm.trans b1
    have p1 : ∀ k, k < 3 → 0 < sN k := by decide
    have h1 := a6 0 (p1 i hi)
    have h2 := b6 0 (p1 j hj)
    have h3 := h1.symm.trans h2
    exact hne (by injection h3 with h4; injection h4)
  exact ⟨h, d 0 1 (by decide) (by decide) (by decide +kernel), d 0 2 (by decide) (by decide) (by decide +kernel), d 1 2 (by decide) (by decide) (by decide +kernel)⟩
def StaOk (E : fxE) (B : Nat) : Prop := (∀ j, j < 3 → sta E j < B) ∧ sta E 0 ≠ sta E 1 ∧ sta E 0 ≠ sta E 2 ∧ sta E 1 ≠ sta E 2
section
variable {E : fxE} {B : Nat} {y : fxY} {mc ms n : Nat} {f0 : Nat → va_E} {pc : Nat} {lv : List (Option fxV)} {stk : List fxV} {tb : List kent} {sl : Nat} {Q : (Nat → va_E) → Prop}
theorem fx_plat {E1 : fxE} {M : fxM} {H : Heap} (h : fx_P E1 M H) {a : Nat} (ha : a ∈ eL E1) : va_at (eD E1) vwCl (a, cel E1 a (M a)) H := by
  obtain ⟨k, hk⟩ := va_pl_get (X := []) (f := fun b => cel E1 b (M b)) ha
  exact h k _ hk
theorem fx_Pof {E1 : fxE} {M : fxM} {H : Heap} (h : ∀ a, a ∈ eL E1 → va_at (eD E1) vwCl (a, cel E1 a (M a)) H) : fx_P E1 M H := by
  intro k q hk
  unfold fx_pl va_pl at hk
  rw [List.getElem?_map] at hk
  cases hL : (eL E1)[k]? with
  | none => rw [hL] at hk; cases hk
  | some a =>
    rw [hL] at hk
    cases hk
    exact h a (List.mem_of_getElem? hL)
theorem t_callF {z : fxY} {i b C : Nat} {as : List fxV} {E1 : fxE} {M1 : fxM} {Rm : fxM → Prop} (hd : decode (mC y) pc = .ok (.invokevirtual i, 3)) (hc : CalV (mN y).cls i z as.length C) (hf1 : mF z + 1 ≤ mF y ∧ 8 + (mL z + 11) + mO z ≤ mO y) (hm : tb.length ≤ mc + 1 ∧ sl ≤ ms) (hrest : stk.length ≤ 8)
    (hE : eD E1 = eD E ∧ eY E1 = eY E ∧ ∀ j, sta E1 j = sta E j) (hL : ∀ a, a ∈ eL E1 → B + n ≤ a ∧ a < B + n + tb.length) (hAe : ∀ q, eA E1 q → q ∈ eL E1) (hO : StaOk E B → fx_Ok E1)
    (hM : ∀ o t, tb[o]? = some t → B + n + o ∈ eL E1 → kcell E (B + n) t = cel E1 (B + n + o) (M1 (B + n + o))) (hb : kd E1 b = C) (hct : CtV E1 z (.inr b :: as) M1 Rm)
    (kk : ∀ M', Rm M' → ∃ tb' : List kent, tb'.length = tb.length ∧ (∀ o t, tb'[o]? = some t → (B + n + o ∈ eL E1 → kcell E (B + n) t = cel E1 (B + n + o) (M' (B + n + o))) ∧ (B + n + o ∉ eL E1 → tb[o]? = some t)) ∧ kt_At E B y mc ms n f0 (pc + 3) lv stk tb' sl Q) : kt_At E B y mc ms n f0 pc lv (as.reverse ++ .inr b :: stk) tb sl Q := by
  intro hA h0 p l e s m args below meth c C0 hs H locs ls f hS hl hH hf hP
  obtain ⟨⟨hx, hbc, hml, hr, hlk, hown, hts, hK, hst, hns⟩, hin, hkn⟩ := id C0
  obtain ⟨c1, c2, c3, c4, c5, c6, c7, T, N, c8⟩ := hc
  obtain ⟨eD1, eY1, eS1⟩ := hE
  have hO1 := hO (fx_sta hst hA)
  have hAA : ∀ q, eA E1 q → eA E q := fun q hq => (hA q).mpr (by have := hL q (hAe q hq); omega)
  have hcell : ∀ a, a ∈ eL E1 → f a = cel E1 a (M1 a) := fun a ha => by
    obtain ⟨h1, h2⟩ := hL a ha
    obtain ⟨t, ht⟩ : ∃ t, tb[a - (B + n)]? = some t := ⟨_, List.getElem?_eq_getElem (by omega)⟩
    have ea : B + n + (a - (B + n)) = a := by omega
    have h3 := hH _ t ht
    rw [ea] at h3
    rw [h3]
    have h4 := hM _ t ht (by rw [ea]; exact ha)
    rw [ea] at h4
    exact h4
  have hP1 : fx_P E1 M1 H := fx_Pof (fun a ha => by
    obtain ⟨h1, h2⟩ := hL a ha
    have h3 := hP.2 (a - B) _ (k_at (by omega))
    rw [show B + (a - B) = a by omega, hcell a ha] at h3
    rw [eD1]
    exact h3)
  have hty : fx_ty E1 = fx_ty E := by unfold fx_ty; rw [eY1]
  have hstN : ∀ U : State, fx_st E U U.heap → fx_st E1 U U.heap := fun U hU => by
    unfold fx_st at hU ⊢
    rw [eS1 0, eS1 1, eS1 2]
    exact ⟨⟨hU.1.1.narrow hAA, hU.1.2.narrow hAA⟩, ⟨hU.2.1.1.narrow hAA, hU.2.1.2.narrow hAA⟩, hU.2.2.1.narrow hAA, hU.2.2.2.narrow hAA⟩
  have hbL : b ∈ eL E1 := hO1.1 b (by omega)
  obtain ⟨hb1, hb2⟩ := hL b hbL
  obtain ⟨q, hq⟩ := k_get (B := B) (N := n + tb.length) (a := b) (f := f) (by omega) (by omega)
  rw [hcell b hbL, cel_o hb c7] at hq
  have hrun : va_Run p l e (kR y mc ms) s m args below meth c H locs (tb.length - 1) sl 0 0 (F0 m pc ls ((as.reverse ++ .inr b :: stk).map em)) (stk.map em) (fx_Q E1 (fun r M' => r = none ∧ Rm M') (Value.ref b :: as.map em).toArray) (eA E1) := by
    refine va_runV (As := as.map em) (rest := stk.map em) (b := b) (n := as.length) ⟨hx, hbc, hml, hown, hts⟩ (hct hO1 l) ⟨callB_of as.length hts (fx_goodIn c5) rfl rfl rfl (fx_w hts c4) (fx_w hts c1) c6 hf1, fx_w hts c2, fx_w hts c3⟩ ⟨fx_blind, va_recv hK hP.2 c8 hq, fun U hU hW => ⟨rfl, by rw [hU]; exact hP1, by rw [hty, eD1]; exact va_K.moved hW.alike hK, hstN U (fx_stM hst hS hU hW.alike), fx_nsM hns hW⟩⟩ rfl (by simp) hl.1 ?_ (lv_room (by rw [fx_cat]; exact hrest)) hd ⟨by show tb.length - 1 + 0 ≤ mc; omega, by show sl + 0 ≤ ms; omega⟩
    simp [em]
  intro T hT X
  obtain ⟨v, st₀, t, T', L, h0', X', hL', e1, e2, ⟨⟨r, M', hv, ⟨hr0, hRm⟩, hW⟩, hz, hk⟩, st⟩ := hrun T hT X
  subst hr0
  have hv' : v = none := by cases hv; rfl
  subst hv'
  rw [h0'] at hz hk
  obtain ⟨tb', g1, g2, g3⟩ := kk M' hRm
  have hS' : va_S (eA E) s.heap T'.heap (locs ++ L) := by
    refine ⟨Nat.le_trans hS.1 (by rw [e1]; exact hz), fun q h1 h2 => ?_, fun q hq => ?_⟩
    · rw [e1, hk q (Nat.lt_of_lt_of_le h1 hS.1) (fun z => h2 (hAA q z))]
      exact hS.2.1 q h1 h2
    · rcases List.mem_append.mp hq with h | h
      · exact hS.2.2 q h
      · exact hAA _ (hL' q h)
  have hsz : T'.heap.size = B + (n + tb.length) := by
    have h1 := X'.heapSize
    have h2 := hP.1
    rw [← e1] at hz
    omega
  have hP' : kP E B (n + tb'.length) (fun a => if a ∈ eL E1 then cel E1 a (M' a) else f a) T'.heap := by
    rw [g1]
    refine ⟨hsz, fun k q hkq => ?_⟩
    obtain ⟨hk1, rfl⟩ := k_atL hkq
    by_cases hin1 : B + k ∈ eL E1
    · have h1 := fx_plat hW.1 hin1
      rw [eD1] at h1
      show va_at (eD E) vwCl (B + k, if B + k ∈ eL E1 then cel E1 (B + k) (M' (B + k)) else f (B + k)) T'.heap
      rw [if_pos hin1, e1]
      exact h1
    · show va_at (eD E) vwCl (B + k, if B + k ∈ eL E1 then cel E1 (B + k) (M' (B + k)) else f (B + k)) T'.heap
      rw [if_neg hin1]
      refine (hP.2 k _ (k_at hk1)).kept ?_
      show T'.heap[B + k]? = H[B + k]?
      rw [e1]
      exact hk _ (by rw [hP.1]; omega) (fun z => hin1 (hAe _ z))
  obtain ⟨t2, a1, b1⟩ := g3 hA (by omega) p l e s m args below meth c C0 hs T'.heap (locs ++ L) ls (fun a => if a ∈ eL E1 then cel E1 a (M' a) else f a) hS' hl (fun o u hu => by
    by_cases hin1 : B + n + o ∈ eL E1
    · show (if B + n + o ∈ eL E1 then _ else _) = _
      rw [if_pos hin1]
      exact ((g2 o u hu).1 hin1).symm
    · show (if B + n + o ∈ eL E1 then _ else _) = _
      rw [if_neg hin1]
      exact hH o u ((g2 o u hu).2 hin1)) (fun q hq => by
    show (if q ∈ eL E1 then _ else _) = _
    rw [if_neg (fun z => by have := hL q z; omega)]
    exact hf q hq) hP' T' rfl (by rw [g1]; exact X')
  exact ⟨t2, st t2 a1, b1⟩
end
/-! shapes out of tables -/
def tk (tb : List kent) (o : Nat) : Nat := match tb[o]? with
  | some t => t.1
  | none => 99
def tn (tb : List kent) (o : Nat) : Nat := match tb[o]? with
  | some t => t.2.1
  | none => 0
def tsl (tb : List kent) (o k : Nat) : Option fxV := match tb[o]? with
  | some t => (match t.2.2[k]? with
    | some v => v
    | none => none)
  | none => none
def vr : Option fxV → Nat
  | some (.inr o) => o
  | _ => 0
def vi : Option fxV → Int
  | some (.inl i) => i
  | _ => 0
def kE (E : fxE) (z : Nat) (tb : List kent) (L : List Nat) (A : Nat → Prop) : fxE :=
  ((fun a => if a ∈ L then tk tb (a - z) else if a = sta E 0 then 20 else if a = sta E 1 then 21 else if a = sta E 2 then 22 else 99, fun a k => z + vr (tsl tb (a - z) k), fun a => tn tb (a - z), fun j => sta E j), eD E, eY E, L, A)
def tM (z : Nat) (tb : List kent) : fxM := fun a k => vi (tsl tb (a - z) k)
def sk : Option fxV → Option Bool
  | some (.inr _) => some true
  | some (.inl _) => some false
  | none => none
theorem sk_flds {z C : Nat} {l : List (Option fxV)} (h : l.map sk = (lay C).map some) : l.map (kv z) = flds C (fun k => z + vr (match l[k]? with | some v => v | none => none)) (fun k => vi (match l[k]? with | some v => v | none => none)) := by
  apply List.ext_getElem?
  intro j
  have hj : (l[j]?).map sk = ((lay C)[j]?).map some := by rw [← List.getElem?_map, ← List.getElem?_map, h]
  simp only [flds, List.getElem?_mapIdx, List.getElem?_map]
  match h1 : l[j]?, h2 : (lay C)[j]? with
  | none, none => rfl
  | none, some b => rw [h1, h2] at hj; simp at hj
  | some v, none => rw [h1, h2] at hj; simp at hj
  | some none, some b => rw [h1, h2] at hj; simp [sk] at hj
  | some (some (.inl i)), some b =>
    rw [h1, h2] at hj
    have : b = false := by simpa [sk] using hj.symm
    subst this
    rfl
  | some (some (.inr o)), some b =>
    rw [h1, h2] at hj
    have : b = true := by simpa [sk] using hj.symm
    subst this
    rfl
/-- an entry that is complete -/
def Fit (t : kent) : Prop := (t.1 ≤ 10 ∧ t.2.2.map sk = (lay t.1).map some) ∨ (10 < t.1 ∧ t.1 ≤ 12) ∨ (12 < t.1 ∧ t.1 ≤ 16 ∧ t.2.2.length = t.2.1 ∧ ∀ v ∈ t.2.2, sk v = some true)
theorem kE_kd {E : fxE} {z o : Nat} {tb : List kent} {L : List Nat} {A : Nat → Prop} {t : kent} (h : tb[o]? = some t) (hL : z + o ∈ L) : kd (kE E z tb L A) (z + o) = t.1 := by
  show (if z + o ∈ L then tk tb (z + o - z) else _) = _
  rw [if_pos hL, Nat.add_sub_cancel_left, tk, h]
theorem kE_cel {E : fxE} {z o : Nat} {tb : List kent} {L : List Nat} {A : Nat → Prop} {t : kent} (h : tb[o]? = some t) (hL : z + o ∈ L) (hF : (t.1 ≤ 10 ∧ t.2.2.map sk = (lay t.1).map some) ∨ (10 < t.1 ∧ t.1 ≤ 12)) : kcell E z t = cel (kE E z tb L A) (z + o) (tM z tb (z + o)) := by
  have hk := kE_kd (E := E) (A := A) h hL
  obtain ⟨C, N, l⟩ := t
  have e1 : ∀ k, tsl tb (z + o - z) k = (match l[k]? with | some v => v | none => none) := fun k => by rw [Nat.add_sub_cancel_left, tsl, h]
  rcases hF with ⟨h1, h2⟩ | ⟨h1, h2⟩
  · rw [kc_o h1, cel_o hk h1, sk_flds h2]
    congr 2
    · congr 1
      · funext k
        show _ = z + vr (tsl tb (z + o - z) k)
        rw [e1]
      · funext k
        show _ = vi (tsl tb (z + o - z) k)
        rw [e1]
  · rw [kc_i h1 h2, cel_i hk h1 h2]
    have e2 : ln (kE E z tb L A) (z + o) = N := by
      show tn tb (z + o - z) = N
      rw [Nat.add_sub_cancel_left, tn, h]
    rw [e2]
    show Sum.inl (eY E C, N, Sum.inl (kci l)) = Sum.inl (eY E C, N, Sum.inl fun j => i3 (vi (tsl tb (z + o - z) j)))
    have e3 : kci l = fun j => i3 (vi (tsl tb (z + o - z) j)) := by
      funext j
      rw [e1, kci]
      match l[j]? with
      | none => rfl
      | some none => rfl
      | some (some (.inl i)) => rfl
      | some (some (.inr o)) => rfl
    rw [e3]
theorem kE_ok {E : fxE} {z B : Nat} {tb : List kent} {L : List Nat} {A : Nat → Prop} (hS : StaOk E B) (hB : ∀ a, a ∈ L → B ≤ a) (hz : ∀ a, a ∈ L → z ≤ a ∧ a < z + tb.length) (hn : L.Nodup) (hA : ∀ a, a ∈ L → A a) (hk : ∀ t, t ∈ tb → t.1 ≤ 16 ∧ t.2.1 < 100000) : fx_Ok (kE E z tb L A) := by
  obtain ⟨s1, s2, s3, s4⟩ := hS
  have hkL : ∀ a, a ∈ L → tk tb (a - z) ≤ 16 := fun a ha => by
    have h1 := hz a ha
    have h2 : tb[a - z]? = some tb[a - z] := List.getElem?_eq_getElem (by omega)
    rw [tk, h2]
    exact (hk _ (List.mem_of_getElem? h2)).1
  have hkd : ∀ a, kd (kE E z tb L A) a = if a ∈ L then tk tb (a - z) else if a = sta E 0 then 20 else if a = sta E 1 then 21 else if a = sta E 2 then 22 else 99 := fun a => rfl
  have hsn : ∀ j, j < 3 → sta E j ∉ L := fun j hj z => by have := hB _ z; have := s1 j hj; omega
  refine ⟨fun a ha => ?_, ⟨fun i j p q hp hq e => ?_, fun k q hk' => ?_⟩, fun a => ?_, fun j hj => ?_, fun a j hj ha => ?_⟩
  · rw [hkd] at ha
    show a ∈ L
    by_cases h : a ∈ L
    · exact h
    · rw [if_neg h] at ha
      split at ha
      · omega
      · split at ha
        · omega
        · split at ha <;> omega
  · have hp' : (L.map (fun a => (a, (Sum.inr (0, []) : va_E))))[i]? = some p := hp
    have hq' : (L.map (fun a => (a, (Sum.inr (0, []) : va_E))))[j]? = some q := hq
    rw [List.getElem?_map] at hp' hq'
    cases hi : L[i]? with
    | none => rw [hi] at hp'; cases hp'
    | some a =>
      cases hj : L[j]? with
      | none => rw [hj] at hq'; cases hq'
      | some b =>
        rw [hi] at hp'
        rw [hj] at hq'
        cases hp'
        cases hq'
        dsimp only at e
        subst e
        exact (List.getElem?_inj (List.getElem?_eq_some_iff.mp hi).1 hn).mp (hi.trans hj.symm)
  · have hk2 : (L.map (fun a => (a, (Sum.inr (0, []) : va_E))))[k]? = some q := hk'
    rw [List.getElem?_map] at hk2
    cases hi : L[k]? with
    | none => rw [hi] at hk2; cases hk2
    | some a =>
      rw [hi] at hk2
      cases hk2
      exact hA a (List.mem_of_getElem? hi)
  · show tn tb (a - z) < 2147483648
    unfold tn
    split
    · rename_i t ht
      have := (hk t (List.mem_of_getElem? ht)).2
      omega
    · omega
  · show kd (kE E z tb L A) (sta E j) = 20 + j
    rw [hkd, if_neg (hsn j hj)]
    rcases (show j = 0 ∨ j = 1 ∨ j = 2 by omega) with rfl | rfl | rfl
    · rw [if_pos rfl]
    · rw [if_neg (Ne.symm s2), if_pos rfl]
    · rw [if_neg (Ne.symm s3), if_neg (Ne.symm s4), if_pos rfl]
  · rw [hkd] at ha
    show a = sta E j
    by_cases h : a ∈ L
    · rw [if_pos h] at ha
      have := hkL a h
      omega
    · rw [if_neg h] at ha
      by_cases h0 : a = sta E 0
      · rw [if_pos h0] at ha
        obtain rfl : j = 0 := by omega
        exact h0
      · rw [if_neg h0] at ha
        by_cases h1 : a = sta E 1
        · rw [if_pos h1] at ha
          obtain rfl : j = 1 := by omega
          exact h1
        · rw [if_neg h1] at ha
          by_cases h2 : a = sta E 2
          · rw [if_pos h2] at ha
            obtain rfl : j = 2 := by omega
            exact h2
          · rw [if_neg h2] at ha
            omega
