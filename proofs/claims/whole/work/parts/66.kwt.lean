/-! A table's shape is the shape that the pure machine asks for, if small checks over the table say so. -/
def rr (tb : List kent) (o k : Nat) : Nat := vr (tsl tb o k)
def wx : Nat → List (Nat × Nat × Nat)
  | 0 => [(0, 11, 10), (1, 11, 10)]
  | 1 => [(0, 11, 200), (1, 11, 200), (2, 11, 200), (3, 11, 200), (4, 11, 200), (5, 12, 401)]
  | 2 => [(0, 11, 8), (1, 11, 8), (2, 11, 8), (4, 11, 9), (5, 11, 9), (6, 11, 6), (7, 11, 6)]
  | 3 => [(0, 14, 8)]
  | 4 => [(0, 11, 200), (1, 11, 200), (2, 12, 200)]
  | 5 => [(0, 2, 0), (1, 0, 0), (2, 11, 4)]
  | 6 => [(0, 11, 120)]
  | 7 => [(0, 11, 401)]
  | 8 => [(0, 11, 301), (1, 11, 300), (2, 11, 10), (3, 11, 10)]
  | 9 => [(0, 5, 0), (1, 3, 0), (2, 2, 0), (3, 6, 0), (4, 16, 2), (5, 15, 8), (6, 13, 2), (7, 4, 0)]
  | 10 => [(0, 11, 84), (1, 11, 672), (5, 11, 120), (9, 11, 301), (10, 11, 300), (11, 11, 20), (13, 11, 401), (14, 11, 401), (15, 11, 2814), (17, 11, 402), (18, 11, 402), (23, 11, 24)]
  | _ => []
def wy : Nat → Nat
  | 13 => 1
  | 14 => 5
  | 15 => 7
  | _ => 8
def wT (tb : List kent) (lo hi o : Nat) : Prop := ∀ q ∈ wx (tk tb o), lo ≤ rr tb o q.1 ∧ rr tb o q.1 < hi ∧ tk tb (rr tb o q.1) = q.2.1 ∧ tn tb (rr tb o q.1) = q.2.2
def wA (tb : List kent) (lo hi o : Nat) : Prop := 13 ≤ tk tb o → tk tb o ≤ 16 → tn tb o ≤ 25 ∧ ∀ i, i < tn tb o → lo ≤ rr tb o i ∧ rr tb o i < hi ∧ tk tb (rr tb o i) = wy (tk tb o)
def slotT (tb : List kent) (o k : Nat) : Prop := (tk tb o ≤ 10 ∧ (lay (tk tb o))[k]? = some true) ∨ (13 ≤ tk tb o ∧ tk tb o ≤ 16 ∧ k < tn tb o)
def wI (tb : List kent) (iv : Nat → Nat × Nat) (o : Nat) : Prop := ∀ k, k < 25 → slotT tb o k → iv (rr tb o k) = (o, k)
theorem lay_len (C : Nat) : (lay C).length ≤ 25 := by
  unfold lay
  split <;> decide
theorem kE_wt {E : fxE} {z lo cnt : Nat} {tb : List kent} {A : Nat → Prop} {iv : Nat → Nat × Nat} (h1 : ∀ o, o < lo + cnt → lo ≤ o → wT tb lo (lo + cnt) o) (h2 : ∀ o, o < lo + cnt → lo ≤ o → wA tb lo (lo + cnt) o) (h3 : ∀ o, o < lo + cnt → lo ≤ o → wI tb iv o) : fx_Wt (kE E z tb (List.range' (z + lo) cnt) A) := by
  obtain ⟨L, hL⟩ : ∃ L, L = List.range' (z + lo) cnt := ⟨_, rfl⟩
  have mem : ∀ a, a ∈ L ↔ z + lo ≤ a ∧ a < z + lo + cnt := fun a => by rw [hL]; exact List.mem_range'_1
  rw [← hL]
  have hkd : ∀ a, kd (kE E z tb L A) a = if a ∈ L then tk tb (a - z) else if a = sta E 0 then 20 else if a = sta E 1 then 21 else if a = sta E 2 then 22 else 99 := fun a => rfl
  have key : ∀ a C, kd (kE E z tb L A) a = C → C ≤ 16 → ∃ o, a = z + o ∧ lo ≤ o ∧ o < lo + cnt ∧ tk tb o = C := fun a C ha hC => by
    rw [hkd] at ha
    by_cases h : a ∈ L
    · rw [if_pos h] at ha
      have := (mem a).mp h
      exact ⟨a - z, by omega, by omega, by omega, ha⟩
    · rw [if_neg h] at ha
      split at ha
      · omega
      · split at ha
        · omega
        · split at ha <;> omega
  have kin : ∀ o, lo ≤ o → o < lo + cnt → kd (kE E z tb L A) (z + o) = tk tb o := fun o a b => by
    rw [hkd, if_pos ((mem _).mpr (by omega)), Nat.add_sub_cancel_left]
  have krf : ∀ o k, rf (kE E z tb L A) (z + o) k = z + rr tb o k := fun o k => by
    show z + vr (tsl tb (z + o - z) k) = _
    rw [Nat.add_sub_cancel_left]; rfl
  have kln : ∀ o, ln (kE E z tb L A) (z + o) = tn tb o := fun o => by
    show tn tb (z + o - z) = _
    rw [Nat.add_sub_cancel_left]
  have kq : ∀ o C, lo ≤ o → o < lo + cnt → tk tb o = C → ∀ k K N, (k, K, N) ∈ wx C → kd (kE E z tb L A) (rf (kE E z tb L A) (z + o) k) = K ∧ ln (kE E z tb L A) (rf (kE E z tb L A) (z + o) k) = N := fun o C a b e k K N hm => by
    subst e
    obtain ⟨q1, q2, q3, q4⟩ := h1 o b a (k, K, N) hm
    rw [krf, kin _ q1 q2, kln]
    exact ⟨q3, q4⟩
  have slot : ∀ a k, rslot (kE E z tb L A) a k → ∃ o, a = z + o ∧ lo ≤ o ∧ o < lo + cnt ∧ k < 25 ∧ slotT tb o k := fun a k h => by
    rcases h with ⟨a1, a2⟩ | ⟨a1, a2, a3⟩
    · obtain ⟨o, rfl, b1, b2, b3⟩ := key a _ rfl (by omega)
      rw [← b3] at a1 a2
      have := (List.getElem?_eq_some_iff.mp a2).1
      have := lay_len (tk tb o)
      exact ⟨o, rfl, b1, b2, by omega, Or.inl ⟨a1, a2⟩⟩
    · obtain ⟨o, rfl, b1, b2, b3⟩ := key a _ rfl a2
      rw [← b3] at a1 a2
      rw [kln] at a3
      have := (h2 o b2 b1 a1 a2).1
      exact ⟨o, rfl, b1, b2, by omega, Or.inr ⟨a1, a2, a3⟩⟩
  have arr : ∀ a i C, kd (kE E z tb L A) a = C → 13 ≤ C → C ≤ 16 → i < ln (kE E z tb L A) a → kd (kE E z tb L A) (rf (kE E z tb L A) a i) = wy C := fun a i C ha c1 c2 hi => by
    obtain ⟨o, rfl, b1, b2, b3⟩ := key a C ha c2
    subst b3
    rw [kln] at hi
    obtain ⟨q1, q2, q3⟩ := (h2 o b2 b1 c1 c2).2 i hi
    rw [krf, kin _ q1 q2, q3]
  refine ⟨fun a ha => ?_, fun a ha => ?_, fun a ha => ?_, fun a ha => ?_, fun a ha => ?_, fun a ha => ?_, fun a ha => ?_, fun a ha => ?_, fun a ha => ?_, fun a ha => ?_, fun a ha => ?_, fun a i ha hi => arr a i 13 ha (by decide) (by decide) hi, fun a i ha hi => arr a i 14 ha (by decide) (by decide) hi, fun a i ha hi => arr a i 15 ha (by decide) (by decide) hi, fun a i ha hi => arr a i 16 ha (by decide) (by decide) hi, fun a k b j ha hb e => ?_⟩
  · obtain ⟨o, rfl, b1, b2, b3⟩ := key a 0 ha (by decide)
    have g := kq o 0 b1 b2 b3
    exact ⟨g 0 11 10 (by decide), g 1 11 10 (by decide)⟩
  · obtain ⟨o, rfl, b1, b2, b3⟩ := key a 1 ha (by decide)
    have g := kq o 1 b1 b2 b3
    exact ⟨g 0 11 200 (by decide), g 1 11 200 (by decide), g 2 11 200 (by decide), g 3 11 200 (by decide), g 4 11 200 (by decide), g 5 12 401 (by decide)⟩
  · obtain ⟨o, rfl, b1, b2, b3⟩ := key a 2 ha (by decide)
    have g := kq o 2 b1 b2 b3
    exact ⟨g 0 11 8 (by decide), g 1 11 8 (by decide), g 2 11 8 (by decide), g 4 11 9 (by decide), g 5 11 9 (by decide), g 6 11 6 (by decide), g 7 11 6 (by decide)⟩
  · obtain ⟨o, rfl, b1, b2, b3⟩ := key a 3 ha (by decide)
    have g := kq o 3 b1 b2 b3
    exact g 0 14 8 (by decide)
  · obtain ⟨o, rfl, b1, b2, b3⟩ := key a 4 ha (by decide)
    have g := kq o 4 b1 b2 b3
    exact ⟨g 0 11 200 (by decide), g 1 11 200 (by decide), g 2 12 200 (by decide)⟩
  · obtain ⟨o, rfl, b1, b2, b3⟩ := key a 5 ha (by decide)
    have g := kq o 5 b1 b2 b3
    exact ⟨(g 0 2 0 (by decide)).1, (g 1 0 0 (by decide)).1, g 2 11 4 (by decide)⟩
  · obtain ⟨o, rfl, b1, b2, b3⟩ := key a 6 ha (by decide)
    exact kq o 6 b1 b2 b3 0 11 120 (by decide)
  · obtain ⟨o, rfl, b1, b2, b3⟩ := key a 7 ha (by decide)
    exact kq o 7 b1 b2 b3 0 11 401 (by decide)
  · obtain ⟨o, rfl, b1, b2, b3⟩ := key a 8 ha (by decide)
    have g := kq o 8 b1 b2 b3
    exact ⟨g 0 11 301 (by decide), g 1 11 300 (by decide), g 2 11 10 (by decide), g 3 11 10 (by decide)⟩
  · obtain ⟨o, rfl, b1, b2, b3⟩ := key a 9 ha (by decide)
    have g := kq o 9 b1 b2 b3
    exact ⟨(g 0 5 0 (by decide)).1, (g 1 3 0 (by decide)).1, (g 2 2 0 (by decide)).1, (g 3 6 0 (by decide)).1, g 4 16 2 (by decide), g 5 15 8 (by decide), g 6 13 2 (by decide), (g 7 4 0 (by decide)).1⟩
  · obtain ⟨o, rfl, b1, b2, b3⟩ := key a 10 ha (by decide)
    have g := kq o 10 b1 b2 b3
    exact ⟨g 0 11 84 (by decide), g 1 11 672 (by decide), g 5 11 120 (by decide), g 9 11 301 (by decide), g 10 11 300 (by decide), g 11 11 20 (by decide), g 13 11 401 (by decide), g 14 11 401 (by decide), g 15 11 2814 (by decide), g 17 11 402 (by decide), g 18 11 402 (by decide), g 23 11 24 (by decide)⟩
  · obtain ⟨o, rfl, a1, a2, a3, a4⟩ := slot a k ha
    obtain ⟨o', rfl, b1, b2, b3, b4⟩ := slot b j hb
    rw [krf, krf] at e
    have e1 : rr tb o k = rr tb o' j := by omega
    have p1 := h3 o a2 a1 k a3 a4
    have p2 := h3 o' b2 b1 j b3 b4
    rw [e1, p2] at p1
    cases p1
    exact ⟨rfl, rfl⟩
/-- append on a fibre without sections, to the letter -/
theorem ct_append0 {E : fxE} {M : fxM} (hW : fx_Wt E) {f : Nat} {l a s : Int} (hf : kd E f = 2) (h0 : M f 3 = 0) : CtV E m_X2_append [.inr f, .inl l, .inl a, .inl s] M (fun M' => M' = mset (mset (mset (mset (mset (mset M (rf E f 0) 0 l) (rf E f 1) 0 a) (rf E f 2) 0 s) f 3 1) (rf E f 4) 1 0) (rf E f 5) 1 0) := by
  have n0 : f ≠ rf E f 0 := kd_ne hf (wk_2_0 hW hf) (by decide)
  have n1 : f ≠ rf E f 1 := kd_ne hf (wk_2_1 hW hf) (by decide)
  have n2 : f ≠ rf E f 2 := kd_ne hf (wk_2_2 hW hf) (by decide)
  have n4 : f ≠ rf E f 4 := kd_ne hf (wk_2_4 hW hf) (by decide)
  refine x_ct (by decide) (Nat.le_of_ble_eq_true rfl) (b_X2_append_0 hW f l a s M _ hf ?_)
  rw [h0]
  refine ⟨by decide, fun h => absurd h (by decide), fun _ => ⟨fun _ => ⟨by decide, fun M3 e3 => ?_⟩, fun h => absurd (by decide) h⟩⟩
  have q3 : M3 f 3 = 0 := by rw [e3, mset_o n0, h0]
  rw [q3]
  refine ⟨by decide, fun M5 e5 => ?_⟩
  have q5 : M5 f 3 = 0 := by rw [e5, mset_o n1, q3]
  rw [q5]
  refine ⟨by decide, fun M7 e7 M8 e8 => ?_⟩
  have q7 : M7 f 3 = 0 := by rw [e7, mset_o n2, q5]
  rw [q7] at e8
  have q8 : M8 f 3 = 1 := by rw [e8, mset_s]; rfl
  rw [q8]
  refine ⟨by decide, fun M10 e10 => ?_⟩
  have q10 : M10 f 3 = 1 := by rw [e10, mset_o n4, q8]
  rw [q10]
  refine ⟨by decide, fun M12 e12 => ⟨rfl, ?_⟩⟩
  rw [e12, e10, e8, e7, e5, e3]
  rfl
def wTb (tb : List kent) (lo hi o : Nat) : Bool := (wx (tk tb o)).all (fun q => decide (lo ≤ rr tb o q.1 ∧ rr tb o q.1 < hi ∧ tk tb (rr tb o q.1) = q.2.1 ∧ tn tb (rr tb o q.1) = q.2.2))
def wAb (tb : List kent) (lo hi o : Nat) : Bool := if 13 ≤ tk tb o ∧ tk tb o ≤ 16 then decide (tn tb o ≤ 25) && (List.range (tn tb o)).all (fun i => decide (lo ≤ rr tb o i ∧ rr tb o i < hi ∧ tk tb (rr tb o i) = wy (tk tb o))) else true
def wIb (tb : List kent) (iv : Nat → Nat × Nat) (o : Nat) : Bool := (List.range 25).all (fun k => if (tk tb o ≤ 10 ∧ (lay (tk tb o))[k]? = some true) ∨ (13 ≤ tk tb o ∧ tk tb o ≤ 16 ∧ k < tn tb o) then decide (iv (rr tb o k) = (o, k)) else true)
def chk (tb : List kent) (lo cnt : Nat) (iv : Nat → Nat × Nat) : Bool := (List.range' lo cnt).all (fun o => wTb tb lo (lo + cnt) o && wAb tb lo (lo + cnt) o && wIb tb iv o)
theorem chk_wt {E : fxE} {z lo cnt : Nat} {tb : List kent} {A : Nat → Prop} {iv : Nat → Nat × Nat} (h : chk tb lo cnt iv = true) : fx_Wt (kE E z tb (List.range' (z + lo) cnt) A) := by
  have h0 : ∀ o, o < lo + cnt → lo ≤ o → (wTb tb lo (lo + cnt) o = true ∧ wAb tb lo (lo + cnt) o = true) ∧ wIb tb iv o = true := fun o a b => by
    have h1 := List.all_eq_true.mp h o (List.mem_range'_1.mpr ⟨b, a⟩)
    simpa only [Bool.and_eq_true] using h1
  refine kE_wt (iv := iv) (fun o a b q hq => ?_) (fun o a b c1 c2 => ?_) (fun o a b k hk hs => ?_)
  · exact of_decide_eq_true (List.all_eq_true.mp (h0 o a b).1.1 q hq)
  · have h1 := (h0 o a b).1.2
    rw [wAb, if_pos ⟨c1, c2⟩, Bool.and_eq_true] at h1
    exact ⟨of_decide_eq_true h1.1, fun i hi => of_decide_eq_true (List.all_eq_true.mp h1.2 i (List.mem_range.mpr hi))⟩
  · have h1 := List.all_eq_true.mp (h0 o a b).2 k (List.mem_range.mpr hk)
    unfold slotT at hs
    rw [if_pos hs] at h1
    exact of_decide_eq_true h1
def fitb (t : kent) : Bool := decide (t.1 ≤ 10 ∧ t.2.2.map sk = (lay t.1).map some) || decide (10 < t.1 ∧ t.1 ≤ 12)
theorem fitb_ok {t : kent} (h : fitb t = true) : (t.1 ≤ 10 ∧ t.2.2.map sk = (lay t.1).map some) ∨ (10 < t.1 ∧ t.1 ≤ 12) := by
  rw [fitb, Bool.or_eq_true] at h
  exact h.imp of_decide_eq_true of_decide_eq_true
def smb (t : kent) : Bool := decide (t.1 ≤ 16 ∧ t.2.1 < 100000)
theorem smb_ok {tb : List kent} (h : tb.all smb = true) : ∀ t, t ∈ tb → t.1 ≤ 16 ∧ t.2.1 < 100000 := fun t ht => of_decide_eq_true (List.all_eq_true.mp h t ht)
