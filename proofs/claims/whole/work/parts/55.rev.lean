/-! The reference's events. -/
section
variable {E : fxE} {M : fxM}
/-- the trace that lies, as a function; the slope -/
def RTr (E : fxE) (M : fxM) (m : Nat) (T : Int → Int) (a : Int) : Prop := (∀ d : Nat, d ≤ 400 → M (rf E m 13) d = T (d : Int)) ∧ M (rf E m 0) 58 = a
theorem RTr.dev {m : Nat} {T : Int → Int} {a d : Int} (h : RTr E M m T a) (hd : 1 ≤ d ∧ d ≤ 400) : rdev E M m d = dv T a d := by
  rw [rdev, h.1 d.toNat (by omega), h.1 (d - 1).toNat (by omega), h.2, dv, show ((d.toNat : Nat) : Int) = d by omega, show (((d - 1).toNat : Nat) : Int) = d - 1 by omega]
theorem RTr.row (hW : fx_Wt E) {m k : Nat} {T : Int → Int} {a : Int} {g : Nat → Int} (hm : kd E m = 10) (hk : (lay 10)[k]? = some true) (hn : k ≠ 0 ∧ k ≠ 13) (h : RTr E M m T a) : RTr E (mrow M (rf E m k) g) m T a := by
  unfold RTr at h ⊢
  rw [mrow_o (mne hW hm rfl hk hn.1.symm), mrow_o (mne hW hm rfl hk hn.2.symm)]
  exact h
theorem RTr.set (hW : fx_Wt E) {m k : Nat} {T : Int → Int} {a v : Int} (hm : kd E m = 10) (h : RTr E M m T a) : RTr E (mset M m k v) m T a := by
  unfold RTr at h ⊢
  rw [mset_o (mnr hW hm rfl).symm, mset_o (mnr hW hm rfl).symm]
  exact h
theorem ct_isMarked10 (hW : fx_Wt E) {m : Nat} {T : Int → Int} {a th d : Int} (hm : kd E m = 10) (hT : RTr E M m T a) (hth' : M (rf E m 0) 59 = th) (hb : ∀ d, 5000 ≤ T d ∧ T d ≤ 100000000) (ha : 0 ≤ a ∧ a ≤ 60) (hth : 1 ≤ th ∧ th ≤ 5000) (hd : 1 ≤ d ∧ d ≤ 400) : CtI E m_X10_isMarked [.inr m, .inl d] M (fun r M' => r = (if mkd T a th d then 1 else 0) ∧ M' = M) := by
  have b1 := hb d
  have b2 := hb (d - 1)
  have hdv : dv T a d = T d - T (d - 1) + a := rfl
  have at34 : ∀ x2 s0 : Int, (s0 = 0 ∧ ¬ (th ≤ dv T a d ∨ dv T a d ≤ -th)) ∨ (s0 = 1 ∧ (th ≤ dv T a d ∨ dv T a d ≤ -th)) → fx_At E m_X10_isMarked 34 [some (.inr m), some (.inl d), some (.inl x2), none] [.inl s0] M (fun r M' => ∃ x : Int, r = some (.inl x) ∧ x = (if mkd T a th d then 1 else 0) ∧ M' = M) := by
    intro x2 s0 h0
    refine b_X10_isMarked_34 hW m _ _ _ M _ hm ?_
    rw [hT.1 d.toNat (by omega), hT.1 (d - 1).toNat (by omega), show ((d.toNat : Nat) : Int) = d by omega, show (((d - 1).toNat : Nat) : Int) = d - 1 by omega]
    rcases h0 with ⟨rfl, h0⟩ | ⟨rfl, h0⟩
    · exact ⟨by decide, fun _ => ⟨_, rfl, by rw [if_neg (fun z => h0 z.1)], rfl⟩, fun z => absurd rfl z⟩
    · exact ⟨by decide, fun z => absurd z (by decide), fun _ => ⟨by omega, by omega, fun h1 => ⟨_, rfl, by rw [if_pos ⟨h0, Or.inl h1⟩], rfl⟩, fun h1 => ⟨by omega, by omega, fun h2 => ⟨_, rfl, by rw [if_neg (fun z => z.2.elim h1 (fun z => by omega))], rfl⟩, fun h2 => ⟨_, rfl, by rw [if_pos ⟨h0, Or.inr (by omega)⟩], rfl⟩⟩⟩⟩
  refine x_ct (by decide) (Nat.le_of_ble_eq_true rfl) (b_X10_isMarked_0 hW m d M _ hm ?_)
  rw [hT.dev hd, hth']
  exact ⟨hd, by omega, by omega, fun h => at34 _ 1 (Or.inr ⟨rfl, Or.inl h⟩), fun h => ⟨by omega, fun h2 => at34 _ 0 (Or.inl ⟨rfl, by omega⟩), fun h2 => at34 _ 1 (Or.inr ⟨rfl, Or.inr (by omega)⟩)⟩⟩
/-- the row of events with one more -/
def evG (g : Nat → Int) (c : Nat) (s z K l r : Int) : Nat → Int := fun j => if j = 7 * c then s else if j = 7 * c + 1 then z else if j = 7 * c + 2 then K else if j = 7 * c + 3 then l else if j = 7 * c + 4 then r else if j = 7 * c + 5 then -1000005 else if j = 7 * c + 6 then -1000005 else g j
theorem evG_eq (g : Nat → Int) (c : Nat) (s z K l r : Int) : (fun j => if j = 7 * c + 6 then (-1000005 : Int) else if j = 7 * c + 5 then -1000005 else if j = 7 * c + 4 then r else if j = 7 * c + 3 then l else if j = 7 * c + 2 then K else if j = 7 * c + 1 then z else if j = 7 * c then s else g j) = evG g c s z K l r := by
  funext j
  unfold evG
  repeat' split
  all_goals first | rfl | (exfalso; omega)
theorem ct_addEvent (hW : fx_Wt E) {m c s z : Nat} {T : Int → Int} {a : Int} (hm : kd E m = 10) (hT : RTr E M m T a) (hb : ∀ d, 5000 ≤ T d ∧ T d ≤ 100000000) (ha : 0 ≤ a ∧ a ≤ 60) (hc : M m 16 = (c : Int)) (hc4 : c ≤ 400) (hs : 1 ≤ s) (hsz : s ≤ z) (hz : z ≤ 400) : CtV E m_X10_addEvent [.inr m, .inl (s : Int), .inl (z : Int)] M (fun M' => M' = mset (mrow M (rf E m 15) (evG (M (rf E m 15)) c s z (eKd T a (s, z)) (eLs T a (s, z)) (eRs T (s, z)))) m 16 ((c : Int) + 1)) := by
  have n15 := mnr (k := 15) hW hm rfl
  have hdv : dv T a (s : Int) = T s - T ((s : Int) - 1) + a := rfl
  have bs := hb (s : Int)
  have bs1 := hb ((s : Int) - 1)
  have bz := hb (z : Int)
  have at10 : ∀ (q k : Nat), s + k + q = z → fx_At E m_X10_addEvent 10 [some (.inr m), some (.inl (s : Int)), some (.inl (z : Int)), some (.inl (mxT T s k)), some (.inl ((s + k + 1 : Nat) : Int))] [] M (fun r M' => r = none ∧ M' = mset (mrow M (rf E m 15) (evG (M (rf E m 15)) c s z (eKd T a (s, z)) (eLs T a (s, z)) (eRs T (s, z)))) m 16 ((c : Int) + 1)) := by
    intro q
    induction q with
    | zero =>
      intro k hk
      obtain rfl : k = z - s := by omega
      refine b_X10_addEvent_10 hW m _ _ _ _ M _ hm ?_
      rw [hc]
      refine ⟨by omega, by omega, fun _ => ⟨by omega, fun M4 g4 => ⟨by omega, fun M6 g6 => ?_⟩⟩, fun z => absurd (by omega) z⟩
      rw [show (7 * (c : Int) + 0).toNat = 7 * c by omega, mset_mrow] at g4
      rw [show (7 * (c : Int) + 1).toNat = 7 * c + 1 by omega, g4, mset_row] at g6
      have T6 : RTr E M6 m T a := by rw [g6]; exact hT.row hW hm rfl (by decide)
      have at111 : ∀ K : Int, K = eKd T a (s, z) → fx_At E m_X10_addEvent 111 [some (.inr m), some (.inl (s : Int)), some (.inl (z : Int)), some (.inl (mxT T s (z - s))), some (.inl (7 * (c : Int)))] [.inl K, .inl (7 * (c : Int) + 2), .inr (rf E m 15)] M6 (fun r M' => r = none ∧ M' = mset (mrow M (rf E m 15) (evG (M (rf E m 15)) c s z (eKd T a (s, z)) (eLs T a (s, z)) (eRs T (s, z)))) m 16 ((c : Int) + 1)) := by
        intro K hK
        refine b_X10_addEvent_111 hW m _ _ _ _ _ _ _ M6 _ hm (wk_10_15 hW hm) ?_
        rw [wl_10_15 hW hm, show (7 * (c : Int) + 2).toNat = 7 * c + 2 by omega, show (7 * (c : Int) + 3).toNat = 7 * c + 3 by omega, show (7 * (c : Int) + 4).toNat = 7 * c + 4 by omega, show (7 * (c : Int) + 5).toNat = 7 * c + 5 by omega, show (7 * (c : Int) + 6).toNat = 7 * c + 6 by omega, show ((s : Int) - 1).toNat = s - 1 by omega, Int.toNat_natCast]
        refine ⟨by omega, fun N2 h2 => ⟨by omega, by omega, by omega, fun N6 h6 => ⟨by omega, fun N8 h8 => ⟨by omega, fun N10 h10 => ⟨by omega, fun N12 h12 N13 h13 => ⟨rfl, ?_⟩⟩⟩⟩⟩⟩
        rw [g6, mset_row] at h2
        have T2 : RTr E N2 m T a := by rw [h2]; exact hT.row hW hm rfl (by decide)
        rw [T2.1 (s - 1) (by omega), T2.1 z hz, T2.2, h2, mset_row] at h6
        have T6' : RTr E N6 m T a := by rw [h6]; exact hT.row hW hm rfl (by decide)
        rw [T6'.1 (s - 1) (by omega), h6, mset_row] at h8
        rw [h8, mset_row] at h10
        rw [h10, mset_row] at h12
        have k12 : N12 m 16 = (c : Int) := by rw [h12, mrow_o n15, hc]
        rw [k12, h12] at h13
        rw [h13]
        have es : (((s - 1 : Nat)) : Int) = (s : Int) - 1 := by omega
        rw [es, evG_eq, hK]
        rfl
      rw [Int.toNat_natCast, T6.1 z hz, T6.dev (by omega)]
      refine ⟨by omega, by omega, fun hne => ⟨by omega, by omega, fun h => at111 0 ?_, fun h => at111 1 ?_⟩, fun heq => at111 2 ?_⟩
      · rw [eKd, if_neg hne, if_neg (by show ¬ 0 < dv T a (s : Int); omega)]
      · rw [eKd, if_neg hne, if_pos (by show 0 < dv T a (s : Int); omega)]
      · rw [eKd, if_pos heq]
    | succ q ih =>
      intro k hk
      have bm := mxT_b hb s k
      have bt := hb ((s + k + 1 : Nat) : Int)
      refine b_X10_addEvent_10 hW m _ _ _ _ M _ hm ?_
      rw [show ((s + k + 1 : Nat) : Int).toNat = s + k + 1 from Int.toNat_natCast _, hT.1 (s + k + 1) (by omega)]
      have h' := ih (k + 1) (by omega)
      have em : mxT T s (k + 1) = max (mxT T s k) (T ((s + k + 1 : Nat) : Int)) := rfl
      rw [em] at h'
      refine ⟨by omega, by omega, fun z => absurd z (by omega), fun _ => ⟨by omega, by omega, by omega, fun hle => ?_, fun hgt => ?_⟩⟩
      · rw [show max (mxT T s k) (T ((s + k + 1 : Nat) : Int)) = mxT T s k by omega] at h'
        exact h'
      · rw [show max (mxT T s k) (T ((s + k + 1 : Nat) : Int)) = T ((s + k + 1 : Nat) : Int) by omega] at h'
        exact h'
  refine x_ct (by decide) (Nat.le_of_ble_eq_true rfl) (b_X10_addEvent_0 hW m s z M _ hm ?_)
  rw [Int.toNat_natCast, hT.1 s (by omega)]
  refine ⟨by omega, ?_⟩
  refine b_X10_addEvent_10 hW m _ _ _ _ M _ hm ?_
  rw [show (s : Int).toNat = s from Int.toNat_natCast _, hT.1 s (by omega)]
  exact ⟨by omega, by omega, fun z => absurd z (by omega), fun _ => ⟨by omega, by omega, by omega, fun _ => at10 (z - s) 0 (by omega), fun z => absurd (Int.le_refl _) z⟩⟩
/-- the row of events with one named -/
def nmG (g : Nat → Int) (c : Nat) (q p : Int) : Nat → Int := fun j => if j = 7 * c + 5 then q else if j = 7 * c + 6 then p else g j
theorem ct_name (hW : fx_Wt E) {m f k : Nat} {T : Int → Int} {a : Int} {L : List (Nat × Nat)} {p : Nat × Nat} (hm : kd E m = 10) (hT : RTr E M m T a) (hb : ∀ d, 5000 ≤ T d ∧ T d ≤ 100000000) (ha : 0 ≤ a ∧ a ≤ 60) (hL : RunOk 1 L) (hf : f + L.length ≤ 400) (hS : ∀ (i : Nat) (q : Nat × Nat), L[i]? = some q → M (rf E m 15) (7 * (f + i)) = (q.1 : Int)) (hp : L[k]? = some p) (h5 : M (rf E m 15) (7 * (f + k) + 5) = -1000005) (h6 : M (rf E m 15) (7 * (f + k) + 6) = -1000005) : CtV E m_X10_name [.inr m, .inl ((f + k : Nat) : Int), .inl (f : Int)] M (fun M' => M' = mrow M (rf E m 15) (nmG (M (rf E m 15)) (f + k) (ghN T a L k p) (ghO T a L k p))) := by
  have hk := (List.getElem?_eq_some_iff.mp hp).1
  have hpb := hL.at hp
  have dvb : ∀ d, -200000000 ≤ dv T a d ∧ dv T a d ≤ 200000000 := fun d => by
    have b1 := hb d
    have b2 := hb (d - 1)
    unfold dv
    omega
  have noop : nmG (M (rf E m 15)) (f + k) (-1000005) (-1000005) = M (rf E m 15) := by
    funext j
    unfold nmG
    by_cases e5 : j = 7 * (f + k) + 5
    · rw [if_pos e5, e5, h5]
    · rw [if_neg e5]
      by_cases e6 : j = 7 * (f + k) + 6
      · rw [if_pos e6, e6, h6]
      · rw [if_neg e6]
  have gb : ∀ i, ghG T a L (p.1 : Int) ((L.take k).drop i) = -1000005 ∨ True := fun _ => Or.inr trivial
  have key : 0 < dv T a (p.1 : Int) → ∀ (n i : Nat) (N1 F1 : Int), i + n = k → ((N1 = -1000005 ∧ F1 = -1000005 ∧ ghG T a L (p.1 : Int) (L.take k) = ghG T a L (p.1 : Int) ((L.take k).drop i)) ∨ (N1 = ghG T a L (p.1 : Int) (L.take k) ∧ (1 ≤ N1 ∧ N1 ≤ 400) ∧ F1 = 2 * N1 - (p.1 : Int))) → fx_At E m_X10_name 16 [some (.inr m), some (.inl ((f + k : Nat) : Int)), some (.inl (f : Int)), some (.inl ((f + i : Nat) : Int)), none, none, none, none] [] (mrow M (rf E m 15) (nmG (M (rf E m 15)) (f + k) N1 F1)) (fun r M' => r = none ∧ M' = mrow M (rf E m 15) (nmG (M (rf E m 15)) (f + k) (ghN T a L k p) (ghO T a L k p))) := by
    intro hdv n
    have fin : ∀ (N1 F1 : Int), ((N1 = -1000005 ∧ F1 = -1000005 ∧ ghG T a L (p.1 : Int) (L.take k) = -1000005) ∨ (N1 = ghG T a L (p.1 : Int) (L.take k) ∧ (1 ≤ N1 ∧ N1 ≤ 400) ∧ F1 = 2 * N1 - (p.1 : Int))) → N1 = ghN T a L k p ∧ F1 = ghO T a L k p := by
      intro N1 F1 h
      have e : ghN T a L k p = ghG T a L (p.1 : Int) (L.take k) := by rw [ghN, if_pos hdv]
      rcases h with ⟨a1, a2, a3⟩ | ⟨a1, a2, a3⟩
      · exact ⟨by rw [e, a3, a1], by rw [ghO, e, a3, if_pos rfl, a2]⟩
      · exact ⟨by rw [e, a1], by rw [ghO, e, ← a1, if_neg (by omega), a3]⟩
    have gs : ∀ (N1 F1 : Int) (i : Nat), nmG (M (rf E m 15)) (f + k) N1 F1 (7 * (f + i)) = M (rf E m 15) (7 * (f + i)) := fun N1 F1 i => by
      unfold nmG
      rw [if_neg (by omega), if_neg (by omega)]
    induction n with
    | zero =>
      intro i N1 F1 hi hI
      obtain rfl : i = k := by omega
      refine b_X10_name_16 hW m _ _ _ _ _ hm ⟨by omega, by omega, fun _ => ⟨rfl, ?_⟩, fun z => absurd (by omega) z⟩
      rw [List.drop_of_length_le (by rw [List.length_take]; omega)] at hI
      obtain ⟨e1, e2⟩ := fin N1 F1 hI
      rw [e1, e2]
    | succ n ih =>
      intro i N1 F1 hi hI
      obtain ⟨q, hq⟩ : ∃ q, L[i]? = some q := ⟨L[i]'(by omega), List.getElem?_eq_getElem (by omega)⟩
      have hqb := hL.at hq
      have hqp := hL.lt (show i < k by omega) hq hp
      have Tr : RTr E (mrow M (rf E m 15) (nmG (M (rf E m 15)) (f + k) N1 F1)) m T a := hT.row hW hm rfl (by decide)
      have g5 : nmG (M (rf E m 15)) (f + k) N1 F1 (7 * (f + k) + 5) = N1 := by rw [nmG, if_pos rfl]
      have Nb : N1 = -1000005 ∨ (1 ≤ N1 ∧ N1 ≤ 400) := by
        rcases hI with ⟨a1, _, _⟩ | ⟨_, a2, _⟩
        · exact Or.inl a1
        · exact Or.inr a2
      have Nr : -2147483648 ≤ N1 ∧ N1 < 2147483648 := by omega
      -- is p' a start of an earlier event that bounces?
      have bon : Bon T a L (2 * (q.1 : Int) - (p.1 : Int)) ↔ ∃ j, j < k ∧ ∃ r, L[j]? = some r ∧ (r.1 : Int) = 2 * (q.1 : Int) - (p.1 : Int) ∧ 0 < dv T a (2 * (q.1 : Int) - (p.1 : Int)) := by
        constructor
        · rintro ⟨j, r, h1, h2, h3⟩
          refine ⟨j, ?_, r, h1, h2, h3⟩
          rcases Nat.lt_trichotomy j k with z | z | z
          · exact z
          · subst z
            rw [hp] at h1
            cases h1
            omega
          · have := hL.lt z hp h1
            omega
        · rintro ⟨j, -, r, h1, h2, h3⟩
          exact ⟨j, r, h1, h2, h3⟩
      have bq : Bon T a L (q.1 : Int) ↔ 0 < dv T a (q.1 : Int) := ⟨fun ⟨_, _, _, _, h⟩ => h, fun h => ⟨i, q, hq, rfl, h⟩⟩
      have at57 : ∀ (n2 j c : Nat), j + n2 = k → ((c = 0 ∧ ¬ (2 * (q.1 : Int) - (p.1 : Int) = 0 ∨ ∃ j', j' < j ∧ ∃ r, L[j']? = some r ∧ (r.1 : Int) = 2 * (q.1 : Int) - (p.1 : Int) ∧ 0 < dv T a (2 * (q.1 : Int) - (p.1 : Int)))) ∨ (c = 1 ∧ (2 * (q.1 : Int) - (p.1 : Int) = 0 ∨ ∃ j', j' < j ∧ ∃ r, L[j']? = some r ∧ (r.1 : Int) = 2 * (q.1 : Int) - (p.1 : Int) ∧ 0 < dv T a (2 * (q.1 : Int) - (p.1 : Int))))) → fx_At E m_X10_name 57 [some (.inr m), some (.inl ((f + k : Nat) : Int)), some (.inl (f : Int)), some (.inl ((f + i : Nat) : Int)), some (.inl (q.1 : Int)), some (.inl (2 * (q.1 : Int) - (p.1 : Int))), some (.inl (c : Int)), some (.inl ((f + j : Nat) : Int))] [] (mrow M (rf E m 15) (nmG (M (rf E m 15)) (f + k) N1 F1)) (fun r M' => r = none ∧ M' = mrow M (rf E m 15) (nmG (M (rf E m 15)) (f + k) (ghN T a L k p) (ghO T a L k p))) := by
        intro n2
        induction n2 with
        | zero =>
          intro j c hj hc
          obtain rfl : j = k := by omega
          obtain ⟨X, hX⟩ : ∃ X : Prop, (X ↔ (2 * (q.1 : Int) - (p.1 : Int) = 0 ∨ Bon T a L (2 * (q.1 : Int) - (p.1 : Int)))) := ⟨_, Iff.rfl⟩
          have hcc : (c = 0 ∧ ¬ X) ∨ (c = 1 ∧ X) := by rw [hX, bon]; exact hc
          have hc1 : c = 0 ∨ c = 1 := by
            rcases hcc with z | z
            · exact Or.inl z.1
            · exact Or.inr z.1
          have hcA : c = 0 → ¬ X := fun h => by
            rcases hcc with z | z
            · exact z.2
            · exact absurd (h.symm.trans z.1) (by decide)
          have hcB : c ≠ 0 → X := fun h => by
            rcases hcc with z | z
            · exact absurd z.1 h
            · exact z.2
          clear hc hcc
          have hdr : (L.take j).drop i = q :: (L.take j).drop (i + 1) := drop_take (by omega) hq
          have skip : (N1 ≠ -1000005 ∨ ¬ ghC T a L (p.1 : Int) (q.1 : Int)) → fx_At E m_X10_name 16 [some (.inr m), some (.inl ((f + j : Nat) : Int)), some (.inl (f : Int)), some (.inl (((f + i : Nat) : Int) + 1)), none, none, none, none] [] (mrow M (rf E m 15) (nmG (M (rf E m 15)) (f + j) N1 F1)) (fun r M' => r = none ∧ M' = mrow M (rf E m 15) (nmG (M (rf E m 15)) (f + j) (ghN T a L j p) (ghO T a L j p))) := by
            intro h
            refine ih (i + 1) N1 F1 (by omega) ?_
            rcases hI with ⟨a1, a2, a3⟩ | a
            · refine Or.inl ⟨a1, a2, ?_⟩
              rw [a3, hdr, ghG, if_neg (h.elim (fun z => absurd a1 z) id)]
            · exact Or.inr a
          refine b_X10_name_57 hW m _ _ _ _ _ _ _ _ _ hm ?_
          have e75 : (7 * ((f + j : Nat) : Int) + 5).toNat = 7 * (f + j) + 5 := by omega
          have e76 : (7 * ((f + j : Nat) : Int) + 6).toNat = 7 * (f + j) + 6 := by omega
          rw [mrow_s, e75, e76, g5, Tr.dev (by omega)]
          have dq := dvb (q.1 : Int)
          refine ⟨by omega, by omega, fun _ => ⟨by omega, Nr, fun hne => skip (Or.inl hne), fun heq => ⟨by omega, by omega, fun hle => skip (Or.inr (fun z => by have := bq.mp z.1; omega)), fun hgt => ⟨by omega, by omega, fun z => absurd z (by omega), fun _ => ⟨by omega, fun hc0 => skip (Or.inr (fun z => ?_)), fun hc0 => ⟨by omega, fun M11 h11 => ⟨by omega, fun M13 h13 => ?_⟩⟩⟩⟩⟩⟩, fun z => absurd (by omega) z⟩
          · exact hcA (by omega) (hX.mpr z.2)
          · have hgc : ghC T a L (p.1 : Int) (q.1 : Int) := ⟨bq.mpr (by omega), hX.mp (hcB (by omega))⟩
            have e13 : M13 = mrow M (rf E m 15) (nmG (M (rf E m 15)) (f + j) (q.1 : Int) (2 * (q.1 : Int) - (p.1 : Int))) := by
              rw [h13, h11, mset_row, mset_row]
              congr 1
              funext x
              unfold nmG
              by_cases x5 : x = 7 * (f + j) + 5
              · rw [if_neg (by omega), if_pos x5, if_pos x5]
              · rw [if_neg x5, if_neg x5, if_neg x5]
                by_cases x6 : x = 7 * (f + j) + 6
                · rw [if_pos x6, if_pos x6]
                · rw [if_neg x6, if_neg x6, if_neg x6]
            rw [e13]
            refine ih (i + 1) _ _ (by omega) (Or.inr ⟨?_, by omega, rfl⟩)
            rcases hI with ⟨a1, a2, a3⟩ | ⟨a1, a2, a3⟩
            · rw [a3, hdr, ghG, if_pos hgc]
            · omega
        | succ n2 ihn =>
          intro j c hj hc
          obtain ⟨r, hr⟩ : ∃ r, L[j]? = some r := ⟨L[j]'(by omega), List.getElem?_eq_getElem (by omega)⟩
          have hrb := hL.at hr
          have step : ∀ v : Nat, ((v = 0 ∧ ¬ ((r.1 : Int) = 2 * (q.1 : Int) - (p.1 : Int) ∧ 0 < dv T a (2 * (q.1 : Int) - (p.1 : Int)))) ∨ (v = 1 ∧ ((r.1 : Int) = 2 * (q.1 : Int) - (p.1 : Int) ∧ 0 < dv T a (2 * (q.1 : Int) - (p.1 : Int))))) → fx_At E m_X10_name 57 [some (.inr m), some (.inl ((f + k : Nat) : Int)), some (.inl (f : Int)), some (.inl ((f + i : Nat) : Int)), some (.inl (q.1 : Int)), some (.inl (2 * (q.1 : Int) - (p.1 : Int))), some (.inl ((c ||| v : Nat) : Int)), some (.inl (((f + j : Nat) : Int) + 1))] [] (mrow M (rf E m 15) (nmG (M (rf E m 15)) (f + k) N1 F1)) (fun r M' => r = none ∧ M' = mrow M (rf E m 15) (nmG (M (rf E m 15)) (f + k) (ghN T a L k p) (ghO T a L k p))) := by
            intro v hv
            refine ihn (j + 1) (c ||| v) (by omega) ?_
            rcases hv with ⟨rfl, hv⟩ | ⟨rfl, hv⟩
            · rw [Nat.or_zero]
              rcases hc with ⟨c0, hc⟩ | ⟨c0, hc⟩
              · refine Or.inl ⟨c0, fun z => hc ?_⟩
                rcases z with z | ⟨j', z1, r', z2, z3, z4⟩
                · exact Or.inl z
                · refine Or.inr ⟨j', ?_, r', z2, z3, z4⟩
                  rcases Nat.lt_or_ge j' j with y | y
                  · exact y
                  · exfalso
                    have : j' = j := by omega
                    subst this
                    rw [hr] at z2
                    cases z2
                    exact hv ⟨z3, z4⟩
              · refine Or.inr ⟨c0, ?_⟩
                rcases hc with z | ⟨j', z1, z2⟩
                · exact Or.inl z
                · exact Or.inr ⟨j', by omega, z2⟩
            · have : c ||| 1 = 1 := by
                rcases hc with ⟨rfl, -⟩ | ⟨rfl, -⟩ <;> rfl
              rw [this]
              exact Or.inr ⟨rfl, Or.inr ⟨j, by omega, r, hr, hv⟩⟩
          refine b_X10_name_57 hW m _ _ _ _ _ _ _ _ _ hm ?_
          have e7 : (7 * ((f + j : Nat) : Int) + 0).toNat = 7 * (f + j) := by omega
          rw [mrow_s, e7, gs, hS j r hr]
          refine ⟨by omega, by omega, fun z => absurd z (by omega), fun _ => ⟨by omega, by omega, by omega, fun hne => ⟨c, 0, rfl, rfl, step 0 (Or.inl ⟨rfl, fun z => hne z.1⟩)⟩, fun heq => ?_⟩⟩
          have hpb' : 1 ≤ 2 * (q.1 : Int) - (p.1 : Int) ∧ 2 * (q.1 : Int) - (p.1 : Int) ≤ 400 := by omega
          have dq := dvb (2 * (q.1 : Int) - (p.1 : Int))
          rw [Tr.dev hpb']
          exact ⟨hpb', by omega, fun hle => ⟨c, 0, rfl, rfl, step 0 (Or.inl ⟨rfl, fun z => by omega⟩)⟩, fun hgt => ⟨c, 1, rfl, rfl, step 1 (Or.inr ⟨rfl, heq, by omega⟩)⟩⟩
      refine b_X10_name_16 hW m _ _ _ _ _ hm ?_
      have e7i : (7 * ((f + i : Nat) : Int) + 0).toNat = 7 * (f + i) := by omega
      have e7k : (7 * ((f + k : Nat) : Int) + 0).toNat = 7 * (f + k) := by omega
      rw [mrow_s, e7i, e7k, gs, gs, hS i q hq, hS k p hp]
      refine ⟨by omega, by omega, fun z => absurd z (by omega), fun _ => ⟨by omega, by omega, by omega, fun hne => at57 k 0 0 (by omega) (Or.inl ⟨rfl, fun z => z.elim hne (fun ⟨_, h, _⟩ => absurd h (by omega))⟩), fun heq => at57 k 0 1 (by omega) (Or.inr ⟨rfl, Or.inl heq⟩)⟩⟩
  refine x_ct (by decide) (Nat.le_of_ble_eq_true rfl) (b_X10_name_0 hW m _ _ M _ hm ?_)
  have e7k : (7 * ((f + k : Nat) : Int) + 0).toNat = 7 * (f + k) := by omega
  have dp := dvb (p.1 : Int)
  rw [e7k, hS k p hp, hT.dev (by omega)]
  refine ⟨by omega, by omega, by omega, fun hdv => ?_, fun hdv => ⟨rfl, ?_⟩⟩
  · have h' := key hdv k 0 (-1000005) (-1000005) (by omega) (Or.inl ⟨rfl, rfl, by rw [List.drop_zero]⟩)
    rw [noop, mrow_id] at h'
    exact h'
  · have e1 : ghN T a L k p = -1000005 := by rw [ghN, if_neg hdv]
    have e2 : ghO T a L k p = -1000005 := by rw [ghO, if_pos e1]
    rw [e1, e2, noop, mrow_id]
end
