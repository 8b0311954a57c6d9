/-! The reference's state: its row of 84 cells, its past, sections. -/
def mrow (M : fxM) (a : Nat) (g : Nat → Int) : fxM := fun c => if c = a then g else M c
theorem mrow_s {M : fxM} {a : Nat} {g : Nat → Int} : mrow M a g a = g := by simp [mrow]
theorem mrow_o {M : fxM} {a c : Nat} {g : Nat → Int} (h : c ≠ a) : mrow M a g c = M c := by simp [mrow, h]
theorem mrow_id {M : fxM} {a : Nat} : mrow M a (M a) = M := by
  funext c
  by_cases h : c = a
  · rw [h, mrow_s]
  · rw [mrow_o h]
theorem mset_row {M : fxM} {a k : Nat} {v : Int} {g : Nat → Int} : mset (mrow M a g) a k v = mrow M a (fun j => if j = k then v else g j) := by
  funext c j
  by_cases h : c = a <;> simp [mset, mrow, h]
theorem mset_mrow {M : fxM} {a k : Nat} {v : Int} : mset M a k v = mrow M a (fun j => if j = k then v else M a j) := by
  funext c j
  by_cases h : c = a <;> simp [mset, mrow, h]
theorem mrow_mrow {M : fxM} {a : Nat} {g g' : Nat → Int} : mrow (mrow M a g) a g' = mrow M a g' := by
  funext c
  by_cases h : c = a <;> simp [mrow, h]
section
variable {E : fxE} {M : fxM}
theorem mne (hW : fx_Wt E) {m i j : Nat} (hm : kd E m = 10) (hi : (lay 10)[i]? = some true) (hj : (lay 10)[j]? = some true) (h : i ≠ j) : rf E m i ≠ rf E m j := one_ne hW hm (by decide) hi hj h
theorem ct_X10_clearFibre (hW : fx_Wt E) {m : Nat} (hm : kd E m = 10) : CtV E m_X10_clearFibre [.inr m] M (fun M' => M' = mrow M (rf E m 0) (fun j => if j < 58 then 0 else M (rf E m 0) j)) := by
  refine x_ct (by decide) (Nat.le_of_ble_eq_true rfl) (b_X10_clearFibre_0 hW m M _ hm ?_)
  have key : ∀ (n x : Nat), x + n = 58 → fx_At E m_X10_clearFibre 2 [some (.inr m), some (.inl (x : Int))] [] (mrow M (rf E m 0) (fun j => if j < x then 0 else M (rf E m 0) j)) (fun r M' => r = none ∧ M' = mrow M (rf E m 0) (fun j => if j < 58 then 0 else M (rf E m 0) j)) := by
    intro n
    induction n with
    | zero =>
      intro x hx
      obtain rfl : x = 58 := by omega
      exact b_X10_clearFibre_2 hW m _ _ _ hm ⟨by omega, fun _ => ⟨rfl, rfl⟩, fun h => absurd (by omega) h⟩
    | succ n ih =>
      intro x hx
      refine b_X10_clearFibre_2 hW m _ _ _ hm ⟨by omega, fun h => absurd h (by omega), fun _ => ⟨by omega, fun M3 h3 => ?_⟩⟩
      rw [Int.toNat_natCast, mset_row] at h3
      have e : (fun j => if j = x then (0 : Int) else if j < x then 0 else M (rf E m 0) j) = fun j => if j < x + 1 then 0 else M (rf E m 0) j := by
        funext j
        by_cases h1 : j = x
        · rw [if_pos h1, if_pos (by omega)]
        · rw [if_neg h1]
          by_cases h2 : j < x
          · rw [if_pos h2, if_pos (by omega)]
          · rw [if_neg h2, if_neg (by omega)]
      rw [e] at h3
      rw [h3]
      exact ih (x + 1) (by omega)
  have h0 := key 58 0 (by omega)
  have e : mrow M (rf E m 0) (fun j => if j < 0 then 0 else M (rf E m 0) j) = M := by
    have : (fun j => if j < 0 then (0 : Int) else M (rf E m 0) j) = M (rf E m 0) := by funext j; simp
    rw [this, mrow_id]
  rw [e] at h0
  exact h0
theorem ct_X10_append (hW : fx_Wt E) {m : Nat} {l a s : Int} (hm : kd E m = 10) (h0 : 0 ≤ M (rf E m 0) 0 ∧ M (rf E m 0) 0 < 8) : CtV E m_X10_append [.inr m, .inl l, .inl a, .inl s] M (fun M' => M' = mrow M (rf E m 0) (wapp (M (rf E m 0)) l a s)) := by
  obtain ⟨n, hn⟩ : ∃ n : Nat, M (rf E m 0) 0 = (n : Int) := ⟨(M (rf E m 0) 0).toNat, by omega⟩
  have hn8 : n < 8 := by omega
  refine x_ct (by decide) (Nat.le_of_ble_eq_true rfl) (b_X10_append_0 hW m l a s M _ hm ⟨by omega, fun M2 h2 => ⟨by omega, fun M4 h4 => ⟨by omega, fun M6 h6 M7 h7 => ?_⟩⟩⟩)
  have e1 : (1 + 3 * M (rf E m 0) 0).toNat = 1 + 3 * n := by rw [hn]; omega
  have e2 : (1 + 3 * M (rf E m 0) 0 + 1).toNat = 2 + 3 * n := by rw [hn]; omega
  have e3 : (1 + 3 * M (rf E m 0) 0 + 2).toNat = 3 + 3 * n := by rw [hn]; omega
  rw [e1] at h2; rw [e2] at h4; rw [e3] at h6
  have k6 : M6 (rf E m 0) 0 = (n : Int) := by rw [h6, mset_n (by omega), h4, mset_n (by omega), h2, mset_n (by omega), hn]
  rw [k6] at h7
  have k7 : M7 (rf E m 0) 0 = (n : Int) + 1 := by rw [h7, mset_s]
  refine ⟨by omega, fun M9 h9 => ?_⟩
  have e9 : (25 + 2 * M7 (rf E m 0) 0).toNat = 25 + 2 * (n + 1) := by rw [k7]; omega
  rw [e9] at h9
  have k9 : M9 (rf E m 0) 0 = (n : Int) + 1 := by rw [h9, mset_n (by omega), k7]
  refine ⟨by omega, fun M11 h11 => ⟨rfl, ?_⟩⟩
  have e11 : (25 + 2 * M9 (rf E m 0) 0 + 1).toNat = 26 + 2 * (n + 1) := by rw [k9]; omega
  rw [e11] at h11
  clear k6 k7 k9 e1 e2 e3 e9 e11
  rw [mset_mrow] at h2; rw [h2, mset_row] at h4; rw [h4, mset_row] at h6; rw [h6, mset_row] at h7; rw [h7, mset_row] at h9; rw [h9, mset_row] at h11
  rw [h11]
  show mrow M (rf E m 0) _ = mrow M (rf E m 0) _
  congr 1
  funext j
  simp only [wapp, hn, Int.toNat_natCast]
theorem ct_X10_renew (hW : fx_Wt E) {m : Nat} {l a s : Int} (hm : kd E m = 10) : CtV E m_X10_renew [.inr m, .inl l, .inl a, .inl s] M (fun M' => M' = mrow M (rf E m 0) (wapp (fun j => if j < 58 then 0 else M (rf E m 0) j) l a s)) := by
  refine x_ct (by decide) (Nat.le_of_ble_eq_true rfl) (b_X10_renew_0 hW m l a s M _ hm ⟨_, ct_X10_clearFibre hW hm, fun M1 h1 => ?_⟩)
  have k : M1 (rf E m 0) = fun j => if j < 58 then 0 else M (rf E m 0) j := by rw [h1, mrow_s]
  refine ⟨_, ct_X10_append hW hm (by rw [k]; simp), fun M2 h2 => ⟨rfl, ?_⟩⟩
  rw [h2, k, h1, mrow_mrow]
/-- what a change leaves in the reference's past -/
def rpush (P : Nat → Int) (n : Nat) (w : Nat → Int) : Nat → Int := fun j => if n < 8 then (if 84 * n ≤ j ∧ j < 84 * n + 84 then w (j - 84 * n) else P j) else (if 588 ≤ j ∧ j < 672 then w (j - 588) else if j < 588 then P (j + 84) else P j)
theorem at_X10_keep (hW : fx_Wt E) {m c : Nat} {P : Nat → Int} (hm : kd E m = 10) (hc : M m 2 = (c : Int)) (hc8 : c < 8) : ∀ (n x : Nat), x + n = 84 → fx_At E m_X10_keep 56 [some (.inr m), some (.inl (x : Int))] [] (mrow M (rf E m 1) (fun j => if 84 * c ≤ j ∧ j < 84 * c + x then M (rf E m 0) (j - 84 * c) else P j)) (fun r M' => r = none ∧ M' = mset (mrow M (rf E m 1) (fun j => if 84 * c ≤ j ∧ j < 84 * c + 84 then M (rf E m 0) (j - 84 * c) else P j)) m 2 ((c : Int) + 1)) := by
  have n1 : m ≠ rf E m 1 := kd_ne hm (wk_10_1 hW hm) (by decide)
  have n01 : rf E m 0 ≠ rf E m 1 := mne hW hm rfl rfl (by decide)
  intro n
  induction n with
  | zero =>
    intro x hx
    obtain rfl : x = 84 := by omega
    refine b_X10_keep_56 hW m _ _ _ hm ⟨by omega, fun _ M2 h2 => ⟨rfl, ?_⟩, fun h => absurd (by omega) h⟩
    rw [h2]
    congr 1
    rw [mrow_o n1, hc]
  | succ n ih =>
    intro x hx
    have k2 : ∀ g, mrow M (rf E m 1) g m 2 = (c : Int) := fun g => by rw [mrow_o n1, hc]
    refine b_X10_keep_56 hW m _ _ _ hm ⟨by omega, fun h => absurd h (by omega), fun _ => ⟨by omega, by rw [k2]; omega, fun M5 h5 => ?_⟩⟩
    have e1 : (84 * (c : Int) + (x : Int)).toNat = 84 * c + x := by omega
    rw [k2, e1, Int.toNat_natCast, mrow_o n01, mset_row] at h5
    have e : (fun j => if j = 84 * c + x then M (rf E m 0) x else if 84 * c ≤ j ∧ j < 84 * c + x then M (rf E m 0) (j - 84 * c) else P j) = fun j => if 84 * c ≤ j ∧ j < 84 * c + (x + 1) then M (rf E m 0) (j - 84 * c) else P j := by
      funext j
      by_cases h1 : j = 84 * c + x
      · rw [if_pos h1, if_pos (by omega), h1, show 84 * c + x - 84 * c = x by omega]
      · rw [if_neg h1]
        by_cases h2 : 84 * c ≤ j ∧ j < 84 * c + x
        · rw [if_pos h2, if_pos (by omega)]
        · rw [if_neg h2, if_neg (by omega)]
    rw [e] at h5
    rw [h5]
    exact ih (x + 1) (by omega)
theorem ct_X10_keep (hW : fx_Wt E) {m n : Nat} (hm : kd E m = 10) (hn : M m 2 = (n : Int)) (hn8 : n ≤ 8) : CtV E m_X10_keep [.inr m] M (fun M' => M' m 2 = (hlen n : Int) ∧ M' m 3 = -1 ∧ (∀ k, k ≠ 2 → k ≠ 3 → M' m k = M m k) ∧ M' (rf E m 1) = rpush (M (rf E m 1)) n (M (rf E m 0)) ∧ ∀ c, c ≠ m → c ≠ rf E m 1 → M' c = M c) := by
  have n1 : m ≠ rf E m 1 := kd_ne hm (wk_10_1 hW hm) (by decide)
  have n0 : m ≠ rf E m 0 := kd_ne hm (wk_10_0 hW hm) (by decide)
  have n01 : rf E m 0 ≠ rf E m 1 := mne hW hm rfl rfl (by decide)
  refine x_ct (by decide) (Nat.le_of_ble_eq_true rfl) (b_X10_keep_0 hW m M _ hm (fun M1 h1 => ?_))
  have k2 : M1 m 2 = (n : Int) := by rw [h1, mset_n (by decide), hn]
  have k0 : M1 (rf E m 0) = M (rf E m 0) := by rw [h1, mset_o n0.symm]
  have kP : M1 (rf E m 1) = M (rf E m 1) := by rw [h1, mset_o n1.symm]
  refine ⟨by omega, fun hc => ?_, fun hc => ?_⟩
  · have h8 : n < 8 := by omega
    have h := at_X10_keep (P := M1 (rf E m 1)) hW hm k2 h8 84 0 (by omega)
    have e : (fun j => if 84 * n ≤ j ∧ j < 84 * n + 0 then M1 (rf E m 0) (j - 84 * n) else M1 (rf E m 1) j) = M1 (rf E m 1) := by
      funext j
      rw [if_neg (by omega)]
    rw [e, mrow_id] at h
    refine x_mono h (fun r M' q => ⟨q.1, ?_⟩)
    rw [q.2]
    refine ⟨by rw [mset_s, hlen, if_pos h8]; omega, by rw [mset_n (by decide), mrow_o n1, h1, mset_s], fun k q2 q3 => by rw [mset_n q2, mrow_o n1, h1, mset_n q3], ?_, fun c q1 q2 => by rw [mset_o q1, mrow_o q2, h1, mset_o q1]⟩
    rw [mset_o n1.symm, mrow_s, k0, kP]
    funext j
    simp only [rpush, h8, if_true]
  · have h8 : n = 8 := by omega
    subst h8
    have key : ∀ (q x : Nat), x + q = 588 → fx_At E m_X10_keep 16 [some (.inr m), some (.inl (x : Int))] [] (mrow M1 (rf E m 1) (fun j => if j < x then M (rf E m 1) (j + 84) else M (rf E m 1) j)) (fun r M' => r = none ∧ M' = mset (mrow (mset (mrow M1 (rf E m 1) (fun j => if j < 588 then M (rf E m 1) (j + 84) else M (rf E m 1) j)) m 2 7) (rf E m 1) (fun j => if 84 * 7 ≤ j ∧ j < 84 * 7 + 84 then M (rf E m 0) (j - 84 * 7) else if j < 588 then M (rf E m 1) (j + 84) else M (rf E m 1) j)) m 2 (((7 : Nat) : Int) + 1)) := by
      intro q
      induction q with
      | zero =>
        intro x hx
        obtain rfl : x = 588 := by omega
        refine b_X10_keep_16 hW m _ _ _ hm ⟨by omega, fun _ M2 h2 => ?_, fun h => absurd (by omega) h⟩
        rw [mrow_o n1, k2] at h2
        have e7 : ((8 : Nat) : Int) - 1 = 7 := rfl
        rw [e7] at h2
        have j2 : M2 m 2 = ((7 : Nat) : Int) := by rw [h2, mset_s]; rfl
        have j0 : M2 (rf E m 0) = M (rf E m 0) := by rw [h2, mset_o n0.symm, mrow_o n01, k0]
        have h := at_X10_keep (P := M2 (rf E m 1)) hW hm j2 (by omega) 84 0 (by omega)
        have e : (fun j => if 84 * 7 ≤ j ∧ j < 84 * 7 + 0 then M2 (rf E m 0) (j - 84 * 7) else M2 (rf E m 1) j) = M2 (rf E m 1) := by
          funext j
          rw [if_neg (by omega)]
        rw [e, mrow_id] at h
        refine x_mono h (fun r M' q => ⟨q.1, ?_⟩)
        rw [q.2, j0]
        have jP : M2 (rf E m 1) = fun j => if j < 588 then M (rf E m 1) (j + 84) else M (rf E m 1) j := by rw [h2, mset_o n1.symm, mrow_s]
        rw [jP, h2]
      | succ q ih =>
        intro x hx
        refine b_X10_keep_16 hW m _ _ _ hm ⟨by omega, fun h => absurd h (by omega), fun _ => ⟨by omega, by omega, fun M5 h5 => ?_⟩⟩
        have e1 : ((x : Int) + 84).toNat = x + 84 := by omega
        rw [e1, Int.toNat_natCast, mrow_s, mset_row] at h5
        have e : (fun j => if j = x then (if x + 84 < x then M (rf E m 1) (x + 84 + 84) else M (rf E m 1) (x + 84)) else if j < x then M (rf E m 1) (j + 84) else M (rf E m 1) j) = fun j => if j < x + 1 then M (rf E m 1) (j + 84) else M (rf E m 1) j := by
          funext j
          by_cases h1 : j = x
          · rw [if_pos h1, if_neg (by omega), if_pos (by omega), h1]
          · rw [if_neg h1]
            by_cases h2 : j < x
            · rw [if_pos h2, if_pos (by omega)]
            · rw [if_neg h2, if_neg (by omega)]
        rw [e] at h5
        rw [h5]
        exact ih (x + 1) (by omega)
    have h := key 588 0 (by omega)
    have e : (fun j => if j < 0 then M (rf E m 1) (j + 84) else M (rf E m 1) j) = M1 (rf E m 1) := by
      rw [kP]
      funext j
      simp
    rw [e, mrow_id] at h
    refine x_mono h (fun r M' q => ⟨q.1, ?_⟩)
    rw [q.2]
    refine ⟨by rw [mset_s]; rfl, by rw [mset_n (by decide), mrow_o n1, mset_n (by decide), mrow_o n1, h1, mset_s], fun k q2 q3 => by rw [mset_n q2, mrow_o n1, mset_n q2, mrow_o n1, h1, mset_n q3], ?_, fun c q1 q2 => by rw [mset_o q1, mrow_o q2, mset_o q1, mrow_o q2, h1, mset_o q1]⟩
    rw [mset_o n1.symm, mrow_s]
    funext j
    simp only [rpush]
    rw [if_neg (by omega : ¬ 8 < 8)]
end
