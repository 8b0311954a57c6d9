/-! The changes keep the row in its ranges; each has one answer. -/
theorem sg_pos {g : Nat → Int} : ∀ (n : Nat), (∀ i, i < n → 0 ≤ g i) → 0 ≤ sg g n
  | 0, _ => by simp [sg]
  | n + 1, h => by
    have := sg_pos n (fun i hi => h i (by omega))
    have := h n (by omega)
    rw [sg]; omega
theorem tot_congr {w w' : Nat → Int} (h0 : w' 0 = w 0) (h8 : w 0 ≤ 8) (h : ∀ j, j < 25 → w' j = w j) : tot w' = tot w := by
  unfold tot wsum
  rw [h0]
  exact sg_congr _ (fun i hi => h _ (by omega))
theorem tot_app {w : Nat → Int} {l a s : Int} {n : Nat} (hn : w 0 = (n : Int)) (hn8 : n < 8) : tot (wapp w l a s) = wsum w n + l := by
  obtain ⟨q0, q1, q2, q3, q4, q5, q6⟩ := wapp_at (l := l) (a := a) (s := s) hn (by omega)
  unfold tot wsum
  rw [q0, show ((n : Int) + 1).toNat = n + 1 by omega, sg, q1, sg_congr n (fun i hi => q6 (1 + 3 * i) (by omega) (by omega))]
theorem ok_app {w : Nat → Int} {l a s : Int} {n : Nat} (hn : w 0 = (n : Int)) (hn8 : n < 8) (hs : okSec l a s) (ht : wsum w n + l ≤ 300) (hsec : ∀ i : Nat, i < n → okSec (w (1 + 3 * i)) (w (2 + 3 * i)) (w (3 + 3 * i)))
    (hj : ∀ k : Nat, k ≤ n → (0 ≤ w (25 + 2 * k) ∧ w (25 + 2 * k) ≤ 3000) ∧ (0 ≤ w (26 + 2 * k) ∧ w (26 + 2 * k) ≤ 9000)) (h43 : 0 ≤ w 43 ∧ w 43 ≤ 6) (hb : ∀ i : Nat, (i : Int) < w 43 → (1 ≤ w (44 + 2 * i) ∧ w (44 + 2 * i) < wsum w n + l) ∧ (1 ≤ w (45 + 2 * i) ∧ w (45 + 2 * i) ≤ 3000)) (h56 : 0 ≤ w 56 ∧ w 56 < wsum w n + l) (h57 : 0 ≤ w 57 ∧ w 57 ≤ 9000) (hset : ∀ j : Nat, j < 4 → sv 0 j ≤ w (58 + j) ∧ w (58 + j) ≤ sv 1 j)
    (hm : (0 ≤ w 62 ∧ w 62 ≤ 10) ∧ (∀ i : Nat, (i : Int) < w 62 → (0 ≤ w (63 + 2 * i) ∧ w (63 + 2 * i) ≤ 9999) ∧ (0 ≤ w (64 + 2 * i) ∧ w (64 + 2 * i) ≤ 99)) ∧ (∀ i : Nat, (i : Int) + 1 < w 62 → w (63 + 2 * i) < w (65 + 2 * i)) ∧ (0 ≤ w 83 ∧ w 83 ≤ 100)) : wOk (wapp w l a s) := by
  have et := tot_app (l := l) (a := a) (s := s) hn hn8
  obtain ⟨q0, q1, q2, q3, q4, q5, q6⟩ := wapp_at (l := l) (a := a) (s := s) hn (by omega)
  unfold wOk
  rw [et, q0]
  refine ⟨by omega, fun i hi => ?_, ht, fun k hk => ?_, ?_, fun i hi => ?_, ?_, ?_, fun j hj => ?_, ?_, fun i hi => ?_, fun i hi => ?_, ?_⟩
  · by_cases hin : i = n
    · subst hin; rw [q1, q2, q3]; exact hs
    · rw [q6 (1 + 3 * i) (by omega) (by omega), q6 (2 + 3 * i) (by omega) (by omega), q6 (3 + 3 * i) (by omega) (by omega)]
      exact hsec i (by omega)
  · by_cases hkn : k = n + 1
    · subst hkn; rw [q4, q5]; omega
    · rw [q6 (25 + 2 * k) (by omega) (by omega), q6 (26 + 2 * k) (by omega) (by omega)]
      exact hj k (by omega)
  · rw [q6 43 (by omega) (by omega)]; exact h43
  · rw [q6 43 (by omega) (by omega)] at hi
    rw [q6 (44 + 2 * i) (by omega) (by omega), q6 (45 + 2 * i) (by omega) (by omega)]
    exact hb i hi
  · rw [q6 56 (by omega) (by omega)]; exact h56
  · rw [q6 57 (by omega) (by omega)]; exact h57
  · rw [q6 (58 + j) (by omega) (by omega)]; exact hset j hj
  · rw [q6 62 (by omega) (by omega)]; exact hm.1
  · rw [q6 62 (by omega) (by omega)] at hi
    rw [q6 (63 + 2 * i) (by omega) (by omega), q6 (64 + 2 * i) (by omega) (by omega)]
    exact hm.2.1 i hi
  · rw [q6 62 (by omega) (by omega)] at hi
    rw [q6 (63 + 2 * i) (by omega) (by omega), q6 (65 + 2 * i) (by omega) (by omega)]
    exact hm.2.2.1 i hi
  · rw [q6 83 (by omega) (by omega)]; exact hm.2.2.2
theorem ok_begin {w w1 : Nat → Int} {l a s r : Int} (hw : wOk w) (h : opBegin w l a s r (some w1)) : wOk w1 := by
  rcases h with ⟨h1, -, h3⟩ | ⟨-, -, h3⟩
  · cases h3
    obtain ⟨o1, o2, o3, o4, o5, o6, o7, o8, o9, o10, o11, o12, o13⟩ := hw
    refine ok_app (n := 0) rfl (by decide) h1 ?_ (fun i hi => absurd hi (by omega)) (fun k hk => ?_) (by simp) (fun i hi => ?_) ?_ (by simp) (fun j hj => ?_) ⟨?_, fun i hi => ?_, fun i hi => ?_, ?_⟩
    · show 0 + l ≤ 300
      have := h1.1
      omega
    · obtain rfl : k = 0 := by omega
      simp
    · exact absurd (show (i : Int) < 0 from hi) (by omega)
    · show 0 ≤ (0 : Int) ∧ (0 : Int) < 0 + l
      have := h1.1
      omega
    · rw [if_neg (by omega)]; exact o9 j hj
    · rw [if_neg (by omega)]; exact o10
    · rw [if_neg (by omega)] at hi
      rw [if_neg (by omega), if_neg (by omega)]
      exact o11 i hi
    · rw [if_neg (by omega)] at hi
      rw [if_neg (by omega), if_neg (by omega)]
      exact o12 i hi
    · rw [if_neg (by omega)]; exact o13
  · cases h3
theorem ok_add {w w1 : Nat → Int} {l a s r : Int} (hw : wOk w) (h : opAdd w l a s r (some w1)) : wOk w1 := by
  rcases h with ⟨h1, h2, -, h3⟩ | ⟨-, -, -, h3⟩ | ⟨-, -, h3⟩
  · cases h3
    have ht := hw.tot1
    obtain ⟨o1, o2, o3, o4, o5, o6, o7, o8, o9, o10, o11, o12, o13⟩ := hw
    obtain ⟨n, hn⟩ : ∃ n : Nat, w 0 = (n : Int) := ⟨(w 0).toNat, by omega⟩
    have et : tot w = wsum w n := by unfold tot; rw [hn, Int.toNat_natCast]
    have hl := h1.1
    rw [et] at h2 ht o6 o7
    exact ok_app hn (by omega) h1 h2.2 (fun i hi => o2 i (by omega)) (fun k hk => o4 k (by omega)) o5 (fun i hi => by have := o6 i hi; omega) (by omega) o8 o9 ⟨o10, o11, o12, o13⟩
  · cases h3
  · cases h3
theorem ok_joint {w w1 : Nat → Int} {j l h r : Int} (hw : wOk w) (hh : opJoint w j l h r (some w1)) : wOk w1 := by
  rcases hh with ⟨h1, h2, -, h3⟩ | ⟨-, -, h3⟩ | ⟨-, -, -, h3⟩
  · cases h3
    obtain ⟨o1, o2, o3, o4, o5, o6, o7, o8, o9, o10, o11, o12, o13⟩ := hw
    obtain ⟨k, rfl⟩ : ∃ k : Nat, j = (k : Int) := ⟨j.toNat, by omega⟩
    rw [Int.toNat_natCast]
    have et : tot (wu (wu w (25 + 2 * k) l) (26 + 2 * k) h) = tot w := tot_congr (by rw [wu_n (by omega), wu_n (by omega)]) o1.2 (fun i hi => by rw [wu_n (by omega), wu_n (by omega)])
    unfold wOk
    rw [et, wu_n (by omega), wu_n (by omega)]
    refine ⟨o1, fun i hi => ?_, o3, fun i hi => ?_, ?_, fun i hi => ?_, ?_, ?_, fun i hi => ?_, ?_, fun i hi => ?_, fun i hi => ?_, ?_⟩
    · rw [wu_n (by omega), wu_n (by omega), wu_n (by omega), wu_n (by omega), wu_n (by omega), wu_n (by omega)]; exact o2 i hi
    · by_cases hik : i = k
      · subst hik; rw [wu_n (by omega), wu_s, wu_s]; exact h2
      · rw [wu_n (by omega), wu_n (by omega), wu_n (by omega), wu_n (by omega)]; exact o4 i hi
    · rw [wu_n (by omega), wu_n (by omega)]; exact o5
    · rw [wu_n (by omega), wu_n (by omega)] at hi
      rw [wu_n (by omega), wu_n (by omega), wu_n (by omega), wu_n (by omega)]; exact o6 i hi
    · rw [wu_n (by omega), wu_n (by omega)]; exact o7
    · rw [wu_n (by omega), wu_n (by omega)]; exact o8
    · rw [wu_n (by omega), wu_n (by omega)]; exact o9 i hi
    · rw [wu_n (by omega), wu_n (by omega)]; exact o10
    · rw [wu_n (by omega), wu_n (by omega)] at hi
      rw [wu_n (by omega), wu_n (by omega), wu_n (by omega), wu_n (by omega)]; exact o11 i hi
    · rw [wu_n (by omega), wu_n (by omega)] at hi
      rw [wu_n (by omega), wu_n (by omega), wu_n (by omega), wu_n (by omega)]; exact o12 i hi
    · rw [wu_n (by omega), wu_n (by omega)]; exact o13
  · cases h3
  · cases h3
theorem ok_bendA {w w1 : Nat → Int} {p l r : Int} (hw : wOk w) (hh : opBendA w p l r (some w1)) : wOk w1 := by
  rcases hh with ⟨h1, h2, -, h3⟩ | ⟨-, -, -, h3⟩ | ⟨-, -, h3⟩
  · cases h3
    obtain ⟨o1, o2, o3, o4, o5, o6, o7, o8, o9, o10, o11, o12, o13⟩ := hw
    obtain ⟨k, hk⟩ : ∃ k : Nat, w 43 = (k : Int) := ⟨(w 43).toNat, by omega⟩
    rw [hk, Int.toNat_natCast]
    have et : tot (wu (wu (wu w (44 + 2 * k) p) (45 + 2 * k) l) 43 ((k : Int) + 1)) = tot w := tot_congr (by rw [wu_n (by omega), wu_n (by omega), wu_n (by omega)]) o1.2 (fun i hi => by rw [wu_n (by omega), wu_n (by omega), wu_n (by omega)])
    unfold wOk
    rw [et, wu_n (by omega), wu_n (by omega), wu_n (by omega)]
    refine ⟨o1, fun i hi => ?_, o3, fun i hi => ?_, ?_, fun i hi => ?_, ?_, ?_, fun i hi => ?_, ?_, fun i hi => ?_, fun i hi => ?_, ?_⟩
    · rw [wu_n (by omega), wu_n (by omega), wu_n (by omega), wu_n (by omega), wu_n (by omega), wu_n (by omega), wu_n (by omega), wu_n (by omega), wu_n (by omega)]; exact o2 i hi
    · rw [wu_n (by omega), wu_n (by omega), wu_n (by omega), wu_n (by omega), wu_n (by omega), wu_n (by omega)]; exact o4 i hi
    · rw [wu_s]; omega
    · rw [wu_s] at hi
      by_cases hik : i = k
      · subst hik
        rw [wu_n (by omega), wu_n (by omega), wu_s, wu_n (by omega), wu_s]; omega
      · rw [wu_n (by omega), wu_n (by omega), wu_n (by omega), wu_n (by omega), wu_n (by omega), wu_n (by omega)]; exact o6 i (by omega)
    · rw [wu_n (by omega), wu_n (by omega), wu_n (by omega)]; exact o7
    · rw [wu_n (by omega), wu_n (by omega), wu_n (by omega)]; exact o8
    · rw [wu_n (by omega), wu_n (by omega), wu_n (by omega)]; exact o9 i hi
    · rw [wu_n (by omega), wu_n (by omega), wu_n (by omega)]; exact o10
    · rw [wu_n (by omega), wu_n (by omega), wu_n (by omega)] at hi
      rw [wu_n (by omega), wu_n (by omega), wu_n (by omega), wu_n (by omega), wu_n (by omega), wu_n (by omega)]; exact o11 i hi
    · rw [wu_n (by omega), wu_n (by omega), wu_n (by omega)] at hi
      rw [wu_n (by omega), wu_n (by omega), wu_n (by omega), wu_n (by omega), wu_n (by omega), wu_n (by omega)]; exact o12 i hi
    · rw [wu_n (by omega), wu_n (by omega), wu_n (by omega)]; exact o13
  · cases h3
  · cases h3
theorem ok_bendR {w w1 : Nat → Int} {k r : Int} (hw : wOk w) (hh : opBendR w k r (some w1)) : wOk w1 := by
  rcases hh with ⟨h1, -, h3⟩ | ⟨-, -, h3⟩
  · cases h3
    obtain ⟨o1, o2, o3, o4, o5, o6, o7, o8, o9, o10, o11, o12, o13⟩ := hw
    obtain ⟨j, rfl⟩ : ∃ j : Nat, k = (j : Int) := ⟨k.toNat, by omega⟩
    rw [Int.toNat_natCast]
    have wlo : ∀ i, i < 43 → wrem w j i = w i := fun i hi => by simp only [wrem]; rw [if_neg (by omega), if_neg (by omega)]
    have whi : ∀ i, 56 ≤ i → wrem w j i = w i := fun i hi => by simp only [wrem]; rw [if_neg (by omega), if_neg (by omega)]
    have w43 : wrem w j 43 = w 43 - 1 := by simp only [wrem]; rw [if_neg (by omega), if_pos trivial]
    have et : tot (wrem w j) = tot w := tot_congr (wlo 0 (by omega)) o1.2 (fun i hi => wlo i (by omega))
    unfold wOk
    rw [et, wlo 0 (by omega)]
    refine ⟨o1, fun i hi => ?_, o3, fun i hi => ?_, ?_, fun i hi => ?_, ?_, ?_, fun i hi => ?_, ?_, fun i hi => ?_, fun i hi => ?_, ?_⟩
    · rw [wlo _ (by omega), wlo _ (by omega), wlo _ (by omega)]; exact o2 i hi
    · rw [wlo _ (by omega), wlo _ (by omega)]; exact o4 i hi
    · rw [w43]; omega
    · rw [w43] at hi
      by_cases hij : j ≤ i
      · have a1 : wrem w j (44 + 2 * i) = w (44 + 2 * (i + 1)) := by simp only [wrem]; rw [if_pos (by omega), show 44 + 2 * i + 2 = 44 + 2 * (i + 1) by omega]
        have a2 : wrem w j (45 + 2 * i) = w (45 + 2 * (i + 1)) := by simp only [wrem]; rw [if_pos (by omega), show 45 + 2 * i + 2 = 45 + 2 * (i + 1) by omega]
        rw [a1, a2]; exact o6 (i + 1) (by omega)
      · have a1 : wrem w j (44 + 2 * i) = w (44 + 2 * i) := by simp only [wrem]; rw [if_neg (by omega), if_neg (by omega)]
        have a2 : wrem w j (45 + 2 * i) = w (45 + 2 * i) := by simp only [wrem]; rw [if_neg (by omega), if_neg (by omega)]
        rw [a1, a2]; exact o6 i (by omega)
    · rw [whi _ (by omega)]; exact o7
    · rw [whi _ (by omega)]; exact o8
    · rw [whi _ (by omega)]; exact o9 i hi
    · rw [whi _ (by omega)]; exact o10
    · rw [whi _ (by omega)] at hi
      rw [whi _ (by omega), whi _ (by omega)]; exact o11 i hi
    · rw [whi _ (by omega)] at hi
      rw [whi _ (by omega), whi _ (by omega)]; exact o12 i hi
    · rw [whi _ (by omega)]; exact o13
  · cases h3
theorem ok_break {w w1 : Nat → Int} {p h r : Int} (hw : wOk w) (hh : opBreak w p h r (some w1)) : wOk w1 := by
  rcases hh with ⟨h1, -, -, h3⟩ | ⟨-, -, -, h3⟩ | ⟨-, -, h3⟩
  · cases h3
    obtain ⟨o1, o2, o3, o4, o5, o6, o7, o8, o9, o10, o11, o12, o13⟩ := hw
    have hq : 0 ≤ (if p = 0 then 0 else h) ∧ (if p = 0 then 0 else h) ≤ 9000 := by split <;> omega
    generalize (if p = 0 then 0 else h) = q at hq ⊢
    have et : tot (wu (wu w 56 p) 57 q) = tot w := tot_congr (by rw [wu_n (by omega), wu_n (by omega)]) o1.2 (fun i hi => by rw [wu_n (by omega), wu_n (by omega)])
    unfold wOk
    rw [et, wu_n (by omega), wu_n (by omega)]
    refine ⟨o1, fun i hi => ?_, o3, fun i hi => ?_, ?_, fun i hi => ?_, ?_, ?_, fun i hi => ?_, ?_, fun i hi => ?_, fun i hi => ?_, ?_⟩
    · rw [wu_n (by omega), wu_n (by omega), wu_n (by omega), wu_n (by omega), wu_n (by omega), wu_n (by omega)]; exact o2 i hi
    · rw [wu_n (by omega), wu_n (by omega), wu_n (by omega), wu_n (by omega)]; exact o4 i hi
    · rw [wu_n (by omega), wu_n (by omega)]; exact o5
    · rw [wu_n (by omega), wu_n (by omega)] at hi
      rw [wu_n (by omega), wu_n (by omega), wu_n (by omega), wu_n (by omega)]; exact o6 i hi
    · rw [wu_n (by omega), wu_s]; omega
    · rw [wu_s]; exact hq
    · rw [wu_n (by omega), wu_n (by omega)]; exact o9 i hi
    · rw [wu_n (by omega), wu_n (by omega)]; exact o10
    · rw [wu_n (by omega), wu_n (by omega)] at hi
      rw [wu_n (by omega), wu_n (by omega), wu_n (by omega), wu_n (by omega)]; exact o11 i hi
    · rw [wu_n (by omega), wu_n (by omega)] at hi
      rw [wu_n (by omega), wu_n (by omega), wu_n (by omega), wu_n (by omega)]; exact o12 i hi
    · rw [wu_n (by omega), wu_n (by omega)]; exact o13
  · cases h3
  · cases h3
/-- a change above 58 -/
theorem ok_up {w w1 : Nat → Int} (hw : wOk w) (hlo : ∀ i, i < 58 → w1 i = w i) (hset : ∀ j : Nat, j < 4 → sv 0 j ≤ w1 (58 + j) ∧ w1 (58 + j) ≤ sv 1 j)
    (hm : (0 ≤ w1 62 ∧ w1 62 ≤ 10) ∧ (∀ i : Nat, (i : Int) < w1 62 → (0 ≤ w1 (63 + 2 * i) ∧ w1 (63 + 2 * i) ≤ 9999) ∧ (0 ≤ w1 (64 + 2 * i) ∧ w1 (64 + 2 * i) ≤ 99)) ∧ (∀ i : Nat, (i : Int) + 1 < w1 62 → w1 (63 + 2 * i) < w1 (65 + 2 * i)) ∧ (0 ≤ w1 83 ∧ w1 83 ≤ 100)) : wOk w1 := by
  obtain ⟨o1, o2, o3, o4, o5, o6, o7, o8, o9, o10, o11, o12, o13⟩ := hw
  have et : tot w1 = tot w := tot_congr (hlo 0 (by omega)) o1.2 (fun i hi => hlo i (by omega))
  unfold wOk
  rw [et, hlo 0 (by omega), hlo 43 (by omega), hlo 56 (by omega), hlo 57 (by omega)]
  refine ⟨o1, fun i hi => ?_, o3, fun i hi => ?_, o5, fun i hi => ?_, o7, o8, hset, hm⟩
  · rw [hlo _ (by omega), hlo _ (by omega), hlo _ (by omega)]; exact o2 i hi
  · rw [hlo _ (by omega), hlo _ (by omega)]; exact o4 i hi
  · rw [hlo _ (by omega), hlo _ (by omega)]; exact o6 i hi
theorem ok_set {w w1 : Nat → Int} {k x r : Int} (hw : wOk w) (hh : opSet w k x r (some w1)) : wOk w1 := by
  rcases hh with ⟨h1, h2, -, h3⟩ | ⟨-, -, h3⟩ | ⟨-, -, -, h3⟩
  · cases h3
    obtain ⟨j, rfl⟩ : ∃ j : Nat, k = (j : Int) := ⟨k.toNat, by omega⟩
    rw [Int.toNat_natCast] at h2 ⊢
    have hw' := hw
    obtain ⟨o1, o2, o3, o4, o5, o6, o7, o8, o9, o10, o11, o12, o13⟩ := hw'
    refine ok_up hw (fun i hi => wu_n (by omega)) (fun i hi => ?_) ?_
    · by_cases hij : i = j
      · subst hij; rw [wu_s]; exact h2
      · rw [wu_n (by omega)]; exact o9 i hi
    · rw [wu_n (by omega), wu_n (by omega)]
      refine ⟨o10, fun i hi => ?_, fun i hi => ?_, o13⟩
      · rw [wu_n (by omega), wu_n (by omega)]; exact o11 i hi
      · rw [wu_n (by omega), wu_n (by omega)]; exact o12 i hi
  · cases h3
  · cases h3
theorem ok_point {w w1 : Nat → Int} {p s r : Int} (hw : wOk w) (hh : opPoint w p s r (some w1)) : wOk w1 := by
  rcases hh with ⟨h1, h2, hg, -, h3⟩ | ⟨-, -, -, h3⟩ | ⟨-, -, -, -, h3⟩ | ⟨-, -, h3⟩
  · cases h3
    have hw' := hw
    obtain ⟨o1, o2, o3, o4, o5, o6, o7, o8, o9, o10, o11, o12, o13⟩ := hw'
    obtain ⟨k, hk⟩ : ∃ k : Nat, w 62 = (k : Int) := ⟨(w 62).toNat, by omega⟩
    rw [hk, Int.toNat_natCast] at hg
    rw [hk, Int.toNat_natCast]
    refine ok_up hw (fun i hi => by rw [wu_n (by omega), wu_n (by omega), wu_n (by omega)]) (fun i hi => by rw [wu_n (by omega), wu_n (by omega), wu_n (by omega)]; exact o9 i hi) ?_
    rw [wu_s]
    refine ⟨by omega, fun i hi => ?_, fun i hi => ?_, by rw [wu_n (by omega), wu_n (by omega), wu_n (by omega)]; exact o13⟩
    · by_cases hik : i = k
      · subst hik
        rw [wu_n (by omega), wu_n (by omega), wu_s, wu_n (by omega), wu_s]; exact h1
      · rw [wu_n (by omega), wu_n (by omega), wu_n (by omega), wu_n (by omega), wu_n (by omega), wu_n (by omega)]; exact o11 i (by omega)
    · by_cases hik : i + 1 = k
      · have e : 65 + 2 * i = 63 + 2 * k := by omega
        have e2 : 61 + 2 * k = 63 + 2 * i := by omega
        rw [e2] at hg
        rw [e, wu_n (by omega), wu_n (by omega), wu_n (by omega), wu_n (by omega), wu_n (by omega), wu_s]; omega
      · rw [wu_n (by omega), wu_n (by omega), wu_n (by omega), wu_n (by omega), wu_n (by omega), wu_n (by omega)]; exact o12 i (by omega)
  · cases h3
  · cases h3
  · cases h3
theorem ok_clear {w w1 : Nat → Int} {r : Int} (hw : wOk w) (hh : opClear w r (some w1)) : wOk w1 := by
  obtain ⟨-, h3⟩ := hh
  cases h3
  have hw' := hw
  obtain ⟨o1, o2, o3, o4, o5, o6, o7, o8, o9, o10, o11, o12, o13⟩ := hw'
  refine ok_up hw (fun i hi => wu_n (by omega)) (fun i hi => by rw [wu_n (by omega)]; exact o9 i hi) ?_
  rw [wu_s, wu_n (by omega)]
  exact ⟨by omega, fun i hi => absurd hi (by omega), fun i hi => absurd hi (by omega), o13⟩
theorem ok_exc {w w1 : Nat → Int} {e r : Int} (hw : wOk w) (hh : opExc w e r (some w1)) : wOk w1 := by
  rcases hh with ⟨h1, -, h3⟩ | ⟨-, -, h3⟩
  · cases h3
    have hw' := hw
    obtain ⟨o1, o2, o3, o4, o5, o6, o7, o8, o9, o10, o11, o12, o13⟩ := hw'
    refine ok_up hw (fun i hi => wu_n (by omega)) (fun i hi => by rw [wu_n (by omega)]; exact o9 i hi) ?_
    rw [wu_s, wu_n (by omega)]
    refine ⟨o10, fun i hi => ?_, fun i hi => ?_, h1⟩
    · rw [wu_n (by omega), wu_n (by omega)]; exact o11 i hi
    · rw [wu_n (by omega), wu_n (by omega)]; exact o12 i hi
  · cases h3
