/-! Events: what a trace says of them. -/
def dv (T : Int → Int) (a d : Int) : Int := T d - T (d - 1) + a
abbrev mkd (T : Int → Int) (a th d : Int) : Prop := (th ≤ dv T a d ∨ dv T a d ≤ -th) ∧ (5000 < T d ∨ 5000 < T (d - 1))
/-- the runs of marked distances from d on, of which one may be open since s -/
def rG (T : Int → Int) (a th : Int) : Nat → Nat → Nat → List (Nat × Nat)
  | 0, _, _ => []
  | n + 1, d, s => if mkd T a th (d : Int) then (if d = 400 then (if s = 0 then d else s, d) :: rG T a th n (d + 1) 0 else rG T a th n (d + 1) (if s = 0 then d else s)) else (if s = 0 then rG T a th n (d + 1) 0 else (s, d - 1) :: rG T a th n (d + 1) 0)
def eKd (T : Int → Int) (a : Int) (p : Nat × Nat) : Int := if T (p.2 : Int) = 5000 then 2 else if 0 < dv T a (p.1 : Int) then 1 else 0
def eLs (T : Int → Int) (a : Int) (p : Nat × Nat) : Int := T ((p.1 : Int) - 1) - T (p.2 : Int) - a * ((p.2 : Int) - (p.1 : Int) + 1)
def mxT (T : Int → Int) (s : Nat) : Nat → Int
  | 0 => T (s : Int)
  | n + 1 => max (mxT T s n) (T ((s + (n + 1) : Nat) : Int))
def eRs (T : Int → Int) (p : Nat × Nat) : Int := mxT T p.1 (p.2 - p.1) - T ((p.1 : Int) - 1)
/-- runs lie apart, from lo on -/
def RunOk : Nat → List (Nat × Nat) → Prop
  | _, [] => True
  | lo, p :: t => lo ≤ p.1 ∧ p.1 ≤ p.2 ∧ p.2 ≤ 400 ∧ RunOk (p.2 + 2) t
theorem RunOk.mono {lo lo' : Nat} (h : lo' ≤ lo) : ∀ {L : List (Nat × Nat)}, RunOk lo L → RunOk lo' L
  | [], _ => trivial
  | p :: t, ⟨a, b, c, d⟩ => ⟨by omega, b, c, d⟩
theorem rG_ok (T : Int → Int) (a th : Int) : ∀ (n d s : Nat), d + n = 401 → 1 ≤ d → (s = 0 ∨ s < d) → RunOk (if s = 0 then d else s) (rG T a th n d s) ∧ 2 * (rG T a th n d s).length + (if s = 0 then d else s) ≤ 402
  | 0, d, s, hd, h1, hs => by
    rw [rG]
    refine ⟨trivial, ?_⟩
    simp only [List.length_nil]
    split <;> omega
  | n + 1, d, s, hd, h1, hs => by
    rw [rG]
    have i0 := rG_ok T a th n (d + 1) 0 (by omega) (by omega) (Or.inl rfl)
    rw [if_pos rfl] at i0
    by_cases hm : mkd T a th (d : Int)
    · rw [if_pos hm]
      by_cases h4 : d = 400
      · rw [if_pos h4]
        have hn : n = 0 := by omega
        subst hn
        rw [rG]
        refine ⟨⟨Nat.le_refl _, ?_, by omega, trivial⟩, ?_⟩
        · dsimp only; split <;> omega
        · simp only [List.length_cons, List.length_nil]
          split <;> omega
      · rw [if_neg h4]
        have i1 := rG_ok T a th n (d + 1) (if s = 0 then d else s) (by omega) (by omega) (Or.inr (by split <;> omega))
        have e : (if (if s = 0 then d else s) = 0 then d + 1 else (if s = 0 then d else s)) = if s = 0 then d else s := by
          rw [if_neg (by split <;> omega)]
        rw [e] at i1
        exact i1
    · rw [if_neg hm]
      by_cases h0 : s = 0
      · rw [if_pos h0, if_pos h0]
        exact ⟨i0.1.mono (by omega), by omega⟩
      · rw [if_neg h0, if_neg h0]
        refine ⟨⟨Nat.le_refl _, by dsimp only; omega, by dsimp only; omega, i0.1.mono (by dsimp only; omega)⟩, ?_⟩
        rw [List.length_cons]
        omega
theorem RunOk.at : ∀ {lo : Nat} {L : List (Nat × Nat)} {i : Nat} {p : Nat × Nat}, RunOk lo L → L[i]? = some p → lo ≤ p.1 ∧ p.1 ≤ p.2 ∧ p.2 ≤ 400
  | lo, [], i, p, _, h => by simp at h
  | lo, q :: t, 0, p, ⟨a, b, c, d⟩, h => by
    simp at h
    subst h
    exact ⟨a, b, c⟩
  | lo, q :: t, i + 1, p, ⟨a, b, c, d⟩, h => by
    rw [List.getElem?_cons_succ] at h
    have := RunOk.at d h
    omega
theorem RunOk.lt : ∀ {lo : Nat} {L : List (Nat × Nat)} {i j : Nat} {p q : Nat × Nat}, RunOk lo L → i < j → L[i]? = some p → L[j]? = some q → p.2 + 1 < q.1
  | lo, [], i, j, p, q, _, _, h, _ => by simp at h
  | lo, r :: t, 0, j + 1, p, q, ⟨a, b, c, d⟩, hij, h, h' => by
    simp at h
    subst h
    rw [List.getElem?_cons_succ] at h'
    have := RunOk.at d h'
    omega
  | lo, r :: t, i + 1, j + 1, p, q, ⟨a, b, c, d⟩, hij, h, h' => by
    rw [List.getElem?_cons_succ] at h h'
    exact RunOk.lt d (by omega) h h'
def evR (T : Int → Int) (a th : Int) : List (Nat × Nat) := rG T a th 400 1 0
theorem evR_ok (T : Int → Int) (a th : Int) : RunOk 1 (evR T a th) ∧ (evR T a th).length ≤ 200 := by
  have := rG_ok T a th 400 1 0 rfl (by omega) (Or.inl rfl)
  rw [if_pos rfl] at this
  exact ⟨this.1, by unfold evR; omega⟩
/-- an event that bounces starts at d -/
def Bon (T : Int → Int) (a : Int) (L : List (Nat × Nat)) (d : Int) : Prop := ∃ (i : Nat) (p : Nat × Nat), L[i]? = some p ∧ (p.1 : Int) = d ∧ 0 < dv T a d
/-- the i-th event makes the k-th a ghost -/
def ghC (T : Int → Int) (a : Int) (L : List (Nat × Nat)) (s q : Int) : Prop := Bon T a L q ∧ (2 * q - s = 0 ∨ Bon T a L (2 * q - s))
noncomputable def ghG (T : Int → Int) (a : Int) (L : List (Nat × Nat)) (s : Int) : List (Nat × Nat) → Int
  | [] => -1000005
  | p :: t => @ite Int (ghC T a L s (p.1 : Int)) (Classical.propDecidable _) (p.1 : Int) (ghG T a L s t)
/-- the distance q of the ghost that the k-th event is named -/
noncomputable def ghN (T : Int → Int) (a : Int) (L : List (Nat × Nat)) (k : Nat) (p : Nat × Nat) : Int := if 0 < dv T a (p.1 : Int) then ghG T a L (p.1 : Int) (L.take k) else -1000005
noncomputable def ghO (T : Int → Int) (a : Int) (L : List (Nat × Nat)) (k : Nat) (p : Nat × Nat) : Int := if ghN T a L k p = -1000005 then -1000005 else 2 * ghN T a L k p - (p.1 : Int)
def fEnd (T : Int → Int) (a : Int) : List (Nat × Nat) → Int
  | [] => -1000005
  | p :: t => if eKd T a p = 2 then (p.1 : Int) else fEnd T a t
theorem ghG_b {T : Int → Int} {a : Int} {L : List (Nat × Nat)} {s : Int} : ∀ {A : List (Nat × Nat)} {lo : Nat}, RunOk lo A → ghG T a L s A = -1000005 ∨ ((lo : Int) ≤ ghG T a L s A ∧ ghG T a L s A ≤ 400)
  | [], _, _ => Or.inl rfl
  | p :: t, lo, ⟨b, c, d, e⟩ => by
    rw [ghG]
    by_cases h : ghC T a L s (p.1 : Int)
    · rw [if_pos h]; right; omega
    · rw [if_neg h]
      rcases ghG_b (T := T) (a := a) (L := L) (s := s) e with z | z
      · exact Or.inl z
      · right; omega
