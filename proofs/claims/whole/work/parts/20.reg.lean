/-! Regions: each object with the rows below it. -/
noncomputable def par (E : fxE) (c : Nat) : Nat := @dite Nat (∃ q : Nat × Nat, rslot E q.1 q.2 ∧ rf E q.1 q.2 = c) (Classical.propDecidable _) (fun h => h.choose.1) (fun _ => c)
theorem par_rf {E : fxE} (hW : fx_Wt E) {a k : Nat} (h : rslot E a k) : par E (rf E a k) = a := by
  have hx : ∃ q : Nat × Nat, rslot E q.1 q.2 ∧ rf E q.1 q.2 = rf E a k := ⟨(a, k), h, rfl⟩
  unfold par
  rw [dif_pos hx]
  have hs := hx.choose_spec
  exact (wd hW hs.1 h hs.2).1
def isTop (k : Nat) : Bool := k == 1 || (3 ≤ k && k ≤ 10)
noncomputable def reg (E : fxE) (c : Nat) : Nat :=
  if isTop (kd E c) = true then c
  else if kd E c ≤ 2 then (if kd E (par E c) = 5 then par E c else c)
  else if isTop (kd E (par E c)) = true then par E c
  else if kd E (par E (par E c)) = 5 then par E (par E c) else par E c
theorem reg_top {E : fxE} {c k : Nat} (h : kd E c = k) (hk : isTop k = true) : reg E c = c := by
  rw [reg, h, if_pos hk]
/-- a row below an object -/
theorem reg_row {E : fxE} (hW : fx_Wt E) {a k C : Nat} (ha : kd E a = C) (hC : C ≤ 10) (hk : (lay C)[k]? = some true) (hr : 11 ≤ kd E (rf E a k)) (hr2 : kd E (rf E a k) ≤ 16) : reg E (rf E a k) = reg E a := by
  have hp := par_rf hW (rs_o ha hC hk)
  have h1 : ¬ isTop (kd E (rf E a k)) = true := by
    simp only [isTop, Bool.or_eq_true, beq_iff_eq, Bool.and_eq_true, decide_eq_true_eq]; omega
  rw [reg, if_neg h1, if_neg (by omega), hp, reg]
  by_cases ht : isTop (kd E a) = true
  · rw [if_pos ht, if_pos ht]
  · rw [if_neg ht, if_neg ht]
    have : kd E a ≤ 2 := by
      simp only [isTop, Bool.or_eq_true, beq_iff_eq, Bool.and_eq_true, decide_eq_true_eq] at ht; omega
    rw [if_pos this]
theorem reg_fib {E : fxE} (hW : fx_Wt E) {s : Nat} (hs : kd E s = 5) : reg E (rf E s 0) = s := by
  have hp := par_rf hW (rs_o hs (by omega) (show (lay 5)[0]? = some true from rfl))
  have hk := wk_5_0 hW hs
  rw [reg, hk, if_neg (by decide), if_pos (by omega), hp, if_pos hs]
theorem reg_map {E : fxE} (hW : fx_Wt E) {s : Nat} (hs : kd E s = 5) : reg E (rf E s 1) = s := by
  have hp := par_rf hW (rs_o hs (by omega) (show (lay 5)[1]? = some true from rfl))
  have hk := wk_5_1 hW hs
  rw [reg, hk, if_neg (by decide), if_pos (by omega), hp, if_pos hs]
/-- the draft is a region of its own -/
theorem reg_draft {E : fxE} (hW : fx_Wt E) {b : Nat} (hb : kd E b = 9) : reg E (rf E b 2) = rf E b 2 := by
  have hp := par_rf hW (rs_o hb (by omega) (show (lay 9)[2]? = some true from rfl))
  have hk := wk_9_2 hW hb
  rw [reg, hk, if_neg (by decide), if_pos (by omega), hp, if_neg (by omega)]
theorem reg_set {E : fxE} (hW : fx_Wt E) {s : Nat} (hs : kd E s = 5) : reg E (rf E s 2) = s := by
  rw [reg_row hW hs (by omega) rfl (by rw [wk_5_2 hW hs]; omega) (by rw [wk_5_2 hW hs]; omega), reg_top hs rfl]
theorem reg_f {E : fxE} (hW : fx_Wt E) {f k : Nat} (hf : kd E f = 2) (hk : (lay 2)[k]? = some true) : reg E (rf E f k) = reg E f := by
  have h : kd E (rf E f k) = 11 := by
    have hl := (List.getElem?_eq_some_iff.mp hk).1
    match k, hk, hl with
    | 0, _, _ => exact wk_2_0 hW hf
    | 1, _, _ => exact wk_2_1 hW hf
    | 2, _, _ => exact wk_2_2 hW hf
    | 4, _, _ => exact wk_2_4 hW hf
    | 5, _, _ => exact wk_2_5 hW hf
    | 6, _, _ => exact wk_2_6 hW hf
    | 7, _, _ => exact wk_2_7 hW hf
    | n + 11, _, hl => exact absurd hl (by simp [lay])
  exact reg_row hW hf (by omega) hk (by omega) (by omega)
/-- nothing outside the region r changes -/
def Fr (E : fxE) (M M' : fxM) (r : Nat) : Prop := ∀ c, reg E c ≠ r → M' c = M c
theorem Fr.rfl' {E : fxE} {M : fxM} {r : Nat} : Fr E M M r := fun _ _ => rfl
theorem Fr.trans {E : fxE} {M M' M'' : fxM} {r : Nat} (h : Fr E M M' r) (h' : Fr E M' M'' r) : Fr E M M'' r := fun c hc => (h' c hc).trans (h c hc)
theorem Fr_mset {E : fxE} {M : fxM} {r a k : Nat} {v : Int} (h : reg E a = r) : Fr E M (mset M a k v) r := fun c hc => mset_o (fun e => hc (e ▸ h))
theorem Fr_mcpy {E : fxE} {M : fxM} {r a b : Nat} {n : Int} (h : reg E b = r) : Fr E M (mcpy M a b n) r := fun c hc => by
  funext j
  have : c ≠ b := fun e => hc (e ▸ h)
  simp [mcpy, this]
/-! Owners: an object, and for a row the object that holds it. -/
noncomputable def own (E : fxE) (c : Nat) : Nat := if kd E c ≤ 10 then c else par E c
theorem own_o {E : fxE} {c k : Nat} (h : kd E c = k) (hk : k ≤ 10) : own E c = c := by rw [own, h, if_pos hk]
theorem own_r {E : fxE} (hW : fx_Wt E) {a k C D : Nat} (ha : kd E a = C) (hr : kd E (rf E a k) = D) (hC : C ≤ 10) (hk : (lay C)[k]? = some true) (hD : 10 < D) : own E (rf E a k) = a := by
  rw [own, hr, if_neg (by omega), par_rf hW (rs_o ha hC hk)]
theorem reg_own {E : fxE} {c a : Nat} (ha : kd E a ≤ 10) (h : own E c = a) : reg E c = reg E a := by
  subst h
  by_cases hc : kd E c ≤ 10
  · rw [own, if_pos hc]
  · rw [own, if_neg hc] at ha ⊢
    have h1 : ¬ isTop (kd E c) = true := by
      simp only [isTop, Bool.or_eq_true, beq_iff_eq, Bool.and_eq_true, decide_eq_true_eq]; omega
    rw [reg, if_neg h1, if_neg (by omega), reg]
    by_cases ht : isTop (kd E (par E c)) = true
    · rw [if_pos ht, if_pos ht]
    · rw [if_neg ht, if_neg ht]
      have : kd E (par E c) ≤ 2 := by
        simp only [isTop, Bool.or_eq_true, beq_iff_eq, Bool.and_eq_true, decide_eq_true_eq] at ht; omega
      rw [if_pos this]
/-- the cells that a owns are the same -/
def Sa (E : fxE) (M M' : fxM) (a : Nat) : Prop := ∀ c, own E c = a → M' c = M c
/-- nothing changes but what a owns -/
def Fo (E : fxE) (M M' : fxM) (a : Nat) : Prop := ∀ c, own E c ≠ a → M' c = M c
theorem Fo.rfl' {E : fxE} {M : fxM} {r : Nat} : Fo E M M r := fun _ _ => rfl
theorem Fo.trans {E : fxE} {M M' M'' : fxM} {r : Nat} (h : Fo E M M' r) (h' : Fo E M' M'' r) : Fo E M M'' r := fun c hc => (h' c hc).trans (h c hc)
theorem Fo.sa {E : fxE} {M M' : fxM} {a b : Nat} (h : Fo E M M' a) (hab : b ≠ a) : Sa E M M' b := fun c hc => h c (by rw [hc]; exact hab)
theorem Fo.fr {E : fxE} {M M' : fxM} {a r : Nat} (h : Fo E M M' a) (ha : kd E a ≤ 10) (hr : reg E a = r) : Fr E M M' r := fun c hc => h c (fun e => hc ((reg_own ha e).trans hr))
theorem Fr.sa {E : fxE} {M M' : fxM} {a r : Nat} (h : Fr E M M' r) (ha : kd E a ≤ 10) (hr : reg E a ≠ r) : Sa E M M' a := fun c hc => h c (by rw [reg_own ha hc]; exact hr)
theorem Sa.trans {E : fxE} {M M' M'' : fxM} {a : Nat} (h : Sa E M M' a) (h' : Sa E M' M'' a) : Sa E M M'' a := fun c hc => (h' c hc).trans (h c hc)
theorem Fo_mset {E : fxE} {M : fxM} {r a k : Nat} {v : Int} (h : own E a = r) : Fo E M (mset M a k v) r := fun c hc => mset_o (fun e => hc (e ▸ h))
theorem Fo_mcpy {E : fxE} {M : fxM} {r a b : Nat} {n : Int} (h : own E b = r) : Fo E M (mcpy M a b n) r := fun c hc => by
  funext j
  have : c ≠ b := fun e => hc (e ▸ h)
  simp [mcpy, this]
