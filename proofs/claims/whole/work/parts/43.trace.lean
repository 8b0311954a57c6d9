/-! Traces: what a row says of them. -/
def scl (w : Nat → Int) (σ u d : Int) : Int := 30000 + 300 * u + scS w (plS w σ d) - lss w σ d.toNat
def bfr (w : Nat → Int) (σ u x : Int) : Int := scl w σ u (if x ≤ 0 then 0 else x - 1)
def rfd (h u k : Int) : Int := h - 300 * min k (u - 1) - 1000 * (k - min k (u - 1))
def ght (w : Nat → Int) (σ p hp q hq : Int) : Int := hp + 2 * hq - 12000 - 2 * (lss w σ q.toNat - lss w σ p.toNat)
/-- what raises the trace at d to lv -/
def Contr (w : Nat → Int) (σ u d lv : Int) : Prop := (0 ≤ d ∧ d < endS w σ ∧ lv = scl w σ u d) ∨ (∃ (x h : Int) (k : Nat), RefIn w σ x h ∧ d = x + k ∧ 0 < rfd h u k ∧ lv = bfr w σ u x + rfd h u k) ∨ ∃ (p hp q hq : Int) (k : Nat), RefIn w σ p hp ∧ RefIn w σ q hq ∧ p < q ∧ (k : Int) < u ∧ d = 2 * q - p + k ∧ 0 < ght w σ p hp q hq - 300 * k ∧ lv = bfr w σ u q + (ght w σ p hp q hq - 300 * k)
def TrI (w : Nat → Int) (σ u : Int) (T : Nat → Int) : Prop := ∀ d : Nat, d ≤ 400 → 5000 ≤ T d ∧ (T d = 5000 ∨ Contr w σ u d (T d))
def IsTr (w : Nat → Int) (σ u : Int) (T : Nat → Int) : Prop := TrI w σ u T ∧ ∀ d : Nat, d ≤ 400 → ∀ lv, Contr w σ u d lv → lv ≤ T d
theorem IsTr.uniq {w : Nat → Int} {σ u : Int} {T T' : Nat → Int} (h : IsTr w σ u T) (h' : IsTr w σ u T') {d : Nat} (hd : d ≤ 400) : T d = T' d := by
  have key : ∀ {A B : Nat → Int}, IsTr w σ u A → IsTr w σ u B → A d ≤ B d := fun hA hB => by
    rcases (hA.1 d hd).2 with e | e
    · rw [e]; exact (hB.1 d hd).1
    · exact hB.2 d hd _ e
  have := key h h'
  have := key h' h
  omega
def TLe (T T' : Nat → Int) : Prop := ∀ d : Nat, d ≤ 400 → T d ≤ T' d
theorem TLe.trans {A B C : Nat → Int} (h : TLe A B) (h' : TLe B C) : TLe A C := fun d hd => Int.le_trans (h d hd) (h' d hd)
theorem TLe.rfl' {A : Nat → Int} : TLe A A := fun _ _ => Int.le_refl _
def rz (T : Nat → Int) (d lv : Int) : Nat → Int := fun j => if (j : Int) = d ∧ j ≤ 400 ∧ T j < lv then lv else T j
theorem rz_le {T : Nat → Int} {d lv : Int} : TLe T (rz T d lv) := fun j _ => by
  unfold rz
  split <;> omega
theorem rz_at {T : Nat → Int} {d : Nat} {lv : Int} (hd : d ≤ 400) : lv ≤ rz T d lv d := by
  unfold rz
  split <;> omega
theorem rz_I {w : Nat → Int} {σ u : Int} {T : Nat → Int} {d lv : Int} (h : TrI w σ u T) (hc : Contr w σ u d lv) : TrI w σ u (rz T d lv) := fun j hj => by
  have := h j hj
  unfold rz
  by_cases hj2 : (j : Int) = d ∧ j ≤ 400 ∧ T j < lv
  · rw [if_pos hj2]
    exact ⟨by omega, Or.inr (by rw [hj2.1]; exact hc)⟩
  · rw [if_neg hj2]; exact this
/-! bounds -/
theorem sg_bd {g : Nat → Int} {B : Int} : ∀ (n : Nat), (∀ i, i < n → 0 ≤ g i ∧ g i ≤ B) → 0 ≤ sg g n ∧ sg g n ≤ B * (n : Int)
  | 0, _ => by simp [sg]
  | n + 1, h => by
    have ih := sg_bd n (fun i hi => h i (by omega))
    have hn := h n (by omega)
    rw [sg, show ((n + 1 : Nat) : Int) = (n : Int) + 1 by omega, Int.mul_add, Int.mul_one]
    omega
theorem attS_b {w : Nat → Int} (hw : wOk w) (p : Int) : 0 ≤ attS w p ∧ attS w p ≤ 480 := by
  have h0 := hw.1
  have := sg_bd (g := fun k => if wsum w k ≤ p ∧ p < wsum w (k + 1) then w (2 + 3 * k) else 0) (B := 60) (w 0).toNat (fun i hi => by
    have := (hw.2.1 i (by omega)).2.1
    split <;> omega)
  unfold attS
  omega
theorem scS_b {w : Nat → Int} (hw : wOk w) (p : Int) : 0 ≤ scS w p ∧ scS w p ≤ 16000 := by
  have h0 := hw.1
  have := sg_bd (g := fun k => if wsum w k ≤ p ∧ p < wsum w (k + 1) then w (3 + 3 * k) else 0) (B := 2000) (w 0).toNat (fun i hi => by
    have := (hw.2.1 i (by omega)).2.2
    split <;> omega)
  unfold scS
  omega
theorem cst_b {w : Nat → Int} (hw : wOk w) (σ y : Int) : 0 ≤ cstS w σ y ∧ cstS w σ y ≤ 45480 := by
  have h0 := hw.1
  have h43 := hw.2.2.2.2.1
  have hJ := sg_bd (g := fJ w σ y) (B := 3000) ((w 0).toNat + 1) (fun i hi => by
    have := (hw.2.2.2.1 i (by omega)).1
    unfold fJ
    split <;> omega)
  have hB := sg_bd (g := fB w σ y) (B := 3000) (w 43).toNat (fun i hi => by
    have := (hw.2.2.2.2.2.1 i (by omega)).2
    unfold fB
    split <;> omega)
  have hA := attS_b hw (plS w σ (y - 1))
  unfold cstS cU
  split <;> omega
theorem lss_b {w : Nat → Int} (hw : wOk w) (σ : Int) {x : Nat} (hx : x ≤ 300) : 0 ≤ lss w σ x ∧ lss w σ x ≤ 14000000 := by
  have := sg_bd (g := fun y => cstS w σ (y : Int)) (B := 45480) (x + 1) (fun i hi => cst_b hw σ i)
  unfold lss
  omega
theorem scl_b {w : Nat → Int} (hw : wOk w) {σ u d : Int} (hu : 1 ≤ u ∧ u ≤ 9) (hd : d ≤ 300) : -15000000 ≤ scl w σ u d ∧ scl w σ u d ≤ 100000 := by
  have h1 := scS_b hw (plS w σ d)
  have h2 := lss_b hw σ (x := d.toNat) (by omega)
  unfold scl
  omega
theorem RefIn.b {w : Nat → Int} (hw : wOk w) {σ x h : Int} (hr : RefIn w σ x h) : (0 ≤ x ∧ x ≤ tot w) ∧ (0 < h ∧ h ≤ 9000) := by
  have h56 := hw.2.2.2.2.2.2.1
  have h57 := hw.2.2.2.2.2.2.2.1
  have h1 := hw.tot1
  obtain ⟨hp, ⟨k, k1, k2, k3, -⟩ | ⟨k1, k2, k3⟩⟩ := hr
  · have b1 := ws_b hw k1
    have b2 := (hw.2.2.2.1 k k1).2
    refine ⟨?_, by omega⟩
    rw [k2]; unfold farS; split <;> omega
  · refine ⟨?_, by omega⟩
    rw [k2]; unfold endS farS; split
    · omega
    · split <;> omega
theorem bfr_b {w : Nat → Int} (hw : wOk w) {σ u x : Int} (hu : 1 ≤ u ∧ u ≤ 9) (hx : x ≤ 300) : -15000000 ≤ bfr w σ u x ∧ bfr w σ u x ≤ 100000 := by
  unfold bfr
  refine scl_b hw hu ?_
  split <;> omega
theorem ght_b {w : Nat → Int} (hw : wOk w) {σ p hp q hq : Int} (h1 : RefIn w σ p hp) (h2 : RefIn w σ q hq) : -30000000 ≤ ght w σ p hp q hq ∧ ght w σ p hp q hq ≤ 30000000 := by
  have b1 := h1.b hw
  have b2 := h2.b hw
  have h3 := hw.2.2.1
  have l1 := lss_b hw σ (x := p.toNat) (by omega)
  have l2 := lss_b hw σ (x := q.toNat) (by omega)
  unfold ght
  omega
theorem Contr.b {w : Nat → Int} (hw : wOk w) {σ u d lv : Int} (hu : 1 ≤ u ∧ u ≤ 9) (h : Contr w σ u d lv) : -100000000 ≤ lv ∧ lv ≤ 100000000 := by
  have h3 := hw.2.2.1
  rcases h with ⟨a, b, rfl⟩ | ⟨x, h, k, hr, -, hp, rfl⟩ | ⟨p, hp, q, hq, k, r1, r2, -, hk, -, h0, rfl⟩
  · have he := endS_b hw (σ := σ)
    have := scl_b (σ := σ) (d := d) hw hu (by omega)
    omega
  · have b1 := hr.b hw
    have b2 := bfr_b (σ := σ) (x := x) hw hu (by omega)
    unfold rfd at *
    omega
  · have b1 := r2.b hw
    have b2 := bfr_b (σ := σ) (x := q) hw hu (by omega)
    have b3 := ght_b hw r1 r2
    omega
theorem TrI.b {w : Nat → Int} (hw : wOk w) {σ u : Int} (hu : 1 ≤ u ∧ u ≤ 9) {T : Nat → Int} (h : TrI w σ u T) {d : Nat} (hd : d ≤ 400) : 5000 ≤ T d ∧ T d ≤ 100000000 := by
  have := h d hd
  rcases this.2 with e | e
  · omega
  · have := e.b hw hu; omega
/-- all of one reflector is in the trace -/
def Bd (w : Nat → Int) (σ u x h : Int) (T : Nat → Int) : Prop := ∀ k d : Nat, d ≤ 400 → (d : Int) = x + k → 0 < rfd h u k → bfr w σ u x + rfd h u k ≤ T d
/-- all of one ghost -/
def Gd (w : Nat → Int) (σ u p hp q hq : Int) (T : Nat → Int) : Prop := ∀ k d : Nat, d ≤ 400 → (k : Int) < u → (d : Int) = 2 * q - p + k → 0 < ght w σ p hp q hq - 300 * k → bfr w σ u q + (ght w σ p hp q hq - 300 * k) ≤ T d
def Ad (w : Nat → Int) (σ u : Int) (n : Int) (T : Nat → Int) : Prop := ∀ d : Nat, (d : Int) < n → d ≤ 400 → scl w σ u d ≤ T d
theorem Bd.mono {w : Nat → Int} {σ u x h : Int} {T T' : Nat → Int} (hB : Bd w σ u x h T) (hl : TLe T T') : Bd w σ u x h T' := fun k d hd a b => Int.le_trans (hB k d hd a b) (hl d hd)
theorem Gd.mono {w : Nat → Int} {σ u p hp q hq : Int} {T T' : Nat → Int} (hB : Gd w σ u p hp q hq T) (hl : TLe T T') : Gd w σ u p hp q hq T' := fun k d hd a b c => Int.le_trans (hB k d hd a b c) (hl d hd)
theorem Ad.mono {w : Nat → Int} {σ u n : Int} {T T' : Nat → Int} (hB : Ad w σ u n T) (hl : TLe T T') : Ad w σ u n T' := fun d a hd => Int.le_trans (hB d a hd) (hl d hd)
theorem IsTr.mk' {w : Nat → Int} {σ u : Int} {T : Nat → Int} (hI : TrI w σ u T) (hA : Ad w σ u (endS w σ) T) (hB : ∀ x h, RefIn w σ x h → Bd w σ u x h T) (hG : ∀ p hp q hq, RefIn w σ p hp → RefIn w σ q hq → p < q → Gd w σ u p hp q hq T) : IsTr w σ u T := by
  refine ⟨hI, fun d hd lv hc => ?_⟩
  rcases hc with ⟨a, b, rfl⟩ | ⟨x, h, k, hr, e, hp, rfl⟩ | ⟨p, hp, q, hq, k, r1, r2, hpq, hk, e, h0, rfl⟩
  · exact hA d b hd
  · exact hB x h hr k d hd e hp
  · exact hG p hp q hq r1 r2 hpq k d hd hk e h0
theorem rfd_anti {h u : Int} {k k' : Nat} (hk : k ≤ k') : rfd h u k' ≤ rfd h u k := by
  unfold rfd
  omega
