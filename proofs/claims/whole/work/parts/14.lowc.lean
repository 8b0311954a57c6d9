/-! words of the state, and contracts of the low methods -/
def okSec (l a s : Int) : Prop := (1 ≤ l ∧ l ≤ 100) ∧ (1 ≤ a ∧ a ≤ 60) ∧ (0 ≤ s ∧ s ≤ 2000)
def okTr (s w : Int) : Prop := (0 ≤ s ∧ s ≤ 1) ∧ (1 ≤ w ∧ w ≤ 9)
/-- the sum of the first n -/
def sg (g : Nat → Int) : Nat → Int
  | 0 => 0
  | n + 1 => sg g n + g n
def fsum (E : fxE) (M : fxM) (f : Nat) (n : Nat) : Int := sg (M (rf E f 0)) n
def wsum (w : Nat → Int) (n : Nat) : Int := sg (fun i => w (1 + 3 * i)) n
def tat (E : fxE) (M : fxM) (a : Nat) (d : Int) : Int := if 0 ≤ d ∧ d < 401 then M (rf E a 0) d.toNat else 5000
def vlv (E : fxE) (M : fxM) (a : Nat) (d : Int) : Int := if 0 ≤ d ∧ d < 300 then M (rf E a 1) d.toNat else 0
def vls (E : fxE) (M : fxM) (a : Nat) (d : Int) : Int := if 0 ≤ d ∧ d < 301 then M (rf E a 0) d.toNat else 0
def evS (E : fxE) (M : fxM) (a : Nat) (k : Int) : Int := if 0 ≤ k ∧ k < M a 6 then M (rf E a 0) k.toNat else 0
def evL (E : fxE) (M : fxM) (a : Nat) (k : Int) : Int := if 0 ≤ k ∧ k < M a 6 then M (rf E a 3) k.toNat else 0
def rdev (E : fxE) (M : fxM) (a : Nat) (d : Int) : Int := M (rf E a 13) d.toNat - M (rf E a 13) (d - 1).toNat + M (rf E a 0) 58
def rsc (E : fxE) (M : fxM) (a : Nat) (w d : Int) : Int := 30000 + 300 * w + M (rf E a 10) d.toNat - M (rf E a 9) d.toNat
def cat (E : fxE) (M : fxM) (a : Nat) (k : Int) : Int := if 0 ≤ k ∧ k < M a 1 ∧ k < 120 then M (rf E a 0) k.toNat else 0
section
variable {E : fxE} {M : fxM}
theorem ct_X9_isSide (hW : fx_Wt E) {v : Int} (h1 : inR v) : CtB E m_X9_isSide [.inl v] M (0 ≤ v ∧ v ≤ 1) :=
  x_ct (by decide) (Nat.le_of_ble_eq_true rfl) (b_X9_isSide_0 hW v M _ ⟨h1, fun h => ⟨rfl, Or.inl ⟨h, rfl⟩⟩, fun h => ⟨rfl, Or.inr ⟨h, rfl⟩⟩⟩)
theorem ct_X9_isWidth (hW : fx_Wt E) {v : Int} (h1 : inR v) : CtB E m_X9_isWidth [.inl v] M (1 ≤ v ∧ v ≤ 9) :=
  x_ct (by decide) (Nat.le_of_ble_eq_true rfl) (b_X9_isWidth_0 hW v M _ ⟨h1, fun h => ⟨rfl, Or.inl ⟨h, rfl⟩⟩, fun h => ⟨rfl, Or.inr ⟨h, rfl⟩⟩⟩)
theorem ct_X9_isDistance (hW : fx_Wt E) {v : Int} (h1 : inR v) : CtB E m_X9_isDistance [.inl v] M (0 ≤ v ∧ v ≤ 400) :=
  x_ct (by decide) (Nat.le_of_ble_eq_true rfl) (b_X9_isDistance_0 hW v M _ ⟨h1, fun h => ⟨rfl, Or.inl ⟨h, rfl⟩⟩, fun h => ⟨rfl, Or.inr ⟨h, rfl⟩⟩⟩)
theorem ct_X10_isSide (hW : fx_Wt E) {v : Int} (h1 : inR v) : CtB E m_X10_isSide [.inl v] M (0 ≤ v ∧ v ≤ 1) :=
  x_ct (by decide) (Nat.le_of_ble_eq_true rfl) (b_X10_isSide_0 hW v M _ ⟨h1, fun h => ⟨rfl, Or.inl ⟨h, rfl⟩⟩, fun h => ⟨rfl, Or.inr ⟨h, rfl⟩⟩⟩)
theorem ct_X9_isSection (hW : fx_Wt E) {l a s : Int} (h1 : inR l) (h2 : inR a) (h3 : inR s) : CtB E m_X9_isSection [.inl l, .inl a, .inl s] M (okSec l a s) :=
  x_ct (by decide) (Nat.le_of_ble_eq_true rfl) (b_X9_isSection_0 hW l a s M _ ⟨h1, fun c1 => ⟨h2, fun c2 => ⟨h3, fun c3 => ⟨rfl, Or.inl ⟨⟨c1, c2, c3⟩, rfl⟩⟩, fun c3 => ⟨rfl, Or.inr ⟨fun z => c3 z.2.2, rfl⟩⟩⟩, fun c2 => ⟨rfl, Or.inr ⟨fun z => c2 z.2.1, rfl⟩⟩⟩, fun c1 => ⟨rfl, Or.inr ⟨fun z => c1 z.1, rfl⟩⟩⟩)
theorem ct_X10_isSection (hW : fx_Wt E) {l a s : Int} (h1 : inR l) (h2 : inR a) (h3 : inR s) : CtB E m_X10_isSection [.inl l, .inl a, .inl s] M (okSec l a s) :=
  x_ct (by decide) (Nat.le_of_ble_eq_true rfl) (b_X10_isSection_0 hW l a s M _ ⟨h1, fun c1 => ⟨h2, fun c2 => ⟨h3, fun c3 => ⟨rfl, Or.inl ⟨⟨c1, c2, c3⟩, rfl⟩⟩, fun c3 => ⟨rfl, Or.inr ⟨fun z => c3 z.2.2, rfl⟩⟩⟩, fun c2 => ⟨rfl, Or.inr ⟨fun z => c2 z.2.1, rfl⟩⟩⟩, fun c1 => ⟨rfl, Or.inr ⟨fun z => c1 z.1, rfl⟩⟩⟩)
theorem ct_X10_isJoint (hW : fx_Wt E) {a : Nat} {v : Int} (hk : kd E a = 10) (h1 : inR v) (h2 : inR (M (rf E a 0) 0)) : CtB E m_X10_isJoint [.inr a, .inl v] M (0 ≤ v ∧ v ≤ M (rf E a 0) 0) :=
  x_ct (by decide) (Nat.le_of_ble_eq_true rfl) (b_X10_isJoint_0 hW a v M _ hk ⟨h1, h2, fun h => ⟨rfl, Or.inl ⟨h, rfl⟩⟩, fun h => ⟨rfl, Or.inr ⟨h, rfl⟩⟩⟩)
theorem ct_X10_isBend (hW : fx_Wt E) {a : Nat} {v : Int} (hk : kd E a = 10) (h1 : inR v) (h2 : inR (M (rf E a 0) 43 - 1)) : CtB E m_X10_isBend [.inr a, .inl v] M (0 ≤ v ∧ v ≤ M (rf E a 0) 43 - 1) :=
  x_ct (by decide) (Nat.le_of_ble_eq_true rfl) (b_X10_isBend_0 hW a v M _ hk ⟨h1, h2, fun h => ⟨rfl, Or.inl ⟨h, rfl⟩⟩, fun h => ⟨rfl, Or.inr ⟨h, rfl⟩⟩⟩)
theorem ct_X7_at (hW : fx_Wt E) {a : Nat} {v : Int} (hk : kd E a = 7) (h1 : inR v) : CtF E m_X7_at [.inr a, .inl v] M (tat E M a v) := by
  refine x_ct (by decide) (Nat.le_of_ble_eq_true rfl) (b_X7_at_0 hW a v M _ hk ⟨h1, fun h => ⟨rfl, ?_⟩, fun h => ⟨fun h' => ⟨rfl, ?_⟩, fun h' => ⟨by omega, rfl, ?_⟩⟩⟩)
  · rw [tat, if_neg (by omega)]
  · rw [tat, if_neg (by omega)]
  · rw [tat, if_pos (by omega)]
theorem ct_X8_levelAt (hW : fx_Wt E) {a : Nat} {v : Int} (hk : kd E a = 8) (h1 : inR v) : CtF E m_X8_levelAt [.inr a, .inl v] M (vlv E M a v) := by
  refine x_ct (by decide) (Nat.le_of_ble_eq_true rfl) (b_X8_levelAt_0 hW a v M _ hk ⟨h1, fun h => ⟨rfl, ?_⟩, fun h => ⟨fun h' => ⟨rfl, ?_⟩, fun h' => ⟨by omega, rfl, ?_⟩⟩⟩)
  · rw [vlv, if_neg (by omega)]
  · rw [vlv, if_neg (by omega)]
  · rw [vlv, if_pos (by omega)]
theorem ct_X8_lossUpTo (hW : fx_Wt E) {a : Nat} {v : Int} (hk : kd E a = 8) (h1 : inR v) : CtF E m_X8_lossUpTo [.inr a, .inl v] M (vls E M a v) := by
  refine x_ct (by decide) (Nat.le_of_ble_eq_true rfl) (b_X8_lossUpTo_0 hW a v M _ hk ⟨h1, fun h => ⟨rfl, ?_⟩, fun h => ⟨fun h' => ⟨rfl, ?_⟩, fun h' => ⟨by omega, rfl, ?_⟩⟩⟩)
  · rw [vls, if_neg (by omega)]
  · rw [vls, if_neg (by omega)]
  · rw [vls, if_pos (by omega)]
theorem ct_X1_startOf (hW : fx_Wt E) {a : Nat} {v : Int} (hk : kd E a = 1) (h1 : inR v) (h2 : -2147483648 ≤ M a 6 ∧ M a 6 ≤ 200) : CtF E m_X1_startOf [.inr a, .inl v] M (evS E M a v) := by
  refine x_ct (by decide) (Nat.le_of_ble_eq_true rfl) (b_X1_startOf_0 hW a v M _ hk ⟨h1, fun h => ⟨rfl, ?_⟩, fun h => ⟨by omega, fun h' => ⟨rfl, ?_⟩, fun h' => ⟨by omega, rfl, ?_⟩⟩⟩)
  · rw [evS, if_neg (by omega)]
  · rw [evS, if_neg (by omega)]
  · rw [evS, if_pos (by omega)]
theorem ct_X1_lossOf (hW : fx_Wt E) {a : Nat} {v : Int} (hk : kd E a = 1) (h1 : inR v) (h2 : -2147483648 ≤ M a 6 ∧ M a 6 ≤ 200) : CtF E m_X1_lossOf [.inr a, .inl v] M (evL E M a v) := by
  refine x_ct (by decide) (Nat.le_of_ble_eq_true rfl) (b_X1_lossOf_0 hW a v M _ hk ⟨h1, fun h => ⟨rfl, ?_⟩, fun h => ⟨by omega, fun h' => ⟨rfl, ?_⟩, fun h' => ⟨by omega, rfl, ?_⟩⟩⟩)
  · rw [evL, if_neg (by omega)]
  · rw [evL, if_neg (by omega)]
  · rw [evL, if_pos (by omega)]
theorem ct_X10_of (hW : fx_Wt E) {a : Nat} {k j : Int} (hk : kd E a = 10) (h : 0 ≤ 7 * k + j ∧ 7 * k + j < 2814) : CtF E m_X10_of [.inr a, .inl k, .inl j] M (M (rf E a 15) (7 * k + j).toNat) :=
  x_ct (by decide) (Nat.le_of_ble_eq_true rfl) (b_X10_of_0 hW a k j M _ hk ⟨h, rfl, rfl⟩)
theorem ct_X10_deviation (hW : fx_Wt E) {a : Nat} {d : Int} (hk : kd E a = 10) (h : 1 ≤ d ∧ d ≤ 400) : CtF E m_X10_deviation [.inr a, .inl d] M (rdev E M a d) :=
  x_ct (by decide) (Nat.le_of_ble_eq_true rfl) (b_X10_deviation_0 hW a d M _ hk ⟨by omega, by omega, rfl, rfl⟩)
theorem ct_X10_scattered (hW : fx_Wt E) {a : Nat} {w d : Int} (hk : kd E a = 10) (h : 0 ≤ d ∧ d < 300) : CtF E m_X10_scattered [.inr a, .inl w, .inl d] M (rsc E M a w d) :=
  x_ct (by decide) (Nat.le_of_ble_eq_true rfl) (b_X10_scattered_0 hW a w d M _ hk ⟨by omega, by omega, rfl, rfl⟩)
theorem ct_X10_isWrong (hW : fx_Wt E) {a : Nat} (hk : kd E a = 10) (h1 : inR (M a 22)) : CtB E m_X10_isWrong [.inr a] M (¬ M a 22 = -1000005) :=
  x_ct (by decide) (Nat.le_of_ble_eq_true rfl) (b_X10_isWrong_0 hW a M _ hk ⟨h1, fun h => ⟨rfl, Or.inr ⟨fun z => z h, rfl⟩⟩, fun h => ⟨rfl, Or.inl ⟨h, rfl⟩⟩⟩)
theorem ct_X6_codeAt (hW : fx_Wt E) {a : Nat} {v : Int} (hk : kd E a = 6) (h1 : inR v) (h2 : inR (M a 1)) : CtF E m_X6_codeAt [.inr a, .inl v] M (cat E M a v) := by
  refine x_ct (by decide) (Nat.le_of_ble_eq_true rfl) (b_X6_codeAt_0 hW a v M _ hk ⟨h1, fun h => ⟨rfl, ?_⟩, fun h => ⟨h2, fun h' => ⟨rfl, ?_⟩, fun h' => ⟨fun h3 => ⟨rfl, ?_⟩, fun h3 => ⟨by omega, rfl, ?_⟩⟩⟩⟩)
  · rw [cat, if_neg (by omega)]
  · rw [cat, if_neg (by omega)]
  · rw [cat, if_neg (by omega)]
  · rw [cat, if_pos (by omega)]
theorem ct_X2_placeOfJoint (hW : fx_Wt E) {f : Nat} {j : Int} (hk : kd E f = 2) (h : 0 ≤ j ∧ j ≤ M f 3 ∧ M f 3 ≤ 8) : CtF E m_X2_placeOfJoint [.inr f, .inl j] M (fsum E M f j.toNat) := by
  refine x_ct (by decide) (Nat.le_of_ble_eq_true rfl) (b_X2_placeOfJoint_0 hW f j M _ hk ?_)
  have key : ∀ (n i : Nat), i + n = j.toNat → fx_At E m_X2_placeOfJoint 4 [some (.inr f), some (.inl j), some (.inl (fsum E M f i)), some (.inl (i : Int))] [] M (fun r M' => M' = M ∧ r = some (.inl (fsum E M f j.toNat))) := by
    intro n
    induction n with
    | zero =>
      intro i hi
      refine b_X2_placeOfJoint_4 hW f j _ _ M _ hk ⟨by omega, by omega, fun _ => ⟨rfl, ?_⟩, fun h' => absurd (by omega) h'⟩
      rw [show i = j.toNat by omega]
    | succ n ih =>
      intro i hi
      refine b_X2_placeOfJoint_4 hW f j _ _ M _ hk ⟨by omega, by omega, fun h' => absurd h' (by omega), fun h' => ⟨by omega, fun h' => absurd h' (by omega), fun h' => ⟨by omega, ?_⟩⟩⟩
      exact ih (i + 1) (by omega)
  exact key j.toNat 0 (by omega)
theorem ct_X10_placeOf (hW : fx_Wt E) {m : Nat} {j : Int} (hk : kd E m = 10) (h : 0 ≤ j ∧ j ≤ 8) : CtF E m_X10_placeOf [.inr m, .inl j] M (wsum (M (rf E m 0)) j.toNat) := by
  refine x_ct (by decide) (Nat.le_of_ble_eq_true rfl) (b_X10_placeOf_0 hW m j M _ hk ?_)
  have key : ∀ (n i : Nat), i + n = j.toNat → fx_At E m_X10_placeOf 4 [some (.inr m), some (.inl j), some (.inl (wsum (M (rf E m 0)) i)), some (.inl (i : Int))] [] M (fun r M' => M' = M ∧ r = some (.inl (wsum (M (rf E m 0)) j.toNat))) := by
    intro n
    induction n with
    | zero =>
      intro i hi
      refine b_X10_placeOf_4 hW m j _ _ M _ hk ⟨by omega, by omega, fun _ => ⟨rfl, ?_⟩, fun h' => absurd (by omega) h'⟩
      rw [show i = j.toNat by omega]
    | succ n ih =>
      intro i hi
      refine b_X10_placeOf_4 hW m j _ _ M _ hk ⟨by omega, by omega, fun h' => absurd h' (by omega), fun h' => ⟨by omega, ?_⟩⟩
      have e : (1 + 3 * (i : Int)).toNat = 1 + 3 * i := by omega
      rw [e]
      exact ih (i + 1) (by omega)
  exact key j.toNat 0 (by omega)
theorem ct_X9_copyRow (hW : fx_Wt E) {a b n : Nat} (ha : kd E a = 11) (hb : kd E b = 11) (hn : ln E a = n) (hn2 : ln E b = n) (hs : n < 100000) : CtV E m_X9_copyRow [.inr a, .inr b] M (fun M' => M' = mcpy M a b n) := by
  refine x_ct (by decide) (Nat.le_of_ble_eq_true rfl) (b_X9_copyRow_0 hW a b M _ ha hb ⟨by omega, by omega, by omega, fun M4 h => ⟨rfl, ?_⟩⟩)
  rw [h, hn, hn2, show min (n : Int) (n : Int) = n by omega]
theorem ct_X0_fibrePerThousand (hW : fx_Wt E) {p : Nat} (hk : kd E p = 0) (h : 0 ≤ M p 3 ∧ M p 3 < 1000000) : CtF E m_X0_fibrePerThousand [.inr p] M (1000 + M p 3) := by
  refine x_ct (by decide) (Nat.le_of_ble_eq_true rfl) (b_X0_fibrePerThousand_0 hW p M _ hk ⟨by omega, rfl, ?_⟩)
  rw [show max (M p 3) 0 = M p 3 by omega]
end
