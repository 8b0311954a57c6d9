/-! The shape: kinds and lengths of what each field refers to; every reference has one holder. -/
def wt_0 (E : fxE) (a : Nat) : Prop := (kd E (rf E a 0) = 11 ∧ ln E (rf E a 0) = 10) ∧ (kd E (rf E a 1) = 11 ∧ ln E (rf E a 1) = 10)
def wt_1 (E : fxE) (a : Nat) : Prop := (kd E (rf E a 0) = 11 ∧ ln E (rf E a 0) = 200) ∧ (kd E (rf E a 1) = 11 ∧ ln E (rf E a 1) = 200) ∧ (kd E (rf E a 2) = 11 ∧ ln E (rf E a 2) = 200) ∧ (kd E (rf E a 3) = 11 ∧ ln E (rf E a 3) = 200) ∧ (kd E (rf E a 4) = 11 ∧ ln E (rf E a 4) = 200) ∧ (kd E (rf E a 5) = 12 ∧ ln E (rf E a 5) = 401)
def wt_2 (E : fxE) (a : Nat) : Prop := (kd E (rf E a 0) = 11 ∧ ln E (rf E a 0) = 8) ∧ (kd E (rf E a 1) = 11 ∧ ln E (rf E a 1) = 8) ∧ (kd E (rf E a 2) = 11 ∧ ln E (rf E a 2) = 8) ∧ (kd E (rf E a 4) = 11 ∧ ln E (rf E a 4) = 9) ∧ (kd E (rf E a 5) = 11 ∧ ln E (rf E a 5) = 9) ∧ (kd E (rf E a 6) = 11 ∧ ln E (rf E a 6) = 6) ∧ (kd E (rf E a 7) = 11 ∧ ln E (rf E a 7) = 6)
def wt_3 (E : fxE) (a : Nat) : Prop := (kd E (rf E a 0) = 14 ∧ ln E (rf E a 0) = 8)
def wt_4 (E : fxE) (a : Nat) : Prop := (kd E (rf E a 0) = 11 ∧ ln E (rf E a 0) = 200) ∧ (kd E (rf E a 1) = 11 ∧ ln E (rf E a 1) = 200) ∧ (kd E (rf E a 2) = 12 ∧ ln E (rf E a 2) = 200)
def wt_5 (E : fxE) (a : Nat) : Prop := (kd E (rf E a 0) = 2) ∧ (kd E (rf E a 1) = 0) ∧ (kd E (rf E a 2) = 11 ∧ ln E (rf E a 2) = 4)
def wt_6 (E : fxE) (a : Nat) : Prop := (kd E (rf E a 0) = 11 ∧ ln E (rf E a 0) = 120)
def wt_7 (E : fxE) (a : Nat) : Prop := (kd E (rf E a 0) = 11 ∧ ln E (rf E a 0) = 401)
def wt_8 (E : fxE) (a : Nat) : Prop := (kd E (rf E a 0) = 11 ∧ ln E (rf E a 0) = 301) ∧ (kd E (rf E a 1) = 11 ∧ ln E (rf E a 1) = 300) ∧ (kd E (rf E a 2) = 11 ∧ ln E (rf E a 2) = 10) ∧ (kd E (rf E a 3) = 11 ∧ ln E (rf E a 3) = 10)
def wt_9 (E : fxE) (a : Nat) : Prop := (kd E (rf E a 0) = 5) ∧ (kd E (rf E a 1) = 3) ∧ (kd E (rf E a 2) = 2) ∧ (kd E (rf E a 3) = 6) ∧ (kd E (rf E a 4) = 16 ∧ ln E (rf E a 4) = 2) ∧ (kd E (rf E a 5) = 15 ∧ ln E (rf E a 5) = 8) ∧ (kd E (rf E a 6) = 13 ∧ ln E (rf E a 6) = 2) ∧ (kd E (rf E a 7) = 4)
def wt_10 (E : fxE) (a : Nat) : Prop := (kd E (rf E a 0) = 11 ∧ ln E (rf E a 0) = 84) ∧ (kd E (rf E a 1) = 11 ∧ ln E (rf E a 1) = 672) ∧ (kd E (rf E a 5) = 11 ∧ ln E (rf E a 5) = 120) ∧ (kd E (rf E a 9) = 11 ∧ ln E (rf E a 9) = 301) ∧ (kd E (rf E a 10) = 11 ∧ ln E (rf E a 10) = 300) ∧ (kd E (rf E a 11) = 11 ∧ ln E (rf E a 11) = 20) ∧ (kd E (rf E a 13) = 11 ∧ ln E (rf E a 13) = 401) ∧ (kd E (rf E a 14) = 11 ∧ ln E (rf E a 14) = 401) ∧ (kd E (rf E a 15) = 11 ∧ ln E (rf E a 15) = 2814) ∧ (kd E (rf E a 17) = 11 ∧ ln E (rf E a 17) = 402) ∧ (kd E (rf E a 18) = 11 ∧ ln E (rf E a 18) = 402) ∧ (kd E (rf E a 23) = 11 ∧ ln E (rf E a 23) = 24)
def rslot (E : fxE) (a k : Nat) : Prop := (kd E a ≤ 10 ∧ (lay (kd E a))[k]? = some true) ∨ (13 ≤ kd E a ∧ kd E a ≤ 16 ∧ k < ln E a)
def fx_Wt (E : fxE) : Prop := (∀ a, kd E a = 0 → wt_0 E a) ∧ (∀ a, kd E a = 1 → wt_1 E a) ∧ (∀ a, kd E a = 2 → wt_2 E a) ∧ (∀ a, kd E a = 3 → wt_3 E a) ∧ (∀ a, kd E a = 4 → wt_4 E a) ∧ (∀ a, kd E a = 5 → wt_5 E a) ∧ (∀ a, kd E a = 6 → wt_6 E a) ∧ (∀ a, kd E a = 7 → wt_7 E a) ∧ (∀ a, kd E a = 8 → wt_8 E a) ∧ (∀ a, kd E a = 9 → wt_9 E a) ∧ (∀ a, kd E a = 10 → wt_10 E a) ∧ (∀ a i, kd E a = 13 → i < ln E a → kd E (rf E a i) = 1) ∧ (∀ a i, kd E a = 14 → i < ln E a → kd E (rf E a i) = 5) ∧ (∀ a i, kd E a = 15 → i < ln E a → kd E (rf E a i) = 7) ∧ (∀ a i, kd E a = 16 → i < ln E a → kd E (rf E a i) = 8) ∧ (∀ a k b j, rslot E a k → rslot E b j → rf E a k = rf E b j → a = b ∧ k = j)
theorem wk_0_0 {E : fxE} {a : Nat} (hW : fx_Wt E) (h : kd E a = 0) : kd E (rf E a 0) = 11 := (hW.1 a h).1.1
theorem wl_0_0 {E : fxE} {a : Nat} (hW : fx_Wt E) (h : kd E a = 0) : ln E (rf E a 0) = 10 := (hW.1 a h).1.2
theorem wk_0_1 {E : fxE} {a : Nat} (hW : fx_Wt E) (h : kd E a = 0) : kd E (rf E a 1) = 11 := (hW.1 a h).2.1
theorem wl_0_1 {E : fxE} {a : Nat} (hW : fx_Wt E) (h : kd E a = 0) : ln E (rf E a 1) = 10 := (hW.1 a h).2.2
theorem wk_1_0 {E : fxE} {a : Nat} (hW : fx_Wt E) (h : kd E a = 1) : kd E (rf E a 0) = 11 := (hW.2.1 a h).1.1
theorem wl_1_0 {E : fxE} {a : Nat} (hW : fx_Wt E) (h : kd E a = 1) : ln E (rf E a 0) = 200 := (hW.2.1 a h).1.2
theorem wk_1_1 {E : fxE} {a : Nat} (hW : fx_Wt E) (h : kd E a = 1) : kd E (rf E a 1) = 11 := (hW.2.1 a h).2.1.1
theorem wl_1_1 {E : fxE} {a : Nat} (hW : fx_Wt E) (h : kd E a = 1) : ln E (rf E a 1) = 200 := (hW.2.1 a h).2.1.2
theorem wk_1_2 {E : fxE} {a : Nat} (hW : fx_Wt E) (h : kd E a = 1) : kd E (rf E a 2) = 11 := (hW.2.1 a h).2.2.1.1
theorem wl_1_2 {E : fxE} {a : Nat} (hW : fx_Wt E) (h : kd E a = 1) : ln E (rf E a 2) = 200 := (hW.2.1 a h).2.2.1.2
theorem wk_1_3 {E : fxE} {a : Nat} (hW : fx_Wt E) (h : kd E a = 1) : kd E (rf E a 3) = 11 := (hW.2.1 a h).2.2.2.1.1
theorem wl_1_3 {E : fxE} {a : Nat} (hW : fx_Wt E) (h : kd E a = 1) : ln E (rf E a 3) = 200 := (hW.2.1 a h).2.2.2.1.2
theorem wk_1_4 {E : fxE} {a : Nat} (hW : fx_Wt E) (h : kd E a = 1) : kd E (rf E a 4) = 11 := (hW.2.1 a h).2.2.2.2.1.1
theorem wl_1_4 {E : fxE} {a : Nat} (hW : fx_Wt E) (h : kd E a = 1) : ln E (rf E a 4) = 200 := (hW.2.1 a h).2.2.2.2.1.2
theorem wk_1_5 {E : fxE} {a : Nat} (hW : fx_Wt E) (h : kd E a = 1) : kd E (rf E a 5) = 12 := (hW.2.1 a h).2.2.2.2.2.1
theorem wl_1_5 {E : fxE} {a : Nat} (hW : fx_Wt E) (h : kd E a = 1) : ln E (rf E a 5) = 401 := (hW.2.1 a h).2.2.2.2.2.2
theorem wk_2_0 {E : fxE} {a : Nat} (hW : fx_Wt E) (h : kd E a = 2) : kd E (rf E a 0) = 11 := (hW.2.2.1 a h).1.1
theorem wl_2_0 {E : fxE} {a : Nat} (hW : fx_Wt E) (h : kd E a = 2) : ln E (rf E a 0) = 8 := (hW.2.2.1 a h).1.2
theorem wk_2_1 {E : fxE} {a : Nat} (hW : fx_Wt E) (h : kd E a = 2) : kd E (rf E a 1) = 11 := (hW.2.2.1 a h).2.1.1
theorem wl_2_1 {E : fxE} {a : Nat} (hW : fx_Wt E) (h : kd E a = 2) : ln E (rf E a 1) = 8 := (hW.2.2.1 a h).2.1.2
theorem wk_2_2 {E : fxE} {a : Nat} (hW : fx_Wt E) (h : kd E a = 2) : kd E (rf E a 2) = 11 := (hW.2.2.1 a h).2.2.1.1
theorem wl_2_2 {E : fxE} {a : Nat} (hW : fx_Wt E) (h : kd E a = 2) : ln E (rf E a 2) = 8 := (hW.2.2.1 a h).2.2.1.2
theorem wk_2_4 {E : fxE} {a : Nat} (hW : fx_Wt E) (h : kd E a = 2) : kd E (rf E a 4) = 11 := (hW.2.2.1 a h).2.2.2.1.1
theorem wl_2_4 {E : fxE} {a : Nat} (hW : fx_Wt E) (h : kd E a = 2) : ln E (rf E a 4) = 9 := (hW.2.2.1 a h).2.2.2.1.2
theorem wk_2_5 {E : fxE} {a : Nat} (hW : fx_Wt E) (h : kd E a = 2) : kd E (rf E a 5) = 11 := (hW.2.2.1 a h).2.2.2.2.1.1
theorem wl_2_5 {E : fxE} {a : Nat} (hW : fx_Wt E) (h : kd E a = 2) : ln E (rf E a 5) = 9 := (hW.2.2.1 a h).2.2.2.2.1.2
theorem wk_2_6 {E : fxE} {a : Nat} (hW : fx_Wt E) (h : kd E a = 2) : kd E (rf E a 6) = 11 := (hW.2.2.1 a h).2.2.2.2.2.1.1
theorem wl_2_6 {E : fxE} {a : Nat} (hW : fx_Wt E) (h : kd E a = 2) : ln E (rf E a 6) = 6 := (hW.2.2.1 a h).2.2.2.2.2.1.2
theorem wk_2_7 {E : fxE} {a : Nat} (hW : fx_Wt E) (h : kd E a = 2) : kd E (rf E a 7) = 11 := (hW.2.2.1 a h).2.2.2.2.2.2.1
theorem wl_2_7 {E : fxE} {a : Nat} (hW : fx_Wt E) (h : kd E a = 2) : ln E (rf E a 7) = 6 := (hW.2.2.1 a h).2.2.2.2.2.2.2
theorem wk_3_0 {E : fxE} {a : Nat} (hW : fx_Wt E) (h : kd E a = 3) : kd E (rf E a 0) = 14 := (hW.2.2.2.1 a h).1
theorem wl_3_0 {E : fxE} {a : Nat} (hW : fx_Wt E) (h : kd E a = 3) : ln E (rf E a 0) = 8 := (hW.2.2.2.1 a h).2
theorem wk_4_0 {E : fxE} {a : Nat} (hW : fx_Wt E) (h : kd E a = 4) : kd E (rf E a 0) = 11 := (hW.2.2.2.2.1 a h).1.1
theorem wl_4_0 {E : fxE} {a : Nat} (hW : fx_Wt E) (h : kd E a = 4) : ln E (rf E a 0) = 200 := (hW.2.2.2.2.1 a h).1.2
theorem wk_4_1 {E : fxE} {a : Nat} (hW : fx_Wt E) (h : kd E a = 4) : kd E (rf E a 1) = 11 := (hW.2.2.2.2.1 a h).2.1.1
theorem wl_4_1 {E : fxE} {a : Nat} (hW : fx_Wt E) (h : kd E a = 4) : ln E (rf E a 1) = 200 := (hW.2.2.2.2.1 a h).2.1.2
theorem wk_4_2 {E : fxE} {a : Nat} (hW : fx_Wt E) (h : kd E a = 4) : kd E (rf E a 2) = 12 := (hW.2.2.2.2.1 a h).2.2.1
theorem wl_4_2 {E : fxE} {a : Nat} (hW : fx_Wt E) (h : kd E a = 4) : ln E (rf E a 2) = 200 := (hW.2.2.2.2.1 a h).2.2.2
theorem wk_5_0 {E : fxE} {a : Nat} (hW : fx_Wt E) (h : kd E a = 5) : kd E (rf E a 0) = 2 := (hW.2.2.2.2.2.1 a h).1
theorem wk_5_1 {E : fxE} {a : Nat} (hW : fx_Wt E) (h : kd E a = 5) : kd E (rf E a 1) = 0 := (hW.2.2.2.2.2.1 a h).2.1
theorem wk_5_2 {E : fxE} {a : Nat} (hW : fx_Wt E) (h : kd E a = 5) : kd E (rf E a 2) = 11 := (hW.2.2.2.2.2.1 a h).2.2.1
theorem wl_5_2 {E : fxE} {a : Nat} (hW : fx_Wt E) (h : kd E a = 5) : ln E (rf E a 2) = 4 := (hW.2.2.2.2.2.1 a h).2.2.2
theorem wk_6_0 {E : fxE} {a : Nat} (hW : fx_Wt E) (h : kd E a = 6) : kd E (rf E a 0) = 11 := (hW.2.2.2.2.2.2.1 a h).1
theorem wl_6_0 {E : fxE} {a : Nat} (hW : fx_Wt E) (h : kd E a = 6) : ln E (rf E a 0) = 120 := (hW.2.2.2.2.2.2.1 a h).2
theorem wk_7_0 {E : fxE} {a : Nat} (hW : fx_Wt E) (h : kd E a = 7) : kd E (rf E a 0) = 11 := (hW.2.2.2.2.2.2.2.1 a h).1
theorem wl_7_0 {E : fxE} {a : Nat} (hW : fx_Wt E) (h : kd E a = 7) : ln E (rf E a 0) = 401 := (hW.2.2.2.2.2.2.2.1 a h).2
theorem wk_8_0 {E : fxE} {a : Nat} (hW : fx_Wt E) (h : kd E a = 8) : kd E (rf E a 0) = 11 := (hW.2.2.2.2.2.2.2.2.1 a h).1.1
theorem wl_8_0 {E : fxE} {a : Nat} (hW : fx_Wt E) (h : kd E a = 8) : ln E (rf E a 0) = 301 := (hW.2.2.2.2.2.2.2.2.1 a h).1.2
theorem wk_8_1 {E : fxE} {a : Nat} (hW : fx_Wt E) (h : kd E a = 8) : kd E (rf E a 1) = 11 := (hW.2.2.2.2.2.2.2.2.1 a h).2.1.1
theorem wl_8_1 {E : fxE} {a : Nat} (hW : fx_Wt E) (h : kd E a = 8) : ln E (rf E a 1) = 300 := (hW.2.2.2.2.2.2.2.2.1 a h).2.1.2
theorem wk_8_2 {E : fxE} {a : Nat} (hW : fx_Wt E) (h : kd E a = 8) : kd E (rf E a 2) = 11 := (hW.2.2.2.2.2.2.2.2.1 a h).2.2.1.1
theorem wl_8_2 {E : fxE} {a : Nat} (hW : fx_Wt E) (h : kd E a = 8) : ln E (rf E a 2) = 10 := (hW.2.2.2.2.2.2.2.2.1 a h).2.2.1.2
theorem wk_8_3 {E : fxE} {a : Nat} (hW : fx_Wt E) (h : kd E a = 8) : kd E (rf E a 3) = 11 := (hW.2.2.2.2.2.2.2.2.1 a h).2.2.2.1
theorem wl_8_3 {E : fxE} {a : Nat} (hW : fx_Wt E) (h : kd E a = 8) : ln E (rf E a 3) = 10 := (hW.2.2.2.2.2.2.2.2.1 a h).2.2.2.2
theorem wk_9_0 {E : fxE} {a : Nat} (hW : fx_Wt E) (h : kd E a = 9) : kd E (rf E a 0) = 5 := (hW.2.2.2.2.2.2.2.2.2.1 a h).1
theorem wk_9_1 {E : fxE} {a : Nat} (hW : fx_Wt E) (h : kd E a = 9) : kd E (rf E a 1) = 3 := (hW.2.2.2.2.2.2.2.2.2.1 a h).2.1
theorem wk_9_2 {E : fxE} {a : Nat} (hW : fx_Wt E) (h : kd E a = 9) : kd E (rf E a 2) = 2 := (hW.2.2.2.2.2.2.2.2.2.1 a h).2.2.1
theorem wk_9_3 {E : fxE} {a : Nat} (hW : fx_Wt E) (h : kd E a = 9) : kd E (rf E a 3) = 6 := (hW.2.2.2.2.2.2.2.2.2.1 a h).2.2.2.1
theorem wk_9_4 {E : fxE} {a : Nat} (hW : fx_Wt E) (h : kd E a = 9) : kd E (rf E a 4) = 16 := (hW.2.2.2.2.2.2.2.2.2.1 a h).2.2.2.2.1.1
theorem wl_9_4 {E : fxE} {a : Nat} (hW : fx_Wt E) (h : kd E a = 9) : ln E (rf E a 4) = 2 := (hW.2.2.2.2.2.2.2.2.2.1 a h).2.2.2.2.1.2
theorem wk_9_5 {E : fxE} {a : Nat} (hW : fx_Wt E) (h : kd E a = 9) : kd E (rf E a 5) = 15 := (hW.2.2.2.2.2.2.2.2.2.1 a h).2.2.2.2.2.1.1
theorem wl_9_5 {E : fxE} {a : Nat} (hW : fx_Wt E) (h : kd E a = 9) : ln E (rf E a 5) = 8 := (hW.2.2.2.2.2.2.2.2.2.1 a h).2.2.2.2.2.1.2
theorem wk_9_6 {E : fxE} {a : Nat} (hW : fx_Wt E) (h : kd E a = 9) : kd E (rf E a 6) = 13 := (hW.2.2.2.2.2.2.2.2.2.1 a h).2.2.2.2.2.2.1.1
theorem wl_9_6 {E : fxE} {a : Nat} (hW : fx_Wt E) (h : kd E a = 9) : ln E (rf E a 6) = 2 := (hW.2.2.2.2.2.2.2.2.2.1 a h).2.2.2.2.2.2.1.2
theorem wk_9_7 {E : fxE} {a : Nat} (hW : fx_Wt E) (h : kd E a = 9) : kd E (rf E a 7) = 4 := (hW.2.2.2.2.2.2.2.2.2.1 a h).2.2.2.2.2.2.2
theorem wk_10_0 {E : fxE} {a : Nat} (hW : fx_Wt E) (h : kd E a = 10) : kd E (rf E a 0) = 11 := (hW.2.2.2.2.2.2.2.2.2.2.1 a h).1.1
theorem wl_10_0 {E : fxE} {a : Nat} (hW : fx_Wt E) (h : kd E a = 10) : ln E (rf E a 0) = 84 := (hW.2.2.2.2.2.2.2.2.2.2.1 a h).1.2
theorem wk_10_1 {E : fxE} {a : Nat} (hW : fx_Wt E) (h : kd E a = 10) : kd E (rf E a 1) = 11 := (hW.2.2.2.2.2.2.2.2.2.2.1 a h).2.1.1
theorem wl_10_1 {E : fxE} {a : Nat} (hW : fx_Wt E) (h : kd E a = 10) : ln E (rf E a 1) = 672 := (hW.2.2.2.2.2.2.2.2.2.2.1 a h).2.1.2
theorem wk_10_5 {E : fxE} {a : Nat} (hW : fx_Wt E) (h : kd E a = 10) : kd E (rf E a 5) = 11 := (hW.2.2.2.2.2.2.2.2.2.2.1 a h).2.2.1.1
theorem wl_10_5 {E : fxE} {a : Nat} (hW : fx_Wt E) (h : kd E a = 10) : ln E (rf E a 5) = 120 := (hW.2.2.2.2.2.2.2.2.2.2.1 a h).2.2.1.2
theorem wk_10_9 {E : fxE} {a : Nat} (hW : fx_Wt E) (h : kd E a = 10) : kd E (rf E a 9) = 11 := (hW.2.2.2.2.2.2.2.2.2.2.1 a h).2.2.2.1.1
theorem wl_10_9 {E : fxE} {a : Nat} (hW : fx_Wt E) (h : kd E a = 10) : ln E (rf E a 9) = 301 := (hW.2.2.2.2.2.2.2.2.2.2.1 a h).2.2.2.1.2
theorem wk_10_10 {E : fxE} {a : Nat} (hW : fx_Wt E) (h : kd E a = 10) : kd E (rf E a 10) = 11 := (hW.2.2.2.2.2.2.2.2.2.2.1 a h).2.2.2.2.1.1
theorem wl_10_10 {E : fxE} {a : Nat} (hW : fx_Wt E) (h : kd E a = 10) : ln E (rf E a 10) = 300 := (hW.2.2.2.2.2.2.2.2.2.2.1 a h).2.2.2.2.1.2
theorem wk_10_11 {E : fxE} {a : Nat} (hW : fx_Wt E) (h : kd E a = 10) : kd E (rf E a 11) = 11 := (hW.2.2.2.2.2.2.2.2.2.2.1 a h).2.2.2.2.2.1.1
theorem wl_10_11 {E : fxE} {a : Nat} (hW : fx_Wt E) (h : kd E a = 10) : ln E (rf E a 11) = 20 := (hW.2.2.2.2.2.2.2.2.2.2.1 a h).2.2.2.2.2.1.2
theorem wk_10_13 {E : fxE} {a : Nat} (hW : fx_Wt E) (h : kd E a = 10) : kd E (rf E a 13) = 11 := (hW.2.2.2.2.2.2.2.2.2.2.1 a h).2.2.2.2.2.2.1.1
theorem wl_10_13 {E : fxE} {a : Nat} (hW : fx_Wt E) (h : kd E a = 10) : ln E (rf E a 13) = 401 := (hW.2.2.2.2.2.2.2.2.2.2.1 a h).2.2.2.2.2.2.1.2
theorem wk_10_14 {E : fxE} {a : Nat} (hW : fx_Wt E) (h : kd E a = 10) : kd E (rf E a 14) = 11 := (hW.2.2.2.2.2.2.2.2.2.2.1 a h).2.2.2.2.2.2.2.1.1
theorem wl_10_14 {E : fxE} {a : Nat} (hW : fx_Wt E) (h : kd E a = 10) : ln E (rf E a 14) = 401 := (hW.2.2.2.2.2.2.2.2.2.2.1 a h).2.2.2.2.2.2.2.1.2
theorem wk_10_15 {E : fxE} {a : Nat} (hW : fx_Wt E) (h : kd E a = 10) : kd E (rf E a 15) = 11 := (hW.2.2.2.2.2.2.2.2.2.2.1 a h).2.2.2.2.2.2.2.2.1.1
theorem wl_10_15 {E : fxE} {a : Nat} (hW : fx_Wt E) (h : kd E a = 10) : ln E (rf E a 15) = 2814 := (hW.2.2.2.2.2.2.2.2.2.2.1 a h).2.2.2.2.2.2.2.2.1.2
theorem wk_10_17 {E : fxE} {a : Nat} (hW : fx_Wt E) (h : kd E a = 10) : kd E (rf E a 17) = 11 := (hW.2.2.2.2.2.2.2.2.2.2.1 a h).2.2.2.2.2.2.2.2.2.1.1
theorem wl_10_17 {E : fxE} {a : Nat} (hW : fx_Wt E) (h : kd E a = 10) : ln E (rf E a 17) = 402 := (hW.2.2.2.2.2.2.2.2.2.2.1 a h).2.2.2.2.2.2.2.2.2.1.2
theorem wk_10_18 {E : fxE} {a : Nat} (hW : fx_Wt E) (h : kd E a = 10) : kd E (rf E a 18) = 11 := (hW.2.2.2.2.2.2.2.2.2.2.1 a h).2.2.2.2.2.2.2.2.2.2.1.1
theorem wl_10_18 {E : fxE} {a : Nat} (hW : fx_Wt E) (h : kd E a = 10) : ln E (rf E a 18) = 402 := (hW.2.2.2.2.2.2.2.2.2.2.1 a h).2.2.2.2.2.2.2.2.2.2.1.2
theorem wk_10_23 {E : fxE} {a : Nat} (hW : fx_Wt E) (h : kd E a = 10) : kd E (rf E a 23) = 11 := (hW.2.2.2.2.2.2.2.2.2.2.1 a h).2.2.2.2.2.2.2.2.2.2.2.1
theorem wl_10_23 {E : fxE} {a : Nat} (hW : fx_Wt E) (h : kd E a = 10) : ln E (rf E a 23) = 24 := (hW.2.2.2.2.2.2.2.2.2.2.1 a h).2.2.2.2.2.2.2.2.2.2.2.2
theorem we_13 {E : fxE} {a n : Nat} {i : Int} (hW : fx_Wt E) (h : kd E a = 13) (hn : ln E a = n) (g : 0 ≤ i ∧ i < (n : Int)) : kd E (rf E a i.toNat) = 1 := hW.2.2.2.2.2.2.2.2.2.2.2.1 a i.toNat h (by omega)
theorem we_14 {E : fxE} {a n : Nat} {i : Int} (hW : fx_Wt E) (h : kd E a = 14) (hn : ln E a = n) (g : 0 ≤ i ∧ i < (n : Int)) : kd E (rf E a i.toNat) = 5 := hW.2.2.2.2.2.2.2.2.2.2.2.2.1 a i.toNat h (by omega)
theorem we_15 {E : fxE} {a n : Nat} {i : Int} (hW : fx_Wt E) (h : kd E a = 15) (hn : ln E a = n) (g : 0 ≤ i ∧ i < (n : Int)) : kd E (rf E a i.toNat) = 7 := hW.2.2.2.2.2.2.2.2.2.2.2.2.2.1 a i.toNat h (by omega)
theorem we_16 {E : fxE} {a n : Nat} {i : Int} (hW : fx_Wt E) (h : kd E a = 16) (hn : ln E a = n) (g : 0 ≤ i ∧ i < (n : Int)) : kd E (rf E a i.toNat) = 8 := hW.2.2.2.2.2.2.2.2.2.2.2.2.2.2.1 a i.toNat h (by omega)
theorem wd {E : fxE} (hW : fx_Wt E) {a k b j : Nat} (h1 : rslot E a k) (h2 : rslot E b j) (h : rf E a k = rf E b j) : a = b ∧ k = j := hW.2.2.2.2.2.2.2.2.2.2.2.2.2.2.2 a k b j h1 h2 h
theorem rs_o {E : fxE} {a C k : Nat} (h : kd E a = C) (hC : C ≤ 10) (hk : (lay C)[k]? = some true) : rslot E a k := Or.inl (by rw [h]; exact ⟨hC, hk⟩)
theorem rs_a {E : fxE} {a C k : Nat} (h : kd E a = C) (hC : 13 ≤ C ∧ C ≤ 16) (hk : k < ln E a) : rslot E a k := Or.inr (by rw [h]; exact ⟨hC.1, hC.2, hk⟩)
def CtV (E : fxE) (z : fxY) (as : List fxV) (M : fxM) (R : fxM → Prop) : Prop := fx_Ct E z as M (fun r M' => r = none ∧ R M')
def CtI (E : fxE) (z : fxY) (as : List fxV) (M : fxM) (R : Int → fxM → Prop) : Prop := fx_Ct E z as M (fun r M' => ∃ v : Int, r = some (.inl v) ∧ R v M')
def CtA (E : fxE) (z : fxY) (as : List fxV) (M : fxM) (R : Nat → fxM → Prop) : Prop := fx_Ct E z as M (fun r M' => ∃ v : Nat, r = some (.inr v) ∧ R v M')
/-- a test: 1 or 0, nothing changes -/
def CtB (E : fxE) (z : fxY) (as : List fxV) (M : fxM) (c : Prop) : Prop := fx_Ct E z as M (fun r M' => M' = M ∧ ((c ∧ r = some (.inl 1)) ∨ (¬ c ∧ r = some (.inl 0))))
/-- a number, nothing changes -/
def CtF (E : fxE) (z : fxY) (as : List fxV) (M : fxM) (v : Int) : Prop := fx_Ct E z as M (fun r M' => M' = M ∧ r = some (.inl v))
def lvle : List (Option fxV) → List (Option fxV) → Prop
  | [], _ => True
  | none :: l, _ :: l' => lvle l l'
  | some v :: l, some w :: l' => v = w ∧ lvle l l'
  | _, _ => False
theorem lvle_get : ∀ (l l' : List (Option fxV)), lvle l l' → ∀ (i : Nat) (v : fxV), l[i]? = some (some v) → l'[i]? = some (some v)
  | [], _, _, i, v, h => by simp at h
  | none :: l, [], hl, _, _, _ => by simp [lvle] at hl
  | none :: l, b :: l', hl, 0, v, h => by cases h
  | none :: l, b :: l', hl, i + 1, v, h => lvle_get l l' hl i v h
  | some a :: l, [], hl, _, _, _ => by simp [lvle] at hl
  | some a :: l, none :: l', hl, _, _, _ => by simp [lvle] at hl
  | some a :: l, some b :: l', hl, 0, v, h => by
    cases h
    show some (some b) = _
    rw [hl.1]
  | some a :: l, some b :: l', hl, i + 1, v, h => lvle_get l l' hl.2 i v h
theorem x_weak {E : fxE} {y : fxY} {pc : Nat} {lv lv' : List (Option fxV)} {stk : List fxV} {M : fxM} {Q : Option fxV → fxM → Prop} (hl : lvle lv lv') (h : fx_At E y pc lv stk M Q) : fx_At E y pc lv' stk M Q := by
  intro hO p l e s m args below meth c C H locs ls hS hv hP
  refine h hO p l e s m args below meth c C H locs ls hS ⟨hv.1, hv.2.1, fun q hq => hv.2.2 q ?_⟩ hP
  obtain ⟨v, h1, h2⟩ := fx_prs_mem.mp hq
  exact fx_prs_mem.mpr ⟨v, lvle_get lv lv' hl q.1 v h1, h2⟩
theorem x_post {E : fxE} {y : fxY} {as : List fxV} {M : fxM} {Q Q' : Option fxV → fxM → Prop} (h : fx_Ct E y as M Q) (hq : ∀ r M', Q r M' → Q' r M') : fx_Ct E y as M Q' := by
  intro hO l p e a1 a2 a3 s m args below a4 a5 a6 a7
  obtain ⟨t, o, b1, b2, b3, ⟨⟨r, M', c1, c2, c3⟩, c4⟩, b5⟩ := h hO l p e a1 a2 a3 s m args below a4 a5 a6 a7
  exact ⟨t, o, b1, b2, b3, ⟨⟨r, M', c1, hq r M' c2, c3⟩, c4⟩, b5⟩
theorem goX0 : ∀ w ∈ wsX00, w ∈ lw_good := fun w h => lw_goodI (inX0 w h) ((by decide +kernel : ∀ w ∈ wsX00, goodWord w = true) w h)
theorem goX1 : ∀ w ∈ wsX10, w ∈ lw_good := fun w h => lw_goodI (inX1 w h) ((by decide +kernel : ∀ w ∈ wsX10, goodWord w = true) w h)
theorem goX2 : ∀ w ∈ wsX20, w ∈ lw_good := fun w h => lw_goodI (inX2 w h) ((by decide +kernel : ∀ w ∈ wsX20, goodWord w = true) w h)
theorem goX3 : ∀ w ∈ wsX30, w ∈ lw_good := fun w h => lw_goodI (inX3 w h) ((by decide +kernel : ∀ w ∈ wsX30, goodWord w = true) w h)
theorem goX4 : ∀ w ∈ wsX40, w ∈ lw_good := fun w h => lw_goodI (inX4 w h) ((by decide +kernel : ∀ w ∈ wsX40, goodWord w = true) w h)
theorem goX5 : ∀ w ∈ wsX50, w ∈ lw_good := fun w h => lw_goodI (inX5 w h) ((by decide +kernel : ∀ w ∈ wsX50, goodWord w = true) w h)
theorem goX6 : ∀ w ∈ wsX60, w ∈ lw_good := fun w h => lw_goodI (inX6 w h) ((by decide +kernel : ∀ w ∈ wsX60, goodWord w = true) w h)
theorem goX7 : ∀ w ∈ wsX70, w ∈ lw_good := fun w h => lw_goodI (inX7 w h) ((by decide +kernel : ∀ w ∈ wsX70, goodWord w = true) w h)
theorem goX8 : ∀ w ∈ wsX80, w ∈ lw_good := fun w h => lw_goodI (inX8 w h) ((by decide +kernel : ∀ w ∈ wsX80, goodWord w = true) w h)
theorem goX9 : ∀ w ∈ wsX90, w ∈ lw_good := fun w h => lw_goodI (inX9 w h) ((by decide +kernel : ∀ w ∈ wsX90, goodWord w = true) w h)
theorem goX10 : ∀ w ∈ wsX100, w ∈ lw_good := fun w h => lw_goodI (inX10 w h) ((by decide +kernel : ∀ w ∈ wsX100, goodWord w = true) w h)
