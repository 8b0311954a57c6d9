/-! printed by wip/whole/kfin.py: the table behind both constructors, and what holds there -/
def TBF : List kent := [(9, 0, [some (.inr 1), some (.inr 14), some (.inr 120), some (.inr 128), some (.inr 130), some (.inr 131), some (.inr 132), some (.inr 133), some (.inl 0)]), (5, 0, [some (.inr 2), some (.inr 10), some (.inr 13)]), (2, 0, [some (.inr 3), some (.inr 4), some (.inr 5), some (.inl 1), some (.inr 6), some (.inr 7), some (.inr 8), some (.inr 9), some (.inl 0), some (.inl 0), some (.inl 0)]), (11, 8, [some (.inl 100)]), (11, 8, [some (.inl 20)]), (11, 8, [some (.inl 1000)]), (11, 9, []), (11, 9, []), (11, 6, []), (11, 6, []), (0, 0, [some (.inr 11), some (.inr 12), some (.inl 0), some (.inl 30)]), (11, 10, []), (11, 10, []), (11, 4, [some (.inl 20), some (.inl 100), some (.inl 2), some (.inl 1000)]), (3, 0, [some (.inr 15), some (.inl 0), some (.inl 0)]), (14, 8, [some (.inr 16), some (.inr 29), some (.inr 42), some (.inr 55), some (.inr 68), some (.inr 81), some (.inr 94), some (.inr 107)]), (5, 0, [some (.inr 17), some (.inr 25), some (.inr 28)]), (2, 0, [some (.inr 18), some (.inr 19), some (.inr 20), some (.inl 0), some (.inr 21), some (.inr 22), some (.inr 23), some (.inr 24), some (.inl 0), some (.inl 0), some (.inl 0)]), (11, 8, []), (11, 8, []), (11, 8, []), (11, 9, []), (11, 9, []), (11, 6, []), (11, 6, []), (0, 0, [some (.inr 26), some (.inr 27), some (.inl 0), some (.inl 0)]), (11, 10, []), (11, 10, []), (11, 4, []), (5, 0, [some (.inr 30), some (.inr 38), some (.inr 41)]), (2, 0, [some (.inr 31), some (.inr 32), some (.inr 33), some (.inl 0), some (.inr 34), some (.inr 35), some (.inr 36), some (.inr 37), some (.inl 0), some (.inl 0), some (.inl 0)]), (11, 8, []), (11, 8, []), (11, 8, []), (11, 9, []), (11, 9, []), (11, 6, []), (11, 6, []), (0, 0, [some (.inr 39), some (.inr 40), some (.inl 0), some (.inl 0)]), (11, 10, []), (11, 10, []), (11, 4, []), (5, 0, [some (.inr 43), some (.inr 51), some (.inr 54)]), (2, 0, [some (.inr 44), some (.inr 45), some (.inr 46), some (.inl 0), some (.inr 47), some (.inr 48), some (.inr 49), some (.inr 50), some (.inl 0), some (.inl 0), some (.inl 0)]), (11, 8, []), (11, 8, []), (11, 8, []), (11, 9, []), (11, 9, []), (11, 6, []), (11, 6, []), (0, 0, [some (.inr 52), some (.inr 53), some (.inl 0), some (.inl 0)]), (11, 10, []), (11, 10, []), (11, 4, []), (5, 0, [some (.inr 56), some (.inr 64), some (.inr 67)]), (2, 0, [some (.inr 57), some (.inr 58), some (.inr 59), some (.inl 0), some (.inr 60), some (.inr 61), some (.inr 62), some (.inr 63), some (.inl 0), some (.inl 0), some (.inl 0)]), (11, 8, []), (11, 8, []), (11, 8, []), (11, 9, []), (11, 9, []), (11, 6, []), (11, 6, []), (0, 0, [some (.inr 65), some (.inr 66), some (.inl 0), some (.inl 0)]), (11, 10, []), (11, 10, []), (11, 4, []), (5, 0, [some (.inr 69), some (.inr 77), some (.inr 80)]), (2, 0, [some (.inr 70), some (.inr 71), some (.inr 72), some (.inl 0), some (.inr 73), some (.inr 74), some (.inr 75), some (.inr 76), some (.inl 0), some (.inl 0), some (.inl 0)]), (11, 8, []), (11, 8, []), (11, 8, []), (11, 9, []), (11, 9, []), (11, 6, []), (11, 6, []), (0, 0, [some (.inr 78), some (.inr 79), some (.inl 0), some (.inl 0)]), (11, 10, []), (11, 10, []), (11, 4, []), (5, 0, [some (.inr 82), some (.inr 90), some (.inr 93)]), (2, 0, [some (.inr 83), some (.inr 84), some (.inr 85), some (.inl 0), some (.inr 86), some (.inr 87), some (.inr 88), some (.inr 89), some (.inl 0), some (.inl 0), some (.inl 0)]), (11, 8, []), (11, 8, []), (11, 8, []), (11, 9, []), (11, 9, []), (11, 6, []), (11, 6, []), (0, 0, [some (.inr 91), some (.inr 92), some (.inl 0), some (.inl 0)]), (11, 10, []), (11, 10, []), (11, 4, []), (5, 0, [some (.inr 95), some (.inr 103), some (.inr 106)]), (2, 0, [some (.inr 96), some (.inr 97), some (.inr 98), some (.inl 0), some (.inr 99), some (.inr 100), some (.inr 101), some (.inr 102), some (.inl 0), some (.inl 0), some (.inl 0)]), (11, 8, []), (11, 8, []), (11, 8, []), (11, 9, []), (11, 9, []), (11, 6, []), (11, 6, []), (0, 0, [some (.inr 104), some (.inr 105), some (.inl 0), some (.inl 0)]), (11, 10, []), (11, 10, []), (11, 4, []), (5, 0, [some (.inr 108), some (.inr 116), some (.inr 119)]), (2, 0, [some (.inr 109), some (.inr 110), some (.inr 111), some (.inl 0), some (.inr 112), some (.inr 113), some (.inr 114), some (.inr 115), some (.inl 0), some (.inl 0), some (.inl 0)]), (11, 8, []), (11, 8, []), (11, 8, []), (11, 9, []), (11, 9, []), (11, 6, []), (11, 6, []), (0, 0, [some (.inr 117), some (.inr 118), some (.inl 0), some (.inl 0)]), (11, 10, []), (11, 10, []), (11, 4, []), (2, 0, [some (.inr 121), some (.inr 122), some (.inr 123), some (.inl 0), some (.inr 124), some (.inr 125), some (.inr 126), some (.inr 127), some (.inl 0), some (.inl 0), some (.inl 0)]), (11, 8, []), (11, 8, []), (11, 8, []), (11, 9, []), (11, 9, []), (11, 6, []), (11, 6, []), (6, 0, [some (.inr 129), some (.inl 0), some (.inl 0), some (.inl 0), some (.inl 0)]), (11, 120, []), (16, 2, [some (.inr 137), some (.inr 149)]), (15, 8, [some (.inr 161), some (.inr 163), some (.inr 165), some (.inr 167), some (.inr 169), some (.inr 171), some (.inr 173), some (.inr 175)]), (13, 2, [some (.inr 142), some (.inr 154)]), (4, 0, [some (.inr 134), some (.inr 135), some (.inr 136), some (.inl 0)]), (11, 200, []), (11, 200, []), (12, 200, []), (8, 0, [some (.inr 138), some (.inr 139), some (.inr 140), some (.inr 141), some (.inl 0), some (.inl 0), some (.inl 0), some (.inl 0), some (.inl (-1))]), (11, 301, []), (11, 300, []), (11, 10, []), (11, 10, []), (1, 0, [some (.inr 143), some (.inr 144), some (.inr 145), some (.inr 146), some (.inr 147), some (.inr 148), some (.inl 0), some (.inl 0), some (.inl (-1))]), (11, 200, []), (11, 200, []), (11, 200, []), (11, 200, []), (11, 200, []), (12, 401, []), (8, 0, [some (.inr 150), some (.inr 151), some (.inr 152), some (.inr 153), some (.inl 0), some (.inl 0), some (.inl 0), some (.inl 0), some (.inl (-1))]), (11, 301, []), (11, 300, []), (11, 10, []), (11, 10, []), (1, 0, [some (.inr 155), some (.inr 156), some (.inr 157), some (.inr 158), some (.inr 159), some (.inr 160), some (.inl 0), some (.inl 0), some (.inl (-1))]), (11, 200, []), (11, 200, []), (11, 200, []), (11, 200, []), (11, 200, []), (12, 401, []), (7, 0, [some (.inr 162), some (.inl 0), some (.inl (-1))]), (11, 401, []), (7, 0, [some (.inr 164), some (.inl 0), some (.inl (-1))]), (11, 401, []), (7, 0, [some (.inr 166), some (.inl 0), some (.inl (-1))]), (11, 401, []), (7, 0, [some (.inr 168), some (.inl 0), some (.inl (-1))]), (11, 401, []), (7, 0, [some (.inr 170), some (.inl 0), some (.inl (-1))]), (11, 401, []), (7, 0, [some (.inr 172), some (.inl 0), some (.inl (-1))]), (11, 401, []), (7, 0, [some (.inr 174), some (.inl 0), some (.inl (-1))]), (11, 401, []), (7, 0, [some (.inr 176), some (.inl 0), some (.inl (-1))]), (11, 401, []), (10, 0, [some (.inr 178), some (.inr 179), some (.inl 0), some (.inl (-1)), some (.inl 0), some (.inr 180), some (.inl 0), some (.inl (-1000005)), some (.inl (-1000005)), some (.inr 181), some (.inr 182), some (.inr 183), some (.inl 0), some (.inr 184), some (.inr 185), some (.inr 186), some (.inl 0), some (.inr 187), some (.inr 188), some (.inl 0), some (.inl 0), some (.inl 0), some (.inl 0), some (.inr 189), some (.inl 0)]), (11, 84, [some (.inl 1), some (.inl 100), some (.inl 20), some (.inl 1000), some (.inl 0), some (.inl 0), some (.inl 0), some (.inl 0), some (.inl 0), some (.inl 0), some (.inl 0), some (.inl 0), some (.inl 0), some (.inl 0), some (.inl 0), some (.inl 0), some (.inl 0), some (.inl 0), some (.inl 0), some (.inl 0), some (.inl 0), some (.inl 0), some (.inl 0), some (.inl 0), some (.inl 0), some (.inl 0), some (.inl 0), some (.inl 0), some (.inl 0), some (.inl 0), some (.inl 0), some (.inl 0), some (.inl 0), some (.inl 0), some (.inl 0), some (.inl 0), some (.inl 0), some (.inl 0), some (.inl 0), some (.inl 0), some (.inl 0), some (.inl 0), some (.inl 0), some (.inl 0), some (.inl 0), some (.inl 0), some (.inl 0), some (.inl 0), some (.inl 0), some (.inl 0), some (.inl 0), some (.inl 0), some (.inl 0), some (.inl 0), some (.inl 0), some (.inl 0), some (.inl 0), some (.inl 0), some (.inl 20), some (.inl 100), some (.inl 2), some (.inl 1000), some (.inl 0), some (.inl 0), some (.inl 0), some (.inl 0), some (.inl 0), some (.inl 0), some (.inl 0), some (.inl 0), some (.inl 0), some (.inl 0), some (.inl 0), some (.inl 0), some (.inl 0), some (.inl 0), some (.inl 0), some (.inl 0), some (.inl 0), some (.inl 0), some (.inl 0), some (.inl 0), some (.inl 0), some (.inl 30)]), (11, 672, []), (11, 120, []), (11, 301, []), (11, 300, []), (11, 20, []), (11, 401, []), (11, 401, []), (11, 2814, []), (11, 402, []), (11, 402, []), (11, 24, [])]
def ivF : List (Nat × Nat) := [(999, 999), (0, 0), (1, 0), (2, 0), (2, 1), (2, 2), (2, 4), (2, 5), (2, 6), (2, 7), (1, 1), (10, 0), (10, 1), (1, 2), (0, 1), (14, 0), (15, 0), (16, 0), (17, 0), (17, 1), (17, 2), (17, 4), (17, 5), (17, 6), (17, 7), (16, 1), (25, 0), (25, 1), (16, 2), (15, 1), (29, 0), (30, 0), (30, 1), (30, 2), (30, 4), (30, 5), (30, 6), (30, 7), (29, 1), (38, 0), (38, 1), (29, 2), (15, 2), (42, 0), (43, 0), (43, 1), (43, 2), (43, 4), (43, 5), (43, 6), (43, 7), (42, 1), (51, 0), (51, 1), (42, 2), (15, 3), (55, 0), (56, 0), (56, 1), (56, 2), (56, 4), (56, 5), (56, 6), (56, 7), (55, 1), (64, 0), (64, 1), (55, 2), (15, 4), (68, 0), (69, 0), (69, 1), (69, 2), (69, 4), (69, 5), (69, 6), (69, 7), (68, 1), (77, 0), (77, 1), (68, 2), (15, 5), (81, 0), (82, 0), (82, 1), (82, 2), (82, 4), (82, 5), (82, 6), (82, 7), (81, 1), (90, 0), (90, 1), (81, 2), (15, 6), (94, 0), (95, 0), (95, 1), (95, 2), (95, 4), (95, 5), (95, 6), (95, 7), (94, 1), (103, 0), (103, 1), (94, 2), (15, 7), (107, 0), (108, 0), (108, 1), (108, 2), (108, 4), (108, 5), (108, 6), (108, 7), (107, 1), (116, 0), (116, 1), (107, 2), (0, 2), (120, 0), (120, 1), (120, 2), (120, 4), (120, 5), (120, 6), (120, 7), (0, 3), (128, 0), (0, 4), (0, 5), (0, 6), (0, 7), (133, 0), (133, 1), (133, 2), (130, 0), (137, 0), (137, 1), (137, 2), (137, 3), (132, 0), (142, 0), (142, 1), (142, 2), (142, 3), (142, 4), (142, 5), (130, 1), (149, 0), (149, 1), (149, 2), (149, 3), (132, 1), (154, 0), (154, 1), (154, 2), (154, 3), (154, 4), (154, 5), (131, 0), (161, 0), (131, 1), (163, 0), (131, 2), (165, 0), (131, 3), (167, 0), (131, 4), (169, 0), (131, 5), (171, 0), (131, 6), (173, 0), (131, 7), (175, 0), (999, 999), (177, 0), (177, 1), (177, 5), (177, 9), (177, 10), (177, 11), (177, 13), (177, 14), (177, 15), (177, 17), (177, 18), (177, 23)]
set_option maxRecDepth 100000 in
theorem tbF_eq : TB9 ++ TB10.map (ksh 177) = TBF := by rfl
theorem tbF_1 : chk TBF 0 190 (fun o => ivF.getD o (999, 999)) = true := by decide +kernel
theorem tbF_4 : ∀ t, t ∈ TBF → t.1 ≤ 16 ∧ t.2.1 < 100000 := smb_ok (by decide +kernel)
def fitc (t : kent) : Bool := decide (12 < t.1) && decide (t.2.2.length = t.2.1) && t.2.2.all (fun v => sk v == some true)
theorem tbF_5 : TBF.all (fun t => fitb t || fitc t) = true := by decide +kernel
theorem tbF_len : TBF.length = 190 := by decide +kernel
theorem kE_cer {E : fxE} {z o : Nat} {tb : List kent} {L : List Nat} {A : Nat → Prop} {t : kent} {D : va_G} {cl : List vw_C} {H : Heap} (h : tb[o]? = some t) (hL : z + o ∈ L) (hF : fitc t = true) (ha : va_at D cl (z + o, kcell E z t) H) : va_at D cl (z + o, cel (kE E z tb L A) (z + o) (tM z tb (z + o))) H := by
  have hk := kE_kd (E := E) (A := A) h hL
  obtain ⟨C, N, l⟩ := t
  simp only [fitc, Bool.and_eq_true, decide_eq_true_eq] at hF
  obtain ⟨⟨h1, h2⟩, h3⟩ := hF
  rw [kc_r h1] at ha
  rw [cel_r hk h1]
  have e2 : ln (kE E z tb L A) (z + o) = N := by
    show tn tb (z + o - z) = N
    rw [Nat.add_sub_cancel_left, tn, h]
  rw [e2]
  have ha' : H[z + o]? = some (arrV (eY E C) N (fun j => va_rf (kcr z l j))) := ha
  show H[z + o]? = some (arrV (eY E C) N (fun j => va_rf (some (rf (kE E z tb L A) (z + o) j))))
  rw [ha']
  congr 1
  unfold arrV
  congr 2
  funext j
  have hj : j.val < l.length := by rw [h2]; exact j.isLt
  have hv := List.all_eq_true.mp h3 l[j.val] (List.getElem_mem hj)
  have e3 : rf (kE E z tb L A) (z + o) j.val = z + vr l[j.val] := by
    show z + vr (tsl tb (z + o - z) j.val) = _
    rw [Nat.add_sub_cancel_left, tsl, h]
    show z + vr (match l[j.val]? with | some v => v | none => none) = _
    rw [List.getElem?_eq_getElem hj]
  show va_rf (kcr z l j.val) = va_rf (some (rf (kE E z tb L A) (z + o) j.val))
  rw [e3, kcr, List.getElem?_eq_getElem hj]
  match l[j.val], hv with
  | some (.inr q), _ => rfl
  | some (.inl i), hv => simp [sk] at hv
  | none, hv => simp [sk] at hv
def EF (E : fxE) (B : Nat) : fxE := kE E B TBF (List.range' (B + 0) 190) (fun q => B ≤ q)
def MF (B : Nat) : fxM := tM B TBF
theorem EF_ok {E : fxE} {B : Nat} (hS : StaOk E B) : fx_Ok (EF E B) := kE_ok hS (fun a ha => by have := List.mem_range'_1.mp ha; omega) (fun a ha => by have := List.mem_range'_1.mp ha; rw [tbF_len]; omega) List.nodup_range' (fun a ha => by have := List.mem_range'_1.mp ha; omega) tbF_4
theorem EF_wt {E : fxE} {B : Nat} : fx_Wt (EF E B) := chk_wt (lo := 0) (cnt := 190) tbF_1
theorem EF_P {E : fxE} {B : Nat} {f : Nat → va_E} {H : Heap} (hP : kP E B 190 f H) (hH : Has E f B TBF) : fx_P (EF E B) (MF B) H := by
  refine fx_Pof (fun a ha => ?_)
  have hb := List.mem_range'_1.mp ha
  obtain ⟨o, rfl⟩ : ∃ o, a = B + o := ⟨a - B, by omega⟩
  have ho : o < TBF.length := by rw [tbF_len]; omega
  have ht : TBF[o]? = some TBF[o] := List.getElem?_eq_getElem ho
  have h1 := hP.2 o _ (k_at (by omega))
  rw [hH o _ ht] at h1
  have h2 := List.all_eq_true.mp tbF_5 TBF[o] (List.getElem_mem ho)
  rw [Bool.or_eq_true] at h2
  show va_at (eD E) vwCl (B + o, cel (EF E B) (B + o) (MF B (B + o))) H
  rcases h2 with h2 | h2
  · rw [kE_cel (E := E) (L := List.range' (B + 0) 190) (A := fun q => B ≤ q) ht ha (fitb_ok h2)] at h1
    exact h1
  · exact kE_cer ht ha h2 h1
theorem EF_rf {E : fxE} {B o k : Nat} : rf (EF E B) (B + o) k = B + rr TBF o k := by
  show B + vr (tsl TBF (B + o - B) k) = _
  rw [Nat.add_sub_cancel_left]; rfl
theorem EF_kd {E : fxE} {B o : Nat} (ho : o < 190) : kd (EF E B) (B + o) = tk TBF o := by
  show (if B + o ∈ List.range' (B + 0) 190 then tk TBF (B + o - B) else _) = _
  rw [if_pos (List.mem_range'_1.mpr ⟨by omega, by omega⟩), Nat.add_sub_cancel_left]
theorem MF_at {B o k : Nat} : MF B (B + o) k = vi (tsl TBF o k) := by
  show vi (tsl TBF (B + o - B) k) = _
  rw [Nat.add_sub_cancel_left]
def w0F : Nat → Int := fun k => vi (tsl TBF 178 k)
theorem w0F_at : w0F 0 = 1 ∧ w0F 1 = 100 ∧ w0F 2 = 20 ∧ w0F 3 = 1000 ∧ w0F 25 = 0 ∧ w0F 26 = 0 ∧ w0F 27 = 0 ∧ w0F 28 = 0 ∧ w0F 43 = 0 ∧ w0F 56 = 0 ∧ w0F 57 = 0 ∧ w0F 58 = 20 ∧ w0F 59 = 100 ∧ w0F 60 = 2 ∧ w0F 61 = 1000 ∧ w0F 62 = 0 ∧ w0F 83 = 30 := by decide +kernel
theorem w0F_ok : wOk w0F := by
  obtain ⟨a0, a1, a2, a3, a25, a26, a27, a28, a43, a56, a57, a58, a59, a60, a61, a62, a83⟩ := w0F_at
  have et : tot w0F = 100 := by
    unfold tot wsum
    rw [a0]
    show sg (fun i => w0F (1 + 3 * i)) 1 = 100
    rw [sg, sg]
    show 0 + w0F 1 = 100
    rw [a1]; rfl
  unfold wOk
  rw [et, a0, a43, a56, a57, a62, a83]
  refine ⟨by decide, fun i hi => ?_, by decide, fun k hk => ?_, by decide, fun i hi => absurd hi (by omega), by decide, by decide, fun j hj => ?_, by decide, fun i hi => absurd hi (by omega), fun i hi => absurd hi (by omega), by decide⟩
  · obtain rfl : i = 0 := by omega
    show okSec (w0F 1) (w0F 2) (w0F 3)
    rw [a1, a2, a3]
    unfold okSec
    decide
  · rcases (show k = 0 ∨ k = 1 by omega) with rfl | rfl
    · show (0 ≤ w0F 25 ∧ w0F 25 ≤ 3000) ∧ (0 ≤ w0F 26 ∧ w0F 26 ≤ 9000)
      rw [a25, a26]; decide
    · show (0 ≤ w0F 27 ∧ w0F 27 ≤ 3000) ∧ (0 ≤ w0F 28 ∧ w0F 28 ≤ 9000)
      rw [a27, a28]; decide
  · rcases (show j = 0 ∨ j = 1 ∨ j = 2 ∨ j = 3 by omega) with rfl | rfl | rfl | rfl
    · show sv 0 0 ≤ w0F 58 ∧ w0F 58 ≤ sv 1 0
      rw [a58]; decide
    · show sv 0 1 ≤ w0F 59 ∧ w0F 59 ≤ sv 1 1
      rw [a59]; decide
    · show sv 0 2 ≤ w0F 60 ∧ w0F 60 ≤ sv 1 2
      rw [a60]; decide
    · show sv 0 3 ≤ w0F 61 ∧ w0F 61 ≤ sv 1 3
      rw [a61]; decide
theorem INV_F {E : fxE} {B : Nat} : INV (EF E B) (MF B) (B + 0) (B + 177) 0 := by
  obtain ⟨a0, a1, a2, a3, a25, a26, a27, a28, a43, a56, a57, a58, a59, a60, a61, a62, a83⟩ := w0F_at
  have g : ∀ o k q, rr TBF o k = q → rf (EF E B) (B + o) k = B + q := fun o k q h => by rw [EF_rf, h]
  have f : ∀ o k (x : Int), vi (tsl TBF o k) = x → MF B (B + o) k = x := fun o k x h => by rw [MF_at, h]
  have r0 := g 0 0 1 (by decide +kernel)
  have r1 := g 0 1 14 (by decide +kernel)
  have r3 := g 0 3 128 (by decide +kernel)
  have r4 := g 0 4 130 (by decide +kernel)
  have r5 := g 0 5 131 (by decide +kernel)
  have r6 := g 0 6 132 (by decide +kernel)
  have s0 := g 1 0 2 (by decide +kernel)
  have s1 := g 1 1 10 (by decide +kernel)
  have s2 := g 1 2 13 (by decide +kernel)
  have m0 := g 177 0 178 (by decide +kernel)
  have m1 := g 177 1 179 (by decide +kernel)
  have m5 := g 177 5 180 (by decide +kernel)
  refine ⟨w0F, fun _ _ => 0, 0, 0, 0, MF B (B + 180), ⟨⟨⟨?_, ?_, ?_⟩, ⟨?_, by decide, 0, by decide, ?_, fun i hi => absurd hi (by omega)⟩, ?_⟩, ?_, ?_, ?_, ?_⟩, ⟨?_, ?_, by decide, fun i hi => absurd hi (by omega), ?_, ?_⟩, ⟨w0F_ok, fun i hi => absurd hi (by omega), fun i hi => absurd hi (by omega), by omega⟩, ?_⟩
  · rw [r0, s0]
    unfold FR
    rw [a0, a43, a56, a57]
    refine ⟨f 2 3 1 (by decide +kernel), fun i hi => ?_, fun k hk => ?_, f 2 8 0 (by decide +kernel), fun i hi => absurd hi (by omega), f 2 9 0 (by decide +kernel), f 2 10 0 (by decide +kernel)⟩
    · obtain rfl : i = 0 := by omega
      rw [g 2 0 3 (by decide +kernel), g 2 1 4 (by decide +kernel), g 2 2 5 (by decide +kernel)]
      show MF B (B + 3) 0 = w0F 1 ∧ MF B (B + 4) 0 = w0F 2 ∧ MF B (B + 5) 0 = w0F 3
      rw [a1, a2, a3]
      exact ⟨f 3 0 100 (by decide +kernel), f 4 0 20 (by decide +kernel), f 5 0 1000 (by decide +kernel)⟩
    · rw [g 2 4 6 (by decide +kernel), g 2 5 7 (by decide +kernel)]
      rcases (show k = 0 ∨ k = 1 by omega) with rfl | rfl
      · show MF B (B + 6) 0 = w0F 25 ∧ MF B (B + 7) 0 = w0F 26
        rw [a25, a26]
        exact ⟨f 6 0 0 (by decide +kernel), f 7 0 0 (by decide +kernel)⟩
      · show MF B (B + 6) 1 = w0F 27 ∧ MF B (B + 7) 1 = w0F 28
        rw [a27, a28]
        exact ⟨f 6 1 0 (by decide +kernel), f 7 1 0 (by decide +kernel)⟩
  · rw [r0, s1]
    unfold MR
    rw [a62, a83]
    exact ⟨f 10 2 0 (by decide +kernel), fun i hi => absurd hi (by omega), f 10 3 30 (by decide +kernel)⟩
  · intro j hj
    rw [r0, s2]
    rcases (show j = 0 ∨ j = 1 ∨ j = 2 ∨ j = 3 by omega) with rfl | rfl | rfl | rfl
    · show MF B (B + 13) 0 = w0F 58
      rw [a58]; exact f 13 0 20 (by decide +kernel)
    · show MF B (B + 13) 1 = w0F 59
      rw [a59]; exact f 13 1 100 (by decide +kernel)
    · show MF B (B + 13) 2 = w0F 60
      rw [a60]; exact f 13 2 2 (by decide +kernel)
    · show MF B (B + 13) 3 = w0F 61
      rw [a61]; exact f 13 3 1000 (by decide +kernel)
  · rw [r1]; exact f 14 2 0 (by decide +kernel)
  · rw [r1]; exact f 14 1 0 (by decide +kernel)
  · exact f 0 8 0 (by decide +kernel)
  · intro s hs
    have e : MF B (vw (EF E B) (B + 0) s) 8 = -1 := by
      unfold vw
      rw [r4]
      rcases (show s = 0 ∨ s = 1 by omega) with rfl | rfl
      · rw [g 130 0 137 (by decide +kernel)]; exact f 137 8 (-1) (by decide +kernel)
      · rw [g 130 1 149 (by decide +kernel)]; exact f 149 8 (-1) (by decide +kernel)
    rw [e]
    exact ⟨by decide, fun z => absurd z (by decide)⟩
  · intro j hj
    obtain ⟨q, e0, e1, e2⟩ : ∃ q, tr (EF E B) (B + 0) j = B + q ∧ MF B (B + q) 1 = 0 ∧ MF B (B + q) 2 = -1 := by
      unfold tr
      rw [r5]
      rcases (show j = 0 ∨ j = 1 ∨ j = 2 ∨ j = 3 ∨ j = 4 ∨ j = 5 ∨ j = 6 ∨ j = 7 by omega) with rfl | rfl | rfl | rfl | rfl | rfl | rfl | rfl
      · exact ⟨161, g 131 0 161 (by decide +kernel), f 161 1 0 (by decide +kernel), f 161 2 (-1) (by decide +kernel)⟩
      · exact ⟨163, g 131 1 163 (by decide +kernel), f 163 1 0 (by decide +kernel), f 163 2 (-1) (by decide +kernel)⟩
      · exact ⟨165, g 131 2 165 (by decide +kernel), f 165 1 0 (by decide +kernel), f 165 2 (-1) (by decide +kernel)⟩
      · exact ⟨167, g 131 3 167 (by decide +kernel), f 167 1 0 (by decide +kernel), f 167 2 (-1) (by decide +kernel)⟩
      · exact ⟨169, g 131 4 169 (by decide +kernel), f 169 1 0 (by decide +kernel), f 169 2 (-1) (by decide +kernel)⟩
      · exact ⟨171, g 131 5 171 (by decide +kernel), f 171 1 0 (by decide +kernel), f 171 2 (-1) (by decide +kernel)⟩
      · exact ⟨173, g 131 6 173 (by decide +kernel), f 173 1 0 (by decide +kernel), f 173 2 (-1) (by decide +kernel)⟩
      · exact ⟨175, g 131 7 175 (by decide +kernel), f 175 1 0 (by decide +kernel), f 175 2 (-1) (by decide +kernel)⟩
    rw [e0, e1, e2]
    exact ⟨by decide, by decide, fun z => absurd z (by decide)⟩
  · intro s hs
    obtain ⟨q, e0, e1, e2⟩ : ∃ q, el (EF E B) (B + 0) s = B + q ∧ MF B (B + q) 7 = 0 ∧ MF B (B + q) 8 = -1 := by
      unfold el
      rw [r6]
      rcases (show s = 0 ∨ s = 1 by omega) with rfl | rfl
      · exact ⟨142, g 132 0 142 (by decide +kernel), f 142 7 0 (by decide +kernel), f 142 8 (-1) (by decide +kernel)⟩
      · exact ⟨154, g 132 1 154 (by decide +kernel), f 154 7 0 (by decide +kernel), f 154 8 (-1) (by decide +kernel)⟩
    rw [e0, e1, e2]
    exact ⟨by decide, by decide, fun z => absurd z (by decide)⟩
  · refine ⟨by rw [r3]; exact f 128 1 0 (by decide +kernel), by decide, fun i hi => absurd hi (by omega)⟩
  · rw [m0]
    funext k
    exact MF_at
  · exact f 177 2 0 (by decide +kernel)
  · unfold RC
    rw [f 177 3 (-1) (by decide +kernel), f 177 4 0 (by decide +kernel)]
    exact ⟨by decide, by decide, fun z => absurd z (by decide)⟩
  · refine ⟨f 177 6 0 (by decide +kernel), by decide, by rw [m5]⟩
  · rw [r3, f 128 2 0 (by decide +kernel), f 177 7 (-1000005) (by decide +kernel), f 177 8 (-1000005) (by decide +kernel)]
    exact Or.inl ⟨rfl, rfl, rfl⟩
