/-! One instruction, one rule. -/
section
variable {E : fxE} {y : fxY} {pc : Nat} {lv : List (Option fxV)} {stk : List fxV} {M : fxM} {Q : Option fxV → fxM → Prop}
theorem x_iload_n {k : Fin 4} {i : Nat} {x : Int} (hd : decode (mC y) pc = .ok (.iload_n k, 1)) (hi : (k : Nat) = i) (hv : lv[i]? = some (some (.inl x))) (kk : fx_At E y (pc + 1) lv (.inl x :: stk) M Q) : fx_At E y pc lv stk M Q := by
  intro hO p l e s m args below meth c C H locs ls hS hl hP
  exact lv_iload_n C.1 C.2.1 hd hi (fx_at hl hv) (kk hO p l e s m args below meth c C H locs ls hS hl hP)
theorem x_iload {i : Nat} {x : Int} (hd : decode (mC y) pc = .ok (.iload i, 2)) (hv : lv[i]? = some (some (.inl x))) (kk : fx_At E y (pc + 2) lv (.inl x :: stk) M Q) : fx_At E y pc lv stk M Q := by
  intro hO p l e s m args below meth c C H locs ls hS hl hP
  exact lv_iload C.1 C.2.1 hd (fx_at hl hv) (kk hO p l e s m args below meth c C H locs ls hS hl hP)
theorem x_aload_n {k : Fin 4} {i : Nat} {a : Nat} (hd : decode (mC y) pc = .ok (.aload_n k, 1)) (hi : (k : Nat) = i) (hv : lv[i]? = some (some (.inr a))) (kk : fx_At E y (pc + 1) lv (.inr a :: stk) M Q) : fx_At E y pc lv stk M Q := by
  intro hO p l e s m args below meth c C H locs ls hS hl hP
  exact lv_aload_n C.1 C.2.1 hd hi (fx_at hl hv) (kk hO p l e s m args below meth c C H locs ls hS hl hP)
theorem x_aload {i : Nat} {a : Nat} (hd : decode (mC y) pc = .ok (.aload i, 2)) (hv : lv[i]? = some (some (.inr a))) (kk : fx_At E y (pc + 2) lv (.inr a :: stk) M Q) : fx_At E y pc lv stk M Q := by
  intro hO p l e s m args below meth c C H locs ls hS hl hP
  exact lv_aload C.1 C.2.1 hd (fx_at hl hv) (kk hO p l e s m args below meth c C H locs ls hS hl hP)
theorem x_istore_n {k : Fin 4} {i : Nat} {x : Int} {lv' : List (Option fxV)} (hd : decode (mC y) pc = .ok (.istore_n k, 1)) (hi : (k : Nat) = i) (hn : i < mL y) (he : lv.set i (some (.inl x)) = lv') (kk : fx_At E y (pc + 1) lv' stk M Q) : fx_At E y pc lv (.inl x :: stk) M Q := by
  intro hO p l e s m args below meth c C H locs ls hS hl hP
  subst he
  exact lv_istore_n C.1 C.2.1 hd hi hl hn rfl (fun ls' hl' => kk hO p l e s m args below meth c C H locs ls' hS (fx_stored (v := .inl x) hl') hP)
theorem x_istore {i : Nat} {x : Int} {lv' : List (Option fxV)} (hd : decode (mC y) pc = .ok (.istore i, 2)) (hn : i < mL y) (he : lv.set i (some (.inl x)) = lv') (kk : fx_At E y (pc + 2) lv' stk M Q) : fx_At E y pc lv (.inl x :: stk) M Q := by
  intro hO p l e s m args below meth c C H locs ls hS hl hP
  subst he
  exact lv_istore C.1 C.2.1 hd hl hn rfl (fun ls' hl' => kk hO p l e s m args below meth c C H locs ls' hS (fx_stored (v := .inl x) hl') hP)
theorem x_astore_n {k : Fin 4} {i : Nat} {a : Nat} {lv' : List (Option fxV)} (hd : decode (mC y) pc = .ok (.astore_n k, 1)) (hi : (k : Nat) = i) (hn : i < mL y) (he : lv.set i (some (.inr a)) = lv') (kk : fx_At E y (pc + 1) lv' stk M Q) : fx_At E y pc lv (.inr a :: stk) M Q := by
  intro hO p l e s m args below meth c C H locs ls hS hl hP
  subst he
  exact lv_astore_n C.1 C.2.1 hd hi hl hn rfl (fun ls' hl' => kk hO p l e s m args below meth c C H locs ls' hS (fx_stored (v := .inr a) hl') hP)
theorem x_astore {i : Nat} {a : Nat} {lv' : List (Option fxV)} (hd : decode (mC y) pc = .ok (.astore i, 2)) (hn : i < mL y) (he : lv.set i (some (.inr a)) = lv') (kk : fx_At E y (pc + 2) lv' stk M Q) : fx_At E y pc lv (.inr a :: stk) M Q := by
  intro hO p l e s m args below meth c C H locs ls hS hl hP
  subst he
  exact lv_astore C.1 C.2.1 hd hl hn rfl (fun ls' hl' => kk hO p l e s m args below meth c C H locs ls' hS (fx_stored (v := .inr a) hl') hP)
theorem x_iinc {i : Nat} {n x : Int} {lv' : List (Option fxV)} (hd : decode (mC y) pc = .ok (.iinc i n, 3)) (hv : lv[i]? = some (some (.inl x))) (hn : i < mL y) (he : lv.set i (some (.inl (x + n))) = lv') (kk : fx_At E y (pc + 3) lv' stk M Q) : fx_At E y pc lv stk M Q := by
  intro hO p l e s m args below meth c C H locs ls hS hl hP
  subst he
  obtain ⟨k, hk⟩ := List.getElem?_of_mem (fx_prs_mem.mpr ⟨.inl x, hv, rfl⟩ : ((i, em (.inl x)) : Nat × Value) ∈ fx_prs lv)
  exact lv_iinc (v := i3 (x + n)) C.1 C.2.1 hd hl hk (i3_add x n).symm hn rfl (fun ls' hl' => kk hO p l e s m args below meth c C H locs ls' hS (fx_stored (v := .inl (x + n)) hl') hP)
theorem x_iconst {n : Int} (hd : decode (mC y) pc = .ok (.iconst n, 1)) (kk : fx_At E y (pc + 1) lv (.inl n :: stk) M Q) : fx_At E y pc lv stk M Q := by
  intro hO p l e s m args below meth c C H locs ls hS hl hP
  exact lv_iconst C.1 C.2.1 hd rfl (kk hO p l e s m args below meth c C H locs ls hS hl hP)
theorem x_bipush {n : Int} (hd : decode (mC y) pc = .ok (.bipush n, 2)) (hv : (Int8.ofInt n).toInt32 = i3 n) (kk : fx_At E y (pc + 2) lv (.inl n :: stk) M Q) : fx_At E y pc lv stk M Q := by
  intro hO p l e s m args below meth c C H locs ls hS hl hP
  exact lv_bipush C.1 C.2.1 hd hv (kk hO p l e s m args below meth c C H locs ls hS hl hP)
theorem x_sipush {n : Int} (hd : decode (mC y) pc = .ok (.sipush n, 3)) (hv : (Int16.ofInt n).toInt32 = i3 n) (kk : fx_At E y (pc + 3) lv (.inl n :: stk) M Q) : fx_At E y pc lv stk M Q := by
  intro hO p l e s m args below meth c C H locs ls hS hl hP
  exact lv_sipush C.1 C.2.1 hd hv (kk hO p l e s m args below meth c C H locs ls hS hl hP)
theorem fx_w {w : Cond} {args : Array Value} {s : State} (h : ∀ w ∈ mW y, w.before args s = true) (hw : w ∈ lw_good) : w.before args s = true := h w (List.mem_cons_of_mem _ hw)
theorem x_ldc {i : Nat} {n : Int} {v : Int32} (hd : decode (mC y) pc = .ok (.ldc i, 2)) (hq : Cond.constant (mN y).cls i v ∈ lw_good) (hv : v = i3 n) (kk : fx_At E y (pc + 2) lv (.inl n :: stk) M Q) : fx_At E y pc lv stk M Q := by
  intro hO p l e s m args below meth c C H locs ls hS hl hP
  obtain ⟨hx, hb, hml, hr, hlk, hown, hts, hK, hst, hns⟩ := id C
  subst hv
  exact lv_ldc hx hb hown (fx_w hts hq) hd (kk hO p l e s m args below meth c C H locs ls hS hl hP)
theorem x_iadd {a b : Int} (hd : decode (mC y) pc = .ok (.iadd, 1)) (kk : fx_At E y (pc + 1) lv (.inl (a + b) :: stk) M Q) : fx_At E y pc lv (.inl b :: .inl a :: stk) M Q := by
  intro hO p l e s m args below meth c C H locs ls hS hl hP
  have h := kk hO p l e s m args below meth c C H locs ls hS hl hP
  rw [List.map_cons, em, i3_add] at h
  exact lv_iadd C.1 C.2.1 hd h
theorem x_isub {a b : Int} (hd : decode (mC y) pc = .ok (.isub, 1)) (kk : fx_At E y (pc + 1) lv (.inl (a - b) :: stk) M Q) : fx_At E y pc lv (.inl b :: .inl a :: stk) M Q := by
  intro hO p l e s m args below meth c C H locs ls hS hl hP
  have h := kk hO p l e s m args below meth c C H locs ls hS hl hP
  rw [List.map_cons, em, i3_sub] at h
  exact lv_isub C.1 C.2.1 hd h
theorem x_imul {a b : Int} (hd : decode (mC y) pc = .ok (.imul, 1)) (kk : fx_At E y (pc + 1) lv (.inl (a * b) :: stk) M Q) : fx_At E y pc lv (.inl b :: .inl a :: stk) M Q := by
  intro hO p l e s m args below meth c C H locs ls hS hl hP
  have h := kk hO p l e s m args below meth c C H locs ls hS hl hP
  rw [List.map_cons, em, i3_mul] at h
  exact lv_imul C.1 C.2.1 hd h
theorem x_ineg {a : Int} (hd : decode (mC y) pc = .ok (.ineg, 1)) (kk : fx_At E y (pc + 1) lv (.inl (-a) :: stk) M Q) : fx_At E y pc lv (.inl a :: stk) M Q := by
  intro hO p l e s m args below meth c C H locs ls hS hl hP
  have h := kk hO p l e s m args below meth c C H locs ls hS hl hP
  rw [List.map_cons, em, i3_neg] at h
  exact lv_ineg C.1 C.2.1 hd h
theorem x_idiv {a b : Int} (hd : decode (mC y) pc = .ok (.idiv, 1)) (h0 : 0 ≤ a ∧ a < 2147483648 ∧ 0 < b ∧ b < 2147483648) (kk : fx_At E y (pc + 1) lv (.inl (a / b) :: stk) M Q) : fx_At E y pc lv (.inl b :: .inl a :: stk) M Q := by
  intro hO p l e s m args below meth c C H locs ls hS hl hP
  have h := kk hO p l e s m args below meth c C H locs ls hS hl hP
  obtain ⟨n, rfl⟩ := Int.eq_ofNat_of_zero_le h0.1
  obtain ⟨d, rfl⟩ := Int.eq_ofNat_of_zero_le (Int.le_of_lt h0.2.2.1)
  have e : i3 ((n : Int) / (d : Int)) = nI n / nI d := by
    rw [← Int.natCast_ediv, i3_nat, pk_div (by omega) (by omega) (by omega)]
  rw [List.map_cons, em, e] at h
  refine lv_idiv (x := nI n) (y := nI d) C.1 C.2.1 hd (nI_ne0 (by omega) (by omega)) h
theorem x_irem {a b : Int} (hd : decode (mC y) pc = .ok (.irem, 1)) (h0 : 0 ≤ a ∧ a < 2147483648 ∧ 0 < b ∧ b < 2147483648) (kk : fx_At E y (pc + 1) lv (.inl (a % b) :: stk) M Q) : fx_At E y pc lv (.inl b :: .inl a :: stk) M Q := by
  intro hO p l e s m args below meth c C H locs ls hS hl hP
  have h := kk hO p l e s m args below meth c C H locs ls hS hl hP
  obtain ⟨n, rfl⟩ := Int.eq_ofNat_of_zero_le h0.1
  obtain ⟨d, rfl⟩ := Int.eq_ofNat_of_zero_le (Int.le_of_lt h0.2.2.1)
  have e : i3 ((n : Int) % (d : Int)) = nI n - nI n / nI d * nI d := by
    rw [← Int.natCast_emod, i3_nat, pk_rem (by omega) (by omega) (by omega)]
  rw [List.map_cons, em, e] at h
  refine lv_irem (x := nI n) (y := nI d) C.1 C.2.1 hd (nI_ne0 (by omega) (by omega)) h
theorem x_dup {v : fxV} (hd : decode (mC y) pc = .ok (.dup, 1)) (kk : fx_At E y (pc + 1) lv (v :: v :: stk) M Q) : fx_At E y pc lv (v :: stk) M Q := by
  intro hO p l e s m args below meth c C H locs ls hS hl hP
  exact lv_dup C.1 C.2.1 hd (em_cat v) (kk hO p l e s m args below meth c C H locs ls hS hl hP)
theorem x_dup2 {v w : fxV} (hd : decode (mC y) pc = .ok (.dup2, 1)) (kk : fx_At E y (pc + 1) lv (v :: w :: v :: w :: stk) M Q) : fx_At E y pc lv (v :: w :: stk) M Q := by
  intro hO p l e s m args below meth c C H locs ls hS hl hP
  exact lv_dup2_11 C.1 C.2.1 hd (em_cat v) (em_cat w) (kk hO p l e s m args below meth c C H locs ls hS hl hP)
theorem x_goto {off : Int} (tgt : Nat) (hd : decode (mC y) pc = .ok (.goto off, 3)) (ht : (pc : Int) + off = (tgt : Int)) (kk : fx_At E y tgt lv stk M Q) : fx_At E y pc lv stk M Q := by
  intro hO p l e s m args below meth c C H locs ls hS hl hP
  exact lv_goto C.1 C.2.1 hd ht (kk hO p l e s m args below meth c C H locs ls hS hl hP)
theorem x_clt {a b off : Int} (tgt : Nat) (hd : decode (mC y) pc = .ok (.if_icmp .lt off, 3)) (ht : (pc : Int) + off = (tgt : Int)) (hr : inR a ∧ inR b) (kt : a < b → fx_At E y tgt lv stk M Q) (kf : ¬ a < b → fx_At E y (pc + 3) lv stk M Q) : fx_At E y pc lv (.inl b :: .inl a :: stk) M Q := by
  intro hO p l e s m args below meth c C H locs ls hS hl hP
  exact lv_icmp_lt C.1 C.2.1 hd ht (fun h => kt ((i3_lt hr.1 hr.2).mp h) hO p l e s m args below meth c C H locs ls hS hl hP) (fun h => kf (fun z => h ((i3_lt hr.1 hr.2).mpr z)) hO p l e s m args below meth c C H locs ls hS hl hP)
theorem x_cge {a b off : Int} (tgt : Nat) (hd : decode (mC y) pc = .ok (.if_icmp .ge off, 3)) (ht : (pc : Int) + off = (tgt : Int)) (hr : inR a ∧ inR b) (kt : b ≤ a → fx_At E y tgt lv stk M Q) (kf : ¬ b ≤ a → fx_At E y (pc + 3) lv stk M Q) : fx_At E y pc lv (.inl b :: .inl a :: stk) M Q := by
  intro hO p l e s m args below meth c C H locs ls hS hl hP
  exact lv_icmp_ge C.1 C.2.1 hd ht (fun h => kt ((i3_le hr.2 hr.1).mp h) hO p l e s m args below meth c C H locs ls hS hl hP) (fun h => kf (fun z => h ((i3_le hr.2 hr.1).mpr z)) hO p l e s m args below meth c C H locs ls hS hl hP)
theorem x_cgt {a b off : Int} (tgt : Nat) (hd : decode (mC y) pc = .ok (.if_icmp .gt off, 3)) (ht : (pc : Int) + off = (tgt : Int)) (hr : inR a ∧ inR b) (kt : b < a → fx_At E y tgt lv stk M Q) (kf : ¬ b < a → fx_At E y (pc + 3) lv stk M Q) : fx_At E y pc lv (.inl b :: .inl a :: stk) M Q := by
  intro hO p l e s m args below meth c C H locs ls hS hl hP
  exact lv_icmp_gt C.1 C.2.1 hd ht (fun h => kt ((i3_lt hr.2 hr.1).mp h) hO p l e s m args below meth c C H locs ls hS hl hP) (fun h => kf (fun z => h ((i3_lt hr.2 hr.1).mpr z)) hO p l e s m args below meth c C H locs ls hS hl hP)
theorem x_cle {a b off : Int} (tgt : Nat) (hd : decode (mC y) pc = .ok (.if_icmp .le off, 3)) (ht : (pc : Int) + off = (tgt : Int)) (hr : inR a ∧ inR b) (kt : a ≤ b → fx_At E y tgt lv stk M Q) (kf : ¬ a ≤ b → fx_At E y (pc + 3) lv stk M Q) : fx_At E y pc lv (.inl b :: .inl a :: stk) M Q := by
  intro hO p l e s m args below meth c C H locs ls hS hl hP
  exact lv_icmp_le C.1 C.2.1 hd ht (fun h => kt ((i3_le hr.1 hr.2).mp h) hO p l e s m args below meth c C H locs ls hS hl hP) (fun h => kf (fun z => h ((i3_le hr.1 hr.2).mpr z)) hO p l e s m args below meth c C H locs ls hS hl hP)
theorem x_ceq {a b off : Int} (tgt : Nat) (hd : decode (mC y) pc = .ok (.if_icmp .eq off, 3)) (ht : (pc : Int) + off = (tgt : Int)) (hr : inR a ∧ inR b) (kt : a = b → fx_At E y tgt lv stk M Q) (kf : ¬ a = b → fx_At E y (pc + 3) lv stk M Q) : fx_At E y pc lv (.inl b :: .inl a :: stk) M Q := by
  intro hO p l e s m args below meth c C H locs ls hS hl hP
  exact lv_icmp_eq C.1 C.2.1 hd ht (fun h => kt ((i3_eq hr.1 hr.2).mp h) hO p l e s m args below meth c C H locs ls hS hl hP) (fun h => kf (fun z => h ((i3_eq hr.1 hr.2).mpr z)) hO p l e s m args below meth c C H locs ls hS hl hP)
theorem x_cne {a b off : Int} (tgt : Nat) (hd : decode (mC y) pc = .ok (.if_icmp .ne off, 3)) (ht : (pc : Int) + off = (tgt : Int)) (hr : inR a ∧ inR b) (kt : ¬ a = b → fx_At E y tgt lv stk M Q) (kf : a = b → fx_At E y (pc + 3) lv stk M Q) : fx_At E y pc lv (.inl b :: .inl a :: stk) M Q := by
  intro hO p l e s m args below meth c C H locs ls hS hl hP
  exact lv_icmp_ne C.1 C.2.1 hd ht (fun h => kt (fun z => h ((i3_eq hr.1 hr.2).mpr z)) hO p l e s m args below meth c C H locs ls hS hl hP) (fun h => kf ((i3_eq hr.1 hr.2).mp h) hO p l e s m args below meth c C H locs ls hS hl hP)
theorem x_zlt {a off : Int} (tgt : Nat) (hd : decode (mC y) pc = .ok (.ifCond .lt off, 3)) (ht : (pc : Int) + off = (tgt : Int)) (hr : inR a) (kt : a < 0 → fx_At E y tgt lv stk M Q) (kf : ¬ a < 0 → fx_At E y (pc + 3) lv stk M Q) : fx_At E y pc lv (.inl a :: stk) M Q := by
  intro hO p l e s m args below meth c C H locs ls hS hl hP
  exact lv_if_lt C.1 C.2.1 hd ht (fun h => kt ((i3_lt hr inR_0).mp h) hO p l e s m args below meth c C H locs ls hS hl hP) (fun h => kf (fun z => h ((i3_lt hr inR_0).mpr z)) hO p l e s m args below meth c C H locs ls hS hl hP)
theorem x_zge {a off : Int} (tgt : Nat) (hd : decode (mC y) pc = .ok (.ifCond .ge off, 3)) (ht : (pc : Int) + off = (tgt : Int)) (hr : inR a) (kt : 0 ≤ a → fx_At E y tgt lv stk M Q) (kf : ¬ 0 ≤ a → fx_At E y (pc + 3) lv stk M Q) : fx_At E y pc lv (.inl a :: stk) M Q := by
  intro hO p l e s m args below meth c C H locs ls hS hl hP
  exact lv_if_ge C.1 C.2.1 hd ht (fun h => kt ((i3_le inR_0 hr).mp h) hO p l e s m args below meth c C H locs ls hS hl hP) (fun h => kf (fun z => h ((i3_le inR_0 hr).mpr z)) hO p l e s m args below meth c C H locs ls hS hl hP)
theorem x_zgt {a off : Int} (tgt : Nat) (hd : decode (mC y) pc = .ok (.ifCond .gt off, 3)) (ht : (pc : Int) + off = (tgt : Int)) (hr : inR a) (kt : 0 < a → fx_At E y tgt lv stk M Q) (kf : ¬ 0 < a → fx_At E y (pc + 3) lv stk M Q) : fx_At E y pc lv (.inl a :: stk) M Q := by
  intro hO p l e s m args below meth c C H locs ls hS hl hP
  exact lv_if_gt C.1 C.2.1 hd ht (fun h => kt ((i3_lt inR_0 hr).mp h) hO p l e s m args below meth c C H locs ls hS hl hP) (fun h => kf (fun z => h ((i3_lt inR_0 hr).mpr z)) hO p l e s m args below meth c C H locs ls hS hl hP)
theorem x_zle {a off : Int} (tgt : Nat) (hd : decode (mC y) pc = .ok (.ifCond .le off, 3)) (ht : (pc : Int) + off = (tgt : Int)) (hr : inR a) (kt : a ≤ 0 → fx_At E y tgt lv stk M Q) (kf : ¬ a ≤ 0 → fx_At E y (pc + 3) lv stk M Q) : fx_At E y pc lv (.inl a :: stk) M Q := by
  intro hO p l e s m args below meth c C H locs ls hS hl hP
  exact lv_if_le C.1 C.2.1 hd ht (fun h => kt ((i3_le hr inR_0).mp h) hO p l e s m args below meth c C H locs ls hS hl hP) (fun h => kf (fun z => h ((i3_le hr inR_0).mpr z)) hO p l e s m args below meth c C H locs ls hS hl hP)
theorem x_zeq {a off : Int} (tgt : Nat) (hd : decode (mC y) pc = .ok (.ifCond .eq off, 3)) (ht : (pc : Int) + off = (tgt : Int)) (hr : inR a) (kt : a = 0 → fx_At E y tgt lv stk M Q) (kf : ¬ a = 0 → fx_At E y (pc + 3) lv stk M Q) : fx_At E y pc lv (.inl a :: stk) M Q := by
  intro hO p l e s m args below meth c C H locs ls hS hl hP
  exact lv_if_eq C.1 C.2.1 hd ht (fun h => kt ((i3_eq hr inR_0).mp h) hO p l e s m args below meth c C H locs ls hS hl hP) (fun h => kf (fun z => h ((i3_eq hr inR_0).mpr z)) hO p l e s m args below meth c C H locs ls hS hl hP)
theorem x_zne {a off : Int} (tgt : Nat) (hd : decode (mC y) pc = .ok (.ifCond .ne off, 3)) (ht : (pc : Int) + off = (tgt : Int)) (hr : inR a) (kt : ¬ a = 0 → fx_At E y tgt lv stk M Q) (kf : a = 0 → fx_At E y (pc + 3) lv stk M Q) : fx_At E y pc lv (.inl a :: stk) M Q := by
  intro hO p l e s m args below meth c C H locs ls hS hl hP
  exact lv_if_ne C.1 C.2.1 hd ht (fun h => kt (fun z => h ((i3_eq hr inR_0).mpr z)) hO p l e s m args below meth c C H locs ls hS hl hP) (fun h => kf ((i3_eq hr inR_0).mp h) hO p l e s m args below meth c C H locs ls hS hl hP)
end
