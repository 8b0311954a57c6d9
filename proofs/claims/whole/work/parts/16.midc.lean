section
variable {E : fxE} {M : fxM}
theorem ct_X10_isTrace (hW : fx_Wt E) {s w : Int} (h1 : inR s) (h2 : inR w) : CtB E m_X10_isTrace [.inl s, .inl w] M (okTr s w) :=
  x_ct (by decide) (Nat.le_of_ble_eq_true rfl) (b_X10_isTrace_0 hW s w M _ ⟨h1, fun c1 => ⟨h2, fun c2 => ⟨rfl, Or.inl ⟨⟨c1, c2⟩, rfl⟩⟩, fun c2 => ⟨rfl, Or.inr ⟨fun z => c2 z.2, rfl⟩⟩⟩, fun c1 => ⟨rfl, Or.inr ⟨fun z => c1 z.1, rfl⟩⟩⟩)
theorem ct_X2_totalLength (hW : fx_Wt E) {f : Nat} (hk : kd E f = 2) (h : 0 ≤ M f 3 ∧ M f 3 ≤ 8) : CtF E m_X2_totalLength [.inr f] M (fsum E M f (M f 3).toNat) :=
  x_ct (by decide) (Nat.le_of_ble_eq_true rfl) (b_X2_totalLength_0 hW f M _ hk ⟨by omega, rfl, rfl⟩)
theorem ct_X10_whole (hW : fx_Wt E) {m : Nat} (hk : kd E m = 10) (h : 0 ≤ M (rf E m 0) 0 ∧ M (rf E m 0) 0 ≤ 8) : CtF E m_X10_whole [.inr m] M (wsum (M (rf E m 0)) (M (rf E m 0) 0).toNat) :=
  x_ct (by decide) (Nat.le_of_ble_eq_true rfl) (b_X10_whole_0 hW m M _ hk ⟨by omega, rfl, rfl⟩)
end
