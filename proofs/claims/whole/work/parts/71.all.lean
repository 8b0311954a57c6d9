/-! Each call on both sides. -/
section
variable {E : fxE} {b m k : Nat} (hW : fx_Wt E) (hb : kd E b = 9) (hm : kd E m = 10) (hk : k < 1000000)
theorem tw_begin (hW : fx_Wt E) (hb : kd E b = 9) (hm : kd E m = 10) {l a s : Int} (h1 : inR l) (h2 : inR a) (h3 : inR s) : Two E b m k m_X9_begin m_X10_begin [.inl l, .inl a, .inl s] :=
  two_op hW hb hm (fun w r o => opBegin w l a s r o) u_begin ok_begin (fun hC hw => cl_begin hW hb hC hw h1 h2 h3) (fun hn h8 hw => re_begin hW hm hn h8 hw h1 h2 h3)
theorem tw_add (hW : fx_Wt E) (hb : kd E b = 9) (hm : kd E m = 10) {l a s : Int} (h1 : inR l) (h2 : inR a) (h3 : inR s) : Two E b m k m_X9_addSection m_X10_addSection [.inl l, .inl a, .inl s] :=
  two_op hW hb hm (fun w r o => opAdd w l a s r o) u_add ok_add (fun hC hw => cl_add hW hb hC hw h1 h2 h3) (fun hn h8 hw => re_add hW hm hn h8 hw h1 h2 h3)
theorem tw_joint (hW : fx_Wt E) (hb : kd E b = 9) (hm : kd E m = 10) {l a s : Int} (h1 : inR l) (h2 : inR a) (h3 : inR s) : Two E b m k m_X9_setJoint m_X10_setJoint [.inl l, .inl a, .inl s] :=
  two_op hW hb hm (fun w r o => opJoint w l a s r o) u_joint ok_joint (fun hC hw => cl_joint hW hb hC hw h1 h2 h3) (fun hn h8 hw => re_joint hW hm hn h8 hw h1 h2 h3)
theorem tw_bendA (hW : fx_Wt E) (hb : kd E b = 9) (hm : kd E m = 10) {l a : Int} (h1 : inR l) (h2 : inR a) : Two E b m k m_X9_addBend m_X10_addBend [.inl l, .inl a] :=
  two_op hW hb hm (fun w r o => opBendA w l a r o) u_bendA ok_bendA (fun hC hw => cl_bendA hW hb hC hw h1 h2) (fun hn h8 hw => re_bendA hW hm hn h8 hw h1 h2)
theorem tw_bendR (hW : fx_Wt E) (hb : kd E b = 9) (hm : kd E m = 10) {l : Int} (h1 : inR l) : Two E b m k m_X9_removeBend m_X10_removeBend [.inl l] :=
  two_op hW hb hm (fun w r o => opBendR w l r o) u_bendR ok_bendR (fun hC hw => cl_bendR hW hb hC hw h1) (fun hn h8 hw => re_bendR hW hm hn h8 hw h1)
theorem tw_break (hW : fx_Wt E) (hb : kd E b = 9) (hm : kd E m = 10) {l a : Int} (h1 : inR l) (h2 : inR a) : Two E b m k m_X9_setBreak m_X10_setBreak [.inl l, .inl a] :=
  two_op hW hb hm (fun w r o => opBreak w l a r o) u_break ok_break (fun hC hw => cl_break hW hb hC hw h1 h2) (fun hn h8 hw => re_break hW hm hn h8 hw h1 h2)
theorem tw_set (hW : fx_Wt E) (hb : kd E b = 9) (hm : kd E m = 10) {l a : Int} (h1 : inR l) (h2 : inR a) : Two E b m k m_X9_set m_X10_set [.inl l, .inl a] :=
  two_op hW hb hm (fun w r o => opSet w l a r o) u_set ok_set (fun hC hw => cl_set hW hb hC hw h1 h2) (fun hn h8 hw => re_set hW hm hn h8 h1 h2)
theorem tw_point (hW : fx_Wt E) (hb : kd E b = 9) (hm : kd E m = 10) {l a : Int} (h1 : inR l) (h2 : inR a) : Two E b m k m_X9_addPoint m_X10_addPoint [.inl l, .inl a] :=
  two_op hW hb hm (fun w r o => opPoint w l a r o) u_point ok_point (fun hC hw => cl_point hW hb hC hw h1 h2) (fun hn h8 hw => re_point hW hm hn h8 hw h1 h2)
theorem tw_clear (hW : fx_Wt E) (hb : kd E b = 9) (hm : kd E m = 10) : Two E b m k m_X9_clearMap m_X10_clearMap [] :=
  two_op hW hb hm (fun w r o => opClear w r o) (fun h h' => ⟨h.1.trans h'.1.symm, h.2.trans h'.2.symm⟩) ok_clear (fun hC hw => cl_clear hW hb hC hw) (fun hn h8 hw => re_clear hW hm hn h8)
theorem tw_exc (hW : fx_Wt E) (hb : kd E b = 9) (hm : kd E m = 10) {l : Int} (h1 : inR l) : Two E b m k m_X9_setExcess m_X10_setExcess [.inl l] :=
  two_op hW hb hm (fun w r o => opExc w l r o) u_exc ok_exc (fun hC hw => cl_exc hW hb hC hw h1) (fun hn h8 hw => re_exc hW hm hn h8 h1)
/-- questions that change nothing -/
theorem two_b (hW : fx_Wt E) (hb : kd E b = 9) (hm : kd E m = 10) (hk : k < 1000000) {y1 y2 : fxY} {as : List fxV} (f : (Nat → Int) → Int) (cl : ∀ {M : fxM} {n v : Nat} {w : Nat → Int} {H : Nat → Nat → Int}, CI E M b w H n v → wOk w → CtI E y1 (.inr b :: as) M (fun r M' => r = f w ∧ M' = M)) (re : ∀ {M : fxM}, wOk (M (rf E m 0)) → CtI E y2 (.inr m :: as) M (fun r M' => r = f (M (rf E m 0)) ∧ M' = M)) : Two E b m k y1 y2 as :=
  two_q hW hb hm hk f (fun hC hw hV hT hE _ => ctI_post (cl hC hw) (fun r M' h => ⟨h.1, by rw [h.2]; exact CQ.rf' hV hT hE⟩)) (fun hwe hw hRC => ctI_post (re (by rw [hwe]; exact hw)) (fun r M' h => ⟨by rw [h.1, hwe], by rw [h.2]; exact ⟨RQ.rf', hRC⟩⟩))
theorem tw_sec (hW : fx_Wt E) (hb : kd E b = 9) (hm : kd E m = 10) (hk : k < 1000000) {l a : Int} (h1 : inR l) (h2 : inR a) : Two E b m k m_X9_section m_X10_section [.inl l, .inl a] :=
  two_b hW hb hm hk (fun w => fSec w l a) (fun hC hw => cl_sec hW hb hC hw h1 h2) (fun hw => re_sec hW hm hw h1 h2)
theorem tw_jnt (hW : fx_Wt E) (hb : kd E b = 9) (hm : kd E m = 10) (hk : k < 1000000) {l a : Int} (h1 : inR l) (h2 : inR a) : Two E b m k m_X9_joint m_X10_joint [.inl l, .inl a] :=
  two_b hW hb hm hk (fun w => fJnt w l a) (fun hC hw => cl_jnt hW hb hC hw h1 h2) (fun hw => re_jnt hW hm hw h1 h2)
theorem tw_bnd (hW : fx_Wt E) (hb : kd E b = 9) (hm : kd E m = 10) (hk : k < 1000000) {l a : Int} (h1 : inR l) (h2 : inR a) : Two E b m k m_X9_bend m_X10_bend [.inl l, .inl a] :=
  two_b hW hb hm hk (fun w => fBnd w l a) (fun hC hw => cl_bnd hW hb hC hw h1 h2) (fun hw => re_bnd hW hm hw h1 h2)
theorem tw_pnt (hW : fx_Wt E) (hb : kd E b = 9) (hm : kd E m = 10) (hk : k < 1000000) {l a : Int} (h1 : inR l) (h2 : inR a) : Two E b m k m_X9_point m_X10_point [.inl l, .inl a] :=
  two_b hW hb hm hk (fun w => fPnt w l a) (fun hC hw => cl_pnt hW hb hC hw h1 h2) (fun hw => re_pnt hW hm hw h1 h2)
theorem tw_route (hW : fx_Wt E) (hb : kd E b = 9) (hm : kd E m = 10) (hk : k < 1000000) {l : Int} (h1 : inR l) : Two E b m k m_X9_toRoute m_X10_toRoute [.inl l] :=
  two_b hW hb hm hk (fun w => if 0 ≤ l then rtG w l (wn w) else -1000002) (fun hC hw => cl_route hW hb hC hw h1) (fun hw => re_route hW hm hw h1)
theorem tw_before (hW : fx_Wt E) (hb : kd E b = 9) (hm : kd E m = 10) (hk : k < 1000000) {l : Int} (h1 : inR l) : Two E b m k m_X9_pointBefore m_X10_pointBefore [.inl l] :=
  two_b hW hb hm hk (fun w => if 0 ≤ l then pbG w l (wn w) else -1000002) (fun hC hw => cl_before hW hb hC hw h1) (fun hw => re_before hW hm hw h1)
theorem tw_lossTo (hW : fx_Wt E) (hb : kd E b = 9) (hm : kd E m = 10) (hk : k < 1000000) {l a : Int} (h1 : inR l) (h2 : inR a) : Two E b m k m_X9_lossTo m_X10_lossTo [.inl l, .inl a] :=
  two_q hW hb hm hk (fun w => fLss w l a) (fun hC hw hV hT hE hv => ctI_post (cl_lossTo hW hb hC hw hV hv h1 h2) (fun r M' h => ⟨h.1, h.2.1.mono (by decide), h.2.2, hT.kf hW hb h.2.1 (by decide), hE.kf hW hb h.2.1 (by decide)⟩)) (fun {M w} hwe hw hRC => ctI_post (re_lossTo hW hm (by rw [hwe]; exact hw) h1 h2) (fun r M' h => by
    have em : M' m = M m := h.2 m (mnr hW hm rfl) (mnr hW hm rfl)
    have g : ∀ j, (lay 10)[j]? = some true → j ≠ 9 → j ≠ 10 → M' (rf E m j) = M (rf E m j) := fun j hj a b => h.2 _ (mne hW hm hj rfl a) (mne hW hm hj rfl b)
    refine ⟨by rw [h.1, hwe], ⟨fun c hc => h.2 c (on_m (k := 9) hW hm rfl hc).2 (on_m (k := 10) hW hm rfl hc).2, ⟨g 0 rfl (by decide) (by decide), g 1 rfl (by decide) (by decide), g 5 rfl (by decide) (by decide)⟩, by rw [em], by rw [em], by rw [em], by rw [em]⟩, ?_⟩
    unfold RC at hRC ⊢
    rw [em, g 0 rfl (by decide) (by decide), g 13 rfl (by decide) (by decide)]
    exact hRC))
theorem tw_sample (hW : fx_Wt E) (hb : kd E b = 9) (hm : kd E m = 10) (hk : k < 1000000) {l a d : Int} (h1 : inR l) (h2 : inR a) (h3 : inR d) : Two E b m k m_X9_sample m_X10_sample [.inl l, .inl a, .inl d] :=
  two_q hW hb hm hk (fun w => fSmp w l a d) (fun hC hw hV hT hE hv => ctI_post (cl_sample hW hb hC hw hV hT hv h1 h2 h3) (fun r M' h => ⟨h.1, h.2.cq hW hb hE⟩)) (fun hwe hw hRC => re_sample hW hm hwe hw hRC h1 h2 h3)
theorem tw_visible (hW : fx_Wt E) (hb : kd E b = 9) (hm : kd E m = 10) (hk : k < 1000000) {l a : Int} (h1 : inR l) (h2 : inR a) : Two E b m k m_X9_visible m_X10_visible [.inl l, .inl a] :=
  two_q hW hb hm hk (fun w => fVis w l a) (fun hC hw hV hT hE hv => ctI_post (cl_visible hW hb hC hw hV hT hv h1 h2) (fun r M' h => ⟨h.1, h.2.cq hW hb hE⟩)) (fun hwe hw hRC => re_visible hW hm hwe hw hRC h1 h2)
theorem tw_stitched (hW : fx_Wt E) (hb : kd E b = 9) (hm : kd E m = 10) (hk : k < 1000000) {l a : Int} (h1 : inR l) (h2 : inR a) : Two E b m k m_X9_stitched m_X10_stitched [.inl l, .inl a] :=
  two_q hW hb hm hk (fun w => fSti w l a) (fun hC hw hV hT hE hv => ctI_post (cl_stitched hW hb hC hw hV hT hv h1 h2) (fun r M' h => ⟨h.1, h.2.cq hW hb hE⟩)) (fun hwe hw hRC => re_stitched hW hm hwe hw hRC h1 h2)
theorem tw_stitchedCount (hW : fx_Wt E) (hb : kd E b = 9) (hm : kd E m = 10) (hk : k < 1000000) {l : Int} (h1 : inR l) : Two E b m k m_X9_stitchedCount m_X10_stitchedCount [.inl l] :=
  two_q hW hb hm hk (fun w => fStc w l) (fun hC hw hV hT hE hv => ctI_post (cl_stitchedCount hW hb hC hw hV hT hv h1) (fun r M' h => ⟨h.1, h.2.cq hW hb hE⟩)) (fun hwe hw hRC => re_stitchedCount hW hm hwe hw hRC h1)
theorem tw_events (hW : fx_Wt E) (hb : kd E b = 9) (hm : kd E m = 10) (hk : k < 1000000) {l a : Int} (h1 : inR l) (h2 : inR a) : Two E b m k m_X9_events m_X10_events [.inl l, .inl a] :=
  two_q hW hb hm hk (fun w => fEvs w l a) (fun hC hw hV hT hE hv => ctI_post (cl_events hW hb hC hw hV hT hE hv h1 h2) (fun r M' h => ⟨h.1, h.2.cq⟩)) (fun hwe hw hRC => re_events hW hm hwe hw hRC h1 h2)
theorem tw_event (hW : fx_Wt E) (hb : kd E b = 9) (hm : kd E m = 10) (hk : k < 1000000) {l a d j : Int} (h1 : inR l) (h2 : inR a) (h3 : inR d) (h4 : inR j) : Two E b m k m_X9_event m_X10_event [.inl l, .inl a, .inl d, .inl j] :=
  two_q hW hb hm hk (fun w => fEvt w l a d j) (fun hC hw hV hT hE hv => ctI_post (cl_event hW hb hC hw hV hT hE hv h1 h2 h3 h4) (fun r M' h => ⟨h.1, h.2.cq⟩)) (fun hwe hw hRC => re_event hW hm hwe hw hRC h1 h2 h3 h4)
theorem tw_ghosts (hW : fx_Wt E) (hb : kd E b = 9) (hm : kd E m = 10) (hk : k < 1000000) {l a : Int} (h1 : inR l) (h2 : inR a) : Two E b m k m_X9_ghosts m_X10_ghosts [.inl l, .inl a] :=
  two_q hW hb hm hk (fun w => fGhs w l a) (fun hC hw hV hT hE hv => ctI_post (cl_ghosts hW hb hC hw hV hT hE hv h1 h2) (fun r M' h => ⟨h.1, h.2.cq⟩)) (fun hwe hw hRC => re_ghosts hW hm hwe hw hRC h1 h2)
theorem tw_endSeen (hW : fx_Wt E) (hb : kd E b = 9) (hm : kd E m = 10) (hk : k < 1000000) {l a : Int} (h1 : inR l) (h2 : inR a) : Two E b m k m_X9_endSeen m_X10_endSeen [.inl l, .inl a] :=
  two_q hW hb hm hk (fun w => fSee w l a) (fun hC hw hV hT hE hv => ctI_post (cl_endSeen hW hb hC hw hV hT hE hv h1 h2) (fun r M' h => ⟨h.1, h.2.cq⟩)) (fun hwe hw hRC => re_endSeen hW hm hwe hw hRC h1 h2)
theorem tw_joinedCount (hW : fx_Wt E) (hb : kd E b = 9) (hm : kd E m = 10) (hk : k < 1000000) {l : Int} (h1 : inR l) : Two E b m k m_X9_joinedCount m_X10_joinedCount [.inl l] :=
  two_q hW hb hm hk (fun w => fJc w l) (fun hC hw hV hT hE hv => cl_joinedCount hW hb hC hw hV hT hE hv h1) (fun hwe hw hRC => re_joinedCount hW hm hwe hw hRC h1)
theorem tw_joined (hW : fx_Wt E) (hb : kd E b = 9) (hm : kd E m = 10) (hk : k < 1000000) {l a d : Int} (h1 : inR l) (h2 : inR a) (h3 : inR d) : Two E b m k m_X9_joined m_X10_joined [.inl l, .inl a, .inl d] :=
  two_q hW hb hm hk (fun w => fJd w l a d) (fun hC hw hV hT hE hv => cl_joined hW hb hC hw hV hT hE hv h1 h2 h3) (fun hwe hw hRC => re_joined hW hm hwe hw hRC h1 h2 h3)
theorem tw_placed (hW : fx_Wt E) (hb : kd E b = 9) (hm : kd E m = 10) (hk : k < 1000000) {l a : Int} (h1 : inR l) (h2 : inR a) : Two E b m k m_X9_placed m_X10_placed [.inl l, .inl a] :=
  two_q hW hb hm hk (fun w => fPlc w l a) (fun hC hw hV hT hE hv => cl_placed hW hb hC hw hV hT hE hv h1 h2) (fun hwe hw hRC => re_placed hW hm hwe hw hRC h1 h2)
theorem tw_told (hW : fx_Wt E) (hb : kd E b = 9) (hm : kd E m = 10) {l : Int} (h1 : inR l) : Two E b m k m_X9_told m_X10_told [.inl l] := by
  intro M hI
  obtain ⟨w, Hh, n, v, x, c, hC, hR, hP, hF⟩ := hI
  refine ⟨_, cl_told hW hb hC.1 hP.1 h1, fun r1 M1 g1 => ?_⟩
  obtain ⟨e1, rfl⟩ := g1
  refine ⟨_, re_told hW hm (by rw [hR.1]; exact hP.1) h1, fun r2 M2 g2 => ?_⟩
  obtain ⟨e2, rfl⟩ := g2
  refine ⟨?_, w, Hh, n, v, x, c, hC, hR, ⟨hP.1, hP.2.1, hP.2.2.1, by have := hP.2.2.2; omega⟩, hF⟩
  rw [e1, e2, hR.1, hC.2.2.2.2.1, hR.2.2.2.2.2.1]
theorem tw_fault (hW : fx_Wt E) (hb : kd E b = 9) (hm : kd E m = 10) {l : Int} (h1 : inR l) : Two E b m k m_X9_fault m_X10_fault [.inl l] := by
  intro M hI
  obtain ⟨w, Hh, n, v, x, c, hC, hR, hP, hF⟩ := hI
  refine ⟨_, cl_fault hW hb h1 hF, fun r1 M1 g1 => ?_⟩
  obtain ⟨e1, rfl⟩ := g1
  refine ⟨_, re_fault hW hm h1, fun r2 M2 g2 => ?_⟩
  obtain ⟨e2, rfl⟩ := g2
  exact ⟨e1.trans e2.symm, w, Hh, n, v, x, c, hC, hR, ⟨hP.1, hP.2.1, hP.2.2.1, by have := hP.2.2.2; omega⟩, hF⟩
/-- a change of the text -/
theorem INV.text {M M1 M2 : fxM} (hW : fx_Wt E) (hb : kd E b = 9) (hm : kd E m = 10) {w : Nat → Int} {Hh : Nat → Nat → Int} {n v x x' : Nat} {c c' : Nat → Int} (hC : ClS E M b w Hh n v x c) (hR : ReS E M m w Hh n x c) (hP : Pu w Hh n v x c k) (hF : Fl (M (rf E b 3) 2) (M (rf E b 3) 3) (M m 7) (M m 8)) (hT : TX E M1 (rf E b 3) x' c') (hFo : Fo E M M1 (rf E b 3)) (hk1 : ∀ j, j ≠ 1 → M1 (rf E b 3) j = M (rf E b 3) j) (hc' : ∀ i, i < x' → 32 ≤ c' i ∧ c' i ≤ 126) (g1 : ∀ a, a ≠ m → a ≠ rf E m 5 → M2 a = M1 a) (g2 : ∀ j, j ≠ 6 → M2 m j = M1 m j) (gx : RX E M2 m x' c') : INV E M2 b m (k + 1) := by
  have ht := wk_9_3 hW hb
  have hK : KF E M M1 [6] := (hFo.fr (by omega) (reg_top ht rfl)).kf ht (by decide)
  obtain ⟨hR1, em⟩ := hR.kf hW hm hK (by decide)
  have hC1 : ClS E M1 b w Hh n v x' c' := ⟨hC.1.kf hW hb hK (by decide), hC.2.1.kf hW hb hK (by decide), hC.2.2.1.kf hW hb hK (by decide), hC.2.2.2.1.kf hW hb hK (by decide), hT⟩
  have hK2 : KF E M1 M2 [10] := ro_kf hW hm (fun c hc => g1 c (on_m (k := 5) hW hm rfl hc).1 (on_m (k := 5) hW hm rfl hc).2)
  have et2 : M2 (rf E b 3) = M1 (rf E b 3) := hK2.tt hW hb (by decide)
  have g : ∀ j, (lay 10)[j]? = some true → j ≠ 5 → M2 (rf E m j) = M1 (rf E m j) := fun j hj a => g1 _ (mnr hW hm hj).symm (mne hW hm hj rfl a)
  refine ⟨w, Hh, n, v, x', c', hC1.kf hW hb hK2, ⟨by rw [g 0 rfl (by decide)]; exact hR1.1, by rw [g2 2 (by decide)]; exact hR1.2.1, hR1.2.2.1, by rw [g 1 rfl (by decide)]; exact hR1.2.2.2.1, ?_, gx⟩, ⟨hP.1, hP.2.1, hc', by have := hP.2.2.2; omega⟩, ?_⟩
  · have := hR1.2.2.2.2.1
    unfold RC at this ⊢
    rw [g2 3 (by decide), g2 4 (by decide), g 0 rfl (by decide), g 13 rfl (by decide)]
    exact this
  · rw [et2, hk1 2 (by decide), hk1 3 (by decide), g2 7 (by decide), g2 8 (by decide), em]
    exact hF
theorem INV.up {M : fxM} (h : INV E M b m k) : INV E M b m (k + 1) := by
  obtain ⟨w, Hh, n, v, x, c, hC, hR, hP, hF⟩ := h
  exact ⟨w, Hh, n, v, x, c, hC, hR, ⟨hP.1, hP.2.1, hP.2.2.1, by have := hP.2.2.2; omega⟩, hF⟩
theorem tw_write (hW : fx_Wt E) (hb : kd E b = 9) (hm : kd E m = 10) {l : Int} (h1 : inR l) : Two E b m k m_X9_write m_X10_write [.inl l] := by
  intro M hI
  have hI0 := hI
  obtain ⟨w, Hh, n, v, x, c, hC, hR, hP, hF⟩ := hI
  refine ⟨_, cl_write hW hb hC.2.2.2.2 h1, fun r1 M1 g1 => ?_⟩
  rcases g1 with ⟨a1, a2, a3, a4, a5, a6⟩ | ⟨a1, a2, a3, rfl⟩ | ⟨a1, a2, rfl⟩
  · have ht := wk_9_3 hW hb
    have hK : KF E M M1 [6] := (a5.fr (by omega) (reg_top ht rfl)).kf ht (by decide)
    obtain ⟨hR1, em⟩ := hR.kf hW hm hK (by decide)
    refine ⟨_, re_write hW hm hR1.2.2.2.2.2.1 hR1.2.2.2.2.2.2.1 h1, fun r2 M2 g2 => ?_⟩
    rcases g2 with ⟨-, -, b3, b4⟩ | ⟨-, b2, -⟩ | ⟨b1, -⟩
    · refine ⟨a3.trans b3.symm, INV.text hW hb hm hC hR hP hF a4 a5 a6 (fun i hi => ?_) (fun a e1 e2 => ?_) (fun j hj => ?_) ⟨?_, by omega, ?_⟩⟩
      · by_cases hin : i = x
        · subst hin; rw [wu_s]; exact a1
        · rw [wu_n hin]; exact hP.2.2.1 i (by omega)
      · rw [b4, mset_o e1, mset_o e2]
      · rw [b4, mset_n hj, mset_o (mnr hW hm rfl)]
      · rw [b4, mset_s]; omega
      · rw [b4, mset_o (mnr hW hm rfl).symm, mset_a, hR1.2.2.2.2.2.2.2]
        rfl
    · exact absurd a2 b2
    · exact absurd a1 b1
  · refine ⟨_, re_write hW hm hR.2.2.2.2.2.1 hR.2.2.2.2.2.2.1 h1, fun r2 M2 g2 => ?_⟩
    rcases g2 with ⟨-, b2, -⟩ | ⟨-, -, b3, rfl⟩ | ⟨b1, -⟩
    · exact absurd b2 a2
    · exact ⟨a3.trans b3.symm, hI0.up⟩
    · exact absurd a1 b1
  · refine ⟨_, re_write hW hm hR.2.2.2.2.2.1 hR.2.2.2.2.2.2.1 h1, fun r2 M2 g2 => ?_⟩
    rcases g2 with ⟨b1, -⟩ | ⟨b1, -⟩ | ⟨-, b3, rfl⟩
    · exact absurd b1 a1
    · exact absurd b1 a1
    · exact ⟨a2.trans b3.symm, hI0.up⟩
theorem tw_wipe (hW : fx_Wt E) (hb : kd E b = 9) (hm : kd E m = 10) : Two E b m k m_X9_wipe m_X10_wipe [] := by
  intro M hI
  obtain ⟨w, Hh, n, v, x, c, hC, hR, hP, hF⟩ := hI
  refine ⟨_, cl_wipe hW hb hC.2.2.2.2, fun r1 M1 g1 => ?_⟩
  obtain ⟨a3, a4, a5, a6⟩ := g1
  have ht := wk_9_3 hW hb
  have hK : KF E M M1 [6] := (a5.fr (by omega) (reg_top ht rfl)).kf ht (by decide)
  obtain ⟨hR1, em⟩ := hR.kf hW hm hK (by decide)
  refine ⟨_, re_wipe hW hm hR1.2.2.2.2.2.1, fun r2 M2 g2 => ?_⟩
  obtain ⟨b3, b4⟩ := g2
  refine ⟨a3.trans b3.symm, INV.text hW hb hm hC hR hP hF a4 a5 a6 (fun i hi => absurd hi (by omega)) (fun a e1 e2 => by rw [b4, mset_o e1]) (fun j hj => by rw [b4, mset_n hj]) ⟨by rw [b4, mset_s]; rfl, by omega, ?_⟩⟩
  rw [b4, mset_o (mnr hW hm rfl).symm, hR1.2.2.2.2.2.2.2]
theorem tw_undo (hW : fx_Wt E) (hb : kd E b = 9) (hm : kd E m = 10) : Two E b m k m_X9_undo m_X10_undo [] := by
  intro M hI
  have hI0 := hI
  obtain ⟨w, Hh, n, v, x, c, hC, hR, hP, hF⟩ := hI
  refine ⟨_, cl_undo hW hb hC.1 (fun i hi => (hP.2.1 i hi).wB), fun r1 M1 g1 => ?_⟩
  rcases g1 with ⟨a1, a2, rfl⟩ | ⟨j, rfl, a2, a3, a4⟩
  · refine ⟨_, re_undo hW hm hR.2.1 hR.2.2.1, fun r2 M2 g2 => ?_⟩
    rcases g2 with ⟨-, b2, rfl⟩ | ⟨j, b1, -⟩
    · exact ⟨a2.trans b2.symm, hI0.up⟩
    · omega
  · obtain ⟨hR1, em⟩ := hR.kf hW hm a4 (by decide)
    refine ⟨_, re_undo hW hm hR1.2.1 hR1.2.2.1, fun r2 M2 g2 => ?_⟩
    rcases g2 with ⟨b1, -⟩ | ⟨j', b1, b2, b3, b4, b5, b6, b7⟩
    · omega
    · obtain rfl : j = j' := by omega
      have hwj := hP.2.1 j (by omega)
      have ej : ∀ i, i < 84 → (fun i => if i < 84 then M1 (rf E m 1) (84 * j + i) else M1 (rf E m 0) i) i = Hh j i := fun i hi => by
        show (if i < 84 then _ else _) = _
        rw [if_pos hi]
        exact hR1.2.2.2.1 j (by omega) i hi
      have et : M1 (rf E b 3) = M (rf E b 3) := a4.tt hW hb (by decide)
      refine ⟨a2.trans b2.symm, INV.chg hW hb hm hC hP (hC.2.2.2.2.kf hW hb a4 (by decide)) (hwj.congr ej) (fun i hi => hP.2.1 i (by omega)) (a3.congr hwj ej) a4 (by decide) b3 (fun i hi z hz => ?_) b4 (by have := hR.2.2.1; omega) b5 (by rw [b6 4 (by decide) (by decide)]; exact hR1.2.2.2.2.1.2.1) ?_ (fun c hc => b7 c (on_m (k := 0) hW hm rfl hc).1 (on_m (k := 0) hW hm rfl hc).2) ?_⟩
      · rw [b7 _ (mnr hW hm rfl).symm (mne hW hm rfl rfl (by decide))]
        exact hR1.2.2.2.1 i (by omega) z hz
      · unfold RX
        rw [b6 6 (by decide) (by decide), b7 _ (mnr (k := 5) hW hm rfl).symm (mne hW hm rfl rfl (by decide))]
        exact hR1.2.2.2.2.2
      · rw [b6 7 (by decide) (by decide), b6 8 (by decide) (by decide), et, em]
        exact hF
theorem tw_load (hW : fx_Wt E) (hb : kd E b = 9) (hm : kd E m = 10) : Two E b m k m_X9_load m_X10_load [] := by
  intro M hI
  obtain ⟨w, Hh, n, v, x, c, hC, hR, hP, hF⟩ := hI
  refine ⟨_, cl_load hW hb hC.1 hP.1 hC.2.2.2.2 hP.2.2.1, fun r1 M1 g1 => ?_⟩
  obtain ⟨o, f, a1, a2, a3, a4, a5, a6, a7⟩ := g1
  obtain ⟨hR1, em⟩ := hR.kf hW hm a4 (by decide)
  refine ⟨_, re_load hW hm hR1.2.1 hR1.2.2.1 hR1.2.2.2.2.2 hP.2.2.1, fun r2 M2 g2 => ?_⟩
  obtain ⟨o', f', b1, b2, b3, b4, b5, b6, b7⟩ := g2
  rw [hR1.1] at b1
  have uq : r1 = r2 ∧ o = o' ∧ f = f' := by
    rcases a1 with ⟨g, p1, p2, p3, p4⟩ | ⟨g, p1, p2, p3, p4⟩ <;> rcases b1 with ⟨g', q1, q2, q3, q4⟩ | ⟨g', q1, q2, q3, q4⟩
    · rw [p1] at q1
      cases q1
      exact ⟨p2.trans q2.symm, p3.trans q3.symm, p4.trans q4.symm⟩
    · rw [p1] at q1; cases q1
    · rw [p1] at q1; cases q1
    · rw [p1] at q1
      cases q1
      exact ⟨p2.trans q2.symm, p3.trans q3.symm, p4.trans q4.symm⟩
  obtain ⟨e1, rfl, rfl⟩ := uq
  refine ⟨e1, ?_⟩
  have g : ∀ j, (lay 10)[j]? = some true → j ≠ 0 → j ≠ 1 → j ≠ 23 → M2 (rf E m j) = M1 (rf E m j) := fun j hj z0 z1 z2 => b7 _ (mnr hW hm hj).symm (mne hW hm hj rfl z0) (mne hW hm hj rfl z1) (mne hW hm hj rfl z2)
  have gc : ∀ c, own E c ≠ m → M2 c = M1 c := fun c hc => b7 c (on_m (k := 0) hW hm rfl hc).1 (on_m (k := 0) hW hm rfl hc).2 (on_m (k := 1) hW hm rfl hc).2 (on_m (k := 23) hW hm rfl hc).2
  have gx : RX E M2 m x c := by
    unfold RX
    rw [b6 6 (by decide) (by decide) (by decide) (by decide) (by decide) (by decide) (by decide) (by decide), g 5 rfl (by decide) (by decide) (by decide)]
    exact hR1.2.2.2.2.2
  have g4 : M2 m 4 = M1 m 4 := b6 4 (by decide) (by decide) (by decide) (by decide) (by decide) (by decide) (by decide) (by decide)
  rcases id a1 with ⟨gg, p1, p2, p3, p4⟩ | ⟨its, p1, p2, p3, p4⟩
  · obtain ⟨d1, d2, d3, d4⟩ := b2 p3
    obtain ⟨f1, f2⟩ := b5 gg p4
    obtain ⟨f3, f4⟩ := a7 gg p4
    have fb := ldF_f _ _ _ _ p1
    have hK2 := ro_kf hW hm gc
    have hC1 : ClS E M1 b w Hh n v x c := ⟨a2 p3, hC.2.1.kf hW hb a4 (by decide), hC.2.2.1.kf hW hb a4 (by decide), hC.2.2.2.1.kf hW hb a4 (by decide), a5⟩
    have et2 : M2 (rf E b 3) = M1 (rf E b 3) := hK2.tt hW hb (by decide)
    refine ⟨w, Hh, n, v, x, c, hC1.kf hW hb hK2, ⟨by rw [d1]; exact hR1.1, by rw [d3]; exact hR1.2.1, hR1.2.2.1, by rw [d2]; exact hR1.2.2.2.1, ?_, gx⟩, ⟨hP.1, hP.2.1, hP.2.2.1, by have := hP.2.2.2; omega⟩, ?_⟩
    · have := hR1.2.2.2.2.1
      unfold RC at this ⊢
      rw [d4, g4, d1, g 13 rfl (by decide) (by decide) (by decide)]
      exact this
    · rw [et2, f1, f2, f3, f4]
      exact Or.inr ⟨fb, rfl, rfl⟩
  · obtain ⟨d1, d2, d3, d4⟩ := b3 _ p3
    obtain ⟨f1, f2⟩ := b4 p4
    obtain ⟨f3, f4⟩ := a6 p4
    have hok : wOk (wapps (wz w) its) := ok_load hP.1 (p3 ▸ a1)
    refine INV.chg hW hb hm hC hP a5 hok (push_ok hR.2.2.1 hP.1 hP.2.1) (a3 _ p3) a4 (by decide) d1 ?_ d3 hlen_b d4 (by rw [g4]; exact hR1.2.2.2.2.1.2.1) gx gc ?_
    · rw [d2, hR1.1]
      exact push_rel hR.2.2.1 hR1.2.2.2.1
    · rw [f1, f2, f3, f4, em]
      exact hF
end
