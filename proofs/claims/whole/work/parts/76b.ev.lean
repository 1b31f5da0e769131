theorem v_In_bitCount {u : g_St} (x0 : Int32) (s0 : g_St) {o : Int32 × g_St} (hs0 : z_V true [] [] none u s0) (h : f_In_bitCount x0 s0 = some o) : z_V true [] [] none u o.2 := by
  unfold f_In_bitCount at h
  exact er_some h hs0
theorem v_In_compare {u : g_St} (x0 : Int32) (x1 : Int32) (s0 : g_St) {o : Int32 × g_St} (hs0 : z_V true [] [] none u s0) (h : f_In_compare x0 x1 s0 = some o) : z_V true [] [] none u o.2 := by
  unfold f_In_compare at h
  refine fr_if h (fun h => ?_) (fun h => ?_)
  · refine fr_if h (fun h => ?_) (fun h => ?_)
    · exact er_some h hs0
    · exact er_some h hs0
  · exact er_some h hs0
theorem v_Lo_compare {u : g_St} (y0 : Int64) (y2 : Int64) (s0 : g_St) {o : Int32 × g_St} (hs0 : z_V true [] [] none u s0) (h : f_Lo_compare y0 y2 s0 = some o) : z_V true [] [] none u o.2 := by
  unfold f_Lo_compare at h
  refine fr_if h (fun h => ?_) (fun h => ?_)
  · refine fr_if h (fun h => ?_) (fun h => ?_)
    · exact er_some h hs0
    · exact er_some h hs0
  · exact er_some h hs0
theorem v_Abc_init {u : g_St} (r0 : Option Nat) (s0 : g_St) {o : Unit × g_St} (hs0 : z_V true [] [] r0 u s0) (h : f_Abc_init r0 s0 = some o) : z_V true [] [] r0 u o.2 := by
  unfold f_Abc_init at h
  replace h := er_nn h
  exact er_some h hs0
theorem v_Abl_init {u : g_St} (r0 : Option Nat) (s0 : g_St) {o : Unit × g_St} (hs0 : z_V true [] [] r0 u s0) (h : f_Abl_init r0 s0 = some o) : z_V true [] [] r0 u o.2 := by
  unfold f_Abl_init at h
  refine fr_c h (fun v1 s2 hc h => ?_)
  have hs1 := hs0.trans (by decide) ((v_Abc_init _ _ z_V.re (er_nn hc)).mono (by decide) (by decide) (by decide) (Or.inr rfl))
  refine er_pI h (fun a2 ha h => ?_)
  have hs2 := hs1.pI (k := 12) (a := a2) 0 (Or.inr ha)
  exact er_some h hs2
theorem v_As_hugeLength {u : g_St} (x0 : Int32) (x1 : Int32) (s0 : g_St) {o : Int32 × g_St} (hs0 : z_V true [] [] none u s0) (h : f_As_hugeLength x0 x1 s0 = some o) : z_V true [] [] none u o.2 := by
  unfold f_As_hugeLength at h
  refine fr_if h (fun h => ?_) (fun h => ?_)
  · refine fr_if h (fun h => ?_) (fun h => ?_)
    · exact er_some h hs0
    · exact er_some h hs0
  · cases h
theorem v_As_newLength_21 {u : g_St} (x0 : Int32) (x1 : Int32) (s0 : g_St) {o : Int32 × g_St} (hs0 : z_V true [] [] none u s0) (h : f_As_newLength_21 x0 x1 s0 = some o) : z_V true [] [] none u o.2 := by
  unfold f_As_newLength_21 at h
  refine fr_c h (fun i1 s2 hc h => ?_)
  have hs1 := hs0.trans (by decide) ((v_As_hugeLength _ _ _ z_V.re hc).mono (by decide) (by decide) (by decide) (Or.inl rfl))
  exact er_some h hs1
theorem v_As_newLength {u : g_St} (x0 : Int32) (x1 : Int32) (x2 : Int32) (s0 : g_St) {o : Int32 × g_St} (hs0 : z_V true [] [] none u s0) (h : f_As_newLength x0 x1 x2 s0 = some o) : z_V true [] [] none u o.2 := by
  unfold f_As_newLength at h
  refine fr_if h (fun h => ?_) (fun h => ?_)
  · exact v_As_newLength_21 _ _ _ hs0 h
  · refine fr_if h (fun h => ?_) (fun h => ?_)
    · exact v_As_newLength_21 _ _ _ hs0 h
    · exact er_some h hs0
theorem v_Pre_checkIndex_9 {u : g_St} (x0 : Int32) (x1 : Int32) (r2 : Option Nat) (s0 : g_St) {o : Int32 × g_St} (hs0 : z_V true [] [] none u s0) (h : f_Pre_checkIndex_9 x0 x1 r2 s0 = some o) : z_V true [] [] none u o.2 := by
  unfold f_Pre_checkIndex_9 at h
  cases h
theorem v_Pre_checkIndex {u : g_St} (x0 : Int32) (x1 : Int32) (r2 : Option Nat) (s0 : g_St) {o : Int32 × g_St} (hs0 : z_V true [] [] none u s0) (h : f_Pre_checkIndex x0 x1 r2 s0 = some o) : z_V true [] [] none u o.2 := by
  unfold f_Pre_checkIndex at h
  refine fr_if h (fun h => ?_) (fun h => ?_)
  · exact v_Pre_checkIndex_9 _ _ _ _ hs0 h
  · refine fr_if h (fun h => ?_) (fun h => ?_)
    · exact er_some h hs0
    · exact v_Pre_checkIndex_9 _ _ _ _ hs0 h
theorem v_Ob_checkIndex {u : g_St} (x0 : Int32) (x1 : Int32) (s0 : g_St) {o : Int32 × g_St} (hs0 : z_V true [] [] none u s0) (h : f_Ob_checkIndex x0 x1 s0 = some o) : z_V true [] [] none u o.2 := by
  unfold f_Ob_checkIndex at h
  refine fr_c h (fun i1 s2 hc h => ?_)
  have hs1 := hs0.trans (by decide) ((v_Pre_checkIndex _ _ _ _ z_V.re hc).mono (by decide) (by decide) (by decide) (Or.inl rfl))
  exact er_some h hs1
theorem v_Al_init {u : g_St} (r0 : Option Nat) (s0 : g_St) {o : Unit × g_St} (hs0 : z_V false [] [] r0 u s0) (h : f_Al_init r0 s0 = some o) : z_V false [] [] r0 u o.2 := by
  unfold f_Al_init at h
  refine fr_c h (fun v1 s2 hc h => ?_)
  have hs1 := hs0.trans (by decide) ((v_Abl_init _ _ z_V.re (er_nn hc)).mono (by decide) (by decide) (by decide) (Or.inr rfl))
  refine er_pR h (fun a2 ha h => ?_)
  have hs2 := hs1.pR30 (a := a2) (Or.inr ha)
  exact er_some h hs2
theorem er_cpO {α : Type} {u : g_St} {r r1 : Option Nat} {k : Int32} {F : g_St → Option α} {o : α} {C : Prop} (h : g_cpO u r r1 k F = some o) (kk : ∀ b f, r1 = some b → F (g_cpS u b f) = some o → C) : C := by
  unfold g_cpO at h
  split at h
  · split at h
    · exact kk _ _ rfl h
    · cases h
  · cases h
theorem v_Ars_copyOf2 {u : g_St} (r : Option Nat) (n : Int32) (s0 : g_St) {wK wA : List Nat} {o : Option Nat × g_St} (hs0 : z_V false wK wA none u s0) (h : f_Ars_copyOf2 r n s0 = some o) : z_V false wK wA none u o.2 ∧ (∀ x, o.1 = some x → ¬ g_al u x) ∧ (z_Ok u → ∀ x, o.1 = some x → g_al o.2 x ∧ x % 64 = 30 ∧ x ∉ m_arr ∧ x ≠ 1237 ∧ ∀ k' ∈ z_aK, ∀ c, g_R o.2 k' c ≠ some x) := by
  unfold f_Ars_copyOf2 at h
  refine er_newA hs0 (by decide) h (fun p s1 hs1 fp np h => ?_)
  refine er_lenO h (fun i1 h => ?_)
  refine er_cpO h (fun b f hb h => ?_)
  cases h
  refine ⟨⟨hs1.1, hs1.2.1, fun x hx => ⟨(hs1.2.2.1 x hx).1, fun ho => ?_⟩, hs1.2.2.2⟩, fp, np⟩
  obtain ⟨q1, q2, q3⟩ := (hs1.2.2.1 x hx).2 ho
  refine ⟨q1, q2, ?_⟩
  funext i
  show (if x = b then _ else g_AR s1 x i) = g_AR u x i
  rw [if_neg (fun e => fp b hb (by rw [← e]; exact hx))]
  exact congrFun q3 i
theorem v_Ars_copyOf {u : g_St} (r : Option Nat) (n : Int32) (s0 : g_St) {wK wA : List Nat} {o : Option Nat × g_St} (hs0 : z_V false wK wA none u s0) (h : f_Ars_copyOf r n s0 = some o) : z_V false wK wA none u o.2 ∧ (∀ x, o.1 = some x → ¬ g_al u x) ∧ (z_Ok u → ∀ x, o.1 = some x → g_al o.2 x ∧ x % 64 = 30 ∧ x ∉ m_arr ∧ x ≠ 1237 ∧ ∀ k' ∈ z_aK, ∀ c, g_R o.2 k' c ≠ some x) := by
  unfold f_Ars_copyOf at h
  split at h
  · cases h
  · split at h
    · cases h
    · exact v_Ars_copyOf2 _ _ _ hs0 h
theorem v_Al_grow2_20 {u : g_St} (r0 : Option Nat) (x1 x2 : Int32) (s0 : g_St) {o : Option Nat × g_St} (hs0 : z_V false [12, 76, 140] [76] none u s0) (h : f_Al_grow2_20 r0 x1 x2 s0 = some o) : z_V false [12, 76, 140] [76] none u o.2 ∧ ∀ x, o.1 = some x → ¬ g_al u x := by
  unfold f_Al_grow2_20 at h
  refine fr_c h (fun i1 s2 hc h => ?_)
  have hs1 := hs0.trans (by decide) ((v_As_newLength _ _ _ _ z_V.re hc).mono (by decide) (by decide) (by decide) (Or.inl rfl))
  refine er_gR h (fun c p3 _ _ h => ?_)
  refine fr_c h (fun p4 s5 hc h => ?_)
  obtain ⟨hs2, fp, np⟩ := v_Ars_copyOf _ _ _ hs1 hc
  refine er_pR h (fun a ha h => ?_)
  have hs3 := hs2.pRn (k := 76) (a := a) p4 (Or.inl (by decide)) fp np
  cases h
  exact ⟨hs3, fp⟩
theorem v_Al_grow2 {u : g_St} (r0 : Option Nat) (x1 : Int32) (s0 : g_St) {o : Option Nat × g_St} (hs0 : z_V false [12, 76, 140] [76] none u s0) (h : f_Al_grow2 r0 x1 s0 = some o) : z_V false [12, 76, 140] [76] none u o.2 ∧ ∀ x, o.1 = some x → ¬ g_al u x := by
  unfold f_Al_grow2 at h
  refine er_gR h (fun c p1 _ _ h => ?_)
  refine er_lenO h (fun i2 h => ?_)
  refine fr_if h (fun h => ?_) (fun h => ?_)
  · exact v_Al_grow2_20 _ _ _ _ hs0 h
  · refine er_gR h (fun c p3 _ _ h => ?_)
    refine fr_if h (fun h => ?_) (fun h => ?_)
    · refine er_newA hs0 (by decide) h (fun p4 s5 hs1 fp np h => ?_)
      refine er_pR h (fun a ha h => ?_)
      have hs3 := hs1.pRn (k := 76) (a := a) p4 (Or.inl (by decide)) fp np
      cases h
      exact ⟨hs3, fp⟩
    · exact v_Al_grow2_20 _ _ _ _ hs0 h
theorem v_Al_grow {u : g_St} (r0 : Option Nat) (s0 : g_St) {o : Option Nat × g_St} (hs0 : z_V false [12, 76, 140] [76] none u s0) (h : f_Al_grow r0 s0 = some o) : z_V false [12, 76, 140] [76] none u o.2 ∧ ∀ x, o.1 = some x → ¬ g_al u x := by
  unfold f_Al_grow at h
  refine er_gI h (fun i1 h => ?_)
  refine fr_c h (fun p2 s3 hc h => ?_)
  cases h
  exact v_Al_grow2 _ _ _ hs0 (er_nn hc)
theorem v_Al_add2_11 {u : g_St} (r0 r1 r2 : Option Nat) (x3 : Int32) (s0 : g_St) {o : Unit × g_St} (hs0 : z_V false [12, 76, 140] [76] none u s0) (hr : ∀ x, r2 = some x → x / 64 ≠ 0 → g_al u x → z_own [76] u x) (h : f_Al_add2_11 r0 r1 r2 x3 s0 = some o) : z_V false [12, 76, 140] [76] none u o.2 := by
  unfold f_Al_add2_11 at h
  refine er_sO h (fun x j hx hn h => ?_)
  have hs1 := hs0.sAR (hr x hx hn) j r1
  refine er_pI h (fun a ha h => ?_)
  have hs2 := hs1.pI (k := 140) (a := a) (x3 + 1) (Or.inl (by decide))
  exact er_some h hs2
theorem v_Al_add2 {u : g_St} (r0 r1 r2 : Option Nat) (x3 : Int32) (s0 : g_St) {o : Unit × g_St} (hs0 : z_V false [12, 76, 140] [76] none u s0) (hr : ∀ x, r2 = some x → x / 64 ≠ 0 → g_al u x → z_own [76] u x) (h : f_Al_add2 r0 r1 r2 x3 s0 = some o) : z_V false [12, 76, 140] [76] none u o.2 := by
  unfold f_Al_add2 at h
  refine er_lenO h (fun i1 h => ?_)
  refine fr_if h (fun h => ?_) (fun h => ?_)
  · refine fr_c h (fun p2 s3 hc h => ?_)
    obtain ⟨hs1, fp⟩ := v_Al_grow _ _ hs0 (er_nn hc)
    exact v_Al_add2_11 _ _ _ _ _ hs1 (fun x e _ ha => absurd ha (fp x e)) h
  · exact v_Al_add2_11 _ _ _ _ _ hs0 hr h
theorem v_Al_add {u : g_St} (r0 r1 : Option Nat) (s0 : g_St) {o : Int32 × g_St} (hs0 : z_V false [12, 76, 140] [76] none u s0) (h : f_Al_add r0 r1 s0 = some o) : z_V false [12, 76, 140] [76] none u o.2 := by
  unfold f_Al_add at h
  refine er_gI h (fun i1 h => ?_)
  refine er_pI h (fun a ha h => ?_)
  have hs1 := hs0.pI (k := 12) (a := a) (i1 + 1) (Or.inl (by decide))
  refine er_gR h (fun c p3 _ ec h => ?_)
  refine er_gI h (fun i4 h => ?_)
  refine fr_c h (fun v s6 hc h => ?_)
  have hs2 := hs1.trans (by decide) ((v_Al_add2 _ _ _ _ _ z_V.re (fun x e hn _ => ⟨76, by decide, c, ec.trans e, fun _ q => hn (by rw [q])⟩) (er_nn hc)).mono (by decide) (by decide) (by decide) (Or.inl rfl))
  exact er_some (er_rZ h) hs2
theorem v_Al_size {u : g_St} (r0 : Option Nat) (s0 : g_St) {o : Int32 × g_St} (hs0 : z_V true [] [] none u s0) (h : f_Al_size r0 s0 = some o) : z_V true [] [] none u o.2 := by
  unfold f_Al_size at h
  refine er_gI h (fun i1 h => ?_)
  exact er_some h hs0
theorem v_Al_elementData {u : g_St} (r0 : Option Nat) (x1 : Int32) (s0 : g_St) {o : Option Nat × g_St} (hs0 : z_V true [] [] none u s0) (h : f_Al_elementData r0 x1 s0 = some o) : z_V true [] [] none u o.2 := by
  unfold f_Al_elementData at h
  refine er_gR h (fun c1 p1 _ _ h => ?_)
  refine er_aO h (fun p2 h => ?_)
  exact er_some h hs0
theorem v_Al_get {u : g_St} (r0 : Option Nat) (x1 : Int32) (s0 : g_St) {o : Option Nat × g_St} (hs0 : z_V true [] [] none u s0) (h : f_Al_get r0 x1 s0 = some o) : z_V true [] [] none u o.2 := by
  unfold f_Al_get at h
  refine er_gI h (fun i1 h => ?_)
  refine fr_c h (fun i2 s3 hc h => ?_)
  have hs1 := hs0.trans (by decide) ((v_Ob_checkIndex _ _ _ z_V.re hc).mono (by decide) (by decide) (by decide) (Or.inl rfl))
  refine fr_c h (fun p4 s5 hc h => ?_)
  have hs2 := hs1.trans (by decide) ((v_Al_elementData _ _ _ z_V.re (er_nn hc)).mono (by decide) (by decide) (by decide) (Or.inl rfl))
  exact er_some h hs2
theorem v_En_ordinal {u : g_St} (r0 : Option Nat) (s0 : g_St) {o : Int32 × g_St} (hs0 : z_V true [] [] none u s0) (h : f_En_ordinal r0 s0 = some o) : z_V true [] [] none u o.2 := by
  unfold f_En_ordinal at h
  refine er_sfI h (fun i1 h => ?_)
  exact er_some h hs0
theorem v_Sl_charAt {u : g_St} (r0 : Option Nat) (x1 : Int32) (s0 : g_St) {o : Int32 × g_St} (hs0 : z_V true [] [] none u s0) (h : f_Sl_charAt r0 x1 s0 = some o) : z_V true [] [] none u o.2 := by
  unfold f_Sl_charAt at h
  refine er_bln h (fun i1 h => ?_)
  refine fr_c h (fun v1 s3 hc h => ?_)
  have hs1 := hs0.trans (by decide) ((v_Str_checkIndex _ _ _ z_V.re hc).mono (by decide) (by decide) (by decide) (Or.inl rfl))
  refine er_bla h (fun i4 h => ?_)
  exact er_some (er_rC h) hs1
theorem v_Str_coder {u : g_St} (r0 : Option Nat) (s0 : g_St) {o : Int32 × g_St} (hs0 : z_V true [] [] none u s0) (h : f_Str_coder r0 s0 = some o) : z_V true [] [] none u o.2 := by
  unfold f_Str_coder at h
  refine fr_if h (fun h => ?_) (fun h => ?_)
  · exact er_some (er_rB h) hs0
  · refine er_tI h (fun i1 h => ?_)
    exact er_some (er_rB h) hs0
theorem v_Str_length {u : g_St} (r0 : Option Nat) (s0 : g_St) {o : Int32 × g_St} (hs0 : z_V true [] [] none u s0) (h : f_Str_length r0 s0 = some o) : z_V true [] [] none u o.2 := by
  unfold f_Str_length at h
  refine er_tR h (fun p1 h => ?_)
  refine er_bln h (fun i2 h => ?_)
  refine fr_c h (fun i3 s4 hc h => ?_)
  have hs1 := hs0.trans (by decide) ((v_Str_coder _ _ z_V.re (er_str hc)).mono (by decide) (by decide) (by decide) (Or.inl rfl))
  exact er_some h hs1
theorem v_Str_isLatin1 {u : g_St} (r0 : Option Nat) (s0 : g_St) {o : Int32 × g_St} (hs0 : z_V true [] [] none u s0) (h : f_Str_isLatin1 r0 s0 = some o) : z_V true [] [] none u o.2 := by
  unfold f_Str_isLatin1 at h
  refine fr_if h (fun h => ?_) (fun h => ?_)
  · exact er_some (er_rZ h) hs0
  · refine er_tI h (fun i1 h => ?_)
    refine fr_if h (fun h => ?_) (fun h => ?_)
    · exact er_some (er_rZ h) hs0
    · exact er_some (er_rZ h) hs0
theorem v_Str_charAt {u : g_St} (r0 : Option Nat) (x1 : Int32) (s0 : g_St) {o : Int32 × g_St} (hs0 : z_V true [] [] none u s0) (h : f_Str_charAt r0 x1 s0 = some o) : z_V true [] [] none u o.2 := by
  unfold f_Str_charAt at h
  refine fr_c h (fun i1 s2 hc h => ?_)
  have hs1 := hs0.trans (by decide) ((v_Str_isLatin1 _ _ z_V.re (er_str hc)).mono (by decide) (by decide) (by decide) (Or.inl rfl))
  refine fr_if h (fun h => ?_) (fun h => ?_)
  · refine er_tR h (fun p3 h => ?_)
    cases h
  · refine er_tR h (fun p4 h => ?_)
    refine fr_c h (fun i5 s6 hc h => ?_)
    have hs2 := hs1.trans (by decide) ((v_Sl_charAt _ _ _ z_V.re hc).mono (by decide) (by decide) (by decide) (Or.inl rfl))
    exact er_some (er_rC h) hs2
theorem v_Rl_init {u : g_St} (r0 : Option Nat) (x1 : Int32) (x2 : Int32) (s0 : g_St) {o : Unit × g_St} (hs0 : z_V false [] [] r0 u s0) (h : f_Rl_init r0 x1 x2 s0 = some o) : z_V false [] [] r0 u o.2 := by
  unfold f_Rl_init at h
  replace h := er_nn h
  refine er_pI h (fun a1 ha h => ?_)
  have hs1 := hs0.pI (k := 5) (a := a1) x2 (Or.inr ha)
  refine er_newA hs1 (by decide) h (fun p2 s3 hs2 fresh_p2 new_p2 h => ?_)
  refine er_pR h (fun a3 ha h => ?_)
  have hs3 := hs2.pRn (k := 69) (a := a3) p2 (Or.inr ha) fresh_p2 new_p2
  refine er_newA hs3 (by decide) h (fun p5 s6 hs4 fresh_p5 new_p5 h => ?_)
  refine er_pR h (fun a5 ha h => ?_)
  have hs5 := hs4.pRn (k := 133) (a := a5) p5 (Or.inr ha) fresh_p5 new_p5
  refine er_newA hs5 (by decide) h (fun p8 s9 hs6 fresh_p8 new_p8 h => ?_)
  refine er_pR h (fun a7 ha h => ?_)
  have hs7 := hs6.pRn (k := 197) (a := a7) p8 (Or.inr ha) fresh_p8 new_p8
  exact er_some h hs7
theorem v_Rl_empty {u : g_St} (r0 : Option Nat) (s0 : g_St) {o : Unit × g_St} (hs0 : z_V true [261, 325, 389] [] none u s0) (h : f_Rl_empty r0 s0 = some o) : z_V true [261, 325, 389] [] none u o.2 := by
  unfold f_Rl_empty at h
  refine er_pI h (fun a1 ha h => ?_)
  have hs1 := hs0.pI (k := 261) (a := a1) 0 (Or.inl (by decide))
  refine er_pI h (fun a2 ha h => ?_)
  have hs2 := hs1.pI (k := 325) (a := a2) 0 (Or.inl (by decide))
  refine er_pI h (fun a3 ha h => ?_)
  have hs3 := hs2.pI (k := 389) (a := a3) 0 (Or.inl (by decide))
  exact er_some h hs3
theorem v_Rl_beginRound {u : g_St} (r0 : Option Nat) (s0 : g_St) {o : Unit × g_St} (hs0 : z_V true [325, 389] [] none u s0) (h : f_Rl_beginRound r0 s0 = some o) : z_V true [325, 389] [] none u o.2 := by
  unfold f_Rl_beginRound at h
  refine er_gI h (fun i1 h => ?_)
  refine er_pI h (fun a1 ha h => ?_)
  have hs1 := hs0.pI (k := 389) (a := a1) i1 (Or.inl (by decide))
  refine er_gI h (fun i3 h => ?_)
  refine er_pI h (fun a2 ha h => ?_)
  have hs2 := hs1.pI (k := 325) (a := a2) i3 (Or.inl (by decide))
  exact er_some h hs2
theorem v_Rl_grow_124 {u : g_St} (r0 : Option Nat) (y3 : Int64) (s0 : g_St) {o : Unit × g_St} (hs0 : z_V true [] [69, 133, 197] none u s0) (h : f_Rl_grow_124 r0 y3 s0 = some o) : z_V true [] [69, 133, 197] none u o.2 := by
  unfold f_Rl_grow_124 at h
  refine er_gR h (fun c1 p1 _ ec1 h => ?_)
  have own_p1 : ∀ x, p1 = some x → g_al u x → z_own [69, 133, 197] u x := fun x q => hs0.own (by decide) (by decide) (by decide) (ec1.trans q)
  refine er_gI h (fun i2 h => ?_)
  refine er_sL h (fun x_2 ix2 ha h => ?_)
  have hs2 := hs0.sAL (own_p1 x_2 ha) ix2 y3
  exact er_some h hs2
theorem v_Rl_grow_62 {u : g_St} : ∀ (n : Nat) (r0 : Option Nat) (x2 : Int32) (y3 : Int64) (y5 : Int64) (x7 : Int32) (x8 : Int32) (s0 : g_St) {o : Unit × g_St}, z_V true [] [69, 133, 197] none u s0 → f_Rl_grow_62 n r0 x2 y3 y5 x7 x8 s0 = some o → z_V true [] [69, 133, 197] none u o.2 := by
  intro n
  induction n with
  | zero =>
    intro r0 x2 y3 y5 x7 x8 s0 o hs0  h
    rw [f_Rl_grow_62] at h
    cases h
  | succ n ih =>
    intro r0 x2 y3 y5 x7 x8 s0 o hs0  h
    rw [f_Rl_grow_62] at h
    refine er_gR h (fun c1 p1 _ ec1 h => ?_)
    have own_p1 : ∀ x, p1 = some x → g_al u x → z_own [69, 133, 197] u x := fun x q => hs0.own (by decide) (by decide) (by decide) (ec1.trans q)
    refine er_gI h (fun i2 h => ?_)
    refine er_aI h (fun i3 h => ?_)
    refine fr_if h (fun h => ?_) (fun h => ?_)
    · exact v_Rl_grow_124 _ _ _ hs0 h
    · refine fr_if h (fun h => ?_) (fun h => ?_)
      · exact v_Rl_grow_124 _ _ _ hs0 h
      · refine fr_if h (fun h => ?_) (fun h => ?_)
        · refine er_gR h (fun c2 p4 _ ec2 h => ?_)
          have own_p4 : ∀ x, p4 = some x → g_al u x → z_own [69, 133, 197] u x := fun x q => hs0.own (by decide) (by decide) (by decide) (ec2.trans q)
          refine er_aI h (fun i5 h => ?_)
          exact ih _ _ _ _ _ _ _ hs0 h
        · refine er_gR h (fun c3 p6 _ ec3 h => ?_)
          have own_p6 : ∀ x, p6 = some x → g_al u x → z_own [69, 133, 197] u x := fun x q => hs0.own (by decide) (by decide) (by decide) (ec3.trans q)
          refine er_aL h (fun j7 h => ?_)
          refine fr_if h (fun h => ?_) (fun h => ?_)
          · refine er_gR h (fun c4 p10 _ ec4 h => ?_)
            have own_p10 : ∀ x, p10 = some x → g_al u x → z_own [69, 133, 197] u x := fun x q => hs0.own (by decide) (by decide) (by decide) (ec4.trans q)
            refine er_aI h (fun i11 h => ?_)
            exact ih _ _ _ _ _ _ _ hs0 h
          · refine er_gR h (fun c5 p8 _ ec5 h => ?_)
            have own_p8 : ∀ x, p8 = some x → g_al u x → z_own [69, 133, 197] u x := fun x q => hs0.own (by decide) (by decide) (by decide) (ec5.trans q)
            refine er_aI h (fun i9 h => ?_)
            exact ih _ _ _ _ _ _ _ hs0 h
theorem v_Rl_grow_34 {u : g_St} (r0 : Option Nat) (x1 : Int32) (x2 : Int32) (r0s : Option Nat) (x1s : Int32) (x2s : Int32) (s0 : g_St) {o : Unit × g_St} (hs0 : z_V true [] [69, 133, 197] none u s0) (own_r0s : ∀ x, r0s = some x → g_al u x → z_own [69, 133, 197] u x) (h : f_Rl_grow_34 r0 x1 x2 r0s x1s x2s s0 = some o) : z_V true [] [69, 133, 197] none u o.2 := by
  unfold f_Rl_grow_34 at h
  refine er_sI h (fun x_1 ix1 ha h => ?_)
  have hs1 := hs0.sAI (own_r0s x_1 ha) ix1 x2s
  refine fr_if h (fun h => ?_) (fun h => ?_)
  · exact v_Rl_grow_124 _ _ _ hs1 h
  · refine er_gR h (fun c2 p2 _ ec2 h => ?_)
    have own_p2 : ∀ x, p2 = some x → g_al u x → z_own [69, 133, 197] u x := fun x q => hs1.own (by decide) (by decide) (by decide) (ec2.trans q)
    refine er_gI h (fun i3 h => ?_)
    refine er_aL h (fun j4 h => ?_)
    exact v_Rl_grow_62 _ _ _ _ _ _ _ _ hs1 h
theorem v_Rl_grow {u : g_St} (r0 : Option Nat) (x1 : Int32) (x2 : Int32) (s0 : g_St) {o : Unit × g_St} (hs0 : z_V true [] [69, 133, 197] none u s0) (h : f_Rl_grow r0 x1 x2 s0 = some o) : z_V true [] [69, 133, 197] none u o.2 := by
  unfold f_Rl_grow at h
  refine er_gR h (fun c1 p1 _ ec1 h => ?_)
  have own_p1 : ∀ x, p1 = some x → g_al u x → z_own [69, 133, 197] u x := fun x q => hs0.own (by decide) (by decide) (by decide) (ec1.trans q)
  refine er_gI h (fun i2 h => ?_)
  refine er_sI h (fun x_2 ix2 ha h => ?_)
  have hs2 := hs0.sAI (own_p1 x_2 ha) ix2 x1
  refine er_gR h (fun c3 p4 _ ec3 h => ?_)
  have own_p4 : ∀ x, p4 = some x → g_al u x → z_own [69, 133, 197] u x := fun x q => hs2.own (by decide) (by decide) (by decide) (ec3.trans q)
  refine er_gI h (fun i5 h => ?_)
  refine fr_if h (fun h => ?_) (fun h => ?_)
  · refine er_gR h (fun c4 p6 _ ec4 h => ?_)
    have own_p6 : ∀ x, p6 = some x → g_al u x → z_own [69, 133, 197] u x := fun x q => hs2.own (by decide) (by decide) (by decide) (ec4.trans q)
    refine er_aI h (fun i7 h => ?_)
    exact v_Rl_grow_34 _ _ _ _ _ _ _ hs2 own_p4 h
  · exact v_Rl_grow_34 _ _ _ _ _ _ _ hs2 own_p4 h
theorem v_Rl_isSame_136 {u : g_St} : ∀ (n : Nat) (r0 : Option Nat) (x2 : Int32) (x3 : Int32) (x4 : Int32) (x5 : Int32) (x6 : Int32) (x7 : Int32) (s0 : g_St) {o : Int32 × g_St}, z_V true [] [] none u s0 → f_Rl_isSame_136 n r0 x2 x3 x4 x5 x6 x7 s0 = some o → z_V true [] [] none u o.2 := by
  intro n
  induction n with
  | zero =>
    intro r0 x2 x3 x4 x5 x6 x7 s0 o hs0  h
    rw [f_Rl_isSame_136] at h
    cases h
  | succ n ih =>
    intro r0 x2 x3 x4 x5 x6 x7 s0 o hs0  h
    rw [f_Rl_isSame_136] at h
    refine er_gR h (fun c1 p1 _ _ h => ?_)
    refine er_aI h (fun i2 h => ?_)
    refine fr_if h (fun h => ?_) (fun h => ?_)
    · exact er_some (er_rZ h) hs0
    · refine fr_if h (fun h => ?_) (fun h => ?_)
      · exact er_some (er_rZ h) hs0
      · refine fr_if h (fun h => ?_) (fun h => ?_)
        · exact er_some (er_rZ h) hs0
        · refine fr_if h (fun h => ?_) (fun h => ?_)
          · exact er_some (er_rZ h) hs0
          · refine er_gR h (fun c2 p3 _ _ h => ?_)
            refine er_aL h (fun j4 h => ?_)
            refine er_gR h (fun c3 p5 _ _ h => ?_)
            refine er_aL h (fun j6 h => ?_)
            refine fr_if h (fun h => ?_) (fun h => ?_)
            · refine er_gR h (fun c4 p7 _ _ h => ?_)
              refine er_aL h (fun j8 h => ?_)
              refine er_gR h (fun c5 p9 _ _ h => ?_)
              refine er_aL h (fun j10 h => ?_)
              refine fr_if h (fun h => ?_) (fun h => ?_)
              · refine er_gR h (fun c6 p11 _ _ h => ?_)
                refine er_aI h (fun i12 h => ?_)
                refine er_gR h (fun c7 p13 _ _ h => ?_)
                refine er_aI h (fun i14 h => ?_)
                exact ih _ _ _ _ _ _ _ _ hs0 h
              · exact er_some (er_rZ h) hs0
            · exact er_some (er_rZ h) hs0
theorem v_Rl_isSame_106 {u : g_St} (r0 : Option Nat) (r1 : Option Nat) (x2 : Int32) (x0s : Int32) (s0 : g_St) {o : Int32 × g_St} (hs0 : z_V true [] [] none u s0) (h : f_Rl_isSame_106 r0 r1 x2 x0s s0 = some o) : z_V true [] [] none u o.2 := by
  unfold f_Rl_isSame_106 at h
  refine er_gI h (fun i1 h => ?_)
  refine fr_if h (fun h => ?_) (fun h => ?_)
  · refine er_gI h (fun i2 h => ?_)
    refine er_gI h (fun i3 h => ?_)
    exact v_Rl_isSame_136 _ _ _ _ _ _ _ _ _ hs0 h
  · refine er_gI h (fun i4 h => ?_)
    exact v_Rl_isSame_136 _ _ _ _ _ _ _ _ _ hs0 h
theorem v_Rl_isSame_61 {u : g_St} (r0 : Option Nat) (r1 : Option Nat) (x2 : Int32) (s0 : g_St) {o : Int32 × g_St} (hs0 : z_V true [] [] none u s0) (h : f_Rl_isSame_61 r0 r1 x2 s0 = some o) : z_V true [] [] none u o.2 := by
  unfold f_Rl_isSame_61 at h
  refine er_gR h (fun c1 p1 _ _ h => ?_)
  refine er_aI h (fun i2 h => ?_)
  refine er_gR h (fun c2 p3 _ _ h => ?_)
  refine er_gI h (fun i4 h => ?_)
  refine er_aI h (fun i5 h => ?_)
  refine fr_if h (fun h => ?_) (fun h => ?_)
  · refine er_gI h (fun i6 h => ?_)
    refine fr_if h (fun h => ?_) (fun h => ?_)
    · refine er_gI h (fun i8 h => ?_)
      refine fr_if h (fun h => ?_) (fun h => ?_)
      · refine er_gI h (fun i9 h => ?_)
        exact v_Rl_isSame_106 _ _ _ _ _ hs0 h
      · refine er_gI h (fun i10 h => ?_)
        exact v_Rl_isSame_106 _ _ _ _ _ hs0 h
    · refine er_gI h (fun i7 h => ?_)
      exact v_Rl_isSame_106 _ _ _ _ _ hs0 h
  · exact er_some (er_rZ h) hs0
theorem v_Rl_isSame_2 {u : g_St} : ∀ (n : Nat) (r0 : Option Nat) (r1 : Option Nat) (x2 : Int32) (x3 : Int32) (s0 : g_St) {o : Int32 × g_St}, z_V true [] [] none u s0 → f_Rl_isSame_2 n r0 r1 x2 x3 s0 = some o → z_V true [] [] none u o.2 := by
  intro n
  induction n with
  | zero =>
    intro r0 r1 x2 x3 s0 o hs0  h
    rw [f_Rl_isSame_2] at h
    cases h
  | succ n ih =>
    intro r0 r1 x2 x3 s0 o hs0  h
    rw [f_Rl_isSame_2] at h
    refine er_gI h (fun i1 h => ?_)
    refine fr_if h (fun h => ?_) (fun h => ?_)
    · refine er_gI h (fun i2 h => ?_)
      refine fr_if h (fun h => ?_) (fun h => ?_)
      · refine er_gI h (fun i3 h => ?_)
        refine fr_if h (fun h => ?_) (fun h => ?_)
        · exact er_some (er_rZ h) hs0
        · exact v_Rl_isSame_61 _ _ _ _ hs0 h
      · exact v_Rl_isSame_61 _ _ _ _ hs0 h
    · refine er_gR h (fun c1 p4 _ _ h => ?_)
      refine er_aL h (fun j5 h => ?_)
      refine er_gR h (fun c2 p6 _ _ h => ?_)
      refine er_gI h (fun i7 h => ?_)
      refine er_aL h (fun j8 h => ?_)
      refine fr_if h (fun h => ?_) (fun h => ?_)
      · exact ih _ _ _ _ _ hs0 h
      · exact er_some (er_rZ h) hs0
theorem v_Rl_isSame {u : g_St} (r0 : Option Nat) (r1 : Option Nat) (x2 : Int32) (s0 : g_St) {o : Int32 × g_St} (hs0 : z_V true [] [] none u s0) (h : f_Rl_isSame r0 r1 x2 s0 = some o) : z_V true [] [] none u o.2 := by
  unfold f_Rl_isSame at h
  exact v_Rl_isSame_2 _ _ _ _ _ _ hs0 h
theorem v_Rl_hasEqual_2 {u : g_St} : ∀ (n : Nat) (r0 : Option Nat) (r1 : Option Nat) (x2 : Int32) (s0 : g_St) {o : Int32 × g_St}, z_V true [] [] none u s0 → f_Rl_hasEqual_2 n r0 r1 x2 s0 = some o → z_V true [] [] none u o.2 := by
  intro n
  induction n with
  | zero =>
    intro r0 r1 x2 s0 o hs0  h
    rw [f_Rl_hasEqual_2] at h
    cases h
  | succ n ih =>
    intro r0 r1 x2 s0 o hs0  h
    rw [f_Rl_hasEqual_2] at h
    refine er_gI h (fun i1 h => ?_)
    refine fr_if h (fun h => ?_) (fun h => ?_)
    · exact er_some (er_rZ h) hs0
    · refine fr_c h (fun i2 s3 hc h => ?_)
      have hs1 := hs0.trans (by decide) ((v_Rl_isSame _ _ _ _ z_V.re (er_nn hc)).mono (by decide) (by decide) (by decide) (Or.inl rfl))
      refine fr_if h (fun h => ?_) (fun h => ?_)
      · exact ih _ _ _ _ hs1 h
      · exact er_some (er_rZ h) hs1
theorem v_Rl_hasEqual {u : g_St} (r0 : Option Nat) (r1 : Option Nat) (s0 : g_St) {o : Int32 × g_St} (hs0 : z_V true [] [] none u s0) (h : f_Rl_hasEqual r0 r1 s0 = some o) : z_V true [] [] none u o.2 := by
  unfold f_Rl_hasEqual at h
  exact v_Rl_hasEqual_2 _ _ _ _ _ hs0 h
theorem v_Rl_compareCells_30 {u : g_St} (y0s : Int64) (y1s : Int64) (s0 : g_St) {o : Int32 × g_St} (hs0 : z_V true [] [] none u s0) (h : f_Rl_compareCells_30 y0s y1s s0 = some o) : z_V true [] [] none u o.2 := by
  unfold f_Rl_compareCells_30 at h
  refine fr_c h (fun i1 s2 hc h => ?_)
  have hs1 := hs0.trans (by decide) ((v_Lo_compare _ _ _ z_V.re hc).mono (by decide) (by decide) (by decide) (Or.inl rfl))
  exact er_some h hs1
theorem v_Rl_compareCells_15 {u : g_St} (y2 : Int64) (y0s : Int64) (s0 : g_St) {o : Int32 × g_St} (hs0 : z_V true [] [] none u s0) (h : f_Rl_compareCells_15 y2 y0s s0 = some o) : z_V true [] [] none u o.2 := by
  unfold f_Rl_compareCells_15 at h
  refine fr_if h (fun h => ?_) (fun h => ?_)
  · exact v_Rl_compareCells_30 _ _ _ hs0 h
  · exact v_Rl_compareCells_30 _ _ _ hs0 h
theorem v_Rl_compareCells {u : g_St} (y0 : Int64) (y2 : Int64) (s0 : g_St) {o : Int32 × g_St} (hs0 : z_V true [] [] none u s0) (h : f_Rl_compareCells y0 y2 s0 = some o) : z_V true [] [] none u o.2 := by
  unfold f_Rl_compareCells at h
  refine fr_if h (fun h => ?_) (fun h => ?_)
  · exact v_Rl_compareCells_15 _ _ _ hs0 h
  · exact v_Rl_compareCells_15 _ _ _ hs0 h
theorem v_Rl_compareTrails_216 {u : g_St} {k89 : Option Nat → Int32 → Int32 → Int32 → Int32 → Int32 → g_St → Option (Int32 × g_St)} (hk89 : ∀ (y0 : Option Nat) (y1 : Int32) (y2 : Int32) (y3 : Int32) (y4 : Int32) (y5 : Int32) (s : g_St) {o : Int32 × g_St}, z_V true [] [] none u s → k89 y0 y1 y2 y3 y4 y5 s = some o → z_V true [] [] none u o.2) (r0 : Option Nat) (x4 : Int32) (x5 : Int32) (x7 : Int32) (x8 : Int32) (x10 : Int32) (x0s : Int32) (s0 : g_St) {o : Int32 × g_St} (hs0 : z_V true [] [] none u s0) (h : f_Rl_compareTrails_216 k89 r0 x4 x5 x7 x8 x10 x0s s0 = some o) : z_V true [] [] none u o.2 := by
  unfold f_Rl_compareTrails_216 at h
  refine fr_if h (fun h => ?_) (fun h => ?_)
  · exact hk89 _ _ _ _ _ _ _ hs0 h
  · refine er_gR h (fun c1 p1 _ _ h => ?_)
    refine er_aI h (fun i2 h => ?_)
    exact hk89 _ _ _ _ _ _ _ hs0 h
theorem v_Rl_compareTrails_197 {u : g_St} {k89 : Option Nat → Int32 → Int32 → Int32 → Int32 → Int32 → g_St → Option (Int32 × g_St)} (hk89 : ∀ (y0 : Option Nat) (y1 : Int32) (y2 : Int32) (y3 : Int32) (y4 : Int32) (y5 : Int32) (s : g_St) {o : Int32 × g_St}, z_V true [] [] none u s → k89 y0 y1 y2 y3 y4 y5 s = some o → z_V true [] [] none u o.2) (r0 : Option Nat) (x4 : Int32) (x6 : Int32) (x7 : Int32) (x8 : Int32) (x9 : Int32) (x10 : Int32) (x0s : Int32) (s0 : g_St) {o : Int32 × g_St} (hs0 : z_V true [] [] none u s0) (h : f_Rl_compareTrails_197 k89 r0 x4 x6 x7 x8 x9 x10 x0s s0 = some o) : z_V true [] [] none u o.2 := by
  unfold f_Rl_compareTrails_197 at h
  refine fr_if h (fun h => ?_) (fun h => ?_)
  · exact v_Rl_compareTrails_216 hk89 _ _ _ _ _ _ _ _ hs0 h
  · refine er_gR h (fun c1 p1 _ _ h => ?_)
    refine er_aI h (fun i2 h => ?_)
    exact v_Rl_compareTrails_216 hk89 _ _ _ _ _ _ _ _ hs0 h
theorem v_Rl_compareTrails_183 {u : g_St} {k89 : Option Nat → Int32 → Int32 → Int32 → Int32 → Int32 → g_St → Option (Int32 × g_St)} (hk89 : ∀ (y0 : Option Nat) (y1 : Int32) (y2 : Int32) (y3 : Int32) (y4 : Int32) (y5 : Int32) (s : g_St) {o : Int32 × g_St}, z_V true [] [] none u s → k89 y0 y1 y2 y3 y4 y5 s = some o → z_V true [] [] none u o.2) (r0 : Option Nat) (x4 : Int32) (x5 : Int32) (x6 : Int32) (x7 : Int32) (x8 : Int32) (x9 : Int32) (x10 : Int32) (x0s : Int32) (s0 : g_St) {o : Int32 × g_St} (hs0 : z_V true [] [] none u s0) (h : f_Rl_compareTrails_183 k89 r0 x4 x5 x6 x7 x8 x9 x10 x0s s0 = some o) : z_V true [] [] none u o.2 := by
  unfold f_Rl_compareTrails_183 at h
  refine fr_if h (fun h => ?_) (fun h => ?_)
  · exact v_Rl_compareTrails_197 hk89 _ _ _ _ _ _ _ _ _ hs0 h
  · exact v_Rl_compareTrails_197 hk89 _ _ _ _ _ _ _ _ _ hs0 h
theorem v_Rl_compareTrails_140 {u : g_St} {k89 : Option Nat → Int32 → Int32 → Int32 → Int32 → Int32 → g_St → Option (Int32 × g_St)} (hk89 : ∀ (y0 : Option Nat) (y1 : Int32) (y2 : Int32) (y3 : Int32) (y4 : Int32) (y5 : Int32) (s : g_St) {o : Int32 × g_St}, z_V true [] [] none u s → k89 y0 y1 y2 y3 y4 y5 s = some o → z_V true [] [] none u o.2) (r0 : Option Nat) (x4 : Int32) (x5 : Int32) (x6 : Int32) (x7 : Int32) (x8 : Int32) (x9 : Int32) (x0s : Int32) (s0 : g_St) {o : Int32 × g_St} (hs0 : z_V true [] [] none u s0) (h : f_Rl_compareTrails_140 k89 r0 x4 x5 x6 x7 x8 x9 x0s s0 = some o) : z_V true [] [] none u o.2 := by
  unfold f_Rl_compareTrails_140 at h
  refine fr_if h (fun h => ?_) (fun h => ?_)
  · exact v_Rl_compareTrails_183 hk89 _ _ _ _ _ _ _ _ _ _ hs0 h
  · refine fr_if h (fun h => ?_) (fun h => ?_)
    · exact v_Rl_compareTrails_183 hk89 _ _ _ _ _ _ _ _ _ _ hs0 h
    · refine er_gR h (fun c1 p1 _ _ h => ?_)
      refine er_aL h (fun j2 h => ?_)
      refine er_gR h (fun c2 p3 _ _ h => ?_)
      refine er_aL h (fun j4 h => ?_)
      refine fr_c h (fun i5 s6 hc h => ?_)
      have hs3 := hs0.trans (by decide) ((v_Rl_compareCells _ _ _ z_V.re hc).mono (by decide) (by decide) (by decide) (Or.inl rfl))
      exact v_Rl_compareTrails_183 hk89 _ _ _ _ _ _ _ _ _ _ hs3 h
theorem v_Rl_compareTrails_121 {u : g_St} {k89 : Option Nat → Int32 → Int32 → Int32 → Int32 → Int32 → g_St → Option (Int32 × g_St)} (hk89 : ∀ (y0 : Option Nat) (y1 : Int32) (y2 : Int32) (y3 : Int32) (y4 : Int32) (y5 : Int32) (s : g_St) {o : Int32 × g_St}, z_V true [] [] none u s → k89 y0 y1 y2 y3 y4 y5 s = some o → z_V true [] [] none u o.2) (r0 : Option Nat) (x4 : Int32) (x5 : Int32) (x6 : Int32) (x7 : Int32) (x8 : Int32) (x0s : Int32) (s0 : g_St) {o : Int32 × g_St} (hs0 : z_V true [] [] none u s0) (h : f_Rl_compareTrails_121 k89 r0 x4 x5 x6 x7 x8 x0s s0 = some o) : z_V true [] [] none u o.2 := by
  unfold f_Rl_compareTrails_121 at h
  refine er_gR h (fun c1 p1 _ _ h => ?_)
  refine er_aI h (fun i2 h => ?_)
  refine fr_if h (fun h => ?_) (fun h => ?_)
  · exact v_Rl_compareTrails_140 hk89 _ _ _ _ _ _ _ _ _ hs0 h
  · exact v_Rl_compareTrails_140 hk89 _ _ _ _ _ _ _ _ _ hs0 h
theorem v_Rl_compareTrails_89 {u : g_St} : ∀ (n : Nat) (r0 : Option Nat) (x4 : Int32) (x5 : Int32) (x6 : Int32) (x7 : Int32) (x8 : Int32) (s0 : g_St) {o : Int32 × g_St}, z_V true [] [] none u s0 → f_Rl_compareTrails_89 n r0 x4 x5 x6 x7 x8 s0 = some o → z_V true [] [] none u o.2 := by
  intro n
  induction n with
  | zero =>
    intro r0 x4 x5 x6 x7 x8 s0 o hs0  h
    rw [f_Rl_compareTrails_89] at h
    cases h
  | succ n ih =>
    intro r0 x4 x5 x6 x7 x8 s0 o hs0  h
    rw [f_Rl_compareTrails_89] at h
    refine fr_if h (fun h => ?_) (fun h => ?_)
    · exact er_some h hs0
    · refine fr_if h (fun h => ?_) (fun h => ?_)
      · exact er_some h hs0
      · refine fr_if h (fun h => ?_) (fun h => ?_)
        · exact er_some h hs0
        · refine er_gR h (fun c1 p1 _ _ h => ?_)
          refine er_aI h (fun i2 h => ?_)
          refine fr_if h (fun h => ?_) (fun h => ?_)
          · exact v_Rl_compareTrails_121 (fun _ _ _ _ _ _ _ {_} hs h => ih _ _ _ _ _ _ _ hs h) _ _ _ _ _ _ _ _ hs0 h
          · exact v_Rl_compareTrails_121 (fun _ _ _ _ _ _ _ {_} hs h => ih _ _ _ _ _ _ _ hs h) _ _ _ _ _ _ _ _ hs0 h
theorem v_Rl_compareTrails {u : g_St} (r0 : Option Nat) (r1 : Option Nat) (x2 : Int32) (x3 : Int32) (s0 : g_St) {o : Int32 × g_St} (hs0 : z_V true [] [] none u s0) (h : f_Rl_compareTrails r0 r1 x2 x3 s0 = some o) : z_V true [] [] none u o.2 := by
  unfold f_Rl_compareTrails at h
  refine er_gI h (fun i1 h => ?_)
  refine er_gR h (fun c1 p2 _ _ h => ?_)
  refine er_aI h (fun i3 h => ?_)
  refine er_gR h (fun c2 p4 _ _ h => ?_)
  refine er_aI h (fun i5 h => ?_)
  refine fr_c h (fun i6 s7 hc h => ?_)
  have hs3 := hs0.trans (by decide) ((v_In_compare _ _ _ z_V.re hc).mono (by decide) (by decide) (by decide) (Or.inl rfl))
  refine er_gI h (fun i8 h => ?_)
  refine fr_if h (fun h => ?_) (fun h => ?_)
  · refine er_gR h (fun c4 p9 _ _ h => ?_)
    refine er_aI h (fun i10 h => ?_)
    refine er_gR h (fun c5 p11 _ _ h => ?_)
    refine er_aI h (fun i12 h => ?_)
    exact v_Rl_compareTrails_89 _ _ _ _ _ _ _ _ hs3 h
  · refine fr_if h (fun h => ?_) (fun h => ?_)
    · refine er_gR h (fun c6 p13 _ _ h => ?_)
      refine er_aL h (fun j14 h => ?_)
      refine er_gR h (fun c7 p15 _ _ h => ?_)
      refine er_aL h (fun j16 h => ?_)
      refine fr_c h (fun i17 s18 hc h => ?_)
      have hs8 := hs3.trans (by decide) ((v_Rl_compareCells _ _ _ z_V.re hc).mono (by decide) (by decide) (by decide) (Or.inl rfl))
      exact er_some h hs8
    · exact er_some h hs3
theorem v_So_init {u : g_St} (r0 : Option Nat) (r1 : Option Nat) (x2 : Int32) (x3 : Int32) (s0 : g_St) {o : Unit × g_St} (hs0 : z_V true [] [] r0 u s0) (h : f_So_init r0 r1 x2 x3 s0 = some o) : z_V true [] [] r0 u o.2 := by
  unfold f_So_init at h
  replace h := er_nn h
  refine er_pI h (fun a1 ha h => ?_)
  have hs1 := hs0.pI (k := 393) (a := a1) (-1) (Or.inr ha)
  refine er_pI h (fun a2 ha h => ?_)
  have hs2 := hs1.pI (k := 457) (a := a2) (-1) (Or.inr ha)
  refine er_pR h (fun a3 ha h => ?_)
  have hs3 := hs2.pR (k := 9) (a := a3) r1 (Or.inr ha) (by decide)
  refine er_pI h (fun a4 ha h => ?_)
  have hs4 := hs3.pI (k := 73) (a := a4) x2 (Or.inr ha)
  refine er_pI h (fun a5 ha h => ?_)
  have hs5 := hs4.pI (k := 137) (a := a5) x3 (Or.inr ha)
  exact er_some h hs5
theorem v_So_isInner {u : g_St} (r0 : Option Nat) (s0 : g_St) {o : Int32 × g_St} (hs0 : z_V true [] [] none u s0) (h : f_So_isInner r0 s0 = some o) : z_V true [] [] none u o.2 := by
  unfold f_So_isInner at h
  refine er_gI h (fun i1 h => ?_)
  refine fr_if h (fun h => ?_) (fun h => ?_)
  · exact er_some (er_rZ h) hs0
  · exact er_some (er_rZ h) hs0
theorem v_So_passesOver {u : g_St} (r0 : Option Nat) (x1 : Int32) (s0 : g_St) {o : Int32 × g_St} (hs0 : z_V true [] [] none u s0) (h : f_So_passesOver r0 x1 s0 = some o) : z_V true [] [] none u o.2 := by
  unfold f_So_passesOver at h
  refine er_gI h (fun i1 h => ?_)
  refine fr_if h (fun h => ?_) (fun h => ?_)
  · exact er_some (er_rZ h) hs0
  · refine er_gR h (fun c1 p2 _ _ h => ?_)
    refine er_gR h (fun c2 p3 _ _ h => ?_)
    refine er_aL h (fun j4 h => ?_)
    refine fr_if h (fun h => ?_) (fun h => ?_)
    · exact er_some (er_rZ h) hs0
    · exact er_some (er_rZ h) hs0
theorem v_Pa_init {u : g_St} (r0 : Option Nat) (s0 : g_St) {o : Unit × g_St} (hs0 : z_V false [] [] r0 u s0) (h : f_Pa_init r0 s0 = some o) : z_V false [] [] r0 u o.2 := by
  unfold f_Pa_init at h
  replace h := er_nn h
  refine er_newA hs0 (by decide) h (fun p1 s2 hs1 fresh_p1 new_p1 h => ?_)
  refine er_pR h (fun a2 ha h => ?_)
  have hs2 := hs1.pRn (k := 199) (a := a2) p1 (Or.inr ha) fresh_p1 new_p1
  refine er_newA hs2 (by decide) h (fun p4 s5 hs3 fresh_p4 new_p4 h => ?_)
  refine er_pR h (fun a4 ha h => ?_)
  have hs4 := hs3.pRn (k := 263) (a := a4) p4 (Or.inr ha) fresh_p4 new_p4
  refine er_newA hs4 (by decide) h (fun p7 s8 hs5 fresh_p7 new_p7 h => ?_)
  refine er_pR h (fun a6 ha h => ?_)
  have hs6 := hs5.pRn (k := 647) (a := a6) p7 (Or.inr ha) fresh_p7 new_p7
  refine er_pI h (fun a7 ha h => ?_)
  have hs7 := hs6.pI (k := 903) (a := a7) (-1) (Or.inr ha)
  refine er_pI h (fun a8 ha h => ?_)
  have hs8 := hs7.pI (k := 1031) (a := a8) (-1) (Or.inr ha)
  refine er_pI h (fun a9 ha h => ?_)
  have hs9 := hs8.pI (k := 1095) (a := a9) (-1) (Or.inr ha)
  exact er_some h hs9
theorem v_Pa_columnNamedAt_2 {u : g_St} : ∀ (n : Nat) (r0 : Option Nat) (x1 : Int32) (x2 : Int32) (s0 : g_St) {o : Int32 × g_St}, z_V true [] [] none u s0 → f_Pa_columnNamedAt_2 n r0 x1 x2 s0 = some o → z_V true [] [] none u o.2 := by
  intro n
  induction n with
  | zero =>
    intro r0 x1 x2 s0 o hs0  h
    rw [f_Pa_columnNamedAt_2] at h
    cases h
  | succ n ih =>
    intro r0 x1 x2 s0 o hs0  h
    rw [f_Pa_columnNamedAt_2] at h
    refine er_gI h (fun i1 h => ?_)
    refine fr_if h (fun h => ?_) (fun h => ?_)
    · exact er_some h hs0
    · refine er_gR h (fun c1 p2 _ _ h => ?_)
      refine er_aL h (fun j3 h => ?_)
      refine er_gR h (fun c2 p4 _ _ h => ?_)
      refine er_aL h (fun j5 h => ?_)
      refine fr_if h (fun h => ?_) (fun h => ?_)
      · exact er_some h hs0
      · exact ih _ _ _ _ hs0 h
theorem v_Pa_columnNamedAt {u : g_St} (r0 : Option Nat) (x1 : Int32) (s0 : g_St) {o : Int32 × g_St} (hs0 : z_V true [] [] none u s0) (h : f_Pa_columnNamedAt r0 x1 s0 = some o) : z_V true [] [] none u o.2 := by
  unfold f_Pa_columnNamedAt at h
  exact v_Pa_columnNamedAt_2 _ _ _ _ _ hs0 h
theorem v_Te_init {u : g_St} (r0 : Option Nat) (x1 : Int32) (x2 : Int32) (r3 : Option Nat) (r4 : Option Nat) (s0 : g_St) {o : Unit × g_St} (hs0 : z_V true [] [] r0 u s0) (h : f_Te_init r0 x1 x2 r3 r4 s0 = some o) : z_V true [] [] r0 u o.2 := by
  unfold f_Te_init at h
  replace h := er_nn h
  refine er_pZ h (fun a1 ha h => ?_)
  have hs1 := hs0.pI (k := 11) (a := a1) x1 (Or.inr ha)
  refine er_pI h (fun a2 ha h => ?_)
  have hs2 := hs1.pI (k := 75) (a := a2) x2 (Or.inr ha)
  refine er_pR h (fun a3 ha h => ?_)
  have hs3 := hs2.pR (k := 139) (a := a3) r3 (Or.inr ha) (by decide)
  refine er_pR h (fun a4 ha h => ?_)
  have hs4 := hs3.pR (k := 203) (a := a4) r4 (Or.inr ha) (by decide)
  exact er_some h hs4
theorem v_Te_value_47 {u : g_St} {k4 : Int64 → Option Nat → g_St → Option (Int64 × g_St)} (hk4 : ∀ (y0 : Int64) (y1 : Option Nat) (s : g_St) {o : Int64 × g_St}, z_V true [] [] none u s → k4 y0 y1 s = some o → z_V true [] [] none u o.2) (y1 : Int64) (r3 : Option Nat) (y0s : Int64) (s0 : g_St) {o : Int64 × g_St} (hs0 : z_V true [] [] none u s0) (h : f_Te_value_47 k4 y1 r3 y0s s0 = some o) : z_V true [] [] none u o.2 := by
  unfold f_Te_value_47 at h
  refine fr_if h (fun h => ?_) (fun h => ?_)
  · exact er_some h hs0
  · refine er_gI h (fun i1 h => ?_)
    refine fr_if h (fun h => ?_) (fun h => ?_)
    · refine er_gR h (fun c1 p2 _ _ h => ?_)
      exact hk4 _ _ _ hs0 h
    · refine er_gR h (fun c2 p3 _ _ h => ?_)
      exact hk4 _ _ _ hs0 h
theorem v_Te_value_4 {u : g_St} : ∀ (n : Nat) (y1 : Int64) (r3 : Option Nat) (s0 : g_St) {o : Int64 × g_St}, z_V true [] [] none u s0 → f_Te_value_4 n y1 r3 s0 = some o → z_V true [] [] none u o.2 := by
  intro n
  induction n with
  | zero =>
    intro y1 r3 s0 o hs0  h
    rw [f_Te_value_4] at h
    cases h
  | succ n ih =>
    intro y1 r3 s0 o hs0  h
    rw [f_Te_value_4] at h
    refine fr_if h (fun h => ?_) (fun h => ?_)
    · exact er_some h hs0
    · refine er_gR h (fun c1 p1 _ _ h => ?_)
      refine fr_if h (fun h => ?_) (fun h => ?_)
      · refine er_gL h (fun j9 h => ?_)
        exact v_Te_value_47 (fun _ _ _ {_} hs h => ih _ _ _ hs h) _ _ _ _ hs0 h
      · refine er_gR h (fun c2 p2 _ _ h => ?_)
        refine er_gR h (fun c3 p3 _ _ h => ?_)
        refine er_gR h (fun c4 p4 _ _ h => ?_)
        refine er_gR h (fun c5 p5 _ _ h => ?_)
        refine er_gI h (fun i6 h => ?_)
        refine er_gI h (fun i7 h => ?_)
        refine er_aL h (fun j8 h => ?_)
        exact v_Te_value_47 (fun _ _ _ {_} hs h => ih _ _ _ hs h) _ _ _ _ hs0 h
theorem v_Te_value {u : g_St} (r0 : Option Nat) (s0 : g_St) {o : Int64 × g_St} (hs0 : z_V true [] [] none u s0) (h : f_Te_value r0 s0 = some o) : z_V true [] [] none u o.2 := by
  unfold f_Te_value at h
  exact v_Te_value_4 _ _ _ _ hs0 h
theorem v_Se_init {u : g_St} (r0 : Option Nat) (x1 : Int32) (x2 : Int32) (s0 : g_St) {o : Unit × g_St} (hs0 : z_V false [] [] r0 u s0) (h : f_Se_init r0 x1 x2 s0 = some o) : z_V false [] [] r0 u o.2 := by
  unfold f_Se_init at h
  replace h := er_nn h
  refine er_newA hs0 (by decide) h (fun p1 s2 hs1 fresh_p1 new_p1 h => ?_)
  refine er_pR h (fun a2 ha h => ?_)
  have hs2 := hs1.pRn (k := 136) (a := a2) p1 (Or.inr ha) fresh_p1 new_p1
  refine er_newA hs2 (by decide) h (fun p4 s5 hs3 fresh_p4 new_p4 h => ?_)
  refine er_pR h (fun a4 ha h => ?_)
  have hs4 := hs3.pRn (k := 200) (a := a4) p4 (Or.inr ha) fresh_p4 new_p4
  refine er_newA hs4 (by decide) h (fun p7 s8 hs5 fresh_p7 new_p7 h => ?_)
  refine er_pR h (fun a6 ha h => ?_)
  have hs6 := hs5.pRn (k := 392) (a := a6) p7 (Or.inr ha) fresh_p7 new_p7
  refine er_newA hs6 (by decide) h (fun p10 s11 hs7 fresh_p10 new_p10 h => ?_)
  refine er_pR h (fun a8 ha h => ?_)
  have hs8 := hs7.pRn (k := 520) (a := a8) p10 (Or.inr ha) fresh_p10 new_p10
  refine er_pI h (fun a9 ha h => ?_)
  have hs9 := hs8.pI (k := 8) (a := a9) x1 (Or.inr ha)
  refine er_pI h (fun a10 ha h => ?_)
  have hs10 := hs9.pI (k := 72) (a := a10) x2 (Or.inr ha)
  exact er_some h hs10
theorem v_Co_init {u : g_St} (r0 : Option Nat) (s0 : g_St) {o : Unit × g_St} (hs0 : z_V false [] [] r0 u s0) (h : f_Co_init r0 s0 = some o) : z_V false [] [] r0 u o.2 := by
  unfold f_Co_init at h
  replace h := er_nn h
  refine er_pR h (fun a1 ha h => ?_)
  have hs1 := hs0.pR (k := 10) (a := a1) (some 2509) (Or.inr ha) (by decide)
  refine er_newA hs1 (by decide) h (fun p2 s3 hs2 fresh_p2 new_p2 h => ?_)
  refine er_pR h (fun a3 ha h => ?_)
  have hs3 := hs2.pRn (k := 266) (a := a3) p2 (Or.inr ha) fresh_p2 new_p2
  exact er_some h hs3
theorem v_Qu_init {u : g_St} (r0 : Option Nat) (s0 : g_St) {o : Unit × g_St} (hs0 : z_V false [] [] r0 u s0) (h : f_Qu_init r0 s0 = some o) : z_V false [] [] r0 u o.2 := by
  unfold f_Qu_init at h
  replace h := er_nn h
  refine er_newA hs0 (by decide) h (fun p1 s2 hs1 fresh_p1 new_p1 h => ?_)
  refine er_pR h (fun a2 ha h => ?_)
  have hs2 := hs1.pRn (k := 6) (a := a2) p1 (Or.inr ha) fresh_p1 new_p1
  refine er_newA hs2 (by decide) h (fun p4 s5 hs3 fresh_p4 new_p4 h => ?_)
  refine er_pR h (fun a4 ha h => ?_)
  have hs4 := hs3.pRn (k := 262) (a := a4) p4 (Or.inr ha) fresh_p4 new_p4
  refine er_new hs4 (by decide) h (fun p7 s8 hs5 fresh_p7 h => ?_)
  refine fr_c h (fun v6 s10 hc h => ?_)
  have hs6 := hs5.transI (by decide) (fun z q => Or.inr (fresh_p7 z q)) ((v_Al_init _ _ z_V.re (er_nn hc)).mono (by decide) (by decide) (by decide) (Or.inr rfl))
  refine er_pR h (fun a7 ha h => ?_)
  have hs7 := hs6.pR (k := 518) (a := a7) p7 (Or.inr ha) (by decide)
  refine er_new hs7 (by decide) h (fun p12 s13 hs8 fresh_p12 h => ?_)
  refine fr_c h (fun v9 s15 hc h => ?_)
  have hs9 := hs8.transI (by decide) (fun z q => Or.inr (fresh_p12 z q)) ((v_Al_init _ _ z_V.re (er_nn hc)).mono (by decide) (by decide) (by decide) (Or.inr rfl))
  refine er_pR h (fun a10 ha h => ?_)
  have hs10 := hs9.pR (k := 582) (a := a10) p12 (Or.inr ha) (by decide)
  exact er_some h hs10
theorem v_Re_init {u : g_St} (r0 : Option Nat) (s0 : g_St) {o : Unit × g_St} (hs0 : z_V false [] [] r0 u s0) (h : f_Re_init r0 s0 = some o) : z_V false [] [] r0 u o.2 := by
  unfold f_Re_init at h
  replace h := er_nn h
  refine er_newA hs0 (by decide) h (fun p1 s2 hs1 fresh_p1 new_p1 h => ?_)
  refine er_pR h (fun a2 ha h => ?_)
  have hs2 := hs1.pRn (k := 2) (a := a2) p1 (Or.inr ha) fresh_p1 new_p1
  refine er_newA hs2 (by decide) h (fun p4 s5 hs3 fresh_p4 new_p4 h => ?_)
  refine er_pR h (fun a4 ha h => ?_)
  have hs4 := hs3.pRn (k := 130) (a := a4) p4 (Or.inr ha) fresh_p4 new_p4
  refine er_newA hs4 (by decide) h (fun p7 s8 hs5 fresh_p7 new_p7 h => ?_)
  refine er_pR h (fun a6 ha h => ?_)
  have hs6 := hs5.pRn (k := 194) (a := a6) p7 (Or.inr ha) fresh_p7 new_p7
  refine er_newA hs6 (by decide) h (fun p10 s11 hs7 fresh_p10 new_p10 h => ?_)
  refine er_pR h (fun a8 ha h => ?_)
  have hs8 := hs7.pRn (k := 258) (a := a8) p10 (Or.inr ha) fresh_p10 new_p10
  exact er_some h hs8
theorem v_Re_take_3 {u : g_St} : ∀ (n : Nat) (r0 : Option Nat) (x1 : Int32) (x2 : Int32) (s0 : g_St) {o : Int32 × g_St}, z_V true [66] [2] none u s0 → f_Re_take_3 n r0 x1 x2 s0 = some o → z_V true [66] [2] none u o.2 := by
  intro n
  induction n with
  | zero =>
    intro r0 x1 x2 s0 o hs0  h
    rw [f_Re_take_3] at h
    cases h
  | succ n ih =>
    intro r0 x1 x2 s0 o hs0  h
    rw [f_Re_take_3] at h
    refine fr_if h (fun h => ?_) (fun h => ?_)
    · exact er_some (er_rZ h) hs0
    · refine fr_if h (fun h => ?_) (fun h => ?_)
      · exact ih _ _ _ _ hs0 h
      · refine fr_if h (fun h => ?_) (fun h => ?_)
        · exact er_some (er_rZ h) hs0
        · refine fr_if h (fun h => ?_) (fun h => ?_)
          · exact er_some (er_rZ h) hs0
          · refine er_gI h (fun i1 h => ?_)
            refine fr_if h (fun h => ?_) (fun h => ?_)
            · refine er_gR h (fun c1 p2 _ ec1 h => ?_)
              have own_p2 : ∀ x, p2 = some x → g_al u x → z_own [2] u x := fun x q => hs0.own (by decide) (by decide) (by decide) (ec1.trans q)
              refine er_gI h (fun i3 h => ?_)
              refine er_sC h (fun x_2 ix2 ha h => ?_)
              have hs2 := hs0.sAI (own_p2 x_2 ha) ix2 (((((x1.toUInt32 >>> (x2.toUInt32 &&& Int32.toUInt32 31)).toInt32) &&& 255).toUInt32 % 65536).toInt32)
              refine er_gI h (fun i5 h => ?_)
              refine er_pI h (fun a3 ha h => ?_)
              have hs3 := hs2.pI (k := 66) (a := a3) (i5 + 1) (Or.inl (by decide))
              exact ih _ _ _ _ hs3 h
            · exact er_some (er_rZ h) hs0
theorem v_Re_take {u : g_St} (r0 : Option Nat) (x1 : Int32) (s0 : g_St) {o : Int32 × g_St} (hs0 : z_V true [66] [2] none u s0) (h : f_Re_take r0 x1 s0 = some o) : z_V true [66] [2] none u o.2 := by
  unfold f_Re_take at h
  exact v_Re_take_3 _ _ _ _ _ hs0 h
theorem v_Re_isSmall {u : g_St} (x0 : Int32) (s0 : g_St) {o : Int32 × g_St} (hs0 : z_V true [] [] none u s0) (h : f_Re_isSmall x0 s0 = some o) : z_V true [] [] none u o.2 := by
  unfold f_Re_isSmall at h
  refine fr_if h (fun h => ?_) (fun h => ?_)
  · exact er_some (er_rZ h) hs0
  · refine fr_if h (fun h => ?_) (fun h => ?_)
    · exact er_some (er_rZ h) hs0
    · exact er_some (er_rZ h) hs0
theorem v_Re_isDigit {u : g_St} (x0 : Int32) (s0 : g_St) {o : Int32 × g_St} (hs0 : z_V true [] [] none u s0) (h : f_Re_isDigit x0 s0 = some o) : z_V true [] [] none u o.2 := by
  unfold f_Re_isDigit at h
  refine fr_if h (fun h => ?_) (fun h => ?_)
  · exact er_some (er_rZ h) hs0
  · refine fr_if h (fun h => ?_) (fun h => ?_)
    · exact er_some (er_rZ h) hs0
    · exact er_some (er_rZ h) hs0
theorem v_Re_isCapital {u : g_St} (x0 : Int32) (s0 : g_St) {o : Int32 × g_St} (hs0 : z_V true [] [] none u s0) (h : f_Re_isCapital x0 s0 = some o) : z_V true [] [] none u o.2 := by
  unfold f_Re_isCapital at h
  refine fr_if h (fun h => ?_) (fun h => ?_)
  · exact er_some (er_rZ h) hs0
  · refine fr_if h (fun h => ?_) (fun h => ?_)
    · exact er_some (er_rZ h) hs0
    · exact er_some (er_rZ h) hs0
theorem v_Re_belongs {u : g_St} (x0 : Int32) (x1 : Int32) (s0 : g_St) {o : Int32 × g_St} (hs0 : z_V true [] [] none u s0) (h : f_Re_belongs x0 x1 s0 = some o) : z_V true [] [] none u o.2 := by
  unfold f_Re_belongs at h
  refine fr_c h (fun i1 s2 hc h => ?_)
  have hs1 := hs0.trans (by decide) ((v_Re_isSmall _ _ z_V.re hc).mono (by decide) (by decide) (by decide) (Or.inl rfl))
  refine fr_if h (fun h => ?_) (fun h => ?_)
  · refine fr_c h (fun i3 s4 hc h => ?_)
    have hs2 := hs1.trans (by decide) ((v_Re_isDigit _ _ z_V.re hc).mono (by decide) (by decide) (by decide) (Or.inl rfl))
    refine fr_if h (fun h => ?_) (fun h => ?_)
    · refine fr_c h (fun i5 s6 hc h => ?_)
      have hs3 := hs2.trans (by decide) ((v_Re_isCapital _ _ z_V.re hc).mono (by decide) (by decide) (by decide) (Or.inl rfl))
      refine fr_if h (fun h => ?_) (fun h => ?_)
      · exact er_some (er_rZ h) hs3
      · refine fr_c h (fun i7 s8 hc h => ?_)
        have hs4 := hs3.trans (by decide) ((v_Re_isCapital _ _ z_V.re hc).mono (by decide) (by decide) (by decide) (Or.inl rfl))
        refine fr_if h (fun h => ?_) (fun h => ?_)
        · exact er_some (er_rZ h) hs4
        · exact er_some (er_rZ h) hs4
    · refine fr_c h (fun i9 s10 hc h => ?_)
      have hs5 := hs2.trans (by decide) ((v_Re_isDigit _ _ z_V.re hc).mono (by decide) (by decide) (by decide) (Or.inl rfl))
      exact er_some (er_rZ h) hs5
  · refine fr_c h (fun i11 s12 hc h => ?_)
    have hs6 := hs1.trans (by decide) ((v_Re_isSmall _ _ z_V.re hc).mono (by decide) (by decide) (by decide) (Or.inl rfl))
    refine fr_if h (fun h => ?_) (fun h => ?_)
    · refine fr_c h (fun i13 s14 hc h => ?_)
      have hs7 := hs6.trans (by decide) ((v_Re_isDigit _ _ z_V.re hc).mono (by decide) (by decide) (by decide) (Or.inl rfl))
      refine fr_if h (fun h => ?_) (fun h => ?_)
      · exact er_some (er_rZ h) hs7
      · exact er_some (er_rZ h) hs7
    · exact er_some (er_rZ h) hs6
theorem v_Re_endOf_44 {u : g_St} : ∀ (n : Nat) (r0 : Option Nat) (x2 : Int32) (x3 : Int32) (s0 : g_St) {o : Int32 × g_St}, z_V true [] [] none u s0 → f_Re_endOf_44 n r0 x2 x3 s0 = some o → z_V true [] [] none u o.2 := by
  intro n
  induction n with
  | zero =>
    intro r0 x2 x3 s0 o hs0  h
    rw [f_Re_endOf_44] at h
    cases h
  | succ n ih =>
    intro r0 x2 x3 s0 o hs0  h
    rw [f_Re_endOf_44] at h
    refine er_gI h (fun i1 h => ?_)
    refine fr_if h (fun h => ?_) (fun h => ?_)
    · exact er_some h hs0
    · refine er_gR h (fun c1 p2 _ _ h => ?_)
      refine er_aI h (fun i3 h => ?_)
      refine fr_c h (fun i4 s5 hc h => ?_)
      have hs2 := hs0.trans (by decide) ((v_Re_belongs _ _ _ z_V.re hc).mono (by decide) (by decide) (by decide) (Or.inl rfl))
      refine fr_if h (fun h => ?_) (fun h => ?_)
      · exact er_some h hs2
      · exact ih _ _ _ _ hs2 h
theorem v_Re_endOf {u : g_St} (r0 : Option Nat) (x1 : Int32) (s0 : g_St) {o : Int32 × g_St} (hs0 : z_V true [] [] none u s0) (h : f_Re_endOf r0 x1 s0 = some o) : z_V true [] [] none u o.2 := by
  unfold f_Re_endOf at h
  refine er_gR h (fun c1 p1 _ _ h => ?_)
  refine er_aI h (fun i2 h => ?_)
  refine fr_if h (fun h => ?_) (fun h => ?_)
  · refine er_gI h (fun i3 h => ?_)
    refine fr_if h (fun h => ?_) (fun h => ?_)
    · exact v_Re_endOf_44 _ _ _ _ _ hs0 h
    · refine er_gR h (fun c2 p4 _ _ h => ?_)
      refine er_aI h (fun i5 h => ?_)
      refine fr_if h (fun h => ?_) (fun h => ?_)
      · exact er_some h hs0
      · exact v_Re_endOf_44 _ _ _ _ _ hs0 h
  · exact v_Re_endOf_44 _ _ _ _ _ hs0 h
theorem v_Re_isWritten_15 {u : g_St} : ∀ (n : Nat) (r0 : Option Nat) (r1 : Option Nat) (x2 : Int32) (x4 : Int32) (s0 : g_St) {o : Int32 × g_St}, z_V true [] [] none u s0 → f_Re_isWritten_15 n r0 r1 x2 x4 s0 = some o → z_V true [] [] none u o.2 := by
  intro n
  induction n with
  | zero =>
    intro r0 r1 x2 x4 s0 o hs0  h
    rw [f_Re_isWritten_15] at h
    cases h
  | succ n ih =>
    intro r0 r1 x2 x4 s0 o hs0  h
    rw [f_Re_isWritten_15] at h
    refine fr_c h (fun i1 s2 hc h => ?_)
    have hs1 := hs0.trans (by decide) ((v_Str_length _ _ z_V.re (er_str hc)).mono (by decide) (by decide) (by decide) (Or.inl rfl))
    refine fr_if h (fun h => ?_) (fun h => ?_)
    · exact er_some (er_rZ h) hs1
    · refine fr_c h (fun i3 s4 hc h => ?_)
      have hs2 := hs1.trans (by decide) ((v_Str_charAt _ _ _ z_V.re (er_str hc)).mono (by decide) (by decide) (by decide) (Or.inl rfl))
      refine er_gR h (fun c3 p5 _ _ h => ?_)
      refine er_aI h (fun i6 h => ?_)
      refine fr_if h (fun h => ?_) (fun h => ?_)
      · exact ih _ _ _ _ _ hs2 h
      · exact er_some (er_rZ h) hs2
theorem v_Re_isWritten {u : g_St} (r0 : Option Nat) (r1 : Option Nat) (x2 : Int32) (x3 : Int32) (s0 : g_St) {o : Int32 × g_St} (hs0 : z_V true [] [] none u s0) (h : f_Re_isWritten r0 r1 x2 x3 s0 = some o) : z_V true [] [] none u o.2 := by
  unfold f_Re_isWritten at h
  refine fr_c h (fun i1 s2 hc h => ?_)
  have hs1 := hs0.trans (by decide) ((v_Str_length _ _ z_V.re (er_str hc)).mono (by decide) (by decide) (by decide) (Or.inl rfl))
  refine fr_if h (fun h => ?_) (fun h => ?_)
  · exact v_Re_isWritten_15 _ _ _ _ _ _ hs1 h
  · exact er_some (er_rZ h) hs1
theorem v_Re_kindOf_61 {u : g_St} : ∀ (n : Nat) (r0 : Option Nat) (x1 : Int32) (x2 : Int32) (x3 : Int32) (s0 : g_St) {o : Option Nat × g_St}, z_V true [] [] none u s0 → f_Re_kindOf_61 n r0 x1 x2 x3 s0 = some o → z_V true [] [] none u o.2 := by
  intro n
  induction n with
  | zero =>
    intro r0 x1 x2 x3 s0 o hs0  h
    rw [f_Re_kindOf_61] at h
    cases h
  | succ n ih =>
    intro r0 x1 x2 x3 s0 o hs0  h
    rw [f_Re_kindOf_61] at h
    refine er_ksl h (fun i1 h => ?_)
    refine fr_if h (fun h => ?_) (fun h => ?_)
    · exact er_some h hs0
    · refine er_ksa h (fun p2 h => ?_)
      refine er_sfR h (fun p3 h => ?_)
      refine fr_c h (fun i4 s5 hc h => ?_)
      have hs1 := hs0.trans (by decide) ((v_Re_isWritten _ _ _ _ _ z_V.re (er_nn hc)).mono (by decide) (by decide) (by decide) (Or.inl rfl))
      refine fr_if h (fun h => ?_) (fun h => ?_)
      · exact ih _ _ _ _ _ hs1 h
      · refine er_ksa h (fun p6 h => ?_)
        exact er_some h hs1
theorem v_Re_kindOf {u : g_St} (r0 : Option Nat) (x1 : Int32) (x2 : Int32) (s0 : g_St) {o : Option Nat × g_St} (hs0 : z_V true [] [] none u s0) (h : f_Re_kindOf r0 x1 x2 s0 = some o) : z_V true [] [] none u o.2 := by
  unfold f_Re_kindOf at h
  refine er_gR h (fun c1 p1 _ _ h => ?_)
  refine er_aI h (fun i2 h => ?_)
  refine fr_c h (fun i3 s4 hc h => ?_)
  have hs2 := hs0.trans (by decide) ((v_Re_isSmall _ _ z_V.re hc).mono (by decide) (by decide) (by decide) (Or.inl rfl))
  refine fr_if h (fun h => ?_) (fun h => ?_)
  · refine er_gR h (fun c3 p5 _ _ h => ?_)
    refine er_aI h (fun i6 h => ?_)
    refine fr_c h (fun i7 s8 hc h => ?_)
    have hs4 := hs2.trans (by decide) ((v_Re_isDigit _ _ z_V.re hc).mono (by decide) (by decide) (by decide) (Or.inl rfl))
    refine fr_if h (fun h => ?_) (fun h => ?_)
    · exact v_Re_kindOf_61 _ _ _ _ _ _ hs4 h
    · refine fr_if h (fun h => ?_) (fun h => ?_)
      · exact er_some h hs4
      · exact er_some h hs4
  · refine fr_if h (fun h => ?_) (fun h => ?_)
    · exact er_some h hs2
    · exact er_some h hs2
theorem v_Re_wordOf_58 {u : g_St} : ∀ (n : Nat) (r0 : Option Nat) (x3 : Int32) (y4 : Int64) (x6 : Int32) (s0 : g_St) {o : Int64 × g_St}, z_V true [] [] none u s0 → f_Re_wordOf_58 n r0 x3 y4 x6 s0 = some o → z_V true [] [] none u o.2 := by
  intro n
  induction n with
  | zero =>
    intro r0 x3 y4 x6 s0 o hs0  h
    rw [f_Re_wordOf_58] at h
    cases h
  | succ n ih =>
    intro r0 x3 y4 x6 s0 o hs0  h
    rw [f_Re_wordOf_58] at h
    refine fr_if h (fun h => ?_) (fun h => ?_)
    · exact er_some h hs0
    · refine er_gR h (fun c1 p1 _ _ h => ?_)
      refine er_aI h (fun i2 h => ?_)
      exact ih _ _ _ _ _ hs0 h
theorem v_Re_wordOf_13 {u : g_St} : ∀ (n : Nat) (r0 : Option Nat) (x3 : Int32) (y4 : Int64) (x6 : Int32) (s0 : g_St) {o : Int64 × g_St}, z_V true [] [] none u s0 → f_Re_wordOf_13 n r0 x3 y4 x6 s0 = some o → z_V true [] [] none u o.2 := by
  intro n
  induction n with
  | zero =>
    intro r0 x3 y4 x6 s0 o hs0  h
    rw [f_Re_wordOf_13] at h
    cases h
  | succ n ih =>
    intro r0 x3 y4 x6 s0 o hs0  h
    rw [f_Re_wordOf_13] at h
    refine fr_if h (fun h => ?_) (fun h => ?_)
    · exact er_some h hs0
    · refine er_gR h (fun c1 p1 _ _ h => ?_)
      refine er_aI h (fun i2 h => ?_)
      exact ih _ _ _ _ _ hs0 h
theorem v_Re_wordOf {u : g_St} (r0 : Option Nat) (r1 : Option Nat) (x2 : Int32) (x3 : Int32) (s0 : g_St) {o : Int64 × g_St} (hs0 : z_V true [] [] none u s0) (h : f_Re_wordOf r0 r1 x2 x3 s0 = some o) : z_V true [] [] none u o.2 := by
  unfold f_Re_wordOf at h
  refine fr_if h (fun h => ?_) (fun h => ?_)
  · exact v_Re_wordOf_13 _ _ _ _ _ _ hs0 h
  · refine fr_if h (fun h => ?_) (fun h => ?_)
    · exact v_Re_wordOf_58 _ _ _ _ _ _ hs0 h
    · exact er_some h hs0
theorem v_Re_cut_6 {u : g_St} : ∀ (n : Nat) (r0 : Option Nat) (x1 : Int32) (x2 : Int32) (x3 : Int32) (s0 : g_St) {o : Unit × g_St}, z_V true [] [130, 194, 258] none u s0 → f_Re_cut_6 n r0 x1 x2 x3 s0 = some o → z_V true [] [130, 194, 258] none u o.2 := by
  intro n
  induction n with
  | zero =>
    intro r0 x1 x2 x3 s0 o hs0  h
    rw [f_Re_cut_6] at h
    cases h
  | succ n ih =>
    intro r0 x1 x2 x3 s0 o hs0  h
    rw [f_Re_cut_6] at h
    refine er_gI h (fun i1 h => ?_)
    refine fr_if h (fun h => ?_) (fun h => ?_)
    · refine er_gR h (fun c1 p2 _ ec1 h => ?_)
      have own_p2 : ∀ x, p2 = some x → g_al u x → z_own [130, 194, 258] u x := fun x q => hs0.own (by decide) (by decide) (by decide) (ec1.trans q)
      refine er_sR h (fun x_2 ix2 ha h => ?_)
      have hs2 := hs0.sAR (own_p2 x_2 ha) ix2 (some 2445)
      refine er_gR h (fun c3 p4 _ ec3 h => ?_)
      have own_p4 : ∀ x, p4 = some x → g_al u x → z_own [130, 194, 258] u x := fun x q => hs2.own (by decide) (by decide) (by decide) (ec3.trans q)
      refine er_gI h (fun i5 h => ?_)
      refine er_sI h (fun x_4 ix4 ha h => ?_)
      have hs4 := hs2.sAI (own_p4 x_4 ha) ix4 i5
      refine er_gR h (fun c5 p7 _ ec5 h => ?_)
      have own_p7 : ∀ x, p7 = some x → g_al u x → z_own [130, 194, 258] u x := fun x q => hs4.own (by decide) (by decide) (by decide) (ec5.trans q)
      refine er_sL h (fun x_6 ix6 ha h => ?_)
      have hs6 := hs4.sAL (own_p7 x_6 ha) ix6 0
      exact er_some h hs6
    · refine fr_if h (fun h => ?_) (fun h => ?_)
      · exact ih _ _ _ _ _ hs0 h
      · refine er_gR h (fun c7 p9 _ _ h => ?_)
        refine er_aI h (fun i10 h => ?_)
        refine fr_if h (fun h => ?_) (fun h => ?_)
        · exact ih _ _ _ _ _ hs0 h
        · refine fr_c h (fun i11 s12 hc h => ?_)
          have hs8 := hs0.trans (by decide) ((v_Re_endOf _ _ _ z_V.re (er_nn hc)).mono (by decide) (by decide) (by decide) (Or.inl rfl))
          refine er_gR h (fun c9 p13 _ ec9 h => ?_)
          have own_p13 : ∀ x, p13 = some x → g_al u x → z_own [130, 194, 258] u x := fun x q => hs8.own (by decide) (by decide) (by decide) (ec9.trans q)
          refine fr_c h (fun p14 s15 hc h => ?_)
          have hs10 := hs8.trans (by decide) ((v_Re_kindOf _ _ _ _ z_V.re (er_nn hc)).mono (by decide) (by decide) (by decide) (Or.inl rfl))
          refine er_sR h (fun x_11 ix11 ha h => ?_)
          have hs11 := hs10.sAR (own_p13 x_11 ha) ix11 p14
          refine er_gR h (fun c12 p17 _ ec12 h => ?_)
          have own_p17 : ∀ x, p17 = some x → g_al u x → z_own [130, 194, 258] u x := fun x q => hs11.own (by decide) (by decide) (by decide) (ec12.trans q)
          refine er_sI h (fun x_13 ix13 ha h => ?_)
          have hs13 := hs11.sAI (own_p17 x_13 ha) ix13 x3
          refine er_gR h (fun c14 p19 _ ec14 h => ?_)
          have own_p19 : ∀ x, p19 = some x → g_al u x → z_own [130, 194, 258] u x := fun x q => hs13.own (by decide) (by decide) (by decide) (ec14.trans q)
          refine er_gR h (fun c15 p20 _ ec15 h => ?_)
          have own_p20 : ∀ x, p20 = some x → g_al u x → z_own [130, 194, 258] u x := fun x q => hs13.own (by decide) (by decide) (by decide) (ec15.trans q)
          refine er_aR h (fun p21 h => ?_)
          refine fr_c h (fun j22 s23 hc h => ?_)
          have hs16 := hs13.trans (by decide) ((v_Re_wordOf _ _ _ _ _ z_V.re (er_nn hc)).mono (by decide) (by decide) (by decide) (Or.inl rfl))
          refine er_sL h (fun x_17 ix17 ha h => ?_)
          have hs17 := hs16.sAL (own_p19 x_17 ha) ix17 j22
          exact ih _ _ _ _ _ hs17 h
theorem v_Re_cut {u : g_St} (r0 : Option Nat) (s0 : g_St) {o : Unit × g_St} (hs0 : z_V true [] [130, 194, 258] none u s0) (h : f_Re_cut r0 s0 = some o) : z_V true [] [130, 194, 258] none u o.2 := by
  unfold f_Re_cut at h
  exact v_Re_cut_6 _ _ _ _ _ _ hs0 h
theorem v_Re_accept {u : g_St} (r0 : Option Nat) (r1 : Option Nat) (s0 : g_St) {o : Int32 × g_St} (hs0 : z_V true [322] [] none u s0) (h : f_Re_accept r0 r1 s0 = some o) : z_V true [322] [] none u o.2 := by
  unfold f_Re_accept at h
  refine er_gI h (fun i1 h => ?_)
  refine fr_if h (fun h => ?_) (fun h => ?_)
  · refine er_gR h (fun c1 p2 _ _ h => ?_)
    refine er_gI h (fun i3 h => ?_)
    refine er_aR h (fun p4 h => ?_)
    refine fr_if h (fun h => ?_) (fun h => ?_)
    · refine er_gI h (fun i5 h => ?_)
      refine er_pI h (fun a2 ha h => ?_)
      have hs2 := hs0.pI (k := 322) (a := a2) (i5 + 1) (Or.inl (by decide))
      exact er_some (er_rZ h) hs2
    · exact er_some (er_rZ h) hs0
  · exact er_some (er_rZ h) hs0
theorem v_Re_name {u : g_St} (r0 : Option Nat) (s0 : g_St) {o : Int64 × g_St} (hs0 : z_V true [322, 386] [] none u s0) (h : f_Re_name r0 s0 = some o) : z_V true [322, 386] [] none u o.2 := by
  unfold f_Re_name at h
  refine er_gI h (fun i1 h => ?_)
  refine fr_if h (fun h => ?_) (fun h => ?_)
  · refine er_gR h (fun c1 p3 _ _ h => ?_)
    refine er_gI h (fun i4 h => ?_)
    refine er_aR h (fun p5 h => ?_)
    refine fr_if h (fun h => ?_) (fun h => ?_)
    · refine er_gI h (fun i6 h => ?_)
      refine er_pI h (fun a2 ha h => ?_)
      have hs2 := hs0.pI (k := 322) (a := a2) (i6 + 1) (Or.inl (by decide))
      refine er_gR h (fun c3 p8 _ _ h => ?_)
      refine er_gI h (fun i9 h => ?_)
      refine er_aL h (fun j10 h => ?_)
      exact er_some h hs2
    · refine er_pZ h (fun a4 ha h => ?_)
      have hs4 := hs0.pI (k := 386) (a := a4) 1 (Or.inl (by decide))
      exact er_some h hs4
  · refine er_pZ h (fun a5 ha h => ?_)
    have hs5 := hs0.pI (k := 386) (a := a5) 1 (Or.inl (by decide))
    exact er_some h hs5
theorem v_Re_expect {u : g_St} (r0 : Option Nat) (r1 : Option Nat) (s0 : g_St) {o : Unit × g_St} (hs0 : z_V true [322, 386] [] none u s0) (h : f_Re_expect r0 r1 s0 = some o) : z_V true [322, 386] [] none u o.2 := by
  unfold f_Re_expect at h
  refine er_gI h (fun i1 h => ?_)
  refine fr_if h (fun h => ?_) (fun h => ?_)
  · refine er_gR h (fun c1 p3 _ _ h => ?_)
    refine er_gI h (fun i4 h => ?_)
    refine er_aR h (fun p5 h => ?_)
    refine fr_if h (fun h => ?_) (fun h => ?_)
    · refine er_gI h (fun i6 h => ?_)
      refine er_pI h (fun a2 ha h => ?_)
      have hs2 := hs0.pI (k := 322) (a := a2) (i6 + 1) (Or.inl (by decide))
      exact er_some h hs2
    · refine er_pZ h (fun a3 ha h => ?_)
      have hs3 := hs0.pI (k := 386) (a := a3) 1 (Or.inl (by decide))
      exact er_some h hs3
  · refine er_pZ h (fun a4 ha h => ?_)
    have hs4 := hs0.pI (k := 386) (a := a4) 1 (Or.inl (by decide))
    exact er_some h hs4
theorem v_Re_nameInto {u : g_St} (r0 : Option Nat) (r1 : Option Nat) (x2 : Int32) (s0 : g_St) {o : Unit × g_St} (hs0 : z_V true [322, 386] [199, 263] none u s0) (h : f_Re_nameInto r0 r1 x2 s0 = some o) : z_V true [322, 386] [199, 263] none u o.2 := by
  unfold f_Re_nameInto at h
  refine er_gR h (fun c1 p1 _ ec1 h => ?_)
  have own_p1 : ∀ x, p1 = some x → g_al u x → z_own [199, 263] u x := fun x q => hs0.own (by decide) (by decide) (by decide) (ec1.trans q)
  refine er_gR h (fun c2 p2 _ _ h => ?_)
  refine er_gI h (fun i3 h => ?_)
  refine er_aI h (fun i4 h => ?_)
  refine er_sI h (fun x_3 ix3 ha h => ?_)
  have hs3 := hs0.sAI (own_p1 x_3 ha) ix3 i4
  refine er_gR h (fun c4 p6 _ ec4 h => ?_)
  have own_p6 : ∀ x, p6 = some x → g_al u x → z_own [199, 263] u x := fun x q => hs3.own (by decide) (by decide) (by decide) (ec4.trans q)
  refine fr_c h (fun j7 s8 hc h => ?_)
  have hs5 := hs3.trans (by decide) ((v_Re_name _ _ z_V.re (er_nn hc)).mono (by decide) (by decide) (by decide) (Or.inl rfl))
  refine er_sL h (fun x_6 ix6 ha h => ?_)
  have hs6 := hs5.sAL (own_p6 x_6 ha) ix6 j7
  exact er_some h hs6
theorem v_Re_head_91 {u : g_St} (r0 : Option Nat) (r1 : Option Nat) (s0 : g_St) {o : Option Nat × g_St} (hs0 : z_V false [7, 71, 135, 322, 386] [199, 263] none u s0) (h : f_Re_head_91 r0 r1 s0 = some o) : z_V false [7, 71, 135, 322, 386] [199, 263] none u o.2 := by
  unfold f_Re_head_91 at h
  refine fr_c h (fun v1 s2 hc h => ?_)
  have hs1 := hs0.trans (by decide) ((v_Re_expect _ _ _ z_V.re (er_nn hc)).mono (by decide) (by decide) (by decide) (Or.inl rfl))
  refine fr_c h (fun v2 s4 hc h => ?_)
  have hs2 := hs1.trans (by decide) ((v_Re_expect _ _ _ z_V.re (er_nn hc)).mono (by decide) (by decide) (by decide) (Or.inl rfl))
  refine fr_c h (fun v3 s6 hc h => ?_)
  have hs3 := hs2.trans (by decide) ((v_Re_expect _ _ _ z_V.re (er_nn hc)).mono (by decide) (by decide) (by decide) (Or.inl rfl))
  exact er_some h hs3
theorem v_Re_head_40 {u : g_St} : ∀ (n : Nat) (r0 : Option Nat) (r1 : Option Nat) (x2 : Int32) (x3 : Int32) (s0 : g_St) {o : Option Nat × g_St}, z_V false [7, 71, 135, 322, 386] [199, 263] none u s0 → f_Re_head_40 n r0 r1 x2 x3 s0 = some o → z_V false [7, 71, 135, 322, 386] [199, 263] none u o.2 := by
  intro n
  induction n with
  | zero =>
    intro r0 r1 x2 x3 s0 o hs0  h
    rw [f_Re_head_40] at h
    cases h
  | succ n ih =>
    intro r0 r1 x2 x3 s0 o hs0  h
    rw [f_Re_head_40] at h
    refine fr_if h (fun h => ?_) (fun h => ?_)
    · exact v_Re_head_91 _ _ _ hs0 h
    · refine fr_if h (fun h => ?_) (fun h => ?_)
      · exact v_Re_head_91 _ _ _ hs0 h
      · refine fr_c h (fun v1 s2 hc h => ?_)
        have hs1 := hs0.trans (by decide) ((v_Re_nameInto _ _ _ _ z_V.re (er_nn hc)).mono (by decide) (by decide) (by decide) (Or.inl rfl))
        refine er_pI h (fun a2 ha h => ?_)
        have hs2 := hs1.pI (k := 135) (a := a2) (x3 + 1) (Or.inl (by decide))
        refine fr_if h (fun h => ?_) (fun h => ?_)
        · exact ih _ _ _ _ _ hs2 h
        · refine fr_c h (fun i4 s5 hc h => ?_)
          have hs3 := hs2.trans (by decide) ((v_Re_accept _ _ _ z_V.re (er_nn hc)).mono (by decide) (by decide) (by decide) (Or.inl rfl))
          refine fr_if h (fun h => ?_) (fun h => ?_)
          · exact ih _ _ _ _ _ hs3 h
          · exact ih _ _ _ _ _ hs3 h
theorem v_Re_head {u : g_St} (r0 : Option Nat) (s0 : g_St) {o : Option Nat × g_St} (hs0 : z_V false [7, 71, 135, 322, 386] [199, 263] none u s0) (h : f_Re_head r0 s0 = some o) : z_V false [7, 71, 135, 322, 386] [199, 263] none u o.2 := by
  unfold f_Re_head at h
  refine er_new hs0 (by decide) h (fun p1 s2 hs1 fresh_p1 h => ?_)
  refine fr_c h (fun v2 s4 hc h => ?_)
  have hs2 := hs1.transI (by decide) (fun z q => Or.inr (fresh_p1 z q)) ((v_Pa_init _ _ z_V.re (er_nn hc)).mono (by decide) (by decide) (by decide) (Or.inr rfl))
  refine er_gR h (fun c3 p5 _ _ h => ?_)
  refine er_gI h (fun i6 h => ?_)
  refine er_aI h (fun i7 h => ?_)
  refine er_pI h (fun a4 ha h => ?_)
  have hs4 := hs2.pI (k := 71) (a := a4) i7 (Or.inl (by decide))
  refine fr_c h (fun j9 s10 hc h => ?_)
  have hs5 := hs4.trans (by decide) ((v_Re_name _ _ z_V.re (er_nn hc)).mono (by decide) (by decide) (by decide) (Or.inl rfl))
  refine er_pL h (fun a6 ha h => ?_)
  have hs6 := hs5.pL (k := 7) (a := a6) j9 (Or.inl (by decide))
  refine fr_c h (fun v7 s13 hc h => ?_)
  have hs7 := hs6.trans (by decide) ((v_Re_expect _ _ _ z_V.re (er_nn hc)).mono (by decide) (by decide) (by decide) (Or.inl rfl))
  exact v_Re_head_40 _ _ _ _ _ _ hs7 h
theorem v_Re_operand {u : g_St} (r0 : Option Nat) (x1 : Int32) (s0 : g_St) {o : Option Nat × g_St} (hs0 : z_V false [12, 76, 140, 267, 322, 331, 386, 395] [76] none u s0) (h : f_Re_operand r0 x1 s0 = some o) : z_V false [12, 76, 140, 267, 322, 331, 386, 395] [76] none u o.2 := by
  unfold f_Re_operand at h
  refine er_new hs0 (by decide) h (fun p1 s2 hs1 fresh_p1 h => ?_)
  refine er_gR h (fun c2 p3 _ _ h => ?_)
  refine er_gI h (fun i4 h => ?_)
  refine er_aI h (fun i5 h => ?_)
  refine er_gR h (fun c3 p6 _ _ h => ?_)
  refine er_gR h (fun c4 p7 _ _ h => ?_)
  refine fr_c h (fun v5 s9 hc h => ?_)
  have hs5 := hs1.transI (by decide) (fun z q => Or.inr (fresh_p1 z q)) ((v_Te_init _ _ _ _ _ _ z_V.re (er_nn hc)).mono (by decide) (by decide) (by decide) (Or.inr rfl))
  refine fr_c h (fun i10 s11 hc h => ?_)
  have hs6 := hs5.trans (by decide) ((v_Re_accept _ _ _ z_V.re (er_nn hc)).mono (by decide) (by decide) (by decide) (Or.inl rfl))
  refine fr_if h (fun h => ?_) (fun h => ?_)
  · refine fr_c h (fun i12 s13 hc h => ?_)
    have hs7 := hs6.trans (by decide) ((v_Re_accept _ _ _ z_V.re (er_nn hc)).mono (by decide) (by decide) (by decide) (Or.inl rfl))
    refine fr_if h (fun h => ?_) (fun h => ?_)
    · refine fr_c h (fun j14 s15 hc h => ?_)
      have hs8 := hs7.trans (by decide) ((v_Re_name _ _ z_V.re (er_nn hc)).mono (by decide) (by decide) (by decide) (Or.inl rfl))
      refine er_pL h (fun a9 ha h => ?_)
      have hs9 := hs8.pL (k := 331) (a := a9) j14 (Or.inl (by decide))
      refine fr_c h (fun v10 s18 hc h => ?_)
      have hs10 := hs9.trans (by decide) ((v_Re_expect _ _ _ z_V.re (er_nn hc)).mono (by decide) (by decide) (by decide) (Or.inl rfl))
      refine fr_c h (fun j19 s20 hc h => ?_)
      have hs11 := hs10.trans (by decide) ((v_Re_name _ _ z_V.re (er_nn hc)).mono (by decide) (by decide) (by decide) (Or.inl rfl))
      refine er_pL h (fun a12 ha h => ?_)
      have hs12 := hs11.pL (k := 395) (a := a12) j19 (Or.inl (by decide))
      refine er_gR h (fun c13 p22 _ _ h => ?_)
      refine er_gR h (fun c14 p23 _ _ h => ?_)
      refine fr_c h (fun i24 s25 hc h => ?_)
      have hs15 := hs12.trans (by decide) ((v_Al_add _ _ _ z_V.re (er_nn hc)).mono (by decide) (by decide) (by decide) (Or.inl rfl))
      exact er_some h hs15
    · refine er_gR h (fun c16 p26 _ _ h => ?_)
      refine er_gI h (fun i27 h => ?_)
      refine er_aL h (fun j28 h => ?_)
      refine er_pL h (fun a17 ha h => ?_)
      have hs17 := hs7.pL (k := 267) (a := a17) j28 (Or.inl (by decide))
      exact er_some h hs17
  · refine er_pL h (fun a18 ha h => ?_)
    have hs18 := hs6.pL (k := 267) (a := a18) 1099511627776 (Or.inl (by decide))
    exact er_some h hs18
theorem v_Re_expression_42 {u : g_St} {k10 : Option Nat → Option Nat → Option Nat → Int32 → g_St → Option (Option Nat × g_St)} (hk10 : ∀ (y0 : Option Nat) (y1 : Option Nat) (y2 : Option Nat) (y3 : Int32) (s : g_St) {o : Option Nat × g_St}, z_V false [12, 76, 140, 267, 322, 331, 386, 395, 651] [76] none u s → k10 y0 y1 y2 y3 s = some o → z_V false [12, 76, 140, 267, 322, 331, 386, 395, 651] [76] none u o.2) (r0 : Option Nat) (r1 : Option Nat) (r2 : Option Nat) (x3 : Int32) (x4 : Int32) (s0 : g_St) {o : Option Nat × g_St} (hs0 : z_V false [12, 76, 140, 267, 322, 331, 386, 395, 651] [76] none u s0) (h : f_Re_expression_42 k10 r0 r1 r2 x3 x4 s0 = some o) : z_V false [12, 76, 140, 267, 322, 331, 386, 395, 651] [76] none u o.2 := by
  unfold f_Re_expression_42 at h
  refine fr_c h (fun p1 s2 hc h => ?_)
  have hs1 := hs0.trans (by decide) ((v_Re_operand _ _ _ z_V.re (er_nn hc)).mono (by decide) (by decide) (by decide) (Or.inl rfl))
  refine er_pR h (fun a2 ha h => ?_)
  have hs2 := hs1.pR (k := 651) (a := a2) p1 (Or.inl (by decide)) (by decide)
  refine er_gR h (fun c3 p4 _ _ h => ?_)
  exact hk10 _ _ _ _ _ hs2 h
theorem v_Re_expression_10 {u : g_St} : ∀ (n : Nat) (r0 : Option Nat) (r1 : Option Nat) (r2 : Option Nat) (x3 : Int32) (s0 : g_St) {o : Option Nat × g_St}, z_V false [12, 76, 140, 267, 322, 331, 386, 395, 651] [76] none u s0 → f_Re_expression_10 n r0 r1 r2 x3 s0 = some o → z_V false [12, 76, 140, 267, 322, 331, 386, 395, 651] [76] none u o.2 := by
  intro n
  induction n with
  | zero =>
    intro r0 r1 r2 x3 s0 o hs0  h
    rw [f_Re_expression_10] at h
    cases h
  | succ n ih =>
    intro r0 r1 r2 x3 s0 o hs0  h
    rw [f_Re_expression_10] at h
    refine fr_if h (fun h => ?_) (fun h => ?_)
    · exact er_some h hs0
    · refine fr_c h (fun i1 s2 hc h => ?_)
      have hs1 := hs0.trans (by decide) ((v_Re_accept _ _ _ z_V.re (er_nn hc)).mono (by decide) (by decide) (by decide) (Or.inl rfl))
      refine fr_if h (fun h => ?_) (fun h => ?_)
      · refine fr_c h (fun i3 s4 hc h => ?_)
        have hs2 := hs1.trans (by decide) ((v_Re_accept _ _ _ z_V.re (er_nn hc)).mono (by decide) (by decide) (by decide) (Or.inl rfl))
        refine fr_if h (fun h => ?_) (fun h => ?_)
        · exact er_some h hs2
        · exact v_Re_expression_42 (fun _ _ _ _ _ {_} hs h => ih _ _ _ _ _ hs h) _ _ _ _ _ _ hs2 h
      · exact v_Re_expression_42 (fun _ _ _ _ _ {_} hs h => ih _ _ _ _ _ hs h) _ _ _ _ _ _ hs1 h
theorem v_Re_expression {u : g_St} (r0 : Option Nat) (s0 : g_St) {o : Option Nat × g_St} (hs0 : z_V false [12, 76, 140, 267, 322, 331, 386, 395, 651] [76] none u s0) (h : f_Re_expression r0 s0 = some o) : z_V false [12, 76, 140, 267, 322, 331, 386, 395, 651] [76] none u o.2 := by
  unfold f_Re_expression at h
  refine fr_c h (fun p1 s2 hc h => ?_)
  have hs1 := hs0.trans (by decide) ((v_Re_operand _ _ _ z_V.re (er_nn hc)).mono (by decide) (by decide) (by decide) (Or.inl rfl))
  exact v_Re_expression_10 _ _ _ _ _ _ hs1 h
theorem v_Re_item_176 {u : g_St} (r0 : Option Nat) (x1 : Int32) (r2 : Option Nat) (s0 : g_St) {o : Unit × g_St} (hs0 : z_V false [12, 76, 140, 264, 267, 322, 328, 331, 386, 395, 651, 712] [76, 136, 200] none u s0) (h : f_Re_item_176 r0 x1 r2 s0 = some o) : z_V false [12, 76, 140, 264, 267, 322, 328, 331, 386, 395, 651, 712] [76, 136, 200] none u o.2 := by
  unfold f_Re_item_176 at h
  refine er_gR h (fun c1 p1 _ _ h => ?_)
  refine er_gR h (fun c2 p2 _ ec2 h => ?_)
  have own_p2 : ∀ x, p2 = some x → g_al u x → z_own [76, 136, 200] u x := fun x q => hs0.own (by decide) (by decide) (by decide) (ec2.trans q)
  refine er_sR h (fun x_3 ix3 ha h => ?_)
  have hs3 := hs0.sAR (own_p2 x_3 ha) ix3 r2
  refine er_gR h (fun c4 p4 _ _ h => ?_)
  refine er_gI h (fun i5 h => ?_)
  refine er_pI h (fun a5 ha h => ?_)
  have hs5 := hs3.pI (k := 328) (a := a5) (i5 + 1) (Or.inl (by decide))
  exact er_some h hs5
theorem v_Re_item_95 {u : g_St} (r0 : Option Nat) (x1 : Int32) (r2 : Option Nat) (s0 : g_St) {o : Unit × g_St} (hs0 : z_V false [12, 76, 140, 264, 267, 322, 328, 331, 386, 395, 651, 712] [76, 136, 200] none u s0) (h : f_Re_item_95 r0 x1 r2 s0 = some o) : z_V false [12, 76, 140, 264, 267, 322, 328, 331, 386, 395, 651, 712] [76, 136, 200] none u o.2 := by
  unfold f_Re_item_95 at h
  refine fr_c h (fun v1 s2 hc h => ?_)
  have hs1 := hs0.trans (by decide) ((v_Re_expect _ _ _ z_V.re (er_nn hc)).mono (by decide) (by decide) (by decide) (Or.inl rfl))
  refine er_gR h (fun c2 p3 _ _ h => ?_)
  refine er_gR h (fun c3 p4 _ ec3 h => ?_)
  have own_p4 : ∀ x, p4 = some x → g_al u x → z_own [76, 136, 200] u x := fun x q => hs1.own (by decide) (by decide) (by decide) (ec3.trans q)
  refine fr_c h (fun p5 s6 hc h => ?_)
  have hs4 := hs1.trans (by decide) ((v_Re_expression _ _ z_V.re (er_nn hc)).mono (by decide) (by decide) (by decide) (Or.inl rfl))
  refine er_sR h (fun x_5 ix5 ha h => ?_)
  have hs5 := hs4.sAR (own_p4 x_5 ha) ix5 p5
  refine fr_c h (fun v6 s9 hc h => ?_)
  have hs6 := hs5.trans (by decide) ((v_Re_expect _ _ _ z_V.re (er_nn hc)).mono (by decide) (by decide) (by decide) (Or.inl rfl))
  exact v_Re_item_176 _ _ _ _ hs6 h
theorem v_Re_item {u : g_St} (r0 : Option Nat) (s0 : g_St) {o : Unit × g_St} (hs0 : z_V false [12, 76, 140, 264, 267, 322, 328, 331, 386, 395, 651, 712] [76, 136, 200] none u s0) (h : f_Re_item r0 s0 = some o) : z_V false [12, 76, 140, 264, 267, 322, 328, 331, 386, 395, 651, 712] [76, 136, 200] none u o.2 := by
  unfold f_Re_item at h
  refine er_gR h (fun c1 p1 _ _ h => ?_)
  refine er_gI h (fun i2 h => ?_)
  refine er_gR h (fun c2 p3 _ _ h => ?_)
  refine er_gI h (fun i4 h => ?_)
  refine er_aR h (fun p5 h => ?_)
  refine er_gR h (fun c3 p6 _ _ h => ?_)
  refine er_gI h (fun i7 h => ?_)
  refine er_pI h (fun a4 ha h => ?_)
  have hs4 := hs0.pI (k := 264) (a := a4) (i7 + 1) (Or.inl (by decide))
  refine fr_c h (fun i9 s10 hc h => ?_)
  have hs5 := hs4.trans (by decide) ((v_Re_accept _ _ _ z_V.re (er_nn hc)).mono (by decide) (by decide) (by decide) (Or.inl rfl))
  refine fr_if h (fun h => ?_) (fun h => ?_)
  · refine fr_c h (fun i11 s12 hc h => ?_)
    have hs6 := hs5.trans (by decide) ((v_Re_accept _ _ _ z_V.re (er_nn hc)).mono (by decide) (by decide) (by decide) (Or.inl rfl))
    refine fr_if h (fun h => ?_) (fun h => ?_)
    · refine fr_c h (fun i13 s14 hc h => ?_)
      have hs7 := hs6.trans (by decide) ((v_Re_accept _ _ _ z_V.re (er_nn hc)).mono (by decide) (by decide) (by decide) (Or.inl rfl))
      refine fr_if h (fun h => ?_) (fun h => ?_)
      · refine fr_c h (fun i15 s16 hc h => ?_)
        have hs8 := hs7.trans (by decide) ((v_Re_accept _ _ _ z_V.re (er_nn hc)).mono (by decide) (by decide) (by decide) (Or.inl rfl))
        refine fr_if h (fun h => ?_) (fun h => ?_)
        · refine er_gR h (fun c9 p17 _ _ h => ?_)
          refine er_gR h (fun c10 p18 _ ec10 h => ?_)
          have own_p18 : ∀ x, p18 = some x → g_al u x → z_own [76, 136, 200] u x := fun x q => hs8.own (by decide) (by decide) (by decide) (ec10.trans q)
          refine fr_c h (fun p19 s20 hc h => ?_)
          have hs11 := hs8.trans (by decide) ((v_Re_expression _ _ z_V.re (er_nn hc)).mono (by decide) (by decide) (by decide) (Or.inl rfl))
          refine er_sR h (fun x_12 ix12 ha h => ?_)
          have hs12 := hs11.sAR (own_p18 x_12 ha) ix12 p19
          refine er_gR h (fun c13 p22 _ _ h => ?_)
          refine er_gR h (fun c14 p23 _ _ h => ?_)
          refine er_gI h (fun i24 h => ?_)
          refine fr_if h (fun h => ?_) (fun h => ?_)
          · refine er_gR h (fun c15 p26 _ _ h => ?_)
            refine er_gR h (fun c16 p27 _ ec16 h => ?_)
            have own_p27 : ∀ x, p27 = some x → g_al u x → z_own [76, 136, 200] u x := fun x q => hs12.own (by decide) (by decide) (by decide) (ec16.trans q)
            refine er_aR h (fun p28 h => ?_)
            refine er_gR h (fun c17 p29 _ _ h => ?_)
            refine fr_if h (fun h => ?_) (fun h => ?_)
            · refine er_pZ h (fun a18 ha h => ?_)
              have hs18 := hs12.pI (k := 712) (a := a18) 0 (Or.inl (by decide))
              exact er_some h hs18
            · refine er_pZ h (fun a19 ha h => ?_)
              have hs19 := hs12.pI (k := 712) (a := a19) 1 (Or.inl (by decide))
              exact er_some h hs19
          · refine er_pZ h (fun a20 ha h => ?_)
            have hs20 := hs12.pI (k := 712) (a := a20) 1 (Or.inl (by decide))
            exact er_some h hs20
        · exact v_Re_item_95 _ _ _ _ hs8 h
      · exact v_Re_item_95 _ _ _ _ hs7 h
    · exact v_Re_item_95 _ _ _ _ hs6 h
  · refine fr_c h (fun v21 s33 hc h => ?_)
    have hs21 := hs5.trans (by decide) ((v_Re_expect _ _ _ z_V.re (er_nn hc)).mono (by decide) (by decide) (by decide) (Or.inl rfl))
    refine fr_c h (fun v22 s35 hc h => ?_)
    have hs22 := hs21.trans (by decide) ((v_Re_expect _ _ _ z_V.re (er_nn hc)).mono (by decide) (by decide) (by decide) (Or.inl rfl))
    refine fr_c h (fun v23 s37 hc h => ?_)
    have hs23 := hs22.trans (by decide) ((v_Re_expect _ _ _ z_V.re (er_nn hc)).mono (by decide) (by decide) (by decide) (Or.inl rfl))
    exact v_Re_item_176 _ _ _ _ hs23 h
theorem v_Re_source {u : g_St} (r0 : Option Nat) (x1 : Int32) (s0 : g_St) {o : Option Nat × g_St} (hs0 : z_V false [12, 76, 140, 201, 265, 322, 329, 386] [76] none u s0) (h : f_Re_source r0 x1 s0 = some o) : z_V false [12, 76, 140, 201, 265, 322, 329, 386] [76] none u o.2 := by
  unfold f_Re_source at h
  refine er_new hs0 (by decide) h (fun p1 s2 hs1 fresh_p1 h => ?_)
  refine er_gR h (fun c2 p3 _ _ h => ?_)
  refine er_gR h (fun c3 p4 _ _ h => ?_)
  refine er_gI h (fun i5 h => ?_)
  refine er_aI h (fun i6 h => ?_)
  refine fr_c h (fun v4 s8 hc h => ?_)
  have hs4 := hs1.transI (by decide) (fun z q => Or.inr (fresh_p1 z q)) ((v_So_init _ _ _ _ _ z_V.re (er_nn hc)).mono (by decide) (by decide) (by decide) (Or.inr rfl))
  refine fr_c h (fun j9 s10 hc h => ?_)
  have hs5 := hs4.trans (by decide) ((v_Re_name _ _ z_V.re (er_nn hc)).mono (by decide) (by decide) (by decide) (Or.inl rfl))
  refine er_pL h (fun a6 ha h => ?_)
  have hs6 := hs5.pL (k := 201) (a := a6) j9 (Or.inl (by decide))
  refine er_gR h (fun c7 p12 _ _ h => ?_)
  refine er_gI h (fun i13 h => ?_)
  refine er_aI h (fun i14 h => ?_)
  refine er_pI h (fun a8 ha h => ?_)
  have hs8 := hs6.pI (k := 265) (a := a8) i14 (Or.inl (by decide))
  refine fr_c h (fun j16 s17 hc h => ?_)
  have hs9 := hs8.trans (by decide) ((v_Re_name _ _ z_V.re (er_nn hc)).mono (by decide) (by decide) (by decide) (Or.inl rfl))
  refine er_pL h (fun a10 ha h => ?_)
  have hs10 := hs9.pL (k := 329) (a := a10) j16 (Or.inl (by decide))
  refine er_gR h (fun c11 p19 _ _ h => ?_)
  refine er_gR h (fun c12 p20 _ _ h => ?_)
  refine fr_c h (fun i21 s22 hc h => ?_)
  have hs13 := hs10.trans (by decide) ((v_Al_add _ _ _ z_V.re (er_nn hc)).mono (by decide) (by decide) (by decide) (Or.inl rfl))
  exact er_some h hs13
theorem v_Re_comparison_81 {u : g_St} (r0 : Option Nat) (r1 : Option Nat) (s0 : g_St) {o : Unit × g_St} (hs0 : z_V false [10, 12, 74, 76, 138, 140, 267, 322, 331, 386, 395, 651] [76] none u s0) (h : f_Re_comparison_81 r0 r1 s0 = some o) : z_V false [10, 12, 74, 76, 138, 140, 267, 322, 331, 386, 395, 651] [76] none u o.2 := by
  unfold f_Re_comparison_81 at h
  refine fr_c h (fun p1 s2 hc h => ?_)
  have hs1 := hs0.trans (by decide) ((v_Re_expression _ _ z_V.re (er_nn hc)).mono (by decide) (by decide) (by decide) (Or.inl rfl))
  refine er_pR h (fun a2 ha h => ?_)
  have hs2 := hs1.pR (k := 138) (a := a2) p1 (Or.inl (by decide)) (by decide)
  exact er_some h hs2
theorem v_Re_comparison {u : g_St} (r0 : Option Nat) (r1 : Option Nat) (s0 : g_St) {o : Unit × g_St} (hs0 : z_V false [10, 12, 74, 76, 138, 140, 267, 322, 331, 386, 395, 651] [76] none u s0) (h : f_Re_comparison r0 r1 s0 = some o) : z_V false [10, 12, 74, 76, 138, 140, 267, 322, 331, 386, 395, 651] [76] none u o.2 := by
  unfold f_Re_comparison at h
  refine fr_c h (fun p1 s2 hc h => ?_)
  have hs1 := hs0.trans (by decide) ((v_Re_expression _ _ z_V.re (er_nn hc)).mono (by decide) (by decide) (by decide) (Or.inl rfl))
  refine er_pR h (fun a2 ha h => ?_)
  have hs2 := hs1.pR (k := 74) (a := a2) p1 (Or.inl (by decide)) (by decide)
  refine er_gR h (fun c3 p4 _ _ h => ?_)
  refine er_gI h (fun i5 h => ?_)
  refine er_aR h (fun p6 h => ?_)
  refine er_pR h (fun a4 ha h => ?_)
  have hs4 := hs2.pR (k := 10) (a := a4) p6 (Or.inl (by decide)) (by decide)
  refine fr_c h (fun i8 s9 hc h => ?_)
  have hs5 := hs4.trans (by decide) ((v_Re_accept _ _ _ z_V.re (er_nn hc)).mono (by decide) (by decide) (by decide) (Or.inl rfl))
  refine fr_if h (fun h => ?_) (fun h => ?_)
  · refine fr_c h (fun i10 s11 hc h => ?_)
    have hs6 := hs5.trans (by decide) ((v_Re_accept _ _ _ z_V.re (er_nn hc)).mono (by decide) (by decide) (by decide) (Or.inl rfl))
    refine fr_if h (fun h => ?_) (fun h => ?_)
    · refine fr_c h (fun i12 s13 hc h => ?_)
      have hs7 := hs6.trans (by decide) ((v_Re_accept _ _ _ z_V.re (er_nn hc)).mono (by decide) (by decide) (by decide) (Or.inl rfl))
      refine fr_if h (fun h => ?_) (fun h => ?_)
      · refine fr_c h (fun i14 s15 hc h => ?_)
        have hs8 := hs7.trans (by decide) ((v_Re_accept _ _ _ z_V.re (er_nn hc)).mono (by decide) (by decide) (by decide) (Or.inl rfl))
        refine fr_if h (fun h => ?_) (fun h => ?_)
        · refine fr_c h (fun i16 s17 hc h => ?_)
          have hs9 := hs8.trans (by decide) ((v_Re_accept _ _ _ z_V.re (er_nn hc)).mono (by decide) (by decide) (by decide) (Or.inl rfl))
          refine fr_if h (fun h => ?_) (fun h => ?_)
          · refine er_pZ h (fun a10 ha h => ?_)
            have hs10 := hs9.pI (k := 386) (a := a10) 1 (Or.inl (by decide))
            exact er_some h hs10
          · exact v_Re_comparison_81 _ _ _ hs9 h
        · exact v_Re_comparison_81 _ _ _ hs8 h
      · exact v_Re_comparison_81 _ _ _ hs7 h
    · exact v_Re_comparison_81 _ _ _ hs6 h
  · refine fr_c h (fun v11 s20 hc h => ?_)
    have hs11 := hs5.trans (by decide) ((v_Re_expect _ _ _ z_V.re (er_nn hc)).mono (by decide) (by decide) (by decide) (Or.inl rfl))
    exact er_some h hs11
theorem v_Re_condition_209 {u : g_St} (r0 : Option Nat) (r1 : Option Nat) (s0 : g_St) {o : Option Nat × g_St} (hs0 : z_V false [10, 12, 74, 76, 138, 140, 201, 202, 265, 267, 322, 329, 330, 331, 386, 395, 578, 651] [76, 266] none u s0) (h : f_Re_condition_209 r0 r1 s0 = some o) : z_V false [10, 12, 74, 76, 138, 140, 201, 202, 265, 267, 322, 329, 330, 331, 386, 395, 578, 651] [76, 266] none u o.2 := by
  unfold f_Re_condition_209 at h
  refine fr_c h (fun v1 s2 hc h => ?_)
  have hs1 := hs0.trans (by decide) ((v_Re_expect _ _ _ z_V.re (er_nn hc)).mono (by decide) (by decide) (by decide) (Or.inl rfl))
  refine er_pR h (fun a2 ha h => ?_)
  have hs2 := hs1.pR (k := 578) (a := a2) none (Or.inl (by decide)) (by decide)
  exact er_some h hs2
theorem v_Re_condition_141 {u : g_St} : ∀ (n : Nat) (r0 : Option Nat) (r1 : Option Nat) (x2 : Int32) (x3 : Int32) (s0 : g_St) {o : Option Nat × g_St}, z_V false [10, 12, 74, 76, 138, 140, 201, 202, 265, 267, 322, 329, 330, 331, 386, 395, 578, 651] [76, 266] none u s0 → f_Re_condition_141 n r0 r1 x2 x3 s0 = some o → z_V false [10, 12, 74, 76, 138, 140, 201, 202, 265, 267, 322, 329, 330, 331, 386, 395, 578, 651] [76, 266] none u o.2 := by
  intro n
  induction n with
  | zero =>
    intro r0 r1 x2 x3 s0 o hs0  h
    rw [f_Re_condition_141] at h
    cases h
  | succ n ih =>
    intro r0 r1 x2 x3 s0 o hs0  h
    rw [f_Re_condition_141] at h
    refine fr_if h (fun h => ?_) (fun h => ?_)
    · exact v_Re_condition_209 _ _ _ hs0 h
    · refine fr_if h (fun h => ?_) (fun h => ?_)
      · exact v_Re_condition_209 _ _ _ hs0 h
      · refine er_gR h (fun c1 p1 _ ec1 h => ?_)
        have own_p1 : ∀ x, p1 = some x → g_al u x → z_own [76, 266] u x := fun x q => hs0.own (by decide) (by decide) (by decide) (ec1.trans q)
        refine er_new hs0 (by decide) h (fun p2 s3 hs2 fresh_p2 h => ?_)
        refine fr_c h (fun v3 s5 hc h => ?_)
        have hs3 := hs2.transI (by decide) (fun z q => Or.inr (fresh_p2 z q)) ((v_Co_init _ _ z_V.re (er_nn hc)).mono (by decide) (by decide) (by decide) (Or.inr rfl))
        refine er_sR h (fun x_4 ix4 ha h => ?_)
        have hs4 := hs3.sAR (own_p1 x_4 ha) ix4 p2
        refine er_pI h (fun a5 ha h => ?_)
        have hs5 := hs4.pI (k := 330) (a := a5) (x3 + 1) (Or.inl (by decide))
        refine er_gR h (fun c6 p8 _ ec6 h => ?_)
        have own_p8 : ∀ x, p8 = some x → g_al u x → z_own [76, 266] u x := fun x q => hs5.own (by decide) (by decide) (by decide) (ec6.trans q)
        refine er_aR h (fun p9 h => ?_)
        refine fr_c h (fun v7 s11 hc h => ?_)
        have hs7 := hs5.trans (by decide) ((v_Re_comparison _ _ _ z_V.re (er_nn hc)).mono (by decide) (by decide) (by decide) (Or.inl rfl))
        refine fr_if h (fun h => ?_) (fun h => ?_)
        · exact ih _ _ _ _ _ hs7 h
        · refine fr_c h (fun i12 s13 hc h => ?_)
          have hs8 := hs7.trans (by decide) ((v_Re_accept _ _ _ z_V.re (er_nn hc)).mono (by decide) (by decide) (by decide) (Or.inl rfl))
          refine fr_if h (fun h => ?_) (fun h => ?_)
          · exact ih _ _ _ _ _ hs8 h
          · exact ih _ _ _ _ _ hs8 h
theorem v_Re_condition_105 {u : g_St} (r0 : Option Nat) (r1 : Option Nat) (r0s : Option Nat) (x1s : Int32) (s0 : g_St) {o : Option Nat × g_St} (hs0 : z_V false [10, 12, 74, 76, 138, 140, 201, 202, 265, 267, 322, 329, 330, 331, 386, 395, 578, 651] [76, 266] none u s0) (h : f_Re_condition_105 r0 r1 r0s x1s s0 = some o) : z_V false [10, 12, 74, 76, 138, 140, 201, 202, 265, 267, 322, 329, 330, 331, 386, 395, 578, 651] [76, 266] none u o.2 := by
  unfold f_Re_condition_105 at h
  refine er_pZ h (fun a1 ha h => ?_)
  have hs1 := hs0.pI (k := 386) (a := a1) x1s (Or.inl (by decide))
  refine fr_c h (fun v2 s3 hc h => ?_)
  have hs2 := hs1.trans (by decide) ((v_Re_expect _ _ _ z_V.re (er_nn hc)).mono (by decide) (by decide) (by decide) (Or.inl rfl))
  refine fr_c h (fun v3 s5 hc h => ?_)
  have hs3 := hs2.trans (by decide) ((v_Re_expect _ _ _ z_V.re (er_nn hc)).mono (by decide) (by decide) (by decide) (Or.inl rfl))
  refine fr_c h (fun p6 s7 hc h => ?_)
  have hs4 := hs3.trans (by decide) ((v_Re_source _ _ _ z_V.re (er_nn hc)).mono (by decide) (by decide) (by decide) (Or.inl rfl))
  refine er_pR h (fun a5 ha h => ?_)
  have hs5 := hs4.pR (k := 202) (a := a5) p6 (Or.inl (by decide)) (by decide)
  refine fr_c h (fun i9 s10 hc h => ?_)
  have hs6 := hs5.trans (by decide) ((v_Re_accept _ _ _ z_V.re (er_nn hc)).mono (by decide) (by decide) (by decide) (Or.inl rfl))
  exact v_Re_condition_141 _ _ _ _ _ _ hs6 h
theorem v_Re_condition {u : g_St} (r0 : Option Nat) (s0 : g_St) {o : Option Nat × g_St} (hs0 : z_V false [10, 12, 74, 76, 138, 140, 201, 202, 265, 267, 322, 329, 330, 331, 386, 395, 578, 651] [76, 266] none u s0) (h : f_Re_condition r0 s0 = some o) : z_V false [10, 12, 74, 76, 138, 140, 201, 202, 265, 267, 322, 329, 330, 331, 386, 395, 578, 651] [76, 266] none u o.2 := by
  unfold f_Re_condition at h
  refine er_new hs0 (by decide) h (fun p1 s2 hs1 fresh_p1 h => ?_)
  refine fr_c h (fun v2 s4 hc h => ?_)
  have hs2 := hs1.transI (by decide) (fun z q => Or.inr (fresh_p1 z q)) ((v_Co_init _ _ z_V.re (er_nn hc)).mono (by decide) (by decide) (by decide) (Or.inr rfl))
  refine er_pR h (fun a3 ha h => ?_)
  have hs3 := hs2.pR (k := 578) (a := a3) p1 (Or.inl (by decide)) (by decide)
  refine fr_c h (fun i6 s7 hc h => ?_)
  have hs4 := hs3.trans (by decide) ((v_Re_accept _ _ _ z_V.re (er_nn hc)).mono (by decide) (by decide) (by decide) (Or.inl rfl))
  refine fr_if h (fun h => ?_) (fun h => ?_)
  · refine fr_c h (fun v5 s23 hc h => ?_)
    have hs5 := hs4.trans (by decide) ((v_Re_comparison _ _ _ z_V.re (er_nn hc)).mono (by decide) (by decide) (by decide) (Or.inl rfl))
    refine er_pR h (fun a6 ha h => ?_)
    have hs6 := hs5.pR (k := 578) (a := a6) none (Or.inl (by decide)) (by decide)
    exact er_some h hs6
  · refine er_pR h (fun a7 ha h => ?_)
    have hs7 := hs4.pR (k := 10) (a := a7) (some 525) (Or.inl (by decide)) (by decide)
    refine fr_c h (fun v8 s10 hc h => ?_)
    have hs8 := hs7.trans (by decide) ((v_Re_expect _ _ _ z_V.re (er_nn hc)).mono (by decide) (by decide) (by decide) (Or.inl rfl))
    refine fr_c h (fun v9 s12 hc h => ?_)
    have hs9 := hs8.trans (by decide) ((v_Re_expect _ _ _ z_V.re (er_nn hc)).mono (by decide) (by decide) (by decide) (Or.inl rfl))
    refine fr_c h (fun v10 s14 hc h => ?_)
    have hs10 := hs9.trans (by decide) ((v_Re_expect _ _ _ z_V.re (er_nn hc)).mono (by decide) (by decide) (by decide) (Or.inl rfl))
    refine er_gI h (fun i15 h => ?_)
    refine fr_if h (fun h => ?_) (fun h => ?_)
    · refine er_gR h (fun c11 p16 _ _ h => ?_)
      refine er_gI h (fun i17 h => ?_)
      refine er_aR h (fun p18 h => ?_)
      refine fr_if h (fun h => ?_) (fun h => ?_)
      · refine er_gR h (fun c12 p19 _ _ h => ?_)
        refine er_gI h (fun i20 h => ?_)
        refine er_aL h (fun j21 h => ?_)
        refine fr_if h (fun h => ?_) (fun h => ?_)
        · exact v_Re_condition_105 _ _ _ _ _ hs10 h
        · exact v_Re_condition_105 _ _ _ _ _ hs10 h
      · exact v_Re_condition_105 _ _ _ _ _ hs10 h
    · exact v_Re_condition_105 _ _ _ _ _ hs10 h
theorem v_Re_selection_167 {u : g_St} : ∀ (n : Nat) (r0 : Option Nat) (r2 : Option Nat) (x3 : Int32) (x4 : Int32) (s0 : g_St) {o : Option Nat × g_St}, z_V false [10, 12, 74, 76, 138, 140, 201, 202, 264, 265, 267, 322, 328, 329, 330, 331, 386, 395, 456, 514, 578, 584, 651, 712] [76, 136, 200, 266, 392, 520] none u s0 → f_Re_selection_167 n r0 r2 x3 x4 s0 = some o → z_V false [10, 12, 74, 76, 138, 140, 201, 202, 264, 265, 267, 322, 328, 329, 330, 331, 386, 395, 456, 514, 578, 584, 651, 712] [76, 136, 200, 266, 392, 520] none u o.2 := by
  intro n
  induction n with
  | zero =>
    intro r0 r2 x3 x4 s0 o hs0  h
    rw [f_Re_selection_167] at h
    cases h
  | succ n ih =>
    intro r0 r2 x3 x4 s0 o hs0  h
    rw [f_Re_selection_167] at h
    refine fr_if h (fun h => ?_) (fun h => ?_)
    · exact er_some h hs0
    · refine fr_if h (fun h => ?_) (fun h => ?_)
      · exact er_some h hs0
      · refine er_gR h (fun c1 p1 _ ec1 h => ?_)
        have own_p1 : ∀ x, p1 = some x → g_al u x → z_own [76, 136, 200, 266, 392, 520] u x := fun x q => hs0.own (by decide) (by decide) (by decide) (ec1.trans q)
        refine fr_c h (fun p2 s3 hc h => ?_)
        have hs2 := hs0.trans (by decide) ((v_Re_condition _ _ z_V.re (er_nn hc)).mono (by decide) (by decide) (by decide) (Or.inl rfl))
        refine er_sR h (fun x_3 ix3 ha h => ?_)
        have hs3 := hs2.sAR (own_p1 x_3 ha) ix3 p2
        refine er_pI h (fun a4 ha h => ?_)
        have hs4 := hs3.pI (k := 584) (a := a4) (x4 + 1) (Or.inl (by decide))
        refine fr_if h (fun h => ?_) (fun h => ?_)
        · exact ih _ _ _ _ _ hs4 h
        · refine fr_c h (fun i6 s7 hc h => ?_)
          have hs5 := hs4.trans (by decide) ((v_Re_accept _ _ _ z_V.re (er_nn hc)).mono (by decide) (by decide) (by decide) (Or.inl rfl))
          refine fr_if h (fun h => ?_) (fun h => ?_)
          · exact ih _ _ _ _ _ hs5 h
          · exact ih _ _ _ _ _ hs5 h
theorem v_Re_selection_156 {u : g_St} (r0 : Option Nat) (r2 : Option Nat) (s0 : g_St) {o : Option Nat × g_St} (hs0 : z_V false [10, 12, 74, 76, 138, 140, 201, 202, 264, 265, 267, 322, 328, 329, 330, 331, 386, 395, 456, 514, 578, 584, 651, 712] [76, 136, 200, 266, 392, 520] none u s0) (h : f_Re_selection_156 r0 r2 s0 = some o) : z_V false [10, 12, 74, 76, 138, 140, 201, 202, 264, 265, 267, 322, 328, 329, 330, 331, 386, 395, 456, 514, 578, 584, 651, 712] [76, 136, 200, 266, 392, 520] none u o.2 := by
  unfold f_Re_selection_156 at h
  refine fr_c h (fun i1 s2 hc h => ?_)
  have hs1 := hs0.trans (by decide) ((v_Re_accept _ _ _ z_V.re (er_nn hc)).mono (by decide) (by decide) (by decide) (Or.inl rfl))
  exact v_Re_selection_167 _ _ _ _ _ _ hs1 h
theorem v_Re_selection_95 {u : g_St} : ∀ (n : Nat) (r0 : Option Nat) (r2 : Option Nat) (x3 : Int32) (x4 : Int32) (s0 : g_St) {o : Option Nat × g_St}, z_V false [10, 12, 74, 76, 138, 140, 201, 202, 264, 265, 267, 322, 328, 329, 330, 331, 386, 395, 456, 514, 578, 584, 651, 712] [76, 136, 200, 266, 392, 520] none u s0 → f_Re_selection_95 n r0 r2 x3 x4 s0 = some o → z_V false [10, 12, 74, 76, 138, 140, 201, 202, 264, 265, 267, 322, 328, 329, 330, 331, 386, 395, 456, 514, 578, 584, 651, 712] [76, 136, 200, 266, 392, 520] none u o.2 := by
  intro n
  induction n with
  | zero =>
    intro r0 r2 x3 x4 s0 o hs0  h
    rw [f_Re_selection_95] at h
    cases h
  | succ n ih =>
    intro r0 r2 x3 x4 s0 o hs0  h
    rw [f_Re_selection_95] at h
    refine fr_if h (fun h => ?_) (fun h => ?_)
    · exact v_Re_selection_156 _ _ _ hs0 h
    · refine fr_if h (fun h => ?_) (fun h => ?_)
      · exact v_Re_selection_156 _ _ _ hs0 h
      · refine er_gR h (fun c1 p1 _ ec1 h => ?_)
        have own_p1 : ∀ x, p1 = some x → g_al u x → z_own [76, 136, 200, 266, 392, 520] u x := fun x q => hs0.own (by decide) (by decide) (by decide) (ec1.trans q)
        refine fr_c h (fun p2 s3 hc h => ?_)
        have hs2 := hs0.trans (by decide) ((v_Re_source _ _ _ z_V.re (er_nn hc)).mono (by decide) (by decide) (by decide) (Or.inl rfl))
        refine er_sR h (fun x_3 ix3 ha h => ?_)
        have hs3 := hs2.sAR (own_p1 x_3 ha) ix3 p2
        refine er_pI h (fun a4 ha h => ?_)
        have hs4 := hs3.pI (k := 456) (a := a4) (x4 + 1) (Or.inl (by decide))
        refine fr_if h (fun h => ?_) (fun h => ?_)
        · exact ih _ _ _ _ _ hs4 h
        · refine fr_c h (fun i6 s7 hc h => ?_)
          have hs5 := hs4.trans (by decide) ((v_Re_accept _ _ _ z_V.re (er_nn hc)).mono (by decide) (by decide) (by decide) (Or.inl rfl))
          refine fr_if h (fun h => ?_) (fun h => ?_)
          · exact ih _ _ _ _ _ hs5 h
          · exact ih _ _ _ _ _ hs5 h
theorem v_Re_selection_84 {u : g_St} (r0 : Option Nat) (r2 : Option Nat) (s0 : g_St) {o : Option Nat × g_St} (hs0 : z_V false [10, 12, 74, 76, 138, 140, 201, 202, 264, 265, 267, 322, 328, 329, 330, 331, 386, 395, 456, 514, 578, 584, 651, 712] [76, 136, 200, 266, 392, 520] none u s0) (h : f_Re_selection_84 r0 r2 s0 = some o) : z_V false [10, 12, 74, 76, 138, 140, 201, 202, 264, 265, 267, 322, 328, 329, 330, 331, 386, 395, 456, 514, 578, 584, 651, 712] [76, 136, 200, 266, 392, 520] none u o.2 := by
  unfold f_Re_selection_84 at h
  refine fr_c h (fun i1 s2 hc h => ?_)
  have hs1 := hs0.trans (by decide) ((v_Re_accept _ _ _ z_V.re (er_nn hc)).mono (by decide) (by decide) (by decide) (Or.inl rfl))
  exact v_Re_selection_95 _ _ _ _ _ _ hs1 h
theorem v_Re_selection_40 {u : g_St} : ∀ (n : Nat) (r0 : Option Nat) (r2 : Option Nat) (x3 : Int32) (x4 : Int32) (s0 : g_St) {o : Option Nat × g_St}, z_V false [10, 12, 74, 76, 138, 140, 201, 202, 264, 265, 267, 322, 328, 329, 330, 331, 386, 395, 456, 514, 578, 584, 651, 712] [76, 136, 200, 266, 392, 520] none u s0 → f_Re_selection_40 n r0 r2 x3 x4 s0 = some o → z_V false [10, 12, 74, 76, 138, 140, 201, 202, 264, 265, 267, 322, 328, 329, 330, 331, 386, 395, 456, 514, 578, 584, 651, 712] [76, 136, 200, 266, 392, 520] none u o.2 := by
  intro n
  induction n with
  | zero =>
    intro r0 r2 x3 x4 s0 o hs0  h
    rw [f_Re_selection_40] at h
    cases h
  | succ n ih =>
    intro r0 r2 x3 x4 s0 o hs0  h
    rw [f_Re_selection_40] at h
    refine fr_if h (fun h => ?_) (fun h => ?_)
    · exact v_Re_selection_84 _ _ _ hs0 h
    · refine fr_if h (fun h => ?_) (fun h => ?_)
      · exact v_Re_selection_84 _ _ _ hs0 h
      · refine fr_c h (fun v1 s2 hc h => ?_)
        have hs1 := hs0.trans (by decide) ((v_Re_item _ _ z_V.re (er_nn hc)).mono (by decide) (by decide) (by decide) (Or.inl rfl))
        refine fr_if h (fun h => ?_) (fun h => ?_)
        · exact ih _ _ _ _ _ hs1 h
        · refine fr_c h (fun i3 s4 hc h => ?_)
          have hs2 := hs1.trans (by decide) ((v_Re_accept _ _ _ z_V.re (er_nn hc)).mono (by decide) (by decide) (by decide) (Or.inl rfl))
          refine fr_if h (fun h => ?_) (fun h => ?_)
          · exact ih _ _ _ _ _ hs2 h
          · exact ih _ _ _ _ _ hs2 h
theorem v_Re_selection {u : g_St} (r0 : Option Nat) (x1 : Int32) (s0 : g_St) {o : Option Nat × g_St} (hs0 : z_V false [10, 12, 74, 76, 138, 140, 201, 202, 264, 265, 267, 322, 328, 329, 330, 331, 386, 395, 456, 514, 578, 584, 651, 712] [76, 136, 200, 266, 392, 520] none u s0) (h : f_Re_selection r0 x1 s0 = some o) : z_V false [10, 12, 74, 76, 138, 140, 201, 202, 264, 265, 267, 322, 328, 329, 330, 331, 386, 395, 456, 514, 578, 584, 651, 712] [76, 136, 200, 266, 392, 520] none u o.2 := by
  unfold f_Re_selection at h
  refine er_new hs0 (by decide) h (fun p1 s2 hs1 fresh_p1 h => ?_)
  refine er_gR h (fun c2 p3 _ _ h => ?_)
  refine er_gI h (fun i4 h => ?_)
  refine er_aI h (fun i5 h => ?_)
  refine fr_c h (fun v3 s7 hc h => ?_)
  have hs3 := hs1.transI (by decide) (fun z q => Or.inr (fresh_p1 z q)) ((v_Se_init _ _ _ _ z_V.re (er_nn hc)).mono (by decide) (by decide) (by decide) (Or.inr rfl))
  refine er_pR h (fun a4 ha h => ?_)
  have hs4 := hs3.pR (k := 514) (a := a4) p1 (Or.inl (by decide)) (by decide)
  refine er_pR h (fun a5 ha h => ?_)
  have hs5 := hs4.pR (k := 578) (a := a5) none (Or.inl (by decide)) (by decide)
  refine fr_c h (fun v6 s11 hc h => ?_)
  have hs6 := hs5.trans (by decide) ((v_Re_expect _ _ _ z_V.re (er_nn hc)).mono (by decide) (by decide) (by decide) (Or.inl rfl))
  exact v_Re_selection_40 _ _ _ _ _ _ hs6 h
theorem v_Re_joins {u : g_St} (r0 : Option Nat) (r1 : Option Nat) (s0 : g_St) {o : Int32 × g_St} (hs0 : z_V true [322, 519, 583] [] none u s0) (h : f_Re_joins r0 r1 s0 = some o) : z_V true [322, 519, 583] [] none u o.2 := by
  unfold f_Re_joins at h
  refine fr_c h (fun i1 s2 hc h => ?_)
  have hs1 := hs0.trans (by decide) ((v_Re_accept _ _ _ z_V.re (er_nn hc)).mono (by decide) (by decide) (by decide) (Or.inl rfl))
  refine fr_if h (fun h => ?_) (fun h => ?_)
  · exact er_some (er_rZ h) hs1
  · refine fr_c h (fun i3 s4 hc h => ?_)
    have hs2 := hs1.trans (by decide) ((v_Re_accept _ _ _ z_V.re (er_nn hc)).mono (by decide) (by decide) (by decide) (Or.inl rfl))
    refine fr_if h (fun h => ?_) (fun h => ?_)
    · refine er_pZ h (fun a3 ha h => ?_)
      have hs3 := hs2.pI (k := 519) (a := a3) 1 (Or.inl (by decide))
      exact er_some (er_rZ h) hs3
    · refine er_pZ h (fun a4 ha h => ?_)
      have hs4 := hs2.pI (k := 583) (a := a4) 1 (Or.inl (by decide))
      exact er_some (er_rZ h) hs4
theorem v_Re_tail_83 {u : g_St} (r0 : Option Nat) (r1 : Option Nat) (s0 : g_St) {o : Unit × g_St} (hs0 : z_V true [322, 327, 386, 391, 455] [199, 263] none u s0) (h : f_Re_tail_83 r0 r1 s0 = some o) : z_V true [322, 327, 386, 391, 455] [199, 263] none u o.2 := by
  unfold f_Re_tail_83 at h
  refine fr_c h (fun i1 s2 hc h => ?_)
  have hs1 := hs0.trans (by decide) ((v_Re_accept _ _ _ z_V.re (er_nn hc)).mono (by decide) (by decide) (by decide) (Or.inl rfl))
  refine er_pZ h (fun a2 ha h => ?_)
  have hs2 := hs1.pI (k := 455) (a := a2) i1 (Or.inl (by decide))
  refine er_gI h (fun i4 h => ?_)
  refine fr_if h (fun h => ?_) (fun h => ?_)
  · exact er_some h hs2
  · refine fr_c h (fun v3 s6 hc h => ?_)
    have hs3 := hs2.trans (by decide) ((v_Re_nameInto _ _ _ _ z_V.re (er_nn hc)).mono (by decide) (by decide) (by decide) (Or.inl rfl))
    refine fr_c h (fun v4 s8 hc h => ?_)
    have hs4 := hs3.trans (by decide) ((v_Re_expect _ _ _ z_V.re (er_nn hc)).mono (by decide) (by decide) (by decide) (Or.inl rfl))
    refine fr_c h (fun v5 s10 hc h => ?_)
    have hs5 := hs4.trans (by decide) ((v_Re_nameInto _ _ _ _ z_V.re (er_nn hc)).mono (by decide) (by decide) (by decide) (Or.inl rfl))
    exact er_some h hs5
theorem v_Re_tail_50 {u : g_St} (r0 : Option Nat) (r1 : Option Nat) (s0 : g_St) {o : Unit × g_St} (hs0 : z_V true [322, 327, 386, 391, 455] [199, 263] none u s0) (h : f_Re_tail_50 r0 r1 s0 = some o) : z_V true [322, 327, 386, 391, 455] [199, 263] none u o.2 := by
  unfold f_Re_tail_50 at h
  refine fr_c h (fun v1 s2 hc h => ?_)
  have hs1 := hs0.trans (by decide) ((v_Re_expect _ _ _ z_V.re (er_nn hc)).mono (by decide) (by decide) (by decide) (Or.inl rfl))
  refine fr_c h (fun v2 s4 hc h => ?_)
  have hs2 := hs1.trans (by decide) ((v_Re_expect _ _ _ z_V.re (er_nn hc)).mono (by decide) (by decide) (by decide) (Or.inl rfl))
  refine fr_c h (fun v3 s6 hc h => ?_)
  have hs3 := hs2.trans (by decide) ((v_Re_nameInto _ _ _ _ z_V.re (er_nn hc)).mono (by decide) (by decide) (by decide) (Or.inl rfl))
  refine fr_c h (fun v4 s8 hc h => ?_)
  have hs4 := hs3.trans (by decide) ((v_Re_expect _ _ _ z_V.re (er_nn hc)).mono (by decide) (by decide) (by decide) (Or.inl rfl))
  refine fr_c h (fun v5 s10 hc h => ?_)
  have hs5 := hs4.trans (by decide) ((v_Re_nameInto _ _ _ _ z_V.re (er_nn hc)).mono (by decide) (by decide) (by decide) (Or.inl rfl))
  exact v_Re_tail_83 _ _ _ hs5 h
theorem v_Re_tail {u : g_St} (r0 : Option Nat) (r1 : Option Nat) (s0 : g_St) {o : Unit × g_St} (hs0 : z_V true [322, 327, 386, 391, 455] [199, 263] none u s0) (h : f_Re_tail r0 r1 s0 = some o) : z_V true [322, 327, 386, 391, 455] [199, 263] none u o.2 := by
  unfold f_Re_tail at h
  refine fr_c h (fun v1 s2 hc h => ?_)
  have hs1 := hs0.trans (by decide) ((v_Re_expect _ _ _ z_V.re (er_nn hc)).mono (by decide) (by decide) (by decide) (Or.inl rfl))
  refine fr_c h (fun i3 s4 hc h => ?_)
  have hs2 := hs1.trans (by decide) ((v_Re_accept _ _ _ z_V.re (er_nn hc)).mono (by decide) (by decide) (by decide) (Or.inl rfl))
  refine er_pZ h (fun a3 ha h => ?_)
  have hs3 := hs2.pI (k := 391) (a := a3) i3 (Or.inl (by decide))
  refine er_gI h (fun i6 h => ?_)
  refine fr_if h (fun h => ?_) (fun h => ?_)
  · exact v_Re_tail_83 _ _ _ hs3 h
  · refine fr_c h (fun i7 s8 hc h => ?_)
    have hs4 := hs3.trans (by decide) ((v_Re_accept _ _ _ z_V.re (er_nn hc)).mono (by decide) (by decide) (by decide) (Or.inl rfl))
    refine er_pZ h (fun a5 ha h => ?_)
    have hs5 := hs4.pI (k := 327) (a := a5) i7 (Or.inl (by decide))
    refine er_gI h (fun i10 h => ?_)
    refine fr_if h (fun h => ?_) (fun h => ?_)
    · refine fr_c h (fun v6 s12 hc h => ?_)
      have hs6 := hs5.trans (by decide) ((v_Re_expect _ _ _ z_V.re (er_nn hc)).mono (by decide) (by decide) (by decide) (Or.inl rfl))
      exact v_Re_tail_50 _ _ _ hs6 h
    · exact v_Re_tail_50 _ _ _ hs5 h
theorem v_Re_order_48 {u : g_St} {k11 : Option Nat → Int32 → Int32 → g_St → Option (Unit × g_St)} (hk11 : ∀ (y0 : Option Nat) (y1 : Int32) (y2 : Int32) (s : g_St) {o : Unit × g_St}, z_V false [12, 76, 140, 267, 322, 326, 331, 386, 395, 459] [76, 262] none u s → k11 y0 y1 y2 s = some o → z_V false [12, 76, 140, 267, 322, 326, 331, 386, 395, 459] [76, 262] none u o.2) (r0 : Option Nat) (x2 : Int32) (r0s : Option Nat) (x1s : Int32) (s0 : g_St) {o : Unit × g_St} (hs0 : z_V false [12, 76, 140, 267, 322, 326, 331, 386, 395, 459] [76, 262] none u s0) (h : f_Re_order_48 k11 r0 x2 r0s x1s s0 = some o) : z_V false [12, 76, 140, 267, 322, 326, 331, 386, 395, 459] [76, 262] none u o.2 := by
  unfold f_Re_order_48 at h
  refine er_pZ h (fun a1 ha h => ?_)
  have hs1 := hs0.pI (k := 386) (a := a1) x1s (Or.inl (by decide))
  refine er_gR h (fun c2 p2 _ _ h => ?_)
  refine er_gR h (fun c3 p3 _ ec3 h => ?_)
  have own_p3 : ∀ x, p3 = some x → g_al u x → z_own [76, 262] u x := fun x q => hs1.own (by decide) (by decide) (by decide) (ec3.trans q)
  refine fr_c h (fun p4 s5 hc h => ?_)
  have hs4 := hs1.trans (by decide) ((v_Re_operand _ _ _ z_V.re (er_nn hc)).mono (by decide) (by decide) (by decide) (Or.inl rfl))
  refine er_sR h (fun x_5 ix5 ha h => ?_)
  have hs5 := hs4.sAR (own_p3 x_5 ha) ix5 p4
  refine er_gR h (fun c6 p7 _ _ h => ?_)
  refine er_gR h (fun c7 p8 _ ec7 h => ?_)
  have own_p8 : ∀ x, p8 = some x → g_al u x → z_own [76, 262] u x := fun x q => hs5.own (by decide) (by decide) (by decide) (ec7.trans q)
  refine er_aR h (fun p9 h => ?_)
  refine er_pZ h (fun a8 ha h => ?_)
  have hs8 := hs5.pI (k := 459) (a := a8) 1 (Or.inl (by decide))
  refine er_gR h (fun c9 p11 _ _ h => ?_)
  refine er_pI h (fun a10 ha h => ?_)
  have hs10 := hs8.pI (k := 326) (a := a10) (x2 + 1) (Or.inl (by decide))
  refine fr_if h (fun h => ?_) (fun h => ?_)
  · exact hk11 _ _ _ _ hs10 h
  · refine fr_c h (fun i13 s14 hc h => ?_)
    have hs11 := hs10.trans (by decide) ((v_Re_accept _ _ _ z_V.re (er_nn hc)).mono (by decide) (by decide) (by decide) (Or.inl rfl))
    refine fr_if h (fun h => ?_) (fun h => ?_)
    · exact hk11 _ _ _ _ hs11 h
    · exact hk11 _ _ _ _ hs11 h
theorem v_Re_order_11 {u : g_St} : ∀ (n : Nat) (r0 : Option Nat) (x1 : Int32) (x2 : Int32) (s0 : g_St) {o : Unit × g_St}, z_V false [12, 76, 140, 267, 322, 326, 331, 386, 395, 459] [76, 262] none u s0 → f_Re_order_11 n r0 x1 x2 s0 = some o → z_V false [12, 76, 140, 267, 322, 326, 331, 386, 395, 459] [76, 262] none u o.2 := by
  intro n
  induction n with
  | zero =>
    intro r0 x1 x2 s0 o hs0  h
    rw [f_Re_order_11] at h
    cases h
  | succ n ih =>
    intro r0 x1 x2 s0 o hs0  h
    rw [f_Re_order_11] at h
    refine fr_if h (fun h => ?_) (fun h => ?_)
    · exact er_some h hs0
    · refine fr_if h (fun h => ?_) (fun h => ?_)
      · exact er_some h hs0
      · refine er_gI h (fun i1 h => ?_)
        refine fr_if h (fun h => ?_) (fun h => ?_)
        · refine er_gR h (fun c1 p2 _ _ h => ?_)
          refine er_gI h (fun i3 h => ?_)
          refine er_aR h (fun p4 h => ?_)
          refine fr_if h (fun h => ?_) (fun h => ?_)
          · exact v_Re_order_48 (fun _ _ _ _ {_} hs h => ih _ _ _ _ hs h) _ _ _ _ _ hs0 h
          · exact v_Re_order_48 (fun _ _ _ _ {_} hs h => ih _ _ _ _ hs h) _ _ _ _ _ hs0 h
        · exact v_Re_order_48 (fun _ _ _ _ {_} hs h => ih _ _ _ _ hs h) _ _ _ _ _ hs0 h
theorem v_Re_order {u : g_St} (r0 : Option Nat) (s0 : g_St) {o : Unit × g_St} (hs0 : z_V false [12, 76, 140, 267, 322, 326, 331, 386, 395, 459] [76, 262] none u s0) (h : f_Re_order r0 s0 = some o) : z_V false [12, 76, 140, 267, 322, 326, 331, 386, 395, 459] [76, 262] none u o.2 := by
  unfold f_Re_order at h
  refine fr_c h (fun v1 s2 hc h => ?_)
  have hs1 := hs0.trans (by decide) ((v_Re_expect _ _ _ z_V.re (er_nn hc)).mono (by decide) (by decide) (by decide) (Or.inl rfl))
  exact v_Re_order_11 _ _ _ _ _ hs1 h
theorem v_Re_read_235 {u : g_St} (r0 : Option Nat) (s0 : g_St) {o : Option Nat × g_St} (hs0 : z_V false [7, 10, 12, 70, 71, 74, 76, 134, 135, 138, 140, 198, 201, 202, 264, 265, 267, 322, 326, 327, 328, 329, 330, 331, 386, 390, 391, 395, 450, 455, 456, 459, 514, 519, 578, 583, 584, 651, 711, 712] [6, 76, 130, 136, 194, 199, 200, 258, 262, 263, 266, 392, 520, 647] none u s0) (h : f_Re_read_235 r0 s0 = some o) : z_V false [7, 10, 12, 70, 71, 74, 76, 134, 135, 138, 140, 198, 201, 202, 264, 265, 267, 322, 326, 327, 328, 329, 330, 331, 386, 390, 391, 395, 450, 455, 456, 459, 514, 519, 578, 583, 584, 651, 711, 712] [6, 76, 130, 136, 194, 199, 200, 258, 262, 263, 266, 392, 520, 647] none u o.2 := by
  unfold f_Re_read_235 at h
  refine er_gI h (fun i1 h => ?_)
  refine fr_if h (fun h => ?_) (fun h => ?_)
  · refine er_gR h (fun c1 p2 _ ec1 h => ?_)
    have own_p2 : ∀ x, p2 = some x → g_al u x → z_own [6, 76, 130, 136, 194, 199, 200, 258, 262, 263, 266, 392, 520, 647] u x := fun x q => hs0.own (by decide) (by decide) (by decide) (ec1.trans q)
    refine er_gI h (fun i3 h => ?_)
    refine er_aR h (fun p4 h => ?_)
    refine fr_if h (fun h => ?_) (fun h => ?_)
    · refine er_gR h (fun c2 p5 _ _ h => ?_)
      exact er_some h hs0
    · exact er_some h hs0
  · exact er_some h hs0
theorem v_Re_read_187 {u : g_St} (r0 : Option Nat) (s0 : g_St) {o : Option Nat × g_St} (hs0 : z_V false [7, 10, 12, 70, 71, 74, 76, 134, 135, 138, 140, 198, 201, 202, 264, 265, 267, 322, 326, 327, 328, 329, 330, 331, 386, 390, 391, 395, 450, 455, 456, 459, 514, 519, 578, 583, 584, 651, 711, 712] [6, 76, 130, 136, 194, 199, 200, 258, 262, 263, 266, 392, 520, 647] none u s0) (h : f_Re_read_187 r0 s0 = some o) : z_V false [7, 10, 12, 70, 71, 74, 76, 134, 135, 138, 140, 198, 201, 202, 264, 265, 267, 322, 326, 327, 328, 329, 330, 331, 386, 390, 391, 395, 450, 455, 456, 459, 514, 519, 578, 583, 584, 651, 711, 712] [6, 76, 130, 136, 194, 199, 200, 258, 262, 263, 266, 392, 520, 647] none u o.2 := by
  unfold f_Re_read_187 at h
  refine er_gR h (fun c1 p1 _ _ h => ?_)
  refine er_gR h (fun c2 p2 _ _ h => ?_)
  refine er_gI h (fun i3 h => ?_)
  refine fr_c h (fun p4 s5 hc h => ?_)
  have hs3 := hs0.trans (by decide) ((v_Re_selection _ _ _ z_V.re (er_nn hc)).mono (by decide) (by decide) (by decide) (Or.inl rfl))
  refine er_pR h (fun a4 ha h => ?_)
  have hs4 := hs3.pR (k := 198) (a := a4) p4 (Or.inl (by decide)) (by decide)
  refine er_gR h (fun c5 p7 _ _ h => ?_)
  refine er_gR h (fun c6 p8 _ ec6 h => ?_)
  have own_p8 : ∀ x, p8 = some x → g_al u x → z_own [6, 76, 130, 136, 194, 199, 200, 258, 262, 263, 266, 392, 520, 647] u x := fun x q => hs4.own (by decide) (by decide) (by decide) (ec6.trans q)
  refine er_gI h (fun i9 h => ?_)
  refine er_aI h (fun i10 h => ?_)
  refine er_pI h (fun a7 ha h => ?_)
  have hs7 := hs4.pI (k := 390) (a := a7) i10 (Or.inl (by decide))
  refine fr_c h (fun i12 s13 hc h => ?_)
  have hs8 := hs7.trans (by decide) ((v_Re_accept _ _ _ z_V.re (er_nn hc)).mono (by decide) (by decide) (by decide) (Or.inl rfl))
  refine fr_if h (fun h => ?_) (fun h => ?_)
  · exact v_Re_read_235 _ _ hs8 h
  · refine fr_c h (fun v9 s15 hc h => ?_)
    have hs9 := hs8.trans (by decide) ((v_Re_order _ _ z_V.re (er_nn hc)).mono (by decide) (by decide) (by decide) (Or.inl rfl))
    exact v_Re_read_235 _ _ hs9 h
theorem v_Re_read_153 {u : g_St} {k53 : Option Nat → Int32 → Int32 → g_St → Option (Option Nat × g_St)} (hk53 : ∀ (y0 : Option Nat) (y1 : Int32) (y2 : Int32) (s : g_St) {o : Option Nat × g_St}, z_V false [7, 10, 12, 70, 71, 74, 76, 134, 135, 138, 140, 198, 201, 202, 264, 265, 267, 322, 326, 327, 328, 329, 330, 331, 386, 390, 391, 395, 450, 455, 456, 459, 514, 519, 578, 583, 584, 651, 711, 712] [6, 76, 130, 136, 194, 199, 200, 258, 262, 263, 266, 392, 520, 647] none u s → k53 y0 y1 y2 s = some o → z_V false [7, 10, 12, 70, 71, 74, 76, 134, 135, 138, 140, 198, 201, 202, 264, 265, 267, 322, 326, 327, 328, 329, 330, 331, 386, 390, 391, 395, 450, 455, 456, 459, 514, 519, 578, 583, 584, 651, 711, 712] [6, 76, 130, 136, 194, 199, 200, 258, 262, 263, 266, 392, 520, 647] none u o.2) (r0 : Option Nat) (x2 : Int32) (r3 : Option Nat) (s0 : g_St) {o : Option Nat × g_St} (hs0 : z_V false [7, 10, 12, 70, 71, 74, 76, 134, 135, 138, 140, 198, 201, 202, 264, 265, 267, 322, 326, 327, 328, 329, 330, 331, 386, 390, 391, 395, 450, 455, 456, 459, 514, 519, 578, 583, 584, 651, 711, 712] [6, 76, 130, 136, 194, 199, 200, 258, 262, 263, 266, 392, 520, 647] none u s0) (h : f_Re_read_153 k53 r0 x2 r3 s0 = some o) : z_V false [7, 10, 12, 70, 71, 74, 76, 134, 135, 138, 140, 198, 201, 202, 264, 265, 267, 322, 326, 327, 328, 329, 330, 331, 386, 390, 391, 395, 450, 455, 456, 459, 514, 519, 578, 583, 584, 651, 711, 712] [6, 76, 130, 136, 194, 199, 200, 258, 262, 263, 266, 392, 520, 647] none u o.2 := by
  unfold f_Re_read_153 at h
  refine fr_c h (fun v1 s2 hc h => ?_)
  have hs1 := hs0.trans (by decide) ((v_Re_tail _ _ _ z_V.re (er_nn hc)).mono (by decide) (by decide) (by decide) (Or.inl rfl))
  refine fr_if h (fun h => ?_) (fun h => ?_)
  · exact hk53 _ _ _ _ hs1 h
  · refine fr_c h (fun i3 s4 hc h => ?_)
    have hs2 := hs1.trans (by decide) ((v_Re_accept _ _ _ z_V.re (er_nn hc)).mono (by decide) (by decide) (by decide) (Or.inl rfl))
    refine fr_if h (fun h => ?_) (fun h => ?_)
    · exact hk53 _ _ _ _ hs2 h
    · exact hk53 _ _ _ _ hs2 h
theorem v_Re_read_93 {u : g_St} {k53 : Option Nat → Int32 → Int32 → g_St → Option (Option Nat × g_St)} (hk53 : ∀ (y0 : Option Nat) (y1 : Int32) (y2 : Int32) (s : g_St) {o : Option Nat × g_St}, z_V false [7, 10, 12, 70, 71, 74, 76, 134, 135, 138, 140, 198, 201, 202, 264, 265, 267, 322, 326, 327, 328, 329, 330, 331, 386, 390, 391, 395, 450, 455, 456, 459, 514, 519, 578, 583, 584, 651, 711, 712] [6, 76, 130, 136, 194, 199, 200, 258, 262, 263, 266, 392, 520, 647] none u s → k53 y0 y1 y2 s = some o → z_V false [7, 10, 12, 70, 71, 74, 76, 134, 135, 138, 140, 198, 201, 202, 264, 265, 267, 322, 326, 327, 328, 329, 330, 331, 386, 390, 391, 395, 450, 455, 456, 459, 514, 519, 578, 583, 584, 651, 711, 712] [6, 76, 130, 136, 194, 199, 200, 258, 262, 263, 266, 392, 520, 647] none u o.2) : ∀ (n : Nat) (r0 : Option Nat) (x2 : Int32) (r3 : Option Nat) (x4 : Int32) (x5 : Int32) (s0 : g_St) {o : Option Nat × g_St}, z_V false [7, 10, 12, 70, 71, 74, 76, 134, 135, 138, 140, 198, 201, 202, 264, 265, 267, 322, 326, 327, 328, 329, 330, 331, 386, 390, 391, 395, 450, 455, 456, 459, 514, 519, 578, 583, 584, 651, 711, 712] [6, 76, 130, 136, 194, 199, 200, 258, 262, 263, 266, 392, 520, 647] none u s0 → f_Re_read_93 k53 n r0 x2 r3 x4 x5 s0 = some o → z_V false [7, 10, 12, 70, 71, 74, 76, 134, 135, 138, 140, 198, 201, 202, 264, 265, 267, 322, 326, 327, 328, 329, 330, 331, 386, 390, 391, 395, 450, 455, 456, 459, 514, 519, 578, 583, 584, 651, 711, 712] [6, 76, 130, 136, 194, 199, 200, 258, 262, 263, 266, 392, 520, 647] none u o.2 := by
  intro n
  induction n with
  | zero =>
    intro r0 x2 r3 x4 x5 s0 o hs0  h
    rw [f_Re_read_93] at h
    cases h
  | succ n ih =>
    intro r0 x2 r3 x4 x5 s0 o hs0  h
    rw [f_Re_read_93] at h
    refine fr_if h (fun h => ?_) (fun h => ?_)
    · exact v_Re_read_153 hk53 _ _ _ _ hs0 h
    · refine fr_if h (fun h => ?_) (fun h => ?_)
      · exact v_Re_read_153 hk53 _ _ _ _ hs0 h
      · refine er_gR h (fun c1 p1 _ ec1 h => ?_)
        have own_p1 : ∀ x, p1 = some x → g_al u x → z_own [6, 76, 130, 136, 194, 199, 200, 258, 262, 263, 266, 392, 520, 647] u x := fun x q => hs0.own (by decide) (by decide) (by decide) (ec1.trans q)
        refine fr_c h (fun p2 s3 hc h => ?_)
        have hs2 := hs0.trans (by decide) ((v_Re_selection _ _ _ z_V.re (er_nn hc)).mono (by decide) (by decide) (by decide) (Or.inl rfl))
        refine er_sR h (fun x_3 ix3 ha h => ?_)
        have hs3 := hs2.sAR (own_p1 x_3 ha) ix3 p2
        refine er_pI h (fun a4 ha h => ?_)
        have hs4 := hs3.pI (k := 711) (a := a4) (x5 + 1) (Or.inl (by decide))
        refine fr_if h (fun h => ?_) (fun h => ?_)
        · exact ih _ _ _ _ _ _ hs4 h
        · refine fr_c h (fun i6 s7 hc h => ?_)
          have hs5 := hs4.trans (by decide) ((v_Re_joins _ _ _ z_V.re (er_nn hc)).mono (by decide) (by decide) (by decide) (Or.inl rfl))
          refine fr_if h (fun h => ?_) (fun h => ?_)
          · exact ih _ _ _ _ _ _ hs5 h
          · exact ih _ _ _ _ _ _ hs5 h
theorem v_Re_read_53 {u : g_St} : ∀ (n : Nat) (r0 : Option Nat) (x1 : Int32) (x2 : Int32) (s0 : g_St) {o : Option Nat × g_St}, z_V false [7, 10, 12, 70, 71, 74, 76, 134, 135, 138, 140, 198, 201, 202, 264, 265, 267, 322, 326, 327, 328, 329, 330, 331, 386, 390, 391, 395, 450, 455, 456, 459, 514, 519, 578, 583, 584, 651, 711, 712] [6, 76, 130, 136, 194, 199, 200, 258, 262, 263, 266, 392, 520, 647] none u s0 → f_Re_read_53 n r0 x1 x2 s0 = some o → z_V false [7, 10, 12, 70, 71, 74, 76, 134, 135, 138, 140, 198, 201, 202, 264, 265, 267, 322, 326, 327, 328, 329, 330, 331, 386, 390, 391, 395, 450, 455, 456, 459, 514, 519, 578, 583, 584, 651, 711, 712] [6, 76, 130, 136, 194, 199, 200, 258, 262, 263, 266, 392, 520, 647] none u o.2 := by
  intro n
  induction n with
  | zero =>
    intro r0 x1 x2 s0 o hs0  h
    rw [f_Re_read_53] at h
    cases h
  | succ n ih =>
    intro r0 x1 x2 s0 o hs0  h
    rw [f_Re_read_53] at h
    refine fr_if h (fun h => ?_) (fun h => ?_)
    · exact v_Re_read_187 _ _ hs0 h
    · refine fr_if h (fun h => ?_) (fun h => ?_)
      · exact v_Re_read_187 _ _ hs0 h
      · refine fr_c h (fun p1 s2 hc h => ?_)
        have hs1 := hs0.trans (by decide) ((v_Re_head _ _ z_V.re (er_nn hc)).mono (by decide) (by decide) (by decide) (Or.inl rfl))
        refine er_gR h (fun c2 p3 _ _ h => ?_)
        refine er_gR h (fun c3 p4 _ ec3 h => ?_)
        have own_p4 : ∀ x, p4 = some x → g_al u x → z_own [6, 76, 130, 136, 194, 199, 200, 258, 262, 263, 266, 392, 520, 647] u x := fun x q => hs1.own (by decide) (by decide) (by decide) (ec3.trans q)
        refine er_sR h (fun x_4 ix4 ha h => ?_)
        have hs4 := hs1.sAR (own_p4 x_4 ha) ix4 p1
        refine er_gR h (fun c5 p6 _ _ h => ?_)
        refine er_pI h (fun a6 ha h => ?_)
        have hs6 := hs4.pI (k := 70) (a := a6) (x2 + 1) (Or.inl (by decide))
        exact v_Re_read_93 (fun _ _ _ _ {_} hs h => ih _ _ _ _ hs h) _ _ _ _ _ _ _ hs6 h
theorem v_Re_read {u : g_St} (r0 : Option Nat) (s0 : g_St) {o : Option Nat × g_St} (hs0 : z_V false [7, 10, 12, 70, 71, 74, 76, 134, 135, 138, 140, 198, 201, 202, 264, 265, 267, 322, 326, 327, 328, 329, 330, 331, 386, 390, 391, 395, 450, 455, 456, 459, 514, 519, 578, 583, 584, 651, 711, 712] [6, 76, 130, 136, 194, 199, 200, 258, 262, 263, 266, 392, 520, 647] none u s0) (h : f_Re_read r0 s0 = some o) : z_V false [7, 10, 12, 70, 71, 74, 76, 134, 135, 138, 140, 198, 201, 202, 264, 265, 267, 322, 326, 327, 328, 329, 330, 331, 386, 390, 391, 395, 450, 455, 456, 459, 514, 519, 578, 583, 584, 651, 711, 712] [6, 76, 130, 136, 194, 199, 200, 258, 262, 263, 266, 392, 520, 647] none u o.2 := by
  unfold f_Re_read at h
  refine fr_c h (fun v1 s2 hc h => ?_)
  have hs1 := hs0.trans (by decide) ((v_Re_cut _ _ z_V.re (er_nn hc)).mono (by decide) (by decide) (by decide) (Or.inl rfl))
  refine er_pI h (fun a2 ha h => ?_)
  have hs2 := hs1.pI (k := 322) (a := a2) 0 (Or.inl (by decide))
  refine er_pZ h (fun a3 ha h => ?_)
  have hs3 := hs2.pI (k := 386) (a := a3) 0 (Or.inl (by decide))
  refine er_new hs3 (by decide) h (fun p5 s6 hs4 fresh_p5 h => ?_)
  refine fr_c h (fun v5 s8 hc h => ?_)
  have hs5 := hs4.transI (by decide) (fun z q => Or.inr (fresh_p5 z q)) ((v_Qu_init _ _ z_V.re (er_nn hc)).mono (by decide) (by decide) (by decide) (Or.inr rfl))
  refine er_pR h (fun a6 ha h => ?_)
  have hs6 := hs5.pR (k := 450) (a := a6) p5 (Or.inl (by decide)) (by decide)
  refine fr_c h (fun i10 s11 hc h => ?_)
  have hs7 := hs6.trans (by decide) ((v_Re_accept _ _ _ z_V.re (er_nn hc)).mono (by decide) (by decide) (by decide) (Or.inl rfl))
  refine fr_if h (fun h => ?_) (fun h => ?_)
  · exact v_Re_read_187 _ _ hs7 h
  · refine er_gR h (fun c8 p12 _ _ h => ?_)
    refine fr_c h (fun i13 s14 hc h => ?_)
    have hs9 := hs7.trans (by decide) ((v_Re_accept _ _ _ z_V.re (er_nn hc)).mono (by decide) (by decide) (by decide) (Or.inl rfl))
    refine er_pZ h (fun a10 ha h => ?_)
    have hs10 := hs9.pI (k := 134) (a := a10) i13 (Or.inl (by decide))
    exact v_Re_read_53 _ _ _ _ _ hs10 h
theorem v_Re_stuckAt {u : g_St} (r0 : Option Nat) (s0 : g_St) {o : Int32 × g_St} (hs0 : z_V true [] [] none u s0) (h : f_Re_stuckAt r0 s0 = some o) : z_V true [] [] none u o.2 := by
  unfold f_Re_stuckAt at h
  refine er_gR h (fun c1 p1 _ _ h => ?_)
  refine er_gI h (fun i2 h => ?_)
  refine er_aI h (fun i3 h => ?_)
  exact er_some h hs0
theorem v_Ch_init {u : g_St} (r0 : Option Nat) (s0 : g_St) {o : Unit × g_St} (hs0 : z_V true [] [] r0 u s0) (h : f_Ch_init r0 s0 = some o) : z_V true [] [] r0 u o.2 := by
  unfold f_Ch_init at h
  replace h := er_nn h
  exact er_some h hs0
theorem v_Ch_nameSources_41 {u : g_St} {k2 : Option Nat → Int32 → g_St → Option (Unit × g_St)} (hk2 : ∀ (y0 : Option Nat) (y1 : Int32) (s : g_St) {o : Unit × g_St}, z_V true [393, 457] [] none u s → k2 y0 y1 s = some o → z_V true [393, 457] [] none u o.2) : ∀ (n : Nat) (r0 : Option Nat) (x1 : Int32) (r2 : Option Nat) (x3 : Int32) (s0 : g_St) {o : Unit × g_St}, z_V true [393, 457] [] none u s0 → f_Ch_nameSources_41 k2 n r0 x1 r2 x3 s0 = some o → z_V true [393, 457] [] none u o.2 := by
  intro n
  induction n with
  | zero =>
    intro r0 x1 r2 x3 s0 o hs0  h
    rw [f_Ch_nameSources_41] at h
    cases h
  | succ n ih =>
    intro r0 x1 r2 x3 s0 o hs0  h
    rw [f_Ch_nameSources_41] at h
    refine fr_if h (fun h => ?_) (fun h => ?_)
    · refine er_gL h (fun j1 h => ?_)
      refine er_gI h (fun i2 h => ?_)
      refine fr_if h (fun h => ?_) (fun h => ?_)
      · exact hk2 _ _ _ hs0 h
      · refine fr_if h (fun h => ?_) (fun h => ?_)
        · exact hk2 _ _ _ hs0 h
        · refine er_gI h (fun i3 h => ?_)
          refine fr_if h (fun h => ?_) (fun h => ?_)
          · exact hk2 _ _ _ hs0 h
          · refine er_pI h (fun a1 ha h => ?_)
            have hs1 := hs0.pI (k := 457) (a := a1) ((j1 - 29744).toInt32) (Or.inl (by decide))
            exact hk2 _ _ _ hs1 h
    · refine er_gR h (fun c2 p5 _ _ h => ?_)
      refine er_gR h (fun c3 p6 _ _ h => ?_)
      refine er_aR h (fun p7 h => ?_)
      refine er_gL h (fun j8 h => ?_)
      refine er_gL h (fun j9 h => ?_)
      refine fr_if h (fun h => ?_) (fun h => ?_)
      · refine er_pI h (fun a4 ha h => ?_)
        have hs4 := hs0.pI (k := 393) (a := a4) x3 (Or.inl (by decide))
        exact ih _ _ _ _ _ hs4 h
      · exact ih _ _ _ _ _ hs0 h
theorem v_Ch_nameSources_2 {u : g_St} : ∀ (n : Nat) (r0 : Option Nat) (x1 : Int32) (s0 : g_St) {o : Unit × g_St}, z_V true [393, 457] [] none u s0 → f_Ch_nameSources_2 n r0 x1 s0 = some o → z_V true [393, 457] [] none u o.2 := by
  intro n
  induction n with
  | zero =>
    intro r0 x1 s0 o hs0  h
    rw [f_Ch_nameSources_2] at h
    cases h
  | succ n ih =>
    intro r0 x1 s0 o hs0  h
    rw [f_Ch_nameSources_2] at h
    refine er_gR h (fun c1 p1 _ _ h => ?_)
    refine er_gR h (fun c2 p2 _ _ h => ?_)
    refine fr_c h (fun i3 s4 hc h => ?_)
    have hs3 := hs0.trans (by decide) ((v_Al_size _ _ z_V.re (er_nn hc)).mono (by decide) (by decide) (by decide) (Or.inl rfl))
    refine fr_if h (fun h => ?_) (fun h => ?_)
    · exact er_some h hs3
    · refine er_gR h (fun c4 p5 _ _ h => ?_)
      refine er_gR h (fun c5 p6 _ _ h => ?_)
      refine fr_c h (fun p7 s8 hc h => ?_)
      have hs6 := hs3.trans (by decide) ((v_Al_get _ _ _ z_V.re (er_nn hc)).mono (by decide) (by decide) (by decide) (Or.inl rfl))
      replace h := er_cast h
      refine er_gR h (fun c7 p9 _ _ h => ?_)
      refine er_gI h (fun i10 h => ?_)
      exact v_Ch_nameSources_41 (fun _ _ _ {_} hs h => ih _ _ _ hs h) _ _ _ _ _ _ hs6 h
theorem v_Ch_nameSources {u : g_St} (r0 : Option Nat) (s0 : g_St) {o : Unit × g_St} (hs0 : z_V true [393, 457] [] none u s0) (h : f_Ch_nameSources r0 s0 = some o) : z_V true [393, 457] [] none u o.2 := by
  unfold f_Ch_nameSources at h
  exact v_Ch_nameSources_2 _ _ _ _ hs0 h
theorem v_Ch_knownSource_2 {u : g_St} : ∀ (n : Nat) (r0 : Option Nat) (x1 : Int32) (s0 : g_St) {o : Option Nat × g_St}, z_V true [] [] none u s0 → f_Ch_knownSource_2 n r0 x1 s0 = some o → z_V true [] [] none u o.2 := by
  intro n
  induction n with
  | zero =>
    intro r0 x1 s0 o hs0  h
    rw [f_Ch_knownSource_2] at h
    cases h
  | succ n ih =>
    intro r0 x1 s0 o hs0  h
    rw [f_Ch_knownSource_2] at h
    refine er_gR h (fun c1 p1 _ _ h => ?_)
    refine er_gI h (fun i2 h => ?_)
    refine fr_if h (fun h => ?_) (fun h => ?_)
    · refine er_gR h (fun c2 p3 _ _ h => ?_)
      refine fr_if h (fun h => ?_) (fun h => ?_)
      · exact er_some h hs0
      · refine er_gR h (fun c3 p4 _ _ h => ?_)
        refine er_gR h (fun c4 p5 _ _ h => ?_)
        refine fr_if h (fun h => ?_) (fun h => ?_)
        · exact er_some h hs0
        · refine er_gR h (fun c5 p6 _ _ h => ?_)
          refine er_gR h (fun c6 p7 _ _ h => ?_)
          refine er_gL h (fun j8 h => ?_)
          refine er_gL h (fun j9 h => ?_)
          refine fr_if h (fun h => ?_) (fun h => ?_)
          · refine er_gR h (fun c7 p10 _ _ h => ?_)
            refine er_gR h (fun c8 p11 _ _ h => ?_)
            exact er_some h hs0
          · exact er_some h hs0
    · refine er_gR h (fun c9 p12 _ _ h => ?_)
      refine er_gR h (fun c10 p13 _ _ h => ?_)
      refine er_aR h (fun p14 h => ?_)
      refine er_gL h (fun j15 h => ?_)
      refine er_gL h (fun j16 h => ?_)
      refine fr_if h (fun h => ?_) (fun h => ?_)
      · refine er_gR h (fun c11 p17 _ _ h => ?_)
        refine er_gR h (fun c12 p18 _ _ h => ?_)
        refine er_aR h (fun p19 h => ?_)
        exact er_some h hs0
      · exact ih _ _ _ hs0 h
theorem v_Ch_knownSource {u : g_St} (r0 : Option Nat) (s0 : g_St) {o : Option Nat × g_St} (hs0 : z_V true [] [] none u s0) (h : f_Ch_knownSource r0 s0 = some o) : z_V true [] [] none u o.2 := by
  unfold f_Ch_knownSource at h
  exact v_Ch_knownSource_2 _ _ _ _ hs0 h
theorem v_Ch_indexIn_99 {u : g_St} (y4 : Int64) (x0s : Int32) (s0 : g_St) {o : Int32 × g_St} (hs0 : z_V true [] [] none u s0) (h : f_Ch_indexIn_99 y4 x0s s0 = some o) : z_V true [] [] none u o.2 := by
  unfold f_Ch_indexIn_99 at h
  refine fr_if h (fun h => ?_) (fun h => ?_)
  · exact er_some h hs0
  · exact er_some h hs0
theorem v_Ch_indexIn_24 {u : g_St} : ∀ (n : Nat) (y2 : Int64) (r4 : Option Nat) (x5 : Int32) (s0 : g_St) {o : Int32 × g_St}, z_V true [] [] none u s0 → f_Ch_indexIn_24 n y2 r4 x5 s0 = some o → z_V true [] [] none u o.2 := by
  intro n
  induction n with
  | zero =>
    intro y2 r4 x5 s0 o hs0  h
    rw [f_Ch_indexIn_24] at h
    cases h
  | succ n ih =>
    intro y2 r4 x5 s0 o hs0  h
    rw [f_Ch_indexIn_24] at h
    refine fr_if h (fun h => ?_) (fun h => ?_)
    · exact er_some h hs0
    · refine er_gR h (fun c1 p1 _ _ h => ?_)
      refine er_aL h (fun j2 h => ?_)
      refine fr_if h (fun h => ?_) (fun h => ?_)
      · exact er_some h hs0
      · exact ih _ _ _ _ hs0 h
theorem v_Ch_indexIn {u : g_St} (r0 : Option Nat) (r1 : Option Nat) (y2 : Int64) (s0 : g_St) {o : Int32 × g_St} (hs0 : z_V true [] [] none u s0) (h : f_Ch_indexIn r0 r1 y2 s0 = some o) : z_V true [] [] none u o.2 := by
  unfold f_Ch_indexIn at h
  refine er_gI h (fun i1 h => ?_)
  refine fr_if h (fun h => ?_) (fun h => ?_)
  · refine er_gI h (fun i2 h => ?_)
    refine fr_if h (fun h => ?_) (fun h => ?_)
    · exact v_Ch_indexIn_99 _ _ _ hs0 h
    · refine fr_if h (fun h => ?_) (fun h => ?_)
      · exact v_Ch_indexIn_99 _ _ _ hs0 h
      · refine er_gR h (fun c1 p3 _ _ h => ?_)
        refine er_gI h (fun i4 h => ?_)
        refine er_aR h (fun p5 h => ?_)
        refine er_gI h (fun i6 h => ?_)
        refine fr_if h (fun h => ?_) (fun h => ?_)
        · exact v_Ch_indexIn_99 _ _ _ hs0 h
        · exact v_Ch_indexIn_99 _ _ _ hs0 h
  · refine er_gR h (fun c2 p7 _ _ h => ?_)
    refine er_gR h (fun c3 p8 _ _ h => ?_)
    refine er_gI h (fun i9 h => ?_)
    refine er_aR h (fun p10 h => ?_)
    exact v_Ch_indexIn_24 _ _ _ _ _ hs0 h
theorem v_Ch_nameColumns_50 {u : g_St} : ∀ (n : Nat) (r0 : Option Nat) (x1 : Int32) (s0 : g_St) {o : Unit × g_St}, z_V true [523, 587, 1031, 1095] [] none u s0 → f_Ch_nameColumns_50 n r0 x1 s0 = some o → z_V true [523, 587, 1031, 1095] [] none u o.2 := by
  intro n
  induction n with
  | zero =>
    intro r0 x1 s0 o hs0  h
    rw [f_Ch_nameColumns_50] at h
    cases h
  | succ n ih =>
    intro r0 x1 s0 o hs0  h
    rw [f_Ch_nameColumns_50] at h
    refine er_gR h (fun c1 p1 _ _ h => ?_)
    refine er_gR h (fun c2 p2 _ _ h => ?_)
    refine fr_c h (fun i3 s4 hc h => ?_)
    have hs3 := hs0.trans (by decide) ((v_Al_size _ _ z_V.re (er_nn hc)).mono (by decide) (by decide) (by decide) (Or.inl rfl))
    refine fr_if h (fun h => ?_) (fun h => ?_)
    · exact er_some h hs3
    · refine er_gR h (fun c4 p5 _ _ h => ?_)
      refine er_gR h (fun c5 p6 _ _ h => ?_)
      refine fr_c h (fun p7 s8 hc h => ?_)
      have hs6 := hs3.trans (by decide) ((v_Al_get _ _ _ z_V.re (er_nn hc)).mono (by decide) (by decide) (by decide) (Or.inl rfl))
      replace h := er_cast h
      refine fr_c h (fun p9 s10 hc h => ?_)
      have hs7 := hs6.trans (by decide) ((v_Ch_knownSource _ _ z_V.re hc).mono (by decide) (by decide) (by decide) (Or.inl rfl))
      refine er_pR h (fun a8 ha h => ?_)
      have hs8 := hs7.pR (k := 523) (a := a8) p9 (Or.inl (by decide)) (by decide)
      refine er_gR h (fun c9 p12 _ _ h => ?_)
      refine fr_if h (fun h => ?_) (fun h => ?_)
      · refine er_pI h (fun a10 ha h => ?_)
        have hs10 := hs8.pI (k := 587) (a := a10) (-1) (Or.inl (by decide))
        exact ih _ _ _ hs10 h
      · refine er_gR h (fun c11 p13 _ _ h => ?_)
        refine er_gL h (fun j14 h => ?_)
        refine fr_c h (fun i15 s16 hc h => ?_)
        have hs12 := hs8.trans (by decide) ((v_Ch_indexIn _ _ _ _ z_V.re (er_nn hc)).mono (by decide) (by decide) (by decide) (Or.inl rfl))
        refine er_pI h (fun a13 ha h => ?_)
        have hs13 := hs12.pI (k := 587) (a := a13) i15 (Or.inl (by decide))
        exact ih _ _ _ hs13 h
theorem v_Ch_nameColumns_2 {u : g_St} : ∀ (n : Nat) (r0 : Option Nat) (x1 : Int32) (s0 : g_St) {o : Unit × g_St}, z_V true [523, 587, 1031, 1095] [] none u s0 → f_Ch_nameColumns_2 n r0 x1 s0 = some o → z_V true [523, 587, 1031, 1095] [] none u o.2 := by
  intro n
  induction n with
  | zero =>
    intro r0 x1 s0 o hs0  h
    rw [f_Ch_nameColumns_2] at h
    cases h
  | succ n ih =>
    intro r0 x1 s0 o hs0  h
    rw [f_Ch_nameColumns_2] at h
    refine er_gR h (fun c1 p1 _ _ h => ?_)
    refine er_gI h (fun i2 h => ?_)
    refine fr_if h (fun h => ?_) (fun h => ?_)
    · exact v_Ch_nameColumns_50 _ _ _ _ hs0 h
    · refine er_gR h (fun c2 p3 _ _ h => ?_)
      refine er_gR h (fun c3 p4 _ _ h => ?_)
      refine er_aR h (fun p5 h => ?_)
      refine fr_c h (fun i6 s7 hc h => ?_)
      have hs4 := hs0.trans (by decide) ((v_Pa_columnNamedAt _ _ _ z_V.re (er_nn hc)).mono (by decide) (by decide) (by decide) (Or.inl rfl))
      refine er_pI h (fun a5 ha h => ?_)
      have hs5 := hs4.pI (k := 1031) (a := a5) i6 (Or.inl (by decide))
      refine fr_c h (fun i9 s10 hc h => ?_)
      have hs6 := hs5.trans (by decide) ((v_Pa_columnNamedAt _ _ _ z_V.re (er_nn hc)).mono (by decide) (by decide) (by decide) (Or.inl rfl))
      refine er_pI h (fun a7 ha h => ?_)
      have hs7 := hs6.pI (k := 1095) (a := a7) i9 (Or.inl (by decide))
      exact ih _ _ _ hs7 h
theorem v_Ch_nameColumns {u : g_St} (r0 : Option Nat) (s0 : g_St) {o : Unit × g_St} (hs0 : z_V true [523, 587, 1031, 1095] [] none u s0) (h : f_Ch_nameColumns r0 s0 = some o) : z_V true [523, 587, 1031, 1095] [] none u o.2 := by
  unfold f_Ch_nameColumns at h
  exact v_Ch_nameColumns_2 _ _ _ _ hs0 h
theorem v_Ch_needParts_274 {u : g_St} {k228 : Option Nat → Int32 → Option Nat → Int32 → g_St → Option (Unit × g_St)} (hk228 : ∀ (y0 : Option Nat) (y1 : Int32) (y2 : Option Nat) (y3 : Int32) (s : g_St) {o : Unit × g_St}, z_V true [775, 839, 967] [] none u s → k228 y0 y1 y2 y3 s = some o → z_V true [775, 839, 967] [] none u o.2) (r0 : Option Nat) (x1 : Int32) (r2 : Option Nat) (x3 : Int32) (x0s : Int32) (s0 : g_St) {o : Unit × g_St} (hs0 : z_V true [775, 839, 967] [] none u s0) (h : f_Ch_needParts_274 k228 r0 x1 r2 x3 x0s s0 = some o) : z_V true [775, 839, 967] [] none u o.2 := by
  unfold f_Ch_needParts_274 at h
  refine er_gI h (fun i1 h => ?_)
  refine fr_if h (fun h => ?_) (fun h => ?_)
  · refine er_pI h (fun a1 ha h => ?_)
    have hs1 := hs0.pI (k := 839) (a := a1) (i1 ||| 0) (Or.inl (by decide))
    exact hk228 _ _ _ _ _ hs1 h
  · refine er_pI h (fun a2 ha h => ?_)
    have hs2 := hs0.pI (k := 839) (a := a2) (i1 ||| (1 <<< (x3 &&& 31))) (Or.inl (by decide))
    exact hk228 _ _ _ _ _ hs2 h
theorem v_Ch_needParts_228 {u : g_St} {k178 : Option Nat → Int32 → g_St → Option (Unit × g_St)} (hk178 : ∀ (y0 : Option Nat) (y1 : Int32) (s : g_St) {o : Unit × g_St}, z_V true [775, 839, 967] [] none u s → k178 y0 y1 s = some o → z_V true [775, 839, 967] [] none u o.2) : ∀ (n : Nat) (r0 : Option Nat) (x1 : Int32) (r2 : Option Nat) (x3 : Int32) (s0 : g_St) {o : Unit × g_St}, z_V true [775, 839, 967] [] none u s0 → f_Ch_needParts_228 k178 n r0 x1 r2 x3 s0 = some o → z_V true [775, 839, 967] [] none u o.2 := by
  intro n
  induction n with
  | zero =>
    intro r0 x1 r2 x3 s0 o hs0  h
    rw [f_Ch_needParts_228] at h
    cases h
  | succ n ih =>
    intro r0 x1 r2 x3 s0 o hs0  h
    rw [f_Ch_needParts_228] at h
    refine er_gR h (fun c1 p1 _ _ h => ?_)
    refine er_gI h (fun i2 h => ?_)
    refine fr_if h (fun h => ?_) (fun h => ?_)
    · exact hk178 _ _ _ hs0 h
    · refine er_gI h (fun i3 h => ?_)
      refine fr_if h (fun h => ?_) (fun h => ?_)
      · exact v_Ch_needParts_274 (fun _ _ _ _ _ {_} hs h => ih _ _ _ _ _ hs h) _ _ _ _ _ _ hs0 h
      · refine er_gR h (fun c2 p4 _ _ h => ?_)
        refine er_gR h (fun c3 p5 _ _ h => ?_)
        refine er_aR h (fun p6 h => ?_)
        refine er_gI h (fun i7 h => ?_)
        refine fr_if h (fun h => ?_) (fun h => ?_)
        · exact v_Ch_needParts_274 (fun _ _ _ _ _ {_} hs h => ih _ _ _ _ _ hs h) _ _ _ _ _ _ hs0 h
        · exact v_Ch_needParts_274 (fun _ _ _ _ _ {_} hs h => ih _ _ _ _ _ hs h) _ _ _ _ _ _ hs0 h
theorem v_Ch_needParts_178 {u : g_St} : ∀ (n : Nat) (r0 : Option Nat) (x1 : Int32) (s0 : g_St) {o : Unit × g_St}, z_V true [775, 839, 967] [] none u s0 → f_Ch_needParts_178 n r0 x1 s0 = some o → z_V true [775, 839, 967] [] none u o.2 := by
  intro n
  induction n with
  | zero =>
    intro r0 x1 s0 o hs0  h
    rw [f_Ch_needParts_178] at h
    cases h
  | succ n ih =>
    intro r0 x1 s0 o hs0  h
    rw [f_Ch_needParts_178] at h
    refine er_gR h (fun c1 p1 _ _ h => ?_)
    refine er_gI h (fun i2 h => ?_)
    refine fr_if h (fun h => ?_) (fun h => ?_)
    · exact er_some h hs0
    · refine er_gR h (fun c2 p3 _ _ h => ?_)
      refine er_gR h (fun c3 p4 _ _ h => ?_)
      refine er_aR h (fun p5 h => ?_)
      refine er_gI h (fun i6 h => ?_)
      refine fr_if h (fun h => ?_) (fun h => ?_)
      · refine er_pZ h (fun a4 ha h => ?_)
        have hs4 := hs0.pI (k := 967) (a := a4) 0 (Or.inl (by decide))
        refine er_pI h (fun a5 ha h => ?_)
        have hs5 := hs4.pI (k := 839) (a := a5) (1 <<< (x1 &&& 31)) (Or.inl (by decide))
        exact v_Ch_needParts_228 (fun _ _ _ {_} hs h => ih _ _ _ hs h) _ _ _ _ _ _ hs5 h
      · refine er_pZ h (fun a6 ha h => ?_)
        have hs6 := hs0.pI (k := 967) (a := a6) 1 (Or.inl (by decide))
        refine er_pI h (fun a7 ha h => ?_)
        have hs7 := hs6.pI (k := 839) (a := a7) (1 <<< (x1 &&& 31)) (Or.inl (by decide))
        exact v_Ch_needParts_228 (fun _ _ _ {_} hs h => ih _ _ _ hs h) _ _ _ _ _ _ hs7 h
theorem v_Ch_needParts_105 {u : g_St} {k92 : Option Nat → Int32 → g_St → Option (Unit × g_St)} (hk92 : ∀ (y0 : Option Nat) (y1 : Int32) (s : g_St) {o : Unit × g_St}, z_V true [775, 839, 967] [] none u s → k92 y0 y1 s = some o → z_V true [775, 839, 967] [] none u o.2) : ∀ (n : Nat) (r0 : Option Nat) (x1 : Int32) (x2 : Int32) (s0 : g_St) {o : Unit × g_St}, z_V true [775, 839, 967] [] none u s0 → f_Ch_needParts_105 k92 n r0 x1 x2 s0 = some o → z_V true [775, 839, 967] [] none u o.2 := by
  intro n
  induction n with
  | zero =>
    intro r0 x1 x2 s0 o hs0  h
    rw [f_Ch_needParts_105] at h
    cases h
  | succ n ih =>
    intro r0 x1 x2 s0 o hs0  h
    rw [f_Ch_needParts_105] at h
    refine er_gR h (fun c1 p1 _ _ h => ?_)
    refine er_gI h (fun i2 h => ?_)
    refine fr_if h (fun h => ?_) (fun h => ?_)
    · exact hk92 _ _ _ hs0 h
    · refine er_gR h (fun c2 p3 _ _ h => ?_)
      refine er_gR h (fun c3 p4 _ _ h => ?_)
      refine er_aR h (fun p5 h => ?_)
      refine er_gI h (fun i6 h => ?_)
      refine fr_if h (fun h => ?_) (fun h => ?_)
      · exact ih _ _ _ _ hs0 h
      · refine er_gR h (fun c4 p7 _ _ h => ?_)
        refine er_gR h (fun c5 p8 _ _ h => ?_)
        refine er_aR h (fun p9 h => ?_)
        refine er_gI h (fun i10 h => ?_)
        refine er_gR h (fun c6 p11 _ _ h => ?_)
        refine er_gR h (fun c7 p12 _ _ h => ?_)
        refine er_aR h (fun p13 h => ?_)
        refine er_gI h (fun i14 h => ?_)
        refine er_pI h (fun a8 ha h => ?_)
        have hs8 := hs0.pI (k := 775) (a := a8) (i10 ||| i14) (Or.inl (by decide))
        exact ih _ _ _ _ hs8 h
theorem v_Ch_needParts_92 {u : g_St} : ∀ (n : Nat) (r0 : Option Nat) (x1 : Int32) (s0 : g_St) {o : Unit × g_St}, z_V true [775, 839, 967] [] none u s0 → f_Ch_needParts_92 n r0 x1 s0 = some o → z_V true [775, 839, 967] [] none u o.2 := by
  intro n
  induction n with
  | zero =>
    intro r0 x1 s0 o hs0  h
    rw [f_Ch_needParts_92] at h
    cases h
  | succ n ih =>
    intro r0 x1 s0 o hs0  h
    rw [f_Ch_needParts_92] at h
    refine er_gR h (fun c1 p1 _ _ h => ?_)
    refine er_gI h (fun i2 h => ?_)
    refine fr_if h (fun h => ?_) (fun h => ?_)
    · exact v_Ch_needParts_178 _ _ _ _ hs0 h
    · exact v_Ch_needParts_105 (fun _ _ _ {_} hs h => ih _ _ _ hs h) _ _ _ _ _ hs0 h
theorem v_Ch_needParts_2 {u : g_St} : ∀ (n : Nat) (r0 : Option Nat) (x1 : Int32) (s0 : g_St) {o : Unit × g_St}, z_V true [775, 839, 967] [] none u s0 → f_Ch_needParts_2 n r0 x1 s0 = some o → z_V true [775, 839, 967] [] none u o.2 := by
  intro n
  induction n with
  | zero =>
    intro r0 x1 s0 o hs0  h
    rw [f_Ch_needParts_2] at h
    cases h
  | succ n ih =>
    intro r0 x1 s0 o hs0  h
    rw [f_Ch_needParts_2] at h
    refine er_gR h (fun c1 p1 _ _ h => ?_)
    refine er_gR h (fun c2 p2 _ _ h => ?_)
    refine fr_c h (fun i3 s4 hc h => ?_)
    have hs3 := hs0.trans (by decide) ((v_Al_size _ _ z_V.re (er_nn hc)).mono (by decide) (by decide) (by decide) (Or.inl rfl))
    refine fr_if h (fun h => ?_) (fun h => ?_)
    · exact v_Ch_needParts_92 _ _ _ _ hs3 h
    · refine er_gR h (fun c4 p5 _ _ h => ?_)
      refine er_gR h (fun c5 p6 _ _ h => ?_)
      refine fr_c h (fun p7 s8 hc h => ?_)
      have hs6 := hs3.trans (by decide) ((v_Al_get _ _ _ z_V.re (er_nn hc)).mono (by decide) (by decide) (by decide) (Or.inl rfl))
      replace h := er_cast h
      refine er_gI h (fun i9 h => ?_)
      refine fr_if h (fun h => ?_) (fun h => ?_)
      · exact ih _ _ _ hs6 h
      · refine er_gR h (fun c7 p10 _ _ h => ?_)
        refine er_gI h (fun i11 h => ?_)
        refine er_gR h (fun c8 p12 _ _ h => ?_)
        refine er_gI h (fun i13 h => ?_)
        refine fr_if h (fun h => ?_) (fun h => ?_)
        · exact ih _ _ _ hs6 h
        · refine er_gR h (fun c9 p14 _ _ h => ?_)
          refine er_gR h (fun c10 p15 _ _ h => ?_)
          refine er_gR h (fun c11 p16 _ _ h => ?_)
          refine er_gI h (fun i17 h => ?_)
          refine er_aR h (fun p18 h => ?_)
          refine er_gI h (fun i19 h => ?_)
          refine er_gI h (fun i20 h => ?_)
          refine er_pI h (fun a12 ha h => ?_)
          have hs12 := hs6.pI (k := 775) (a := a12) (i19 ||| (1 <<< (i20 &&& 31))) (Or.inl (by decide))
          exact ih _ _ _ hs12 h
theorem v_Ch_needParts {u : g_St} (r0 : Option Nat) (s0 : g_St) {o : Unit × g_St} (hs0 : z_V true [775, 839, 967] [] none u s0) (h : f_Ch_needParts r0 s0 = some o) : z_V true [775, 839, 967] [] none u o.2 := by
  unfold f_Ch_needParts at h
  exact v_Ch_needParts_2 _ _ _ _ hs0 h
theorem v_Ch_nextReady_2 {u : g_St} : ∀ (n : Nat) (r0 : Option Nat) (x1 : Int32) (x2 : Int32) (s0 : g_St) {o : Int32 × g_St}, z_V true [] [] none u s0 → f_Ch_nextReady_2 n r0 x1 x2 s0 = some o → z_V true [] [] none u o.2 := by
  intro n
  induction n with
  | zero =>
    intro r0 x1 x2 s0 o hs0  h
    rw [f_Ch_nextReady_2] at h
    cases h
  | succ n ih =>
    intro r0 x1 x2 s0 o hs0  h
    rw [f_Ch_nextReady_2] at h
    refine er_gR h (fun c1 p1 _ _ h => ?_)
    refine er_gI h (fun i2 h => ?_)
    refine fr_if h (fun h => ?_) (fun h => ?_)
    · exact er_some h hs0
    · refine er_gR h (fun c2 p3 _ _ h => ?_)
      refine er_gR h (fun c3 p4 _ _ h => ?_)
      refine er_aR h (fun p5 h => ?_)
      refine fr_if h (fun h => ?_) (fun h => ?_)
      · refine er_gI h (fun i6 h => ?_)
        refine er_gI h (fun i7 h => ?_)
        refine fr_if h (fun h => ?_) (fun h => ?_)
        · exact er_some h hs0
        · exact ih _ _ _ _ hs0 h
      · exact ih _ _ _ _ hs0 h
theorem v_Ch_nextReady {u : g_St} (r0 : Option Nat) (x1 : Int32) (s0 : g_St) {o : Int32 × g_St} (hs0 : z_V true [] [] none u s0) (h : f_Ch_nextReady r0 x1 s0 = some o) : z_V true [] [] none u o.2 := by
  unfold f_Ch_nextReady at h
  exact v_Ch_nextReady_2 _ _ _ _ _ hs0 h
theorem v_Ch_orderComponents_43 {u : g_St} {k4 : Option Nat → Int32 → Int32 → g_St → Option (Unit × g_St)} (hk4 : ∀ (y0 : Option Nat) (y1 : Int32) (y2 : Int32) (s : g_St) {o : Unit × g_St}, z_V true [454, 903] [] none u s → k4 y0 y1 y2 s = some o → z_V true [454, 903] [] none u o.2) : ∀ (n : Nat) (r0 : Option Nat) (x1 : Int32) (x2 : Int32) (x4 : Int32) (x5 : Int32) (s0 : g_St) {o : Unit × g_St}, z_V true [454, 903] [] none u s0 → f_Ch_orderComponents_43 k4 n r0 x1 x2 x4 x5 s0 = some o → z_V true [454, 903] [] none u o.2 := by
  intro n
  induction n with
  | zero =>
    intro r0 x1 x2 x4 x5 s0 o hs0  h
    rw [f_Ch_orderComponents_43] at h
    cases h
  | succ n ih =>
    intro r0 x1 x2 x4 x5 s0 o hs0  h
    rw [f_Ch_orderComponents_43] at h
    refine er_gR h (fun c1 p1 _ _ h => ?_)
    refine er_gI h (fun i2 h => ?_)
    refine fr_if h (fun h => ?_) (fun h => ?_)
    · refine er_gR h (fun c2 p3 _ _ h => ?_)
      refine er_pI h (fun a3 ha h => ?_)
      have hs3 := hs0.pI (k := 454) (a := a3) (x2 + 1) (Or.inl (by decide))
      exact hk4 _ _ _ _ hs3 h
    · refine fr_if h (fun h => ?_) (fun h => ?_)
      · exact ih _ _ _ _ _ _ hs0 h
      · refine er_gR h (fun c4 p5 _ _ h => ?_)
        refine er_gR h (fun c5 p6 _ _ h => ?_)
        refine er_aR h (fun p7 h => ?_)
        refine er_pI h (fun a6 ha h => ?_)
        have hs6 := hs0.pI (k := 903) (a := a6) x2 (Or.inl (by decide))
        exact ih _ _ _ _ _ _ hs6 h
theorem v_Ch_orderComponents_4 {u : g_St} : ∀ (n : Nat) (r0 : Option Nat) (x1 : Int32) (x2 : Int32) (s0 : g_St) {o : Unit × g_St}, z_V true [454, 903] [] none u s0 → f_Ch_orderComponents_4 n r0 x1 x2 s0 = some o → z_V true [454, 903] [] none u o.2 := by
  intro n
  induction n with
  | zero =>
    intro r0 x1 x2 s0 o hs0  h
    rw [f_Ch_orderComponents_4] at h
    cases h
  | succ n ih =>
    intro r0 x1 x2 s0 o hs0  h
    rw [f_Ch_orderComponents_4] at h
    refine er_gR h (fun c1 p1 _ _ h => ?_)
    refine er_gI h (fun i2 h => ?_)
    refine fr_if h (fun h => ?_) (fun h => ?_)
    · exact er_some h hs0
    · refine fr_c h (fun i3 s4 hc h => ?_)
      have hs2 := hs0.trans (by decide) ((v_Ch_nextReady _ _ _ z_V.re (er_nn hc)).mono (by decide) (by decide) (by decide) (Or.inl rfl))
      refine fr_if h (fun h => ?_) (fun h => ?_)
      · refine er_gR h (fun c3 p5 _ _ h => ?_)
        refine er_gR h (fun c4 p6 _ _ h => ?_)
        refine er_aR h (fun p7 h => ?_)
        refine er_gI h (fun i8 h => ?_)
        exact v_Ch_orderComponents_43 (fun _ _ _ _ {_} hs h => ih _ _ _ _ hs h) _ _ _ _ _ _ _ hs2 h
      · exact er_some h hs2
theorem v_Ch_orderComponents {u : g_St} (r0 : Option Nat) (s0 : g_St) {o : Unit × g_St} (hs0 : z_V true [454, 903] [] none u s0) (h : f_Ch_orderComponents r0 s0 = some o) : z_V true [454, 903] [] none u o.2 := by
  unfold f_Ch_orderComponents at h
  exact v_Ch_orderComponents_4 _ _ _ _ _ hs0 h
theorem v_Ch_namesOwnComponent {u : g_St} (r0 : Option Nat) (r1 : Option Nat) (s0 : g_St) {o : Int32 × g_St} (hs0 : z_V true [] [] none u s0) (h : f_Ch_namesOwnComponent r0 r1 s0 = some o) : z_V true [] [] none u o.2 := by
  unfold f_Ch_namesOwnComponent at h
  refine er_gR h (fun c1 p1 _ _ h => ?_)
  refine er_gI h (fun i2 h => ?_)
  refine er_gI h (fun i3 h => ?_)
  refine fr_if h (fun h => ?_) (fun h => ?_)
  · exact er_some (er_rZ h) hs0
  · refine er_gR h (fun c2 p4 _ _ h => ?_)
    refine er_gI h (fun i5 h => ?_)
    refine fr_if h (fun h => ?_) (fun h => ?_)
    · exact er_some (er_rZ h) hs0
    · refine er_gR h (fun c3 p6 _ _ h => ?_)
      refine er_gR h (fun c4 p7 _ _ h => ?_)
      refine er_aR h (fun p8 h => ?_)
      refine er_gI h (fun i9 h => ?_)
      refine fr_if h (fun h => ?_) (fun h => ?_)
      · exact er_some (er_rZ h) hs0
      · refine er_gR h (fun c5 p10 _ _ h => ?_)
        refine er_gR h (fun c6 p11 _ _ h => ?_)
        refine er_aR h (fun p12 h => ?_)
        refine er_gI h (fun i13 h => ?_)
        refine er_gR h (fun c7 p14 _ _ h => ?_)
        refine er_gR h (fun c8 p15 _ _ h => ?_)
        refine er_gI h (fun i16 h => ?_)
        refine er_aR h (fun p17 h => ?_)
        refine er_gI h (fun i18 h => ?_)
        refine fr_if h (fun h => ?_) (fun h => ?_)
        · exact er_some (er_rZ h) hs0
        · exact er_some (er_rZ h) hs0
theorem v_Ch_countNamings_2 {u : g_St} : ∀ (n : Nat) (r0 : Option Nat) (x1 : Int32) (s0 : g_St) {o : Unit × g_St}, z_V true [648] [] none u s0 → f_Ch_countNamings_2 n r0 x1 s0 = some o → z_V true [648] [] none u o.2 := by
  intro n
  induction n with
  | zero =>
    intro r0 x1 s0 o hs0  h
    rw [f_Ch_countNamings_2] at h
    cases h
  | succ n ih =>
    intro r0 x1 s0 o hs0  h
    rw [f_Ch_countNamings_2] at h
    refine er_gR h (fun c1 p1 _ _ h => ?_)
    refine er_gR h (fun c2 p2 _ _ h => ?_)
    refine fr_c h (fun i3 s4 hc h => ?_)
    have hs3 := hs0.trans (by decide) ((v_Al_size _ _ z_V.re (er_nn hc)).mono (by decide) (by decide) (by decide) (Or.inl rfl))
    refine fr_if h (fun h => ?_) (fun h => ?_)
    · exact er_some h hs3
    · refine er_gR h (fun c4 p5 _ _ h => ?_)
      refine er_gR h (fun c5 p6 _ _ h => ?_)
      refine fr_c h (fun p7 s8 hc h => ?_)
      have hs6 := hs3.trans (by decide) ((v_Al_get _ _ _ z_V.re (er_nn hc)).mono (by decide) (by decide) (by decide) (Or.inl rfl))
      replace h := er_cast h
      refine fr_c h (fun i9 s10 hc h => ?_)
      have hs7 := hs6.trans (by decide) ((v_Ch_namesOwnComponent _ _ _ z_V.re (er_nn hc)).mono (by decide) (by decide) (by decide) (Or.inl rfl))
      refine fr_if h (fun h => ?_) (fun h => ?_)
      · exact ih _ _ _ hs7 h
      · refine er_gR h (fun c8 p11 _ _ h => ?_)
        refine er_gI h (fun i12 h => ?_)
        refine er_pI h (fun a9 ha h => ?_)
        have hs9 := hs7.pI (k := 648) (a := a9) (i12 + 1) (Or.inl (by decide))
        exact ih _ _ _ hs9 h
theorem v_Ch_countNamings {u : g_St} (r0 : Option Nat) (s0 : g_St) {o : Unit × g_St} (hs0 : z_V true [648] [] none u s0) (h : f_Ch_countNamings r0 s0 = some o) : z_V true [648] [] none u o.2 := by
  unfold f_Ch_countNamings at h
  exact v_Ch_countNamings_2 _ _ _ _ hs0 h
theorem v_Ch_note {u : g_St} (r0 : Option Nat) (x1 : Int32) (x2 : Int32) (s0 : g_St) {o : Unit × g_St} (hs0 : z_V true [195] [] none u s0) (h : f_Ch_note r0 x1 x2 s0 = some o) : z_V true [195] [] none u o.2 := by
  unfold f_Ch_note at h
  refine fr_if h (fun h => ?_) (fun h => ?_)
  · exact er_some h hs0
  · refine er_gI h (fun i1 h => ?_)
    refine fr_if h (fun h => ?_) (fun h => ?_)
    · exact er_some h hs0
    · refine er_pI h (fun a1 ha h => ?_)
      have hs1 := hs0.pI (k := 195) (a := a1) x2 (Or.inl (by decide))
      exact er_some h hs1
theorem v_Ch_lookAtParts_203 {u : g_St} {k2 : Option Nat → Int32 → g_St → Option (Unit × g_St)} (hk2 : ∀ (y0 : Option Nat) (y1 : Int32) (s : g_St) {o : Unit × g_St}, z_V true [195] [] none u s → k2 y0 y1 s = some o → z_V true [195] [] none u o.2) (r0 : Option Nat) (x1 : Int32) (r2 : Option Nat) (r0s : Option Nat) (x1s : Int32) (s0 : g_St) {o : Unit × g_St} (hs0 : z_V true [195] [] none u s0) (h : f_Ch_lookAtParts_203 k2 r0 x1 r2 r0s x1s s0 = some o) : z_V true [195] [] none u o.2 := by
  unfold f_Ch_lookAtParts_203 at h
  refine er_gR h (fun c1 p1 _ _ h => ?_)
  refine er_aI h (fun i2 h => ?_)
  refine fr_c h (fun v2 s4 hc h => ?_)
  have hs2 := hs0.trans (by decide) ((v_Ch_note _ _ _ _ z_V.re (er_nn hc)).mono (by decide) (by decide) (by decide) (Or.inl rfl))
  exact hk2 _ _ _ hs2 h
theorem v_Ch_lookAtParts_174 {u : g_St} {k2 : Option Nat → Int32 → g_St → Option (Unit × g_St)} (hk2 : ∀ (y0 : Option Nat) (y1 : Int32) (s : g_St) {o : Unit × g_St}, z_V true [195] [] none u s → k2 y0 y1 s = some o → z_V true [195] [] none u o.2) (r0 : Option Nat) (x1 : Int32) (r2 : Option Nat) (r0s : Option Nat) (x1s : Int32) (s0 : g_St) {o : Unit × g_St} (hs0 : z_V true [195] [] none u s0) (h : f_Ch_lookAtParts_174 k2 r0 x1 r2 r0s x1s s0 = some o) : z_V true [195] [] none u o.2 := by
  unfold f_Ch_lookAtParts_174 at h
  refine er_gR h (fun c1 p1 _ _ h => ?_)
  refine er_aI h (fun i2 h => ?_)
  refine fr_c h (fun v2 s4 hc h => ?_)
  have hs2 := hs0.trans (by decide) ((v_Ch_note _ _ _ _ z_V.re (er_nn hc)).mono (by decide) (by decide) (by decide) (Or.inl rfl))
  refine er_gI h (fun i5 h => ?_)
  refine fr_if h (fun h => ?_) (fun h => ?_)
  · exact v_Ch_lookAtParts_203 hk2 _ _ _ _ _ _ hs2 h
  · refine er_gI h (fun i6 h => ?_)
    refine fr_if h (fun h => ?_) (fun h => ?_)
    · exact v_Ch_lookAtParts_203 hk2 _ _ _ _ _ _ hs2 h
    · exact v_Ch_lookAtParts_203 hk2 _ _ _ _ _ _ hs2 h
theorem v_Ch_lookAtParts_118 {u : g_St} {k79 : Option Nat → Int32 → Option Nat → Int32 → Int32 → g_St → Option (Unit × g_St)} (hk79 : ∀ (y0 : Option Nat) (y1 : Int32) (y2 : Option Nat) (y3 : Int32) (y4 : Int32) (s : g_St) {o : Unit × g_St}, z_V true [195] [] none u s → k79 y0 y1 y2 y3 y4 s = some o → z_V true [195] [] none u o.2) (r0 : Option Nat) (x1 : Int32) (r2 : Option Nat) (x3 : Int32) (x4 : Int32) (x0s : Int32) (s0 : g_St) {o : Unit × g_St} (hs0 : z_V true [195] [] none u s0) (h : f_Ch_lookAtParts_118 k79 r0 x1 r2 x3 x4 x0s s0 = some o) : z_V true [195] [] none u o.2 := by
  unfold f_Ch_lookAtParts_118 at h
  refine er_gR h (fun c1 p1 _ _ h => ?_)
  refine er_aI h (fun i2 h => ?_)
  refine er_gR h (fun c2 p3 _ _ h => ?_)
  refine er_aI h (fun i4 h => ?_)
  refine fr_c h (fun v3 s6 hc h => ?_)
  have hs3 := hs0.trans (by decide) ((v_Ch_note _ _ _ _ z_V.re (er_nn hc)).mono (by decide) (by decide) (by decide) (Or.inl rfl))
  exact hk79 _ _ _ _ _ _ hs3 h
theorem v_Ch_lookAtParts_79 {u : g_St} {k71 : Option Nat → Int32 → Option Nat → Int32 → g_St → Option (Unit × g_St)} (hk71 : ∀ (y0 : Option Nat) (y1 : Int32) (y2 : Option Nat) (y3 : Int32) (s : g_St) {o : Unit × g_St}, z_V true [195] [] none u s → k71 y0 y1 y2 y3 s = some o → z_V true [195] [] none u o.2) : ∀ (n : Nat) (r0 : Option Nat) (x1 : Int32) (r2 : Option Nat) (x3 : Int32) (x4 : Int32) (s0 : g_St) {o : Unit × g_St}, z_V true [195] [] none u s0 → f_Ch_lookAtParts_79 k71 n r0 x1 r2 x3 x4 s0 = some o → z_V true [195] [] none u o.2 := by
  intro n
  induction n with
  | zero =>
    intro r0 x1 r2 x3 x4 s0 o hs0  h
    rw [f_Ch_lookAtParts_79] at h
    cases h
  | succ n ih =>
    intro r0 x1 r2 x3 x4 s0 o hs0  h
    rw [f_Ch_lookAtParts_79] at h
    refine fr_if h (fun h => ?_) (fun h => ?_)
    · exact hk71 _ _ _ _ _ hs0 h
    · refine er_gR h (fun c1 p1 _ _ h => ?_)
      refine er_aL h (fun j2 h => ?_)
      refine fr_if h (fun h => ?_) (fun h => ?_)
      · exact v_Ch_lookAtParts_118 (fun _ _ _ _ _ _ {_} hs h => ih _ _ _ _ _ _ hs h) _ _ _ _ _ _ _ hs0 h
      · refine er_gR h (fun c2 p3 _ _ h => ?_)
        refine er_aL h (fun j4 h => ?_)
        refine er_gR h (fun c3 p5 _ _ h => ?_)
        refine er_aL h (fun j6 h => ?_)
        refine fr_if h (fun h => ?_) (fun h => ?_)
        · exact v_Ch_lookAtParts_118 (fun _ _ _ _ _ _ {_} hs h => ih _ _ _ _ _ _ hs h) _ _ _ _ _ _ _ hs0 h
        · exact v_Ch_lookAtParts_118 (fun _ _ _ _ _ _ {_} hs h => ih _ _ _ _ _ _ hs h) _ _ _ _ _ _ _ hs0 h
theorem v_Ch_lookAtParts_71 {u : g_St} {k2 : Option Nat → Int32 → g_St → Option (Unit × g_St)} (hk2 : ∀ (y0 : Option Nat) (y1 : Int32) (s : g_St) {o : Unit × g_St}, z_V true [195] [] none u s → k2 y0 y1 s = some o → z_V true [195] [] none u o.2) : ∀ (n : Nat) (r0 : Option Nat) (x1 : Int32) (r2 : Option Nat) (x3 : Int32) (s0 : g_St) {o : Unit × g_St}, z_V true [195] [] none u s0 → f_Ch_lookAtParts_71 k2 n r0 x1 r2 x3 s0 = some o → z_V true [195] [] none u o.2 := by
  intro n
  induction n with
  | zero =>
    intro r0 x1 r2 x3 s0 o hs0  h
    rw [f_Ch_lookAtParts_71] at h
    cases h
  | succ n ih =>
    intro r0 x1 r2 x3 s0 o hs0  h
    rw [f_Ch_lookAtParts_71] at h
    refine fr_if h (fun h => ?_) (fun h => ?_)
    · refine er_gI h (fun i1 h => ?_)
      refine fr_if h (fun h => ?_) (fun h => ?_)
      · exact v_Ch_lookAtParts_174 hk2 _ _ _ _ _ _ hs0 h
      · refine er_gI h (fun i2 h => ?_)
        refine fr_if h (fun h => ?_) (fun h => ?_)
        · exact v_Ch_lookAtParts_174 hk2 _ _ _ _ _ _ hs0 h
        · exact v_Ch_lookAtParts_174 hk2 _ _ _ _ _ _ hs0 h
    · exact v_Ch_lookAtParts_79 (fun _ _ _ _ _ {_} hs h => ih _ _ _ _ _ hs h) _ _ _ _ _ _ _ hs0 h
theorem v_Ch_lookAtParts_56 {u : g_St} {k25 : Option Nat → Int32 → Option Nat → Int32 → g_St → Option (Unit × g_St)} (hk25 : ∀ (y0 : Option Nat) (y1 : Int32) (y2 : Option Nat) (y3 : Int32) (s : g_St) {o : Unit × g_St}, z_V true [195] [] none u s → k25 y0 y1 y2 y3 s = some o → z_V true [195] [] none u o.2) (r0 : Option Nat) (x1 : Int32) (r2 : Option Nat) (x3 : Int32) (r0s : Option Nat) (x1s : Int32) (s0 : g_St) {o : Unit × g_St} (hs0 : z_V true [195] [] none u s0) (h : f_Ch_lookAtParts_56 k25 r0 x1 r2 x3 r0s x1s s0 = some o) : z_V true [195] [] none u o.2 := by
  unfold f_Ch_lookAtParts_56 at h
  refine er_gI h (fun i1 h => ?_)
  refine fr_c h (fun v1 s3 hc h => ?_)
  have hs1 := hs0.trans (by decide) ((v_Ch_note _ _ _ _ z_V.re (er_nn hc)).mono (by decide) (by decide) (by decide) (Or.inl rfl))
  exact hk25 _ _ _ _ _ hs1 h
theorem v_Ch_lookAtParts_25 {u : g_St} {k2 : Option Nat → Int32 → g_St → Option (Unit × g_St)} (hk2 : ∀ (y0 : Option Nat) (y1 : Int32) (s : g_St) {o : Unit × g_St}, z_V true [195] [] none u s → k2 y0 y1 s = some o → z_V true [195] [] none u o.2) : ∀ (n : Nat) (r0 : Option Nat) (x1 : Int32) (r2 : Option Nat) (x3 : Int32) (s0 : g_St) {o : Unit × g_St}, z_V true [195] [] none u s0 → f_Ch_lookAtParts_25 k2 n r0 x1 r2 x3 s0 = some o → z_V true [195] [] none u o.2 := by
  intro n
  induction n with
  | zero =>
    intro r0 x1 r2 x3 s0 o hs0  h
    rw [f_Ch_lookAtParts_25] at h
    cases h
  | succ n ih =>
    intro r0 x1 r2 x3 s0 o hs0  h
    rw [f_Ch_lookAtParts_25] at h
    refine fr_if h (fun h => ?_) (fun h => ?_)
    · exact v_Ch_lookAtParts_71 hk2 _ _ _ _ _ _ hs0 h
    · refine er_gR h (fun c1 p1 _ _ h => ?_)
      refine er_gR h (fun c2 p2 _ _ h => ?_)
      refine er_aR h (fun p3 h => ?_)
      refine er_gL h (fun j4 h => ?_)
      refine er_gL h (fun j5 h => ?_)
      refine fr_if h (fun h => ?_) (fun h => ?_)
      · exact v_Ch_lookAtParts_56 (fun _ _ _ _ _ {_} hs h => ih _ _ _ _ _ hs h) _ _ _ _ _ _ _ hs0 h
      · exact v_Ch_lookAtParts_56 (fun _ _ _ _ _ {_} hs h => ih _ _ _ _ _ hs h) _ _ _ _ _ _ _ hs0 h
theorem v_Ch_lookAtParts_2 {u : g_St} : ∀ (n : Nat) (r0 : Option Nat) (x1 : Int32) (s0 : g_St) {o : Unit × g_St}, z_V true [195] [] none u s0 → f_Ch_lookAtParts_2 n r0 x1 s0 = some o → z_V true [195] [] none u o.2 := by
  intro n
  induction n with
  | zero =>
    intro r0 x1 s0 o hs0  h
    rw [f_Ch_lookAtParts_2] at h
    cases h
  | succ n ih =>
    intro r0 x1 s0 o hs0  h
    rw [f_Ch_lookAtParts_2] at h
    refine er_gR h (fun c1 p1 _ _ h => ?_)
    refine er_gI h (fun i2 h => ?_)
    refine fr_if h (fun h => ?_) (fun h => ?_)
    · exact er_some h hs0
    · refine er_gR h (fun c2 p3 _ _ h => ?_)
      refine er_gR h (fun c3 p4 _ _ h => ?_)
      refine er_aR h (fun p5 h => ?_)
      exact v_Ch_lookAtParts_25 (fun _ _ _ {_} hs h => ih _ _ _ hs h) _ _ _ _ _ _ hs0 h
theorem v_Ch_lookAtParts {u : g_St} (r0 : Option Nat) (s0 : g_St) {o : Unit × g_St} (hs0 : z_V true [195] [] none u s0) (h : f_Ch_lookAtParts r0 s0 = some o) : z_V true [195] [] none u o.2 := by
  unfold f_Ch_lookAtParts at h
  exact v_Ch_lookAtParts_2 _ _ _ _ hs0 h
theorem v_Ch_lookAtSources_152 {u : g_St} {k118 : Option Nat → Int32 → Option Nat → Int32 → Int32 → g_St → Option (Unit × g_St)} (hk118 : ∀ (y0 : Option Nat) (y1 : Int32) (y2 : Option Nat) (y3 : Int32) (y4 : Int32) (s : g_St) {o : Unit × g_St}, z_V true [195] [] none u s → k118 y0 y1 y2 y3 y4 s = some o → z_V true [195] [] none u o.2) (r0 : Option Nat) (x1 : Int32) (r2 : Option Nat) (x4 : Int32) (x5 : Int32) (r0s : Option Nat) (x1s : Int32) (s0 : g_St) {o : Unit × g_St} (hs0 : z_V true [195] [] none u s0) (h : f_Ch_lookAtSources_152 k118 r0 x1 r2 x4 x5 r0s x1s s0 = some o) : z_V true [195] [] none u o.2 := by
  unfold f_Ch_lookAtSources_152 at h
  refine er_gI h (fun i1 h => ?_)
  refine fr_c h (fun v1 s3 hc h => ?_)
  have hs1 := hs0.trans (by decide) ((v_Ch_note _ _ _ _ z_V.re (er_nn hc)).mono (by decide) (by decide) (by decide) (Or.inl rfl))
  exact hk118 _ _ _ _ _ _ hs1 h
theorem v_Ch_lookAtSources_118 {u : g_St} {k2 : Option Nat → Int32 → g_St → Option (Unit × g_St)} (hk2 : ∀ (y0 : Option Nat) (y1 : Int32) (s : g_St) {o : Unit × g_St}, z_V true [195] [] none u s → k2 y0 y1 s = some o → z_V true [195] [] none u o.2) : ∀ (n : Nat) (r0 : Option Nat) (x1 : Int32) (r2 : Option Nat) (x4 : Int32) (x5 : Int32) (s0 : g_St) {o : Unit × g_St}, z_V true [195] [] none u s0 → f_Ch_lookAtSources_118 k2 n r0 x1 r2 x4 x5 s0 = some o → z_V true [195] [] none u o.2 := by
  intro n
  induction n with
  | zero =>
    intro r0 x1 r2 x4 x5 s0 o hs0  h
    rw [f_Ch_lookAtSources_118] at h
    cases h
  | succ n ih =>
    intro r0 x1 r2 x4 x5 s0 o hs0  h
    rw [f_Ch_lookAtSources_118] at h
    refine fr_if h (fun h => ?_) (fun h => ?_)
    · exact hk2 _ _ _ hs0 h
    · refine er_gR h (fun c1 p1 _ _ h => ?_)
      refine er_gR h (fun c2 p2 _ _ h => ?_)
      refine er_aR h (fun p3 h => ?_)
      refine er_gL h (fun j4 h => ?_)
      refine er_gL h (fun j5 h => ?_)
      refine fr_if h (fun h => ?_) (fun h => ?_)
      · exact v_Ch_lookAtSources_152 (fun _ _ _ _ _ _ {_} hs h => ih _ _ _ _ _ _ hs h) _ _ _ _ _ _ _ _ hs0 h
      · exact v_Ch_lookAtSources_152 (fun _ _ _ _ _ _ {_} hs h => ih _ _ _ _ _ _ hs h) _ _ _ _ _ _ _ _ hs0 h
theorem v_Ch_lookAtSources_85 {u : g_St} {k2 : Option Nat → Int32 → g_St → Option (Unit × g_St)} (hk2 : ∀ (y0 : Option Nat) (y1 : Int32) (s : g_St) {o : Unit × g_St}, z_V true [195] [] none u s → k2 y0 y1 s = some o → z_V true [195] [] none u o.2) (r0 : Option Nat) (x1 : Int32) (r2 : Option Nat) (r0s : Option Nat) (x1s : Int32) (s0 : g_St) {o : Unit × g_St} (hs0 : z_V true [195] [] none u s0) (h : f_Ch_lookAtSources_85 k2 r0 x1 r2 r0s x1s s0 = some o) : z_V true [195] [] none u o.2 := by
  unfold f_Ch_lookAtSources_85 at h
  refine er_gI h (fun i1 h => ?_)
  refine fr_c h (fun v1 s3 hc h => ?_)
  have hs1 := hs0.trans (by decide) ((v_Ch_note _ _ _ _ z_V.re (er_nn hc)).mono (by decide) (by decide) (by decide) (Or.inl rfl))
  refine fr_c h (fun i4 s5 hc h => ?_)
  have hs2 := hs1.trans (by decide) ((v_So_isInner _ _ z_V.re (er_nn hc)).mono (by decide) (by decide) (by decide) (Or.inl rfl))
  refine fr_if h (fun h => ?_) (fun h => ?_)
  · refine er_gI h (fun i6 h => ?_)
    exact v_Ch_lookAtSources_118 hk2 _ _ _ _ _ _ _ hs2 h
  · refine er_gR h (fun c3 p7 _ _ h => ?_)
    refine er_gI h (fun i8 h => ?_)
    exact v_Ch_lookAtSources_118 hk2 _ _ _ _ _ _ _ hs2 h
theorem v_Ch_lookAtSources_60 {u : g_St} {k2 : Option Nat → Int32 → g_St → Option (Unit × g_St)} (hk2 : ∀ (y0 : Option Nat) (y1 : Int32) (s : g_St) {o : Unit × g_St}, z_V true [195] [] none u s → k2 y0 y1 s = some o → z_V true [195] [] none u o.2) (r0 : Option Nat) (x1 : Int32) (r2 : Option Nat) (x0s : Int32) (s0 : g_St) {o : Unit × g_St} (hs0 : z_V true [195] [] none u s0) (h : f_Ch_lookAtSources_60 k2 r0 x1 r2 x0s s0 = some o) : z_V true [195] [] none u o.2 := by
  unfold f_Ch_lookAtSources_60 at h
  refine fr_if h (fun h => ?_) (fun h => ?_)
  · refine er_gI h (fun i1 h => ?_)
    refine fr_if h (fun h => ?_) (fun h => ?_)
    · exact v_Ch_lookAtSources_85 hk2 _ _ _ _ _ _ hs0 h
    · refine er_gI h (fun i2 h => ?_)
      refine fr_if h (fun h => ?_) (fun h => ?_)
      · exact v_Ch_lookAtSources_85 hk2 _ _ _ _ _ _ hs0 h
      · exact v_Ch_lookAtSources_85 hk2 _ _ _ _ _ _ hs0 h
  · exact v_Ch_lookAtSources_85 hk2 _ _ _ _ _ _ hs0 h
theorem v_Ch_lookAtSources_2 {u : g_St} : ∀ (n : Nat) (r0 : Option Nat) (x1 : Int32) (s0 : g_St) {o : Unit × g_St}, z_V true [195] [] none u s0 → f_Ch_lookAtSources_2 n r0 x1 s0 = some o → z_V true [195] [] none u o.2 := by
  intro n
  induction n with
  | zero =>
    intro r0 x1 s0 o hs0  h
    rw [f_Ch_lookAtSources_2] at h
    cases h
  | succ n ih =>
    intro r0 x1 s0 o hs0  h
    rw [f_Ch_lookAtSources_2] at h
    refine er_gR h (fun c1 p1 _ _ h => ?_)
    refine er_gR h (fun c2 p2 _ _ h => ?_)
    refine fr_c h (fun i3 s4 hc h => ?_)
    have hs3 := hs0.trans (by decide) ((v_Al_size _ _ z_V.re (er_nn hc)).mono (by decide) (by decide) (by decide) (Or.inl rfl))
    refine fr_if h (fun h => ?_) (fun h => ?_)
    · exact er_some h hs3
    · refine er_gR h (fun c4 p5 _ _ h => ?_)
      refine er_gR h (fun c5 p6 _ _ h => ?_)
      refine fr_c h (fun p7 s8 hc h => ?_)
      have hs6 := hs3.trans (by decide) ((v_Al_get _ _ _ z_V.re (er_nn hc)).mono (by decide) (by decide) (by decide) (Or.inl rfl))
      replace h := er_cast h
      refine er_gR h (fun c7 p9 _ _ h => ?_)
      refine er_gI h (fun i10 h => ?_)
      refine fr_if h (fun h => ?_) (fun h => ?_)
      · refine er_gI h (fun i11 h => ?_)
        refine er_gR h (fun c8 p12 _ _ h => ?_)
        refine er_gI h (fun i13 h => ?_)
        refine fr_if h (fun h => ?_) (fun h => ?_)
        · exact v_Ch_lookAtSources_60 (fun _ _ _ {_} hs h => ih _ _ _ hs h) _ _ _ _ _ hs6 h
        · exact v_Ch_lookAtSources_60 (fun _ _ _ {_} hs h => ih _ _ _ hs h) _ _ _ _ _ hs6 h
      · exact v_Ch_lookAtSources_60 (fun _ _ _ {_} hs h => ih _ _ _ hs h) _ _ _ _ _ hs6 h
theorem v_Ch_lookAtSources {u : g_St} (r0 : Option Nat) (s0 : g_St) {o : Unit × g_St} (hs0 : z_V true [195] [] none u s0) (h : f_Ch_lookAtSources r0 s0 = some o) : z_V true [195] [] none u o.2 := by
  unfold f_Ch_lookAtSources at h
  exact v_Ch_lookAtSources_2 _ _ _ _ hs0 h
theorem v_Ch_lookAtColumns_59 {u : g_St} {k2 : Option Nat → Int32 → g_St → Option (Unit × g_St)} (hk2 : ∀ (y0 : Option Nat) (y1 : Int32) (s : g_St) {o : Unit × g_St}, z_V true [195] [] none u s → k2 y0 y1 s = some o → z_V true [195] [] none u o.2) (r0 : Option Nat) (x1 : Int32) (r2 : Option Nat) (r0s : Option Nat) (x1s : Int32) (s0 : g_St) {o : Unit × g_St} (hs0 : z_V true [195] [] none u s0) (h : f_Ch_lookAtColumns_59 k2 r0 x1 r2 r0s x1s s0 = some o) : z_V true [195] [] none u o.2 := by
  unfold f_Ch_lookAtColumns_59 at h
  refine er_gI h (fun i1 h => ?_)
  refine fr_c h (fun v1 s3 hc h => ?_)
  have hs1 := hs0.trans (by decide) ((v_Ch_note _ _ _ _ z_V.re (er_nn hc)).mono (by decide) (by decide) (by decide) (Or.inl rfl))
  exact hk2 _ _ _ hs1 h
theorem v_Ch_lookAtColumns_2 {u : g_St} : ∀ (n : Nat) (r0 : Option Nat) (x1 : Int32) (s0 : g_St) {o : Unit × g_St}, z_V true [195] [] none u s0 → f_Ch_lookAtColumns_2 n r0 x1 s0 = some o → z_V true [195] [] none u o.2 := by
  intro n
  induction n with
  | zero =>
    intro r0 x1 s0 o hs0  h
    rw [f_Ch_lookAtColumns_2] at h
    cases h
  | succ n ih =>
    intro r0 x1 s0 o hs0  h
    rw [f_Ch_lookAtColumns_2] at h
    refine er_gR h (fun c1 p1 _ _ h => ?_)
    refine er_gR h (fun c2 p2 _ _ h => ?_)
    refine fr_c h (fun i3 s4 hc h => ?_)
    have hs3 := hs0.trans (by decide) ((v_Al_size _ _ z_V.re (er_nn hc)).mono (by decide) (by decide) (by decide) (Or.inl rfl))
    refine fr_if h (fun h => ?_) (fun h => ?_)
    · exact er_some h hs3
    · refine er_gR h (fun c4 p5 _ _ h => ?_)
      refine er_gR h (fun c5 p6 _ _ h => ?_)
      refine fr_c h (fun p7 s8 hc h => ?_)
      have hs6 := hs3.trans (by decide) ((v_Al_get _ _ _ z_V.re (er_nn hc)).mono (by decide) (by decide) (by decide) (Or.inl rfl))
      replace h := er_cast h
      refine er_gI h (fun i9 h => ?_)
      refine fr_if h (fun h => ?_) (fun h => ?_)
      · exact v_Ch_lookAtColumns_59 (fun _ _ _ {_} hs h => ih _ _ _ hs h) _ _ _ _ _ _ hs6 h
      · refine er_gI h (fun i10 h => ?_)
        refine fr_if h (fun h => ?_) (fun h => ?_)
        · refine er_gI h (fun i11 h => ?_)
          refine fr_if h (fun h => ?_) (fun h => ?_)
          · exact v_Ch_lookAtColumns_59 (fun _ _ _ {_} hs h => ih _ _ _ hs h) _ _ _ _ _ _ hs6 h
          · exact v_Ch_lookAtColumns_59 (fun _ _ _ {_} hs h => ih _ _ _ hs h) _ _ _ _ _ _ hs6 h
        · exact v_Ch_lookAtColumns_59 (fun _ _ _ {_} hs h => ih _ _ _ hs h) _ _ _ _ _ _ hs6 h
theorem v_Ch_lookAtColumns {u : g_St} (r0 : Option Nat) (s0 : g_St) {o : Unit × g_St} (hs0 : z_V true [195] [] none u s0) (h : f_Ch_lookAtColumns r0 s0 = some o) : z_V true [195] [] none u o.2 := by
  unfold f_Ch_lookAtColumns at h
  exact v_Ch_lookAtColumns_2 _ _ _ _ hs0 h
theorem v_Ch_lookForBarred_72 {u : g_St} {k2 : Option Nat → Int32 → g_St → Option (Unit × g_St)} (hk2 : ∀ (y0 : Option Nat) (y1 : Int32) (s : g_St) {o : Unit × g_St}, z_V true [195] [] none u s → k2 y0 y1 s = some o → z_V true [195] [] none u o.2) (r0 : Option Nat) (x1 : Int32) (r2 : Option Nat) (r0s : Option Nat) (x1s : Int32) (s0 : g_St) {o : Unit × g_St} (hs0 : z_V true [195] [] none u s0) (h : f_Ch_lookForBarred_72 k2 r0 x1 r2 r0s x1s s0 = some o) : z_V true [195] [] none u o.2 := by
  unfold f_Ch_lookForBarred_72 at h
  refine er_gI h (fun i1 h => ?_)
  refine fr_c h (fun v1 s3 hc h => ?_)
  have hs1 := hs0.trans (by decide) ((v_Ch_note _ _ _ _ z_V.re (er_nn hc)).mono (by decide) (by decide) (by decide) (Or.inl rfl))
  exact hk2 _ _ _ hs1 h
theorem v_Ch_lookForBarred_53 {u : g_St} {k2 : Option Nat → Int32 → g_St → Option (Unit × g_St)} (hk2 : ∀ (y0 : Option Nat) (y1 : Int32) (s : g_St) {o : Unit × g_St}, z_V true [195] [] none u s → k2 y0 y1 s = some o → z_V true [195] [] none u o.2) (r0 : Option Nat) (x1 : Int32) (r2 : Option Nat) (x0s : Int32) (s0 : g_St) {o : Unit × g_St} (hs0 : z_V true [195] [] none u s0) (h : f_Ch_lookForBarred_53 k2 r0 x1 r2 x0s s0 = some o) : z_V true [195] [] none u o.2 := by
  unfold f_Ch_lookForBarred_53 at h
  refine fr_if h (fun h => ?_) (fun h => ?_)
  · exact v_Ch_lookForBarred_72 hk2 _ _ _ _ _ _ hs0 h
  · refine fr_c h (fun i1 s2 hc h => ?_)
    have hs1 := hs0.trans (by decide) ((v_Ch_namesOwnComponent _ _ _ z_V.re (er_nn hc)).mono (by decide) (by decide) (by decide) (Or.inl rfl))
    refine fr_if h (fun h => ?_) (fun h => ?_)
    · exact v_Ch_lookForBarred_72 hk2 _ _ _ _ _ _ hs1 h
    · exact v_Ch_lookForBarred_72 hk2 _ _ _ _ _ _ hs1 h
theorem v_Ch_lookForBarred_2 {u : g_St} : ∀ (n : Nat) (r0 : Option Nat) (x1 : Int32) (s0 : g_St) {o : Unit × g_St}, z_V true [195] [] none u s0 → f_Ch_lookForBarred_2 n r0 x1 s0 = some o → z_V true [195] [] none u o.2 := by
  intro n
  induction n with
  | zero =>
    intro r0 x1 s0 o hs0  h
    rw [f_Ch_lookForBarred_2] at h
    cases h
  | succ n ih =>
    intro r0 x1 s0 o hs0  h
    rw [f_Ch_lookForBarred_2] at h
    refine er_gR h (fun c1 p1 _ _ h => ?_)
    refine er_gR h (fun c2 p2 _ _ h => ?_)
    refine fr_c h (fun i3 s4 hc h => ?_)
    have hs3 := hs0.trans (by decide) ((v_Al_size _ _ z_V.re (er_nn hc)).mono (by decide) (by decide) (by decide) (Or.inl rfl))
    refine fr_if h (fun h => ?_) (fun h => ?_)
    · exact er_some h hs3
    · refine er_gR h (fun c4 p5 _ _ h => ?_)
      refine er_gR h (fun c5 p6 _ _ h => ?_)
      refine fr_c h (fun p7 s8 hc h => ?_)
      have hs6 := hs3.trans (by decide) ((v_Al_get _ _ _ z_V.re (er_nn hc)).mono (by decide) (by decide) (by decide) (Or.inl rfl))
      replace h := er_cast h
      refine fr_c h (fun i9 s10 hc h => ?_)
      have hs7 := hs6.trans (by decide) ((v_So_isInner _ _ z_V.re (er_nn hc)).mono (by decide) (by decide) (by decide) (Or.inl rfl))
      refine fr_if h (fun h => ?_) (fun h => ?_)
      · refine er_gR h (fun c8 p11 _ _ h => ?_)
        refine er_gI h (fun i12 h => ?_)
        refine fr_if h (fun h => ?_) (fun h => ?_)
        · exact v_Ch_lookForBarred_53 (fun _ _ _ {_} hs h => ih _ _ _ hs h) _ _ _ _ _ hs7 h
        · exact v_Ch_lookForBarred_53 (fun _ _ _ {_} hs h => ih _ _ _ hs h) _ _ _ _ _ hs7 h
      · exact v_Ch_lookForBarred_53 (fun _ _ _ {_} hs h => ih _ _ _ hs h) _ _ _ _ _ hs7 h
theorem v_Ch_lookForBarred {u : g_St} (r0 : Option Nat) (s0 : g_St) {o : Unit × g_St} (hs0 : z_V true [195] [] none u s0) (h : f_Ch_lookForBarred r0 s0 = some o) : z_V true [195] [] none u o.2 := by
  unfold f_Ch_lookForBarred at h
  exact v_Ch_lookForBarred_2 _ _ _ _ hs0 h
theorem v_Ch_lookAtWidths_32 {u : g_St} {k2 : Option Nat → Option Nat → Int32 → g_St → Option (Unit × g_St)} (hk2 : ∀ (y0 : Option Nat) (y1 : Option Nat) (y2 : Int32) (s : g_St) {o : Unit × g_St}, z_V true [195] [] none u s → k2 y0 y1 y2 s = some o → z_V true [195] [] none u o.2) (r0 : Option Nat) (r1 : Option Nat) (x2 : Int32) (r0s : Option Nat) (x1s : Int32) (s0 : g_St) {o : Unit × g_St} (hs0 : z_V true [195] [] none u s0) (h : f_Ch_lookAtWidths_32 k2 r0 r1 x2 r0s x1s s0 = some o) : z_V true [195] [] none u o.2 := by
  unfold f_Ch_lookAtWidths_32 at h
  refine er_gR h (fun c1 p1 _ _ h => ?_)
  refine er_aR h (fun p2 h => ?_)
  refine er_gI h (fun i3 h => ?_)
  refine fr_c h (fun v2 s5 hc h => ?_)
  have hs2 := hs0.trans (by decide) ((v_Ch_note _ _ _ _ z_V.re (er_nn hc)).mono (by decide) (by decide) (by decide) (Or.inl rfl))
  exact hk2 _ _ _ _ hs2 h
theorem v_Ch_lookAtWidths_2 {u : g_St} : ∀ (n : Nat) (r0 : Option Nat) (r1 : Option Nat) (x2 : Int32) (s0 : g_St) {o : Unit × g_St}, z_V true [195] [] none u s0 → f_Ch_lookAtWidths_2 n r0 r1 x2 s0 = some o → z_V true [195] [] none u o.2 := by
  intro n
  induction n with
  | zero =>
    intro r0 r1 x2 s0 o hs0  h
    rw [f_Ch_lookAtWidths_2] at h
    cases h
  | succ n ih =>
    intro r0 r1 x2 s0 o hs0  h
    rw [f_Ch_lookAtWidths_2] at h
    refine er_gI h (fun i1 h => ?_)
    refine fr_if h (fun h => ?_) (fun h => ?_)
    · exact er_some h hs0
    · refine er_gR h (fun c1 p2 _ _ h => ?_)
      refine er_aR h (fun p3 h => ?_)
      refine er_gI h (fun i4 h => ?_)
      refine er_gI h (fun i5 h => ?_)
      refine fr_if h (fun h => ?_) (fun h => ?_)
      · exact v_Ch_lookAtWidths_32 (fun _ _ _ _ {_} hs h => ih _ _ _ _ hs h) _ _ _ _ _ _ hs0 h
      · exact v_Ch_lookAtWidths_32 (fun _ _ _ _ {_} hs h => ih _ _ _ _ hs h) _ _ _ _ _ _ hs0 h
theorem v_Ch_lookAtWidths {u : g_St} (r0 : Option Nat) (r1 : Option Nat) (s0 : g_St) {o : Unit × g_St} (hs0 : z_V true [195] [] none u s0) (h : f_Ch_lookAtWidths r0 r1 s0 = some o) : z_V true [195] [] none u o.2 := by
  unfold f_Ch_lookAtWidths at h
  exact v_Ch_lookAtWidths_2 _ _ _ _ _ hs0 h
theorem v_Ch_namesItselfTwice_2 {u : g_St} : ∀ (n : Nat) (r0 : Option Nat) (x1 : Int32) (s0 : g_St) {o : Int32 × g_St}, z_V true [] [] none u s0 → f_Ch_namesItselfTwice_2 n r0 x1 s0 = some o → z_V true [] [] none u o.2 := by
  intro n
  induction n with
  | zero =>
    intro r0 x1 s0 o hs0  h
    rw [f_Ch_namesItselfTwice_2] at h
    cases h
  | succ n ih =>
    intro r0 x1 s0 o hs0  h
    rw [f_Ch_namesItselfTwice_2] at h
    refine er_gI h (fun i1 h => ?_)
    refine fr_if h (fun h => ?_) (fun h => ?_)
    · exact er_some (er_rZ h) hs0
    · refine er_gR h (fun c1 p2 _ _ h => ?_)
      refine er_aR h (fun p3 h => ?_)
      refine er_gI h (fun i4 h => ?_)
      refine fr_if h (fun h => ?_) (fun h => ?_)
      · exact ih _ _ _ hs0 h
      · exact er_some (er_rZ h) hs0
theorem v_Ch_namesItselfTwice {u : g_St} (r0 : Option Nat) (s0 : g_St) {o : Int32 × g_St} (hs0 : z_V true [] [] none u s0) (h : f_Ch_namesItselfTwice r0 s0 = some o) : z_V true [] [] none u o.2 := by
  unfold f_Ch_namesItselfTwice at h
  exact v_Ch_namesItselfTwice_2 _ _ _ _ hs0 h
theorem v_Ch_isWrong_127 {u : g_St} (r1 : Option Nat) (s0 : g_St) {o : Int32 × g_St} (hs0 : z_V true [] [] none u s0) (h : f_Ch_isWrong_127 r1 s0 = some o) : z_V true [] [] none u o.2 := by
  unfold f_Ch_isWrong_127 at h
  refine er_gI h (fun i1 h => ?_)
  refine fr_if h (fun h => ?_) (fun h => ?_)
  · exact er_some (er_rZ h) hs0
  · exact er_some (er_rZ h) hs0
theorem v_Ch_isWrong_83 {u : g_St} (r1 : Option Nat) (s0 : g_St) {o : Int32 × g_St} (hs0 : z_V true [] [] none u s0) (h : f_Ch_isWrong_83 r1 s0 = some o) : z_V true [] [] none u o.2 := by
  unfold f_Ch_isWrong_83 at h
  refine er_gI h (fun i1 h => ?_)
  refine fr_c h (fun i2 s3 hc h => ?_)
  have hs1 := hs0.trans (by decide) ((v_In_bitCount _ _ z_V.re hc).mono (by decide) (by decide) (by decide) (Or.inl rfl))
  refine fr_if h (fun h => ?_) (fun h => ?_)
  · exact er_some (er_rZ h) hs1
  · refine fr_c h (fun i4 s5 hc h => ?_)
    have hs2 := hs1.trans (by decide) ((v_Ch_namesItselfTwice _ _ z_V.re hc).mono (by decide) (by decide) (by decide) (Or.inl rfl))
    refine fr_if h (fun h => ?_) (fun h => ?_)
    · exact er_some (er_rZ h) hs2
    · exact er_some (er_rZ h) hs2
theorem v_Ch_isWrong {u : g_St} (r0 : Option Nat) (r1 : Option Nat) (x2 : Int32) (s0 : g_St) {o : Int32 × g_St} (hs0 : z_V true [] [] none u s0) (h : f_Ch_isWrong r0 r1 x2 s0 = some o) : z_V true [] [] none u o.2 := by
  unfold f_Ch_isWrong at h
  refine fr_if h (fun h => ?_) (fun h => ?_)
  · refine er_gI h (fun i10 h => ?_)
    refine fr_if h (fun h => ?_) (fun h => ?_)
    · exact er_some (er_rZ h) hs0
    · refine er_gI h (fun i11 h => ?_)
      refine fr_if h (fun h => ?_) (fun h => ?_)
      · exact er_some (er_rZ h) hs0
      · exact er_some (er_rZ h) hs0
  · refine fr_if h (fun h => ?_) (fun h => ?_)
    · refine er_gR h (fun c1 p7 _ _ h => ?_)
      refine er_aR h (fun p8 h => ?_)
      refine er_gI h (fun i9 h => ?_)
      refine fr_if h (fun h => ?_) (fun h => ?_)
      · exact er_some (er_rZ h) hs0
      · exact er_some (er_rZ h) hs0
    · refine fr_if h (fun h => ?_) (fun h => ?_)
      · refine er_gI h (fun i3 h => ?_)
        refine fr_if h (fun h => ?_) (fun h => ?_)
        · exact er_some (er_rZ h) hs0
        · refine er_gI h (fun i4 h => ?_)
          refine fr_if h (fun h => ?_) (fun h => ?_)
          · refine er_gI h (fun i5 h => ?_)
            refine fr_if h (fun h => ?_) (fun h => ?_)
            · refine er_gI h (fun i6 h => ?_)
              refine fr_if h (fun h => ?_) (fun h => ?_)
              · exact er_some (er_rZ h) hs0
              · exact v_Ch_isWrong_83 _ _ hs0 h
            · exact v_Ch_isWrong_83 _ _ hs0 h
          · exact v_Ch_isWrong_83 _ _ hs0 h
      · refine fr_if h (fun h => ?_) (fun h => ?_)
        · refine er_gI h (fun i1 h => ?_)
          refine fr_if h (fun h => ?_) (fun h => ?_)
          · refine er_gI h (fun i2 h => ?_)
            refine fr_if h (fun h => ?_) (fun h => ?_)
            · exact er_some (er_rZ h) hs0
            · exact v_Ch_isWrong_127 _ _ hs0 h
          · exact v_Ch_isWrong_127 _ _ hs0 h
        · exact er_some (er_rZ h) hs0
theorem v_Ch_look_69 {u : g_St} : ∀ (n : Nat) (r0 : Option Nat) (x1 : Int32) (x2 : Int32) (s0 : g_St) {o : Unit × g_St}, z_V true [195] [] none u s0 → f_Ch_look_69 n r0 x1 x2 s0 = some o → z_V true [195] [] none u o.2 := by
  intro n
  induction n with
  | zero =>
    intro r0 x1 x2 s0 o hs0  h
    rw [f_Ch_look_69] at h
    cases h
  | succ n ih =>
    intro r0 x1 x2 s0 o hs0  h
    rw [f_Ch_look_69] at h
    refine er_gR h (fun c1 p1 _ _ h => ?_)
    refine er_gI h (fun i2 h => ?_)
    refine fr_if h (fun h => ?_) (fun h => ?_)
    · exact er_some h hs0
    · refine er_gR h (fun c2 p3 _ _ h => ?_)
      refine er_gR h (fun c3 p4 _ _ h => ?_)
      refine er_aR h (fun p5 h => ?_)
      refine fr_if h (fun h => ?_) (fun h => ?_)
      · refine fr_c h (fun v4 s12 hc h => ?_)
        have hs4 := hs0.trans (by decide) ((v_Ch_lookAtWidths _ _ _ z_V.re (er_nn hc)).mono (by decide) (by decide) (by decide) (Or.inl rfl))
        exact ih _ _ _ _ hs4 h
      · refine fr_c h (fun i6 s7 hc h => ?_)
        have hs5 := hs0.trans (by decide) ((v_Ch_isWrong _ _ _ _ z_V.re (er_nn hc)).mono (by decide) (by decide) (by decide) (Or.inl rfl))
        refine er_gI h (fun i8 h => ?_)
        refine fr_c h (fun v6 s10 hc h => ?_)
        have hs6 := hs5.trans (by decide) ((v_Ch_note _ _ _ _ z_V.re (er_nn hc)).mono (by decide) (by decide) (by decide) (Or.inl rfl))
        exact ih _ _ _ _ hs6 h
theorem v_Ch_look_46 {u : g_St} (r0 : Option Nat) (r0s : Option Nat) (x1s : Int32) (s0 : g_St) {o : Unit × g_St} (hs0 : z_V true [195] [] none u s0) (h : f_Ch_look_46 r0 r0s x1s s0 = some o) : z_V true [195] [] none u o.2 := by
  unfold f_Ch_look_46 at h
  refine er_gR h (fun c1 p1 _ _ h => ?_)
  refine er_gI h (fun i2 h => ?_)
  refine fr_c h (fun v2 s4 hc h => ?_)
  have hs2 := hs0.trans (by decide) ((v_Ch_note _ _ _ _ z_V.re (er_nn hc)).mono (by decide) (by decide) (by decide) (Or.inl rfl))
  exact er_some h hs2
theorem v_Ch_look {u : g_St} (r0 : Option Nat) (x1 : Int32) (s0 : g_St) {o : Unit × g_St} (hs0 : z_V true [195] [] none u s0) (h : f_Ch_look r0 x1 s0 = some o) : z_V true [195] [] none u o.2 := by
  unfold f_Ch_look at h
  refine fr_if h (fun h => ?_) (fun h => ?_)
  · refine fr_c h (fun v1 s4 hc h => ?_)
    have hs1 := hs0.trans (by decide) ((v_Ch_lookAtParts _ _ z_V.re (er_nn hc)).mono (by decide) (by decide) (by decide) (Or.inl rfl))
    refine fr_c h (fun v2 s6 hc h => ?_)
    have hs2 := hs1.trans (by decide) ((v_Ch_lookAtSources _ _ z_V.re (er_nn hc)).mono (by decide) (by decide) (by decide) (Or.inl rfl))
    refine fr_c h (fun v3 s8 hc h => ?_)
    have hs3 := hs2.trans (by decide) ((v_Ch_lookAtColumns _ _ z_V.re (er_nn hc)).mono (by decide) (by decide) (by decide) (Or.inl rfl))
    refine er_gR h (fun c4 p9 _ _ h => ?_)
    refine er_gI h (fun i10 h => ?_)
    refine fr_if h (fun h => ?_) (fun h => ?_)
    · exact v_Ch_look_46 _ _ _ _ hs3 h
    · refine er_gR h (fun c5 p11 _ _ h => ?_)
      refine er_gR h (fun c6 p12 _ _ h => ?_)
      refine er_gI h (fun i13 h => ?_)
      refine fr_if h (fun h => ?_) (fun h => ?_)
      · exact v_Ch_look_46 _ _ _ _ hs3 h
      · exact v_Ch_look_46 _ _ _ _ hs3 h
  · refine fr_if h (fun h => ?_) (fun h => ?_)
    · refine fr_c h (fun v7 s2 hc h => ?_)
      have hs7 := hs0.trans (by decide) ((v_Ch_lookForBarred _ _ z_V.re (er_nn hc)).mono (by decide) (by decide) (by decide) (Or.inl rfl))
      exact er_some h hs7
    · exact v_Ch_look_69 _ _ _ _ _ hs0 h
theorem v_Ch_levelConditions_2 {u : g_St} : ∀ (n : Nat) (r0 : Option Nat) (x1 : Int32) (s0 : g_St) {o : Unit × g_St}, z_V true [394] [] none u s0 → f_Ch_levelConditions_2 n r0 x1 s0 = some o → z_V true [394] [] none u o.2 := by
  intro n
  induction n with
  | zero =>
    intro r0 x1 s0 o hs0  h
    rw [f_Ch_levelConditions_2] at h
    cases h
  | succ n ih =>
    intro r0 x1 s0 o hs0  h
    rw [f_Ch_levelConditions_2] at h
    refine er_gR h (fun c1 p1 _ _ h => ?_)
    refine er_gR h (fun c2 p2 _ _ h => ?_)
    refine fr_c h (fun i3 s4 hc h => ?_)
    have hs3 := hs0.trans (by decide) ((v_Al_size _ _ z_V.re (er_nn hc)).mono (by decide) (by decide) (by decide) (Or.inl rfl))
    refine fr_if h (fun h => ?_) (fun h => ?_)
    · exact er_some h hs3
    · refine er_gR h (fun c4 p5 _ _ h => ?_)
      refine er_gR h (fun c5 p6 _ _ h => ?_)
      refine fr_c h (fun p7 s8 hc h => ?_)
      have hs6 := hs3.trans (by decide) ((v_Al_get _ _ _ z_V.re (er_nn hc)).mono (by decide) (by decide) (by decide) (Or.inl rfl))
      replace h := er_cast h
      refine er_gR h (fun c7 p9 _ _ h => ?_)
      refine fr_if h (fun h => ?_) (fun h => ?_)
      · exact ih _ _ _ hs6 h
      · refine er_gR h (fun c8 p10 _ _ h => ?_)
        refine fr_if h (fun h => ?_) (fun h => ?_)
        · exact ih _ _ _ hs6 h
        · refine er_gR h (fun c9 p11 _ _ h => ?_)
          refine er_gR h (fun c10 p12 _ _ h => ?_)
          refine er_gI h (fun i13 h => ?_)
          refine er_gR h (fun c11 p14 _ _ h => ?_)
          refine er_gI h (fun i15 h => ?_)
          refine er_pI h (fun a12 ha h => ?_)
          have hs12 := hs6.pI (k := 394) (a := a12) (if i13 < (i15 + 1) then (i15 + 1) else i13) (Or.inl (by decide))
          exact ih _ _ _ hs12 h
theorem v_Ch_levelConditions {u : g_St} (r0 : Option Nat) (s0 : g_St) {o : Unit × g_St} (hs0 : z_V true [394] [] none u s0) (h : f_Ch_levelConditions r0 s0 = some o) : z_V true [394] [] none u o.2 := by
  unfold f_Ch_levelConditions at h
  exact v_Ch_levelConditions_2 _ _ _ _ hs0 h
theorem v_Ch_find_38 {u : g_St} : ∀ (n : Nat) (r0 : Option Nat) (x4 : Int32) (s0 : g_St) {o : Int32 × g_St}, z_V true [3, 67, 131, 195, 393, 394, 454, 457, 523, 587, 648, 775, 839, 903, 967, 1031, 1095] [] none u s0 → f_Ch_find_38 n r0 x4 s0 = some o → z_V true [3, 67, 131, 195, 393, 394, 454, 457, 523, 587, 648, 775, 839, 903, 967, 1031, 1095] [] none u o.2 := by
  intro n
  induction n with
  | zero =>
    intro r0 x4 s0 o hs0  h
    rw [f_Ch_find_38] at h
    cases h
  | succ n ih =>
    intro r0 x4 s0 o hs0  h
    rw [f_Ch_find_38] at h
    refine fr_if h (fun h => ?_) (fun h => ?_)
    · refine fr_c h (fun v1 s2 hc h => ?_)
      have hs1 := hs0.trans (by decide) ((v_Ch_levelConditions _ _ z_V.re (er_nn hc)).mono (by decide) (by decide) (by decide) (Or.inl rfl))
      exact er_some h hs1
    · refine er_pI h (fun a2 ha h => ?_)
      have hs2 := hs0.pI (k := 195) (a := a2) 401 (Or.inl (by decide))
      refine fr_c h (fun v3 s5 hc h => ?_)
      have hs3 := hs2.trans (by decide) ((v_Ch_look _ _ _ z_V.re (er_nn hc)).mono (by decide) (by decide) (by decide) (Or.inl rfl))
      refine er_gI h (fun i6 h => ?_)
      refine fr_if h (fun h => ?_) (fun h => ?_)
      · exact ih _ _ _ hs3 h
      · refine er_gI h (fun i7 h => ?_)
        exact er_some h hs3
theorem v_Ch_find {u : g_St} (r0 : Option Nat) (r1 : Option Nat) (r2 : Option Nat) (x3 : Int32) (s0 : g_St) {o : Int32 × g_St} (hs0 : z_V true [3, 67, 131, 195, 393, 394, 454, 457, 523, 587, 648, 775, 839, 903, 967, 1031, 1095] [] none u s0) (h : f_Ch_find r0 r1 r2 x3 s0 = some o) : z_V true [3, 67, 131, 195, 393, 394, 454, 457, 523, 587, 648, 775, 839, 903, 967, 1031, 1095] [] none u o.2 := by
  unfold f_Ch_find at h
  refine er_pR h (fun a1 ha h => ?_)
  have hs1 := hs0.pR (k := 3) (a := a1) r1 (Or.inl (by decide)) (by decide)
  refine er_pR h (fun a2 ha h => ?_)
  have hs2 := hs1.pR (k := 67) (a := a2) r2 (Or.inl (by decide)) (by decide)
  refine er_pI h (fun a3 ha h => ?_)
  have hs3 := hs2.pI (k := 131) (a := a3) x3 (Or.inl (by decide))
  refine fr_c h (fun v4 s5 hc h => ?_)
  have hs4 := hs3.trans (by decide) ((v_Ch_nameSources _ _ z_V.re (er_nn hc)).mono (by decide) (by decide) (by decide) (Or.inl rfl))
  refine fr_c h (fun v5 s7 hc h => ?_)
  have hs5 := hs4.trans (by decide) ((v_Ch_nameColumns _ _ z_V.re (er_nn hc)).mono (by decide) (by decide) (by decide) (Or.inl rfl))
  refine fr_c h (fun v6 s9 hc h => ?_)
  have hs6 := hs5.trans (by decide) ((v_Ch_needParts _ _ z_V.re (er_nn hc)).mono (by decide) (by decide) (by decide) (Or.inl rfl))
  refine fr_c h (fun v7 s11 hc h => ?_)
  have hs7 := hs6.trans (by decide) ((v_Ch_orderComponents _ _ z_V.re (er_nn hc)).mono (by decide) (by decide) (by decide) (Or.inl rfl))
  refine fr_c h (fun v8 s13 hc h => ?_)
  have hs8 := hs7.trans (by decide) ((v_Ch_countNamings _ _ z_V.re (er_nn hc)).mono (by decide) (by decide) (by decide) (Or.inl rfl))
  exact v_Ch_find_38 _ _ _ _ hs8 h
theorem v_Ru_init_63 {u : g_St} : ∀ (n : Nat) (r0 : Option Nat) (x1 : Int32) (s0 : g_St) {o : Unit × g_St}, z_V false [] [4] r0 u s0 → f_Ru_init_63 n r0 x1 s0 = some o → z_V false [] [4] r0 u o.2 := by
  intro n
  induction n with
  | zero =>
    intro r0 x1 s0 o hs0  h
    rw [f_Ru_init_63] at h
    cases h
  | succ n ih =>
    intro r0 x1 s0 o hs0  h
    rw [f_Ru_init_63] at h
    refine fr_if h (fun h => ?_) (fun h => ?_)
    · exact er_some h hs0
    · refine er_gR h (fun c1 p1 _ ec1 h => ?_)
      have own_p1 : ∀ x, p1 = some x → g_al u x → z_own [4] u x := fun x q => hs0.own (by decide) (by decide) (by decide) (ec1.trans q)
      refine er_new hs0 (by decide) h (fun p2 s3 hs2 fresh_p2 h => ?_)
      refine fr_c h (fun v3 s5 hc h => ?_)
      have hs3 := hs2.transI (by decide) (fun z q => Or.inr (fresh_p2 z q)) ((v_Rl_init _ _ _ _ z_V.re (er_nn hc)).mono (by decide) (by decide) (by decide) (Or.inr rfl))
      refine er_sR h (fun x_4 ix4 ha h => ?_)
      have hs4 := hs3.sAR (own_p1 x_4 ha) ix4 p2
      exact ih _ _ _ hs4 h
theorem v_Ru_init {u : g_St} (r0 : Option Nat) (s0 : g_St) {o : Unit × g_St} (hs0 : z_V false [] [4] r0 u s0) (h : f_Ru_init r0 s0 = some o) : z_V false [] [4] r0 u o.2 := by
  unfold f_Ru_init at h
  replace h := er_nn h
  refine er_newA hs0 (by decide) h (fun p1 s2 hs1 fresh_p1 new_p1 h => ?_)
  refine er_pR h (fun a2 ha h => ?_)
  have hs2 := hs1.pRn (k := 4) (a := a2) p1 (Or.inr ha) fresh_p1 new_p1
  refine er_newA hs2 (by decide) h (fun p4 s5 hs3 fresh_p4 new_p4 h => ?_)
  refine er_pR h (fun a4 ha h => ?_)
  have hs4 := hs3.pRn (k := 68) (a := a4) p4 (Or.inr ha) fresh_p4 new_p4
  refine er_newA hs4 (by decide) h (fun p7 s8 hs5 fresh_p7 new_p7 h => ?_)
  refine er_pR h (fun a6 ha h => ?_)
  have hs6 := hs5.pRn (k := 132) (a := a6) p7 (Or.inr ha) fresh_p7 new_p7
  refine er_newA hs6 (by decide) h (fun p10 s11 hs7 fresh_p10 new_p10 h => ?_)
  refine er_pR h (fun a8 ha h => ?_)
  have hs8 := hs7.pRn (k := 196) (a := a8) p10 (Or.inr ha) fresh_p10 new_p10
  refine er_newA hs8 (by decide) h (fun p13 s14 hs9 fresh_p13 new_p13 h => ?_)
  refine er_pR h (fun a10 ha h => ?_)
  have hs10 := hs9.pRn (k := 260) (a := a10) p13 (Or.inr ha) fresh_p13 new_p13
  refine er_newA hs10 (by decide) h (fun p16 s17 hs11 fresh_p16 new_p16 h => ?_)
  refine er_pR h (fun a12 ha h => ?_)
  have hs12 := hs11.pRn (k := 324) (a := a12) p16 (Or.inr ha) fresh_p16 new_p16
  refine er_newA hs12 (by decide) h (fun p19 s20 hs13 fresh_p19 new_p19 h => ?_)
  refine er_pR h (fun a14 ha h => ?_)
  have hs14 := hs13.pRn (k := 388) (a := a14) p19 (Or.inr ha) fresh_p19 new_p19
  exact v_Ru_init_63 _ _ _ _ hs14 h
theorem v_Ru_begin_29 {u : g_St} : ∀ (n : Nat) (r0 : Option Nat) (x5 : Int32) (s0 : g_St) {o : Unit × g_St}, z_V true [261, 325, 389, 452, 516, 580, 644, 708] [] none u s0 → f_Ru_begin_29 n r0 x5 s0 = some o → z_V true [261, 325, 389, 452, 516, 580, 644, 708] [] none u o.2 := by
  intro n
  induction n with
  | zero =>
    intro r0 x5 s0 o hs0  h
    rw [f_Ru_begin_29] at h
    cases h
  | succ n ih =>
    intro r0 x5 s0 o hs0  h
    rw [f_Ru_begin_29] at h
    refine fr_if h (fun h => ?_) (fun h => ?_)
    · exact er_some h hs0
    · refine er_gR h (fun c1 p1 _ _ h => ?_)
      refine er_aR h (fun p2 h => ?_)
      refine fr_c h (fun v2 s4 hc h => ?_)
      have hs2 := hs0.trans (by decide) ((v_Rl_empty _ _ z_V.re (er_nn hc)).mono (by decide) (by decide) (by decide) (Or.inl rfl))
      exact ih _ _ _ hs2 h
theorem v_Ru_begin {u : g_St} (r0 : Option Nat) (r1 : Option Nat) (r2 : Option Nat) (x3 : Int32) (x4 : Int32) (s0 : g_St) {o : Unit × g_St} (hs0 : z_V true [261, 325, 389, 452, 516, 580, 644, 708] [] none u s0) (h : f_Ru_begin r0 r1 r2 x3 x4 s0 = some o) : z_V true [261, 325, 389, 452, 516, 580, 644, 708] [] none u o.2 := by
  unfold f_Ru_begin at h
  refine er_pR h (fun a1 ha h => ?_)
  have hs1 := hs0.pR (k := 452) (a := a1) r1 (Or.inl (by decide)) (by decide)
  refine er_pR h (fun a2 ha h => ?_)
  have hs2 := hs1.pR (k := 516) (a := a2) r2 (Or.inl (by decide)) (by decide)
  refine er_pI h (fun a3 ha h => ?_)
  have hs3 := hs2.pI (k := 580) (a := a3) x3 (Or.inl (by decide))
  refine er_pI h (fun a4 ha h => ?_)
  have hs4 := hs3.pI (k := 644) (a := a4) x4 (Or.inl (by decide))
  refine er_pI h (fun a5 ha h => ?_)
  have hs5 := hs4.pI (k := 708) (a := a5) 0 (Or.inl (by decide))
  exact v_Ru_begin_29 _ _ _ _ hs5 h
theorem v_Ru_beginRound_4 {u : g_St} : ∀ (n : Nat) (r0 : Option Nat) (x1 : Int32) (x2 : Int32) (x3 : Int32) (s0 : g_St) {o : Int32 × g_St}, z_V true [325, 389] [] none u s0 → f_Ru_beginRound_4 n r0 x1 x2 x3 s0 = some o → z_V true [325, 389] [] none u o.2 := by
  intro n
  induction n with
  | zero =>
    intro r0 x1 x2 x3 s0 o hs0  h
    rw [f_Ru_beginRound_4] at h
    cases h
  | succ n ih =>
    intro r0 x1 x2 x3 s0 o hs0  h
    rw [f_Ru_beginRound_4] at h
    refine er_gR h (fun c1 p1 _ _ h => ?_)
    refine er_gI h (fun i2 h => ?_)
    refine fr_if h (fun h => ?_) (fun h => ?_)
    · exact er_some (er_rZ h) hs0
    · refine er_gR h (fun c2 p3 _ _ h => ?_)
      refine er_gR h (fun c3 p4 _ _ h => ?_)
      refine er_aR h (fun p5 h => ?_)
      refine er_gI h (fun i6 h => ?_)
      refine fr_if h (fun h => ?_) (fun h => ?_)
      · refine er_gR h (fun c4 p7 _ _ h => ?_)
        refine er_aR h (fun p8 h => ?_)
        refine fr_c h (fun v5 s10 hc h => ?_)
        have hs5 := hs0.trans (by decide) ((v_Rl_beginRound _ _ z_V.re (er_nn hc)).mono (by decide) (by decide) (by decide) (Or.inl rfl))
        refine er_gR h (fun c6 p11 _ _ h => ?_)
        refine er_gR h (fun c7 p12 _ _ h => ?_)
        refine er_aR h (fun p13 h => ?_)
        refine er_gI h (fun i14 h => ?_)
        exact ih _ _ _ _ _ hs5 h
      · exact ih _ _ _ _ _ hs0 h
theorem v_Ru_beginRound {u : g_St} (r0 : Option Nat) (x1 : Int32) (s0 : g_St) {o : Int32 × g_St} (hs0 : z_V true [325, 389] [] none u s0) (h : f_Ru_beginRound r0 x1 s0 = some o) : z_V true [325, 389] [] none u o.2 := by
  unfold f_Ru_beginRound at h
  exact v_Ru_beginRound_4 _ _ _ _ _ _ hs0 h
theorem v_Ru_addGroup_2 {u : g_St} : ∀ (n : Nat) (r0 : Option Nat) (x1 : Int32) (s0 : g_St) {o : Unit × g_St}, z_V true [964] [324, 388] none u s0 → f_Ru_addGroup_2 n r0 x1 s0 = some o → z_V true [964] [324, 388] none u o.2 := by
  intro n
  induction n with
  | zero =>
    intro r0 x1 s0 o hs0  h
    rw [f_Ru_addGroup_2] at h
    cases h
  | succ n ih =>
    intro r0 x1 s0 o hs0  h
    rw [f_Ru_addGroup_2] at h
    refine er_gR h (fun c1 p1 _ _ h => ?_)
    refine er_gI h (fun i2 h => ?_)
    refine fr_if h (fun h => ?_) (fun h => ?_)
    · refine er_gI h (fun i3 h => ?_)
      refine er_pI h (fun a2 ha h => ?_)
      have hs2 := hs0.pI (k := 964) (a := a2) (i3 + 1) (Or.inl (by decide))
      exact er_some h hs2
    · refine er_gI h (fun i5 h => ?_)
      refine er_gR h (fun c3 p6 _ ec3 h => ?_)
      have own_p6 : ∀ x, p6 = some x → g_al u x → z_own [324, 388] u x := fun x q => hs0.own (by decide) (by decide) (by decide) (ec3.trans q)
      refine er_gR h (fun c4 p7 _ _ h => ?_)
      refine er_gR h (fun c5 p8 _ _ h => ?_)
      refine er_aR h (fun p9 h => ?_)
      refine fr_if h (fun h => ?_) (fun h => ?_)
      · refine er_gR h (fun c6 p13 _ _ h => ?_)
        refine er_aL h (fun j14 h => ?_)
        refine er_sL h (fun x_7 ix7 ha h => ?_)
        have hs7 := hs0.sAL (own_p6 x_7 ha) ix7 j14
        refine er_gR h (fun c8 p16 _ ec8 h => ?_)
        have own_p16 : ∀ x, p16 = some x → g_al u x → z_own [324, 388] u x := fun x q => hs7.own (by decide) (by decide) (by decide) (ec8.trans q)
        refine er_sI h (fun x_9 ix9 ha h => ?_)
        have hs9 := hs7.sAI (own_p16 x_9 ha) ix9 0
        exact ih _ _ _ hs9 h
      · refine er_sL h (fun x_10 ix10 ha h => ?_)
        have hs10 := hs0.sAL (own_p6 x_10 ha) ix10 0
        refine er_gR h (fun c11 p11 _ ec11 h => ?_)
        have own_p11 : ∀ x, p11 = some x → g_al u x → z_own [324, 388] u x := fun x q => hs10.own (by decide) (by decide) (by decide) (ec11.trans q)
        refine er_sI h (fun x_12 ix12 ha h => ?_)
        have hs12 := hs10.sAI (own_p11 x_12 ha) ix12 0
        exact ih _ _ _ hs12 h
theorem v_Ru_addGroup {u : g_St} (r0 : Option Nat) (s0 : g_St) {o : Unit × g_St} (hs0 : z_V true [964] [324, 388] none u s0) (h : f_Ru_addGroup r0 s0 = some o) : z_V true [964] [324, 388] none u o.2 := by
  unfold f_Ru_addGroup at h
  exact v_Ru_addGroup_2 _ _ _ _ hs0 h
theorem v_Ru_bind_119 {u : g_St} (r1 : Option Nat) (r2 : Option Nat) (r0s : Option Nat) (x1s : Int32) (s0 : g_St) {o : Unit × g_St} (hs0 : z_V true [521, 585, 649, 777] [] none u s0) (h : f_Ru_bind_119 r1 r2 r0s x1s s0 = some o) : z_V true [521, 585, 649, 777] [] none u o.2 := by
  unfold f_Ru_bind_119 at h
  refine er_pI h (fun a1 ha h => ?_)
  have hs1 := hs0.pI (k := 585) (a := a1) x1s (Or.inl (by decide))
  refine er_gR h (fun c2 p2 _ _ h => ?_)
  refine er_gI h (fun i3 h => ?_)
  refine er_pI h (fun a3 ha h => ?_)
  have hs3 := hs1.pI (k := 649) (a := a3) i3 (Or.inl (by decide))
  refine er_gI h (fun i5 h => ?_)
  refine er_pZ h (fun a4 ha h => ?_)
  have hs4 := hs3.pI (k := 777) (a := a4) i5 (Or.inl (by decide))
  exact er_some h hs4
theorem v_Ru_bind {u : g_St} (r0 : Option Nat) (r1 : Option Nat) (s0 : g_St) {o : Unit × g_St} (hs0 : z_V true [521, 585, 649, 777] [] none u s0) (h : f_Ru_bind r0 r1 s0 = some o) : z_V true [521, 585, 649, 777] [] none u o.2 := by
  unfold f_Ru_bind at h
  refine er_pZ h (fun a1 ha h => ?_)
  have hs1 := hs0.pI (k := 777) (a := a1) 0 (Or.inl (by decide))
  refine er_pI h (fun a2 ha h => ?_)
  have hs2 := hs1.pI (k := 585) (a := a2) 0 (Or.inl (by decide))
  refine er_gI h (fun i3 h => ?_)
  refine fr_if h (fun h => ?_) (fun h => ?_)
  · refine er_gR h (fun c3 p4 _ _ h => ?_)
    refine er_gR h (fun c4 p5 _ _ h => ?_)
    refine er_gI h (fun i6 h => ?_)
    refine er_aR h (fun p7 h => ?_)
    refine er_gR h (fun c5 p8 _ _ h => ?_)
    refine er_gI h (fun i9 h => ?_)
    refine er_aR h (fun p10 h => ?_)
    refine er_pR h (fun a6 ha h => ?_)
    have hs6 := hs2.pR (k := 521) (a := a6) p10 (Or.inl (by decide)) (by decide)
    refine er_gR h (fun c7 p12 _ _ h => ?_)
    refine er_gI h (fun i13 h => ?_)
    refine er_pI h (fun a8 ha h => ?_)
    have hs8 := hs6.pI (k := 649) (a := a8) i13 (Or.inl (by decide))
    refine er_gR h (fun c9 p15 _ _ h => ?_)
    refine fr_if h (fun h => ?_) (fun h => ?_)
    · exact er_some h hs8
    · refine er_gR h (fun c10 p16 _ _ h => ?_)
      refine er_gI h (fun i17 h => ?_)
      refine er_gI h (fun i18 h => ?_)
      refine fr_if h (fun h => ?_) (fun h => ?_)
      · refine er_gI h (fun i19 h => ?_)
        refine fr_if h (fun h => ?_) (fun h => ?_)
        · exact v_Ru_bind_119 _ _ _ _ _ hs8 h
        · refine er_gR h (fun c11 p20 _ _ h => ?_)
          refine er_gI h (fun i21 h => ?_)
          exact v_Ru_bind_119 _ _ _ _ _ hs8 h
      · exact er_some h hs8
  · refine er_gR h (fun c12 p22 _ _ h => ?_)
    refine er_gI h (fun i23 h => ?_)
    refine er_aR h (fun p24 h => ?_)
    refine er_pR h (fun a13 ha h => ?_)
    have hs13 := hs2.pR (k := 521) (a := a13) p24 (Or.inl (by decide)) (by decide)
    refine er_gR h (fun c14 p26 _ _ h => ?_)
    refine er_gI h (fun i27 h => ?_)
    refine er_pI h (fun a15 ha h => ?_)
    have hs15 := hs13.pI (k := 649) (a := a15) i27 (Or.inl (by decide))
    exact er_some h hs15
theorem v_Ru_compares_52 {u : g_St} (r0 : Option Nat) (y1 : Int64) (y0s : Int64) (s0 : g_St) {o : Int32 × g_St} (hs0 : z_V true [] [] none u s0) (h : f_Ru_compares_52 r0 y1 y0s s0 = some o) : z_V true [] [] none u o.2 := by
  unfold f_Ru_compares_52 at h
  refine fr_if h (fun h => ?_) (fun h => ?_)
  · exact er_some (er_rZ h) hs0
  · refine fr_if h (fun h => ?_) (fun h => ?_)
    · exact er_some (er_rZ h) hs0
    · refine er_gR h (fun c1 p1 _ _ h => ?_)
      refine fr_c h (fun i2 s3 hc h => ?_)
      have hs2 := hs0.trans (by decide) ((v_En_ordinal _ _ z_V.re (er_nn hc)).mono (by decide) (by decide) (by decide) (Or.inl rfl))
      refine er_swl h (fun i4 h => ?_)
      refine fr_if h (fun h => ?_) (fun h => ?_)
      · refine fr_if h (fun h => ?_) (fun h => ?_)
        · exact er_some (er_rZ h) hs2
        · exact er_some (er_rZ h) hs2
      · refine fr_if h (fun h => ?_) (fun h => ?_)
        · refine fr_if h (fun h => ?_) (fun h => ?_)
          · exact er_some (er_rZ h) hs2
          · exact er_some (er_rZ h) hs2
        · refine fr_if h (fun h => ?_) (fun h => ?_)
          · refine fr_if h (fun h => ?_) (fun h => ?_)
            · exact er_some (er_rZ h) hs2
            · exact er_some (er_rZ h) hs2
          · refine fr_if h (fun h => ?_) (fun h => ?_)
            · refine fr_if h (fun h => ?_) (fun h => ?_)
              · exact er_some (er_rZ h) hs2
              · exact er_some (er_rZ h) hs2
            · exact er_some (er_rZ h) hs2
theorem v_Ru_compares {u : g_St} (r0 : Option Nat) (s0 : g_St) {o : Int32 × g_St} (hs0 : z_V true [] [] none u s0) (h : f_Ru_compares r0 s0 = some o) : z_V true [] [] none u o.2 := by
  unfold f_Ru_compares at h
  refine er_gR h (fun c1 p1 _ _ h => ?_)
  refine fr_c h (fun j2 s3 hc h => ?_)
  have hs2 := hs0.trans (by decide) ((v_Te_value _ _ z_V.re (er_nn hc)).mono (by decide) (by decide) (by decide) (Or.inl rfl))
  refine er_gR h (fun c3 p4 _ _ h => ?_)
  refine fr_if h (fun h => ?_) (fun h => ?_)
  · refine fr_if h (fun h => ?_) (fun h => ?_)
    · exact er_some (er_rZ h) hs2
    · exact er_some (er_rZ h) hs2
  · refine er_gR h (fun c4 p5 _ _ h => ?_)
    refine fr_if h (fun h => ?_) (fun h => ?_)
    · exact v_Ru_compares_52 _ _ _ _ hs2 h
    · refine er_gR h (fun c5 p6 _ _ h => ?_)
      refine fr_c h (fun j7 s8 hc h => ?_)
      have hs6 := hs2.trans (by decide) ((v_Te_value _ _ z_V.re (er_nn hc)).mono (by decide) (by decide) (by decide) (Or.inl rfl))
      exact v_Ru_compares_52 _ _ _ _ hs6 h
theorem v_Ru_exists_58 {u : g_St} {k10 : Option Nat → Option Nat → Int32 → g_St → Option (Int32 × g_St)} (hk10 : ∀ (y0 : Option Nat) (y1 : Option Nat) (y2 : Int32) (s : g_St) {o : Int32 × g_St}, z_V true [713] [] none u s → k10 y0 y1 y2 s = some o → z_V true [713] [] none u o.2) (r0 : Option Nat) (r1 : Option Nat) (x2 : Int32) (x3 : Int32) (s0 : g_St) {o : Int32 × g_St} (hs0 : z_V true [713] [] none u s0) (h : f_Ru_exists_58 k10 r0 r1 x2 x3 s0 = some o) : z_V true [713] [] none u o.2 := by
  unfold f_Ru_exists_58 at h
  refine fr_if h (fun h => ?_) (fun h => ?_)
  · exact hk10 _ _ _ _ hs0 h
  · exact er_some (er_rZ h) hs0
theorem v_Ru_exists_28 {u : g_St} {k10 : Option Nat → Option Nat → Int32 → g_St → Option (Int32 × g_St)} (hk10 : ∀ (y0 : Option Nat) (y1 : Option Nat) (y2 : Int32) (s : g_St) {o : Int32 × g_St}, z_V true [713] [] none u s → k10 y0 y1 y2 s = some o → z_V true [713] [] none u o.2) : ∀ (n : Nat) (r0 : Option Nat) (r1 : Option Nat) (x2 : Int32) (x3 : Int32) (x4 : Int32) (s0 : g_St) {o : Int32 × g_St}, z_V true [713] [] none u s0 → f_Ru_exists_28 k10 n r0 r1 x2 x3 x4 s0 = some o → z_V true [713] [] none u o.2 := by
  intro n
  induction n with
  | zero =>
    intro r0 r1 x2 x3 x4 s0 o hs0  h
    rw [f_Ru_exists_28] at h
    cases h
  | succ n ih =>
    intro r0 r1 x2 x3 x4 s0 o hs0  h
    rw [f_Ru_exists_28] at h
    refine er_gI h (fun i1 h => ?_)
    refine fr_if h (fun h => ?_) (fun h => ?_)
    · exact v_Ru_exists_58 hk10 _ _ _ _ _ hs0 h
    · refine fr_if h (fun h => ?_) (fun h => ?_)
      · exact v_Ru_exists_58 hk10 _ _ _ _ _ hs0 h
      · refine er_gR h (fun c1 p2 _ _ h => ?_)
        refine er_aR h (fun p3 h => ?_)
        refine fr_c h (fun i4 s5 hc h => ?_)
        have hs2 := hs0.trans (by decide) ((v_Ru_compares _ _ z_V.re hc).mono (by decide) (by decide) (by decide) (Or.inl rfl))
        exact ih _ _ _ _ _ _ hs2 h
theorem v_Ru_exists_10 {u : g_St} : ∀ (n : Nat) (r0 : Option Nat) (r1 : Option Nat) (x2 : Int32) (s0 : g_St) {o : Int32 × g_St}, z_V true [713] [] none u s0 → f_Ru_exists_10 n r0 r1 x2 s0 = some o → z_V true [713] [] none u o.2 := by
  intro n
  induction n with
  | zero =>
    intro r0 r1 x2 s0 o hs0  h
    rw [f_Ru_exists_10] at h
    cases h
  | succ n ih =>
    intro r0 r1 x2 s0 o hs0  h
    rw [f_Ru_exists_10] at h
    refine er_gI h (fun i1 h => ?_)
    refine fr_if h (fun h => ?_) (fun h => ?_)
    · exact er_some (er_rZ h) hs0
    · refine er_pI h (fun a1 ha h => ?_)
      have hs1 := hs0.pI (k := 713) (a := a1) x2 (Or.inl (by decide))
      exact v_Ru_exists_28 (fun _ _ _ _ {_} hs h => ih _ _ _ _ hs h) _ _ _ _ _ _ _ hs1 h
theorem v_Ru_exists {u : g_St} (r0 : Option Nat) (s0 : g_St) {o : Int32 × g_St} (hs0 : z_V true [713] [] none u s0) (h : f_Ru_exists r0 s0 = some o) : z_V true [713] [] none u o.2 := by
  unfold f_Ru_exists at h
  refine er_gR h (fun c1 p1 _ _ h => ?_)
  refine er_gI h (fun i2 h => ?_)
  exact v_Ru_exists_10 _ _ _ _ _ hs0 h
theorem v_Ru_holds {u : g_St} (r0 : Option Nat) (s0 : g_St) {o : Int32 × g_St} (hs0 : z_V true [713] [] none u s0) (h : f_Ru_holds r0 s0 = some o) : z_V true [713] [] none u o.2 := by
  unfold f_Ru_holds at h
  refine er_gR h (fun c1 p1 _ _ h => ?_)
  refine fr_if h (fun h => ?_) (fun h => ?_)
  · refine fr_c h (fun i4 s5 hc h => ?_)
    have hs2 := hs0.trans (by decide) ((v_Ru_compares _ _ z_V.re hc).mono (by decide) (by decide) (by decide) (Or.inl rfl))
    exact er_some (er_rZ h) hs2
  · refine fr_c h (fun i2 s3 hc h => ?_)
    have hs3 := hs0.trans (by decide) ((v_Ru_exists _ _ z_V.re hc).mono (by decide) (by decide) (by decide) (Or.inl rfl))
    refine fr_if h (fun h => ?_) (fun h => ?_)
    · exact er_some (er_rZ h) hs3
    · exact er_some (er_rZ h) hs3
theorem v_Ru_isOutOfRange {u : g_St} (y0 : Int64) (s0 : g_St) {o : Int32 × g_St} (hs0 : z_V true [] [] none u s0) (h : f_Ru_isOutOfRange y0 s0 = some o) : z_V true [] [] none u o.2 := by
  unfold f_Ru_isOutOfRange at h
  refine fr_if h (fun h => ?_) (fun h => ?_)
  · exact er_some (er_rZ h) hs0
  · refine fr_if h (fun h => ?_) (fun h => ?_)
    · exact er_some (er_rZ h) hs0
    · refine fr_if h (fun h => ?_) (fun h => ?_)
      · exact er_some (er_rZ h) hs0
      · exact er_some (er_rZ h) hs0
theorem v_Ru_findGroup_73 {u : g_St} {k2 : Option Nat → Int32 → g_St → Option (Int32 × g_St)} (hk2 : ∀ (y0 : Option Nat) (y1 : Int32) (s : g_St) {o : Int32 × g_St}, z_V true [964, 1028] [324, 388] none u s → k2 y0 y1 s = some o → z_V true [964, 1028] [324, 388] none u o.2) (r0 : Option Nat) (x1 : Int32) (x2 : Int32) (s0 : g_St) {o : Int32 × g_St} (hs0 : z_V true [964, 1028] [324, 388] none u s0) (h : f_Ru_findGroup_73 k2 r0 x1 x2 s0 = some o) : z_V true [964, 1028] [324, 388] none u o.2 := by
  unfold f_Ru_findGroup_73 at h
  refine fr_if h (fun h => ?_) (fun h => ?_)
  · exact hk2 _ _ _ hs0 h
  · exact er_some h hs0
theorem v_Ru_findGroup_14 {u : g_St} {k2 : Option Nat → Int32 → g_St → Option (Int32 × g_St)} (hk2 : ∀ (y0 : Option Nat) (y1 : Int32) (s : g_St) {o : Int32 × g_St}, z_V true [964, 1028] [324, 388] none u s → k2 y0 y1 s = some o → z_V true [964, 1028] [324, 388] none u o.2) : ∀ (n : Nat) (r0 : Option Nat) (x1 : Int32) (x2 : Int32) (x3 : Int32) (s0 : g_St) {o : Int32 × g_St}, z_V true [964, 1028] [324, 388] none u s0 → f_Ru_findGroup_14 k2 n r0 x1 x2 x3 s0 = some o → z_V true [964, 1028] [324, 388] none u o.2 := by
  intro n
  induction n with
  | zero =>
    intro r0 x1 x2 x3 s0 o hs0  h
    rw [f_Ru_findGroup_14] at h
    cases h
  | succ n ih =>
    intro r0 x1 x2 x3 s0 o hs0  h
    rw [f_Ru_findGroup_14] at h
    refine er_gR h (fun c1 p1 _ _ h => ?_)
    refine er_gI h (fun i2 h => ?_)
    refine fr_if h (fun h => ?_) (fun h => ?_)
    · exact v_Ru_findGroup_73 hk2 _ _ _ _ hs0 h
    · refine fr_if h (fun h => ?_) (fun h => ?_)
      · exact v_Ru_findGroup_73 hk2 _ _ _ _ hs0 h
      · refine er_gR h (fun c2 p3 _ _ h => ?_)
        refine er_gR h (fun c3 p4 _ _ h => ?_)
        refine er_aR h (fun p5 h => ?_)
        refine fr_if h (fun h => ?_) (fun h => ?_)
        · refine er_gR h (fun c4 p6 _ ec4 h => ?_)
          have own_p6 : ∀ x, p6 = some x → g_al u x → z_own [324, 388] u x := fun x q => hs0.own (by decide) (by decide) (by decide) (ec4.trans q)
          refine er_aL h (fun j7 h => ?_)
          refine er_gR h (fun c5 p8 _ _ h => ?_)
          refine er_aL h (fun j9 h => ?_)
          refine fr_if h (fun h => ?_) (fun h => ?_)
          · exact ih _ _ _ _ _ hs0 h
          · exact ih _ _ _ _ _ hs0 h
        · exact ih _ _ _ _ _ hs0 h
theorem v_Ru_findGroup_2 {u : g_St} : ∀ (n : Nat) (r0 : Option Nat) (x1 : Int32) (s0 : g_St) {o : Int32 × g_St}, z_V true [964, 1028] [324, 388] none u s0 → f_Ru_findGroup_2 n r0 x1 s0 = some o → z_V true [964, 1028] [324, 388] none u o.2 := by
  intro n
  induction n with
  | zero =>
    intro r0 x1 s0 o hs0  h
    rw [f_Ru_findGroup_2] at h
    cases h
  | succ n ih =>
    intro r0 x1 s0 o hs0  h
    rw [f_Ru_findGroup_2] at h
    refine er_gI h (fun i1 h => ?_)
    refine fr_if h (fun h => ?_) (fun h => ?_)
    · refine er_gI h (fun i2 h => ?_)
      refine er_gI h (fun i3 h => ?_)
      refine fr_if h (fun h => ?_) (fun h => ?_)
      · refine fr_c h (fun v1 s5 hc h => ?_)
        have hs1 := hs0.trans (by decide) ((v_Ru_addGroup _ _ z_V.re (er_nn hc)).mono (by decide) (by decide) (by decide) (Or.inl rfl))
        refine er_gI h (fun i6 h => ?_)
        exact er_some h hs1
      · refine er_pZ h (fun a2 ha h => ?_)
        have hs2 := hs0.pI (k := 1028) (a := a2) 1 (Or.inl (by decide))
        exact er_some h hs2
    · exact v_Ru_findGroup_14 (fun _ _ _ {_} hs h => ih _ _ _ hs h) _ _ _ _ _ _ hs0 h
theorem v_Ru_findGroup {u : g_St} (r0 : Option Nat) (s0 : g_St) {o : Int32 × g_St} (hs0 : z_V true [964, 1028] [324, 388] none u s0) (h : f_Ru_findGroup r0 s0 = some o) : z_V true [964, 1028] [324, 388] none u o.2 := by
  unfold f_Ru_findGroup at h
  exact v_Ru_findGroup_2 _ _ _ _ hs0 h
theorem v_Ru_addTo {u : g_St} (r0 : Option Nat) (x1 : Int32) (r2 : Option Nat) (y3 : Int64) (s0 : g_St) {o : Unit × g_St} (hs0 : z_V true [] [324, 388] none u s0) (h : f_Ru_addTo r0 x1 r2 y3 s0 = some o) : z_V true [] [324, 388] none u o.2 := by
  unfold f_Ru_addTo at h
  refine fr_if h (fun h => ?_) (fun h => ?_)
  · exact er_some h hs0
  · refine fr_if h (fun h => ?_) (fun h => ?_)
    · refine er_gR h (fun c1 p21 _ ec1 h => ?_)
      have own_p21 : ∀ x, p21 = some x → g_al u x → z_own [324, 388] u x := fun x q => hs0.own (by decide) (by decide) (by decide) (ec1.trans q)
      refine er_aL h (fun j22 h => ?_)
      refine er_sL h (fun x_2 ix2 ha h => ?_)
      have hs2 := hs0.sAL (own_p21 x_2 ha) ix2 (j22 + y3)
      refine er_gR h (fun c3 p24 _ ec3 h => ?_)
      have own_p24 : ∀ x, p24 = some x → g_al u x → z_own [324, 388] u x := fun x q => hs2.own (by decide) (by decide) (by decide) (ec3.trans q)
      refine er_aI h (fun i25 h => ?_)
      refine er_sI h (fun x_4 ix4 ha h => ?_)
      have hs4 := hs2.sAI (own_p24 x_4 ha) ix4 (i25 + 1)
      exact er_some h hs4
    · refine er_gR h (fun c5 p1 _ ec5 h => ?_)
      have own_p1 : ∀ x, p1 = some x → g_al u x → z_own [324, 388] u x := fun x q => hs0.own (by decide) (by decide) (by decide) (ec5.trans q)
      refine er_aI h (fun i2 h => ?_)
      refine fr_if h (fun h => ?_) (fun h => ?_)
      · refine er_gR h (fun c6 p16 _ ec6 h => ?_)
        have own_p16 : ∀ x, p16 = some x → g_al u x → z_own [324, 388] u x := fun x q => hs0.own (by decide) (by decide) (by decide) (ec6.trans q)
        refine er_sL h (fun x_7 ix7 ha h => ?_)
        have hs7 := hs0.sAL (own_p16 x_7 ha) ix7 y3
        refine er_gR h (fun c8 p18 _ ec8 h => ?_)
        have own_p18 : ∀ x, p18 = some x → g_al u x → z_own [324, 388] u x := fun x q => hs7.own (by decide) (by decide) (by decide) (ec8.trans q)
        refine er_aI h (fun i19 h => ?_)
        refine er_sI h (fun x_9 ix9 ha h => ?_)
        have hs9 := hs7.sAI (own_p18 x_9 ha) ix9 (i19 + 1)
        exact er_some h hs9
      · refine er_gR h (fun c10 p3 _ ec10 h => ?_)
        have own_p3 : ∀ x, p3 = some x → g_al u x → z_own [324, 388] u x := fun x q => hs0.own (by decide) (by decide) (by decide) (ec10.trans q)
        refine fr_if h (fun h => ?_) (fun h => ?_)
        · refine er_gR h (fun c11 p10 _ ec11 h => ?_)
          have own_p10 : ∀ x, p10 = some x → g_al u x → z_own [324, 388] u x := fun x q => hs0.own (by decide) (by decide) (by decide) (ec11.trans q)
          refine er_aL h (fun j11 h => ?_)
          refine er_sL h (fun x_12 ix12 ha h => ?_)
          have hs12 := hs0.sAL (own_p3 x_12 ha) ix12 (if y3 < j11 then y3 else j11)
          refine er_gR h (fun c13 p13 _ ec13 h => ?_)
          have own_p13 : ∀ x, p13 = some x → g_al u x → z_own [324, 388] u x := fun x q => hs12.own (by decide) (by decide) (by decide) (ec13.trans q)
          refine er_aI h (fun i14 h => ?_)
          refine er_sI h (fun x_14 ix14 ha h => ?_)
          have hs14 := hs12.sAI (own_p13 x_14 ha) ix14 (i14 + 1)
          exact er_some h hs14
        · refine er_gR h (fun c15 p4 _ ec15 h => ?_)
          have own_p4 : ∀ x, p4 = some x → g_al u x → z_own [324, 388] u x := fun x q => hs0.own (by decide) (by decide) (by decide) (ec15.trans q)
          refine er_aL h (fun j5 h => ?_)
          refine er_sL h (fun x_16 ix16 ha h => ?_)
          have hs16 := hs0.sAL (own_p3 x_16 ha) ix16 (if y3 < j5 then j5 else y3)
          refine er_gR h (fun c17 p7 _ ec17 h => ?_)
          have own_p7 : ∀ x, p7 = some x → g_al u x → z_own [324, 388] u x := fun x q => hs16.own (by decide) (by decide) (by decide) (ec17.trans q)
          refine er_aI h (fun i8 h => ?_)
          refine er_sI h (fun x_18 ix18 ha h => ?_)
          have hs18 := hs16.sAI (own_p7 x_18 ha) ix18 (i8 + 1)
          exact er_some h hs18
theorem v_Ru_gather_12 {u : g_St} : ∀ (n : Nat) (r0 : Option Nat) (x1 : Int32) (x2 : Int32) (s0 : g_St) {o : Unit × g_St}, z_V true [964, 1028] [324, 388] none u s0 → f_Ru_gather_12 n r0 x1 x2 s0 = some o → z_V true [964, 1028] [324, 388] none u o.2 := by
  intro n
  induction n with
  | zero =>
    intro r0 x1 x2 s0 o hs0  h
    rw [f_Ru_gather_12] at h
    cases h
  | succ n ih =>
    intro r0 x1 x2 s0 o hs0  h
    rw [f_Ru_gather_12] at h
    refine er_gR h (fun c1 p1 _ _ h => ?_)
    refine er_gI h (fun i2 h => ?_)
    refine fr_if h (fun h => ?_) (fun h => ?_)
    · exact er_some h hs0
    · refine er_gR h (fun c2 p3 _ _ h => ?_)
      refine er_gR h (fun c3 p4 _ _ h => ?_)
      refine er_aR h (fun p5 h => ?_)
      refine fr_if h (fun h => ?_) (fun h => ?_)
      · refine er_gR h (fun c4 p19 _ ec4 h => ?_)
        have own_p19 : ∀ x, p19 = some x → g_al u x → z_own [324, 388] u x := fun x q => hs0.own (by decide) (by decide) (by decide) (ec4.trans q)
        refine er_aL h (fun j20 h => ?_)
        refine er_sL h (fun x_5 ix5 ha h => ?_)
        have hs5 := hs0.sAL (own_p19 x_5 ha) ix5 (j20 + 1)
        exact ih _ _ _ _ hs5 h
      · refine er_gR h (fun c6 p6 _ _ h => ?_)
        refine er_gR h (fun c7 p7 _ _ h => ?_)
        refine er_aR h (fun p8 h => ?_)
        refine fr_if h (fun h => ?_) (fun h => ?_)
        · exact ih _ _ _ _ hs0 h
        · refine er_gR h (fun c8 p9 _ _ h => ?_)
          refine er_gR h (fun c9 p10 _ _ h => ?_)
          refine er_aR h (fun p11 h => ?_)
          refine er_gR h (fun c10 p12 _ _ h => ?_)
          refine er_gR h (fun c11 p13 _ _ h => ?_)
          refine er_aR h (fun p14 h => ?_)
          refine fr_c h (fun j15 s16 hc h => ?_)
          have hs12 := hs0.trans (by decide) ((v_Te_value _ _ z_V.re (er_nn hc)).mono (by decide) (by decide) (by decide) (Or.inl rfl))
          refine fr_c h (fun v13 s18 hc h => ?_)
          have hs13 := hs12.trans (by decide) ((v_Ru_addTo _ _ _ _ _ z_V.re (er_nn hc)).mono (by decide) (by decide) (by decide) (Or.inl rfl))
          exact ih _ _ _ _ hs13 h
theorem v_Ru_gather {u : g_St} (r0 : Option Nat) (s0 : g_St) {o : Unit × g_St} (hs0 : z_V true [964, 1028] [324, 388] none u s0) (h : f_Ru_gather r0 s0 = some o) : z_V true [964, 1028] [324, 388] none u o.2 := by
  unfold f_Ru_gather at h
  refine fr_c h (fun i1 s2 hc h => ?_)
  have hs1 := hs0.trans (by decide) ((v_Ru_findGroup _ _ z_V.re (er_nn hc)).mono (by decide) (by decide) (by decide) (Or.inl rfl))
  refine fr_if h (fun h => ?_) (fun h => ?_)
  · exact v_Ru_gather_12 _ _ _ _ _ hs1 h
  · exact er_some h hs1
theorem v_Ru_keepKeys_36 {u : g_St} {k2 : Option Nat → Int32 → g_St → Option (Unit × g_St)} (hk2 : ∀ (y0 : Option Nat) (y1 : Int32) (s : g_St) {o : Unit × g_St}, z_V true [] [196] none u s → k2 y0 y1 s = some o → z_V true [] [196] none u o.2) (r0 : Option Nat) (x1 : Int32) (r2 : Option Nat) (x0s : Int32) (s0 : g_St) {o : Unit × g_St} (hs0 : z_V true [] [196] none u s0) (h : f_Ru_keepKeys_36 k2 r0 x1 r2 x0s s0 = some o) : z_V true [] [196] none u o.2 := by
  unfold f_Ru_keepKeys_36 at h
  refine er_gR h (fun c1 p1 _ ec1 h => ?_)
  have own_p1 : ∀ x, p1 = some x → g_al u x → z_own [196] u x := fun x q => hs0.own (by decide) (by decide) (by decide) (ec1.trans q)
  refine er_gR h (fun c2 p2 _ _ h => ?_)
  refine er_gI h (fun i3 h => ?_)
  refine fr_if h (fun h => ?_) (fun h => ?_)
  · refine fr_c h (fun j4 s5 hc h => ?_)
    have hs3 := hs0.trans (by decide) ((v_Te_value _ _ z_V.re (er_nn hc)).mono (by decide) (by decide) (by decide) (Or.inl rfl))
    refine er_sL h (fun x_4 ix4 ha h => ?_)
    have hs4 := hs3.sAL (own_p1 x_4 ha) ix4 j4
    exact hk2 _ _ _ hs4 h
  · refine er_gR h (fun c5 p7 _ _ h => ?_)
    refine er_gI h (fun i8 h => ?_)
    refine er_sL h (fun x_6 ix6 ha h => ?_)
    have hs6 := hs0.sAL (own_p1 x_6 ha) ix6 i8.toInt64
    exact hk2 _ _ _ hs6 h
theorem v_Ru_keepKeys_2 {u : g_St} : ∀ (n : Nat) (r0 : Option Nat) (x1 : Int32) (s0 : g_St) {o : Unit × g_St}, z_V true [] [196] none u s0 → f_Ru_keepKeys_2 n r0 x1 s0 = some o → z_V true [] [196] none u o.2 := by
  intro n
  induction n with
  | zero =>
    intro r0 x1 s0 o hs0  h
    rw [f_Ru_keepKeys_2] at h
    cases h
  | succ n ih =>
    intro r0 x1 s0 o hs0  h
    rw [f_Ru_keepKeys_2] at h
    refine er_gR h (fun c1 p1 _ _ h => ?_)
    refine er_gI h (fun i2 h => ?_)
    refine fr_if h (fun h => ?_) (fun h => ?_)
    · exact er_some h hs0
    · refine er_gR h (fun c2 p3 _ _ h => ?_)
      refine er_gR h (fun c3 p4 _ _ h => ?_)
      refine er_aR h (fun p5 h => ?_)
      refine er_gI h (fun i6 h => ?_)
      refine fr_if h (fun h => ?_) (fun h => ?_)
      · exact v_Ru_keepKeys_36 (fun _ _ _ {_} hs h => ih _ _ _ hs h) _ _ _ _ _ hs0 h
      · exact v_Ru_keepKeys_36 (fun _ _ _ {_} hs h => ih _ _ _ hs h) _ _ _ _ _ hs0 h
theorem v_Ru_keepKeys {u : g_St} (r0 : Option Nat) (s0 : g_St) {o : Unit × g_St} (hs0 : z_V true [] [196] none u s0) (h : f_Ru_keepKeys r0 s0 = some o) : z_V true [] [196] none u o.2 := by
  unfold f_Ru_keepKeys at h
  exact v_Ru_keepKeys_2 _ _ _ _ hs0 h
theorem v_Ru_parentRow_2 {u : g_St} : ∀ (n : Nat) (r0 : Option Nat) (x1 : Int32) (s0 : g_St) {o : Int32 × g_St}, z_V true [] [] none u s0 → f_Ru_parentRow_2 n r0 x1 s0 = some o → z_V true [] [] none u o.2 := by
  intro n
  induction n with
  | zero =>
    intro r0 x1 s0 o hs0  h
    rw [f_Ru_parentRow_2] at h
    cases h
  | succ n ih =>
    intro r0 x1 s0 o hs0  h
    rw [f_Ru_parentRow_2] at h
    refine er_gR h (fun c1 p1 _ _ h => ?_)
    refine er_gI h (fun i2 h => ?_)
    refine fr_if h (fun h => ?_) (fun h => ?_)
    · exact er_some h hs0
    · refine er_gR h (fun c2 p3 _ _ h => ?_)
      refine er_gR h (fun c3 p4 _ _ h => ?_)
      refine er_aR h (fun p5 h => ?_)
      refine er_gI h (fun i6 h => ?_)
      refine er_gR h (fun c4 p7 _ _ h => ?_)
      refine er_gI h (fun i8 h => ?_)
      refine fr_if h (fun h => ?_) (fun h => ?_)
      · refine er_gR h (fun c5 p9 _ _ h => ?_)
        refine er_gR h (fun c6 p10 _ _ h => ?_)
        refine er_aR h (fun p11 h => ?_)
        refine er_gI h (fun i12 h => ?_)
        exact er_some h hs0
      · exact ih _ _ _ hs0 h
theorem v_Ru_parentRow {u : g_St} (r0 : Option Nat) (s0 : g_St) {o : Int32 × g_St} (hs0 : z_V true [] [] none u s0) (h : f_Ru_parentRow r0 s0 = some o) : z_V true [] [] none u o.2 := by
  unfold f_Ru_parentRow at h
  exact v_Ru_parentRow_2 _ _ _ _ hs0 h
theorem v_Ru_come_123 {u : g_St} (r0 : Option Nat) (s0 : g_St) {o : Unit × g_St} (hs0 : z_V true [261, 708, 1092] [69, 133, 196, 197] none u s0) (h : f_Ru_come_123 r0 s0 = some o) : z_V true [261, 708, 1092] [69, 133, 196, 197] none u o.2 := by
  unfold f_Ru_come_123 at h
  refine er_gI h (fun i1 h => ?_)
  refine er_gI h (fun i2 h => ?_)
  refine fr_if h (fun h => ?_) (fun h => ?_)
  · refine er_gR h (fun c1 p3 _ _ h => ?_)
    refine er_gI h (fun i4 h => ?_)
    refine er_pI h (fun a2 ha h => ?_)
    have hs2 := hs0.pI (k := 261) (a := a2) (i4 + 1) (Or.inl (by decide))
    refine er_gI h (fun i6 h => ?_)
    refine er_pI h (fun a3 ha h => ?_)
    have hs3 := hs2.pI (k := 708) (a := a3) (i6 + 1) (Or.inl (by decide))
    exact er_some h hs3
  · refine er_pZ h (fun a4 ha h => ?_)
    have hs4 := hs0.pI (k := 1092) (a := a4) 1 (Or.inl (by decide))
    exact er_some h hs4
theorem v_Ru_come_98 {u : g_St} (r0 : Option Nat) (s0 : g_St) {o : Unit × g_St} (hs0 : z_V true [261, 708, 1092] [69, 133, 196, 197] none u s0) (h : f_Ru_come_98 r0 s0 = some o) : z_V true [261, 708, 1092] [69, 133, 196, 197] none u o.2 := by
  unfold f_Ru_come_98 at h
  refine er_gR h (fun c1 p1 _ _ h => ?_)
  refine er_gI h (fun i2 h => ?_)
  refine fr_if h (fun h => ?_) (fun h => ?_)
  · exact v_Ru_come_123 _ _ hs0 h
  · refine er_gR h (fun c2 p3 _ _ h => ?_)
    refine er_gR h (fun c3 p4 _ _ h => ?_)
    refine fr_c h (fun i5 s6 hc h => ?_)
    have hs4 := hs0.trans (by decide) ((v_Rl_hasEqual _ _ _ z_V.re (er_nn hc)).mono (by decide) (by decide) (by decide) (Or.inl rfl))
    refine fr_if h (fun h => ?_) (fun h => ?_)
    · exact v_Ru_come_123 _ _ hs4 h
    · exact er_some h hs4
theorem v_Ru_come_80 {u : g_St} (r0 : Option Nat) (s0 : g_St) {o : Unit × g_St} (hs0 : z_V true [261, 708, 1092] [69, 133, 196, 197] none u s0) (h : f_Ru_come_80 r0 s0 = some o) : z_V true [261, 708, 1092] [69, 133, 196, 197] none u o.2 := by
  unfold f_Ru_come_80 at h
  refine er_gR h (fun c1 p1 _ _ h => ?_)
  refine fr_c h (fun i2 s3 hc h => ?_)
  have hs2 := hs0.trans (by decide) ((v_Ru_parentRow _ _ z_V.re (er_nn hc)).mono (by decide) (by decide) (by decide) (Or.inl rfl))
  refine er_gR h (fun c3 p4 _ _ h => ?_)
  refine er_gI h (fun i5 h => ?_)
  refine fr_c h (fun v4 s7 hc h => ?_)
  have hs4 := hs2.trans (by decide) ((v_Rl_grow _ _ _ _ z_V.re (er_nn hc)).mono (by decide) (by decide) (by decide) (Or.inl rfl))
  exact v_Ru_come_98 _ _ hs4 h
theorem v_Ru_come_12 {u : g_St} : ∀ (n : Nat) (r0 : Option Nat) (x1 : Int32) (x2 : Int32) (s0 : g_St) {o : Unit × g_St}, z_V true [261, 708, 1092] [69, 133, 196, 197] none u s0 → f_Ru_come_12 n r0 x1 x2 s0 = some o → z_V true [261, 708, 1092] [69, 133, 196, 197] none u o.2 := by
  intro n
  induction n with
  | zero =>
    intro r0 x1 x2 s0 o hs0  h
    rw [f_Ru_come_12] at h
    cases h
  | succ n ih =>
    intro r0 x1 x2 s0 o hs0  h
    rw [f_Ru_come_12] at h
    refine er_gR h (fun c1 p1 _ _ h => ?_)
    refine er_gI h (fun i2 h => ?_)
    refine fr_if h (fun h => ?_) (fun h => ?_)
    · refine er_gR h (fun c2 p3 _ _ h => ?_)
      refine fr_if h (fun h => ?_) (fun h => ?_)
      · refine fr_c h (fun v3 s9 hc h => ?_)
        have hs3 := hs0.trans (by decide) ((v_Ru_keepKeys _ _ z_V.re (er_nn hc)).mono (by decide) (by decide) (by decide) (Or.inl rfl))
        exact v_Ru_come_123 _ _ hs3 h
      · refine er_gR h (fun c4 p4 _ _ h => ?_)
        refine er_gI h (fun i5 h => ?_)
        refine fr_if h (fun h => ?_) (fun h => ?_)
        · refine er_gR h (fun c5 p6 _ _ h => ?_)
          refine er_gI h (fun i7 h => ?_)
          refine fr_if h (fun h => ?_) (fun h => ?_)
          · exact v_Ru_come_98 _ _ hs0 h
          · exact v_Ru_come_80 _ _ hs0 h
        · exact v_Ru_come_80 _ _ hs0 h
    · refine er_gR h (fun c6 p10 _ _ h => ?_)
      refine er_gR h (fun c7 p11 _ ec7 h => ?_)
      have own_p11 : ∀ x, p11 = some x → g_al u x → z_own [69, 133, 196, 197] u x := fun x q => hs0.own (by decide) (by decide) (by decide) (ec7.trans q)
      refine er_gR h (fun c8 p12 _ _ h => ?_)
      refine er_aL h (fun j13 h => ?_)
      refine er_sL h (fun x_9 ix9 ha h => ?_)
      have hs9 := hs0.sAL (own_p11 x_9 ha) ix9 j13
      exact ih _ _ _ _ hs9 h
theorem v_Ru_come {u : g_St} (r0 : Option Nat) (s0 : g_St) {o : Unit × g_St} (hs0 : z_V true [261, 708, 1092] [69, 133, 196, 197] none u s0) (h : f_Ru_come r0 s0 = some o) : z_V true [261, 708, 1092] [69, 133, 196, 197] none u o.2 := by
  unfold f_Ru_come at h
  refine er_gR h (fun c1 p1 _ _ h => ?_)
  refine er_gI h (fun i2 h => ?_)
  exact v_Ru_come_12 _ _ _ _ _ hs0 h
theorem v_Ru_takeCombination_2 {u : g_St} : ∀ (n : Nat) (r0 : Option Nat) (x1 : Int32) (s0 : g_St) {o : (Unit ⊕ Nat) × g_St}, z_V false [261, 708, 964, 1028, 1092] [69, 133, 196, 197, 260, 324, 388] none u s0 → f_Ru_takeCombination_2 n r0 x1 s0 = some o → z_V false [261, 708, 964, 1028, 1092] [69, 133, 196, 197, 260, 324, 388] none u o.2 := by
  intro n
  induction n with
  | zero =>
    intro r0 x1 s0 o hs0  h
    rw [f_Ru_takeCombination_2] at h
    cases h
  | succ n ih =>
    intro r0 x1 s0 o hs0  h
    rw [f_Ru_takeCombination_2] at h
    refine er_gR h (fun c1 p1 _ _ h => ?_)
    refine er_gI h (fun i2 h => ?_)
    refine fr_if h (fun h => ?_) (fun h => ?_)
    · refine er_gR h (fun c2 p3 _ _ h => ?_)
      refine er_gI h (fun i4 h => ?_)
      refine fr_if h (fun h => ?_) (fun h => ?_)
      · refine fr_c h (fun v3 s6 hc h => ?_)
        have hs3 := hs0.trans (by decide) ((v_Ru_come _ _ z_V.re (er_nn hc)).mono (by decide) (by decide) (by decide) (Or.inl rfl))
        exact er_some h hs3
      · refine fr_c h (fun v4 s8 hc h => ?_)
        have hs4 := hs0.trans (by decide) ((v_Ru_gather _ _ z_V.re (er_nn hc)).mono (by decide) (by decide) (by decide) (Or.inl rfl))
        exact er_some h hs4
    · refine er_gR h (fun c5 p9 _ _ h => ?_)
      refine er_gR h (fun c6 p10 _ _ h => ?_)
      refine er_aR h (fun p11 h => ?_)
      refine fr_if h (fun h => ?_) (fun h => ?_)
      · refine er_gR h (fun c7 p12 _ ec7 h => ?_)
        have own_p12 : ∀ x, p12 = some x → g_al u x → z_own [69, 133, 196, 197, 260, 324, 388] u x := fun x q => hs0.own (by decide) (by decide) (by decide) (ec7.trans q)
        refine er_gR h (fun c8 p13 _ _ h => ?_)
        refine er_gR h (fun c9 p14 _ _ h => ?_)
        refine er_aR h (fun p15 h => ?_)
        refine fr_c h (fun j16 s17 hc h => ?_)
        have hs10 := hs0.trans (by decide) ((v_Te_value _ _ z_V.re (er_nn hc)).mono (by decide) (by decide) (by decide) (Or.inl rfl))
        refine er_sL h (fun x_11 ix11 ha h => ?_)
        have hs11 := hs10.sAL (own_p12 x_11 ha) ix11 j16
        refine er_gR h (fun c12 p19 _ ec12 h => ?_)
        have own_p19 : ∀ x, p19 = some x → g_al u x → z_own [69, 133, 196, 197, 260, 324, 388] u x := fun x q => hs11.own (by decide) (by decide) (by decide) (ec12.trans q)
        refine er_aL h (fun j20 h => ?_)
        refine fr_c h (fun i21 s22 hc h => ?_)
        have hs13 := hs11.trans (by decide) ((v_Ru_isOutOfRange _ _ z_V.re hc).mono (by decide) (by decide) (by decide) (Or.inl rfl))
        refine fr_if h (fun h => ?_) (fun h => ?_)
        · exact ih _ _ _ hs13 h
        · exact er_thr h hs13
      · exact ih _ _ _ hs0 h
theorem v_Ru_takeCombination {u : g_St} (r0 : Option Nat) (s0 : g_St) {o : (Unit ⊕ Nat) × g_St} (hs0 : z_V false [261, 708, 964, 1028, 1092] [69, 133, 196, 197, 260, 324, 388] none u s0) (h : f_Ru_takeCombination r0 s0 = some o) : z_V false [261, 708, 964, 1028, 1092] [69, 133, 196, 197, 260, 324, 388] none u o.2 := by
  unfold f_Ru_takeCombination at h
  exact v_Ru_takeCombination_2 _ _ _ _ hs0 h
theorem v_Ru_combine_107 {u : g_St} {kr : Option Nat → Int32 → g_St → Option ((Unit ⊕ Nat) × g_St)} (hkr : ∀ (y0 : Option Nat) (y1 : Int32) (s : g_St) {o : (Unit ⊕ Nat) × g_St}, z_V false [261, 708, 713, 964, 1028, 1092] [69, 133, 196, 197, 260, 324, 388] none u s → kr y0 y1 s = some o → z_V false [261, 708, 713, 964, 1028, 1092] [69, 133, 196, 197, 260, 324, 388] none u o.2) : ∀ (n : Nat) (r0 : Option Nat) (x1 : Int32) (r2 : Option Nat) (x3 : Int32) (s0 : g_St) {o : (Unit ⊕ Nat) × g_St}, z_V false [261, 708, 713, 964, 1028, 1092] [69, 133, 196, 197, 260, 324, 388] none u s0 → f_Ru_combine_107 kr n r0 x1 r2 x3 s0 = some o → z_V false [261, 708, 713, 964, 1028, 1092] [69, 133, 196, 197, 260, 324, 388] none u o.2 := by
  intro n
  induction n with
  | zero =>
    intro r0 x1 r2 x3 s0 o hs0  h
    rw [f_Ru_combine_107] at h
    cases h
  | succ n ih =>
    intro r0 x1 r2 x3 s0 o hs0  h
    rw [f_Ru_combine_107] at h
    refine er_gI h (fun i1 h => ?_)
    refine fr_if h (fun h => ?_) (fun h => ?_)
    · exact er_some h hs0
    · refine er_pI h (fun a1 ha h => ?_)
      have hs1 := hs0.pI (k := 713) (a := a1) x3 (Or.inl (by decide))
      refine fr_c h (fun i3 s4 hc h => ?_)
      have hs2 := hs1.trans (by decide) ((v_So_passesOver _ _ _ z_V.re (er_nn hc)).mono (by decide) (by decide) (by decide) (Or.inl rfl))
      refine fr_if h (fun h => ?_) (fun h => ?_)
      · refine er_cT h (fun v3 s6 hc h => ?_) (fun e0 s00 hc h => ?_)
        · have hs3 := hkr _ _ _ hs2 (er_nn hc)
          exact ih _ _ _ _ _ hs3 h
        · have hs3 := hkr _ _ _ hs2 (er_nn hc)
          rw [h]
          exact hs3
      · exact ih _ _ _ _ _ hs2 h
theorem v_Ru_combine_27 {u : g_St} {kr : Option Nat → Int32 → g_St → Option ((Unit ⊕ Nat) × g_St)} (hkr : ∀ (y0 : Option Nat) (y1 : Int32) (s : g_St) {o : (Unit ⊕ Nat) × g_St}, z_V false [261, 708, 713, 964, 1028, 1092] [69, 133, 196, 197, 260, 324, 388] none u s → kr y0 y1 s = some o → z_V false [261, 708, 713, 964, 1028, 1092] [69, 133, 196, 197, 260, 324, 388] none u o.2) : ∀ (n : Nat) (r0 : Option Nat) (x1 : Int32) (x2 : Int32) (s0 : g_St) {o : (Unit ⊕ Nat) × g_St}, z_V false [261, 708, 713, 964, 1028, 1092] [69, 133, 196, 197, 260, 324, 388] none u s0 → f_Ru_combine_27 kr n r0 x1 x2 s0 = some o → z_V false [261, 708, 713, 964, 1028, 1092] [69, 133, 196, 197, 260, 324, 388] none u o.2 := by
  intro n
  induction n with
  | zero =>
    intro r0 x1 x2 s0 o hs0  h
    rw [f_Ru_combine_27] at h
    cases h
  | succ n ih =>
    intro r0 x1 x2 s0 o hs0  h
    rw [f_Ru_combine_27] at h
    refine er_gR h (fun c1 p1 _ _ h => ?_)
    refine er_gI h (fun i2 h => ?_)
    refine fr_if h (fun h => ?_) (fun h => ?_)
    · refine er_gR h (fun c2 p3 _ _ h => ?_)
      refine er_gI h (fun i4 h => ?_)
      refine fr_if h (fun h => ?_) (fun h => ?_)
      · refine er_gR h (fun c3 p5 _ _ h => ?_)
        refine er_gR h (fun c4 p6 _ _ h => ?_)
        refine er_aR h (fun p7 h => ?_)
        refine er_gI h (fun i8 h => ?_)
        exact v_Ru_combine_107 hkr _ _ _ _ _ _ hs0 h
      · refine er_cT h (fun v5 s10 hc h => ?_) (fun e0 s00 hc h => ?_)
        · have hs5 := hs0.trans (by decide) ((v_Ru_takeCombination _ _ z_V.re (er_nn hc)).mono (by decide) (by decide) (by decide) (Or.inl rfl))
          exact er_some h hs5
        · have hs5 := hs0.trans (by decide) ((v_Ru_takeCombination _ _ z_V.re (er_nn hc)).mono (by decide) (by decide) (by decide) (Or.inl rfl))
          rw [h]
          exact hs5
    · refine er_gR h (fun c6 p11 _ _ h => ?_)
      refine er_gR h (fun c7 p12 _ _ h => ?_)
      refine er_aR h (fun p13 h => ?_)
      refine er_gI h (fun i14 h => ?_)
      refine fr_if h (fun h => ?_) (fun h => ?_)
      · refine er_gR h (fun c8 p15 _ _ h => ?_)
        refine er_gR h (fun c9 p16 _ _ h => ?_)
        refine er_aR h (fun p17 h => ?_)
        refine fr_c h (fun i18 s19 hc h => ?_)
        have hs10 := hs0.trans (by decide) ((v_Ru_holds _ _ z_V.re hc).mono (by decide) (by decide) (by decide) (Or.inl rfl))
        refine fr_if h (fun h => ?_) (fun h => ?_)
        · exact er_some h hs10
        · exact ih _ _ _ _ hs10 h
      · exact ih _ _ _ _ hs0 h
theorem v_Ru_combine_14 {u : g_St} {kr : Option Nat → Int32 → g_St → Option ((Unit ⊕ Nat) × g_St)} (hkr : ∀ (y0 : Option Nat) (y1 : Int32) (s : g_St) {o : (Unit ⊕ Nat) × g_St}, z_V false [261, 708, 713, 964, 1028, 1092] [69, 133, 196, 197, 260, 324, 388] none u s → kr y0 y1 s = some o → z_V false [261, 708, 713, 964, 1028, 1092] [69, 133, 196, 197, 260, 324, 388] none u o.2) (r0 : Option Nat) (x1 : Int32) (s0 : g_St) {o : (Unit ⊕ Nat) × g_St} (hs0 : z_V false [261, 708, 713, 964, 1028, 1092] [69, 133, 196, 197, 260, 324, 388] none u s0) (h : f_Ru_combine_14 kr r0 x1 s0 = some o) : z_V false [261, 708, 713, 964, 1028, 1092] [69, 133, 196, 197, 260, 324, 388] none u o.2 := by
  unfold f_Ru_combine_14 at h
  refine er_gR h (fun c1 p1 _ _ h => ?_)
  refine er_gI h (fun i2 h => ?_)
  refine fr_if h (fun h => ?_) (fun h => ?_)
  · exact er_some h hs0
  · exact v_Ru_combine_27 hkr _ _ _ _ _ hs0 h
theorem v_Ru_combine_0 {u : g_St} {kr : Option Nat → Int32 → g_St → Option ((Unit ⊕ Nat) × g_St)} (hkr : ∀ (y0 : Option Nat) (y1 : Int32) (s : g_St) {o : (Unit ⊕ Nat) × g_St}, z_V false [261, 708, 713, 964, 1028, 1092] [69, 133, 196, 197, 260, 324, 388] none u s → kr y0 y1 s = some o → z_V false [261, 708, 713, 964, 1028, 1092] [69, 133, 196, 197, 260, 324, 388] none u o.2) (r0 : Option Nat) (x1 : Int32) (s0 : g_St) {o : (Unit ⊕ Nat) × g_St} (hs0 : z_V false [261, 708, 713, 964, 1028, 1092] [69, 133, 196, 197, 260, 324, 388] none u s0) (h : f_Ru_combine_0 kr r0 x1 s0 = some o) : z_V false [261, 708, 713, 964, 1028, 1092] [69, 133, 196, 197, 260, 324, 388] none u o.2 := by
  unfold f_Ru_combine_0 at h
  refine er_gI h (fun i1 h => ?_)
  refine fr_if h (fun h => ?_) (fun h => ?_)
  · refine er_gI h (fun i2 h => ?_)
    refine fr_if h (fun h => ?_) (fun h => ?_)
    · exact v_Ru_combine_27 hkr _ _ _ _ _ hs0 h
    · exact v_Ru_combine_14 hkr _ _ _ hs0 h
  · exact v_Ru_combine_14 hkr _ _ _ hs0 h
theorem v_Ru_combine {u : g_St} : ∀ (n : Nat) (r0 : Option Nat) (x1 : Int32) (s0 : g_St) {o : (Unit ⊕ Nat) × g_St}, z_V false [261, 708, 713, 964, 1028, 1092] [69, 133, 196, 197, 260, 324, 388] none u s0 → f_Ru_combine n r0 x1 s0 = some o → z_V false [261, 708, 713, 964, 1028, 1092] [69, 133, 196, 197, 260, 324, 388] none u o.2 := by
  intro n
  induction n with
  | zero =>
    intro r0 x1 s0 o hs0  h
    rw [f_Ru_combine] at h
    cases h
  | succ n ih =>
    intro r0 x1 s0 o hs0  h
    rw [f_Ru_combine] at h
    exact v_Ru_combine_0 (fun _ _ _ {_} hs h => ih _ _ _ hs h) _ _ _ hs0 h
theorem v_Ru_giveGroups_165 {u : g_St} {k116 : Option Nat → Int32 → Int32 → g_St → Option ((Unit ⊕ Nat) × g_St)} (hk116 : ∀ (y0 : Option Nat) (y1 : Int32) (y2 : Int32) (s : g_St) {o : (Unit ⊕ Nat) × g_St}, z_V false [261, 708, 1092] [69, 133, 196, 197, 260] none u s → k116 y0 y1 y2 s = some o → z_V false [261, 708, 1092] [69, 133, 196, 197, 260] none u o.2) (r0 : Option Nat) (x1 : Int32) (x2 : Int32) (x3 : Int32) (x0s : Int32) (s0 : g_St) {o : (Unit ⊕ Nat) × g_St} (hs0 : z_V false [261, 708, 1092] [69, 133, 196, 197, 260] none u s0) (h : f_Ru_giveGroups_165 k116 r0 x1 x2 x3 x0s s0 = some o) : z_V false [261, 708, 1092] [69, 133, 196, 197, 260] none u o.2 := by
  unfold f_Ru_giveGroups_165 at h
  refine er_gR h (fun c1 p1 _ ec1 h => ?_)
  have own_p1 : ∀ x, p1 = some x → g_al u x → z_own [69, 133, 196, 197, 260] u x := fun x q => hs0.own (by decide) (by decide) (by decide) (ec1.trans q)
  refine fr_if h (fun h => ?_) (fun h => ?_)
  · refine er_gR h (fun c2 p5 _ _ h => ?_)
    refine er_aI h (fun i6 h => ?_)
    refine fr_if h (fun h => ?_) (fun h => ?_)
    · refine er_sL h (fun x_3 ix3 ha h => ?_)
      have hs3 := hs0.sAL (own_p1 x_3 ha) ix3 1099511627776
      exact hk116 _ _ _ _ hs3 h
    · refine er_gR h (fun c4 p8 _ _ h => ?_)
      refine er_aL h (fun j9 h => ?_)
      refine er_sL h (fun x_5 ix5 ha h => ?_)
      have hs5 := hs0.sAL (own_p1 x_5 ha) ix5 j9
      exact hk116 _ _ _ _ hs5 h
  · refine er_gR h (fun c6 p2 _ _ h => ?_)
    refine er_aL h (fun j3 h => ?_)
    refine er_sL h (fun x_7 ix7 ha h => ?_)
    have hs7 := hs0.sAL (own_p1 x_7 ha) ix7 j3
    exact hk116 _ _ _ _ hs7 h
theorem v_Ru_giveGroups_116 {u : g_St} {k106 : Option Nat → Int32 → g_St → Option ((Unit ⊕ Nat) × g_St)} (hk106 : ∀ (y0 : Option Nat) (y1 : Int32) (s : g_St) {o : (Unit ⊕ Nat) × g_St}, z_V false [261, 708, 1092] [69, 133, 196, 197, 260] none u s → k106 y0 y1 s = some o → z_V false [261, 708, 1092] [69, 133, 196, 197, 260] none u o.2) : ∀ (n : Nat) (r0 : Option Nat) (x1 : Int32) (x2 : Int32) (s0 : g_St) {o : (Unit ⊕ Nat) × g_St}, z_V false [261, 708, 1092] [69, 133, 196, 197, 260] none u s0 → f_Ru_giveGroups_116 k106 n r0 x1 x2 s0 = some o → z_V false [261, 708, 1092] [69, 133, 196, 197, 260] none u o.2 := by
  intro n
  induction n with
  | zero =>
    intro r0 x1 x2 s0 o hs0  h
    rw [f_Ru_giveGroups_116] at h
    cases h
  | succ n ih =>
    intro r0 x1 x2 s0 o hs0  h
    rw [f_Ru_giveGroups_116] at h
    refine er_gR h (fun c1 p1 _ _ h => ?_)
    refine er_gI h (fun i2 h => ?_)
    refine fr_if h (fun h => ?_) (fun h => ?_)
    · refine fr_c h (fun v2 s4 hc h => ?_)
      have hs2 := hs0.trans (by decide) ((v_Ru_come _ _ z_V.re (er_nn hc)).mono (by decide) (by decide) (by decide) (Or.inl rfl))
      exact hk106 _ _ _ hs2 h
    · refine er_gR h (fun c3 p5 _ _ h => ?_)
      refine er_gR h (fun c4 p6 _ _ h => ?_)
      refine er_aR h (fun p7 h => ?_)
      refine fr_if h (fun h => ?_) (fun h => ?_)
      · exact v_Ru_giveGroups_165 (fun _ _ _ _ {_} hs h => ih _ _ _ _ hs h) _ _ _ _ _ _ hs0 h
      · refine er_gR h (fun c5 p8 _ _ h => ?_)
        refine er_gR h (fun c6 p9 _ _ h => ?_)
        refine er_aR h (fun p10 h => ?_)
        refine fr_if h (fun h => ?_) (fun h => ?_)
        · exact v_Ru_giveGroups_165 (fun _ _ _ _ {_} hs h => ih _ _ _ _ hs h) _ _ _ _ _ _ hs0 h
        · exact v_Ru_giveGroups_165 (fun _ _ _ _ {_} hs h => ih _ _ _ _ hs h) _ _ _ _ _ _ hs0 h
theorem v_Ru_giveGroups_106 {u : g_St} : ∀ (n : Nat) (r0 : Option Nat) (x1 : Int32) (s0 : g_St) {o : (Unit ⊕ Nat) × g_St}, z_V false [261, 708, 1092] [69, 133, 196, 197, 260] none u s0 → f_Ru_giveGroups_106 n r0 x1 s0 = some o → z_V false [261, 708, 1092] [69, 133, 196, 197, 260] none u o.2 := by
  intro n
  induction n with
  | zero =>
    intro r0 x1 s0 o hs0  h
    rw [f_Ru_giveGroups_106] at h
    cases h
  | succ n ih =>
    intro r0 x1 s0 o hs0  h
    rw [f_Ru_giveGroups_106] at h
    refine er_gI h (fun i1 h => ?_)
    refine fr_if h (fun h => ?_) (fun h => ?_)
    · exact er_some h hs0
    · exact v_Ru_giveGroups_116 (fun _ _ _ {_} hs h => ih _ _ _ hs h) _ _ _ _ _ hs0 h
theorem v_Ru_giveGroups_30 {u : g_St} {k20 : Option Nat → Int32 → g_St → Option ((Unit ⊕ Nat) × g_St)} (hk20 : ∀ (y0 : Option Nat) (y1 : Int32) (s : g_St) {o : (Unit ⊕ Nat) × g_St}, z_V false [261, 708, 1092] [69, 133, 196, 197, 260] none u s → k20 y0 y1 s = some o → z_V false [261, 708, 1092] [69, 133, 196, 197, 260] none u o.2) : ∀ (n : Nat) (r0 : Option Nat) (x1 : Int32) (x2 : Int32) (s0 : g_St) {o : (Unit ⊕ Nat) × g_St}, z_V false [261, 708, 1092] [69, 133, 196, 197, 260] none u s0 → f_Ru_giveGroups_30 k20 n r0 x1 x2 s0 = some o → z_V false [261, 708, 1092] [69, 133, 196, 197, 260] none u o.2 := by
  intro n
  induction n with
  | zero =>
    intro r0 x1 x2 s0 o hs0  h
    rw [f_Ru_giveGroups_30] at h
    cases h
  | succ n ih =>
    intro r0 x1 x2 s0 o hs0  h
    rw [f_Ru_giveGroups_30] at h
    refine er_gR h (fun c1 p1 _ _ h => ?_)
    refine er_gI h (fun i2 h => ?_)
    refine fr_if h (fun h => ?_) (fun h => ?_)
    · exact hk20 _ _ _ hs0 h
    · refine er_gR h (fun c2 p3 _ _ h => ?_)
      refine er_aI h (fun i4 h => ?_)
      refine fr_if h (fun h => ?_) (fun h => ?_)
      · exact ih _ _ _ _ hs0 h
      · refine er_gR h (fun c3 p5 _ _ h => ?_)
        refine er_aL h (fun j6 h => ?_)
        refine fr_if h (fun h => ?_) (fun h => ?_)
        · exact er_thr h hs0
        · refine er_gR h (fun c4 p7 _ _ h => ?_)
          refine er_aL h (fun j8 h => ?_)
          refine fr_c h (fun i9 s10 hc h => ?_)
          have hs5 := hs0.trans (by decide) ((v_Ru_isOutOfRange _ _ z_V.re hc).mono (by decide) (by decide) (by decide) (Or.inl rfl))
          refine fr_if h (fun h => ?_) (fun h => ?_)
          · exact ih _ _ _ _ hs5 h
          · exact er_thr h hs5
theorem v_Ru_giveGroups_20 {u : g_St} : ∀ (n : Nat) (r0 : Option Nat) (x1 : Int32) (s0 : g_St) {o : (Unit ⊕ Nat) × g_St}, z_V false [261, 708, 1092] [69, 133, 196, 197, 260] none u s0 → f_Ru_giveGroups_20 n r0 x1 s0 = some o → z_V false [261, 708, 1092] [69, 133, 196, 197, 260] none u o.2 := by
  intro n
  induction n with
  | zero =>
    intro r0 x1 s0 o hs0  h
    rw [f_Ru_giveGroups_20] at h
    cases h
  | succ n ih =>
    intro r0 x1 s0 o hs0  h
    rw [f_Ru_giveGroups_20] at h
    refine er_gI h (fun i1 h => ?_)
    refine fr_if h (fun h => ?_) (fun h => ?_)
    · exact v_Ru_giveGroups_106 _ _ _ _ hs0 h
    · exact v_Ru_giveGroups_30 (fun _ _ _ {_} hs h => ih _ _ _ hs h) _ _ _ _ _ hs0 h
theorem v_Ru_giveGroups {u : g_St} (r0 : Option Nat) (s0 : g_St) {o : (Unit ⊕ Nat) × g_St} (hs0 : z_V false [261, 708, 1092] [69, 133, 196, 197, 260] none u s0) (h : f_Ru_giveGroups r0 s0 = some o) : z_V false [261, 708, 1092] [69, 133, 196, 197, 260] none u o.2 := by
  unfold f_Ru_giveGroups at h
  refine er_gI h (fun i1 h => ?_)
  refine fr_if h (fun h => ?_) (fun h => ?_)
  · exact v_Ru_giveGroups_20 _ _ _ _ hs0 h
  · exact er_thr h hs0
theorem v_Ru_work_156 {u : g_St} (r0 : Option Nat) (s0 : g_St) {o : (Unit ⊕ Nat) × g_St} (hs0 : z_V false [261, 521, 585, 649, 708, 713, 772, 777, 836, 900, 964, 1028, 1092] [69, 133, 196, 197, 260, 324, 388] none u s0) (h : f_Ru_work_156 r0 s0 = some o) : z_V false [261, 521, 585, 649, 708, 713, 772, 777, 836, 900, 964, 1028, 1092] [69, 133, 196, 197, 260, 324, 388] none u o.2 := by
  unfold f_Ru_work_156 at h
  refine er_gI h (fun i1 h => ?_)
  refine fr_if h (fun h => ?_) (fun h => ?_)
  · exact er_some h hs0
  · exact er_thr h hs0
theorem v_Ru_work_101 {u : g_St} : ∀ (n : Nat) (r0 : Option Nat) (r1 : Option Nat) (x3 : Int32) (s0 : g_St) {o : (Unit ⊕ Nat) × g_St}, z_V false [261, 521, 585, 649, 708, 713, 772, 777, 836, 900, 964, 1028, 1092] [69, 133, 196, 197, 260, 324, 388] none u s0 → f_Ru_work_101 n r0 r1 x3 s0 = some o → z_V false [261, 521, 585, 649, 708, 713, 772, 777, 836, 900, 964, 1028, 1092] [69, 133, 196, 197, 260, 324, 388] none u o.2 := by
  intro n
  induction n with
  | zero =>
    intro r0 r1 x3 s0 o hs0  h
    rw [f_Ru_work_101] at h
    cases h
  | succ n ih =>
    intro r0 r1 x3 s0 o hs0  h
    rw [f_Ru_work_101] at h
    refine er_gI h (fun i1 h => ?_)
    refine fr_if h (fun h => ?_) (fun h => ?_)
    · refine er_cT h (fun v1 s3 hc h => ?_) (fun e0 s00 hc h => ?_)
      · have hs1 := hs0.trans (by decide) ((v_Ru_combine _ _ _ _ z_V.re (er_nn hc)).mono (by decide) (by decide) (by decide) (Or.inl rfl))
        refine er_gI h (fun i4 h => ?_)
        refine fr_if h (fun h => ?_) (fun h => ?_)
        · exact v_Ru_work_156 _ _ hs1 h
        · refine er_cT h (fun v2 s6 hc h => ?_) (fun e0 s00 hc h => ?_)
          · have hs2 := hs1.trans (by decide) ((v_Ru_giveGroups _ _ z_V.re (er_nn hc)).mono (by decide) (by decide) (by decide) (Or.inl rfl))
            exact v_Ru_work_156 _ _ hs2 h
          · have hs2 := hs1.trans (by decide) ((v_Ru_giveGroups _ _ z_V.re (er_nn hc)).mono (by decide) (by decide) (by decide) (Or.inl rfl))
            rw [h]
            exact hs2
      · have hs1 := hs0.trans (by decide) ((v_Ru_combine _ _ _ _ z_V.re (er_nn hc)).mono (by decide) (by decide) (by decide) (Or.inl rfl))
        rw [h]
        exact hs1
    · refine er_gR h (fun c3 p7 _ _ h => ?_)
      refine er_aR h (fun p8 h => ?_)
      refine er_gR h (fun c4 p9 _ _ h => ?_)
      refine fr_if h (fun h => ?_) (fun h => ?_)
      · exact ih _ _ _ _ hs0 h
      · refine er_gR h (fun c5 p10 _ _ h => ?_)
        refine er_aR h (fun p11 h => ?_)
        refine er_gR h (fun c6 p12 _ _ h => ?_)
        refine fr_c h (fun v7 s14 hc h => ?_)
        have hs7 := hs0.trans (by decide) ((v_Ru_bind _ _ _ z_V.re (er_nn hc)).mono (by decide) (by decide) (by decide) (Or.inl rfl))
        exact ih _ _ _ _ hs7 h
theorem v_Ru_work_75 {u : g_St} : ∀ (n : Nat) (r0 : Option Nat) (r1 : Option Nat) (x3 : Int32) (s0 : g_St) {o : (Unit ⊕ Nat) × g_St}, z_V false [261, 521, 585, 649, 708, 713, 772, 777, 836, 900, 964, 1028, 1092] [69, 133, 196, 197, 260, 324, 388] none u s0 → f_Ru_work_75 n r0 r1 x3 s0 = some o → z_V false [261, 521, 585, 649, 708, 713, 772, 777, 836, 900, 964, 1028, 1092] [69, 133, 196, 197, 260, 324, 388] none u o.2 := by
  intro n
  induction n with
  | zero =>
    intro r0 r1 x3 s0 o hs0  h
    rw [f_Ru_work_75] at h
    cases h
  | succ n ih =>
    intro r0 r1 x3 s0 o hs0  h
    rw [f_Ru_work_75] at h
    refine er_gI h (fun i1 h => ?_)
    refine fr_if h (fun h => ?_) (fun h => ?_)
    · exact v_Ru_work_101 _ _ _ _ _ hs0 h
    · refine er_gR h (fun c1 p2 _ _ h => ?_)
      refine er_aR h (fun p3 h => ?_)
      refine fr_c h (fun v2 s5 hc h => ?_)
      have hs2 := hs0.trans (by decide) ((v_Ru_bind _ _ _ z_V.re (er_nn hc)).mono (by decide) (by decide) (by decide) (Or.inl rfl))
      exact ih _ _ _ _ hs2 h
theorem v_Ru_work_30 {u : g_St} (r0 : Option Nat) (r1 : Option Nat) (x2 : Int32) (r0s : Option Nat) (r1s : Option Nat) (s0 : g_St) {o : (Unit ⊕ Nat) × g_St} (hs0 : z_V false [261, 521, 585, 649, 708, 713, 772, 777, 836, 900, 964, 1028, 1092] [69, 133, 196, 197, 260, 324, 388] none u s0) (h : f_Ru_work_30 r0 r1 x2 r0s r1s s0 = some o) : z_V false [261, 521, 585, 649, 708, 713, 772, 777, 836, 900, 964, 1028, 1092] [69, 133, 196, 197, 260, 324, 388] none u o.2 := by
  unfold f_Ru_work_30 at h
  refine er_pR h (fun a1 ha h => ?_)
  have hs1 := hs0.pR (k := 836) (a := a1) r1s (Or.inl (by decide)) (by decide)
  refine er_gR h (fun c2 p2 _ _ h => ?_)
  refine er_aR h (fun p3 h => ?_)
  refine er_pR h (fun a3 ha h => ?_)
  have hs3 := hs1.pR (k := 900) (a := a3) p3 (Or.inl (by decide)) (by decide)
  refine er_pZ h (fun a4 ha h => ?_)
  have hs4 := hs3.pI (k := 1028) (a := a4) 0 (Or.inl (by decide))
  refine er_pZ h (fun a5 ha h => ?_)
  have hs5 := hs4.pI (k := 1092) (a := a5) 0 (Or.inl (by decide))
  refine er_pI h (fun a6 ha h => ?_)
  have hs6 := hs5.pI (k := 964) (a := a6) 0 (Or.inl (by decide))
  refine er_gI h (fun i8 h => ?_)
  refine er_gI h (fun i9 h => ?_)
  refine fr_if h (fun h => ?_) (fun h => ?_)
  · refine fr_c h (fun v7 s11 hc h => ?_)
    have hs7 := hs6.trans (by decide) ((v_Ru_addGroup _ _ z_V.re (er_nn hc)).mono (by decide) (by decide) (by decide) (Or.inl rfl))
    exact v_Ru_work_75 _ _ _ _ _ hs7 h
  · exact v_Ru_work_75 _ _ _ _ _ hs6 h
theorem v_Ru_work {u : g_St} (r0 : Option Nat) (r1 : Option Nat) (x2 : Int32) (s0 : g_St) {o : (Unit ⊕ Nat) × g_St} (hs0 : z_V false [261, 521, 585, 649, 708, 713, 772, 777, 836, 900, 964, 1028, 1092] [69, 133, 196, 197, 260, 324, 388] none u s0) (h : f_Ru_work r0 r1 x2 s0 = some o) : z_V false [261, 521, 585, 649, 708, 713, 772, 777, 836, 900, 964, 1028, 1092] [69, 133, 196, 197, 260, 324, 388] none u o.2 := by
  unfold f_Ru_work at h
  refine er_pR h (fun a1 ha h => ?_)
  have hs1 := hs0.pR (k := 772) (a := a1) r1 (Or.inl (by decide)) (by decide)
  refine er_gR h (fun c2 p2 _ _ h => ?_)
  refine er_gI h (fun i3 h => ?_)
  refine fr_if h (fun h => ?_) (fun h => ?_)
  · exact v_Ru_work_30 _ _ _ _ _ _ hs1 h
  · refine er_gR h (fun c3 p4 _ _ h => ?_)
    refine er_gR h (fun c4 p5 _ _ h => ?_)
    refine er_aR h (fun p6 h => ?_)
    exact v_Ru_work_30 _ _ _ _ _ _ hs1 h
theorem v_Ru_component_90 {u : g_St} {k52 : Option Nat → Int32 → Int32 → Int32 → Int32 → Int32 → Option Nat → Int32 → g_St → Option ((Unit ⊕ Nat) × g_St)} (hk52 : ∀ (y0 : Option Nat) (y1 : Int32) (y2 : Int32) (y3 : Int32) (y4 : Int32) (y5 : Int32) (y6 : Option Nat) (y7 : Int32) (s : g_St) {o : (Unit ⊕ Nat) × g_St}, z_V false [261, 325, 389, 521, 585, 649, 708, 713, 772, 777, 836, 900, 964, 1028, 1092] [68, 69, 133, 196, 197, 260, 324, 388] none u s → k52 y0 y1 y2 y3 y4 y5 y6 y7 s = some o → z_V false [261, 325, 389, 521, 585, 649, 708, 713, 772, 777, 836, 900, 964, 1028, 1092] [68, 69, 133, 196, 197, 260, 324, 388] none u o.2) (r0 : Option Nat) (x1 : Int32) (x2 : Int32) (x3 : Int32) (x4 : Int32) (x5 : Int32) (r6 : Option Nat) (x7 : Int32) (s0 : g_St) {o : (Unit ⊕ Nat) × g_St} (hs0 : z_V false [261, 325, 389, 521, 585, 649, 708, 713, 772, 777, 836, 900, 964, 1028, 1092] [68, 69, 133, 196, 197, 260, 324, 388] none u s0) (h : f_Ru_component_90 k52 r0 x1 x2 x3 x4 x5 r6 x7 s0 = some o) : z_V false [261, 325, 389, 521, 585, 649, 708, 713, 772, 777, 836, 900, 964, 1028, 1092] [68, 69, 133, 196, 197, 260, 324, 388] none u o.2 := by
  unfold f_Ru_component_90 at h
  refine er_gR h (fun c1 p1 _ _ h => ?_)
  refine er_aR h (fun p2 h => ?_)
  refine er_cT h (fun v2 s4 hc h => ?_) (fun e0 s00 hc h => ?_)
  · have hs2 := hs0.trans (by decide) ((v_Ru_work _ _ _ _ z_V.re (er_nn hc)).mono (by decide) (by decide) (by decide) (Or.inl rfl))
    exact hk52 _ _ _ _ _ _ _ _ _ hs2 h
  · have hs2 := hs0.trans (by decide) ((v_Ru_work _ _ _ _ z_V.re (er_nn hc)).mono (by decide) (by decide) (by decide) (Or.inl rfl))
    rw [h]
    exact hs2
theorem v_Ru_component_52 {u : g_St} {k25 : Option Nat → Int32 → Int32 → Int32 → Int32 → Int32 → g_St → Option ((Unit ⊕ Nat) × g_St)} (hk25 : ∀ (y0 : Option Nat) (y1 : Int32) (y2 : Int32) (y3 : Int32) (y4 : Int32) (y5 : Int32) (s : g_St) {o : (Unit ⊕ Nat) × g_St}, z_V false [261, 325, 389, 521, 585, 649, 708, 713, 772, 777, 836, 900, 964, 1028, 1092] [68, 69, 133, 196, 197, 260, 324, 388] none u s → k25 y0 y1 y2 y3 y4 y5 s = some o → z_V false [261, 325, 389, 521, 585, 649, 708, 713, 772, 777, 836, 900, 964, 1028, 1092] [68, 69, 133, 196, 197, 260, 324, 388] none u o.2) : ∀ (n : Nat) (r0 : Option Nat) (x1 : Int32) (x2 : Int32) (x3 : Int32) (x4 : Int32) (x5 : Int32) (r6 : Option Nat) (x7 : Int32) (s0 : g_St) {o : (Unit ⊕ Nat) × g_St}, z_V false [261, 325, 389, 521, 585, 649, 708, 713, 772, 777, 836, 900, 964, 1028, 1092] [68, 69, 133, 196, 197, 260, 324, 388] none u s0 → f_Ru_component_52 k25 n r0 x1 x2 x3 x4 x5 r6 x7 s0 = some o → z_V false [261, 325, 389, 521, 585, 649, 708, 713, 772, 777, 836, 900, 964, 1028, 1092] [68, 69, 133, 196, 197, 260, 324, 388] none u o.2 := by
  intro n
  induction n with
  | zero =>
    intro r0 x1 x2 x3 x4 x5 r6 x7 s0 o hs0  h
    rw [f_Ru_component_52] at h
    cases h
  | succ n ih =>
    intro r0 x1 x2 x3 x4 x5 r6 x7 s0 o hs0  h
    rw [f_Ru_component_52] at h
    refine er_gI h (fun i1 h => ?_)
    refine fr_if h (fun h => ?_) (fun h => ?_)
    · exact hk25 _ _ _ _ _ _ _ hs0 h
    · refine er_gI h (fun i2 h => ?_)
      refine fr_if h (fun h => ?_) (fun h => ?_)
      · refine fr_if h (fun h => ?_) (fun h => ?_)
        · exact v_Ru_component_90 (fun _ _ _ _ _ _ _ _ _ {_} hs h => ih _ _ _ _ _ _ _ _ _ hs h) _ _ _ _ _ _ _ _ _ hs0 h
        · refine er_gR h (fun c1 p3 _ _ h => ?_)
          refine er_aR h (fun p4 h => ?_)
          refine er_gI h (fun i5 h => ?_)
          refine fr_if h (fun h => ?_) (fun h => ?_)
          · exact ih _ _ _ _ _ _ _ _ _ hs0 h
          · exact v_Ru_component_90 (fun _ _ _ _ _ _ _ _ _ {_} hs h => ih _ _ _ _ _ _ _ _ _ hs h) _ _ _ _ _ _ _ _ _ hs0 h
      · exact hk25 _ _ _ _ _ _ _ hs0 h
theorem v_Ru_component_25 {u : g_St} {k2 : Option Nat → Int32 → Int32 → g_St → Option ((Unit ⊕ Nat) × g_St)} (hk2 : ∀ (y0 : Option Nat) (y1 : Int32) (y2 : Int32) (s : g_St) {o : (Unit ⊕ Nat) × g_St}, z_V false [261, 325, 389, 521, 585, 649, 708, 713, 772, 777, 836, 900, 964, 1028, 1092] [68, 69, 133, 196, 197, 260, 324, 388] none u s → k2 y0 y1 y2 s = some o → z_V false [261, 325, 389, 521, 585, 649, 708, 713, 772, 777, 836, 900, 964, 1028, 1092] [68, 69, 133, 196, 197, 260, 324, 388] none u o.2) : ∀ (n : Nat) (r0 : Option Nat) (x1 : Int32) (x2 : Int32) (x3 : Int32) (x4 : Int32) (x5 : Int32) (s0 : g_St) {o : (Unit ⊕ Nat) × g_St}, z_V false [261, 325, 389, 521, 585, 649, 708, 713, 772, 777, 836, 900, 964, 1028, 1092] [68, 69, 133, 196, 197, 260, 324, 388] none u s0 → f_Ru_component_25 k2 n r0 x1 x2 x3 x4 x5 s0 = some o → z_V false [261, 325, 389, 521, 585, 649, 708, 713, 772, 777, 836, 900, 964, 1028, 1092] [68, 69, 133, 196, 197, 260, 324, 388] none u o.2 := by
  intro n
  induction n with
  | zero =>
    intro r0 x1 x2 x3 x4 x5 s0 o hs0  h
    rw [f_Ru_component_25] at h
    cases h
  | succ n ih =>
    intro r0 x1 x2 x3 x4 x5 s0 o hs0  h
    rw [f_Ru_component_25] at h
    refine er_gR h (fun c1 p1 _ _ h => ?_)
    refine er_gI h (fun i2 h => ?_)
    refine fr_if h (fun h => ?_) (fun h => ?_)
    · refine er_gR h (fun c2 p3 _ ec2 h => ?_)
      have own_p3 : ∀ x, p3 = some x → g_al u x → z_own [68, 69, 133, 196, 197, 260, 324, 388] u x := fun x q => hs0.own (by decide) (by decide) (by decide) (ec2.trans q)
      refine er_sI h (fun x_3 ix3 ha h => ?_)
      have hs3 := hs0.sAI (own_p3 x_3 ha) ix3 x2
      refine er_gR h (fun c4 p5 _ ec4 h => ?_)
      have own_p5 : ∀ x, p5 = some x → g_al u x → z_own [68, 69, 133, 196, 197, 260, 324, 388] u x := fun x q => hs3.own (by decide) (by decide) (by decide) (ec4.trans q)
      refine er_gI h (fun i6 h => ?_)
      refine er_sI h (fun x_5 ix5 ha h => ?_)
      have hs5 := hs3.sAI (own_p5 x_5 ha) ix5 (i6 - x3)
      refine fr_if h (fun h => ?_) (fun h => ?_)
      · exact er_some h hs5
      · refine er_gI h (fun i8 h => ?_)
        refine fr_if h (fun h => ?_) (fun h => ?_)
        · exact er_some h hs5
        · exact hk2 _ _ _ _ hs5 h
    · refine er_gR h (fun c6 p9 _ _ h => ?_)
      refine er_gR h (fun c7 p10 _ _ h => ?_)
      refine er_aR h (fun p11 h => ?_)
      exact v_Ru_component_52 (fun _ _ _ _ _ _ _ {_} hs h => ih _ _ _ _ _ _ _ hs h) _ _ _ _ _ _ _ _ _ _ hs0 h
theorem v_Ru_component_2 {u : g_St} : ∀ (n : Nat) (r0 : Option Nat) (x1 : Int32) (x2 : Int32) (s0 : g_St) {o : (Unit ⊕ Nat) × g_St}, z_V false [261, 325, 389, 521, 585, 649, 708, 713, 772, 777, 836, 900, 964, 1028, 1092] [68, 69, 133, 196, 197, 260, 324, 388] none u s0 → f_Ru_component_2 n r0 x1 x2 s0 = some o → z_V false [261, 325, 389, 521, 585, 649, 708, 713, 772, 777, 836, 900, 964, 1028, 1092] [68, 69, 133, 196, 197, 260, 324, 388] none u o.2 := by
  intro n
  induction n with
  | zero =>
    intro r0 x1 x2 s0 o hs0  h
    rw [f_Ru_component_2] at h
    cases h
  | succ n ih =>
    intro r0 x1 x2 s0 o hs0  h
    rw [f_Ru_component_2] at h
    refine er_gI h (fun i1 h => ?_)
    refine fr_if h (fun h => ?_) (fun h => ?_)
    · exact er_thr h hs0
    · refine er_gI h (fun i2 h => ?_)
      refine fr_c h (fun i3 s4 hc h => ?_)
      have hs1 := hs0.trans (by decide) ((v_Ru_beginRound _ _ _ z_V.re (er_nn hc)).mono (by decide) (by decide) (by decide) (Or.inl rfl))
      exact v_Ru_component_25 (fun _ _ _ _ {_} hs h => ih _ _ _ _ hs h) _ _ _ _ _ _ _ _ hs1 h
theorem v_Ru_component {u : g_St} (r0 : Option Nat) (x1 : Int32) (s0 : g_St) {o : (Unit ⊕ Nat) × g_St} (hs0 : z_V false [261, 325, 389, 521, 585, 649, 708, 713, 772, 777, 836, 900, 964, 1028, 1092] [68, 69, 133, 196, 197, 260, 324, 388] none u s0) (h : f_Ru_component r0 x1 s0 = some o) : z_V false [261, 325, 389, 521, 585, 649, 708, 713, 772, 777, 836, 900, 964, 1028, 1092] [68, 69, 133, 196, 197, 260, 324, 388] none u o.2 := by
  unfold f_Ru_component at h
  exact v_Ru_component_2 _ _ _ _ _ hs0 h
theorem v_Ru_compareKeys {u : g_St} (r0 : Option Nat) (r1 : Option Nat) (y2 : Int64) (y4 : Int64) (s0 : g_St) {o : Int32 × g_St} (hs0 : z_V true [] [] none u s0) (h : f_Ru_compareKeys r0 r1 y2 y4 s0 = some o) : z_V true [] [] none u o.2 := by
  unfold f_Ru_compareKeys at h
  refine er_gI h (fun i1 h => ?_)
  refine fr_if h (fun h => ?_) (fun h => ?_)
  · refine er_gR h (fun c1 p2 _ _ h => ?_)
    refine er_gR h (fun c2 p3 _ _ h => ?_)
    refine er_gI h (fun i4 h => ?_)
    refine er_aR h (fun p5 h => ?_)
    refine er_gR h (fun c3 p6 _ _ h => ?_)
    refine er_gR h (fun c4 p7 _ _ h => ?_)
    refine er_gR h (fun c5 p8 _ _ h => ?_)
    refine er_gI h (fun i9 h => ?_)
    refine er_aR h (fun p10 h => ?_)
    refine fr_c h (fun i11 s12 hc h => ?_)
    have hs6 := hs0.trans (by decide) ((v_Rl_compareTrails _ _ _ _ _ z_V.re (er_nn hc)).mono (by decide) (by decide) (by decide) (Or.inl rfl))
    exact er_some h hs6
  · refine fr_c h (fun i13 s14 hc h => ?_)
    have hs7 := hs0.trans (by decide) ((v_Rl_compareCells _ _ _ z_V.re hc).mono (by decide) (by decide) (by decide) (Or.inl rfl))
    exact er_some h hs7
theorem v_Ru_compareRows_75 {u : g_St} : ∀ (n : Nat) (r0 : Option Nat) (x1 : Int32) (x2 : Int32) (r3 : Option Nat) (x4 : Int32) (s0 : g_St) {o : Int32 × g_St}, z_V true [] [] none u s0 → f_Ru_compareRows_75 n r0 x1 x2 r3 x4 s0 = some o → z_V true [] [] none u o.2 := by
  intro n
  induction n with
  | zero =>
    intro r0 x1 x2 r3 x4 s0 o hs0  h
    rw [f_Ru_compareRows_75] at h
    cases h
  | succ n ih =>
    intro r0 x1 x2 r3 x4 s0 o hs0  h
    rw [f_Ru_compareRows_75] at h
    refine er_gR h (fun c1 p1 _ _ h => ?_)
    refine er_gR h (fun c2 p2 _ _ h => ?_)
    refine er_gI h (fun i3 h => ?_)
    refine fr_if h (fun h => ?_) (fun h => ?_)
    · exact er_some h hs0
    · refine er_aL h (fun j4 h => ?_)
      refine er_aL h (fun j5 h => ?_)
      refine fr_c h (fun i6 s7 hc h => ?_)
      have hs3 := hs0.trans (by decide) ((v_Rl_compareCells _ _ _ z_V.re hc).mono (by decide) (by decide) (by decide) (Or.inl rfl))
      refine fr_if h (fun h => ?_) (fun h => ?_)
      · exact ih _ _ _ _ _ _ hs3 h
      · exact er_some h hs3
theorem v_Ru_compareRows_2 {u : g_St} : ∀ (n : Nat) (r0 : Option Nat) (x1 : Int32) (x2 : Int32) (x3 : Int32) (s0 : g_St) {o : Int32 × g_St}, z_V true [] [] none u s0 → f_Ru_compareRows_2 n r0 x1 x2 x3 s0 = some o → z_V true [] [] none u o.2 := by
  intro n
  induction n with
  | zero =>
    intro r0 x1 x2 x3 s0 o hs0  h
    rw [f_Ru_compareRows_2] at h
    cases h
  | succ n ih =>
    intro r0 x1 x2 x3 s0 o hs0  h
    rw [f_Ru_compareRows_2] at h
    refine er_gR h (fun c1 p1 _ _ h => ?_)
    refine er_gI h (fun i2 h => ?_)
    refine fr_if h (fun h => ?_) (fun h => ?_)
    · refine er_gR h (fun c2 p3 _ _ h => ?_)
      refine er_aR h (fun p4 h => ?_)
      refine er_gR h (fun c3 p5 _ _ h => ?_)
      exact v_Ru_compareRows_75 _ _ _ _ _ _ _ hs0 h
    · refine er_gR h (fun c4 p6 _ _ h => ?_)
      refine er_gR h (fun c5 p7 _ _ h => ?_)
      refine er_aR h (fun p8 h => ?_)
      refine er_gR h (fun c6 p9 _ _ h => ?_)
      refine er_aL h (fun j10 h => ?_)
      refine er_gR h (fun c7 p11 _ _ h => ?_)
      refine er_aL h (fun j12 h => ?_)
      refine fr_c h (fun i13 s14 hc h => ?_)
      have hs8 := hs0.trans (by decide) ((v_Ru_compareKeys _ _ _ _ _ z_V.re (er_nn hc)).mono (by decide) (by decide) (by decide) (Or.inl rfl))
      refine fr_if h (fun h => ?_) (fun h => ?_)
      · exact ih _ _ _ _ _ hs8 h
      · exact er_some h hs8
theorem v_Ru_compareRows {u : g_St} (r0 : Option Nat) (x1 : Int32) (x2 : Int32) (s0 : g_St) {o : Int32 × g_St} (hs0 : z_V true [] [] none u s0) (h : f_Ru_compareRows r0 x1 x2 s0 = some o) : z_V true [] [] none u o.2 := by
  unfold f_Ru_compareRows at h
  exact v_Ru_compareRows_2 _ _ _ _ _ _ hs0 h
theorem v_Ru_sort_19 {u : g_St} {k9 : Option Nat → Option Nat → Int32 → g_St → Option (Unit × g_St)} (hk9 : ∀ (y0 : Option Nat) (y1 : Option Nat) (y2 : Int32) (s : g_St) {o : Unit × g_St}, z_V true [] [132] none u s → k9 y0 y1 y2 s = some o → z_V true [] [132] none u o.2) : ∀ (n : Nat) (r0 : Option Nat) (r1 : Option Nat) (x2 : Int32) (x3 : Int32) (s0 : g_St) {o : Unit × g_St}, z_V true [] [132] none u s0 → f_Ru_sort_19 k9 n r0 r1 x2 x3 s0 = some o → z_V true [] [132] none u o.2 := by
  intro n
  induction n with
  | zero =>
    intro r0 r1 x2 x3 s0 o hs0  h
    rw [f_Ru_sort_19] at h
    cases h
  | succ n ih =>
    intro r0 r1 x2 x3 s0 o hs0  h
    rw [f_Ru_sort_19] at h
    refine fr_if h (fun h => ?_) (fun h => ?_)
    · refine er_gR h (fun c1 p1 _ ec1 h => ?_)
      have own_p1 : ∀ x, p1 = some x → g_al u x → z_own [132] u x := fun x q => hs0.own (by decide) (by decide) (by decide) (ec1.trans q)
      refine er_sI h (fun x_2 ix2 ha h => ?_)
      have hs2 := hs0.sAI (own_p1 x_2 ha) ix2 x2
      exact hk9 _ _ _ _ hs2 h
    · refine er_gR h (fun c3 p3 _ ec3 h => ?_)
      have own_p3 : ∀ x, p3 = some x → g_al u x → z_own [132] u x := fun x q => hs0.own (by decide) (by decide) (by decide) (ec3.trans q)
      refine er_aI h (fun i4 h => ?_)
      refine fr_c h (fun i5 s6 hc h => ?_)
      have hs4 := hs0.trans (by decide) ((v_Ru_compareRows _ _ _ _ z_V.re (er_nn hc)).mono (by decide) (by decide) (by decide) (Or.inl rfl))
      refine fr_if h (fun h => ?_) (fun h => ?_)
      · refine er_gR h (fun c5 p7 _ ec5 h => ?_)
        have own_p7 : ∀ x, p7 = some x → g_al u x → z_own [132] u x := fun x q => hs4.own (by decide) (by decide) (by decide) (ec5.trans q)
        refine er_sI h (fun x_6 ix6 ha h => ?_)
        have hs6 := hs4.sAI (own_p7 x_6 ha) ix6 x2
        exact hk9 _ _ _ _ hs6 h
      · refine er_gR h (fun c7 p9 _ ec7 h => ?_)
        have own_p9 : ∀ x, p9 = some x → g_al u x → z_own [132] u x := fun x q => hs4.own (by decide) (by decide) (by decide) (ec7.trans q)
        refine er_gR h (fun c8 p10 _ ec8 h => ?_)
        have own_p10 : ∀ x, p10 = some x → g_al u x → z_own [132] u x := fun x q => hs4.own (by decide) (by decide) (by decide) (ec8.trans q)
        refine er_aI h (fun i11 h => ?_)
        refine er_sI h (fun x_9 ix9 ha h => ?_)
        have hs9 := hs4.sAI (own_p9 x_9 ha) ix9 i11
        exact ih _ _ _ _ _ hs9 h
theorem v_Ru_sort_9 {u : g_St} : ∀ (n : Nat) (r0 : Option Nat) (r1 : Option Nat) (x2 : Int32) (s0 : g_St) {o : Unit × g_St}, z_V true [] [132] none u s0 → f_Ru_sort_9 n r0 r1 x2 s0 = some o → z_V true [] [132] none u o.2 := by
  intro n
  induction n with
  | zero =>
    intro r0 r1 x2 s0 o hs0  h
    rw [f_Ru_sort_9] at h
    cases h
  | succ n ih =>
    intro r0 r1 x2 s0 o hs0  h
    rw [f_Ru_sort_9] at h
    refine er_gI h (fun i1 h => ?_)
    refine fr_if h (fun h => ?_) (fun h => ?_)
    · exact er_some h hs0
    · exact v_Ru_sort_19 (fun _ _ _ _ {_} hs h => ih _ _ _ _ hs h) _ _ _ _ _ _ hs0 h
theorem v_Ru_sort {u : g_St} (r0 : Option Nat) (s0 : g_St) {o : Unit × g_St} (hs0 : z_V true [] [132] none u s0) (h : f_Ru_sort r0 s0 = some o) : z_V true [] [132] none u o.2 := by
  unfold f_Ru_sort at h
  refine er_gR h (fun c1 p1 _ _ h => ?_)
  refine er_aR h (fun p2 h => ?_)
  exact v_Ru_sort_9 _ _ _ _ _ hs0 h
theorem v_E_init {u : g_St} (r0 : Option Nat) (s0 : g_St) {o : Unit × g_St} (hs0 : z_V false [] [4] r0 u s0) (h : f_E_init r0 s0 = some o) : z_V false [] [4] r0 u o.2 := by
  unfold f_E_init at h
  replace h := er_nn h
  refine er_newA hs0 (by decide) h (fun p1 s2 hs1 fresh_p1 new_p1 h => ?_)
  refine er_pR h (fun a2 ha h => ?_)
  have hs2 := hs1.pRn (k := 0) (a := a2) p1 (Or.inr ha) fresh_p1 new_p1
  refine er_new hs2 (by decide) h (fun p4 s5 hs3 fresh_p4 h => ?_)
  refine fr_c h (fun v4 s7 hc h => ?_)
  have hs4 := hs3.transI (by decide) (fun z q => Or.inr (fresh_p4 z q)) ((v_Re_init _ _ z_V.re (er_nn hc)).mono (by decide) (by decide) (by decide) (Or.inr rfl))
  refine er_pR h (fun a5 ha h => ?_)
  have hs5 := hs4.pR (k := 128) (a := a5) p4 (Or.inr ha) (by decide)
  refine er_new hs5 (by decide) h (fun p9 s10 hs6 fresh_p9 h => ?_)
  refine fr_c h (fun v7 s12 hc h => ?_)
  have hs7 := hs6.transI (by decide) (fun z q => Or.inr (fresh_p9 z q)) ((v_Ch_init _ _ z_V.re (er_nn hc)).mono (by decide) (by decide) (by decide) (Or.inr rfl))
  refine er_pR h (fun a8 ha h => ?_)
  have hs8 := hs7.pR (k := 192) (a := a8) p9 (Or.inr ha) (by decide)
  refine er_new hs8 (by decide) h (fun p14 s15 hs9 fresh_p14 h => ?_)
  refine fr_c h (fun v10 s17 hc h => ?_)
  have hs10 := hs9.transI (by decide) (fun z q => Or.inr (fresh_p14 z q)) ((v_Ru_init _ _ z_V.re (er_nn hc)).mono (by decide) (by decide) (by decide) (Or.inr rfl))
  refine er_pR h (fun a11 ha h => ?_)
  have hs11 := hs10.pR (k := 256) (a := a11) p14 (Or.inr ha) (by decide)
  refine er_pI h (fun a12 ha h => ?_)
  have hs12 := hs11.pI (k := 64) (a := a12) 0 (Or.inr ha)
  refine er_pR h (fun a13 ha h => ?_)
  have hs13 := hs12.pR (k := 320) (a := a13) none (Or.inr ha) (by decide)
  refine er_pI h (fun a14 ha h => ?_)
  have hs14 := hs13.pI (k := 384) (a := a14) 0 (Or.inr ha)
  refine er_pZ h (fun a15 ha h => ?_)
  have hs15 := hs14.pI (k := 448) (a := a15) 0 (Or.inr ha)
  exact er_some h hs15
theorem v_E_table {u : g_St} (r0 : Option Nat) (x1 : Int32) (s0 : g_St) {o : (Int32 ⊕ Nat) × g_St} (hs0 : z_V false [64] [0] none u s0) (h : f_E_table r0 x1 s0 = some o) : z_V false [64] [0] none u o.2 := by
  unfold f_E_table at h
  refine fr_if h (fun h => ?_) (fun h => ?_)
  · exact er_thr h hs0
  · refine fr_if h (fun h => ?_) (fun h => ?_)
    · refine er_gI h (fun i1 h => ?_)
      refine fr_if h (fun h => ?_) (fun h => ?_)
      · refine er_gR h (fun c1 p2 _ ec1 h => ?_)
        have own_p2 : ∀ x, p2 = some x → g_al u x → z_own [0] u x := fun x q => hs0.own (by decide) (by decide) (by decide) (ec1.trans q)
        refine er_gI h (fun i3 h => ?_)
        refine er_new hs0 (by decide) h (fun p4 s5 hs2 fresh_p4 h => ?_)
        refine fr_c h (fun v3 s7 hc h => ?_)
        have hs3 := hs2.transI (by decide) (fun z q => Or.inr (fresh_p4 z q)) ((v_Rl_init _ _ _ _ z_V.re (er_nn hc)).mono (by decide) (by decide) (by decide) (Or.inr rfl))
        refine er_sR h (fun x_4 ix4 ha h => ?_)
        have hs4 := hs3.sAR (own_p2 x_4 ha) ix4 p4
        refine er_gI h (fun i9 h => ?_)
        refine er_pI h (fun a5 ha h => ?_)
        have hs5 := hs4.pI (k := 64) (a := a5) (i9 + 1) (Or.inl (by decide))
        refine er_gI h (fun i11 h => ?_)
        exact er_some h hs5
      · exact er_thr h hs0
    · exact er_thr h hs0
theorem v_E_row_132 {u : g_St} (r6 : Option Nat) (r0s : Option Nat) (x1s : Int32) (y2s : Int64) (s0 : g_St) {o : (Int32 ⊕ Nat) × g_St} (hs0 : z_V false [261] [69] none u s0) (own_r0s : ∀ x, r0s = some x → g_al u x → z_own [69] u x) (h : f_E_row_132 r6 r0s x1s y2s s0 = some o) : z_V false [261] [69] none u o.2 := by
  unfold f_E_row_132 at h
  refine er_sL h (fun x_1 ix1 ha h => ?_)
  have hs1 := hs0.sAL (own_r0s x_1 ha) ix1 y2s
  refine er_gI h (fun i2 h => ?_)
  refine er_pI h (fun a2 ha h => ?_)
  have hs2 := hs1.pI (k := 261) (a := a2) (i2 + 1) (Or.inl (by decide))
  refine er_gI h (fun i4 h => ?_)
  exact er_some h hs2
theorem v_E_row_106 {u : g_St} (x4 : Int32) (x5 : Int32) (r6 : Option Nat) (x7 : Int32) (r0s : Option Nat) (x1s : Int32) (y2s : Int64) (s0 : g_St) {o : (Int32 ⊕ Nat) × g_St} (hs0 : z_V false [261] [69] none u s0) (own_r0s : ∀ x, r0s = some x → g_al u x → z_own [69] u x) (h : f_E_row_106 x4 x5 r6 x7 r0s x1s y2s s0 = some o) : z_V false [261] [69] none u o.2 := by
  unfold f_E_row_106 at h
  refine er_sL h (fun x_1 ix1 ha h => ?_)
  have hs1 := hs0.sAL (own_r0s x_1 ha) ix1 y2s
  refine er_gR h (fun c2 p2 _ ec2 h => ?_)
  have own_p2 : ∀ x, p2 = some x → g_al u x → z_own [69] u x := fun x q => hs1.own (by decide) (by decide) (by decide) (ec2.trans q)
  refine fr_if h (fun h => ?_) (fun h => ?_)
  · exact v_E_row_132 _ _ _ _ _ hs1 own_p2 h
  · exact v_E_row_132 _ _ _ _ _ hs1 own_p2 h
theorem v_E_row_81 {u : g_St} (x3 : Int32) (x4 : Int32) (x5 : Int32) (r6 : Option Nat) (x7 : Int32) (r0s : Option Nat) (x1s : Int32) (y2s : Int64) (s0 : g_St) {o : (Int32 ⊕ Nat) × g_St} (hs0 : z_V false [261] [69] none u s0) (own_r0s : ∀ x, r0s = some x → g_al u x → z_own [69] u x) (h : f_E_row_81 x3 x4 x5 r6 x7 r0s x1s y2s s0 = some o) : z_V false [261] [69] none u o.2 := by
  unfold f_E_row_81 at h
  refine er_sL h (fun x_1 ix1 ha h => ?_)
  have hs1 := hs0.sAL (own_r0s x_1 ha) ix1 y2s
  refine er_gR h (fun c2 p2 _ ec2 h => ?_)
  have own_p2 : ∀ x, p2 = some x → g_al u x → z_own [69] u x := fun x q => hs1.own (by decide) (by decide) (by decide) (ec2.trans q)
  refine fr_if h (fun h => ?_) (fun h => ?_)
  · exact v_E_row_106 _ _ _ _ _ _ _ _ hs1 own_p2 h
  · exact v_E_row_106 _ _ _ _ _ _ _ _ hs1 own_p2 h
theorem v_E_row {u : g_St} (r0 : Option Nat) (x1 : Int32) (x2 : Int32) (x3 : Int32) (x4 : Int32) (x5 : Int32) (s0 : g_St) {o : (Int32 ⊕ Nat) × g_St} (hs0 : z_V false [261] [69] none u s0) (h : f_E_row r0 x1 x2 x3 x4 x5 s0 = some o) : z_V false [261] [69] none u o.2 := by
  unfold f_E_row at h
  refine fr_if h (fun h => ?_) (fun h => ?_)
  · exact er_thr h hs0
  · refine er_gI h (fun i1 h => ?_)
    refine fr_if h (fun h => ?_) (fun h => ?_)
    · refine er_gR h (fun c1 p2 _ _ h => ?_)
      refine er_aR h (fun p3 h => ?_)
      refine er_gI h (fun i4 h => ?_)
      refine fr_if h (fun h => ?_) (fun h => ?_)
      · refine er_gI h (fun i5 h => ?_)
        refine er_gR h (fun c2 p6 _ ec2 h => ?_)
        have own_p6 : ∀ x, p6 = some x → g_al u x → z_own [69] u x := fun x q => hs0.own (by decide) (by decide) (by decide) (ec2.trans q)
        refine fr_if h (fun h => ?_) (fun h => ?_)
        · exact v_E_row_81 _ _ _ _ _ _ _ _ _ hs0 own_p6 h
        · exact v_E_row_81 _ _ _ _ _ _ _ _ _ hs0 own_p6 h
      · exact er_thr h hs0
    · exact er_thr h hs0
theorem v_E_clear {u : g_St} (r0 : Option Nat) (x1 : Int32) (s0 : g_St) {o : (Int32 ⊕ Nat) × g_St} (hs0 : z_V false [261] [] none u s0) (h : f_E_clear r0 x1 s0 = some o) : z_V false [261] [] none u o.2 := by
  unfold f_E_clear at h
  refine fr_if h (fun h => ?_) (fun h => ?_)
  · exact er_thr h hs0
  · refine er_gI h (fun i1 h => ?_)
    refine fr_if h (fun h => ?_) (fun h => ?_)
    · refine er_gR h (fun c1 p2 _ _ h => ?_)
      refine er_aR h (fun p3 h => ?_)
      refine er_gI h (fun i4 h => ?_)
      refine er_gR h (fun c2 p5 _ _ h => ?_)
      refine er_aR h (fun p6 h => ?_)
      refine er_pI h (fun a3 ha h => ?_)
      have hs3 := hs0.pI (k := 261) (a := a3) 0 (Or.inl (by decide))
      exact er_some h hs3
    · exact er_thr h hs0
theorem v_E_text_71 {u : g_St} (r0 : Option Nat) (x6 : Int32) (x0s : Int32) (s0 : g_St) {o : Int32 × g_St} (hs0 : z_V true [66] [2] none u s0) (h : f_E_text_71 r0 x6 x0s s0 = some o) : z_V true [66] [2] none u o.2 := by
  unfold f_E_text_71 at h
  refine fr_if h (fun h => ?_) (fun h => ?_)
  · refine er_gR h (fun c1 p1 _ _ h => ?_)
    refine er_pI h (fun a2 ha h => ?_)
    have hs2 := hs0.pI (k := 66) (a := a2) x6 (Or.inl (by decide))
    exact er_some (er_rZ h) hs2
  · exact er_some (er_rZ h) hs0
theorem v_E_text {u : g_St} (r0 : Option Nat) (x1 : Int32) (x2 : Int32) (x3 : Int32) (x4 : Int32) (x5 : Int32) (s0 : g_St) {o : Int32 × g_St} (hs0 : z_V true [66] [2] none u s0) (h : f_E_text r0 x1 x2 x3 x4 x5 s0 = some o) : z_V true [66] [2] none u o.2 := by
  unfold f_E_text at h
  refine er_gR h (fun c1 p1 _ _ h => ?_)
  refine er_gI h (fun i2 h => ?_)
  refine er_gR h (fun c2 p3 _ _ h => ?_)
  refine fr_c h (fun i4 s5 hc h => ?_)
  have hs3 := hs0.trans (by decide) ((v_Re_take _ _ _ z_V.re (er_nn hc)).mono (by decide) (by decide) (by decide) (Or.inl rfl))
  refine fr_if h (fun h => ?_) (fun h => ?_)
  · exact v_E_text_71 _ _ _ _ hs3 h
  · refine er_gR h (fun c4 p6 _ _ h => ?_)
    refine fr_c h (fun i7 s8 hc h => ?_)
    have hs5 := hs3.trans (by decide) ((v_Re_take _ _ _ z_V.re (er_nn hc)).mono (by decide) (by decide) (by decide) (Or.inl rfl))
    refine fr_if h (fun h => ?_) (fun h => ?_)
    · exact v_E_text_71 _ _ _ _ hs5 h
    · refine er_gR h (fun c6 p9 _ _ h => ?_)
      refine fr_c h (fun i10 s11 hc h => ?_)
      have hs7 := hs5.trans (by decide) ((v_Re_take _ _ _ z_V.re (er_nn hc)).mono (by decide) (by decide) (by decide) (Or.inl rfl))
      refine fr_if h (fun h => ?_) (fun h => ?_)
      · exact v_E_text_71 _ _ _ _ hs7 h
      · refine er_gR h (fun c8 p12 _ _ h => ?_)
        refine fr_c h (fun i13 s14 hc h => ?_)
        have hs9 := hs7.trans (by decide) ((v_Re_take _ _ _ z_V.re (er_nn hc)).mono (by decide) (by decide) (by decide) (Or.inl rfl))
        refine fr_if h (fun h => ?_) (fun h => ?_)
        · exact v_E_text_71 _ _ _ _ hs9 h
        · refine er_gR h (fun c10 p15 _ _ h => ?_)
          refine fr_c h (fun i16 s17 hc h => ?_)
          have hs11 := hs9.trans (by decide) ((v_Re_take _ _ _ z_V.re (er_nn hc)).mono (by decide) (by decide) (by decide) (Or.inl rfl))
          refine fr_if h (fun h => ?_) (fun h => ?_)
          · exact v_E_text_71 _ _ _ _ hs11 h
          · exact v_E_text_71 _ _ _ _ hs11 h
theorem v_E_prepare_49 {u : g_St} (r0 : Option Nat) (r1 : Option Nat) (r0s : Option Nat) (x1s : Int32) (s0 : g_St) {o : (Int32 ⊕ Nat) × g_St} (hs0 : z_V false [3, 7, 10, 12, 66, 67, 70, 71, 74, 76, 131, 134, 135, 138, 140, 195, 198, 201, 202, 264, 265, 267, 320, 322, 326, 327, 328, 329, 330, 331, 384, 386, 390, 391, 393, 394, 395, 448, 450, 454, 455, 456, 457, 459, 514, 519, 523, 578, 583, 584, 587, 648, 651, 711, 712, 775, 839, 903, 967, 1031, 1095] [6, 76, 130, 136, 194, 199, 200, 258, 262, 263, 266, 392, 520, 647] none u s0) (h : f_E_prepare_49 r0 r1 r0s x1s s0 = some o) : z_V false [3, 7, 10, 12, 66, 67, 70, 71, 74, 76, 131, 134, 135, 138, 140, 195, 198, 201, 202, 264, 265, 267, 320, 322, 326, 327, 328, 329, 330, 331, 384, 386, 390, 391, 393, 394, 395, 448, 450, 454, 455, 456, 457, 459, 514, 519, 523, 578, 583, 584, 587, 648, 651, 711, 712, 775, 839, 903, 967, 1031, 1095] [6, 76, 130, 136, 194, 199, 200, 258, 262, 263, 266, 392, 520, 647] none u o.2 := by
  unfold f_E_prepare_49 at h
  refine er_pI h (fun a1 ha h => ?_)
  have hs1 := hs0.pI (k := 384) (a := a1) x1s (Or.inl (by decide))
  refine er_gR h (fun c2 p2 _ _ h => ?_)
  refine er_pI h (fun a3 ha h => ?_)
  have hs3 := hs1.pI (k := 66) (a := a3) 0 (Or.inl (by decide))
  refine er_gI h (fun i4 h => ?_)
  refine fr_if h (fun h => ?_) (fun h => ?_)
  · refine fr_if h (fun h => ?_) (fun h => ?_)
    · exact er_thr h hs3
    · refine er_pR h (fun a4 ha h => ?_)
      have hs4 := hs3.pR (k := 320) (a := a4) r1 (Or.inl (by decide)) (by decide)
      refine er_gI h (fun i6 h => ?_)
      exact er_some h hs4
  · exact er_thr h hs3
theorem v_E_prepare {u : g_St} (r0 : Option Nat) (s0 : g_St) {o : (Int32 ⊕ Nat) × g_St} (hs0 : z_V false [3, 7, 10, 12, 66, 67, 70, 71, 74, 76, 131, 134, 135, 138, 140, 195, 198, 201, 202, 264, 265, 267, 320, 322, 326, 327, 328, 329, 330, 331, 384, 386, 390, 391, 393, 394, 395, 448, 450, 454, 455, 456, 457, 459, 514, 519, 523, 578, 583, 584, 587, 648, 651, 711, 712, 775, 839, 903, 967, 1031, 1095] [6, 76, 130, 136, 194, 199, 200, 258, 262, 263, 266, 392, 520, 647] none u s0) (h : f_E_prepare r0 s0 = some o) : z_V false [3, 7, 10, 12, 66, 67, 70, 71, 74, 76, 131, 134, 135, 138, 140, 195, 198, 201, 202, 264, 265, 267, 320, 322, 326, 327, 328, 329, 330, 331, 384, 386, 390, 391, 393, 394, 395, 448, 450, 454, 455, 456, 457, 459, 514, 519, 523, 578, 583, 584, 587, 648, 651, 711, 712, 775, 839, 903, 967, 1031, 1095] [6, 76, 130, 136, 194, 199, 200, 258, 262, 263, 266, 392, 520, 647] none u o.2 := by
  unfold f_E_prepare at h
  refine er_pR h (fun a1 ha h => ?_)
  have hs1 := hs0.pR (k := 320) (a := a1) none (Or.inl (by decide)) (by decide)
  refine er_pZ h (fun a2 ha h => ?_)
  have hs2 := hs1.pI (k := 448) (a := a2) 0 (Or.inl (by decide))
  refine er_gR h (fun c3 p3 _ _ h => ?_)
  refine fr_c h (fun p4 s5 hc h => ?_)
  have hs4 := hs2.trans (by decide) ((v_Re_read _ _ z_V.re (er_nn hc)).mono (by decide) (by decide) (by decide) (Or.inl rfl))
  refine fr_if h (fun h => ?_) (fun h => ?_)
  · refine er_gR h (fun c5 p11 _ _ h => ?_)
    refine fr_c h (fun i12 s13 hc h => ?_)
    have hs6 := hs4.trans (by decide) ((v_Re_stuckAt _ _ z_V.re (er_nn hc)).mono (by decide) (by decide) (by decide) (Or.inl rfl))
    exact v_E_prepare_49 _ _ _ _ _ hs6 h
  · refine er_gR h (fun c7 p6 _ _ h => ?_)
    refine er_gR h (fun c8 p7 _ _ h => ?_)
    refine er_gI h (fun i8 h => ?_)
    refine fr_c h (fun i9 s10 hc h => ?_)
    have hs9 := hs4.trans (by decide) ((v_Ch_find _ _ _ _ _ z_V.re (er_nn hc)).mono (by decide) (by decide) (by decide) (Or.inl rfl))
    exact v_E_prepare_49 _ _ _ _ _ hs9 h
theorem v_E_fault {u : g_St} (r0 : Option Nat) (s0 : g_St) {o : Int32 × g_St} (hs0 : z_V true [] [] none u s0) (h : f_E_fault r0 s0 = some o) : z_V true [] [] none u o.2 := by
  unfold f_E_fault at h
  refine er_gI h (fun i1 h => ?_)
  exact er_some h hs0
theorem v_E_part {u : g_St} (r0 : Option Nat) (x1 : Int32) (x2 : Int32) (s0 : g_St) {o : (Int32 ⊕ Nat) × g_St} (hs0 : z_V false [] [] none u s0) (h : f_E_part r0 x1 x2 s0 = some o) : z_V false [] [] none u o.2 := by
  unfold f_E_part at h
  refine er_gR h (fun c1 p1 _ _ h => ?_)
  refine fr_if h (fun h => ?_) (fun h => ?_)
  · exact er_thr h hs0
  · refine fr_if h (fun h => ?_) (fun h => ?_)
    · exact er_thr h hs0
    · refine er_gR h (fun c2 p2 _ _ h => ?_)
      refine er_gI h (fun i3 h => ?_)
      refine fr_if h (fun h => ?_) (fun h => ?_)
      · refine er_gR h (fun c3 p4 _ _ h => ?_)
        refine er_gR h (fun c4 p5 _ _ h => ?_)
        refine er_aR h (fun p6 h => ?_)
        refine fr_if h (fun h => ?_) (fun h => ?_)
        · refine er_gI h (fun i7 h => ?_)
          exact er_some h hs0
        · refine fr_if h (fun h => ?_) (fun h => ?_)
          · refine er_gI h (fun i8 h => ?_)
            refine fr_if h (fun h => ?_) (fun h => ?_)
            · exact er_some h hs0
            · exact er_some h hs0
          · refine fr_if h (fun h => ?_) (fun h => ?_)
            · refine er_gI h (fun i9 h => ?_)
              refine fr_if h (fun h => ?_) (fun h => ?_)
              · refine er_gI h (fun i10 h => ?_)
                exact er_some h hs0
              · refine er_gI h (fun i11 h => ?_)
                exact er_some h hs0
            · exact er_thr h hs0
      · exact er_thr h hs0
theorem v_E_run_73 {u : g_St} : ∀ (n : Nat) (r0 : Option Nat) (x3 : Int32) (s0 : g_St) {o : (Int32 ⊕ Nat) × g_St}, z_V false [261, 325, 389, 448, 452, 516, 521, 580, 585, 644, 649, 708, 713, 772, 777, 836, 900, 964, 1028, 1092] [68, 69, 132, 133, 196, 197, 260, 324, 388] none u s0 → f_E_run_73 n r0 x3 s0 = some o → z_V false [261, 325, 389, 448, 452, 516, 521, 580, 585, 644, 649, 708, 713, 772, 777, 836, 900, 964, 1028, 1092] [68, 69, 132, 133, 196, 197, 260, 324, 388] none u o.2 := by
  intro n
  induction n with
  | zero =>
    intro r0 x3 s0 o hs0  h
    rw [f_E_run_73] at h
    cases h
  | succ n ih =>
    intro r0 x3 s0 o hs0  h
    rw [f_E_run_73] at h
    refine er_gR h (fun c1 p1 _ _ h => ?_)
    refine er_gI h (fun i2 h => ?_)
    refine fr_if h (fun h => ?_) (fun h => ?_)
    · refine er_gR h (fun c2 p3 _ _ h => ?_)
      refine er_gR h (fun c3 p4 _ _ h => ?_)
      refine er_gR h (fun c4 p5 _ _ h => ?_)
      refine er_cT h (fun v5 s7 hc h => ?_) (fun e0 s00 hc h => ?_)
      · have hs5 := hs0.trans (by decide) ((v_Ru_work _ _ _ _ z_V.re (er_nn hc)).mono (by decide) (by decide) (by decide) (Or.inl rfl))
        refine er_gR h (fun c6 p8 _ _ h => ?_)
        refine fr_c h (fun v7 s10 hc h => ?_)
        have hs7 := hs5.trans (by decide) ((v_Ru_sort _ _ z_V.re (er_nn hc)).mono (by decide) (by decide) (by decide) (Or.inl rfl))
        refine er_pZ h (fun a8 ha h => ?_)
        have hs8 := hs7.pI (k := 448) (a := a8) 1 (Or.inl (by decide))
        refine er_gR h (fun c9 p12 _ _ h => ?_)
        refine er_gR h (fun c10 p13 _ _ h => ?_)
        refine er_aR h (fun p14 h => ?_)
        refine er_gI h (fun i15 h => ?_)
        exact er_some h hs8
      · have hs5 := hs0.trans (by decide) ((v_Ru_work _ _ _ _ z_V.re (er_nn hc)).mono (by decide) (by decide) (by decide) (Or.inl rfl))
        rw [h]
        exact hs5
    · refine er_gR h (fun c11 p16 _ _ h => ?_)
      refine er_cT h (fun v12 s18 hc h => ?_) (fun e0 s00 hc h => ?_)
      · have hs12 := hs0.trans (by decide) ((v_Ru_component _ _ _ z_V.re (er_nn hc)).mono (by decide) (by decide) (by decide) (Or.inl rfl))
        exact ih _ _ _ hs12 h
      · have hs12 := hs0.trans (by decide) ((v_Ru_component _ _ _ z_V.re (er_nn hc)).mono (by decide) (by decide) (by decide) (Or.inl rfl))
        rw [h]
        exact hs12
theorem v_E_run {u : g_St} (r0 : Option Nat) (x1 : Int32) (x2 : Int32) (s0 : g_St) {o : (Int32 ⊕ Nat) × g_St} (hs0 : z_V false [261, 325, 389, 448, 452, 516, 521, 580, 585, 644, 649, 708, 713, 772, 777, 836, 900, 964, 1028, 1092] [68, 69, 132, 133, 196, 197, 260, 324, 388] none u s0) (h : f_E_run r0 x1 x2 s0 = some o) : z_V false [261, 325, 389, 448, 452, 516, 521, 580, 585, 644, 649, 708, 713, 772, 777, 836, 900, 964, 1028, 1092] [68, 69, 132, 133, 196, 197, 260, 324, 388] none u o.2 := by
  unfold f_E_run at h
  refine fr_if h (fun h => ?_) (fun h => ?_)
  · exact er_thr h hs0
  · refine fr_if h (fun h => ?_) (fun h => ?_)
    · exact er_thr h hs0
    · refine fr_if h (fun h => ?_) (fun h => ?_)
      · exact er_thr h hs0
      · refine fr_if h (fun h => ?_) (fun h => ?_)
        · refine er_gR h (fun c1 p1 _ _ h => ?_)
          refine fr_if h (fun h => ?_) (fun h => ?_)
          · exact er_thr h hs0
          · refine er_pZ h (fun a2 ha h => ?_)
            have hs2 := hs0.pI (k := 448) (a := a2) 0 (Or.inl (by decide))
            refine er_gR h (fun c3 p3 _ _ h => ?_)
            refine er_gR h (fun c4 p4 _ _ h => ?_)
            refine er_gR h (fun c5 p5 _ _ h => ?_)
            refine fr_c h (fun v6 s7 hc h => ?_)
            have hs6 := hs2.trans (by decide) ((v_Ru_begin _ _ _ _ _ _ z_V.re (er_nn hc)).mono (by decide) (by decide) (by decide) (Or.inl rfl))
            exact v_E_run_73 _ _ _ _ hs6 h
        · exact er_thr h hs0
theorem v_E_cell {u : g_St} (r0 : Option Nat) (x1 : Int32) (x2 : Int32) (s0 : g_St) {o : (Int64 ⊕ Nat) × g_St} (hs0 : z_V false [] [] none u s0) (h : f_E_cell r0 x1 x2 s0 = some o) : z_V false [] [] none u o.2 := by
  unfold f_E_cell at h
  refine er_gI h (fun i1 h => ?_)
  refine fr_if h (fun h => ?_) (fun h => ?_)
  · exact er_thr h hs0
  · refine fr_if h (fun h => ?_) (fun h => ?_)
    · exact er_thr h hs0
    · refine er_gR h (fun c1 p2 _ _ h => ?_)
      refine er_gR h (fun c2 p3 _ _ h => ?_)
      refine er_aR h (fun p4 h => ?_)
      refine er_gI h (fun i5 h => ?_)
      refine fr_if h (fun h => ?_) (fun h => ?_)
      · exact er_thr h hs0
      · refine fr_if h (fun h => ?_) (fun h => ?_)
        · exact er_thr h hs0
        · refine er_gR h (fun c3 p6 _ _ h => ?_)
          refine er_gR h (fun c4 p7 _ _ h => ?_)
          refine er_gI h (fun i8 h => ?_)
          refine fr_if h (fun h => ?_) (fun h => ?_)
          · refine er_gR h (fun c5 p9 _ _ h => ?_)
            refine er_gR h (fun c6 p10 _ _ h => ?_)
            refine er_aR h (fun p11 h => ?_)
            refine er_gR h (fun c7 p12 _ _ h => ?_)
            refine er_gR h (fun c8 p13 _ _ h => ?_)
            refine er_gR h (fun c9 p14 _ _ h => ?_)
            refine er_aI h (fun i15 h => ?_)
            refine er_aL h (fun j16 h => ?_)
            exact er_some h hs0
          · exact er_thr h hs0
theorem v_E_size {u : g_St} (r0 : Option Nat) (x1 : Int32) (s0 : g_St) {o : (Int32 ⊕ Nat) × g_St} (hs0 : z_V false [] [] none u s0) (h : f_E_size r0 x1 s0 = some o) : z_V false [] [] none u o.2 := by
  unfold f_E_size at h
  refine er_gI h (fun i1 h => ?_)
  refine fr_if h (fun h => ?_) (fun h => ?_)
  · exact er_thr h hs0
  · refine fr_if h (fun h => ?_) (fun h => ?_)
    · exact er_thr h hs0
    · refine er_gR h (fun c1 p2 _ _ h => ?_)
      refine er_gI h (fun i3 h => ?_)
      refine fr_if h (fun h => ?_) (fun h => ?_)
      · refine er_gR h (fun c2 p4 _ _ h => ?_)
        refine er_gR h (fun c3 p5 _ _ h => ?_)
        refine er_aR h (fun p6 h => ?_)
        refine er_gI h (fun i7 h => ?_)
        exact er_some h hs0
      · exact er_thr h hs0
theorem v_E_rounds {u : g_St} (r0 : Option Nat) (x1 : Int32) (x2 : Int32) (s0 : g_St) {o : (Int32 ⊕ Nat) × g_St} (hs0 : z_V false [] [] none u s0) (h : f_E_rounds r0 x1 x2 s0 = some o) : z_V false [] [] none u o.2 := by
  unfold f_E_rounds at h
  refine er_gI h (fun i1 h => ?_)
  refine fr_if h (fun h => ?_) (fun h => ?_)
  · exact er_thr h hs0
  · refine fr_if h (fun h => ?_) (fun h => ?_)
    · exact er_thr h hs0
    · refine er_gR h (fun c1 p2 _ _ h => ?_)
      refine er_gI h (fun i3 h => ?_)
      refine fr_if h (fun h => ?_) (fun h => ?_)
      · exact er_thr h hs0
      · refine fr_if h (fun h => ?_) (fun h => ?_)
        · exact er_thr h hs0
        · refine er_gR h (fun c2 p4 _ _ h => ?_)
          refine er_gR h (fun c3 p5 _ _ h => ?_)
          refine er_aI h (fun i6 h => ?_)
          refine fr_if h (fun h => ?_) (fun h => ?_)
          · refine er_gR h (fun c4 p7 _ _ h => ?_)
            refine er_gR h (fun c5 p8 _ _ h => ?_)
            refine er_aI h (fun i9 h => ?_)
            exact er_some h hs0
          · exact er_thr h hs0
