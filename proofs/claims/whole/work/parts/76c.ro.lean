/-! what changes nothing -/
theorem ro_Str_checkIndex (x y : Int32) (s0 : g_St) {o : Unit × g_St} (h : f_Str_checkIndex x y s0 = some o) : o.2 = s0 := by
  unfold f_Str_checkIndex at h
  split at h
  · cases h
  · split at h
    · cases h
      rfl
    · cases h
theorem ro_In_bitCount (x0 : Int32) (s0 : g_St) {o : Int32 × g_St} (h : f_In_bitCount x0 s0 = some o) : o.2 = s0 := by
  unfold f_In_bitCount at h
  cases h
  rfl
theorem ro_In_compare (x0 : Int32) (x1 : Int32) (s0 : g_St) {o : Int32 × g_St} (h : f_In_compare x0 x1 s0 = some o) : o.2 = s0 := by
  unfold f_In_compare at h
  refine fr_if h (fun h => ?_) (fun h => ?_)
  · refine fr_if h (fun h => ?_) (fun h => ?_)
    · cases h
      rfl
    · cases h
      rfl
  · cases h
    rfl
theorem ro_Lo_compare (y0 : Int64) (y2 : Int64) (s0 : g_St) {o : Int32 × g_St} (h : f_Lo_compare y0 y2 s0 = some o) : o.2 = s0 := by
  unfold f_Lo_compare at h
  refine fr_if h (fun h => ?_) (fun h => ?_)
  · refine fr_if h (fun h => ?_) (fun h => ?_)
    · cases h
      rfl
    · cases h
      rfl
  · cases h
    rfl
theorem ro_As_hugeLength (x0 : Int32) (x1 : Int32) (s0 : g_St) {o : Int32 × g_St} (h : f_As_hugeLength x0 x1 s0 = some o) : o.2 = s0 := by
  unfold f_As_hugeLength at h
  refine fr_if h (fun h => ?_) (fun h => ?_)
  · refine fr_if h (fun h => ?_) (fun h => ?_)
    · cases h
      rfl
    · cases h
      rfl
  · cases h
theorem ro_As_newLength_21 (x0 : Int32) (x1 : Int32) (s0 : g_St) {o : Int32 × g_St} (h : f_As_newLength_21 x0 x1 s0 = some o) : o.2 = s0 := by
  unfold f_As_newLength_21 at h
  refine fr_c h (fun i1 s2 hc h => ?_)
  have e1 : s2 = s0 := ro_As_hugeLength _ _ _ hc
  rw [e1] at h
  cases h
  rfl
theorem ro_As_newLength (x0 : Int32) (x1 : Int32) (x2 : Int32) (s0 : g_St) {o : Int32 × g_St} (h : f_As_newLength x0 x1 x2 s0 = some o) : o.2 = s0 := by
  unfold f_As_newLength at h
  refine fr_if h (fun h => ?_) (fun h => ?_)
  · exact ro_As_newLength_21 _ _ _ h
  · refine fr_if h (fun h => ?_) (fun h => ?_)
    · exact ro_As_newLength_21 _ _ _ h
    · cases h
      rfl
theorem ro_Pre_checkIndex_9 (x0 : Int32) (x1 : Int32) (r2 : Option Nat) (s0 : g_St) {o : Int32 × g_St} (h : f_Pre_checkIndex_9 x0 x1 r2 s0 = some o) : o.2 = s0 := by
  unfold f_Pre_checkIndex_9 at h
  cases h
theorem ro_Pre_checkIndex (x0 : Int32) (x1 : Int32) (r2 : Option Nat) (s0 : g_St) {o : Int32 × g_St} (h : f_Pre_checkIndex x0 x1 r2 s0 = some o) : o.2 = s0 := by
  unfold f_Pre_checkIndex at h
  refine fr_if h (fun h => ?_) (fun h => ?_)
  · exact ro_Pre_checkIndex_9 _ _ _ _ h
  · refine fr_if h (fun h => ?_) (fun h => ?_)
    · cases h
      rfl
    · exact ro_Pre_checkIndex_9 _ _ _ _ h
theorem ro_Ob_checkIndex (x0 : Int32) (x1 : Int32) (s0 : g_St) {o : Int32 × g_St} (h : f_Ob_checkIndex x0 x1 s0 = some o) : o.2 = s0 := by
  unfold f_Ob_checkIndex at h
  refine fr_c h (fun i1 s2 hc h => ?_)
  have e1 : s2 = s0 := ro_Pre_checkIndex _ _ _ _ hc
  rw [e1] at h
  cases h
  rfl
theorem ro_Al_size (r0 : Option Nat) (s0 : g_St) {o : Int32 × g_St} (h : f_Al_size r0 s0 = some o) : o.2 = s0 := by
  unfold f_Al_size at h
  refine er_gI h (fun i1 h => ?_)
  cases h
  rfl
theorem ro_Al_elementData (r0 : Option Nat) (x1 : Int32) (s0 : g_St) {o : Option Nat × g_St} (h : f_Al_elementData r0 x1 s0 = some o) : o.2 = s0 := by
  unfold f_Al_elementData at h
  refine er_gR h (fun _ p1 _ _ h => ?_)
  refine er_aO h (fun p2 h => ?_)
  cases h
  rfl
theorem ro_Al_get (r0 : Option Nat) (x1 : Int32) (s0 : g_St) {o : Option Nat × g_St} (h : f_Al_get r0 x1 s0 = some o) : o.2 = s0 := by
  unfold f_Al_get at h
  refine er_gI h (fun i1 h => ?_)
  refine fr_c h (fun i2 s3 hc h => ?_)
  have e1 : s3 = s0 := ro_Ob_checkIndex _ _ _ hc
  rw [e1] at h
  refine fr_c h (fun p4 s5 hc h => ?_)
  have e2 : s5 = s0 := ro_Al_elementData _ _ _ (er_nn hc)
  rw [e2] at h
  cases h
  rfl
theorem ro_En_ordinal (r0 : Option Nat) (s0 : g_St) {o : Int32 × g_St} (h : f_En_ordinal r0 s0 = some o) : o.2 = s0 := by
  unfold f_En_ordinal at h
  refine er_sfI h (fun i1 h => ?_)
  cases h
  rfl
theorem ro_Sl_charAt (r0 : Option Nat) (x1 : Int32) (s0 : g_St) {o : Int32 × g_St} (h : f_Sl_charAt r0 x1 s0 = some o) : o.2 = s0 := by
  unfold f_Sl_charAt at h
  refine er_bln h (fun i1 h => ?_)
  refine fr_c h (fun v1 s3 hc h => ?_)
  have e1 : s3 = s0 := ro_Str_checkIndex _ _ _ hc
  rw [e1] at h
  refine er_bla h (fun i4 h => ?_)
  replace h := er_rC h
  cases h
  rfl
theorem ro_Str_coder (r0 : Option Nat) (s0 : g_St) {o : Int32 × g_St} (h : f_Str_coder r0 s0 = some o) : o.2 = s0 := by
  unfold f_Str_coder at h
  refine fr_if h (fun h => ?_) (fun h => ?_)
  · replace h := er_rB h
    cases h
    rfl
  · refine er_tI h (fun i1 h => ?_)
    replace h := er_rB h
    cases h
    rfl
theorem ro_Str_length (r0 : Option Nat) (s0 : g_St) {o : Int32 × g_St} (h : f_Str_length r0 s0 = some o) : o.2 = s0 := by
  unfold f_Str_length at h
  refine er_tR h (fun p1 h => ?_)
  refine er_bln h (fun i2 h => ?_)
  refine fr_c h (fun i3 s4 hc h => ?_)
  have e1 : s4 = s0 := ro_Str_coder _ _ (er_str hc)
  rw [e1] at h
  cases h
  rfl
theorem ro_Str_isLatin1 (r0 : Option Nat) (s0 : g_St) {o : Int32 × g_St} (h : f_Str_isLatin1 r0 s0 = some o) : o.2 = s0 := by
  unfold f_Str_isLatin1 at h
  refine fr_if h (fun h => ?_) (fun h => ?_)
  · replace h := er_rZ h
    cases h
    rfl
  · refine er_tI h (fun i1 h => ?_)
    refine fr_if h (fun h => ?_) (fun h => ?_)
    · replace h := er_rZ h
      cases h
      rfl
    · replace h := er_rZ h
      cases h
      rfl
theorem ro_Str_charAt (r0 : Option Nat) (x1 : Int32) (s0 : g_St) {o : Int32 × g_St} (h : f_Str_charAt r0 x1 s0 = some o) : o.2 = s0 := by
  unfold f_Str_charAt at h
  refine fr_c h (fun i1 s2 hc h => ?_)
  have e1 : s2 = s0 := ro_Str_isLatin1 _ _ (er_str hc)
  rw [e1] at h
  refine fr_if h (fun h => ?_) (fun h => ?_)
  · refine er_tR h (fun p3 h => ?_)
    cases h
  · refine er_tR h (fun p4 h => ?_)
    refine fr_c h (fun i5 s6 hc h => ?_)
    have e2 : s6 = s0 := ro_Sl_charAt _ _ _ hc
    rw [e2] at h
    replace h := er_rC h
    cases h
    rfl
theorem ro_Rl_isSame_136 : ∀ (n : Nat) (r0 : Option Nat) (x2 : Int32) (x3 : Int32) (x4 : Int32) (x5 : Int32) (x6 : Int32) (x7 : Int32) (s0 : g_St) {o : Int32 × g_St}, f_Rl_isSame_136 n r0 x2 x3 x4 x5 x6 x7 s0 = some o → o.2 = s0 := by
  intro n
  induction n with
  | zero =>
    intro r0 x2 x3 x4 x5 x6 x7 s0 o h
    rw [f_Rl_isSame_136] at h
    cases h
  | succ n ih =>
    intro r0 x2 x3 x4 x5 x6 x7 s0 o h
    rw [f_Rl_isSame_136] at h
    refine er_gR h (fun _ p1 _ _ h => ?_)
    refine er_aI h (fun i2 h => ?_)
    refine fr_if h (fun h => ?_) (fun h => ?_)
    · replace h := er_rZ h
      cases h
      rfl
    · refine fr_if h (fun h => ?_) (fun h => ?_)
      · replace h := er_rZ h
        cases h
        rfl
      · refine fr_if h (fun h => ?_) (fun h => ?_)
        · replace h := er_rZ h
          cases h
          rfl
        · refine fr_if h (fun h => ?_) (fun h => ?_)
          · replace h := er_rZ h
            cases h
            rfl
          · refine er_gR h (fun _ p3 _ _ h => ?_)
            refine er_aL h (fun j4 h => ?_)
            refine er_gR h (fun _ p5 _ _ h => ?_)
            refine er_aL h (fun j6 h => ?_)
            refine fr_if h (fun h => ?_) (fun h => ?_)
            · refine er_gR h (fun _ p7 _ _ h => ?_)
              refine er_aL h (fun j8 h => ?_)
              refine er_gR h (fun _ p9 _ _ h => ?_)
              refine er_aL h (fun j10 h => ?_)
              refine fr_if h (fun h => ?_) (fun h => ?_)
              · refine er_gR h (fun _ p11 _ _ h => ?_)
                refine er_aI h (fun i12 h => ?_)
                refine er_gR h (fun _ p13 _ _ h => ?_)
                refine er_aI h (fun i14 h => ?_)
                exact ih _ _ _ _ _ _ _ _ h
              · replace h := er_rZ h
                cases h
                rfl
            · replace h := er_rZ h
              cases h
              rfl
theorem ro_Rl_isSame_106 (r0 : Option Nat) (r1 : Option Nat) (x2 : Int32) (x0s : Int32) (s0 : g_St) {o : Int32 × g_St} (h : f_Rl_isSame_106 r0 r1 x2 x0s s0 = some o) : o.2 = s0 := by
  unfold f_Rl_isSame_106 at h
  refine er_gI h (fun i1 h => ?_)
  refine fr_if h (fun h => ?_) (fun h => ?_)
  · refine er_gI h (fun i2 h => ?_)
    refine er_gI h (fun i3 h => ?_)
    exact ro_Rl_isSame_136 _ _ _ _ _ _ _ _ _ h
  · refine er_gI h (fun i4 h => ?_)
    exact ro_Rl_isSame_136 _ _ _ _ _ _ _ _ _ h
theorem ro_Rl_isSame_61 (r0 : Option Nat) (r1 : Option Nat) (x2 : Int32) (s0 : g_St) {o : Int32 × g_St} (h : f_Rl_isSame_61 r0 r1 x2 s0 = some o) : o.2 = s0 := by
  unfold f_Rl_isSame_61 at h
  refine er_gR h (fun _ p1 _ _ h => ?_)
  refine er_aI h (fun i2 h => ?_)
  refine er_gR h (fun _ p3 _ _ h => ?_)
  refine er_gI h (fun i4 h => ?_)
  refine er_aI h (fun i5 h => ?_)
  refine fr_if h (fun h => ?_) (fun h => ?_)
  · refine er_gI h (fun i6 h => ?_)
    refine fr_if h (fun h => ?_) (fun h => ?_)
    · refine er_gI h (fun i8 h => ?_)
      refine fr_if h (fun h => ?_) (fun h => ?_)
      · refine er_gI h (fun i9 h => ?_)
        exact ro_Rl_isSame_106 _ _ _ _ _ h
      · refine er_gI h (fun i10 h => ?_)
        exact ro_Rl_isSame_106 _ _ _ _ _ h
    · refine er_gI h (fun i7 h => ?_)
      exact ro_Rl_isSame_106 _ _ _ _ _ h
  · replace h := er_rZ h
    cases h
    rfl
theorem ro_Rl_isSame_2 : ∀ (n : Nat) (r0 : Option Nat) (r1 : Option Nat) (x2 : Int32) (x3 : Int32) (s0 : g_St) {o : Int32 × g_St}, f_Rl_isSame_2 n r0 r1 x2 x3 s0 = some o → o.2 = s0 := by
  intro n
  induction n with
  | zero =>
    intro r0 r1 x2 x3 s0 o h
    rw [f_Rl_isSame_2] at h
    cases h
  | succ n ih =>
    intro r0 r1 x2 x3 s0 o h
    rw [f_Rl_isSame_2] at h
    refine er_gI h (fun i1 h => ?_)
    refine fr_if h (fun h => ?_) (fun h => ?_)
    · refine er_gI h (fun i2 h => ?_)
      refine fr_if h (fun h => ?_) (fun h => ?_)
      · refine er_gI h (fun i3 h => ?_)
        refine fr_if h (fun h => ?_) (fun h => ?_)
        · replace h := er_rZ h
          cases h
          rfl
        · exact ro_Rl_isSame_61 _ _ _ _ h
      · exact ro_Rl_isSame_61 _ _ _ _ h
    · refine er_gR h (fun _ p4 _ _ h => ?_)
      refine er_aL h (fun j5 h => ?_)
      refine er_gR h (fun _ p6 _ _ h => ?_)
      refine er_gI h (fun i7 h => ?_)
      refine er_aL h (fun j8 h => ?_)
      refine fr_if h (fun h => ?_) (fun h => ?_)
      · exact ih _ _ _ _ _ h
      · replace h := er_rZ h
        cases h
        rfl
theorem ro_Rl_isSame (r0 : Option Nat) (r1 : Option Nat) (x2 : Int32) (s0 : g_St) {o : Int32 × g_St} (h : f_Rl_isSame r0 r1 x2 s0 = some o) : o.2 = s0 := by
  unfold f_Rl_isSame at h
  exact ro_Rl_isSame_2 _ _ _ _ _ _ h
theorem ro_Rl_hasEqual_2 : ∀ (n : Nat) (r0 : Option Nat) (r1 : Option Nat) (x2 : Int32) (s0 : g_St) {o : Int32 × g_St}, f_Rl_hasEqual_2 n r0 r1 x2 s0 = some o → o.2 = s0 := by
  intro n
  induction n with
  | zero =>
    intro r0 r1 x2 s0 o h
    rw [f_Rl_hasEqual_2] at h
    cases h
  | succ n ih =>
    intro r0 r1 x2 s0 o h
    rw [f_Rl_hasEqual_2] at h
    refine er_gI h (fun i1 h => ?_)
    refine fr_if h (fun h => ?_) (fun h => ?_)
    · replace h := er_rZ h
      cases h
      rfl
    · refine fr_c h (fun i2 s3 hc h => ?_)
      have e1 : s3 = s0 := ro_Rl_isSame _ _ _ _ (er_nn hc)
      rw [e1] at h
      refine fr_if h (fun h => ?_) (fun h => ?_)
      · exact ih _ _ _ _ h
      · replace h := er_rZ h
        cases h
        rfl
theorem ro_Rl_hasEqual (r0 : Option Nat) (r1 : Option Nat) (s0 : g_St) {o : Int32 × g_St} (h : f_Rl_hasEqual r0 r1 s0 = some o) : o.2 = s0 := by
  unfold f_Rl_hasEqual at h
  exact ro_Rl_hasEqual_2 _ _ _ _ _ h
theorem ro_Rl_compareCells_30 (y0s : Int64) (y1s : Int64) (s0 : g_St) {o : Int32 × g_St} (h : f_Rl_compareCells_30 y0s y1s s0 = some o) : o.2 = s0 := by
  unfold f_Rl_compareCells_30 at h
  refine fr_c h (fun i1 s2 hc h => ?_)
  have e1 : s2 = s0 := ro_Lo_compare _ _ _ hc
  rw [e1] at h
  cases h
  rfl
theorem ro_Rl_compareCells_15 (y2 : Int64) (y0s : Int64) (s0 : g_St) {o : Int32 × g_St} (h : f_Rl_compareCells_15 y2 y0s s0 = some o) : o.2 = s0 := by
  unfold f_Rl_compareCells_15 at h
  refine fr_if h (fun h => ?_) (fun h => ?_)
  · exact ro_Rl_compareCells_30 _ _ _ h
  · exact ro_Rl_compareCells_30 _ _ _ h
theorem ro_Rl_compareCells (y0 : Int64) (y2 : Int64) (s0 : g_St) {o : Int32 × g_St} (h : f_Rl_compareCells y0 y2 s0 = some o) : o.2 = s0 := by
  unfold f_Rl_compareCells at h
  refine fr_if h (fun h => ?_) (fun h => ?_)
  · exact ro_Rl_compareCells_15 _ _ _ h
  · exact ro_Rl_compareCells_15 _ _ _ h
theorem ro_Rl_compareTrails_216 {k89 : Option Nat → Int32 → Int32 → Int32 → Int32 → Int32 → g_St → Option (Int32 × g_St)} (hk89 : ∀ (y0 : Option Nat) (y1 : Int32) (y2 : Int32) (y3 : Int32) (y4 : Int32) (y5 : Int32) (s : g_St) {o : Int32 × g_St}, k89 y0 y1 y2 y3 y4 y5 s = some o → o.2 = s) (r0 : Option Nat) (x4 : Int32) (x5 : Int32) (x7 : Int32) (x8 : Int32) (x10 : Int32) (x0s : Int32) (s0 : g_St) {o : Int32 × g_St} (h : f_Rl_compareTrails_216 k89 r0 x4 x5 x7 x8 x10 x0s s0 = some o) : o.2 = s0 := by
  unfold f_Rl_compareTrails_216 at h
  refine fr_if h (fun h => ?_) (fun h => ?_)
  · exact hk89 _ _ _ _ _ _ _ h
  · refine er_gR h (fun _ p1 _ _ h => ?_)
    refine er_aI h (fun i2 h => ?_)
    exact hk89 _ _ _ _ _ _ _ h
theorem ro_Rl_compareTrails_197 {k89 : Option Nat → Int32 → Int32 → Int32 → Int32 → Int32 → g_St → Option (Int32 × g_St)} (hk89 : ∀ (y0 : Option Nat) (y1 : Int32) (y2 : Int32) (y3 : Int32) (y4 : Int32) (y5 : Int32) (s : g_St) {o : Int32 × g_St}, k89 y0 y1 y2 y3 y4 y5 s = some o → o.2 = s) (r0 : Option Nat) (x4 : Int32) (x6 : Int32) (x7 : Int32) (x8 : Int32) (x9 : Int32) (x10 : Int32) (x0s : Int32) (s0 : g_St) {o : Int32 × g_St} (h : f_Rl_compareTrails_197 k89 r0 x4 x6 x7 x8 x9 x10 x0s s0 = some o) : o.2 = s0 := by
  unfold f_Rl_compareTrails_197 at h
  refine fr_if h (fun h => ?_) (fun h => ?_)
  · exact ro_Rl_compareTrails_216 hk89 _ _ _ _ _ _ _ _ h
  · refine er_gR h (fun _ p1 _ _ h => ?_)
    refine er_aI h (fun i2 h => ?_)
    exact ro_Rl_compareTrails_216 hk89 _ _ _ _ _ _ _ _ h
theorem ro_Rl_compareTrails_183 {k89 : Option Nat → Int32 → Int32 → Int32 → Int32 → Int32 → g_St → Option (Int32 × g_St)} (hk89 : ∀ (y0 : Option Nat) (y1 : Int32) (y2 : Int32) (y3 : Int32) (y4 : Int32) (y5 : Int32) (s : g_St) {o : Int32 × g_St}, k89 y0 y1 y2 y3 y4 y5 s = some o → o.2 = s) (r0 : Option Nat) (x4 : Int32) (x5 : Int32) (x6 : Int32) (x7 : Int32) (x8 : Int32) (x9 : Int32) (x10 : Int32) (x0s : Int32) (s0 : g_St) {o : Int32 × g_St} (h : f_Rl_compareTrails_183 k89 r0 x4 x5 x6 x7 x8 x9 x10 x0s s0 = some o) : o.2 = s0 := by
  unfold f_Rl_compareTrails_183 at h
  refine fr_if h (fun h => ?_) (fun h => ?_)
  · exact ro_Rl_compareTrails_197 hk89 _ _ _ _ _ _ _ _ _ h
  · exact ro_Rl_compareTrails_197 hk89 _ _ _ _ _ _ _ _ _ h
theorem ro_Rl_compareTrails_140 {k89 : Option Nat → Int32 → Int32 → Int32 → Int32 → Int32 → g_St → Option (Int32 × g_St)} (hk89 : ∀ (y0 : Option Nat) (y1 : Int32) (y2 : Int32) (y3 : Int32) (y4 : Int32) (y5 : Int32) (s : g_St) {o : Int32 × g_St}, k89 y0 y1 y2 y3 y4 y5 s = some o → o.2 = s) (r0 : Option Nat) (x4 : Int32) (x5 : Int32) (x6 : Int32) (x7 : Int32) (x8 : Int32) (x9 : Int32) (x0s : Int32) (s0 : g_St) {o : Int32 × g_St} (h : f_Rl_compareTrails_140 k89 r0 x4 x5 x6 x7 x8 x9 x0s s0 = some o) : o.2 = s0 := by
  unfold f_Rl_compareTrails_140 at h
  refine fr_if h (fun h => ?_) (fun h => ?_)
  · exact ro_Rl_compareTrails_183 hk89 _ _ _ _ _ _ _ _ _ _ h
  · refine fr_if h (fun h => ?_) (fun h => ?_)
    · exact ro_Rl_compareTrails_183 hk89 _ _ _ _ _ _ _ _ _ _ h
    · refine er_gR h (fun _ p1 _ _ h => ?_)
      refine er_aL h (fun j2 h => ?_)
      refine er_gR h (fun _ p3 _ _ h => ?_)
      refine er_aL h (fun j4 h => ?_)
      refine fr_c h (fun i5 s6 hc h => ?_)
      have e1 : s6 = s0 := ro_Rl_compareCells _ _ _ hc
      rw [e1] at h
      exact ro_Rl_compareTrails_183 hk89 _ _ _ _ _ _ _ _ _ _ h
theorem ro_Rl_compareTrails_121 {k89 : Option Nat → Int32 → Int32 → Int32 → Int32 → Int32 → g_St → Option (Int32 × g_St)} (hk89 : ∀ (y0 : Option Nat) (y1 : Int32) (y2 : Int32) (y3 : Int32) (y4 : Int32) (y5 : Int32) (s : g_St) {o : Int32 × g_St}, k89 y0 y1 y2 y3 y4 y5 s = some o → o.2 = s) (r0 : Option Nat) (x4 : Int32) (x5 : Int32) (x6 : Int32) (x7 : Int32) (x8 : Int32) (x0s : Int32) (s0 : g_St) {o : Int32 × g_St} (h : f_Rl_compareTrails_121 k89 r0 x4 x5 x6 x7 x8 x0s s0 = some o) : o.2 = s0 := by
  unfold f_Rl_compareTrails_121 at h
  refine er_gR h (fun _ p1 _ _ h => ?_)
  refine er_aI h (fun i2 h => ?_)
  refine fr_if h (fun h => ?_) (fun h => ?_)
  · exact ro_Rl_compareTrails_140 hk89 _ _ _ _ _ _ _ _ _ h
  · exact ro_Rl_compareTrails_140 hk89 _ _ _ _ _ _ _ _ _ h
theorem ro_Rl_compareTrails_89 : ∀ (n : Nat) (r0 : Option Nat) (x4 : Int32) (x5 : Int32) (x6 : Int32) (x7 : Int32) (x8 : Int32) (s0 : g_St) {o : Int32 × g_St}, f_Rl_compareTrails_89 n r0 x4 x5 x6 x7 x8 s0 = some o → o.2 = s0 := by
  intro n
  induction n with
  | zero =>
    intro r0 x4 x5 x6 x7 x8 s0 o h
    rw [f_Rl_compareTrails_89] at h
    cases h
  | succ n ih =>
    intro r0 x4 x5 x6 x7 x8 s0 o h
    rw [f_Rl_compareTrails_89] at h
    refine fr_if h (fun h => ?_) (fun h => ?_)
    · cases h
      rfl
    · refine fr_if h (fun h => ?_) (fun h => ?_)
      · cases h
        rfl
      · refine fr_if h (fun h => ?_) (fun h => ?_)
        · cases h
          rfl
        · refine er_gR h (fun _ p1 _ _ h => ?_)
          refine er_aI h (fun i2 h => ?_)
          refine fr_if h (fun h => ?_) (fun h => ?_)
          · exact ro_Rl_compareTrails_121 (fun _ _ _ _ _ _ _ {_} h => ih _ _ _ _ _ _ _ h) _ _ _ _ _ _ _ _ h
          · exact ro_Rl_compareTrails_121 (fun _ _ _ _ _ _ _ {_} h => ih _ _ _ _ _ _ _ h) _ _ _ _ _ _ _ _ h
theorem ro_Rl_compareTrails (r0 : Option Nat) (r1 : Option Nat) (x2 : Int32) (x3 : Int32) (s0 : g_St) {o : Int32 × g_St} (h : f_Rl_compareTrails r0 r1 x2 x3 s0 = some o) : o.2 = s0 := by
  unfold f_Rl_compareTrails at h
  refine er_gI h (fun i1 h => ?_)
  refine er_gR h (fun _ p2 _ _ h => ?_)
  refine er_aI h (fun i3 h => ?_)
  refine er_gR h (fun _ p4 _ _ h => ?_)
  refine er_aI h (fun i5 h => ?_)
  refine fr_c h (fun i6 s7 hc h => ?_)
  have e1 : s7 = s0 := ro_In_compare _ _ _ hc
  rw [e1] at h
  refine er_gI h (fun i8 h => ?_)
  refine fr_if h (fun h => ?_) (fun h => ?_)
  · refine er_gR h (fun _ p9 _ _ h => ?_)
    refine er_aI h (fun i10 h => ?_)
    refine er_gR h (fun _ p11 _ _ h => ?_)
    refine er_aI h (fun i12 h => ?_)
    exact ro_Rl_compareTrails_89 _ _ _ _ _ _ _ _ h
  · refine fr_if h (fun h => ?_) (fun h => ?_)
    · refine er_gR h (fun _ p13 _ _ h => ?_)
      refine er_aL h (fun j14 h => ?_)
      refine er_gR h (fun _ p15 _ _ h => ?_)
      refine er_aL h (fun j16 h => ?_)
      refine fr_c h (fun i17 s18 hc h => ?_)
      have e2 : s18 = s0 := ro_Rl_compareCells _ _ _ hc
      rw [e2] at h
      cases h
      rfl
    · cases h
      rfl
theorem ro_So_isInner (r0 : Option Nat) (s0 : g_St) {o : Int32 × g_St} (h : f_So_isInner r0 s0 = some o) : o.2 = s0 := by
  unfold f_So_isInner at h
  refine er_gI h (fun i1 h => ?_)
  refine fr_if h (fun h => ?_) (fun h => ?_)
  · replace h := er_rZ h
    cases h
    rfl
  · replace h := er_rZ h
    cases h
    rfl
theorem ro_So_passesOver (r0 : Option Nat) (x1 : Int32) (s0 : g_St) {o : Int32 × g_St} (h : f_So_passesOver r0 x1 s0 = some o) : o.2 = s0 := by
  unfold f_So_passesOver at h
  refine er_gI h (fun i1 h => ?_)
  refine fr_if h (fun h => ?_) (fun h => ?_)
  · replace h := er_rZ h
    cases h
    rfl
  · refine er_gR h (fun _ p2 _ _ h => ?_)
    refine er_gR h (fun _ p3 _ _ h => ?_)
    refine er_aL h (fun j4 h => ?_)
    refine fr_if h (fun h => ?_) (fun h => ?_)
    · replace h := er_rZ h
      cases h
      rfl
    · replace h := er_rZ h
      cases h
      rfl
theorem ro_Pa_columnNamedAt_2 : ∀ (n : Nat) (r0 : Option Nat) (x1 : Int32) (x2 : Int32) (s0 : g_St) {o : Int32 × g_St}, f_Pa_columnNamedAt_2 n r0 x1 x2 s0 = some o → o.2 = s0 := by
  intro n
  induction n with
  | zero =>
    intro r0 x1 x2 s0 o h
    rw [f_Pa_columnNamedAt_2] at h
    cases h
  | succ n ih =>
    intro r0 x1 x2 s0 o h
    rw [f_Pa_columnNamedAt_2] at h
    refine er_gI h (fun i1 h => ?_)
    refine fr_if h (fun h => ?_) (fun h => ?_)
    · cases h
      rfl
    · refine er_gR h (fun _ p2 _ _ h => ?_)
      refine er_aL h (fun j3 h => ?_)
      refine er_gR h (fun _ p4 _ _ h => ?_)
      refine er_aL h (fun j5 h => ?_)
      refine fr_if h (fun h => ?_) (fun h => ?_)
      · cases h
        rfl
      · exact ih _ _ _ _ h
theorem ro_Pa_columnNamedAt (r0 : Option Nat) (x1 : Int32) (s0 : g_St) {o : Int32 × g_St} (h : f_Pa_columnNamedAt r0 x1 s0 = some o) : o.2 = s0 := by
  unfold f_Pa_columnNamedAt at h
  exact ro_Pa_columnNamedAt_2 _ _ _ _ _ h
theorem ro_Te_value_47 {k4 : Int64 → Option Nat → g_St → Option (Int64 × g_St)} (hk4 : ∀ (y0 : Int64) (y1 : Option Nat) (s : g_St) {o : Int64 × g_St}, k4 y0 y1 s = some o → o.2 = s) (y1 : Int64) (r3 : Option Nat) (y0s : Int64) (s0 : g_St) {o : Int64 × g_St} (h : f_Te_value_47 k4 y1 r3 y0s s0 = some o) : o.2 = s0 := by
  unfold f_Te_value_47 at h
  refine fr_if h (fun h => ?_) (fun h => ?_)
  · cases h
    rfl
  · refine er_gI h (fun i1 h => ?_)
    refine fr_if h (fun h => ?_) (fun h => ?_)
    · refine er_gR h (fun _ p2 _ _ h => ?_)
      exact hk4 _ _ _ h
    · refine er_gR h (fun _ p3 _ _ h => ?_)
      exact hk4 _ _ _ h
theorem ro_Te_value_4 : ∀ (n : Nat) (y1 : Int64) (r3 : Option Nat) (s0 : g_St) {o : Int64 × g_St}, f_Te_value_4 n y1 r3 s0 = some o → o.2 = s0 := by
  intro n
  induction n with
  | zero =>
    intro y1 r3 s0 o h
    rw [f_Te_value_4] at h
    cases h
  | succ n ih =>
    intro y1 r3 s0 o h
    rw [f_Te_value_4] at h
    refine fr_if h (fun h => ?_) (fun h => ?_)
    · cases h
      rfl
    · refine er_gR h (fun _ p1 _ _ h => ?_)
      refine fr_if h (fun h => ?_) (fun h => ?_)
      · refine er_gL h (fun j9 h => ?_)
        exact ro_Te_value_47 (fun _ _ _ {_} h => ih _ _ _ h) _ _ _ _ h
      · refine er_gR h (fun _ p2 _ _ h => ?_)
        refine er_gR h (fun _ p3 _ _ h => ?_)
        refine er_gR h (fun _ p4 _ _ h => ?_)
        refine er_gR h (fun _ p5 _ _ h => ?_)
        refine er_gI h (fun i6 h => ?_)
        refine er_gI h (fun i7 h => ?_)
        refine er_aL h (fun j8 h => ?_)
        exact ro_Te_value_47 (fun _ _ _ {_} h => ih _ _ _ h) _ _ _ _ h
theorem ro_Te_value (r0 : Option Nat) (s0 : g_St) {o : Int64 × g_St} (h : f_Te_value r0 s0 = some o) : o.2 = s0 := by
  unfold f_Te_value at h
  exact ro_Te_value_4 _ _ _ _ h
theorem ro_Re_isSmall (x0 : Int32) (s0 : g_St) {o : Int32 × g_St} (h : f_Re_isSmall x0 s0 = some o) : o.2 = s0 := by
  unfold f_Re_isSmall at h
  refine fr_if h (fun h => ?_) (fun h => ?_)
  · replace h := er_rZ h
    cases h
    rfl
  · refine fr_if h (fun h => ?_) (fun h => ?_)
    · replace h := er_rZ h
      cases h
      rfl
    · replace h := er_rZ h
      cases h
      rfl
theorem ro_Re_isDigit (x0 : Int32) (s0 : g_St) {o : Int32 × g_St} (h : f_Re_isDigit x0 s0 = some o) : o.2 = s0 := by
  unfold f_Re_isDigit at h
  refine fr_if h (fun h => ?_) (fun h => ?_)
  · replace h := er_rZ h
    cases h
    rfl
  · refine fr_if h (fun h => ?_) (fun h => ?_)
    · replace h := er_rZ h
      cases h
      rfl
    · replace h := er_rZ h
      cases h
      rfl
theorem ro_Re_isCapital (x0 : Int32) (s0 : g_St) {o : Int32 × g_St} (h : f_Re_isCapital x0 s0 = some o) : o.2 = s0 := by
  unfold f_Re_isCapital at h
  refine fr_if h (fun h => ?_) (fun h => ?_)
  · replace h := er_rZ h
    cases h
    rfl
  · refine fr_if h (fun h => ?_) (fun h => ?_)
    · replace h := er_rZ h
      cases h
      rfl
    · replace h := er_rZ h
      cases h
      rfl
theorem ro_Re_belongs (x0 : Int32) (x1 : Int32) (s0 : g_St) {o : Int32 × g_St} (h : f_Re_belongs x0 x1 s0 = some o) : o.2 = s0 := by
  unfold f_Re_belongs at h
  refine fr_c h (fun i1 s2 hc h => ?_)
  have e1 : s2 = s0 := ro_Re_isSmall _ _ hc
  rw [e1] at h
  refine fr_if h (fun h => ?_) (fun h => ?_)
  · refine fr_c h (fun i3 s4 hc h => ?_)
    have e2 : s4 = s0 := ro_Re_isDigit _ _ hc
    rw [e2] at h
    refine fr_if h (fun h => ?_) (fun h => ?_)
    · refine fr_c h (fun i5 s6 hc h => ?_)
      have e3 : s6 = s0 := ro_Re_isCapital _ _ hc
      rw [e3] at h
      refine fr_if h (fun h => ?_) (fun h => ?_)
      · replace h := er_rZ h
        cases h
        rfl
      · refine fr_c h (fun i7 s8 hc h => ?_)
        have e4 : s8 = s0 := ro_Re_isCapital _ _ hc
        rw [e4] at h
        refine fr_if h (fun h => ?_) (fun h => ?_)
        · replace h := er_rZ h
          cases h
          rfl
        · replace h := er_rZ h
          cases h
          rfl
    · refine fr_c h (fun i9 s10 hc h => ?_)
      have e5 : s10 = s0 := ro_Re_isDigit _ _ hc
      rw [e5] at h
      replace h := er_rZ h
      cases h
      rfl
  · refine fr_c h (fun i11 s12 hc h => ?_)
    have e6 : s12 = s0 := ro_Re_isSmall _ _ hc
    rw [e6] at h
    refine fr_if h (fun h => ?_) (fun h => ?_)
    · refine fr_c h (fun i13 s14 hc h => ?_)
      have e7 : s14 = s0 := ro_Re_isDigit _ _ hc
      rw [e7] at h
      refine fr_if h (fun h => ?_) (fun h => ?_)
      · replace h := er_rZ h
        cases h
        rfl
      · replace h := er_rZ h
        cases h
        rfl
    · replace h := er_rZ h
      cases h
      rfl
theorem ro_Re_endOf_44 : ∀ (n : Nat) (r0 : Option Nat) (x2 : Int32) (x3 : Int32) (s0 : g_St) {o : Int32 × g_St}, f_Re_endOf_44 n r0 x2 x3 s0 = some o → o.2 = s0 := by
  intro n
  induction n with
  | zero =>
    intro r0 x2 x3 s0 o h
    rw [f_Re_endOf_44] at h
    cases h
  | succ n ih =>
    intro r0 x2 x3 s0 o h
    rw [f_Re_endOf_44] at h
    refine er_gI h (fun i1 h => ?_)
    refine fr_if h (fun h => ?_) (fun h => ?_)
    · cases h
      rfl
    · refine er_gR h (fun _ p2 _ _ h => ?_)
      refine er_aI h (fun i3 h => ?_)
      refine fr_c h (fun i4 s5 hc h => ?_)
      have e1 : s5 = s0 := ro_Re_belongs _ _ _ hc
      rw [e1] at h
      refine fr_if h (fun h => ?_) (fun h => ?_)
      · cases h
        rfl
      · exact ih _ _ _ _ h
theorem ro_Re_endOf (r0 : Option Nat) (x1 : Int32) (s0 : g_St) {o : Int32 × g_St} (h : f_Re_endOf r0 x1 s0 = some o) : o.2 = s0 := by
  unfold f_Re_endOf at h
  refine er_gR h (fun _ p1 _ _ h => ?_)
  refine er_aI h (fun i2 h => ?_)
  refine fr_if h (fun h => ?_) (fun h => ?_)
  · refine er_gI h (fun i3 h => ?_)
    refine fr_if h (fun h => ?_) (fun h => ?_)
    · exact ro_Re_endOf_44 _ _ _ _ _ h
    · refine er_gR h (fun _ p4 _ _ h => ?_)
      refine er_aI h (fun i5 h => ?_)
      refine fr_if h (fun h => ?_) (fun h => ?_)
      · cases h
        rfl
      · exact ro_Re_endOf_44 _ _ _ _ _ h
  · exact ro_Re_endOf_44 _ _ _ _ _ h
theorem ro_Re_isWritten_15 : ∀ (n : Nat) (r0 : Option Nat) (r1 : Option Nat) (x2 : Int32) (x4 : Int32) (s0 : g_St) {o : Int32 × g_St}, f_Re_isWritten_15 n r0 r1 x2 x4 s0 = some o → o.2 = s0 := by
  intro n
  induction n with
  | zero =>
    intro r0 r1 x2 x4 s0 o h
    rw [f_Re_isWritten_15] at h
    cases h
  | succ n ih =>
    intro r0 r1 x2 x4 s0 o h
    rw [f_Re_isWritten_15] at h
    refine fr_c h (fun i1 s2 hc h => ?_)
    have e1 : s2 = s0 := ro_Str_length _ _ (er_str hc)
    rw [e1] at h
    refine fr_if h (fun h => ?_) (fun h => ?_)
    · replace h := er_rZ h
      cases h
      rfl
    · refine fr_c h (fun i3 s4 hc h => ?_)
      have e2 : s4 = s0 := ro_Str_charAt _ _ _ (er_str hc)
      rw [e2] at h
      refine er_gR h (fun _ p5 _ _ h => ?_)
      refine er_aI h (fun i6 h => ?_)
      refine fr_if h (fun h => ?_) (fun h => ?_)
      · exact ih _ _ _ _ _ h
      · replace h := er_rZ h
        cases h
        rfl
theorem ro_Re_isWritten (r0 : Option Nat) (r1 : Option Nat) (x2 : Int32) (x3 : Int32) (s0 : g_St) {o : Int32 × g_St} (h : f_Re_isWritten r0 r1 x2 x3 s0 = some o) : o.2 = s0 := by
  unfold f_Re_isWritten at h
  refine fr_c h (fun i1 s2 hc h => ?_)
  have e1 : s2 = s0 := ro_Str_length _ _ (er_str hc)
  rw [e1] at h
  refine fr_if h (fun h => ?_) (fun h => ?_)
  · exact ro_Re_isWritten_15 _ _ _ _ _ _ h
  · replace h := er_rZ h
    cases h
    rfl
theorem ro_Re_kindOf_61 : ∀ (n : Nat) (r0 : Option Nat) (x1 : Int32) (x2 : Int32) (x3 : Int32) (s0 : g_St) {o : Option Nat × g_St}, f_Re_kindOf_61 n r0 x1 x2 x3 s0 = some o → o.2 = s0 := by
  intro n
  induction n with
  | zero =>
    intro r0 x1 x2 x3 s0 o h
    rw [f_Re_kindOf_61] at h
    cases h
  | succ n ih =>
    intro r0 x1 x2 x3 s0 o h
    rw [f_Re_kindOf_61] at h
    refine er_ksl h (fun i1 h => ?_)
    refine fr_if h (fun h => ?_) (fun h => ?_)
    · cases h
      rfl
    · refine er_ksa h (fun p2 h => ?_)
      refine er_sfR h (fun p3 h => ?_)
      refine fr_c h (fun i4 s5 hc h => ?_)
      have e1 : s5 = s0 := ro_Re_isWritten _ _ _ _ _ (er_nn hc)
      rw [e1] at h
      refine fr_if h (fun h => ?_) (fun h => ?_)
      · exact ih _ _ _ _ _ h
      · refine er_ksa h (fun p6 h => ?_)
        cases h
        rfl
theorem ro_Re_kindOf (r0 : Option Nat) (x1 : Int32) (x2 : Int32) (s0 : g_St) {o : Option Nat × g_St} (h : f_Re_kindOf r0 x1 x2 s0 = some o) : o.2 = s0 := by
  unfold f_Re_kindOf at h
  refine er_gR h (fun _ p1 _ _ h => ?_)
  refine er_aI h (fun i2 h => ?_)
  refine fr_c h (fun i3 s4 hc h => ?_)
  have e1 : s4 = s0 := ro_Re_isSmall _ _ hc
  rw [e1] at h
  refine fr_if h (fun h => ?_) (fun h => ?_)
  · refine er_gR h (fun _ p5 _ _ h => ?_)
    refine er_aI h (fun i6 h => ?_)
    refine fr_c h (fun i7 s8 hc h => ?_)
    have e2 : s8 = s0 := ro_Re_isDigit _ _ hc
    rw [e2] at h
    refine fr_if h (fun h => ?_) (fun h => ?_)
    · exact ro_Re_kindOf_61 _ _ _ _ _ _ h
    · refine fr_if h (fun h => ?_) (fun h => ?_)
      · cases h
        rfl
      · cases h
        rfl
  · refine fr_if h (fun h => ?_) (fun h => ?_)
    · cases h
      rfl
    · cases h
      rfl
theorem ro_Re_wordOf_58 : ∀ (n : Nat) (r0 : Option Nat) (x3 : Int32) (y4 : Int64) (x6 : Int32) (s0 : g_St) {o : Int64 × g_St}, f_Re_wordOf_58 n r0 x3 y4 x6 s0 = some o → o.2 = s0 := by
  intro n
  induction n with
  | zero =>
    intro r0 x3 y4 x6 s0 o h
    rw [f_Re_wordOf_58] at h
    cases h
  | succ n ih =>
    intro r0 x3 y4 x6 s0 o h
    rw [f_Re_wordOf_58] at h
    refine fr_if h (fun h => ?_) (fun h => ?_)
    · cases h
      rfl
    · refine er_gR h (fun _ p1 _ _ h => ?_)
      refine er_aI h (fun i2 h => ?_)
      exact ih _ _ _ _ _ h
theorem ro_Re_wordOf_13 : ∀ (n : Nat) (r0 : Option Nat) (x3 : Int32) (y4 : Int64) (x6 : Int32) (s0 : g_St) {o : Int64 × g_St}, f_Re_wordOf_13 n r0 x3 y4 x6 s0 = some o → o.2 = s0 := by
  intro n
  induction n with
  | zero =>
    intro r0 x3 y4 x6 s0 o h
    rw [f_Re_wordOf_13] at h
    cases h
  | succ n ih =>
    intro r0 x3 y4 x6 s0 o h
    rw [f_Re_wordOf_13] at h
    refine fr_if h (fun h => ?_) (fun h => ?_)
    · cases h
      rfl
    · refine er_gR h (fun _ p1 _ _ h => ?_)
      refine er_aI h (fun i2 h => ?_)
      exact ih _ _ _ _ _ h
theorem ro_Re_wordOf (r0 : Option Nat) (r1 : Option Nat) (x2 : Int32) (x3 : Int32) (s0 : g_St) {o : Int64 × g_St} (h : f_Re_wordOf r0 r1 x2 x3 s0 = some o) : o.2 = s0 := by
  unfold f_Re_wordOf at h
  refine fr_if h (fun h => ?_) (fun h => ?_)
  · exact ro_Re_wordOf_13 _ _ _ _ _ _ h
  · refine fr_if h (fun h => ?_) (fun h => ?_)
    · exact ro_Re_wordOf_58 _ _ _ _ _ _ h
    · cases h
      rfl
theorem ro_Re_stuckAt (r0 : Option Nat) (s0 : g_St) {o : Int32 × g_St} (h : f_Re_stuckAt r0 s0 = some o) : o.2 = s0 := by
  unfold f_Re_stuckAt at h
  refine er_gR h (fun _ p1 _ _ h => ?_)
  refine er_gI h (fun i2 h => ?_)
  refine er_aI h (fun i3 h => ?_)
  cases h
  rfl
theorem ro_Ch_knownSource_2 : ∀ (n : Nat) (r0 : Option Nat) (x1 : Int32) (s0 : g_St) {o : Option Nat × g_St}, f_Ch_knownSource_2 n r0 x1 s0 = some o → o.2 = s0 := by
  intro n
  induction n with
  | zero =>
    intro r0 x1 s0 o h
    rw [f_Ch_knownSource_2] at h
    cases h
  | succ n ih =>
    intro r0 x1 s0 o h
    rw [f_Ch_knownSource_2] at h
    refine er_gR h (fun _ p1 _ _ h => ?_)
    refine er_gI h (fun i2 h => ?_)
    refine fr_if h (fun h => ?_) (fun h => ?_)
    · refine er_gR h (fun _ p3 _ _ h => ?_)
      refine fr_if h (fun h => ?_) (fun h => ?_)
      · cases h
        rfl
      · refine er_gR h (fun _ p4 _ _ h => ?_)
        refine er_gR h (fun _ p5 _ _ h => ?_)
        refine fr_if h (fun h => ?_) (fun h => ?_)
        · cases h
          rfl
        · refine er_gR h (fun _ p6 _ _ h => ?_)
          refine er_gR h (fun _ p7 _ _ h => ?_)
          refine er_gL h (fun j8 h => ?_)
          refine er_gL h (fun j9 h => ?_)
          refine fr_if h (fun h => ?_) (fun h => ?_)
          · refine er_gR h (fun _ p10 _ _ h => ?_)
            refine er_gR h (fun _ p11 _ _ h => ?_)
            cases h
            rfl
          · cases h
            rfl
    · refine er_gR h (fun _ p12 _ _ h => ?_)
      refine er_gR h (fun _ p13 _ _ h => ?_)
      refine er_aR h (fun p14 h => ?_)
      refine er_gL h (fun j15 h => ?_)
      refine er_gL h (fun j16 h => ?_)
      refine fr_if h (fun h => ?_) (fun h => ?_)
      · refine er_gR h (fun _ p17 _ _ h => ?_)
        refine er_gR h (fun _ p18 _ _ h => ?_)
        refine er_aR h (fun p19 h => ?_)
        cases h
        rfl
      · exact ih _ _ _ h
theorem ro_Ch_knownSource (r0 : Option Nat) (s0 : g_St) {o : Option Nat × g_St} (h : f_Ch_knownSource r0 s0 = some o) : o.2 = s0 := by
  unfold f_Ch_knownSource at h
  exact ro_Ch_knownSource_2 _ _ _ _ h
theorem ro_Ch_indexIn_99 (y4 : Int64) (x0s : Int32) (s0 : g_St) {o : Int32 × g_St} (h : f_Ch_indexIn_99 y4 x0s s0 = some o) : o.2 = s0 := by
  unfold f_Ch_indexIn_99 at h
  refine fr_if h (fun h => ?_) (fun h => ?_)
  · cases h
    rfl
  · cases h
    rfl
theorem ro_Ch_indexIn_24 : ∀ (n : Nat) (y2 : Int64) (r4 : Option Nat) (x5 : Int32) (s0 : g_St) {o : Int32 × g_St}, f_Ch_indexIn_24 n y2 r4 x5 s0 = some o → o.2 = s0 := by
  intro n
  induction n with
  | zero =>
    intro y2 r4 x5 s0 o h
    rw [f_Ch_indexIn_24] at h
    cases h
  | succ n ih =>
    intro y2 r4 x5 s0 o h
    rw [f_Ch_indexIn_24] at h
    refine fr_if h (fun h => ?_) (fun h => ?_)
    · cases h
      rfl
    · refine er_gR h (fun _ p1 _ _ h => ?_)
      refine er_aL h (fun j2 h => ?_)
      refine fr_if h (fun h => ?_) (fun h => ?_)
      · cases h
        rfl
      · exact ih _ _ _ _ h
theorem ro_Ch_indexIn (r0 : Option Nat) (r1 : Option Nat) (y2 : Int64) (s0 : g_St) {o : Int32 × g_St} (h : f_Ch_indexIn r0 r1 y2 s0 = some o) : o.2 = s0 := by
  unfold f_Ch_indexIn at h
  refine er_gI h (fun i1 h => ?_)
  refine fr_if h (fun h => ?_) (fun h => ?_)
  · refine er_gI h (fun i2 h => ?_)
    refine fr_if h (fun h => ?_) (fun h => ?_)
    · exact ro_Ch_indexIn_99 _ _ _ h
    · refine fr_if h (fun h => ?_) (fun h => ?_)
      · exact ro_Ch_indexIn_99 _ _ _ h
      · refine er_gR h (fun _ p3 _ _ h => ?_)
        refine er_gI h (fun i4 h => ?_)
        refine er_aR h (fun p5 h => ?_)
        refine er_gI h (fun i6 h => ?_)
        refine fr_if h (fun h => ?_) (fun h => ?_)
        · exact ro_Ch_indexIn_99 _ _ _ h
        · exact ro_Ch_indexIn_99 _ _ _ h
  · refine er_gR h (fun _ p7 _ _ h => ?_)
    refine er_gR h (fun _ p8 _ _ h => ?_)
    refine er_gI h (fun i9 h => ?_)
    refine er_aR h (fun p10 h => ?_)
    exact ro_Ch_indexIn_24 _ _ _ _ _ h
theorem ro_Ch_nextReady_2 : ∀ (n : Nat) (r0 : Option Nat) (x1 : Int32) (x2 : Int32) (s0 : g_St) {o : Int32 × g_St}, f_Ch_nextReady_2 n r0 x1 x2 s0 = some o → o.2 = s0 := by
  intro n
  induction n with
  | zero =>
    intro r0 x1 x2 s0 o h
    rw [f_Ch_nextReady_2] at h
    cases h
  | succ n ih =>
    intro r0 x1 x2 s0 o h
    rw [f_Ch_nextReady_2] at h
    refine er_gR h (fun _ p1 _ _ h => ?_)
    refine er_gI h (fun i2 h => ?_)
    refine fr_if h (fun h => ?_) (fun h => ?_)
    · cases h
      rfl
    · refine er_gR h (fun _ p3 _ _ h => ?_)
      refine er_gR h (fun _ p4 _ _ h => ?_)
      refine er_aR h (fun p5 h => ?_)
      refine fr_if h (fun h => ?_) (fun h => ?_)
      · refine er_gI h (fun i6 h => ?_)
        refine er_gI h (fun i7 h => ?_)
        refine fr_if h (fun h => ?_) (fun h => ?_)
        · cases h
          rfl
        · exact ih _ _ _ _ h
      · exact ih _ _ _ _ h
theorem ro_Ch_nextReady (r0 : Option Nat) (x1 : Int32) (s0 : g_St) {o : Int32 × g_St} (h : f_Ch_nextReady r0 x1 s0 = some o) : o.2 = s0 := by
  unfold f_Ch_nextReady at h
  exact ro_Ch_nextReady_2 _ _ _ _ _ h
theorem ro_Ch_namesOwnComponent (r0 : Option Nat) (r1 : Option Nat) (s0 : g_St) {o : Int32 × g_St} (h : f_Ch_namesOwnComponent r0 r1 s0 = some o) : o.2 = s0 := by
  unfold f_Ch_namesOwnComponent at h
  refine er_gR h (fun _ p1 _ _ h => ?_)
  refine er_gI h (fun i2 h => ?_)
  refine er_gI h (fun i3 h => ?_)
  refine fr_if h (fun h => ?_) (fun h => ?_)
  · replace h := er_rZ h
    cases h
    rfl
  · refine er_gR h (fun _ p4 _ _ h => ?_)
    refine er_gI h (fun i5 h => ?_)
    refine fr_if h (fun h => ?_) (fun h => ?_)
    · replace h := er_rZ h
      cases h
      rfl
    · refine er_gR h (fun _ p6 _ _ h => ?_)
      refine er_gR h (fun _ p7 _ _ h => ?_)
      refine er_aR h (fun p8 h => ?_)
      refine er_gI h (fun i9 h => ?_)
      refine fr_if h (fun h => ?_) (fun h => ?_)
      · replace h := er_rZ h
        cases h
        rfl
      · refine er_gR h (fun _ p10 _ _ h => ?_)
        refine er_gR h (fun _ p11 _ _ h => ?_)
        refine er_aR h (fun p12 h => ?_)
        refine er_gI h (fun i13 h => ?_)
        refine er_gR h (fun _ p14 _ _ h => ?_)
        refine er_gR h (fun _ p15 _ _ h => ?_)
        refine er_gI h (fun i16 h => ?_)
        refine er_aR h (fun p17 h => ?_)
        refine er_gI h (fun i18 h => ?_)
        refine fr_if h (fun h => ?_) (fun h => ?_)
        · replace h := er_rZ h
          cases h
          rfl
        · replace h := er_rZ h
          cases h
          rfl
theorem ro_Ch_namesItselfTwice_2 : ∀ (n : Nat) (r0 : Option Nat) (x1 : Int32) (s0 : g_St) {o : Int32 × g_St}, f_Ch_namesItselfTwice_2 n r0 x1 s0 = some o → o.2 = s0 := by
  intro n
  induction n with
  | zero =>
    intro r0 x1 s0 o h
    rw [f_Ch_namesItselfTwice_2] at h
    cases h
  | succ n ih =>
    intro r0 x1 s0 o h
    rw [f_Ch_namesItselfTwice_2] at h
    refine er_gI h (fun i1 h => ?_)
    refine fr_if h (fun h => ?_) (fun h => ?_)
    · replace h := er_rZ h
      cases h
      rfl
    · refine er_gR h (fun _ p2 _ _ h => ?_)
      refine er_aR h (fun p3 h => ?_)
      refine er_gI h (fun i4 h => ?_)
      refine fr_if h (fun h => ?_) (fun h => ?_)
      · exact ih _ _ _ h
      · replace h := er_rZ h
        cases h
        rfl
theorem ro_Ch_namesItselfTwice (r0 : Option Nat) (s0 : g_St) {o : Int32 × g_St} (h : f_Ch_namesItselfTwice r0 s0 = some o) : o.2 = s0 := by
  unfold f_Ch_namesItselfTwice at h
  exact ro_Ch_namesItselfTwice_2 _ _ _ _ h
theorem ro_Ch_isWrong_127 (r1 : Option Nat) (s0 : g_St) {o : Int32 × g_St} (h : f_Ch_isWrong_127 r1 s0 = some o) : o.2 = s0 := by
  unfold f_Ch_isWrong_127 at h
  refine er_gI h (fun i1 h => ?_)
  refine fr_if h (fun h => ?_) (fun h => ?_)
  · replace h := er_rZ h
    cases h
    rfl
  · replace h := er_rZ h
    cases h
    rfl
theorem ro_Ch_isWrong_83 (r1 : Option Nat) (s0 : g_St) {o : Int32 × g_St} (h : f_Ch_isWrong_83 r1 s0 = some o) : o.2 = s0 := by
  unfold f_Ch_isWrong_83 at h
  refine er_gI h (fun i1 h => ?_)
  refine fr_c h (fun i2 s3 hc h => ?_)
  have e1 : s3 = s0 := ro_In_bitCount _ _ hc
  rw [e1] at h
  refine fr_if h (fun h => ?_) (fun h => ?_)
  · replace h := er_rZ h
    cases h
    rfl
  · refine fr_c h (fun i4 s5 hc h => ?_)
    have e2 : s5 = s0 := ro_Ch_namesItselfTwice _ _ hc
    rw [e2] at h
    refine fr_if h (fun h => ?_) (fun h => ?_)
    · replace h := er_rZ h
      cases h
      rfl
    · replace h := er_rZ h
      cases h
      rfl
theorem ro_Ch_isWrong (r0 : Option Nat) (r1 : Option Nat) (x2 : Int32) (s0 : g_St) {o : Int32 × g_St} (h : f_Ch_isWrong r0 r1 x2 s0 = some o) : o.2 = s0 := by
  unfold f_Ch_isWrong at h
  refine fr_if h (fun h => ?_) (fun h => ?_)
  · refine er_gI h (fun i10 h => ?_)
    refine fr_if h (fun h => ?_) (fun h => ?_)
    · replace h := er_rZ h
      cases h
      rfl
    · refine er_gI h (fun i11 h => ?_)
      refine fr_if h (fun h => ?_) (fun h => ?_)
      · replace h := er_rZ h
        cases h
        rfl
      · replace h := er_rZ h
        cases h
        rfl
  · refine fr_if h (fun h => ?_) (fun h => ?_)
    · refine er_gR h (fun _ p7 _ _ h => ?_)
      refine er_aR h (fun p8 h => ?_)
      refine er_gI h (fun i9 h => ?_)
      refine fr_if h (fun h => ?_) (fun h => ?_)
      · replace h := er_rZ h
        cases h
        rfl
      · replace h := er_rZ h
        cases h
        rfl
    · refine fr_if h (fun h => ?_) (fun h => ?_)
      · refine er_gI h (fun i3 h => ?_)
        refine fr_if h (fun h => ?_) (fun h => ?_)
        · replace h := er_rZ h
          cases h
          rfl
        · refine er_gI h (fun i4 h => ?_)
          refine fr_if h (fun h => ?_) (fun h => ?_)
          · refine er_gI h (fun i5 h => ?_)
            refine fr_if h (fun h => ?_) (fun h => ?_)
            · refine er_gI h (fun i6 h => ?_)
              refine fr_if h (fun h => ?_) (fun h => ?_)
              · replace h := er_rZ h
                cases h
                rfl
              · exact ro_Ch_isWrong_83 _ _ h
            · exact ro_Ch_isWrong_83 _ _ h
          · exact ro_Ch_isWrong_83 _ _ h
      · refine fr_if h (fun h => ?_) (fun h => ?_)
        · refine er_gI h (fun i1 h => ?_)
          refine fr_if h (fun h => ?_) (fun h => ?_)
          · refine er_gI h (fun i2 h => ?_)
            refine fr_if h (fun h => ?_) (fun h => ?_)
            · replace h := er_rZ h
              cases h
              rfl
            · exact ro_Ch_isWrong_127 _ _ h
          · exact ro_Ch_isWrong_127 _ _ h
        · replace h := er_rZ h
          cases h
          rfl
theorem ro_Ru_compares_52 (r0 : Option Nat) (y1 : Int64) (y0s : Int64) (s0 : g_St) {o : Int32 × g_St} (h : f_Ru_compares_52 r0 y1 y0s s0 = some o) : o.2 = s0 := by
  unfold f_Ru_compares_52 at h
  refine fr_if h (fun h => ?_) (fun h => ?_)
  · replace h := er_rZ h
    cases h
    rfl
  · refine fr_if h (fun h => ?_) (fun h => ?_)
    · replace h := er_rZ h
      cases h
      rfl
    · refine er_gR h (fun _ p1 _ _ h => ?_)
      refine fr_c h (fun i2 s3 hc h => ?_)
      have e1 : s3 = s0 := ro_En_ordinal _ _ (er_nn hc)
      rw [e1] at h
      refine er_swl h (fun i4 h => ?_)
      refine fr_if h (fun h => ?_) (fun h => ?_)
      · refine fr_if h (fun h => ?_) (fun h => ?_)
        · replace h := er_rZ h
          cases h
          rfl
        · replace h := er_rZ h
          cases h
          rfl
      · refine fr_if h (fun h => ?_) (fun h => ?_)
        · refine fr_if h (fun h => ?_) (fun h => ?_)
          · replace h := er_rZ h
            cases h
            rfl
          · replace h := er_rZ h
            cases h
            rfl
        · refine fr_if h (fun h => ?_) (fun h => ?_)
          · refine fr_if h (fun h => ?_) (fun h => ?_)
            · replace h := er_rZ h
              cases h
              rfl
            · replace h := er_rZ h
              cases h
              rfl
          · refine fr_if h (fun h => ?_) (fun h => ?_)
            · refine fr_if h (fun h => ?_) (fun h => ?_)
              · replace h := er_rZ h
                cases h
                rfl
              · replace h := er_rZ h
                cases h
                rfl
            · replace h := er_rZ h
              cases h
              rfl
theorem ro_Ru_compares (r0 : Option Nat) (s0 : g_St) {o : Int32 × g_St} (h : f_Ru_compares r0 s0 = some o) : o.2 = s0 := by
  unfold f_Ru_compares at h
  refine er_gR h (fun _ p1 _ _ h => ?_)
  refine fr_c h (fun j2 s3 hc h => ?_)
  have e1 : s3 = s0 := ro_Te_value _ _ (er_nn hc)
  rw [e1] at h
  refine er_gR h (fun _ p4 _ _ h => ?_)
  refine fr_if h (fun h => ?_) (fun h => ?_)
  · refine fr_if h (fun h => ?_) (fun h => ?_)
    · replace h := er_rZ h
      cases h
      rfl
    · replace h := er_rZ h
      cases h
      rfl
  · refine er_gR h (fun _ p5 _ _ h => ?_)
    refine fr_if h (fun h => ?_) (fun h => ?_)
    · exact ro_Ru_compares_52 _ _ _ _ h
    · refine er_gR h (fun _ p6 _ _ h => ?_)
      refine fr_c h (fun j7 s8 hc h => ?_)
      have e2 : s8 = s0 := ro_Te_value _ _ (er_nn hc)
      rw [e2] at h
      exact ro_Ru_compares_52 _ _ _ _ h
theorem ro_Ru_isOutOfRange (y0 : Int64) (s0 : g_St) {o : Int32 × g_St} (h : f_Ru_isOutOfRange y0 s0 = some o) : o.2 = s0 := by
  unfold f_Ru_isOutOfRange at h
  refine fr_if h (fun h => ?_) (fun h => ?_)
  · replace h := er_rZ h
    cases h
    rfl
  · refine fr_if h (fun h => ?_) (fun h => ?_)
    · replace h := er_rZ h
      cases h
      rfl
    · refine fr_if h (fun h => ?_) (fun h => ?_)
      · replace h := er_rZ h
        cases h
        rfl
      · replace h := er_rZ h
        cases h
        rfl
theorem ro_Ru_parentRow_2 : ∀ (n : Nat) (r0 : Option Nat) (x1 : Int32) (s0 : g_St) {o : Int32 × g_St}, f_Ru_parentRow_2 n r0 x1 s0 = some o → o.2 = s0 := by
  intro n
  induction n with
  | zero =>
    intro r0 x1 s0 o h
    rw [f_Ru_parentRow_2] at h
    cases h
  | succ n ih =>
    intro r0 x1 s0 o h
    rw [f_Ru_parentRow_2] at h
    refine er_gR h (fun _ p1 _ _ h => ?_)
    refine er_gI h (fun i2 h => ?_)
    refine fr_if h (fun h => ?_) (fun h => ?_)
    · cases h
      rfl
    · refine er_gR h (fun _ p3 _ _ h => ?_)
      refine er_gR h (fun _ p4 _ _ h => ?_)
      refine er_aR h (fun p5 h => ?_)
      refine er_gI h (fun i6 h => ?_)
      refine er_gR h (fun _ p7 _ _ h => ?_)
      refine er_gI h (fun i8 h => ?_)
      refine fr_if h (fun h => ?_) (fun h => ?_)
      · refine er_gR h (fun _ p9 _ _ h => ?_)
        refine er_gR h (fun _ p10 _ _ h => ?_)
        refine er_aR h (fun p11 h => ?_)
        refine er_gI h (fun i12 h => ?_)
        cases h
        rfl
      · exact ih _ _ _ h
theorem ro_Ru_parentRow (r0 : Option Nat) (s0 : g_St) {o : Int32 × g_St} (h : f_Ru_parentRow r0 s0 = some o) : o.2 = s0 := by
  unfold f_Ru_parentRow at h
  exact ro_Ru_parentRow_2 _ _ _ _ h
theorem ro_Ru_compareKeys (r0 : Option Nat) (r1 : Option Nat) (y2 : Int64) (y4 : Int64) (s0 : g_St) {o : Int32 × g_St} (h : f_Ru_compareKeys r0 r1 y2 y4 s0 = some o) : o.2 = s0 := by
  unfold f_Ru_compareKeys at h
  refine er_gI h (fun i1 h => ?_)
  refine fr_if h (fun h => ?_) (fun h => ?_)
  · refine er_gR h (fun _ p2 _ _ h => ?_)
    refine er_gR h (fun _ p3 _ _ h => ?_)
    refine er_gI h (fun i4 h => ?_)
    refine er_aR h (fun p5 h => ?_)
    refine er_gR h (fun _ p6 _ _ h => ?_)
    refine er_gR h (fun _ p7 _ _ h => ?_)
    refine er_gR h (fun _ p8 _ _ h => ?_)
    refine er_gI h (fun i9 h => ?_)
    refine er_aR h (fun p10 h => ?_)
    refine fr_c h (fun i11 s12 hc h => ?_)
    have e1 : s12 = s0 := ro_Rl_compareTrails _ _ _ _ _ (er_nn hc)
    rw [e1] at h
    cases h
    rfl
  · refine fr_c h (fun i13 s14 hc h => ?_)
    have e2 : s14 = s0 := ro_Rl_compareCells _ _ _ hc
    rw [e2] at h
    cases h
    rfl
theorem ro_Ru_compareRows_75 : ∀ (n : Nat) (r0 : Option Nat) (x1 : Int32) (x2 : Int32) (r3 : Option Nat) (x4 : Int32) (s0 : g_St) {o : Int32 × g_St}, f_Ru_compareRows_75 n r0 x1 x2 r3 x4 s0 = some o → o.2 = s0 := by
  intro n
  induction n with
  | zero =>
    intro r0 x1 x2 r3 x4 s0 o h
    rw [f_Ru_compareRows_75] at h
    cases h
  | succ n ih =>
    intro r0 x1 x2 r3 x4 s0 o h
    rw [f_Ru_compareRows_75] at h
    refine er_gR h (fun _ p1 _ _ h => ?_)
    refine er_gR h (fun _ p2 _ _ h => ?_)
    refine er_gI h (fun i3 h => ?_)
    refine fr_if h (fun h => ?_) (fun h => ?_)
    · cases h
      rfl
    · refine er_aL h (fun j4 h => ?_)
      refine er_aL h (fun j5 h => ?_)
      refine fr_c h (fun i6 s7 hc h => ?_)
      have e1 : s7 = s0 := ro_Rl_compareCells _ _ _ hc
      rw [e1] at h
      refine fr_if h (fun h => ?_) (fun h => ?_)
      · exact ih _ _ _ _ _ _ h
      · cases h
        rfl
theorem ro_Ru_compareRows_2 : ∀ (n : Nat) (r0 : Option Nat) (x1 : Int32) (x2 : Int32) (x3 : Int32) (s0 : g_St) {o : Int32 × g_St}, f_Ru_compareRows_2 n r0 x1 x2 x3 s0 = some o → o.2 = s0 := by
  intro n
  induction n with
  | zero =>
    intro r0 x1 x2 x3 s0 o h
    rw [f_Ru_compareRows_2] at h
    cases h
  | succ n ih =>
    intro r0 x1 x2 x3 s0 o h
    rw [f_Ru_compareRows_2] at h
    refine er_gR h (fun _ p1 _ _ h => ?_)
    refine er_gI h (fun i2 h => ?_)
    refine fr_if h (fun h => ?_) (fun h => ?_)
    · refine er_gR h (fun _ p3 _ _ h => ?_)
      refine er_aR h (fun p4 h => ?_)
      refine er_gR h (fun _ p5 _ _ h => ?_)
      exact ro_Ru_compareRows_75 _ _ _ _ _ _ _ h
    · refine er_gR h (fun _ p6 _ _ h => ?_)
      refine er_gR h (fun _ p7 _ _ h => ?_)
      refine er_aR h (fun p8 h => ?_)
      refine er_gR h (fun _ p9 _ _ h => ?_)
      refine er_aL h (fun j10 h => ?_)
      refine er_gR h (fun _ p11 _ _ h => ?_)
      refine er_aL h (fun j12 h => ?_)
      refine fr_c h (fun i13 s14 hc h => ?_)
      have e1 : s14 = s0 := ro_Ru_compareKeys _ _ _ _ _ (er_nn hc)
      rw [e1] at h
      refine fr_if h (fun h => ?_) (fun h => ?_)
      · exact ih _ _ _ _ _ h
      · cases h
        rfl
theorem ro_Ru_compareRows (r0 : Option Nat) (x1 : Int32) (x2 : Int32) (s0 : g_St) {o : Int32 × g_St} (h : f_Ru_compareRows r0 x1 x2 s0 = some o) : o.2 = s0 := by
  unfold f_Ru_compareRows at h
  exact ro_Ru_compareRows_2 _ _ _ _ _ _ h
theorem ro_E_fault (r0 : Option Nat) (s0 : g_St) {o : Int32 × g_St} (h : f_E_fault r0 s0 = some o) : o.2 = s0 := by
  unfold f_E_fault at h
  refine er_gI h (fun i1 h => ?_)
  cases h
  rfl
