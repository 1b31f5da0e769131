theorem w_M_longer (y0 : Int64) (x2 : Int32) (s0 : g_St) {o : Int64 × g_St} (hm : m_Fix s0) (h : f_M_longer y0 x2 s0 = some o) : z_W [] [] s0 o.2 := by
  unfold f_M_longer at h
  have hs0 : z_W [] [] s0 s0 := z_W.re
  refine fr_if h (fun h => ?_) (fun h => ?_)
  · exact fr_some h hs0
  · exact fr_some h hs0
theorem w_M_thrown  (s0 : g_St) {o : Int32 × g_St} (hm : m_Fix s0) (h : f_M_thrown (some 1) s0 = some o) : z_W [] [] s0 o.2 := by
  unfold f_M_thrown at h
  have hs0 : z_W [] [] s0 s0 := z_W.re
  refine fr_gI h (fun i1 h => ?_)
  exact fr_some h hs0
theorem w_M_table_28 (x1 : Int32) (x1s : Int32) (s0 : g_St) {o : Int32 × g_St} (hm : m_Fix s0) (h : f_M_table_28 (some 1) x1 (some 1) x1s s0 = some o) : z_W [1, 65] [916, 980] s0 o.2 := by
  unfold f_M_table_28 at h
  have hs0 : z_W [1, 65] [916, 980] s0 s0 := z_W.re
  refine fr_pI h (fun h => ?_)
  have hs1 := z_W.pI hs0 (k := 1) (by decide) x1s
  refine fr_gI h (fun i2 h => ?_)
  refine fr_if h (fun h => ?_) (fun h => ?_)
  · refine fr_gR (hs1.fx hm _ m_k129).1 h (fun h => ?_)
    refine fr_gI h (fun i4 h => ?_)
    refine fr_sI h (fun j2 h => ?_)
    have hs2 := z_W.sI hs1 (a := 916) (by decide) j2 x1
    refine fr_gR (hs2.fx hm _ m_k193).1 h (fun h => ?_)
    refine fr_gI h (fun i7 h => ?_)
    refine fr_sI h (fun j3 h => ?_)
    have hs3 := z_W.sI hs2 (a := 980) (by decide) j3 0
    refine fr_gI h (fun i9 h => ?_)
    refine fr_pI h (fun h => ?_)
    have hs4 := z_W.pI hs3 (k := 65) (by decide) (i9 + 1)
    refine fr_gI h (fun i11 h => ?_)
    exact fr_some h hs4
  · exact fr_some h hs1
theorem w_M_table (x1 : Int32) (s0 : g_St) {o : Int32 × g_St} (hm : m_Fix s0) (h : f_M_table (some 1) x1 s0 = some o) : z_W [1, 65] [916, 980] s0 o.2 := by
  unfold f_M_table at h
  have hs0 : z_W [1, 65] [916, 980] s0 s0 := z_W.re
  refine fr_if h (fun h => ?_) (fun h => ?_)
  · exact hs0.trans (w_M_table_28 _ _ _ (hs0.fx hm) h)
  · refine fr_if h (fun h => ?_) (fun h => ?_)
    · refine fr_gI h (fun i1 h => ?_)
      refine fr_if h (fun h => ?_) (fun h => ?_)
      · exact hs0.trans (w_M_table_28 _ _ _ (hs0.fx hm) h)
      · exact hs0.trans (w_M_table_28 _ _ _ (hs0.fx hm) h)
    · exact hs0.trans (w_M_table_28 _ _ _ (hs0.fx hm) h)
theorem w_M_row_63 : ∀ (n : Nat) (x1 : Int32) (x2 : Int32) (x3 : Int32) (x4 : Int32) (x5 : Int32) (x6 : Int32) (x7 : Int32) (s0 : g_St) {o : Int32 × g_St}, m_Fix s0 → f_M_row_63 n (some 1) x1 x2 x3 x4 x5 x6 x7 s0 = some o → z_W [1] [597, 980] s0 o.2 := by
  intro n
  induction n with
  | zero =>
    intro x1 x2 x3 x4 x5 x6 x7 s0 o hm h
    rw [f_M_row_63] at h
    cases h
  | succ n ih =>
    intro x1 x2 x3 x4 x5 x6 x7 s0 o hm h
    rw [f_M_row_63] at h
    have hs0 : z_W [1] [597, 980] s0 s0 := z_W.re
    refine fr_if h (fun h => ?_) (fun h => ?_)
    · refine fr_gR (hs0.fx hm _ m_k193).1 h (fun h => ?_)
      refine fr_aI h (fun i2 h => ?_)
      refine fr_sI h (fun j1 h => ?_)
      have hs1 := z_W.sI hs0 (a := 980) (by decide) j1 (i2 + 1)
      refine fr_gR (hs1.fx hm _ m_k193).1 h (fun h => ?_)
      refine fr_aI h (fun i5 h => ?_)
      exact fr_some h hs1
    · refine fr_gR (hs0.fx hm _ m_k257).1 h (fun h => ?_)
      refine fr_if h (fun h => ?_) (fun h => ?_)
      · refine fr_sL h (fun j2 h => ?_)
        have hs2 := z_W.sL hs0 (a := 597) (by decide) j2 1099511627776
        exact hs2.trans (ih _ _ _ _ _ _ _ _ (hs2.fx hm) h)
      · refine fr_if h (fun h => ?_) (fun h => ?_)
        · refine fr_sL h (fun j3 h => ?_)
          have hs3 := z_W.sL hs0 (a := 597) (by decide) j3 x2.toInt64
          exact hs3.trans (ih _ _ _ _ _ _ _ _ (hs3.fx hm) h)
        · refine fr_if h (fun h => ?_) (fun h => ?_)
          · refine fr_sL h (fun j4 h => ?_)
            have hs4 := z_W.sL hs0 (a := 597) (by decide) j4 x3.toInt64
            exact hs4.trans (ih _ _ _ _ _ _ _ _ (hs4.fx hm) h)
          · refine fr_sL h (fun j5 h => ?_)
            have hs5 := z_W.sL hs0 (a := 597) (by decide) j5 x4.toInt64
            exact hs5.trans (ih _ _ _ _ _ _ _ _ (hs5.fx hm) h)
theorem w_M_row_33 (x1 : Int32) (x2 : Int32) (x3 : Int32) (x4 : Int32) (x5 : Int32) (x1s : Int32) (s0 : g_St) {o : Int32 × g_St} (hm : m_Fix s0) (h : f_M_row_33 (some 1) x1 x2 x3 x4 x5 (some 1) x1s s0 = some o) : z_W [1] [597, 980] s0 o.2 := by
  unfold f_M_row_33 at h
  have hs0 : z_W [1] [597, 980] s0 s0 := z_W.re
  refine fr_pI h (fun h => ?_)
  have hs1 := z_W.pI hs0 (k := 1) (by decide) x1s
  refine fr_gI h (fun i2 h => ?_)
  refine fr_if h (fun h => ?_) (fun h => ?_)
  · refine fr_gR (hs1.fx hm _ m_k193).1 h (fun h => ?_)
    refine fr_aI h (fun i4 h => ?_)
    exact hs1.trans (w_M_row_63 _ _ _ _ _ _ _ _ _ (hs1.fx hm) h)
  · exact fr_some h hs1
theorem w_M_row (x1 : Int32) (x2 : Int32) (x3 : Int32) (x4 : Int32) (x5 : Int32) (s0 : g_St) {o : Int32 × g_St} (hm : m_Fix s0) (h : f_M_row (some 1) x1 x2 x3 x4 x5 s0 = some o) : z_W [1] [597, 980] s0 o.2 := by
  unfold f_M_row at h
  have hs0 : z_W [1] [597, 980] s0 s0 := z_W.re
  refine fr_if h (fun h => ?_) (fun h => ?_)
  · exact hs0.trans (w_M_row_33 _ _ _ _ _ _ _ (hs0.fx hm) h)
  · refine fr_gI h (fun i1 h => ?_)
    refine fr_if h (fun h => ?_) (fun h => ?_)
    · refine fr_gR (hs0.fx hm _ m_k193).1 h (fun h => ?_)
      refine fr_aI h (fun i3 h => ?_)
      refine fr_if h (fun h => ?_) (fun h => ?_)
      · exact hs0.trans (w_M_row_33 _ _ _ _ _ _ _ (hs0.fx hm) h)
      · exact hs0.trans (w_M_row_33 _ _ _ _ _ _ _ (hs0.fx hm) h)
    · exact hs0.trans (w_M_row_33 _ _ _ _ _ _ _ (hs0.fx hm) h)
theorem w_M_clear_18 (x1 : Int32) (x1s : Int32) (s0 : g_St) {o : Int32 × g_St} (hm : m_Fix s0) (h : f_M_clear_18 (some 1) x1 (some 1) x1s s0 = some o) : z_W [1] [980] s0 o.2 := by
  unfold f_M_clear_18 at h
  have hs0 : z_W [1] [980] s0 s0 := z_W.re
  refine fr_pI h (fun h => ?_)
  have hs1 := z_W.pI hs0 (k := 1) (by decide) x1s
  refine fr_gI h (fun i2 h => ?_)
  refine fr_if h (fun h => ?_) (fun h => ?_)
  · refine fr_gR (hs1.fx hm _ m_k193).1 h (fun h => ?_)
    refine fr_aI h (fun i4 h => ?_)
    refine fr_gR (hs1.fx hm _ m_k193).1 h (fun h => ?_)
    refine fr_sI h (fun j2 h => ?_)
    have hs2 := z_W.sI hs1 (a := 980) (by decide) j2 0
    exact fr_some h hs2
  · exact fr_some h hs1
theorem w_M_clear (x1 : Int32) (s0 : g_St) {o : Int32 × g_St} (hm : m_Fix s0) (h : f_M_clear (some 1) x1 s0 = some o) : z_W [1] [980] s0 o.2 := by
  unfold f_M_clear at h
  have hs0 : z_W [1] [980] s0 s0 := z_W.re
  refine fr_if h (fun h => ?_) (fun h => ?_)
  · exact hs0.trans (w_M_clear_18 _ _ _ (hs0.fx hm) h)
  · refine fr_gI h (fun i1 h => ?_)
    refine fr_if h (fun h => ?_) (fun h => ?_)
    · exact hs0.trans (w_M_clear_18 _ _ _ (hs0.fx hm) h)
    · exact hs0.trans (w_M_clear_18 _ _ _ (hs0.fx hm) h)
theorem w_M_byteOf_42 (x0 : Int32) (x0s : Int32) (s0 : g_St) {o : Int32 × g_St} (hm : m_Fix s0) (h : f_M_byteOf_42 x0 x0s s0 = some o) : z_W [] [] s0 o.2 := by
  unfold f_M_byteOf_42 at h
  have hs0 : z_W [] [] s0 s0 := z_W.re
  refine fr_nz h (fun h => ?_)
  exact fr_some h hs0
theorem w_M_byteOf (x0 : Int32) (x1 : Int32) (x2 : Int32) (x3 : Int32) (x4 : Int32) (x5 : Int32) (s0 : g_St) {o : Int32 × g_St} (hm : m_Fix s0) (h : f_M_byteOf x0 x1 x2 x3 x4 x5 s0 = some o) : z_W [] [] s0 o.2 := by
  unfold f_M_byteOf at h
  have hs0 : z_W [] [] s0 s0 := z_W.re
  refine fr_if h (fun h => ?_) (fun h => ?_)
  · refine fr_if h (fun h => ?_) (fun h => ?_)
    · refine fr_if h (fun h => ?_) (fun h => ?_)
      · refine fr_if h (fun h => ?_) (fun h => ?_)
        · exact hs0.trans (w_M_byteOf_42 _ _ _ (hs0.fx hm) h)
        · exact hs0.trans (w_M_byteOf_42 _ _ _ (hs0.fx hm) h)
      · exact hs0.trans (w_M_byteOf_42 _ _ _ (hs0.fx hm) h)
    · exact hs0.trans (w_M_byteOf_42 _ _ _ (hs0.fx hm) h)
  · exact hs0.trans (w_M_byteOf_42 _ _ _ (hs0.fx hm) h)
theorem w_M_text_110 : ∀ (n : Nat) (x1 : Int32) (x2 : Int32) (x3 : Int32) (x4 : Int32) (x5 : Int32) (x8 : Int32) (s0 : g_St) {o : Int32 × g_St}, m_Fix s0 → f_M_text_110 n (some 1) x1 x2 x3 x4 x5 x8 s0 = some o → z_W [1, 321] [1044] s0 o.2 := by
  intro n
  induction n with
  | zero =>
    intro x1 x2 x3 x4 x5 x8 s0 o hm h
    rw [f_M_text_110] at h
    cases h
  | succ n ih =>
    intro x1 x2 x3 x4 x5 x8 s0 o hm h
    rw [f_M_text_110] at h
    have hs0 : z_W [1, 321] [1044] s0 s0 := z_W.re
    refine fr_if h (fun h => ?_) (fun h => ?_)
    · exact fr_rZ h (fun h => fr_some h hs0)
    · refine fr_c h (fun i1 s2 hc h => ?_)
      have hs1 := hs0.trans ((w_M_byteOf _ _ _ _ _ _ _ (hs0.fx hm) hc).mono (by decide) (by decide))
      refine fr_if h (fun h => ?_) (fun h => ?_)
      · exact hs1.trans (ih _ _ _ _ _ _ _ (hs1.fx hm) h)
      · refine fr_gR (hs1.fx hm _ m_k385).1 h (fun h => ?_)
        refine fr_gI h (fun i4 h => ?_)
        refine fr_sI h (fun j2 h => ?_)
        have hs2 := z_W.sI hs1 (a := 1044) (by decide) j2 i1
        refine fr_gI h (fun i6 h => ?_)
        refine fr_pI h (fun h => ?_)
        have hs3 := z_W.pI hs2 (k := 321) (by decide) (i6 + 1)
        exact hs3.trans (ih _ _ _ _ _ _ _ (hs3.fx hm) h)
theorem w_M_text_47 {k14 : Option Nat → Int32 → Int32 → Int32 → Int32 → Int32 → Int32 → Int32 → Int32 → g_St → Option (Int32 × g_St)} (hk14 : ∀ (y1 : Int32) (y2 : Int32) (y3 : Int32) (y4 : Int32) (y5 : Int32) (y6 : Int32) (y7 : Int32) (y8 : Int32) (s : g_St) {o : Int32 × g_St}, m_Fix s → k14 (some 1) y1 y2 y3 y4 y5 y6 y7 y8 s = some o → z_W [1, 321] [1044] s o.2) (x1 : Int32) (x2 : Int32) (x3 : Int32) (x4 : Int32) (x5 : Int32) (x7 : Int32) (x8 : Int32) (x9 : Int32) (x0s : Int32) (x1s : Int32) (s0 : g_St) {o : Int32 × g_St} (hm : m_Fix s0) (h : f_M_text_47 k14 (some 1) x1 x2 x3 x4 x5 x7 x8 x9 x0s x1s s0 = some o) : z_W [1, 321] [1044] s0 o.2 := by
  unfold f_M_text_47 at h
  have hs0 : z_W [1, 321] [1044] s0 s0 := z_W.re
  refine fr_if h (fun h => ?_) (fun h => ?_)
  · exact hs0.trans (hk14 _ _ _ _ _ _ _ _ _ (hs0.fx hm) h)
  · refine fr_if h (fun h => ?_) (fun h => ?_)
    · exact hs0.trans (hk14 _ _ _ _ _ _ _ _ _ (hs0.fx hm) h)
    · refine fr_if h (fun h => ?_) (fun h => ?_)
      · exact hs0.trans (hk14 _ _ _ _ _ _ _ _ _ (hs0.fx hm) h)
      · refine fr_if h (fun h => ?_) (fun h => ?_)
        · exact hs0.trans (hk14 _ _ _ _ _ _ _ _ _ (hs0.fx hm) h)
        · exact hs0.trans (hk14 _ _ _ _ _ _ _ _ _ (hs0.fx hm) h)
theorem w_M_text_14 : ∀ (n : Nat) (x1 : Int32) (x2 : Int32) (x3 : Int32) (x4 : Int32) (x5 : Int32) (x6 : Int32) (x7 : Int32) (x8 : Int32) (s0 : g_St) {o : Int32 × g_St}, m_Fix s0 → f_M_text_14 n (some 1) x1 x2 x3 x4 x5 x6 x7 x8 s0 = some o → z_W [1, 321] [1044] s0 o.2 := by
  intro n
  induction n with
  | zero =>
    intro x1 x2 x3 x4 x5 x6 x7 x8 s0 o hm h
    rw [f_M_text_14] at h
    cases h
  | succ n ih =>
    intro x1 x2 x3 x4 x5 x6 x7 x8 s0 o hm h
    rw [f_M_text_14] at h
    have hs0 : z_W [1, 321] [1044] s0 s0 := z_W.re
    refine fr_if h (fun h => ?_) (fun h => ?_)
    · refine fr_if h (fun h => ?_) (fun h => ?_)
      · exact fr_rZ h (fun h => fr_some h hs0)
      · refine fr_gI h (fun i1 h => ?_)
        refine fr_if h (fun h => ?_) (fun h => ?_)
        · exact hs0.trans (w_M_text_110 _ _ _ _ _ _ _ _ (hs0.fx hm) h)
        · exact fr_rZ h (fun h => fr_some h hs0)
    · refine fr_c h (fun i2 s3 hc h => ?_)
      have hs1 := hs0.trans ((w_M_byteOf _ _ _ _ _ _ _ (hs0.fx hm) hc).mono (by decide) (by decide))
      refine fr_if h (fun h => ?_) (fun h => ?_)
      · exact hs1.trans (w_M_text_47 ih _ _ _ _ _ _ _ _ _ _ _ (hs1.fx hm) h)
      · exact hs1.trans (w_M_text_47 ih _ _ _ _ _ _ _ _ _ _ _ (hs1.fx hm) h)
theorem w_M_text (x1 : Int32) (x2 : Int32) (x3 : Int32) (x4 : Int32) (x5 : Int32) (s0 : g_St) {o : Int32 × g_St} (hm : m_Fix s0) (h : f_M_text (some 1) x1 x2 x3 x4 x5 s0 = some o) : z_W [1, 321] [1044] s0 o.2 := by
  unfold f_M_text at h
  have hs0 : z_W [1, 321] [1044] s0 s0 := z_W.re
  refine fr_pI h (fun h => ?_)
  have hs1 := z_W.pI hs0 (k := 1) (by decide) 0
  exact hs1.trans (w_M_text_14 _ _ _ _ _ _ _ _ _ _ (hs1.fx hm) h)
theorem w_M_isCapital (x0 : Int32) (s0 : g_St) {o : Int32 × g_St} (hm : m_Fix s0) (h : f_M_isCapital x0 s0 = some o) : z_W [] [] s0 o.2 := by
  unfold f_M_isCapital at h
  have hs0 : z_W [] [] s0 s0 := z_W.re
  refine fr_if h (fun h => ?_) (fun h => ?_)
  · exact fr_rZ h (fun h => fr_some h hs0)
  · refine fr_if h (fun h => ?_) (fun h => ?_)
    · exact fr_rZ h (fun h => fr_some h hs0)
    · exact fr_rZ h (fun h => fr_some h hs0)
theorem w_M_isSmall (x0 : Int32) (s0 : g_St) {o : Int32 × g_St} (hm : m_Fix s0) (h : f_M_isSmall x0 s0 = some o) : z_W [] [] s0 o.2 := by
  unfold f_M_isSmall at h
  have hs0 : z_W [] [] s0 s0 := z_W.re
  refine fr_if h (fun h => ?_) (fun h => ?_)
  · exact fr_rZ h (fun h => fr_some h hs0)
  · refine fr_if h (fun h => ?_) (fun h => ?_)
    · exact fr_rZ h (fun h => fr_some h hs0)
    · exact fr_rZ h (fun h => fr_some h hs0)
theorem w_M_isDigit (x0 : Int32) (s0 : g_St) {o : Int32 × g_St} (hm : m_Fix s0) (h : f_M_isDigit x0 s0 = some o) : z_W [] [] s0 o.2 := by
  unfold f_M_isDigit at h
  have hs0 : z_W [] [] s0 s0 := z_W.re
  refine fr_if h (fun h => ?_) (fun h => ?_)
  · exact fr_rZ h (fun h => fr_some h hs0)
  · refine fr_if h (fun h => ?_) (fun h => ?_)
    · exact fr_rZ h (fun h => fr_some h hs0)
    · exact fr_rZ h (fun h => fr_some h hs0)
theorem w_M_letter (x1 : Int32) (s0 : g_St) {o : Int32 × g_St} (hm : m_Fix s0) (h : f_M_letter (some 1) x1 s0 = some o) : z_W [] [] s0 o.2 := by
  unfold f_M_letter at h
  have hs0 : z_W [] [] s0 s0 := z_W.re
  refine fr_gI h (fun i1 h => ?_)
  refine fr_if h (fun h => ?_) (fun h => ?_)
  · exact fr_some h hs0
  · refine fr_gR (hs0.fx hm _ m_k385).1 h (fun h => ?_)
    refine fr_aI h (fun i3 h => ?_)
    exact fr_some h hs0
theorem w_M_scanKeyword_52 : ∀ (n : Nat) (x1 : Int32) (x2 : Int32) (y3 : Int64) (x5 : Int32) (s0 : g_St) {o : Int32 × g_St}, m_Fix s0 → f_M_scanKeyword_52 n (some 1) x1 x2 y3 x5 s0 = some o → z_W [] [1108] s0 o.2 := by
  intro n
  induction n with
  | zero =>
    intro x1 x2 y3 x5 s0 o hm h
    rw [f_M_scanKeyword_52] at h
    cases h
  | succ n ih =>
    intro x1 x2 y3 x5 s0 o hm h
    rw [f_M_scanKeyword_52] at h
    have hs0 : z_W [] [1108] s0 s0 := z_W.re
    refine fr_if h (fun h => ?_) (fun h => ?_)
    · exact fr_some h hs0
    · refine fr_gR (hs0.fx hm _ m_k449).1 h (fun h => ?_)
      refine fr_aL h (fun j2 h => ?_)
      refine fr_if h (fun h => ?_) (fun h => ?_)
      · refine fr_if h (fun h => ?_) (fun h => ?_)
        · exact hs0.trans (ih _ _ _ _ _ (hs0.fx hm) h)
        · refine fr_gR (hs0.fx hm _ m_k641).1 h (fun h => ?_)
          refine fr_gI h (fun i4 h => ?_)
          refine fr_sI h (fun j1 h => ?_)
          have hs1 := z_W.sI hs0 (a := 1108) (by decide) j1 x5
          exact hs1.trans (ih _ _ _ _ _ (hs1.fx hm) h)
      · exact hs0.trans (ih _ _ _ _ _ (hs0.fx hm) h)
theorem w_M_scanKeyword_4 : ∀ (n : Nat) (x1 : Int32) (x2 : Int32) (y3 : Int64) (s0 : g_St) {o : Int32 × g_St}, m_Fix s0 → f_M_scanKeyword_4 n (some 1) x1 x2 y3 s0 = some o → z_W [] [1108] s0 o.2 := by
  intro n
  induction n with
  | zero =>
    intro x1 x2 y3 s0 o hm h
    rw [f_M_scanKeyword_4] at h
    cases h
  | succ n ih =>
    intro x1 x2 y3 s0 o hm h
    rw [f_M_scanKeyword_4] at h
    have hs0 : z_W [] [1108] s0 s0 := z_W.re
    refine fr_c h (fun i1 s2 hc h => ?_)
    have hs1 := hs0.trans ((w_M_letter _ _ (hs0.fx hm) (er_nn hc)).mono (by decide) (by decide))
    refine fr_c h (fun i3 s4 hc h => ?_)
    have hs2 := hs1.trans ((w_M_isCapital _ _ (hs1.fx hm) hc).mono (by decide) (by decide))
    refine fr_if h (fun h => ?_) (fun h => ?_)
    · refine fr_gR (hs2.fx hm _ m_k641).1 h (fun h => ?_)
      refine fr_gI h (fun i6 h => ?_)
      refine fr_sI h (fun j3 h => ?_)
      have hs3 := z_W.sI hs2 (a := 1108) (by decide) j3 0
      exact hs3.trans (w_M_scanKeyword_52 _ _ _ _ _ _ (hs3.fx hm) h)
    · refine fr_if h (fun h => ?_) (fun h => ?_)
      · exact hs2.trans (ih _ _ _ _ (hs2.fx hm) h)
      · refine fr_c h (fun i8 s9 hc h => ?_)
        have hs4 := hs2.trans ((w_M_letter _ _ (hs2.fx hm) (er_nn hc)).mono (by decide) (by decide))
        refine fr_c h (fun j10 s11 hc h => ?_)
        have hs5 := hs4.trans ((w_M_longer _ _ _ (hs4.fx hm) hc).mono (by decide) (by decide))
        exact hs5.trans (ih _ _ _ _ (hs5.fx hm) h)
theorem w_M_scanKeyword (x1 : Int32) (s0 : g_St) {o : Int32 × g_St} (hm : m_Fix s0) (h : f_M_scanKeyword (some 1) x1 s0 = some o) : z_W [] [1108] s0 o.2 := by
  unfold f_M_scanKeyword at h
  have hs0 : z_W [] [1108] s0 s0 := z_W.re
  exact hs0.trans (w_M_scanKeyword_4 _ _ _ _ _ (hs0.fx hm) h)
theorem w_M_scanName_26 {k4 : Option Nat → Int32 → Int32 → Int64 → g_St → Option (Int32 × g_St)} (hk4 : ∀ (y1 : Int32) (y2 : Int32) (y3 : Int64) (s : g_St) {o : Int32 × g_St}, m_Fix s → k4 (some 1) y1 y2 y3 s = some o → z_W [] [725, 1108] s o.2) (x1 : Int32) (x2 : Int32) (y3 : Int64) (s0 : g_St) {o : Int32 × g_St} (hm : m_Fix s0) (h : f_M_scanName_26 k4 (some 1) x1 x2 y3 s0 = some o) : z_W [] [725, 1108] s0 o.2 := by
  unfold f_M_scanName_26 at h
  have hs0 : z_W [] [725, 1108] s0 s0 := z_W.re
  refine fr_if h (fun h => ?_) (fun h => ?_)
  · exact hs0.trans (hk4 _ _ _ _ (hs0.fx hm) h)
  · refine fr_c h (fun i1 s2 hc h => ?_)
    have hs1 := hs0.trans ((w_M_letter _ _ (hs0.fx hm) (er_nn hc)).mono (by decide) (by decide))
    refine fr_c h (fun i3 s4 hc h => ?_)
    have hs2 := hs1.trans ((w_M_isDigit _ _ (hs1.fx hm) hc).mono (by decide) (by decide))
    refine fr_if h (fun h => ?_) (fun h => ?_)
    · refine fr_c h (fun i5 s6 hc h => ?_)
      have hs3 := hs2.trans ((w_M_letter _ _ (hs2.fx hm) (er_nn hc)).mono (by decide) (by decide))
      exact hs3.trans (hk4 _ _ _ _ (hs3.fx hm) h)
    · refine fr_c h (fun i7 s8 hc h => ?_)
      have hs4 := hs2.trans ((w_M_letter _ _ (hs2.fx hm) (er_nn hc)).mono (by decide) (by decide))
      exact hs4.trans (hk4 _ _ _ _ (hs4.fx hm) h)
theorem w_M_scanName_4 : ∀ (n : Nat) (x1 : Int32) (x2 : Int32) (y3 : Int64) (s0 : g_St) {o : Int32 × g_St}, m_Fix s0 → f_M_scanName_4 n (some 1) x1 x2 y3 s0 = some o → z_W [] [725, 1108] s0 o.2 := by
  intro n
  induction n with
  | zero =>
    intro x1 x2 y3 s0 o hm h
    rw [f_M_scanName_4] at h
    cases h
  | succ n ih =>
    intro x1 x2 y3 s0 o hm h
    rw [f_M_scanName_4] at h
    have hs0 : z_W [] [725, 1108] s0 s0 := z_W.re
    refine fr_c h (fun i1 s2 hc h => ?_)
    have hs1 := hs0.trans ((w_M_letter _ _ (hs0.fx hm) (er_nn hc)).mono (by decide) (by decide))
    refine fr_c h (fun i3 s4 hc h => ?_)
    have hs2 := hs1.trans ((w_M_isSmall _ _ (hs1.fx hm) hc).mono (by decide) (by decide))
    refine fr_if h (fun h => ?_) (fun h => ?_)
    · refine fr_c h (fun i5 s6 hc h => ?_)
      have hs3 := hs2.trans ((w_M_letter _ _ (hs2.fx hm) (er_nn hc)).mono (by decide) (by decide))
      refine fr_c h (fun i7 s8 hc h => ?_)
      have hs4 := hs3.trans ((w_M_isDigit _ _ (hs3.fx hm) hc).mono (by decide) (by decide))
      refine fr_if h (fun h => ?_) (fun h => ?_)
      · refine fr_gR (hs4.fx hm _ m_k641).1 h (fun h => ?_)
        refine fr_gI h (fun i10 h => ?_)
        refine fr_if h (fun h => ?_) (fun h => ?_)
        · refine fr_sI h (fun j5 h => ?_)
          have hs5 := z_W.sI hs4 (a := 1108) (by decide) j5 30
          refine fr_gR (hs5.fx hm _ m_k769).1 h (fun h => ?_)
          refine fr_gI h (fun i13 h => ?_)
          refine fr_sL h (fun j6 h => ?_)
          have hs6 := z_W.sL hs5 (a := 725) (by decide) j6 y3
          exact fr_some h hs6
        · refine fr_sI h (fun j7 h => ?_)
          have hs7 := z_W.sI hs4 (a := 1108) (by decide) j7 0
          refine fr_gR (hs7.fx hm _ m_k769).1 h (fun h => ?_)
          refine fr_gI h (fun i17 h => ?_)
          refine fr_sL h (fun j8 h => ?_)
          have hs8 := z_W.sL hs7 (a := 725) (by decide) j8 y3
          exact fr_some h hs8
      · exact hs4.trans (w_M_scanName_26 ih _ _ _ _ (hs4.fx hm) h)
    · exact hs2.trans (w_M_scanName_26 ih _ _ _ _ (hs2.fx hm) h)
theorem w_M_scanName (x1 : Int32) (s0 : g_St) {o : Int32 × g_St} (hm : m_Fix s0) (h : f_M_scanName (some 1) x1 s0 = some o) : z_W [] [725, 1108] s0 o.2 := by
  unfold f_M_scanName at h
  have hs0 : z_W [] [725, 1108] s0 s0 := z_W.re
  exact hs0.trans (w_M_scanName_4 _ _ _ _ _ (hs0.fx hm) h)
theorem w_M_scanNumber_4 : ∀ (n : Nat) (x1 : Int32) (x2 : Int32) (y3 : Int64) (s0 : g_St) {o : Int32 × g_St}, m_Fix s0 → f_M_scanNumber_4 n (some 1) x1 x2 y3 s0 = some o → z_W [] [725, 1108] s0 o.2 := by
  intro n
  induction n with
  | zero =>
    intro x1 x2 y3 s0 o hm h
    rw [f_M_scanNumber_4] at h
    cases h
  | succ n ih =>
    intro x1 x2 y3 s0 o hm h
    rw [f_M_scanNumber_4] at h
    have hs0 : z_W [] [725, 1108] s0 s0 := z_W.re
    refine fr_c h (fun i1 s2 hc h => ?_)
    have hs1 := hs0.trans ((w_M_letter _ _ (hs0.fx hm) (er_nn hc)).mono (by decide) (by decide))
    refine fr_c h (fun i3 s4 hc h => ?_)
    have hs2 := hs1.trans ((w_M_isDigit _ _ (hs1.fx hm) hc).mono (by decide) (by decide))
    refine fr_if h (fun h => ?_) (fun h => ?_)
    · refine fr_gR (hs2.fx hm _ m_k641).1 h (fun h => ?_)
      refine fr_gI h (fun i6 h => ?_)
      refine fr_if h (fun h => ?_) (fun h => ?_)
      · refine fr_sI h (fun j3 h => ?_)
        have hs3 := z_W.sI hs2 (a := 1108) (by decide) j3 31
        refine fr_gR (hs3.fx hm _ m_k769).1 h (fun h => ?_)
        refine fr_gI h (fun i9 h => ?_)
        refine fr_sL h (fun j4 h => ?_)
        have hs4 := z_W.sL hs3 (a := 725) (by decide) j4 y3
        exact fr_some h hs4
      · refine fr_sI h (fun j5 h => ?_)
        have hs5 := z_W.sI hs2 (a := 1108) (by decide) j5 0
        refine fr_gR (hs5.fx hm _ m_k769).1 h (fun h => ?_)
        refine fr_gI h (fun i13 h => ?_)
        refine fr_sL h (fun j6 h => ?_)
        have hs6 := z_W.sL hs5 (a := 725) (by decide) j6 y3
        exact fr_some h hs6
    · refine fr_if h (fun h => ?_) (fun h => ?_)
      · exact hs2.trans (ih _ _ _ _ (hs2.fx hm) h)
      · refine fr_c h (fun i15 s16 hc h => ?_)
        have hs7 := hs2.trans ((w_M_letter _ _ (hs2.fx hm) (er_nn hc)).mono (by decide) (by decide))
        exact hs7.trans (ih _ _ _ _ (hs7.fx hm) h)
theorem w_M_scanNumber (x1 : Int32) (s0 : g_St) {o : Int32 × g_St} (hm : m_Fix s0) (h : f_M_scanNumber (some 1) x1 s0 = some o) : z_W [] [725, 1108] s0 o.2 := by
  unfold f_M_scanNumber at h
  have hs0 : z_W [] [725, 1108] s0 s0 := z_W.re
  exact hs0.trans (w_M_scanNumber_4 _ _ _ _ _ (hs0.fx hm) h)
theorem w_M_scanSign_105 (x1 : Int32) (x2 : Int32) (x0s : Int32) (s0 : g_St) {o : Int32 × g_St} (hm : m_Fix s0) (h : f_M_scanSign_105 (some 1) x1 x2 x0s s0 = some o) : z_W [] [1108] s0 o.2 := by
  unfold f_M_scanSign_105 at h
  have hs0 : z_W [] [1108] s0 s0 := z_W.re
  refine fr_gR (hs0.fx hm _ m_k641).1 h (fun h => ?_)
  refine fr_gI h (fun i2 h => ?_)
  refine fr_if h (fun h => ?_) (fun h => ?_)
  · refine fr_sI h (fun j1 h => ?_)
    have hs1 := z_W.sI hs0 (a := 1108) (by decide) j1 0
    exact fr_some h hs1
  · refine fr_sI h (fun j2 h => ?_)
    have hs2 := z_W.sI hs0 (a := 1108) (by decide) j2 (100 + x2)
    exact fr_some h hs2
theorem w_M_scanSign_40 (x1 : Int32) (x2 : Int32) (s0 : g_St) {o : Int32 × g_St} (hm : m_Fix s0) (h : f_M_scanSign_40 (some 1) x1 x2 s0 = some o) : z_W [] [1108] s0 o.2 := by
  unfold f_M_scanSign_40 at h
  have hs0 : z_W [] [1108] s0 s0 := z_W.re
  refine fr_if h (fun h => ?_) (fun h => ?_)
  · exact hs0.trans (w_M_scanSign_105 _ _ _ _ (hs0.fx hm) h)
  · refine fr_if h (fun h => ?_) (fun h => ?_)
    · exact hs0.trans (w_M_scanSign_105 _ _ _ _ (hs0.fx hm) h)
    · refine fr_if h (fun h => ?_) (fun h => ?_)
      · exact hs0.trans (w_M_scanSign_105 _ _ _ _ (hs0.fx hm) h)
      · refine fr_if h (fun h => ?_) (fun h => ?_)
        · exact hs0.trans (w_M_scanSign_105 _ _ _ _ (hs0.fx hm) h)
        · refine fr_if h (fun h => ?_) (fun h => ?_)
          · exact hs0.trans (w_M_scanSign_105 _ _ _ _ (hs0.fx hm) h)
          · refine fr_if h (fun h => ?_) (fun h => ?_)
            · exact hs0.trans (w_M_scanSign_105 _ _ _ _ (hs0.fx hm) h)
            · refine fr_if h (fun h => ?_) (fun h => ?_)
              · exact hs0.trans (w_M_scanSign_105 _ _ _ _ (hs0.fx hm) h)
              · refine fr_if h (fun h => ?_) (fun h => ?_)
                · exact hs0.trans (w_M_scanSign_105 _ _ _ _ (hs0.fx hm) h)
                · refine fr_if h (fun h => ?_) (fun h => ?_)
                  · exact hs0.trans (w_M_scanSign_105 _ _ _ _ (hs0.fx hm) h)
                  · refine fr_if h (fun h => ?_) (fun h => ?_)
                    · exact hs0.trans (w_M_scanSign_105 _ _ _ _ (hs0.fx hm) h)
                    · exact hs0.trans (w_M_scanSign_105 _ _ _ _ (hs0.fx hm) h)
theorem w_M_scanSign (x1 : Int32) (s0 : g_St) {o : Int32 × g_St} (hm : m_Fix s0) (h : f_M_scanSign (some 1) x1 s0 = some o) : z_W [] [1108] s0 o.2 := by
  unfold f_M_scanSign at h
  have hs0 : z_W [] [1108] s0 s0 := z_W.re
  refine fr_gR (hs0.fx hm _ m_k385).1 h (fun h => ?_)
  refine fr_aI h (fun i2 h => ?_)
  refine fr_if h (fun h => ?_) (fun h => ?_)
  · refine fr_c h (fun i3 s4 hc h => ?_)
    have hs1 := hs0.trans ((w_M_letter _ _ (hs0.fx hm) (er_nn hc)).mono (by decide) (by decide))
    refine fr_if h (fun h => ?_) (fun h => ?_)
    · refine fr_gR (hs1.fx hm _ m_k641).1 h (fun h => ?_)
      refine fr_gI h (fun i6 h => ?_)
      refine fr_sI h (fun j2 h => ?_)
      have hs2 := z_W.sI hs1 (a := 1108) (by decide) j2 32
      exact fr_some h hs2
    · exact hs1.trans (w_M_scanSign_40 _ _ _ (hs1.fx hm) h)
  · exact hs0.trans (w_M_scanSign_40 _ _ _ (hs0.fx hm) h)
theorem w_M_scan_7 : ∀ (n : Nat) (x1 : Int32) (s0 : g_St) {o : Unit × g_St}, m_Fix s0 → f_M_scan_7 n (some 1) x1 s0 = some o → z_W [513] [725, 1108, 1172] s0 o.2 := by
  intro n
  induction n with
  | zero =>
    intro x1 s0 o hm h
    rw [f_M_scan_7] at h
    cases h
  | succ n ih =>
    intro x1 s0 o hm h
    rw [f_M_scan_7] at h
    have hs0 : z_W [513] [725, 1108, 1172] s0 s0 := z_W.re
    refine fr_gI h (fun i1 h => ?_)
    refine fr_if h (fun h => ?_) (fun h => ?_)
    · refine fr_gR (hs0.fx hm _ m_k641).1 h (fun h => ?_)
      refine fr_gI h (fun i3 h => ?_)
      refine fr_sI h (fun j1 h => ?_)
      have hs1 := z_W.sI hs0 (a := 1108) (by decide) j1 99
      refine fr_gR (hs1.fx hm _ m_k705).1 h (fun h => ?_)
      refine fr_gI h (fun i6 h => ?_)
      refine fr_gI h (fun i7 h => ?_)
      refine fr_sI h (fun j2 h => ?_)
      have hs2 := z_W.sI hs1 (a := 1172) (by decide) j2 i7
      exact fr_some h hs2
    · refine fr_gR (hs0.fx hm _ m_k385).1 h (fun h => ?_)
      refine fr_aI h (fun i10 h => ?_)
      refine fr_if h (fun h => ?_) (fun h => ?_)
      · exact hs0.trans (ih _ _ (hs0.fx hm) h)
      · refine fr_gR (hs0.fx hm _ m_k705).1 h (fun h => ?_)
        refine fr_gI h (fun i12 h => ?_)
        refine fr_sI h (fun j3 h => ?_)
        have hs3 := z_W.sI hs0 (a := 1172) (by decide) j3 x1
        refine fr_gR (hs3.fx hm _ m_k769).1 h (fun h => ?_)
        refine fr_gI h (fun i15 h => ?_)
        refine fr_sL h (fun j4 h => ?_)
        have hs4 := z_W.sL hs3 (a := 725) (by decide) j4 0
        refine fr_c h (fun i17 s18 hc h => ?_)
        have hs5 := hs4.trans ((w_M_isCapital _ _ (hs4.fx hm) hc).mono (by decide) (by decide))
        refine fr_if h (fun h => ?_) (fun h => ?_)
        · refine fr_c h (fun i19 s20 hc h => ?_)
          have hs6 := hs5.trans ((w_M_isSmall _ _ (hs5.fx hm) hc).mono (by decide) (by decide))
          refine fr_if h (fun h => ?_) (fun h => ?_)
          · refine fr_c h (fun i21 s22 hc h => ?_)
            have hs7 := hs6.trans ((w_M_isDigit _ _ (hs6.fx hm) hc).mono (by decide) (by decide))
            refine fr_if h (fun h => ?_) (fun h => ?_)
            · refine fr_c h (fun i23 s24 hc h => ?_)
              have hs8 := hs7.trans ((w_M_scanSign _ _ (hs7.fx hm) (er_nn hc)).mono (by decide) (by decide))
              refine fr_gI h (fun i25 h => ?_)
              refine fr_pI h (fun h => ?_)
              have hs9 := z_W.pI hs8 (k := 513) (by decide) (i25 + 1)
              exact hs9.trans (ih _ _ (hs9.fx hm) h)
            · refine fr_c h (fun i27 s28 hc h => ?_)
              have hs10 := hs7.trans ((w_M_scanNumber _ _ (hs7.fx hm) (er_nn hc)).mono (by decide) (by decide))
              refine fr_gI h (fun i29 h => ?_)
              refine fr_pI h (fun h => ?_)
              have hs11 := z_W.pI hs10 (k := 513) (by decide) (i29 + 1)
              exact hs11.trans (ih _ _ (hs11.fx hm) h)
          · refine fr_c h (fun i31 s32 hc h => ?_)
            have hs12 := hs6.trans ((w_M_scanName _ _ (hs6.fx hm) (er_nn hc)).mono (by decide) (by decide))
            refine fr_gI h (fun i33 h => ?_)
            refine fr_pI h (fun h => ?_)
            have hs13 := z_W.pI hs12 (k := 513) (by decide) (i33 + 1)
            exact hs13.trans (ih _ _ (hs13.fx hm) h)
        · refine fr_c h (fun i35 s36 hc h => ?_)
          have hs14 := hs5.trans ((w_M_scanKeyword _ _ (hs5.fx hm) (er_nn hc)).mono (by decide) (by decide))
          refine fr_gI h (fun i37 h => ?_)
          refine fr_pI h (fun h => ?_)
          have hs15 := z_W.pI hs14 (k := 513) (by decide) (i37 + 1)
          exact hs15.trans (ih _ _ (hs15.fx hm) h)
theorem w_M_scan  (s0 : g_St) {o : Unit × g_St} (hm : m_Fix s0) (h : f_M_scan (some 1) s0 = some o) : z_W [513] [725, 1108, 1172] s0 o.2 := by
  unfold f_M_scan at h
  have hs0 : z_W [513] [725, 1108, 1172] s0 s0 := z_W.re
  refine fr_pI h (fun h => ?_)
  have hs1 := z_W.pI hs0 (k := 513) (by decide) 0
  exact hs1.trans (w_M_scan_7 _ _ _ (hs1.fx hm) h)
theorem w_M_note (x1 : Int32) (x2 : Int32) (s0 : g_St) {o : Unit × g_St} (hm : m_Fix s0) (h : f_M_note (some 1) x1 x2 s0 = some o) : z_W [833, 897] [] s0 o.2 := by
  unfold f_M_note at h
  have hs0 : z_W [833, 897] [] s0 s0 := z_W.re
  refine fr_gI h (fun i1 h => ?_)
  refine fr_if h (fun h => ?_) (fun h => ?_)
  · refine fr_pI h (fun h => ?_)
    have hs1 := z_W.pI hs0 (k := 833) (by decide) x1
    refine fr_pI h (fun h => ?_)
    have hs2 := z_W.pI hs1 (k := 897) (by decide) x2
    exact fr_some h hs2
  · refine fr_gI h (fun i4 h => ?_)
    refine fr_if h (fun h => ?_) (fun h => ?_)
    · exact fr_some h hs0
    · refine fr_gI h (fun i5 h => ?_)
      refine fr_if h (fun h => ?_) (fun h => ?_)
      · refine fr_gI h (fun i8 h => ?_)
        refine fr_if h (fun h => ?_) (fun h => ?_)
        · refine fr_pI h (fun h => ?_)
          have hs3 := z_W.pI hs0 (k := 833) (by decide) x1
          refine fr_pI h (fun h => ?_)
          have hs4 := z_W.pI hs3 (k := 897) (by decide) x2
          exact fr_some h hs4
        · exact fr_some h hs0
      · refine fr_pI h (fun h => ?_)
        have hs5 := z_W.pI hs0 (k := 833) (by decide) x1
        refine fr_pI h (fun h => ?_)
        have hs6 := z_W.pI hs5 (k := 897) (by decide) x2
        exact fr_some h hs6
theorem w_M_bad  (s0 : g_St) {o : Int32 × g_St} (hm : m_Fix s0) (h : f_M_bad (some 1) s0 = some o) : z_W [] [] s0 o.2 := by
  unfold f_M_bad at h
  have hs0 : z_W [] [] s0 s0 := z_W.re
  refine fr_gI h (fun i1 h => ?_)
  refine fr_if h (fun h => ?_) (fun h => ?_)
  · exact fr_rZ h (fun h => fr_some h hs0)
  · exact fr_rZ h (fun h => fr_some h hs0)
theorem w_M_is (x1 : Int32) (s0 : g_St) {o : Int32 × g_St} (hm : m_Fix s0) (h : f_M_is (some 1) x1 s0 = some o) : z_W [] [] s0 o.2 := by
  unfold f_M_is at h
  have hs0 : z_W [] [] s0 s0 := z_W.re
  refine fr_c h (fun i1 s2 hc h => ?_)
  have hs1 := hs0.trans ((w_M_bad _ (hs0.fx hm) (er_nn hc)).mono (by decide) (by decide))
  refine fr_if h (fun h => ?_) (fun h => ?_)
  · refine fr_gR (hs1.fx hm _ m_k641).1 h (fun h => ?_)
    refine fr_gI h (fun i4 h => ?_)
    refine fr_aI h (fun i5 h => ?_)
    refine fr_if h (fun h => ?_) (fun h => ?_)
    · exact fr_rZ h (fun h => fr_some h hs1)
    · exact fr_rZ h (fun h => fr_some h hs1)
  · exact fr_rZ h (fun h => fr_some h hs1)
theorem w_M_isSign (x1 : Int32) (s0 : g_St) {o : Int32 × g_St} (hm : m_Fix s0) (h : f_M_isSign (some 1) x1 s0 = some o) : z_W [] [] s0 o.2 := by
  unfold f_M_isSign at h
  have hs0 : z_W [] [] s0 s0 := z_W.re
  refine fr_c h (fun i1 s2 hc h => ?_)
  have hs1 := hs0.trans ((w_M_is _ _ (hs0.fx hm) (er_nn hc)).mono (by decide) (by decide))
  exact fr_rZ h (fun h => fr_some h hs1)
theorem w_M_need (x1 : Int32) (s0 : g_St) {o : Int32 × g_St} (hm : m_Fix s0) (h : f_M_need (some 1) x1 s0 = some o) : z_W [577, 833, 897] [] s0 o.2 := by
  unfold f_M_need at h
  have hs0 : z_W [577, 833, 897] [] s0 s0 := z_W.re
  refine fr_c h (fun i1 s2 hc h => ?_)
  have hs1 := hs0.trans ((w_M_is _ _ (hs0.fx hm) (er_nn hc)).mono (by decide) (by decide))
  refine fr_if h (fun h => ?_) (fun h => ?_)
  · refine fr_c h (fun i3 s4 hc h => ?_)
    have hs2 := hs1.trans ((w_M_bad _ (hs1.fx hm) (er_nn hc)).mono (by decide) (by decide))
    refine fr_if h (fun h => ?_) (fun h => ?_)
    · refine fr_gR (hs2.fx hm _ m_k705).1 h (fun h => ?_)
      refine fr_gI h (fun i7 h => ?_)
      refine fr_aI h (fun i8 h => ?_)
      refine fr_c h (fun v3 s10 hc h => ?_)
      have hs3 := hs2.trans ((w_M_note _ _ _ (hs2.fx hm) (er_nn hc)).mono (by decide) (by decide))
      refine fr_gI h (fun i11 h => ?_)
      exact fr_some h hs3
    · refine fr_gI h (fun i5 h => ?_)
      exact fr_some h hs2
  · refine fr_gI h (fun i12 h => ?_)
    refine fr_pI h (fun h => ?_)
    have hs4 := z_W.pI hs1 (k := 577) (by decide) (i12 + 1)
    refine fr_gI h (fun i14 h => ?_)
    exact fr_some h hs4
theorem w_M_needSign (x1 : Int32) (s0 : g_St) {o : Unit × g_St} (hm : m_Fix s0) (h : f_M_needSign (some 1) x1 s0 = some o) : z_W [577, 833, 897] [] s0 o.2 := by
  unfold f_M_needSign at h
  have hs0 : z_W [577, 833, 897] [] s0 s0 := z_W.re
  refine fr_c h (fun i1 s2 hc h => ?_)
  have hs1 := hs0.trans ((w_M_need _ _ (hs0.fx hm) (er_nn hc)).mono (by decide) (by decide))
  exact fr_some h hs1
theorem w_M_skip (x1 : Int32) (s0 : g_St) {o : Int32 × g_St} (hm : m_Fix s0) (h : f_M_skip (some 1) x1 s0 = some o) : z_W [577] [] s0 o.2 := by
  unfold f_M_skip at h
  have hs0 : z_W [577] [] s0 s0 := z_W.re
  refine fr_c h (fun i1 s2 hc h => ?_)
  have hs1 := hs0.trans ((w_M_is _ _ (hs0.fx hm) (er_nn hc)).mono (by decide) (by decide))
  refine fr_gI h (fun i3 h => ?_)
  refine fr_if h (fun h => ?_) (fun h => ?_)
  · refine fr_pI h (fun h => ?_)
    have hs2 := z_W.pI hs1 (k := 577) (by decide) (i3 + 0)
    exact fr_rZ h (fun h => fr_some h hs2)
  · refine fr_pI h (fun h => ?_)
    have hs3 := z_W.pI hs1 (k := 577) (by decide) (i3 + 1)
    exact fr_rZ h (fun h => fr_some h hs3)
theorem w_M_skipSign (x1 : Int32) (s0 : g_St) {o : Int32 × g_St} (hm : m_Fix s0) (h : f_M_skipSign (some 1) x1 s0 = some o) : z_W [577] [] s0 o.2 := by
  unfold f_M_skipSign at h
  have hs0 : z_W [577] [] s0 s0 := z_W.re
  refine fr_c h (fun i1 s2 hc h => ?_)
  have hs1 := hs0.trans ((w_M_skip _ _ (hs0.fx hm) (er_nn hc)).mono (by decide) (by decide))
  exact fr_rZ h (fun h => fr_some h hs1)
theorem w_M_readOperand_64 (x2 : Int32) (x1s : Int32) (x2s : Int32) (s0 : g_St) {o : Unit × g_St} (hm : m_Fix s0) (h : f_M_readOperand_64 (some 1) x2 (some 2772) x1s x2s s0 = some o) : z_W [577, 833, 897, 3073] [2772, 2836, 2900] s0 o.2 := by
  unfold f_M_readOperand_64 at h
  have hs0 : z_W [577, 833, 897, 3073] [2772, 2836, 2900] s0 s0 := z_W.re
  refine fr_sI h (fun j1 h => ?_)
  have hs1 := z_W.sI hs0 (a := 2772) (by decide) j1 x2s
  refine fr_gR (hs1.fx hm _ m_k3265).1 h (fun h => ?_)
  refine fr_aI h (fun i3 h => ?_)
  refine fr_if h (fun h => ?_) (fun h => ?_)
  · refine fr_c h (fun i4 s5 hc h => ?_)
    have hs2 := hs1.trans ((w_M_need _ _ (hs1.fx hm) (er_nn hc)).mono (by decide) (by decide))
    refine fr_c h (fun v3 s7 hc h => ?_)
    have hs3 := hs2.trans ((w_M_needSign _ _ (hs2.fx hm) (er_nn hc)).mono (by decide) (by decide))
    refine fr_c h (fun i8 s9 hc h => ?_)
    have hs4 := hs3.trans ((w_M_need _ _ (hs3.fx hm) (er_nn hc)).mono (by decide) (by decide))
    exact fr_some h hs4
  · refine fr_gI h (fun i10 h => ?_)
    refine fr_pI h (fun h => ?_)
    have hs5 := z_W.pI hs1 (k := 577) (by decide) (i10 + 1)
    exact fr_some h hs5
theorem w_M_readOperand (x1 : Int32) (s0 : g_St) {o : Unit × g_St} (hm : m_Fix s0) (h : f_M_readOperand (some 1) x1 s0 = some o) : z_W [577, 833, 897, 3073] [2772, 2836, 2900] s0 o.2 := by
  unfold f_M_readOperand at h
  have hs0 : z_W [577, 833, 897, 3073] [2772, 2836, 2900] s0 s0 := z_W.re
  refine fr_gI h (fun i1 h => ?_)
  refine fr_gI h (fun i2 h => ?_)
  refine fr_pI h (fun h => ?_)
  have hs1 := z_W.pI hs0 (k := 3073) (by decide) (i2 + 1)
  refine fr_gR (hs1.fx hm _ m_k3329).1 h (fun h => ?_)
  refine fr_sI h (fun j2 h => ?_)
  have hs2 := z_W.sI hs1 (a := 2836) (by decide) j2 x1
  refine fr_gR (hs2.fx hm _ m_k3393).1 h (fun h => ?_)
  refine fr_gI h (fun i7 h => ?_)
  refine fr_sI h (fun j3 h => ?_)
  have hs3 := z_W.sI hs2 (a := 2900) (by decide) j3 i7
  refine fr_gR (hs3.fx hm _ m_k3265).1 h (fun h => ?_)
  refine fr_c h (fun i10 s11 hc h => ?_)
  have hs4 := hs3.trans ((w_M_is _ _ (hs3.fx hm) (er_nn hc)).mono (by decide) (by decide))
  refine fr_if h (fun h => ?_) (fun h => ?_)
  · refine fr_c h (fun i12 s13 hc h => ?_)
    have hs5 := hs4.trans ((w_M_is _ _ (hs4.fx hm) (er_nn hc)).mono (by decide) (by decide))
    refine fr_if h (fun h => ?_) (fun h => ?_)
    · exact hs5.trans (w_M_readOperand_64 _ _ _ _ (hs5.fx hm) h)
    · exact hs5.trans (w_M_readOperand_64 _ _ _ _ (hs5.fx hm) h)
  · exact hs4.trans (w_M_readOperand_64 _ _ _ _ (hs4.fx hm) h)
theorem w_M_readExpression_95 {k36 : Option Nat → Int32 → Int32 → Int32 → g_St → Option (Int32 × g_St)} (hk36 : ∀ (y1 : Int32) (y2 : Int32) (y3 : Int32) (s : g_St) {o : Int32 × g_St}, m_Fix s → k36 (some 1) y1 y2 y3 s = some o → z_W [577, 833, 897, 3009, 3073] [2644, 2708, 2772, 2836, 2900] s o.2) (x1 : Int32) (x2 : Int32) (x0s : Int32) (s0 : g_St) {o : Int32 × g_St} (hm : m_Fix s0) (h : f_M_readExpression_95 k36 (some 1) x1 x2 x0s s0 = some o) : z_W [577, 833, 897, 3009, 3073] [2644, 2708, 2772, 2836, 2900] s0 o.2 := by
  unfold f_M_readExpression_95 at h
  have hs0 : z_W [577, 833, 897, 3009, 3073] [2644, 2708, 2772, 2836, 2900] s0 s0 := z_W.re
  refine fr_if h (fun h => ?_) (fun h => ?_)
  · exact hs0.trans (hk36 _ _ _ _ (hs0.fx hm) h)
  · refine fr_c h (fun i1 s2 hc h => ?_)
    have hs1 := hs0.trans ((w_M_isSign _ _ (hs0.fx hm) (er_nn hc)).mono (by decide) (by decide))
    refine fr_if h (fun h => ?_) (fun h => ?_)
    · refine fr_gI h (fun i3 h => ?_)
      refine fr_pI h (fun h => ?_)
      have hs2 := z_W.pI hs1 (k := 577) (by decide) (i3 + 1)
      exact hs2.trans (hk36 _ _ _ _ (hs2.fx hm) h)
    · refine fr_gI h (fun i5 h => ?_)
      refine fr_pI h (fun h => ?_)
      have hs3 := z_W.pI hs1 (k := 577) (by decide) (i5 + 1)
      exact hs3.trans (hk36 _ _ _ _ (hs3.fx hm) h)
theorem w_M_readExpression_36 : ∀ (n : Nat) (x1 : Int32) (x2 : Int32) (x3 : Int32) (s0 : g_St) {o : Int32 × g_St}, m_Fix s0 → f_M_readExpression_36 n (some 1) x1 x2 x3 s0 = some o → z_W [577, 833, 897, 3009, 3073] [2644, 2708, 2772, 2836, 2900] s0 o.2 := by
  intro n
  induction n with
  | zero =>
    intro x1 x2 x3 s0 o hm h
    rw [f_M_readExpression_36] at h
    cases h
  | succ n ih =>
    intro x1 x2 x3 s0 o hm h
    rw [f_M_readExpression_36] at h
    have hs0 : z_W [577, 833, 897, 3009, 3073] [2644, 2708, 2772, 2836, 2900] s0 s0 := z_W.re
    refine fr_if h (fun h => ?_) (fun h => ?_)
    · exact fr_some h hs0
    · refine fr_c h (fun i1 s2 hc h => ?_)
      have hs1 := hs0.trans ((w_M_bad _ (hs0.fx hm) (er_nn hc)).mono (by decide) (by decide))
      refine fr_if h (fun h => ?_) (fun h => ?_)
      · refine fr_c h (fun v2 s4 hc h => ?_)
        have hs2 := hs1.trans ((w_M_readOperand _ _ (hs1.fx hm) (er_nn hc)).mono (by decide) (by decide))
        refine fr_gR (hs2.fx hm _ m_k3201).1 h (fun h => ?_)
        refine fr_aI h (fun i6 h => ?_)
        refine fr_sI h (fun j3 h => ?_)
        have hs3 := z_W.sI hs2 (a := 2708) (by decide) j3 (i6 + 1)
        refine fr_gR (hs3.fx hm _ m_k3201).1 h (fun h => ?_)
        refine fr_aI h (fun i9 h => ?_)
        refine fr_if h (fun h => ?_) (fun h => ?_)
        · exact hs3.trans (w_M_readExpression_95 ih _ _ _ _ (hs3.fx hm) h)
        · refine fr_c h (fun i10 s11 hc h => ?_)
          have hs4 := hs3.trans ((w_M_isSign _ _ (hs3.fx hm) (er_nn hc)).mono (by decide) (by decide))
          refine fr_if h (fun h => ?_) (fun h => ?_)
          · refine fr_c h (fun i12 s13 hc h => ?_)
            have hs5 := hs4.trans ((w_M_isSign _ _ (hs4.fx hm) (er_nn hc)).mono (by decide) (by decide))
            refine fr_if h (fun h => ?_) (fun h => ?_)
            · exact hs5.trans (w_M_readExpression_95 ih _ _ _ _ (hs5.fx hm) h)
            · exact hs5.trans (w_M_readExpression_95 ih _ _ _ _ (hs5.fx hm) h)
          · exact hs4.trans (w_M_readExpression_95 ih _ _ _ _ (hs4.fx hm) h)
      · exact fr_some h hs1
theorem w_M_readExpression  (s0 : g_St) {o : Int32 × g_St} (hm : m_Fix s0) (h : f_M_readExpression (some 1) s0 = some o) : z_W [577, 833, 897, 3009, 3073] [2644, 2708, 2772, 2836, 2900] s0 o.2 := by
  unfold f_M_readExpression at h
  have hs0 : z_W [577, 833, 897, 3009, 3073] [2644, 2708, 2772, 2836, 2900] s0 s0 := z_W.re
  refine fr_gI h (fun i1 h => ?_)
  refine fr_gI h (fun i2 h => ?_)
  refine fr_pI h (fun h => ?_)
  have hs1 := z_W.pI hs0 (k := 3009) (by decide) (i2 + 1)
  refine fr_gR (hs1.fx hm _ m_k3137).1 h (fun h => ?_)
  refine fr_gI h (fun i5 h => ?_)
  refine fr_sI h (fun j2 h => ?_)
  have hs2 := z_W.sI hs1 (a := 2644) (by decide) j2 i5
  refine fr_gR (hs2.fx hm _ m_k3201).1 h (fun h => ?_)
  refine fr_sI h (fun j3 h => ?_)
  have hs3 := z_W.sI hs2 (a := 2708) (by decide) j3 0
  exact hs3.trans (w_M_readExpression_36 _ _ _ _ _ (hs3.fx hm) h)
theorem w_M_readItem_165 (x1 : Int32) (s0 : g_St) {o : Unit × g_St} (hm : m_Fix s0) (h : f_M_readItem_165 (some 1) x1 s0 = some o) : z_W [577, 833, 897, 2817, 3009, 3073] [159, 2196, 2516, 2580, 2644, 2708, 2772, 2836, 2900] s0 o.2 := by
  unfold f_M_readItem_165 at h
  have hs0 : z_W [577, 833, 897, 2817, 3009, 3073] [159, 2196, 2516, 2580, 2644, 2708, 2772, 2836, 2900] s0 s0 := z_W.re
  refine fr_gI h (fun i1 h => ?_)
  refine fr_pI h (fun h => ?_)
  have hs1 := z_W.pI hs0 (k := 2817) (by decide) (i1 + 1)
  refine fr_gR (hs1.fx hm _ m_k2433).1 h (fun h => ?_)
  refine fr_aI h (fun i4 h => ?_)
  refine fr_sI h (fun j2 h => ?_)
  have hs2 := z_W.sI hs1 (a := 2196) (by decide) j2 (i4 + 1)
  exact fr_some h hs2
theorem w_M_readItem_130 (x1 : Int32) (x2 : Int32) (s0 : g_St) {o : Unit × g_St} (hm : m_Fix s0) (h : f_M_readItem_130 (some 1) x1 x2 s0 = some o) : z_W [577, 833, 897, 2817, 3009, 3073] [159, 2196, 2516, 2580, 2644, 2708, 2772, 2836, 2900] s0 o.2 := by
  unfold f_M_readItem_130 at h
  have hs0 : z_W [577, 833, 897, 2817, 3009, 3073] [159, 2196, 2516, 2580, 2644, 2708, 2772, 2836, 2900] s0 s0 := z_W.re
  refine fr_if h (fun h => ?_) (fun h => ?_)
  · exact hs0.trans (w_M_readItem_165 _ _ (hs0.fx hm) h)
  · refine fr_if h (fun h => ?_) (fun h => ?_)
    · exact hs0.trans (w_M_readItem_165 _ _ (hs0.fx hm) h)
    · refine fr_c h (fun v1 s2 hc h => ?_)
      have hs1 := hs0.trans ((w_M_needSign _ _ (hs0.fx hm) (er_nn hc)).mono (by decide) (by decide))
      refine fr_gR (hs1.fx hm _ m_k2881).1 h (fun h => ?_)
      refine fr_gI h (fun i4 h => ?_)
      refine fr_sI h (fun j2 h => ?_)
      have hs2 := z_W.sI hs1 (a := 2516) (by decide) j2 x2
      refine fr_gR (hs2.fx hm _ m_k2753).1 h (fun h => ?_)
      refine fr_sZ h (fun j3 h => ?_)
      have hs3 := z_W.sI hs2 (a := 159) (by decide) j3 1
      exact hs3.trans (w_M_readItem_165 _ _ (hs3.fx hm) h)
theorem w_M_readItem_115 (x1 : Int32) (s0 : g_St) {o : Unit × g_St} (hm : m_Fix s0) (h : f_M_readItem_115 (some 1) x1 s0 = some o) : z_W [577, 833, 897, 2817, 3009, 3073] [159, 2196, 2516, 2580, 2644, 2708, 2772, 2836, 2900] s0 o.2 := by
  unfold f_M_readItem_115 at h
  have hs0 : z_W [577, 833, 897, 2817, 3009, 3073] [159, 2196, 2516, 2580, 2644, 2708, 2772, 2836, 2900] s0 s0 := z_W.re
  refine fr_gR (hs0.fx hm _ m_k2945).1 h (fun h => ?_)
  refine fr_gI h (fun i2 h => ?_)
  refine fr_c h (fun i3 s4 hc h => ?_)
  have hs1 := hs0.trans ((w_M_readExpression _ (hs0.fx hm) (er_nn hc)).mono (by decide) (by decide))
  refine fr_sI h (fun j2 h => ?_)
  have hs2 := z_W.sI hs1 (a := 2580) (by decide) j2 i3
  exact hs2.trans (w_M_readItem_130 _ _ _ (hs2.fx hm) h)
theorem w_M_readItem (x1 : Int32) (s0 : g_St) {o : Unit × g_St} (hm : m_Fix s0) (h : f_M_readItem (some 1) x1 s0 = some o) : z_W [577, 833, 897, 2817, 3009, 3073] [159, 2196, 2516, 2580, 2644, 2708, 2772, 2836, 2900] s0 o.2 := by
  unfold f_M_readItem at h
  have hs0 : z_W [577, 833, 897, 2817, 3009, 3073] [159, 2196, 2516, 2580, 2644, 2708, 2772, 2836, 2900] s0 s0 := z_W.re
  refine fr_gR (hs0.fx hm _ m_k641).1 h (fun h => ?_)
  refine fr_gI h (fun i2 h => ?_)
  refine fr_aI h (fun i3 h => ?_)
  refine fr_gR (hs0.fx hm _ m_k2881).1 h (fun h => ?_)
  refine fr_gI h (fun i5 h => ?_)
  refine fr_sI h (fun j1 h => ?_)
  have hs1 := z_W.sI hs0 (a := 2516) (by decide) j1 0
  refine fr_c h (fun i7 s8 hc h => ?_)
  have hs2 := hs1.trans ((w_M_is _ _ (hs1.fx hm) (er_nn hc)).mono (by decide) (by decide))
  refine fr_if h (fun h => ?_) (fun h => ?_)
  · refine fr_c h (fun i9 s10 hc h => ?_)
    have hs3 := hs2.trans ((w_M_bad _ (hs2.fx hm) (er_nn hc)).mono (by decide) (by decide))
    refine fr_if h (fun h => ?_) (fun h => ?_)
    · refine fr_if h (fun h => ?_) (fun h => ?_)
      · exact hs3.trans (w_M_readItem_115 _ _ (hs3.fx hm) h)
      · refine fr_if h (fun h => ?_) (fun h => ?_)
        · exact hs3.trans (w_M_readItem_115 _ _ (hs3.fx hm) h)
        · refine fr_gI h (fun i11 h => ?_)
          refine fr_pI h (fun h => ?_)
          have hs4 := z_W.pI hs3 (k := 577) (by decide) (i11 + 1)
          refine fr_c h (fun v5 s14 hc h => ?_)
          have hs5 := hs4.trans ((w_M_needSign _ _ (hs4.fx hm) (er_nn hc)).mono (by decide) (by decide))
          refine fr_gR (hs5.fx hm _ m_k2945).1 h (fun h => ?_)
          refine fr_gI h (fun i16 h => ?_)
          refine fr_c h (fun i17 s18 hc h => ?_)
          have hs6 := hs5.trans ((w_M_readExpression _ (hs5.fx hm) (er_nn hc)).mono (by decide) (by decide))
          refine fr_sI h (fun j7 h => ?_)
          have hs7 := z_W.sI hs6 (a := 2580) (by decide) j7 i17
          exact hs7.trans (w_M_readItem_130 _ _ _ (hs7.fx hm) h)
    · exact hs3.trans (w_M_readItem_115 _ _ (hs3.fx hm) h)
  · refine fr_gI h (fun i20 h => ?_)
    refine fr_pI h (fun h => ?_)
    have hs8 := z_W.pI hs2 (k := 577) (by decide) (i20 + 1)
    refine fr_c h (fun v9 s23 hc h => ?_)
    have hs9 := hs8.trans ((w_M_needSign _ _ (hs8.fx hm) (er_nn hc)).mono (by decide) (by decide))
    refine fr_c h (fun v10 s25 hc h => ?_)
    have hs10 := hs9.trans ((w_M_needSign _ _ (hs9.fx hm) (er_nn hc)).mono (by decide) (by decide))
    refine fr_gR (hs10.fx hm _ m_k2945).1 h (fun h => ?_)
    refine fr_gI h (fun i27 h => ?_)
    refine fr_sI h (fun j11 h => ?_)
    have hs11 := z_W.sI hs10 (a := 2580) (by decide) j11 (-1)
    exact hs11.trans (w_M_readItem_130 _ _ _ (hs11.fx hm) h)
theorem w_M_readSource  (s0 : g_St) {o : Unit × g_St} (hm : m_Fix s0) (h : f_M_readSource (some 1) s0 = some o) : z_W [577, 833, 897, 3585] [3092, 3156] s0 o.2 := by
  unfold f_M_readSource at h
  have hs0 : z_W [577, 833, 897, 3585] [3092, 3156] s0 s0 := z_W.re
  refine fr_gR (hs0.fx hm _ m_k3649).1 h (fun h => ?_)
  refine fr_gI h (fun i2 h => ?_)
  refine fr_c h (fun i3 s4 hc h => ?_)
  have hs1 := hs0.trans ((w_M_need _ _ (hs0.fx hm) (er_nn hc)).mono (by decide) (by decide))
  refine fr_sI h (fun j2 h => ?_)
  have hs2 := z_W.sI hs1 (a := 3092) (by decide) j2 i3
  refine fr_gR (hs2.fx hm _ m_k3713).1 h (fun h => ?_)
  refine fr_gI h (fun i7 h => ?_)
  refine fr_c h (fun i8 s9 hc h => ?_)
  have hs3 := hs2.trans ((w_M_need _ _ (hs2.fx hm) (er_nn hc)).mono (by decide) (by decide))
  refine fr_sI h (fun j4 h => ?_)
  have hs4 := z_W.sI hs3 (a := 3156) (by decide) j4 i8
  refine fr_gI h (fun i11 h => ?_)
  refine fr_pI h (fun h => ?_)
  have hs5 := z_W.pI hs4 (k := 3585) (by decide) (i11 + 1)
  exact fr_some h hs5
theorem w_M_readCondition_144 (x2 : Int32) (s0 : g_St) {o : Int32 × g_St} (hm : m_Fix s0) (h : f_M_readCondition_144 (some 1) x2 s0 = some o) : z_W [577, 833, 897, 3009, 3073, 3841] [2644, 2708, 2772, 2836, 2900, 3284, 3348, 3412, 3476] s0 o.2 := by
  unfold f_M_readCondition_144 at h
  have hs0 : z_W [577, 833, 897, 3009, 3073, 3841] [2644, 2708, 2772, 2836, 2900, 3284, 3348, 3412, 3476] s0 s0 := z_W.re
  refine fr_gR (hs0.fx hm _ m_k4097).1 h (fun h => ?_)
  refine fr_c h (fun i2 s3 hc h => ?_)
  have hs1 := hs0.trans ((w_M_readExpression _ (hs0.fx hm) (er_nn hc)).mono (by decide) (by decide))
  refine fr_sI h (fun j2 h => ?_)
  have hs2 := z_W.sI hs1 (a := 3476) (by decide) j2 i2
  exact fr_some h hs2
theorem w_M_readCondition  (s0 : g_St) {o : Int32 × g_St} (hm : m_Fix s0) (h : f_M_readCondition (some 1) s0 = some o) : z_W [577, 833, 897, 3009, 3073, 3841] [2644, 2708, 2772, 2836, 2900, 3284, 3348, 3412, 3476] s0 o.2 := by
  unfold f_M_readCondition at h
  have hs0 : z_W [577, 833, 897, 3009, 3073, 3841] [2644, 2708, 2772, 2836, 2900, 3284, 3348, 3412, 3476] s0 s0 := z_W.re
  refine fr_c h (fun i1 s2 hc h => ?_)
  have hs1 := hs0.trans ((w_M_readExpression _ (hs0.fx hm) (er_nn hc)).mono (by decide) (by decide))
  refine fr_gI h (fun i3 h => ?_)
  refine fr_gI h (fun i4 h => ?_)
  refine fr_pI h (fun h => ?_)
  have hs2 := z_W.pI hs1 (k := 3841) (by decide) (i4 + 1)
  refine fr_gR (hs2.fx hm _ m_k4033).1 h (fun h => ?_)
  refine fr_sI h (fun j3 h => ?_)
  have hs3 := z_W.sI hs2 (a := 3412) (by decide) j3 i1
  refine fr_c h (fun i8 s9 hc h => ?_)
  have hs4 := hs3.trans ((w_M_skip _ _ (hs3.fx hm) (er_nn hc)).mono (by decide) (by decide))
  refine fr_if h (fun h => ?_) (fun h => ?_)
  · refine fr_gR (hs4.fx hm _ m_k3905).1 h (fun h => ?_)
    refine fr_sI h (fun j5 h => ?_)
    have hs5 := z_W.sI hs4 (a := 3284) (by decide) j5 0
    refine fr_gR (hs5.fx hm _ m_k3969).1 h (fun h => ?_)
    refine fr_gR (hs5.fx hm _ m_k641).1 h (fun h => ?_)
    refine fr_gI h (fun i14 h => ?_)
    refine fr_aI h (fun i15 h => ?_)
    refine fr_sI h (fun j6 h => ?_)
    have hs6 := z_W.sI hs5 (a := 3348) (by decide) j6 i15
    refine fr_c h (fun i17 s18 hc h => ?_)
    have hs7 := hs6.trans ((w_M_isSign _ _ (hs6.fx hm) (er_nn hc)).mono (by decide) (by decide))
    refine fr_if h (fun h => ?_) (fun h => ?_)
    · refine fr_c h (fun i21 s22 hc h => ?_)
      have hs8 := hs7.trans ((w_M_isSign _ _ (hs7.fx hm) (er_nn hc)).mono (by decide) (by decide))
      refine fr_if h (fun h => ?_) (fun h => ?_)
      · refine fr_c h (fun i25 s26 hc h => ?_)
        have hs9 := hs8.trans ((w_M_isSign _ _ (hs8.fx hm) (er_nn hc)).mono (by decide) (by decide))
        refine fr_if h (fun h => ?_) (fun h => ?_)
        · refine fr_c h (fun i29 s30 hc h => ?_)
          have hs10 := hs9.trans ((w_M_is _ _ (hs9.fx hm) (er_nn hc)).mono (by decide) (by decide))
          refine fr_if h (fun h => ?_) (fun h => ?_)
          · refine fr_c h (fun i31 s32 hc h => ?_)
            have hs11 := hs10.trans ((w_M_bad _ (hs10.fx hm) (er_nn hc)).mono (by decide) (by decide))
            refine fr_if h (fun h => ?_) (fun h => ?_)
            · refine fr_gR (hs11.fx hm _ m_k705).1 h (fun h => ?_)
              refine fr_gI h (fun i34 h => ?_)
              refine fr_aI h (fun i35 h => ?_)
              refine fr_c h (fun v12 s37 hc h => ?_)
              have hs12 := hs11.trans ((w_M_note _ _ _ (hs11.fx hm) (er_nn hc)).mono (by decide) (by decide))
              exact hs12.trans (w_M_readCondition_144 _ _ (hs12.fx hm) h)
            · exact hs11.trans (w_M_readCondition_144 _ _ (hs11.fx hm) h)
          · refine fr_gI h (fun i38 h => ?_)
            refine fr_pI h (fun h => ?_)
            have hs13 := z_W.pI hs10 (k := 577) (by decide) (i38 + 1)
            exact hs13.trans (w_M_readCondition_144 _ _ (hs13.fx hm) h)
        · refine fr_gI h (fun i27 h => ?_)
          refine fr_pI h (fun h => ?_)
          have hs14 := z_W.pI hs9 (k := 577) (by decide) (i27 + 1)
          exact hs14.trans (w_M_readCondition_144 _ _ (hs14.fx hm) h)
      · refine fr_gI h (fun i23 h => ?_)
        refine fr_pI h (fun h => ?_)
        have hs15 := z_W.pI hs8 (k := 577) (by decide) (i23 + 1)
        exact hs15.trans (w_M_readCondition_144 _ _ (hs15.fx hm) h)
    · refine fr_gI h (fun i19 h => ?_)
      refine fr_pI h (fun h => ?_)
      have hs16 := z_W.pI hs7 (k := 577) (by decide) (i19 + 1)
      exact hs16.trans (w_M_readCondition_144 _ _ (hs16.fx hm) h)
  · refine fr_c h (fun i40 s41 hc h => ?_)
    have hs17 := hs4.trans ((w_M_need _ _ (hs4.fx hm) (er_nn hc)).mono (by decide) (by decide))
    refine fr_gR (hs17.fx hm _ m_k3905).1 h (fun h => ?_)
    refine fr_sI h (fun j18 h => ?_)
    have hs18 := z_W.sI hs17 (a := 3284) (by decide) j18 1
    exact fr_some h hs18
theorem w_M_readNotExists_201 (x1 : Int32) (s0 : g_St) {o : Int32 × g_St} (hm : m_Fix s0) (h : f_M_readNotExists_201 (some 1) x1 s0 = some o) : z_W [577, 833, 897, 3009, 3073, 3585, 3841] [2644, 2708, 2772, 2836, 2900, 3092, 3156, 3284, 3348, 3412, 3476, 3540, 3604, 3668] s0 o.2 := by
  unfold f_M_readNotExists_201 at h
  have hs0 : z_W [577, 833, 897, 3009, 3073, 3585, 3841] [2644, 2708, 2772, 2836, 2900, 3092, 3156, 3284, 3348, 3412, 3476, 3540, 3604, 3668] s0 s0 := z_W.re
  refine fr_c h (fun v1 s2 hc h => ?_)
  have hs1 := hs0.trans ((w_M_needSign _ _ (hs0.fx hm) (er_nn hc)).mono (by decide) (by decide))
  exact fr_some h hs1
theorem w_M_readNotExists_133 : ∀ (n : Nat) (x1 : Int32) (x2 : Int32) (s0 : g_St) {o : Int32 × g_St}, m_Fix s0 → f_M_readNotExists_133 n (some 1) x1 x2 s0 = some o → z_W [577, 833, 897, 3009, 3073, 3585, 3841] [2644, 2708, 2772, 2836, 2900, 3092, 3156, 3284, 3348, 3412, 3476, 3540, 3604, 3668] s0 o.2 := by
  intro n
  induction n with
  | zero =>
    intro x1 x2 s0 o hm h
    rw [f_M_readNotExists_133] at h
    cases h
  | succ n ih =>
    intro x1 x2 s0 o hm h
    rw [f_M_readNotExists_133] at h
    have hs0 : z_W [577, 833, 897, 3009, 3073, 3585, 3841] [2644, 2708, 2772, 2836, 2900, 3092, 3156, 3284, 3348, 3412, 3476, 3540, 3604, 3668] s0 s0 := z_W.re
    refine fr_if h (fun h => ?_) (fun h => ?_)
    · exact hs0.trans (w_M_readNotExists_201 _ _ (hs0.fx hm) h)
    · refine fr_c h (fun i1 s2 hc h => ?_)
      have hs1 := hs0.trans ((w_M_bad _ (hs0.fx hm) (er_nn hc)).mono (by decide) (by decide))
      refine fr_if h (fun h => ?_) (fun h => ?_)
      · refine fr_gR (hs1.fx hm _ m_k4289).1 h (fun h => ?_)
        refine fr_gR (hs1.fx hm _ m_k4225).1 h (fun h => ?_)
        refine fr_aI h (fun i5 h => ?_)
        refine fr_c h (fun i6 s7 hc h => ?_)
        have hs2 := hs1.trans ((w_M_readCondition _ (hs1.fx hm) (er_nn hc)).mono (by decide) (by decide))
        refine fr_sI h (fun j3 h => ?_)
        have hs3 := z_W.sI hs2 (a := 3668) (by decide) j3 i6
        refine fr_gR (hs3.fx hm _ m_k4225).1 h (fun h => ?_)
        refine fr_aI h (fun i10 h => ?_)
        refine fr_sI h (fun j4 h => ?_)
        have hs4 := z_W.sI hs3 (a := 3604) (by decide) j4 (i10 + 1)
        refine fr_gR (hs4.fx hm _ m_k4225).1 h (fun h => ?_)
        refine fr_aI h (fun i13 h => ?_)
        refine fr_if h (fun h => ?_) (fun h => ?_)
        · exact hs4.trans (ih _ _ _ (hs4.fx hm) h)
        · refine fr_c h (fun i14 s15 hc h => ?_)
          have hs5 := hs4.trans ((w_M_skip _ _ (hs4.fx hm) (er_nn hc)).mono (by decide) (by decide))
          refine fr_if h (fun h => ?_) (fun h => ?_)
          · exact hs5.trans (ih _ _ _ (hs5.fx hm) h)
          · exact hs5.trans (ih _ _ _ (hs5.fx hm) h)
      · exact hs1.trans (w_M_readNotExists_201 _ _ (hs1.fx hm) h)
theorem w_M_readNotExists_95 (x1 : Int32) (s0 : g_St) {o : Int32 × g_St} (hm : m_Fix s0) (h : f_M_readNotExists_95 (some 1) x1 s0 = some o) : z_W [577, 833, 897, 3009, 3073, 3585, 3841] [2644, 2708, 2772, 2836, 2900, 3092, 3156, 3284, 3348, 3412, 3476, 3540, 3604, 3668] s0 o.2 := by
  unfold f_M_readNotExists_95 at h
  have hs0 : z_W [577, 833, 897, 3009, 3073, 3585, 3841] [2644, 2708, 2772, 2836, 2900, 3092, 3156, 3284, 3348, 3412, 3476, 3540, 3604, 3668] s0 s0 := z_W.re
  refine fr_c h (fun i1 s2 hc h => ?_)
  have hs1 := hs0.trans ((w_M_need _ _ (hs0.fx hm) (er_nn hc)).mono (by decide) (by decide))
  refine fr_c h (fun i3 s4 hc h => ?_)
  have hs2 := hs1.trans ((w_M_need _ _ (hs1.fx hm) (er_nn hc)).mono (by decide) (by decide))
  refine fr_gR (hs2.fx hm _ m_k4161).1 h (fun h => ?_)
  refine fr_gI h (fun i6 h => ?_)
  refine fr_sI h (fun j3 h => ?_)
  have hs3 := z_W.sI hs2 (a := 3540) (by decide) j3 i6
  refine fr_c h (fun v4 s9 hc h => ?_)
  have hs4 := hs3.trans ((w_M_readSource _ (hs3.fx hm) (er_nn hc)).mono (by decide) (by decide))
  refine fr_c h (fun i10 s11 hc h => ?_)
  have hs5 := hs4.trans ((w_M_skip _ _ (hs4.fx hm) (er_nn hc)).mono (by decide) (by decide))
  refine fr_if h (fun h => ?_) (fun h => ?_)
  · exact hs5.trans (w_M_readNotExists_201 _ _ (hs5.fx hm) h)
  · exact hs5.trans (w_M_readNotExists_133 _ _ _ _ (hs5.fx hm) h)
theorem w_M_readNotExists  (s0 : g_St) {o : Int32 × g_St} (hm : m_Fix s0) (h : f_M_readNotExists (some 1) s0 = some o) : z_W [577, 833, 897, 3009, 3073, 3585, 3841] [2644, 2708, 2772, 2836, 2900, 3092, 3156, 3284, 3348, 3412, 3476, 3540, 3604, 3668] s0 o.2 := by
  unfold f_M_readNotExists at h
  have hs0 : z_W [577, 833, 897, 3009, 3073, 3585, 3841] [2644, 2708, 2772, 2836, 2900, 3092, 3156, 3284, 3348, 3412, 3476, 3540, 3604, 3668] s0 s0 := z_W.re
  refine fr_gI h (fun i1 h => ?_)
  refine fr_pI h (fun h => ?_)
  have hs1 := z_W.pI hs0 (k := 577) (by decide) (i1 + 1)
  refine fr_gI h (fun i3 h => ?_)
  refine fr_gI h (fun i4 h => ?_)
  refine fr_pI h (fun h => ?_)
  have hs2 := z_W.pI hs1 (k := 3841) (by decide) (i4 + 1)
  refine fr_gR (hs2.fx hm _ m_k3905).1 h (fun h => ?_)
  refine fr_sI h (fun j3 h => ?_)
  have hs3 := z_W.sI hs2 (a := 3284) (by decide) j3 2
  refine fr_gR (hs3.fx hm _ m_k4225).1 h (fun h => ?_)
  refine fr_sI h (fun j4 h => ?_)
  have hs4 := z_W.sI hs3 (a := 3604) (by decide) j4 0
  refine fr_c h (fun i10 s11 hc h => ?_)
  have hs5 := hs4.trans ((w_M_need _ _ (hs4.fx hm) (er_nn hc)).mono (by decide) (by decide))
  refine fr_c h (fun v6 s13 hc h => ?_)
  have hs6 := hs5.trans ((w_M_needSign _ _ (hs5.fx hm) (er_nn hc)).mono (by decide) (by decide))
  refine fr_c h (fun i14 s15 hc h => ?_)
  have hs7 := hs6.trans ((w_M_need _ _ (hs6.fx hm) (er_nn hc)).mono (by decide) (by decide))
  refine fr_c h (fun i16 s17 hc h => ?_)
  have hs8 := hs7.trans ((w_M_is _ _ (hs7.fx hm) (er_nn hc)).mono (by decide) (by decide))
  refine fr_if h (fun h => ?_) (fun h => ?_)
  · exact hs8.trans (w_M_readNotExists_95 _ _ (hs8.fx hm) h)
  · refine fr_gR (hs8.fx hm _ m_k769).1 h (fun h => ?_)
    refine fr_gI h (fun i19 h => ?_)
    refine fr_aL h (fun j20 h => ?_)
    refine fr_if h (fun h => ?_) (fun h => ?_)
    · exact hs8.trans (w_M_readNotExists_95 _ _ (hs8.fx hm) h)
    · refine fr_gR (hs8.fx hm _ m_k705).1 h (fun h => ?_)
      refine fr_gI h (fun i22 h => ?_)
      refine fr_aI h (fun i23 h => ?_)
      refine fr_c h (fun v9 s25 hc h => ?_)
      have hs9 := hs8.trans ((w_M_note _ _ _ (hs8.fx hm) (er_nn hc)).mono (by decide) (by decide))
      exact hs9.trans (w_M_readNotExists_95 _ _ (hs9.fx hm) h)
theorem w_M_readSelection_255 {k209 : Option Nat → Int32 → Int32 → g_St → Option (Unit × g_St)} (hk209 : ∀ (y1 : Int32) (y2 : Int32) (s : g_St) {o : Unit × g_St}, m_Fix s → k209 (some 1) y1 y2 s = some o → z_W [577, 833, 897, 2177, 2817, 3009, 3073, 3585, 3841] [159, 2004, 2068, 2132, 2196, 2260, 2324, 2388, 2452, 2516, 2580, 2644, 2708, 2772, 2836, 2900, 3092, 3156, 3284, 3348, 3412, 3476, 3540, 3604, 3668] s o.2) (x2 : Int32) (x1s : Int32) (x2s : Int32) (s0 : g_St) {o : Unit × g_St} (hm : m_Fix s0) (h : f_M_readSelection_255 k209 (some 1) x2 (some 2452) x1s x2s s0 = some o) : z_W [577, 833, 897, 2177, 2817, 3009, 3073, 3585, 3841] [159, 2004, 2068, 2132, 2196, 2260, 2324, 2388, 2452, 2516, 2580, 2644, 2708, 2772, 2836, 2900, 3092, 3156, 3284, 3348, 3412, 3476, 3540, 3604, 3668] s0 o.2 := by
  unfold f_M_readSelection_255 at h
  have hs0 : z_W [577, 833, 897, 2177, 2817, 3009, 3073, 3585, 3841] [159, 2004, 2068, 2132, 2196, 2260, 2324, 2388, 2452, 2516, 2580, 2644, 2708, 2772, 2836, 2900, 3092, 3156, 3284, 3348, 3412, 3476, 3540, 3604, 3668] s0 s0 := z_W.re
  refine fr_sI h (fun j1 h => ?_)
  have hs1 := z_W.sI hs0 (a := 2452) (by decide) j1 x2s
  refine fr_gR (hs1.fx hm _ m_k2625).1 h (fun h => ?_)
  refine fr_aI h (fun i3 h => ?_)
  refine fr_sI h (fun j2 h => ?_)
  have hs2 := z_W.sI hs1 (a := 2388) (by decide) j2 (i3 + 1)
  refine fr_gR (hs2.fx hm _ m_k2625).1 h (fun h => ?_)
  refine fr_aI h (fun i6 h => ?_)
  refine fr_if h (fun h => ?_) (fun h => ?_)
  · exact hs2.trans (hk209 _ _ _ (hs2.fx hm) h)
  · refine fr_c h (fun i7 s8 hc h => ?_)
    have hs3 := hs2.trans ((w_M_skip _ _ (hs2.fx hm) (er_nn hc)).mono (by decide) (by decide))
    refine fr_if h (fun h => ?_) (fun h => ?_)
    · exact hs3.trans (hk209 _ _ _ (hs3.fx hm) h)
    · exact hs3.trans (hk209 _ _ _ (hs3.fx hm) h)
theorem w_M_readSelection_209 : ∀ (n : Nat) (x2 : Int32) (x3 : Int32) (s0 : g_St) {o : Unit × g_St}, m_Fix s0 → f_M_readSelection_209 n (some 1) x2 x3 s0 = some o → z_W [577, 833, 897, 2177, 2817, 3009, 3073, 3585, 3841] [159, 2004, 2068, 2132, 2196, 2260, 2324, 2388, 2452, 2516, 2580, 2644, 2708, 2772, 2836, 2900, 3092, 3156, 3284, 3348, 3412, 3476, 3540, 3604, 3668] s0 o.2 := by
  intro n
  induction n with
  | zero =>
    intro x2 x3 s0 o hm h
    rw [f_M_readSelection_209] at h
    cases h
  | succ n ih =>
    intro x2 x3 s0 o hm h
    rw [f_M_readSelection_209] at h
    have hs0 : z_W [577, 833, 897, 2177, 2817, 3009, 3073, 3585, 3841] [159, 2004, 2068, 2132, 2196, 2260, 2324, 2388, 2452, 2516, 2580, 2644, 2708, 2772, 2836, 2900, 3092, 3156, 3284, 3348, 3412, 3476, 3540, 3604, 3668] s0 s0 := z_W.re
    refine fr_if h (fun h => ?_) (fun h => ?_)
    · refine fr_gI h (fun i1 h => ?_)
      refine fr_pI h (fun h => ?_)
      have hs1 := z_W.pI hs0 (k := 2177) (by decide) (i1 + 1)
      exact fr_some h hs1
    · refine fr_c h (fun i3 s4 hc h => ?_)
      have hs2 := hs0.trans ((w_M_bad _ (hs0.fx hm) (er_nn hc)).mono (by decide) (by decide))
      refine fr_if h (fun h => ?_) (fun h => ?_)
      · refine fr_gR (hs2.fx hm _ m_k2689).1 h (fun h => ?_)
        refine fr_gR (hs2.fx hm _ m_k2625).1 h (fun h => ?_)
        refine fr_aI h (fun i9 h => ?_)
        refine fr_c h (fun i10 s11 hc h => ?_)
        have hs3 := hs2.trans ((w_M_is _ _ (hs2.fx hm) (er_nn hc)).mono (by decide) (by decide))
        refine fr_if h (fun h => ?_) (fun h => ?_)
        · refine fr_c h (fun i12 s13 hc h => ?_)
          have hs4 := hs3.trans ((w_M_readCondition _ (hs3.fx hm) (er_nn hc)).mono (by decide) (by decide))
          exact hs4.trans (w_M_readSelection_255 ih _ _ _ _ (hs4.fx hm) h)
        · refine fr_c h (fun i14 s15 hc h => ?_)
          have hs5 := hs3.trans ((w_M_readNotExists _ (hs3.fx hm) (er_nn hc)).mono (by decide) (by decide))
          exact hs5.trans (w_M_readSelection_255 ih _ _ _ _ (hs5.fx hm) h)
      · refine fr_gI h (fun i5 h => ?_)
        refine fr_pI h (fun h => ?_)
        have hs6 := z_W.pI hs2 (k := 2177) (by decide) (i5 + 1)
        exact fr_some h hs6
theorem w_M_readSelection_191 (x2 : Int32) (s0 : g_St) {o : Unit × g_St} (hm : m_Fix s0) (h : f_M_readSelection_191 (some 1) x2 s0 = some o) : z_W [577, 833, 897, 2177, 2817, 3009, 3073, 3585, 3841] [159, 2004, 2068, 2132, 2196, 2260, 2324, 2388, 2452, 2516, 2580, 2644, 2708, 2772, 2836, 2900, 3092, 3156, 3284, 3348, 3412, 3476, 3540, 3604, 3668] s0 o.2 := by
  unfold f_M_readSelection_191 at h
  have hs0 : z_W [577, 833, 897, 2177, 2817, 3009, 3073, 3585, 3841] [159, 2004, 2068, 2132, 2196, 2260, 2324, 2388, 2452, 2516, 2580, 2644, 2708, 2772, 2836, 2900, 3092, 3156, 3284, 3348, 3412, 3476, 3540, 3604, 3668] s0 s0 := z_W.re
  refine fr_gR (hs0.fx hm _ m_k2625).1 h (fun h => ?_)
  refine fr_sI h (fun j1 h => ?_)
  have hs1 := z_W.sI hs0 (a := 2388) (by decide) j1 0
  refine fr_c h (fun i3 s4 hc h => ?_)
  have hs2 := hs1.trans ((w_M_skip _ _ (hs1.fx hm) (er_nn hc)).mono (by decide) (by decide))
  refine fr_if h (fun h => ?_) (fun h => ?_)
  · refine fr_gI h (fun i5 h => ?_)
    refine fr_pI h (fun h => ?_)
    have hs3 := z_W.pI hs2 (k := 2177) (by decide) (i5 + 1)
    exact fr_some h hs3
  · exact hs2.trans (w_M_readSelection_209 _ _ _ _ (hs2.fx hm) h)
theorem w_M_readSelection_138 : ∀ (n : Nat) (x2 : Int32) (x3 : Int32) (s0 : g_St) {o : Unit × g_St}, m_Fix s0 → f_M_readSelection_138 n (some 1) x2 x3 s0 = some o → z_W [577, 833, 897, 2177, 2817, 3009, 3073, 3585, 3841] [159, 2004, 2068, 2132, 2196, 2260, 2324, 2388, 2452, 2516, 2580, 2644, 2708, 2772, 2836, 2900, 3092, 3156, 3284, 3348, 3412, 3476, 3540, 3604, 3668] s0 o.2 := by
  intro n
  induction n with
  | zero =>
    intro x2 x3 s0 o hm h
    rw [f_M_readSelection_138] at h
    cases h
  | succ n ih =>
    intro x2 x3 s0 o hm h
    rw [f_M_readSelection_138] at h
    have hs0 : z_W [577, 833, 897, 2177, 2817, 3009, 3073, 3585, 3841] [159, 2004, 2068, 2132, 2196, 2260, 2324, 2388, 2452, 2516, 2580, 2644, 2708, 2772, 2836, 2900, 3092, 3156, 3284, 3348, 3412, 3476, 3540, 3604, 3668] s0 s0 := z_W.re
    refine fr_if h (fun h => ?_) (fun h => ?_)
    · exact hs0.trans (w_M_readSelection_191 _ _ (hs0.fx hm) h)
    · refine fr_c h (fun i1 s2 hc h => ?_)
      have hs1 := hs0.trans ((w_M_bad _ (hs0.fx hm) (er_nn hc)).mono (by decide) (by decide))
      refine fr_if h (fun h => ?_) (fun h => ?_)
      · refine fr_c h (fun v2 s4 hc h => ?_)
        have hs2 := hs1.trans ((w_M_readSource _ (hs1.fx hm) (er_nn hc)).mono (by decide) (by decide))
        refine fr_gR (hs2.fx hm _ m_k2561).1 h (fun h => ?_)
        refine fr_aI h (fun i6 h => ?_)
        refine fr_sI h (fun j3 h => ?_)
        have hs3 := z_W.sI hs2 (a := 2324) (by decide) j3 (i6 + 1)
        refine fr_gR (hs3.fx hm _ m_k2561).1 h (fun h => ?_)
        refine fr_aI h (fun i9 h => ?_)
        refine fr_if h (fun h => ?_) (fun h => ?_)
        · exact hs3.trans (ih _ _ _ (hs3.fx hm) h)
        · refine fr_c h (fun i10 s11 hc h => ?_)
          have hs4 := hs3.trans ((w_M_skipSign _ _ (hs3.fx hm) (er_nn hc)).mono (by decide) (by decide))
          refine fr_if h (fun h => ?_) (fun h => ?_)
          · exact hs4.trans (ih _ _ _ (hs4.fx hm) h)
          · exact hs4.trans (ih _ _ _ (hs4.fx hm) h)
      · exact hs1.trans (w_M_readSelection_191 _ _ (hs1.fx hm) h)
theorem w_M_readSelection_111 (x2 : Int32) (s0 : g_St) {o : Unit × g_St} (hm : m_Fix s0) (h : f_M_readSelection_111 (some 1) x2 s0 = some o) : z_W [577, 833, 897, 2177, 2817, 3009, 3073, 3585, 3841] [159, 2004, 2068, 2132, 2196, 2260, 2324, 2388, 2452, 2516, 2580, 2644, 2708, 2772, 2836, 2900, 3092, 3156, 3284, 3348, 3412, 3476, 3540, 3604, 3668] s0 o.2 := by
  unfold f_M_readSelection_111 at h
  have hs0 : z_W [577, 833, 897, 2177, 2817, 3009, 3073, 3585, 3841] [159, 2004, 2068, 2132, 2196, 2260, 2324, 2388, 2452, 2516, 2580, 2644, 2708, 2772, 2836, 2900, 3092, 3156, 3284, 3348, 3412, 3476, 3540, 3604, 3668] s0 s0 := z_W.re
  refine fr_gR (hs0.fx hm _ m_k2497).1 h (fun h => ?_)
  refine fr_gI h (fun i2 h => ?_)
  refine fr_sI h (fun j1 h => ?_)
  have hs1 := z_W.sI hs0 (a := 2260) (by decide) j1 i2
  refine fr_gR (hs1.fx hm _ m_k2561).1 h (fun h => ?_)
  refine fr_sI h (fun j2 h => ?_)
  have hs2 := z_W.sI hs1 (a := 2324) (by decide) j2 0
  refine fr_c h (fun i6 s7 hc h => ?_)
  have hs3 := hs2.trans ((w_M_skip _ _ (hs2.fx hm) (er_nn hc)).mono (by decide) (by decide))
  refine fr_if h (fun h => ?_) (fun h => ?_)
  · exact hs3.trans (w_M_readSelection_191 _ _ (hs3.fx hm) h)
  · exact hs3.trans (w_M_readSelection_138 _ _ _ _ (hs3.fx hm) h)
theorem w_M_readSelection_67 : ∀ (n : Nat) (x2 : Int32) (x3 : Int32) (s0 : g_St) {o : Unit × g_St}, m_Fix s0 → f_M_readSelection_67 n (some 1) x2 x3 s0 = some o → z_W [577, 833, 897, 2177, 2817, 3009, 3073, 3585, 3841] [159, 2004, 2068, 2132, 2196, 2260, 2324, 2388, 2452, 2516, 2580, 2644, 2708, 2772, 2836, 2900, 3092, 3156, 3284, 3348, 3412, 3476, 3540, 3604, 3668] s0 o.2 := by
  intro n
  induction n with
  | zero =>
    intro x2 x3 s0 o hm h
    rw [f_M_readSelection_67] at h
    cases h
  | succ n ih =>
    intro x2 x3 s0 o hm h
    rw [f_M_readSelection_67] at h
    have hs0 : z_W [577, 833, 897, 2177, 2817, 3009, 3073, 3585, 3841] [159, 2004, 2068, 2132, 2196, 2260, 2324, 2388, 2452, 2516, 2580, 2644, 2708, 2772, 2836, 2900, 3092, 3156, 3284, 3348, 3412, 3476, 3540, 3604, 3668] s0 s0 := z_W.re
    refine fr_if h (fun h => ?_) (fun h => ?_)
    · exact hs0.trans (w_M_readSelection_111 _ _ (hs0.fx hm) h)
    · refine fr_c h (fun i1 s2 hc h => ?_)
      have hs1 := hs0.trans ((w_M_bad _ (hs0.fx hm) (er_nn hc)).mono (by decide) (by decide))
      refine fr_if h (fun h => ?_) (fun h => ?_)
      · refine fr_c h (fun v2 s4 hc h => ?_)
        have hs2 := hs1.trans ((w_M_readItem _ _ (hs1.fx hm) (er_nn hc)).mono (by decide) (by decide))
        refine fr_gR (hs2.fx hm _ m_k2433).1 h (fun h => ?_)
        refine fr_aI h (fun i6 h => ?_)
        refine fr_if h (fun h => ?_) (fun h => ?_)
        · exact hs2.trans (ih _ _ _ (hs2.fx hm) h)
        · refine fr_c h (fun i7 s8 hc h => ?_)
          have hs3 := hs2.trans ((w_M_skipSign _ _ (hs2.fx hm) (er_nn hc)).mono (by decide) (by decide))
          refine fr_if h (fun h => ?_) (fun h => ?_)
          · exact hs3.trans (ih _ _ _ (hs3.fx hm) h)
          · exact hs3.trans (ih _ _ _ (hs3.fx hm) h)
      · exact hs1.trans (w_M_readSelection_111 _ _ (hs1.fx hm) h)
theorem w_M_readSelection (x1 : Int32) (s0 : g_St) {o : Unit × g_St} (hm : m_Fix s0) (h : f_M_readSelection (some 1) x1 s0 = some o) : z_W [577, 833, 897, 2177, 2817, 3009, 3073, 3585, 3841] [159, 2004, 2068, 2132, 2196, 2260, 2324, 2388, 2452, 2516, 2580, 2644, 2708, 2772, 2836, 2900, 3092, 3156, 3284, 3348, 3412, 3476, 3540, 3604, 3668] s0 o.2 := by
  unfold f_M_readSelection at h
  have hs0 : z_W [577, 833, 897, 2177, 2817, 3009, 3073, 3585, 3841] [159, 2004, 2068, 2132, 2196, 2260, 2324, 2388, 2452, 2516, 2580, 2644, 2708, 2772, 2836, 2900, 3092, 3156, 3284, 3348, 3412, 3476, 3540, 3604, 3668] s0 s0 := z_W.re
  refine fr_c h (fun i1 s2 hc h => ?_)
  have hs1 := hs0.trans ((w_M_bad _ (hs0.fx hm) (er_nn hc)).mono (by decide) (by decide))
  refine fr_if h (fun h => ?_) (fun h => ?_)
  · refine fr_gI h (fun i3 h => ?_)
    refine fr_gR (hs1.fx hm _ m_k2241).1 h (fun h => ?_)
    refine fr_sI h (fun j2 h => ?_)
    have hs2 := z_W.sI hs1 (a := 2004) (by decide) j2 x1
    refine fr_gR (hs2.fx hm _ m_k2305).1 h (fun h => ?_)
    refine fr_gR (hs2.fx hm _ m_k705).1 h (fun h => ?_)
    refine fr_gI h (fun i8 h => ?_)
    refine fr_aI h (fun i9 h => ?_)
    refine fr_sI h (fun j3 h => ?_)
    have hs3 := z_W.sI hs2 (a := 2068) (by decide) j3 i9
    refine fr_c h (fun i11 s12 hc h => ?_)
    have hs4 := hs3.trans ((w_M_need _ _ (hs3.fx hm) (er_nn hc)).mono (by decide) (by decide))
    refine fr_gR (hs4.fx hm _ m_k2369).1 h (fun h => ?_)
    refine fr_gI h (fun i14 h => ?_)
    refine fr_sI h (fun j5 h => ?_)
    have hs5 := z_W.sI hs4 (a := 2132) (by decide) j5 i14
    refine fr_gR (hs5.fx hm _ m_k2433).1 h (fun h => ?_)
    refine fr_sI h (fun j6 h => ?_)
    have hs6 := z_W.sI hs5 (a := 2196) (by decide) j6 0
    refine fr_gR (hs6.fx hm _ m_k2753).1 h (fun h => ?_)
    refine fr_sZ h (fun j7 h => ?_)
    have hs7 := z_W.sI hs6 (a := 159) (by decide) j7 0
    exact hs7.trans (w_M_readSelection_67 _ _ _ _ (hs7.fx hm) h)
  · exact fr_some h hs1
theorem w_M_readTrails_97 (x1 : Int32) (s0 : g_St) {o : Unit × g_St} (hm : m_Fix s0) (h : f_M_readTrails_97 (some 1) x1 s0 = some o) : z_W [577, 833, 897] [1428, 1492, 1556, 1620, 1684] s0 o.2 := by
  unfold f_M_readTrails_97 at h
  have hs0 : z_W [577, 833, 897] [1428, 1492, 1556, 1620, 1684] s0 s0 := z_W.re
  refine fr_gR (hs0.fx hm _ m_k1601).1 h (fun h => ?_)
  refine fr_sI h (fun j1 h => ?_)
  have hs1 := z_W.sI hs0 (a := 1620) (by decide) j1 (-1)
  refine fr_c h (fun i3 s4 hc h => ?_)
  have hs2 := hs1.trans ((w_M_skip _ _ (hs1.fx hm) (er_nn hc)).mono (by decide) (by decide))
  refine fr_if h (fun h => ?_) (fun h => ?_)
  · exact fr_some h hs2
  · refine fr_gR (hs2.fx hm _ m_k1601).1 h (fun h => ?_)
    refine fr_c h (fun i6 s7 hc h => ?_)
    have hs3 := hs2.trans ((w_M_need _ _ (hs2.fx hm) (er_nn hc)).mono (by decide) (by decide))
    refine fr_sI h (fun j4 h => ?_)
    have hs4 := z_W.sI hs3 (a := 1620) (by decide) j4 i6
    refine fr_c h (fun i9 s10 hc h => ?_)
    have hs5 := hs4.trans ((w_M_need _ _ (hs4.fx hm) (er_nn hc)).mono (by decide) (by decide))
    refine fr_gR (hs5.fx hm _ m_k1665).1 h (fun h => ?_)
    refine fr_c h (fun i12 s13 hc h => ?_)
    have hs6 := hs5.trans ((w_M_need _ _ (hs5.fx hm) (er_nn hc)).mono (by decide) (by decide))
    refine fr_sI h (fun j7 h => ?_)
    have hs7 := z_W.sI hs6 (a := 1684) (by decide) j7 i12
    exact fr_some h hs7
theorem w_M_readTrails_52 (x1 : Int32) (s0 : g_St) {o : Unit × g_St} (hm : m_Fix s0) (h : f_M_readTrails_52 (some 1) x1 s0 = some o) : z_W [577, 833, 897] [1428, 1492, 1556, 1620, 1684] s0 o.2 := by
  unfold f_M_readTrails_52 at h
  have hs0 : z_W [577, 833, 897] [1428, 1492, 1556, 1620, 1684] s0 s0 := z_W.re
  refine fr_c h (fun i1 s2 hc h => ?_)
  have hs1 := hs0.trans ((w_M_need _ _ (hs0.fx hm) (er_nn hc)).mono (by decide) (by decide))
  refine fr_c h (fun i3 s4 hc h => ?_)
  have hs2 := hs1.trans ((w_M_need _ _ (hs1.fx hm) (er_nn hc)).mono (by decide) (by decide))
  refine fr_gR (hs2.fx hm _ m_k1473).1 h (fun h => ?_)
  refine fr_c h (fun i6 s7 hc h => ?_)
  have hs3 := hs2.trans ((w_M_need _ _ (hs2.fx hm) (er_nn hc)).mono (by decide) (by decide))
  refine fr_sI h (fun j4 h => ?_)
  have hs4 := z_W.sI hs3 (a := 1492) (by decide) j4 i6
  refine fr_c h (fun i9 s10 hc h => ?_)
  have hs5 := hs4.trans ((w_M_need _ _ (hs4.fx hm) (er_nn hc)).mono (by decide) (by decide))
  refine fr_gR (hs5.fx hm _ m_k1537).1 h (fun h => ?_)
  refine fr_c h (fun i12 s13 hc h => ?_)
  have hs6 := hs5.trans ((w_M_need _ _ (hs5.fx hm) (er_nn hc)).mono (by decide) (by decide))
  refine fr_sI h (fun j7 h => ?_)
  have hs7 := z_W.sI hs6 (a := 1556) (by decide) j7 i12
  exact hs7.trans (w_M_readTrails_97 _ _ (hs7.fx hm) h)
theorem w_M_readTrails_35 (x1 : Int32) (x1s : Int32) (x2s : Int32) (s0 : g_St) {o : Unit × g_St} (hm : m_Fix s0) (h : f_M_readTrails_35 (some 1) x1 (some 1428) x1s x2s s0 = some o) : z_W [577, 833, 897] [1428, 1492, 1556, 1620, 1684] s0 o.2 := by
  unfold f_M_readTrails_35 at h
  have hs0 : z_W [577, 833, 897] [1428, 1492, 1556, 1620, 1684] s0 s0 := z_W.re
  refine fr_sI h (fun j1 h => ?_)
  have hs1 := z_W.sI hs0 (a := 1428) (by decide) j1 x2s
  refine fr_c h (fun i2 s3 hc h => ?_)
  have hs2 := hs1.trans ((w_M_skip _ _ (hs1.fx hm) (er_nn hc)).mono (by decide) (by decide))
  refine fr_if h (fun h => ?_) (fun h => ?_)
  · refine fr_c h (fun i4 s5 hc h => ?_)
    have hs3 := hs2.trans ((w_M_need _ _ (hs2.fx hm) (er_nn hc)).mono (by decide) (by decide))
    exact hs3.trans (w_M_readTrails_52 _ _ (hs3.fx hm) h)
  · exact hs2.trans (w_M_readTrails_52 _ _ (hs2.fx hm) h)
theorem w_M_readTrails (x1 : Int32) (s0 : g_St) {o : Unit × g_St} (hm : m_Fix s0) (h : f_M_readTrails (some 1) x1 s0 = some o) : z_W [577, 833, 897] [1428, 1492, 1556, 1620, 1684] s0 o.2 := by
  unfold f_M_readTrails at h
  have hs0 : z_W [577, 833, 897] [1428, 1492, 1556, 1620, 1684] s0 s0 := z_W.re
  refine fr_gR (hs0.fx hm _ m_k1409).1 h (fun h => ?_)
  refine fr_sI h (fun j1 h => ?_)
  have hs1 := z_W.sI hs0 (a := 1428) (by decide) j1 0
  refine fr_c h (fun i3 s4 hc h => ?_)
  have hs2 := hs1.trans ((w_M_skip _ _ (hs1.fx hm) (er_nn hc)).mono (by decide) (by decide))
  refine fr_if h (fun h => ?_) (fun h => ?_)
  · exact hs2.trans (w_M_readTrails_97 _ _ (hs2.fx hm) h)
  · refine fr_gR (hs2.fx hm _ m_k1409).1 h (fun h => ?_)
    refine fr_c h (fun i6 s7 hc h => ?_)
    have hs3 := hs2.trans ((w_M_is _ _ (hs2.fx hm) (er_nn hc)).mono (by decide) (by decide))
    refine fr_if h (fun h => ?_) (fun h => ?_)
    · exact hs3.trans (w_M_readTrails_35 _ _ _ _ (hs3.fx hm) h)
    · exact hs3.trans (w_M_readTrails_35 _ _ _ _ (hs3.fx hm) h)
theorem w_M_readPart_269 (x1 : Int32) (s0 : g_St) {o : Unit × g_St} (hm : m_Fix s0) (h : f_M_readPart_269 (some 1) x1 s0 = some o) : z_W [577, 833, 897, 1153, 2177, 2817, 3009, 3073, 3585, 3841] [31, 95, 159, 1236, 1300, 1364, 1428, 1492, 1556, 1620, 1684, 1876, 1940, 2004, 2068, 2132, 2196, 2260, 2324, 2388, 2452, 2516, 2580, 2644, 2708, 2772, 2836, 2900, 3092, 3156, 3284, 3348, 3412, 3476, 3540, 3604, 3668] s0 o.2 := by
  unfold f_M_readPart_269 at h
  have hs0 : z_W [577, 833, 897, 1153, 2177, 2817, 3009, 3073, 3585, 3841] [31, 95, 159, 1236, 1300, 1364, 1428, 1492, 1556, 1620, 1684, 1876, 1940, 2004, 2068, 2132, 2196, 2260, 2324, 2388, 2452, 2516, 2580, 2644, 2708, 2772, 2836, 2900, 3092, 3156, 3284, 3348, 3412, 3476, 3540, 3604, 3668] s0 s0 := z_W.re
  refine fr_c h (fun v1 s2 hc h => ?_)
  have hs1 := hs0.trans ((w_M_needSign _ _ (hs0.fx hm) (er_nn hc)).mono (by decide) (by decide))
  refine fr_c h (fun v2 s4 hc h => ?_)
  have hs2 := hs1.trans ((w_M_readTrails _ _ (hs1.fx hm) (er_nn hc)).mono (by decide) (by decide))
  refine fr_gI h (fun i5 h => ?_)
  refine fr_pI h (fun h => ?_)
  have hs3 := z_W.pI hs2 (k := 1153) (by decide) (i5 + 1)
  exact fr_some h hs3
theorem w_M_readPart_241 {k153 : Option Nat → Int32 → Int32 → g_St → Option (Unit × g_St)} (hk153 : ∀ (y1 : Int32) (y2 : Int32) (s : g_St) {o : Unit × g_St}, m_Fix s → k153 (some 1) y1 y2 s = some o → z_W [577, 833, 897, 1153, 2177, 2817, 3009, 3073, 3585, 3841] [31, 95, 159, 1236, 1300, 1364, 1428, 1492, 1556, 1620, 1684, 1876, 1940, 2004, 2068, 2132, 2196, 2260, 2324, 2388, 2452, 2516, 2580, 2644, 2708, 2772, 2836, 2900, 3092, 3156, 3284, 3348, 3412, 3476, 3540, 3604, 3668] s o.2) (x1 : Int32) (x2 : Int32) (x3 : Int32) (x1s : Int32) (x2s : Int32) (s0 : g_St) {o : Unit × g_St} (hm : m_Fix s0) (h : f_M_readPart_241 k153 (some 1) x1 x2 x3 (some 95) x1s x2s s0 = some o) : z_W [577, 833, 897, 1153, 2177, 2817, 3009, 3073, 3585, 3841] [31, 95, 159, 1236, 1300, 1364, 1428, 1492, 1556, 1620, 1684, 1876, 1940, 2004, 2068, 2132, 2196, 2260, 2324, 2388, 2452, 2516, 2580, 2644, 2708, 2772, 2836, 2900, 3092, 3156, 3284, 3348, 3412, 3476, 3540, 3604, 3668] s0 o.2 := by
  unfold f_M_readPart_241 at h
  have hs0 : z_W [577, 833, 897, 1153, 2177, 2817, 3009, 3073, 3585, 3841] [31, 95, 159, 1236, 1300, 1364, 1428, 1492, 1556, 1620, 1684, 1876, 1940, 2004, 2068, 2132, 2196, 2260, 2324, 2388, 2452, 2516, 2580, 2644, 2708, 2772, 2836, 2900, 3092, 3156, 3284, 3348, 3412, 3476, 3540, 3604, 3668] s0 s0 := z_W.re
  refine fr_sZ h (fun j1 h => ?_)
  have hs1 := z_W.sI hs0 (a := 95) (by decide) j1 x2s
  refine fr_gR (hs1.fx hm _ m_k1857).1 h (fun h => ?_)
  refine fr_gR (hs1.fx hm _ m_k1857).1 h (fun h => ?_)
  refine fr_aI h (fun i4 h => ?_)
  refine fr_if h (fun h => ?_) (fun h => ?_)
  · refine fr_if h (fun h => ?_) (fun h => ?_)
    · refine fr_sZ h (fun j2 h => ?_)
      have hs2 := z_W.sI hs1 (a := 31) (by decide) j2 1
      exact hs2.trans (hk153 _ _ _ (hs2.fx hm) h)
    · refine fr_sZ h (fun j3 h => ?_)
      have hs3 := z_W.sI hs1 (a := 31) (by decide) j3 0
      exact hs3.trans (hk153 _ _ _ (hs3.fx hm) h)
  · refine fr_sZ h (fun j4 h => ?_)
    have hs4 := z_W.sI hs1 (a := 31) (by decide) j4 1
    exact hs4.trans (hk153 _ _ _ (hs4.fx hm) h)
theorem w_M_readPart_203 {k153 : Option Nat → Int32 → Int32 → g_St → Option (Unit × g_St)} (hk153 : ∀ (y1 : Int32) (y2 : Int32) (s : g_St) {o : Unit × g_St}, m_Fix s → k153 (some 1) y1 y2 s = some o → z_W [577, 833, 897, 1153, 2177, 2817, 3009, 3073, 3585, 3841] [31, 95, 159, 1236, 1300, 1364, 1428, 1492, 1556, 1620, 1684, 1876, 1940, 2004, 2068, 2132, 2196, 2260, 2324, 2388, 2452, 2516, 2580, 2644, 2708, 2772, 2836, 2900, 3092, 3156, 3284, 3348, 3412, 3476, 3540, 3604, 3668] s o.2) (x1 : Int32) (x0s : Int32) (s0 : g_St) {o : Unit × g_St} (hm : m_Fix s0) (h : f_M_readPart_203 k153 (some 1) x1 x0s s0 = some o) : z_W [577, 833, 897, 1153, 2177, 2817, 3009, 3073, 3585, 3841] [31, 95, 159, 1236, 1300, 1364, 1428, 1492, 1556, 1620, 1684, 1876, 1940, 2004, 2068, 2132, 2196, 2260, 2324, 2388, 2452, 2516, 2580, 2644, 2708, 2772, 2836, 2900, 3092, 3156, 3284, 3348, 3412, 3476, 3540, 3604, 3668] s0 o.2 := by
  unfold f_M_readPart_203 at h
  have hs0 : z_W [577, 833, 897, 1153, 2177, 2817, 3009, 3073, 3585, 3841] [31, 95, 159, 1236, 1300, 1364, 1428, 1492, 1556, 1620, 1684, 1876, 1940, 2004, 2068, 2132, 2196, 2260, 2324, 2388, 2452, 2516, 2580, 2644, 2708, 2772, 2836, 2900, 3092, 3156, 3284, 3348, 3412, 3476, 3540, 3604, 3668] s0 s0 := z_W.re
  refine fr_if h (fun h => ?_) (fun h => ?_)
  · exact hs0.trans (hk153 _ _ _ (hs0.fx hm) h)
  · refine fr_c h (fun i1 s2 hc h => ?_)
    have hs1 := hs0.trans ((w_M_skip _ _ (hs0.fx hm) (er_nn hc)).mono (by decide) (by decide))
    refine fr_gR (hs1.fx hm _ m_k1921).1 h (fun h => ?_)
    refine fr_gR (hs1.fx hm _ m_k1921).1 h (fun h => ?_)
    refine fr_aI h (fun i5 h => ?_)
    refine fr_if h (fun h => ?_) (fun h => ?_)
    · refine fr_if h (fun h => ?_) (fun h => ?_)
      · exact hs1.trans (w_M_readPart_241 hk153 _ _ _ _ _ _ (hs1.fx hm) h)
      · exact hs1.trans (w_M_readPart_241 hk153 _ _ _ _ _ _ (hs1.fx hm) h)
    · exact hs1.trans (w_M_readPart_241 hk153 _ _ _ _ _ _ (hs1.fx hm) h)
theorem w_M_readPart_153 : ∀ (n : Nat) (x1 : Int32) (x2 : Int32) (s0 : g_St) {o : Unit × g_St}, m_Fix s0 → f_M_readPart_153 n (some 1) x1 x2 s0 = some o → z_W [577, 833, 897, 1153, 2177, 2817, 3009, 3073, 3585, 3841] [31, 95, 159, 1236, 1300, 1364, 1428, 1492, 1556, 1620, 1684, 1876, 1940, 2004, 2068, 2132, 2196, 2260, 2324, 2388, 2452, 2516, 2580, 2644, 2708, 2772, 2836, 2900, 3092, 3156, 3284, 3348, 3412, 3476, 3540, 3604, 3668] s0 o.2 := by
  intro n
  induction n with
  | zero =>
    intro x1 x2 s0 o hm h
    rw [f_M_readPart_153] at h
    cases h
  | succ n ih =>
    intro x1 x2 s0 o hm h
    rw [f_M_readPart_153] at h
    have hs0 : z_W [577, 833, 897, 1153, 2177, 2817, 3009, 3073, 3585, 3841] [31, 95, 159, 1236, 1300, 1364, 1428, 1492, 1556, 1620, 1684, 1876, 1940, 2004, 2068, 2132, 2196, 2260, 2324, 2388, 2452, 2516, 2580, 2644, 2708, 2772, 2836, 2900, 3092, 3156, 3284, 3348, 3412, 3476, 3540, 3604, 3668] s0 s0 := z_W.re
    refine fr_if h (fun h => ?_) (fun h => ?_)
    · exact hs0.trans (w_M_readPart_269 _ _ (hs0.fx hm) h)
    · refine fr_c h (fun i1 s2 hc h => ?_)
      have hs1 := hs0.trans ((w_M_bad _ (hs0.fx hm) (er_nn hc)).mono (by decide) (by decide))
      refine fr_if h (fun h => ?_) (fun h => ?_)
      · refine fr_c h (fun v2 s4 hc h => ?_)
        have hs2 := hs1.trans ((w_M_readSelection _ _ (hs1.fx hm) (er_nn hc)).mono (by decide) (by decide))
        refine fr_gR (hs2.fx hm _ m_k2049).1 h (fun h => ?_)
        refine fr_aI h (fun i6 h => ?_)
        refine fr_sI h (fun j3 h => ?_)
        have hs3 := z_W.sI hs2 (a := 1940) (by decide) j3 (i6 + 1)
        refine fr_gR (hs3.fx hm _ m_k2049).1 h (fun h => ?_)
        refine fr_aI h (fun i9 h => ?_)
        refine fr_if h (fun h => ?_) (fun h => ?_)
        · exact hs3.trans (w_M_readPart_203 ih _ _ _ (hs3.fx hm) h)
        · refine fr_c h (fun i10 s11 hc h => ?_)
          have hs4 := hs3.trans ((w_M_skip _ _ (hs3.fx hm) (er_nn hc)).mono (by decide) (by decide))
          refine fr_if h (fun h => ?_) (fun h => ?_)
          · exact hs4.trans (w_M_readPart_203 ih _ _ _ (hs4.fx hm) h)
          · exact hs4.trans (w_M_readPart_203 ih _ _ _ (hs4.fx hm) h)
      · exact hs1.trans (w_M_readPart_269 _ _ (hs1.fx hm) h)
theorem w_M_readPart_102 (x1 : Int32) (s0 : g_St) {o : Unit × g_St} (hm : m_Fix s0) (h : f_M_readPart_102 (some 1) x1 s0 = some o) : z_W [577, 833, 897, 1153, 2177, 2817, 3009, 3073, 3585, 3841] [31, 95, 159, 1236, 1300, 1364, 1428, 1492, 1556, 1620, 1684, 1876, 1940, 2004, 2068, 2132, 2196, 2260, 2324, 2388, 2452, 2516, 2580, 2644, 2708, 2772, 2836, 2900, 3092, 3156, 3284, 3348, 3412, 3476, 3540, 3604, 3668] s0 o.2 := by
  unfold f_M_readPart_102 at h
  have hs0 : z_W [577, 833, 897, 1153, 2177, 2817, 3009, 3073, 3585, 3841] [31, 95, 159, 1236, 1300, 1364, 1428, 1492, 1556, 1620, 1684, 1876, 1940, 2004, 2068, 2132, 2196, 2260, 2324, 2388, 2452, 2516, 2580, 2644, 2708, 2772, 2836, 2900, 3092, 3156, 3284, 3348, 3412, 3476, 3540, 3604, 3668] s0 s0 := z_W.re
  refine fr_c h (fun v1 s2 hc h => ?_)
  have hs1 := hs0.trans ((w_M_needSign _ _ (hs0.fx hm) (er_nn hc)).mono (by decide) (by decide))
  refine fr_c h (fun i3 s4 hc h => ?_)
  have hs2 := hs1.trans ((w_M_need _ _ (hs1.fx hm) (er_nn hc)).mono (by decide) (by decide))
  refine fr_c h (fun v3 s6 hc h => ?_)
  have hs3 := hs2.trans ((w_M_needSign _ _ (hs2.fx hm) (er_nn hc)).mono (by decide) (by decide))
  refine fr_gR (hs3.fx hm _ m_k1985).1 h (fun h => ?_)
  refine fr_gI h (fun i8 h => ?_)
  refine fr_sI h (fun j4 h => ?_)
  have hs4 := z_W.sI hs3 (a := 1876) (by decide) j4 i8
  refine fr_gR (hs4.fx hm _ m_k2049).1 h (fun h => ?_)
  refine fr_sI h (fun j5 h => ?_)
  have hs5 := z_W.sI hs4 (a := 1940) (by decide) j5 0
  refine fr_gR (hs5.fx hm _ m_k1857).1 h (fun h => ?_)
  refine fr_sZ h (fun j6 h => ?_)
  have hs6 := z_W.sI hs5 (a := 31) (by decide) j6 0
  refine fr_gR (hs6.fx hm _ m_k1921).1 h (fun h => ?_)
  refine fr_sZ h (fun j7 h => ?_)
  have hs7 := z_W.sI hs6 (a := 95) (by decide) j7 0
  exact hs7.trans (w_M_readPart_153 _ _ _ _ (hs7.fx hm) h)
theorem w_M_readPart_32 : ∀ (n : Nat) (x1 : Int32) (x2 : Int32) (s0 : g_St) {o : Unit × g_St}, m_Fix s0 → f_M_readPart_32 n (some 1) x1 x2 s0 = some o → z_W [577, 833, 897, 1153, 2177, 2817, 3009, 3073, 3585, 3841] [31, 95, 159, 1236, 1300, 1364, 1428, 1492, 1556, 1620, 1684, 1876, 1940, 2004, 2068, 2132, 2196, 2260, 2324, 2388, 2452, 2516, 2580, 2644, 2708, 2772, 2836, 2900, 3092, 3156, 3284, 3348, 3412, 3476, 3540, 3604, 3668] s0 o.2 := by
  intro n
  induction n with
  | zero =>
    intro x1 x2 s0 o hm h
    rw [f_M_readPart_32] at h
    cases h
  | succ n ih =>
    intro x1 x2 s0 o hm h
    rw [f_M_readPart_32] at h
    have hs0 : z_W [577, 833, 897, 1153, 2177, 2817, 3009, 3073, 3585, 3841] [31, 95, 159, 1236, 1300, 1364, 1428, 1492, 1556, 1620, 1684, 1876, 1940, 2004, 2068, 2132, 2196, 2260, 2324, 2388, 2452, 2516, 2580, 2644, 2708, 2772, 2836, 2900, 3092, 3156, 3284, 3348, 3412, 3476, 3540, 3604, 3668] s0 s0 := z_W.re
    refine fr_if h (fun h => ?_) (fun h => ?_)
    · exact hs0.trans (w_M_readPart_102 _ _ (hs0.fx hm) h)
    · refine fr_c h (fun i1 s2 hc h => ?_)
      have hs1 := hs0.trans ((w_M_bad _ (hs0.fx hm) (er_nn hc)).mono (by decide) (by decide))
      refine fr_if h (fun h => ?_) (fun h => ?_)
      · refine fr_gR (hs1.fx hm _ m_k1345).1 h (fun h => ?_)
        refine fr_gR (hs1.fx hm _ m_k1281).1 h (fun h => ?_)
        refine fr_aI h (fun i5 h => ?_)
        refine fr_c h (fun i6 s7 hc h => ?_)
        have hs2 := hs1.trans ((w_M_need _ _ (hs1.fx hm) (er_nn hc)).mono (by decide) (by decide))
        refine fr_sI h (fun j3 h => ?_)
        have hs3 := z_W.sI hs2 (a := 1364) (by decide) j3 i6
        refine fr_gR (hs3.fx hm _ m_k1281).1 h (fun h => ?_)
        refine fr_aI h (fun i10 h => ?_)
        refine fr_sI h (fun j4 h => ?_)
        have hs4 := z_W.sI hs3 (a := 1300) (by decide) j4 (i10 + 1)
        refine fr_gR (hs4.fx hm _ m_k1281).1 h (fun h => ?_)
        refine fr_aI h (fun i13 h => ?_)
        refine fr_if h (fun h => ?_) (fun h => ?_)
        · exact hs4.trans (ih _ _ _ (hs4.fx hm) h)
        · refine fr_c h (fun i14 s15 hc h => ?_)
          have hs5 := hs4.trans ((w_M_skipSign _ _ (hs4.fx hm) (er_nn hc)).mono (by decide) (by decide))
          refine fr_if h (fun h => ?_) (fun h => ?_)
          · exact hs5.trans (ih _ _ _ (hs5.fx hm) h)
          · exact hs5.trans (ih _ _ _ (hs5.fx hm) h)
      · exact hs1.trans (w_M_readPart_102 _ _ (hs1.fx hm) h)
theorem w_M_readPart  (s0 : g_St) {o : Unit × g_St} (hm : m_Fix s0) (h : f_M_readPart (some 1) s0 = some o) : z_W [577, 833, 897, 1153, 2177, 2817, 3009, 3073, 3585, 3841] [31, 95, 159, 1236, 1300, 1364, 1428, 1492, 1556, 1620, 1684, 1876, 1940, 2004, 2068, 2132, 2196, 2260, 2324, 2388, 2452, 2516, 2580, 2644, 2708, 2772, 2836, 2900, 3092, 3156, 3284, 3348, 3412, 3476, 3540, 3604, 3668] s0 o.2 := by
  unfold f_M_readPart at h
  have hs0 : z_W [577, 833, 897, 1153, 2177, 2817, 3009, 3073, 3585, 3841] [31, 95, 159, 1236, 1300, 1364, 1428, 1492, 1556, 1620, 1684, 1876, 1940, 2004, 2068, 2132, 2196, 2260, 2324, 2388, 2452, 2516, 2580, 2644, 2708, 2772, 2836, 2900, 3092, 3156, 3284, 3348, 3412, 3476, 3540, 3604, 3668] s0 s0 := z_W.re
  refine fr_gI h (fun i1 h => ?_)
  refine fr_gR (hs0.fx hm _ m_k1217).1 h (fun h => ?_)
  refine fr_c h (fun i3 s4 hc h => ?_)
  have hs1 := hs0.trans ((w_M_need _ _ (hs0.fx hm) (er_nn hc)).mono (by decide) (by decide))
  refine fr_sI h (fun j2 h => ?_)
  have hs2 := z_W.sI hs1 (a := 1236) (by decide) j2 i3
  refine fr_c h (fun v3 s7 hc h => ?_)
  have hs3 := hs2.trans ((w_M_needSign _ _ (hs2.fx hm) (er_nn hc)).mono (by decide) (by decide))
  refine fr_gR (hs3.fx hm _ m_k1281).1 h (fun h => ?_)
  refine fr_sI h (fun j4 h => ?_)
  have hs4 := z_W.sI hs3 (a := 1300) (by decide) j4 0
  exact hs4.trans (w_M_readPart_32 _ _ _ _ (hs4.fx hm) h)
theorem w_M_readOrder_27 : ∀ (n : Nat) (x1 : Int32) (s0 : g_St) {o : Unit × g_St}, m_Fix s0 → f_M_readOrder_27 n (some 1) x1 s0 = some o → z_W [577, 833, 897, 4353, 4417] [3732] s0 o.2 := by
  intro n
  induction n with
  | zero =>
    intro x1 s0 o hm h
    rw [f_M_readOrder_27] at h
    cases h
  | succ n ih =>
    intro x1 s0 o hm h
    rw [f_M_readOrder_27] at h
    have hs0 : z_W [577, 833, 897, 4353, 4417] [3732] s0 s0 := z_W.re
    refine fr_if h (fun h => ?_) (fun h => ?_)
    · exact fr_some h hs0
    · refine fr_c h (fun i1 s2 hc h => ?_)
      have hs1 := hs0.trans ((w_M_bad _ (hs0.fx hm) (er_nn hc)).mono (by decide) (by decide))
      refine fr_if h (fun h => ?_) (fun h => ?_)
      · refine fr_gR (hs1.fx hm _ m_k4481).1 h (fun h => ?_)
        refine fr_gI h (fun i4 h => ?_)
        refine fr_gI h (fun i5 h => ?_)
        refine fr_sI h (fun j2 h => ?_)
        have hs2 := z_W.sI hs1 (a := 3732) (by decide) j2 i5
        refine fr_c h (fun i7 s8 hc h => ?_)
        have hs3 := hs2.trans ((w_M_need _ _ (hs2.fx hm) (er_nn hc)).mono (by decide) (by decide))
        refine fr_c h (fun v4 s10 hc h => ?_)
        have hs4 := hs3.trans ((w_M_needSign _ _ (hs3.fx hm) (er_nn hc)).mono (by decide) (by decide))
        refine fr_c h (fun i11 s12 hc h => ?_)
        have hs5 := hs4.trans ((w_M_need _ _ (hs4.fx hm) (er_nn hc)).mono (by decide) (by decide))
        refine fr_gI h (fun i13 h => ?_)
        refine fr_pI h (fun h => ?_)
        have hs6 := z_W.pI hs5 (k := 4353) (by decide) (i13 + 1)
        refine fr_gI h (fun i15 h => ?_)
        refine fr_if h (fun h => ?_) (fun h => ?_)
        · exact hs6.trans (ih _ _ (hs6.fx hm) h)
        · refine fr_c h (fun i16 s17 hc h => ?_)
          have hs7 := hs6.trans ((w_M_skipSign _ _ (hs6.fx hm) (er_nn hc)).mono (by decide) (by decide))
          refine fr_if h (fun h => ?_) (fun h => ?_)
          · exact hs7.trans (ih _ _ (hs7.fx hm) h)
          · exact hs7.trans (ih _ _ (hs7.fx hm) h)
      · exact fr_some h hs1
theorem w_M_readOrder  (s0 : g_St) {o : Unit × g_St} (hm : m_Fix s0) (h : f_M_readOrder (some 1) s0 = some o) : z_W [577, 833, 897, 4353, 4417] [3732] s0 o.2 := by
  unfold f_M_readOrder at h
  have hs0 : z_W [577, 833, 897, 4353, 4417] [3732] s0 s0 := z_W.re
  refine fr_gI h (fun i1 h => ?_)
  refine fr_pI h (fun h => ?_)
  have hs1 := z_W.pI hs0 (k := 4417) (by decide) i1
  refine fr_gI h (fun i3 h => ?_)
  refine fr_pI h (fun h => ?_)
  have hs2 := z_W.pI hs1 (k := 577) (by decide) (i3 + 1)
  refine fr_c h (fun i5 s6 hc h => ?_)
  have hs3 := hs2.trans ((w_M_need _ _ (hs2.fx hm) (er_nn hc)).mono (by decide) (by decide))
  exact hs3.trans (w_M_readOrder_27 _ _ _ (hs3.fx hm) h)
theorem w_M_readQuery_93  (s0 : g_St) {o : Unit × g_St} (hm : m_Fix s0) (h : f_M_readQuery_93 (some 1) s0 = some o) : z_W [577, 833, 897, 1153, 2113, 2177, 2817, 3009, 3073, 3585, 3841, 4353, 4417] [31, 95, 159, 1236, 1300, 1364, 1428, 1492, 1556, 1620, 1684, 1876, 1940, 2004, 2068, 2132, 2196, 2260, 2324, 2388, 2452, 2516, 2580, 2644, 2708, 2772, 2836, 2900, 3092, 3156, 3284, 3348, 3412, 3476, 3540, 3604, 3668, 3732] s0 o.2 := by
  unfold f_M_readQuery_93 at h
  have hs0 : z_W [577, 833, 897, 1153, 2113, 2177, 2817, 3009, 3073, 3585, 3841, 4353, 4417] [31, 95, 159, 1236, 1300, 1364, 1428, 1492, 1556, 1620, 1684, 1876, 1940, 2004, 2068, 2132, 2196, 2260, 2324, 2388, 2452, 2516, 2580, 2644, 2708, 2772, 2836, 2900, 3092, 3156, 3284, 3348, 3412, 3476, 3540, 3604, 3668, 3732] s0 s0 := z_W.re
  refine fr_c h (fun i1 s2 hc h => ?_)
  have hs1 := hs0.trans ((w_M_need _ _ (hs0.fx hm) (er_nn hc)).mono (by decide) (by decide))
  exact fr_some h hs1
theorem w_M_readQuery_65  (s0 : g_St) {o : Unit × g_St} (hm : m_Fix s0) (h : f_M_readQuery_65 (some 1) s0 = some o) : z_W [577, 833, 897, 1153, 2113, 2177, 2817, 3009, 3073, 3585, 3841, 4353, 4417] [31, 95, 159, 1236, 1300, 1364, 1428, 1492, 1556, 1620, 1684, 1876, 1940, 2004, 2068, 2132, 2196, 2260, 2324, 2388, 2452, 2516, 2580, 2644, 2708, 2772, 2836, 2900, 3092, 3156, 3284, 3348, 3412, 3476, 3540, 3604, 3668, 3732] s0 o.2 := by
  unfold f_M_readQuery_65 at h
  have hs0 : z_W [577, 833, 897, 1153, 2113, 2177, 2817, 3009, 3073, 3585, 3841, 4353, 4417] [31, 95, 159, 1236, 1300, 1364, 1428, 1492, 1556, 1620, 1684, 1876, 1940, 2004, 2068, 2132, 2196, 2260, 2324, 2388, 2452, 2516, 2580, 2644, 2708, 2772, 2836, 2900, 3092, 3156, 3284, 3348, 3412, 3476, 3540, 3604, 3668, 3732] s0 s0 := z_W.re
  refine fr_gR (hs0.fx hm _ m_k1985).1 h (fun h => ?_)
  refine fr_gI h (fun i2 h => ?_)
  refine fr_sI h (fun j1 h => ?_)
  have hs1 := z_W.sI hs0 (a := 1876) (by decide) j1 i2
  refine fr_c h (fun v2 s5 hc h => ?_)
  have hs2 := hs1.trans ((w_M_readSelection _ _ (hs1.fx hm) (er_nn hc)).mono (by decide) (by decide))
  refine fr_c h (fun i6 s7 hc h => ?_)
  have hs3 := hs2.trans ((w_M_is _ _ (hs2.fx hm) (er_nn hc)).mono (by decide) (by decide))
  refine fr_if h (fun h => ?_) (fun h => ?_)
  · exact hs3.trans (w_M_readQuery_93 _ (hs3.fx hm) h)
  · refine fr_c h (fun v4 s9 hc h => ?_)
    have hs4 := hs3.trans ((w_M_readOrder _ (hs3.fx hm) (er_nn hc)).mono (by decide) (by decide))
    exact hs4.trans (w_M_readQuery_93 _ (hs4.fx hm) h)
theorem w_M_readQuery_24 : ∀ (n : Nat) (x1 : Int32) (s0 : g_St) {o : Unit × g_St}, m_Fix s0 → f_M_readQuery_24 n (some 1) x1 s0 = some o → z_W [577, 833, 897, 1153, 2113, 2177, 2817, 3009, 3073, 3585, 3841, 4353, 4417] [31, 95, 159, 1236, 1300, 1364, 1428, 1492, 1556, 1620, 1684, 1876, 1940, 2004, 2068, 2132, 2196, 2260, 2324, 2388, 2452, 2516, 2580, 2644, 2708, 2772, 2836, 2900, 3092, 3156, 3284, 3348, 3412, 3476, 3540, 3604, 3668, 3732] s0 o.2 := by
  intro n
  induction n with
  | zero =>
    intro x1 s0 o hm h
    rw [f_M_readQuery_24] at h
    cases h
  | succ n ih =>
    intro x1 s0 o hm h
    rw [f_M_readQuery_24] at h
    have hs0 : z_W [577, 833, 897, 1153, 2113, 2177, 2817, 3009, 3073, 3585, 3841, 4353, 4417] [31, 95, 159, 1236, 1300, 1364, 1428, 1492, 1556, 1620, 1684, 1876, 1940, 2004, 2068, 2132, 2196, 2260, 2324, 2388, 2452, 2516, 2580, 2644, 2708, 2772, 2836, 2900, 3092, 3156, 3284, 3348, 3412, 3476, 3540, 3604, 3668, 3732] s0 s0 := z_W.re
    refine fr_if h (fun h => ?_) (fun h => ?_)
    · exact hs0.trans (w_M_readQuery_65 _ (hs0.fx hm) h)
    · refine fr_c h (fun i1 s2 hc h => ?_)
      have hs1 := hs0.trans ((w_M_bad _ (hs0.fx hm) (er_nn hc)).mono (by decide) (by decide))
      refine fr_if h (fun h => ?_) (fun h => ?_)
      · refine fr_c h (fun v2 s4 hc h => ?_)
        have hs2 := hs1.trans ((w_M_readPart _ (hs1.fx hm) (er_nn hc)).mono (by decide) (by decide))
        refine fr_gI h (fun i5 h => ?_)
        refine fr_if h (fun h => ?_) (fun h => ?_)
        · exact hs2.trans (ih _ _ (hs2.fx hm) h)
        · refine fr_c h (fun i6 s7 hc h => ?_)
          have hs3 := hs2.trans ((w_M_skipSign _ _ (hs2.fx hm) (er_nn hc)).mono (by decide) (by decide))
          refine fr_if h (fun h => ?_) (fun h => ?_)
          · exact hs3.trans (ih _ _ (hs3.fx hm) h)
          · exact hs3.trans (ih _ _ (hs3.fx hm) h)
      · exact hs1.trans (w_M_readQuery_65 _ (hs1.fx hm) h)
theorem w_M_readQuery  (s0 : g_St) {o : Unit × g_St} (hm : m_Fix s0) (h : f_M_readQuery (some 1) s0 = some o) : z_W [577, 833, 897, 1153, 2113, 2177, 2817, 3009, 3073, 3585, 3841, 4353, 4417] [31, 95, 159, 1236, 1300, 1364, 1428, 1492, 1556, 1620, 1684, 1876, 1940, 2004, 2068, 2132, 2196, 2260, 2324, 2388, 2452, 2516, 2580, 2644, 2708, 2772, 2836, 2900, 3092, 3156, 3284, 3348, 3412, 3476, 3540, 3604, 3668, 3732] s0 o.2 := by
  unfold f_M_readQuery at h
  have hs0 : z_W [577, 833, 897, 1153, 2113, 2177, 2817, 3009, 3073, 3585, 3841, 4353, 4417] [31, 95, 159, 1236, 1300, 1364, 1428, 1492, 1556, 1620, 1684, 1876, 1940, 2004, 2068, 2132, 2196, 2260, 2324, 2388, 2452, 2516, 2580, 2644, 2708, 2772, 2836, 2900, 3092, 3156, 3284, 3348, 3412, 3476, 3540, 3604, 3668, 3732] s0 s0 := z_W.re
  refine fr_pZ h (fun h => ?_)
  have hs1 := z_W.pI hs0 (k := 2113) (by decide) 0
  refine fr_c h (fun i2 s3 hc h => ?_)
  have hs2 := hs1.trans ((w_M_skip _ _ (hs1.fx hm) (er_nn hc)).mono (by decide) (by decide))
  refine fr_if h (fun h => ?_) (fun h => ?_)
  · exact hs2.trans (w_M_readQuery_65 _ (hs2.fx hm) h)
  · refine fr_c h (fun i4 s5 hc h => ?_)
    have hs3 := hs2.trans ((w_M_skip _ _ (hs2.fx hm) (er_nn hc)).mono (by decide) (by decide))
    refine fr_pZ h (fun h => ?_)
    have hs4 := z_W.pI hs3 (k := 2113) (by decide) i4
    exact hs4.trans (w_M_readQuery_24 _ _ _ (hs4.fx hm) h)
theorem w_M_meaning_44 : ∀ (n : Nat) (x1 : Int32) (x2 : Int32) (s0 : g_St) {o : Int32 × g_St}, m_Fix s0 → f_M_meaning_44 n (some 1) x1 x2 s0 = some o → z_W [] [] s0 o.2 := by
  intro n
  induction n with
  | zero =>
    intro x1 x2 s0 o hm h
    rw [f_M_meaning_44] at h
    cases h
  | succ n ih =>
    intro x1 x2 s0 o hm h
    rw [f_M_meaning_44] at h
    have hs0 : z_W [] [] s0 s0 := z_W.re
    refine fr_gI h (fun i1 h => ?_)
    refine fr_if h (fun h => ?_) (fun h => ?_)
    · exact fr_some h hs0
    · refine fr_gR (hs0.fx hm _ m_k769).1 h (fun h => ?_)
      refine fr_aL h (fun j3 h => ?_)
      refine fr_if h (fun h => ?_) (fun h => ?_)
      · exact fr_some h hs0
      · exact hs0.trans (ih _ _ _ (hs0.fx hm) h)
theorem w_M_meaning_2 : ∀ (n : Nat) (x1 : Int32) (x2 : Int32) (s0 : g_St) {o : Int32 × g_St}, m_Fix s0 → f_M_meaning_2 n (some 1) x1 x2 s0 = some o → z_W [] [] s0 o.2 := by
  intro n
  induction n with
  | zero =>
    intro x1 x2 s0 o hm h
    rw [f_M_meaning_2] at h
    cases h
  | succ n ih =>
    intro x1 x2 s0 o hm h
    rw [f_M_meaning_2] at h
    have hs0 : z_W [] [] s0 s0 := z_W.re
    refine fr_gI h (fun i1 h => ?_)
    refine fr_if h (fun h => ?_) (fun h => ?_)
    · exact hs0.trans (w_M_meaning_44 _ _ _ _ (hs0.fx hm) h)
    · refine fr_gR (hs0.fx hm _ m_k769).1 h (fun h => ?_)
      refine fr_gR (hs0.fx hm _ m_k1217).1 h (fun h => ?_)
      refine fr_aI h (fun i4 h => ?_)
      refine fr_aL h (fun j5 h => ?_)
      refine fr_gR (hs0.fx hm _ m_k769).1 h (fun h => ?_)
      refine fr_aL h (fun j7 h => ?_)
      refine fr_if h (fun h => ?_) (fun h => ?_)
      · exact fr_some h hs0
      · exact hs0.trans (ih _ _ _ (hs0.fx hm) h)
theorem w_M_meaning (x1 : Int32) (s0 : g_St) {o : Int32 × g_St} (hm : m_Fix s0) (h : f_M_meaning (some 1) x1 s0 = some o) : z_W [] [] s0 o.2 := by
  unfold f_M_meaning at h
  have hs0 : z_W [] [] s0 s0 := z_W.re
  exact hs0.trans (w_M_meaning_2 _ _ _ _ (hs0.fx hm) h)
theorem w_M_columnOf_128 (y2 : Int64) (x4 : Int32) (x5 : Int32) (s0 : g_St) {o : Int32 × g_St} (hm : m_Fix s0) (h : f_M_columnOf_128 (some 1) y2 x4 x5 s0 = some o) : z_W [] [] s0 o.2 := by
  unfold f_M_columnOf_128 at h
  have hs0 : z_W [] [] s0 s0 := z_W.re
  refine fr_if h (fun h => ?_) (fun h => ?_)
  · exact fr_some h hs0
  · refine fr_gR (hs0.fx hm _ m_k1409).1 h (fun h => ?_)
    refine fr_aI h (fun i2 h => ?_)
    refine fr_if h (fun h => ?_) (fun h => ?_)
    · exact fr_some h hs0
    · refine fr_gR (hs0.fx hm _ m_k769).1 h (fun h => ?_)
      refine fr_gR (hs0.fx hm _ m_k1537).1 h (fun h => ?_)
      refine fr_aI h (fun i5 h => ?_)
      refine fr_aL h (fun j6 h => ?_)
      refine fr_if h (fun h => ?_) (fun h => ?_)
      · exact fr_some h hs0
      · exact fr_some h hs0
theorem w_M_columnOf_49 : ∀ (n : Nat) (y2 : Int64) (x4 : Int32) (x5 : Int32) (x6 : Int32) (s0 : g_St) {o : Int32 × g_St}, m_Fix s0 → f_M_columnOf_49 n (some 1) y2 x4 x5 x6 s0 = some o → z_W [] [] s0 o.2 := by
  intro n
  induction n with
  | zero =>
    intro y2 x4 x5 x6 s0 o hm h
    rw [f_M_columnOf_49] at h
    cases h
  | succ n ih =>
    intro y2 x4 x5 x6 s0 o hm h
    rw [f_M_columnOf_49] at h
    have hs0 : z_W [] [] s0 s0 := z_W.re
    refine fr_gR (hs0.fx hm _ m_k1281).1 h (fun h => ?_)
    refine fr_aI h (fun i2 h => ?_)
    refine fr_if h (fun h => ?_) (fun h => ?_)
    · refine fr_gR (hs0.fx hm _ m_k1601).1 h (fun h => ?_)
      refine fr_aI h (fun i4 h => ?_)
      refine fr_if h (fun h => ?_) (fun h => ?_)
      · exact hs0.trans (w_M_columnOf_128 _ _ _ _ (hs0.fx hm) h)
      · refine fr_gR (hs0.fx hm _ m_k769).1 h (fun h => ?_)
        refine fr_gR (hs0.fx hm _ m_k1665).1 h (fun h => ?_)
        refine fr_aI h (fun i7 h => ?_)
        refine fr_aL h (fun j8 h => ?_)
        refine fr_if h (fun h => ?_) (fun h => ?_)
        · refine fr_gR (hs0.fx hm _ m_k1281).1 h (fun h => ?_)
          refine fr_aI h (fun i10 h => ?_)
          exact fr_some h hs0
        · exact hs0.trans (w_M_columnOf_128 _ _ _ _ (hs0.fx hm) h)
    · refine fr_gR (hs0.fx hm _ m_k769).1 h (fun h => ?_)
      refine fr_gR (hs0.fx hm _ m_k1345).1 h (fun h => ?_)
      refine fr_aI h (fun i13 h => ?_)
      refine fr_aL h (fun j14 h => ?_)
      refine fr_if h (fun h => ?_) (fun h => ?_)
      · exact fr_some h hs0
      · exact hs0.trans (ih _ _ _ _ _ (hs0.fx hm) h)
theorem w_M_columnOf (x1 : Int32) (y2 : Int64) (x4 : Int32) (s0 : g_St) {o : Int32 × g_St} (hm : m_Fix s0) (h : f_M_columnOf (some 1) x1 y2 x4 s0 = some o) : z_W [] [] s0 o.2 := by
  unfold f_M_columnOf at h
  have hs0 : z_W [] [] s0 s0 := z_W.re
  refine fr_if h (fun h => ?_) (fun h => ?_)
  · exact fr_some h hs0
  · refine fr_if h (fun h => ?_) (fun h => ?_)
    · exact hs0.trans (w_M_columnOf_49 _ _ _ _ _ _ (hs0.fx hm) h)
    · refine fr_if h (fun h => ?_) (fun h => ?_)
      · exact fr_some h hs0
      · refine fr_gR (hs0.fx hm _ m_k129).1 h (fun h => ?_)
        refine fr_aI h (fun i2 h => ?_)
        refine fr_if h (fun h => ?_) (fun h => ?_)
        · exact fr_some h hs0
        · exact fr_some h hs0
theorem w_M_slotOf_3 : ∀ (n : Nat) (x1 : Int32) (y2 : Int64) (x4 : Int32) (x5 : Int32) (s0 : g_St) {o : Int32 × g_St}, m_Fix s0 → f_M_slotOf_3 n (some 1) x1 y2 x4 x5 s0 = some o → z_W [] [] s0 o.2 := by
  intro n
  induction n with
  | zero =>
    intro x1 y2 x4 x5 s0 o hm h
    rw [f_M_slotOf_3] at h
    cases h
  | succ n ih =>
    intro x1 y2 x4 x5 s0 o hm h
    rw [f_M_slotOf_3] at h
    have hs0 : z_W [] [] s0 s0 := z_W.re
    refine fr_gR (hs0.fx hm _ m_k2561).1 h (fun h => ?_)
    refine fr_aI h (fun i2 h => ?_)
    refine fr_if h (fun h => ?_) (fun h => ?_)
    · refine fr_if h (fun h => ?_) (fun h => ?_)
      · exact fr_some h hs0
      · refine fr_gR (hs0.fx hm _ m_k769).1 h (fun h => ?_)
        refine fr_gR (hs0.fx hm _ m_k3713).1 h (fun h => ?_)
        refine fr_aI h (fun i5 h => ?_)
        refine fr_aL h (fun j6 h => ?_)
        refine fr_if h (fun h => ?_) (fun h => ?_)
        · exact fr_some h hs0
        · exact fr_some h hs0
    · refine fr_gR (hs0.fx hm _ m_k769).1 h (fun h => ?_)
      refine fr_gR (hs0.fx hm _ m_k3713).1 h (fun h => ?_)
      refine fr_gR (hs0.fx hm _ m_k2497).1 h (fun h => ?_)
      refine fr_aI h (fun i10 h => ?_)
      refine fr_aI h (fun i11 h => ?_)
      refine fr_aL h (fun j12 h => ?_)
      refine fr_if h (fun h => ?_) (fun h => ?_)
      · exact fr_some h hs0
      · exact hs0.trans (ih _ _ _ _ _ (hs0.fx hm) h)
theorem w_M_slotOf (x1 : Int32) (y2 : Int64) (x4 : Int32) (s0 : g_St) {o : Int32 × g_St} (hm : m_Fix s0) (h : f_M_slotOf (some 1) x1 y2 x4 s0 = some o) : z_W [] [] s0 o.2 := by
  unfold f_M_slotOf at h
  have hs0 : z_W [] [] s0 s0 := z_W.re
  exact hs0.trans (w_M_slotOf_3 _ _ _ _ _ _ (hs0.fx hm) h)
theorem w_M_resolveSource_70 (x2 : Int32) (s0 : g_St) {o : Unit × g_St} (hm : m_Fix s0) (h : f_M_resolveSource_70 (some 1) x2 s0 = some o) : z_W [833, 897] [3220] s0 o.2 := by
  unfold f_M_resolveSource_70 at h
  have hs0 : z_W [833, 897] [3220] s0 s0 := z_W.re
  refine fr_gR (hs0.fx hm _ m_k705).1 h (fun h => ?_)
  refine fr_gR (hs0.fx hm _ m_k3649).1 h (fun h => ?_)
  refine fr_aI h (fun i3 h => ?_)
  refine fr_aI h (fun i4 h => ?_)
  refine fr_c h (fun v1 s6 hc h => ?_)
  have hs1 := hs0.trans ((w_M_note _ _ _ (hs0.fx hm) (er_nn hc)).mono (by decide) (by decide))
  exact fr_some h hs1
theorem w_M_resolveSource_53 (x2 : Int32) (x0s : Int32) (s0 : g_St) {o : Unit × g_St} (hm : m_Fix s0) (h : f_M_resolveSource_53 (some 1) x2 x0s s0 = some o) : z_W [833, 897] [3220] s0 o.2 := by
  unfold f_M_resolveSource_53 at h
  have hs0 : z_W [833, 897] [3220] s0 s0 := z_W.re
  refine fr_gR (hs0.fx hm _ m_k3777).1 h (fun h => ?_)
  refine fr_aI h (fun i2 h => ?_)
  refine fr_if h (fun h => ?_) (fun h => ?_)
  · exact hs0.trans (w_M_resolveSource_70 _ _ (hs0.fx hm) h)
  · refine fr_if h (fun h => ?_) (fun h => ?_)
    · exact fr_some h hs0
    · exact hs0.trans (w_M_resolveSource_70 _ _ (hs0.fx hm) h)
theorem w_M_resolveSource (x1 : Int32) (x2 : Int32) (s0 : g_St) {o : Unit × g_St} (hm : m_Fix s0) (h : f_M_resolveSource (some 1) x1 x2 s0 = some o) : z_W [833, 897] [3220] s0 o.2 := by
  unfold f_M_resolveSource at h
  have hs0 : z_W [833, 897] [3220] s0 s0 := z_W.re
  refine fr_gR (hs0.fx hm _ m_k3777).1 h (fun h => ?_)
  refine fr_gR (hs0.fx hm _ m_k3649).1 h (fun h => ?_)
  refine fr_aI h (fun i3 h => ?_)
  refine fr_c h (fun i4 s5 hc h => ?_)
  have hs1 := hs0.trans ((w_M_meaning _ _ (hs0.fx hm) (er_nn hc)).mono (by decide) (by decide))
  refine fr_sI h (fun j2 h => ?_)
  have hs2 := z_W.sI hs1 (a := 3220) (by decide) j2 i4
  refine fr_gR (hs2.fx hm _ m_k2241).1 h (fun h => ?_)
  refine fr_aI h (fun i8 h => ?_)
  refine fr_if h (fun h => ?_) (fun h => ?_)
  · exact hs2.trans (w_M_resolveSource_53 _ _ _ (hs2.fx hm) h)
  · refine fr_gI h (fun i9 h => ?_)
    refine fr_if h (fun h => ?_) (fun h => ?_)
    · refine fr_gR (hs2.fx hm _ m_k3777).1 h (fun h => ?_)
      refine fr_aI h (fun i11 h => ?_)
      refine fr_if h (fun h => ?_) (fun h => ?_)
      · exact hs2.trans (w_M_resolveSource_53 _ _ _ (hs2.fx hm) h)
      · exact hs2.trans (w_M_resolveSource_53 _ _ _ (hs2.fx hm) h)
    · exact hs2.trans (w_M_resolveSource_53 _ _ _ (hs2.fx hm) h)
theorem w_M_resolveExpression_126 {k3 : Option Nat → Int32 → Int32 → Int32 → Int32 → g_St → Option (Unit × g_St)} (hk3 : ∀ (y1 : Int32) (y2 : Int32) (y3 : Int32) (y4 : Int32) (s : g_St) {o : Unit × g_St}, m_Fix s → k3 (some 1) y1 y2 y3 y4 s = some o → z_W [833, 897] [2964, 3028] s o.2) (x1 : Int32) (x2 : Int32) (x3 : Int32) (x4 : Int32) (x5 : Int32) (x6 : Int32) (x1s : Int32) (x2s : Int32) (s0 : g_St) {o : Unit × g_St} (hm : m_Fix s0) (h : f_M_resolveExpression_126 k3 (some 1) x1 x2 x3 x4 x5 x6 (some 3028) x1s x2s s0 = some o) : z_W [833, 897] [2964, 3028] s0 o.2 := by
  unfold f_M_resolveExpression_126 at h
  have hs0 : z_W [833, 897] [2964, 3028] s0 s0 := z_W.re
  refine fr_sI h (fun j1 h => ?_)
  have hs1 := z_W.sI hs0 (a := 3028) (by decide) j1 x2s
  refine fr_gR (hs1.fx hm _ m_k3521).1 h (fun h => ?_)
  refine fr_aI h (fun i3 h => ?_)
  refine fr_if h (fun h => ?_) (fun h => ?_)
  · refine fr_gR (hs1.fx hm _ m_k705).1 h (fun h => ?_)
    refine fr_aI h (fun i5 h => ?_)
    refine fr_c h (fun v2 s7 hc h => ?_)
    have hs2 := hs1.trans ((w_M_note _ _ _ (hs1.fx hm) (er_nn hc)).mono (by decide) (by decide))
    exact hs2.trans (hk3 _ _ _ _ _ (hs2.fx hm) h)
  · exact hs1.trans (hk3 _ _ _ _ _ (hs1.fx hm) h)
theorem w_M_resolveExpression_112 {k3 : Option Nat → Int32 → Int32 → Int32 → Int32 → g_St → Option (Unit × g_St)} (hk3 : ∀ (y1 : Int32) (y2 : Int32) (y3 : Int32) (y4 : Int32) (s : g_St) {o : Unit × g_St}, m_Fix s → k3 (some 1) y1 y2 y3 y4 s = some o → z_W [833, 897] [2964, 3028] s o.2) (x1 : Int32) (x2 : Int32) (x3 : Int32) (x4 : Int32) (x5 : Int32) (x6 : Int32) (x1s : Int32) (x4s : Int32) (s0 : g_St) {o : Unit × g_St} (hm : m_Fix s0) (h : f_M_resolveExpression_112 k3 (some 1) x1 x2 x3 x4 x5 x6 (some 3028) x1s (some 1) (some 3220) x4s s0 = some o) : z_W [833, 897] [2964, 3028] s0 o.2 := by
  unfold f_M_resolveExpression_112 at h
  have hs0 : z_W [833, 897] [2964, 3028] s0 s0 := z_W.re
  refine fr_aI h (fun i1 h => ?_)
  refine fr_gR (hs0.fx hm _ m_k769).1 h (fun h => ?_)
  refine fr_aL h (fun j3 h => ?_)
  refine fr_c h (fun i4 s5 hc h => ?_)
  have hs1 := hs0.trans ((w_M_columnOf _ _ _ _ (hs0.fx hm) (er_nn hc)).mono (by decide) (by decide))
  exact hs1.trans (w_M_resolveExpression_126 hk3 _ _ _ _ _ _ _ _ _ (hs1.fx hm) h)
theorem w_M_resolveExpression_3 : ∀ (n : Nat) (x1 : Int32) (x2 : Int32) (x3 : Int32) (x4 : Int32) (s0 : g_St) {o : Unit × g_St}, m_Fix s0 → f_M_resolveExpression_3 n (some 1) x1 x2 x3 x4 s0 = some o → z_W [833, 897] [2964, 3028] s0 o.2 := by
  intro n
  induction n with
  | zero =>
    intro x1 x2 x3 x4 s0 o hm h
    rw [f_M_resolveExpression_3] at h
    cases h
  | succ n ih =>
    intro x1 x2 x3 x4 s0 o hm h
    rw [f_M_resolveExpression_3] at h
    have hs0 : z_W [833, 897] [2964, 3028] s0 s0 := z_W.re
    refine fr_gR (hs0.fx hm _ m_k3201).1 h (fun h => ?_)
    refine fr_aI h (fun i2 h => ?_)
    refine fr_if h (fun h => ?_) (fun h => ?_)
    · exact fr_some h hs0
    · refine fr_gR (hs0.fx hm _ m_k3137).1 h (fun h => ?_)
      refine fr_aI h (fun i4 h => ?_)
      refine fr_gR (hs0.fx hm _ m_k3265).1 h (fun h => ?_)
      refine fr_aI h (fun i6 h => ?_)
      refine fr_if h (fun h => ?_) (fun h => ?_)
      · refine fr_gR (hs0.fx hm _ m_k3393).1 h (fun h => ?_)
        refine fr_aI h (fun i8 h => ?_)
        refine fr_gR (hs0.fx hm _ m_k769).1 h (fun h => ?_)
        refine fr_aL h (fun j10 h => ?_)
        refine fr_c h (fun i11 s12 hc h => ?_)
        have hs1 := hs0.trans ((w_M_slotOf _ _ _ _ (hs0.fx hm) (er_nn hc)).mono (by decide) (by decide))
        refine fr_gR (hs1.fx hm _ m_k3457).1 h (fun h => ?_)
        refine fr_sI h (fun j2 h => ?_)
        have hs2 := z_W.sI hs1 (a := 2964) (by decide) j2 i11
        refine fr_gR (hs2.fx hm _ m_k3521).1 h (fun h => ?_)
        refine fr_if h (fun h => ?_) (fun h => ?_)
        · exact hs2.trans (w_M_resolveExpression_126 ih _ _ _ _ _ _ _ _ _ (hs2.fx hm) h)
        · refine fr_gR (hs2.fx hm _ m_k3777).1 h (fun h => ?_)
          refine fr_if h (fun h => ?_) (fun h => ?_)
          · exact hs2.trans (w_M_resolveExpression_112 ih _ _ _ _ _ _ _ _ _ (hs2.fx hm) h)
          · refine fr_gR (hs2.fx hm _ m_k2497).1 h (fun h => ?_)
            refine fr_aI h (fun i18 h => ?_)
            exact hs2.trans (w_M_resolveExpression_112 ih _ _ _ _ _ _ _ _ _ (hs2.fx hm) h)
      · exact hs0.trans (ih _ _ _ _ _ (hs0.fx hm) h)
theorem w_M_resolveExpression (x1 : Int32) (x2 : Int32) (x3 : Int32) (s0 : g_St) {o : Unit × g_St} (hm : m_Fix s0) (h : f_M_resolveExpression (some 1) x1 x2 x3 s0 = some o) : z_W [833, 897] [2964, 3028] s0 o.2 := by
  unfold f_M_resolveExpression at h
  have hs0 : z_W [833, 897] [2964, 3028] s0 s0 := z_W.re
  exact hs0.trans (w_M_resolveExpression_3 _ _ _ _ _ _ (hs0.fx hm) h)
theorem w_M_resolveCondition (x1 : Int32) (x2 : Int32) (x3 : Int32) (s0 : g_St) {o : Unit × g_St} (hm : m_Fix s0) (h : f_M_resolveCondition (some 1) x1 x2 x3 s0 = some o) : z_W [833, 897] [2964, 3028] s0 o.2 := by
  unfold f_M_resolveCondition at h
  have hs0 : z_W [833, 897] [2964, 3028] s0 s0 := z_W.re
  refine fr_gR (hs0.fx hm _ m_k4033).1 h (fun h => ?_)
  refine fr_aI h (fun i2 h => ?_)
  refine fr_c h (fun v1 s4 hc h => ?_)
  have hs1 := hs0.trans ((w_M_resolveExpression _ _ _ _ (hs0.fx hm) (er_nn hc)).mono (by decide) (by decide))
  refine fr_gR (hs1.fx hm _ m_k3905).1 h (fun h => ?_)
  refine fr_aI h (fun i6 h => ?_)
  refine fr_if h (fun h => ?_) (fun h => ?_)
  · refine fr_gR (hs1.fx hm _ m_k4097).1 h (fun h => ?_)
    refine fr_aI h (fun i8 h => ?_)
    refine fr_c h (fun v2 s10 hc h => ?_)
    have hs2 := hs1.trans ((w_M_resolveExpression _ _ _ _ (hs1.fx hm) (er_nn hc)).mono (by decide) (by decide))
    exact fr_some h hs2
  · exact fr_some h hs1
theorem w_M_resolveNotExists_53 : ∀ (n : Nat) (x1 : Int32) (x2 : Int32) (x3 : Int32) (x4 : Int32) (s0 : g_St) {o : Unit × g_St}, m_Fix s0 → f_M_resolveNotExists_53 n (some 1) x1 x2 x3 x4 s0 = some o → z_W [833, 897] [2964, 3028, 3220] s0 o.2 := by
  intro n
  induction n with
  | zero =>
    intro x1 x2 x3 x4 s0 o hm h
    rw [f_M_resolveNotExists_53] at h
    cases h
  | succ n ih =>
    intro x1 x2 x3 x4 s0 o hm h
    rw [f_M_resolveNotExists_53] at h
    have hs0 : z_W [833, 897] [2964, 3028, 3220] s0 s0 := z_W.re
    refine fr_gR (hs0.fx hm _ m_k4225).1 h (fun h => ?_)
    refine fr_aI h (fun i2 h => ?_)
    refine fr_if h (fun h => ?_) (fun h => ?_)
    · exact fr_some h hs0
    · refine fr_gR (hs0.fx hm _ m_k4289).1 h (fun h => ?_)
      refine fr_aI h (fun i4 h => ?_)
      refine fr_c h (fun v1 s6 hc h => ?_)
      have hs1 := hs0.trans ((w_M_resolveCondition _ _ _ _ (hs0.fx hm) (er_nn hc)).mono (by decide) (by decide))
      exact hs1.trans (ih _ _ _ _ _ (hs1.fx hm) h)
theorem w_M_resolveNotExists (x1 : Int32) (x2 : Int32) (s0 : g_St) {o : Unit × g_St} (hm : m_Fix s0) (h : f_M_resolveNotExists (some 1) x1 x2 s0 = some o) : z_W [833, 897] [2964, 3028, 3220] s0 o.2 := by
  unfold f_M_resolveNotExists at h
  have hs0 : z_W [833, 897] [2964, 3028, 3220] s0 s0 := z_W.re
  refine fr_gR (hs0.fx hm _ m_k4161).1 h (fun h => ?_)
  refine fr_aI h (fun i2 h => ?_)
  refine fr_c h (fun v1 s4 hc h => ?_)
  have hs1 := hs0.trans ((w_M_resolveSource _ _ _ (hs0.fx hm) (er_nn hc)).mono (by decide) (by decide))
  refine fr_gR (hs1.fx hm _ m_k769).1 h (fun h => ?_)
  refine fr_gR (hs1.fx hm _ m_k3713).1 h (fun h => ?_)
  refine fr_aI h (fun i7 h => ?_)
  refine fr_aL h (fun j8 h => ?_)
  refine fr_c h (fun i9 s10 hc h => ?_)
  have hs2 := hs1.trans ((w_M_slotOf _ _ _ _ (hs1.fx hm) (er_nn hc)).mono (by decide) (by decide))
  refine fr_if h (fun h => ?_) (fun h => ?_)
  · exact hs2.trans (w_M_resolveNotExists_53 _ _ _ _ _ _ (hs2.fx hm) h)
  · refine fr_gR (hs2.fx hm _ m_k705).1 h (fun h => ?_)
    refine fr_gR (hs2.fx hm _ m_k3713).1 h (fun h => ?_)
    refine fr_aI h (fun i13 h => ?_)
    refine fr_aI h (fun i14 h => ?_)
    refine fr_c h (fun v3 s16 hc h => ?_)
    have hs3 := hs2.trans ((w_M_note _ _ _ (hs2.fx hm) (er_nn hc)).mono (by decide) (by decide))
    exact hs3.trans (w_M_resolveNotExists_53 _ _ _ _ _ _ (hs3.fx hm) h)
theorem w_M_resolveSelection_116 : ∀ (n : Nat) (x1 : Int32) (x2 : Int32) (s0 : g_St) {o : Unit × g_St}, m_Fix s0 → f_M_resolveSelection_116 n (some 1) x1 x2 s0 = some o → z_W [833, 897] [2964, 3028, 3220] s0 o.2 := by
  intro n
  induction n with
  | zero =>
    intro x1 x2 s0 o hm h
    rw [f_M_resolveSelection_116] at h
    cases h
  | succ n ih =>
    intro x1 x2 s0 o hm h
    rw [f_M_resolveSelection_116] at h
    have hs0 : z_W [833, 897] [2964, 3028, 3220] s0 s0 := z_W.re
    refine fr_gR (hs0.fx hm _ m_k2625).1 h (fun h => ?_)
    refine fr_aI h (fun i2 h => ?_)
    refine fr_if h (fun h => ?_) (fun h => ?_)
    · exact fr_some h hs0
    · refine fr_gR (hs0.fx hm _ m_k2689).1 h (fun h => ?_)
      refine fr_aI h (fun i4 h => ?_)
      refine fr_gR (hs0.fx hm _ m_k3905).1 h (fun h => ?_)
      refine fr_aI h (fun i6 h => ?_)
      refine fr_if h (fun h => ?_) (fun h => ?_)
      · refine fr_c h (fun v1 s10 hc h => ?_)
        have hs1 := hs0.trans ((w_M_resolveNotExists _ _ _ (hs0.fx hm) (er_nn hc)).mono (by decide) (by decide))
        exact hs1.trans (ih _ _ _ (hs1.fx hm) h)
      · refine fr_c h (fun v2 s8 hc h => ?_)
        have hs2 := hs0.trans ((w_M_resolveCondition _ _ _ _ (hs0.fx hm) (er_nn hc)).mono (by decide) (by decide))
        exact hs2.trans (ih _ _ _ (hs2.fx hm) h)
theorem w_M_resolveSelection_72 : ∀ (n : Nat) (x1 : Int32) (x2 : Int32) (s0 : g_St) {o : Unit × g_St}, m_Fix s0 → f_M_resolveSelection_72 n (some 1) x1 x2 s0 = some o → z_W [833, 897] [2964, 3028, 3220] s0 o.2 := by
  intro n
  induction n with
  | zero =>
    intro x1 x2 s0 o hm h
    rw [f_M_resolveSelection_72] at h
    cases h
  | succ n ih =>
    intro x1 x2 s0 o hm h
    rw [f_M_resolveSelection_72] at h
    have hs0 : z_W [833, 897] [2964, 3028, 3220] s0 s0 := z_W.re
    refine fr_gR (hs0.fx hm _ m_k2433).1 h (fun h => ?_)
    refine fr_aI h (fun i2 h => ?_)
    refine fr_if h (fun h => ?_) (fun h => ?_)
    · exact hs0.trans (w_M_resolveSelection_116 _ _ _ _ (hs0.fx hm) h)
    · refine fr_gR (hs0.fx hm _ m_k2945).1 h (fun h => ?_)
      refine fr_gR (hs0.fx hm _ m_k2369).1 h (fun h => ?_)
      refine fr_aI h (fun i5 h => ?_)
      refine fr_aI h (fun i6 h => ?_)
      refine fr_if h (fun h => ?_) (fun h => ?_)
      · exact hs0.trans (ih _ _ _ (hs0.fx hm) h)
      · refine fr_c h (fun v1 s8 hc h => ?_)
        have hs1 := hs0.trans ((w_M_resolveExpression _ _ _ _ (hs0.fx hm) (er_nn hc)).mono (by decide) (by decide))
        exact hs1.trans (ih _ _ _ (hs1.fx hm) h)
theorem w_M_resolveSelection_2 : ∀ (n : Nat) (x1 : Int32) (x2 : Int32) (s0 : g_St) {o : Unit × g_St}, m_Fix s0 → f_M_resolveSelection_2 n (some 1) x1 x2 s0 = some o → z_W [833, 897] [2964, 3028, 3220] s0 o.2 := by
  intro n
  induction n with
  | zero =>
    intro x1 x2 s0 o hm h
    rw [f_M_resolveSelection_2] at h
    cases h
  | succ n ih =>
    intro x1 x2 s0 o hm h
    rw [f_M_resolveSelection_2] at h
    have hs0 : z_W [833, 897] [2964, 3028, 3220] s0 s0 := z_W.re
    refine fr_gR (hs0.fx hm _ m_k2561).1 h (fun h => ?_)
    refine fr_aI h (fun i2 h => ?_)
    refine fr_if h (fun h => ?_) (fun h => ?_)
    · exact hs0.trans (w_M_resolveSelection_72 _ _ _ _ (hs0.fx hm) h)
    · refine fr_gR (hs0.fx hm _ m_k2497).1 h (fun h => ?_)
      refine fr_aI h (fun i4 h => ?_)
      refine fr_c h (fun v1 s6 hc h => ?_)
      have hs1 := hs0.trans ((w_M_resolveSource _ _ _ (hs0.fx hm) (er_nn hc)).mono (by decide) (by decide))
      refine fr_gR (hs1.fx hm _ m_k769).1 h (fun h => ?_)
      refine fr_gR (hs1.fx hm _ m_k3713).1 h (fun h => ?_)
      refine fr_aI h (fun i9 h => ?_)
      refine fr_aL h (fun j10 h => ?_)
      refine fr_c h (fun i11 s12 hc h => ?_)
      have hs2 := hs1.trans ((w_M_slotOf _ _ _ _ (hs1.fx hm) (er_nn hc)).mono (by decide) (by decide))
      refine fr_if h (fun h => ?_) (fun h => ?_)
      · exact hs2.trans (ih _ _ _ (hs2.fx hm) h)
      · refine fr_gR (hs2.fx hm _ m_k705).1 h (fun h => ?_)
        refine fr_gR (hs2.fx hm _ m_k3713).1 h (fun h => ?_)
        refine fr_aI h (fun i15 h => ?_)
        refine fr_aI h (fun i16 h => ?_)
        refine fr_c h (fun v3 s18 hc h => ?_)
        have hs3 := hs2.trans ((w_M_note _ _ _ (hs2.fx hm) (er_nn hc)).mono (by decide) (by decide))
        exact hs3.trans (ih _ _ _ (hs3.fx hm) h)
theorem w_M_resolveSelection (x1 : Int32) (s0 : g_St) {o : Unit × g_St} (hm : m_Fix s0) (h : f_M_resolveSelection (some 1) x1 s0 = some o) : z_W [833, 897] [2964, 3028, 3220] s0 o.2 := by
  unfold f_M_resolveSelection at h
  have hs0 : z_W [833, 897] [2964, 3028, 3220] s0 s0 := z_W.re
  exact hs0.trans (w_M_resolveSelection_2 _ _ _ _ (hs0.fx hm) h)
theorem w_M_ownColumn_2 : ∀ (n : Nat) (x1 : Int32) (x2 : Int32) (x3 : Int32) (s0 : g_St) {o : Int32 × g_St}, m_Fix s0 → f_M_ownColumn_2 n (some 1) x1 x2 x3 s0 = some o → z_W [833, 897] [] s0 o.2 := by
  intro n
  induction n with
  | zero =>
    intro x1 x2 x3 s0 o hm h
    rw [f_M_ownColumn_2] at h
    cases h
  | succ n ih =>
    intro x1 x2 x3 s0 o hm h
    rw [f_M_ownColumn_2] at h
    have hs0 : z_W [833, 897] [] s0 s0 := z_W.re
    refine fr_gR (hs0.fx hm _ m_k1281).1 h (fun h => ?_)
    refine fr_aI h (fun i2 h => ?_)
    refine fr_if h (fun h => ?_) (fun h => ?_)
    · refine fr_gR (hs0.fx hm _ m_k705).1 h (fun h => ?_)
      refine fr_aI h (fun i4 h => ?_)
      refine fr_c h (fun v1 s6 hc h => ?_)
      have hs1 := hs0.trans ((w_M_note _ _ _ (hs0.fx hm) (er_nn hc)).mono (by decide) (by decide))
      exact fr_some h hs1
    · refine fr_gR (hs0.fx hm _ m_k769).1 h (fun h => ?_)
      refine fr_gR (hs0.fx hm _ m_k1345).1 h (fun h => ?_)
      refine fr_aI h (fun i9 h => ?_)
      refine fr_aL h (fun j10 h => ?_)
      refine fr_gR (hs0.fx hm _ m_k769).1 h (fun h => ?_)
      refine fr_aL h (fun j12 h => ?_)
      refine fr_if h (fun h => ?_) (fun h => ?_)
      · exact fr_some h hs0
      · exact hs0.trans (ih _ _ _ _ (hs0.fx hm) h)
theorem w_M_ownColumn (x1 : Int32) (x2 : Int32) (s0 : g_St) {o : Int32 × g_St} (hm : m_Fix s0) (h : f_M_ownColumn (some 1) x1 x2 s0 = some o) : z_W [833, 897] [] s0 o.2 := by
  unfold f_M_ownColumn at h
  have hs0 : z_W [833, 897] [] s0 s0 := z_W.re
  exact hs0.trans (w_M_ownColumn_2 _ _ _ _ _ (hs0.fx hm) h)
theorem w_M_fresh_45 : ∀ (n : Nat) (x1 : Int32) (x2 : Int32) (x3 : Int32) (x5 : Int32) (x6 : Int32) (s0 : g_St) {o : Unit × g_St}, m_Fix s0 → f_M_fresh_45 n (some 1) x1 x2 x3 x5 x6 s0 = some o → z_W [833, 897] [] s0 o.2 := by
  intro n
  induction n with
  | zero =>
    intro x1 x2 x3 x5 x6 s0 o hm h
    rw [f_M_fresh_45] at h
    cases h
  | succ n ih =>
    intro x1 x2 x3 x5 x6 s0 o hm h
    rw [f_M_fresh_45] at h
    have hs0 : z_W [833, 897] [] s0 s0 := z_W.re
    refine fr_if h (fun h => ?_) (fun h => ?_)
    · refine fr_if h (fun h => ?_) (fun h => ?_)
      · exact fr_some h hs0
      · refine fr_gR (hs0.fx hm _ m_k705).1 h (fun h => ?_)
        refine fr_aI h (fun i2 h => ?_)
        refine fr_c h (fun v1 s4 hc h => ?_)
        have hs1 := hs0.trans ((w_M_note _ _ _ (hs0.fx hm) (er_nn hc)).mono (by decide) (by decide))
        exact fr_some h hs1
    · refine fr_if h (fun h => ?_) (fun h => ?_)
      · refine fr_gR (hs0.fx hm _ m_k769).1 h (fun h => ?_)
        refine fr_gR (hs0.fx hm _ m_k1345).1 h (fun h => ?_)
        refine fr_aI h (fun i7 h => ?_)
        refine fr_aL h (fun j8 h => ?_)
        refine fr_gR (hs0.fx hm _ m_k769).1 h (fun h => ?_)
        refine fr_aL h (fun j10 h => ?_)
        refine fr_if h (fun h => ?_) (fun h => ?_)
        · exact hs0.trans (ih _ _ _ _ _ _ (hs0.fx hm) h)
        · exact hs0.trans (ih _ _ _ _ _ _ (hs0.fx hm) h)
      · exact hs0.trans (ih _ _ _ _ _ _ (hs0.fx hm) h)
theorem w_M_fresh (x1 : Int32) (x2 : Int32) (x3 : Int32) (x4 : Int32) (s0 : g_St) {o : Unit × g_St} (hm : m_Fix s0) (h : f_M_fresh (some 1) x1 x2 x3 x4 s0 = some o) : z_W [833, 897] [] s0 o.2 := by
  unfold f_M_fresh at h
  have hs0 : z_W [833, 897] [] s0 s0 := z_W.re
  refine fr_if h (fun h => ?_) (fun h => ?_)
  · exact hs0.trans (w_M_fresh_45 _ _ _ _ _ _ _ (hs0.fx hm) h)
  · refine fr_gR (hs0.fx hm _ m_k1409).1 h (fun h => ?_)
    refine fr_aI h (fun i2 h => ?_)
    refine fr_if h (fun h => ?_) (fun h => ?_)
    · exact hs0.trans (w_M_fresh_45 _ _ _ _ _ _ _ (hs0.fx hm) h)
    · refine fr_gR (hs0.fx hm _ m_k769).1 h (fun h => ?_)
      refine fr_gR (hs0.fx hm _ m_k1537).1 h (fun h => ?_)
      refine fr_aI h (fun i5 h => ?_)
      refine fr_aL h (fun j6 h => ?_)
      refine fr_gR (hs0.fx hm _ m_k769).1 h (fun h => ?_)
      refine fr_aL h (fun j8 h => ?_)
      refine fr_if h (fun h => ?_) (fun h => ?_)
      · exact hs0.trans (w_M_fresh_45 _ _ _ _ _ _ _ (hs0.fx hm) h)
      · exact hs0.trans (w_M_fresh_45 _ _ _ _ _ _ _ (hs0.fx hm) h)
theorem w_M_resolvePart_134 (x1 : Int32) (s0 : g_St) {o : Unit × g_St} (hm : m_Fix s0) (h : f_M_resolvePart_134 (some 1) x1 s0 = some o) : z_W [833, 897] [1748, 1812] s0 o.2 := by
  unfold f_M_resolvePart_134 at h
  have hs0 : z_W [833, 897] [1748, 1812] s0 s0 := z_W.re
  refine fr_gR (hs0.fx hm _ m_k1601).1 h (fun h => ?_)
  refine fr_aI h (fun i2 h => ?_)
  refine fr_if h (fun h => ?_) (fun h => ?_)
  · exact fr_some h hs0
  · refine fr_gR (hs0.fx hm _ m_k1793).1 h (fun h => ?_)
    refine fr_gR (hs0.fx hm _ m_k1601).1 h (fun h => ?_)
    refine fr_aI h (fun i5 h => ?_)
    refine fr_c h (fun i6 s7 hc h => ?_)
    have hs1 := hs0.trans ((w_M_ownColumn _ _ _ (hs0.fx hm) (er_nn hc)).mono (by decide) (by decide))
    refine fr_sI h (fun j2 h => ?_)
    have hs2 := z_W.sI hs1 (a := 1812) (by decide) j2 i6
    refine fr_gR (hs2.fx hm _ m_k1665).1 h (fun h => ?_)
    refine fr_aI h (fun i10 h => ?_)
    refine fr_gR (hs2.fx hm _ m_k1281).1 h (fun h => ?_)
    refine fr_aI h (fun i12 h => ?_)
    refine fr_c h (fun v3 s14 hc h => ?_)
    have hs3 := hs2.trans ((w_M_fresh _ _ _ _ _ (hs2.fx hm) (er_nn hc)).mono (by decide) (by decide))
    exact fr_some h hs3
theorem w_M_resolvePart_57 : ∀ (n : Nat) (x1 : Int32) (x2 : Int32) (s0 : g_St) {o : Unit × g_St}, m_Fix s0 → f_M_resolvePart_57 n (some 1) x1 x2 s0 = some o → z_W [833, 897] [1748, 1812] s0 o.2 := by
  intro n
  induction n with
  | zero =>
    intro x1 x2 s0 o hm h
    rw [f_M_resolvePart_57] at h
    cases h
  | succ n ih =>
    intro x1 x2 s0 o hm h
    rw [f_M_resolvePart_57] at h
    have hs0 : z_W [833, 897] [1748, 1812] s0 s0 := z_W.re
    refine fr_gR (hs0.fx hm _ m_k1281).1 h (fun h => ?_)
    refine fr_aI h (fun i2 h => ?_)
    refine fr_if h (fun h => ?_) (fun h => ?_)
    · refine fr_gR (hs0.fx hm _ m_k1409).1 h (fun h => ?_)
      refine fr_aI h (fun i4 h => ?_)
      refine fr_if h (fun h => ?_) (fun h => ?_)
      · exact hs0.trans (w_M_resolvePart_134 _ _ (hs0.fx hm) h)
      · refine fr_gR (hs0.fx hm _ m_k1729).1 h (fun h => ?_)
        refine fr_gR (hs0.fx hm _ m_k1473).1 h (fun h => ?_)
        refine fr_aI h (fun i7 h => ?_)
        refine fr_c h (fun i8 s9 hc h => ?_)
        have hs1 := hs0.trans ((w_M_ownColumn _ _ _ (hs0.fx hm) (er_nn hc)).mono (by decide) (by decide))
        refine fr_sI h (fun j2 h => ?_)
        have hs2 := z_W.sI hs1 (a := 1748) (by decide) j2 i8
        refine fr_gR (hs2.fx hm _ m_k1537).1 h (fun h => ?_)
        refine fr_aI h (fun i12 h => ?_)
        refine fr_gR (hs2.fx hm _ m_k1281).1 h (fun h => ?_)
        refine fr_aI h (fun i14 h => ?_)
        refine fr_c h (fun v3 s16 hc h => ?_)
        have hs3 := hs2.trans ((w_M_fresh _ _ _ _ _ (hs2.fx hm) (er_nn hc)).mono (by decide) (by decide))
        exact hs3.trans (w_M_resolvePart_134 _ _ (hs3.fx hm) h)
    · refine fr_gR (hs0.fx hm _ m_k1345).1 h (fun h => ?_)
      refine fr_aI h (fun i18 h => ?_)
      refine fr_c h (fun v4 s20 hc h => ?_)
      have hs4 := hs0.trans ((w_M_fresh _ _ _ _ _ (hs0.fx hm) (er_nn hc)).mono (by decide) (by decide))
      exact hs4.trans (ih _ _ _ (hs4.fx hm) h)
theorem w_M_resolvePart_2 : ∀ (n : Nat) (x1 : Int32) (x2 : Int32) (s0 : g_St) {o : Unit × g_St}, m_Fix s0 → f_M_resolvePart_2 n (some 1) x1 x2 s0 = some o → z_W [833, 897] [1748, 1812] s0 o.2 := by
  intro n
  induction n with
  | zero =>
    intro x1 x2 s0 o hm h
    rw [f_M_resolvePart_2] at h
    cases h
  | succ n ih =>
    intro x1 x2 s0 o hm h
    rw [f_M_resolvePart_2] at h
    have hs0 : z_W [833, 897] [1748, 1812] s0 s0 := z_W.re
    refine fr_if h (fun h => ?_) (fun h => ?_)
    · exact hs0.trans (w_M_resolvePart_57 _ _ _ _ (hs0.fx hm) h)
    · refine fr_gR (hs0.fx hm _ m_k769).1 h (fun h => ?_)
      refine fr_gR (hs0.fx hm _ m_k1217).1 h (fun h => ?_)
      refine fr_aI h (fun i3 h => ?_)
      refine fr_aL h (fun j4 h => ?_)
      refine fr_gR (hs0.fx hm _ m_k769).1 h (fun h => ?_)
      refine fr_gR (hs0.fx hm _ m_k1217).1 h (fun h => ?_)
      refine fr_aI h (fun i7 h => ?_)
      refine fr_aL h (fun j8 h => ?_)
      refine fr_if h (fun h => ?_) (fun h => ?_)
      · refine fr_gR (hs0.fx hm _ m_k705).1 h (fun h => ?_)
        refine fr_gR (hs0.fx hm _ m_k1217).1 h (fun h => ?_)
        refine fr_aI h (fun i11 h => ?_)
        refine fr_aI h (fun i12 h => ?_)
        refine fr_c h (fun v1 s14 hc h => ?_)
        have hs1 := hs0.trans ((w_M_note _ _ _ (hs0.fx hm) (er_nn hc)).mono (by decide) (by decide))
        exact hs1.trans (ih _ _ _ (hs1.fx hm) h)
      · exact hs0.trans (ih _ _ _ (hs0.fx hm) h)
theorem w_M_resolvePart (x1 : Int32) (s0 : g_St) {o : Unit × g_St} (hm : m_Fix s0) (h : f_M_resolvePart (some 1) x1 s0 = some o) : z_W [833, 897] [1748, 1812] s0 o.2 := by
  unfold f_M_resolvePart at h
  have hs0 : z_W [833, 897] [1748, 1812] s0 s0 := z_W.re
  exact hs0.trans (w_M_resolvePart_2 _ _ _ _ (hs0.fx hm) h)
theorem w_M_resolveOrder_111 {k32 : Option Nat → Int32 → Int32 → g_St → Option (Unit × g_St)} (hk32 : ∀ (y1 : Int32) (y2 : Int32) (s : g_St) {o : Unit × g_St}, m_Fix s → k32 (some 1) y1 y2 s = some o → z_W [833, 897] [3796, 3860] s o.2) (x1 : Int32) (x2 : Int32) (x3 : Int32) (x1s : Int32) (x2s : Int32) (s0 : g_St) {o : Unit × g_St} (hm : m_Fix s0) (h : f_M_resolveOrder_111 k32 (some 1) x1 x2 x3 (some 3860) x1s x2s s0 = some o) : z_W [833, 897] [3796, 3860] s0 o.2 := by
  unfold f_M_resolveOrder_111 at h
  have hs0 : z_W [833, 897] [3796, 3860] s0 s0 := z_W.re
  refine fr_sI h (fun j1 h => ?_)
  have hs1 := z_W.sI hs0 (a := 3860) (by decide) j1 x2s
  refine fr_gR (hs1.fx hm _ m_k4609).1 h (fun h => ?_)
  refine fr_aI h (fun i3 h => ?_)
  refine fr_if h (fun h => ?_) (fun h => ?_)
  · refine fr_gR (hs1.fx hm _ m_k705).1 h (fun h => ?_)
    refine fr_aI h (fun i5 h => ?_)
    refine fr_c h (fun v2 s7 hc h => ?_)
    have hs2 := hs1.trans ((w_M_note _ _ _ (hs1.fx hm) (er_nn hc)).mono (by decide) (by decide))
    exact hs2.trans (hk32 _ _ _ (hs2.fx hm) h)
  · exact hs1.trans (hk32 _ _ _ (hs1.fx hm) h)
theorem w_M_resolveOrder_32 : ∀ (n : Nat) (x1 : Int32) (x2 : Int32) (s0 : g_St) {o : Unit × g_St}, m_Fix s0 → f_M_resolveOrder_32 n (some 1) x1 x2 s0 = some o → z_W [833, 897] [3796, 3860] s0 o.2 := by
  intro n
  induction n with
  | zero =>
    intro x1 x2 s0 o hm h
    rw [f_M_resolveOrder_32] at h
    cases h
  | succ n ih =>
    intro x1 x2 s0 o hm h
    rw [f_M_resolveOrder_32] at h
    have hs0 : z_W [833, 897] [3796, 3860] s0 s0 := z_W.re
    refine fr_gI h (fun i1 h => ?_)
    refine fr_if h (fun h => ?_) (fun h => ?_)
    · exact fr_some h hs0
    · refine fr_gR (hs0.fx hm _ m_k4481).1 h (fun h => ?_)
      refine fr_aI h (fun i3 h => ?_)
      refine fr_gR (hs0.fx hm _ m_k769).1 h (fun h => ?_)
      refine fr_aL h (fun j5 h => ?_)
      refine fr_c h (fun i6 s7 hc h => ?_)
      have hs1 := hs0.trans ((w_M_slotOf _ _ _ _ (hs0.fx hm) (er_nn hc)).mono (by decide) (by decide))
      refine fr_gR (hs1.fx hm _ m_k4545).1 h (fun h => ?_)
      refine fr_sI h (fun j2 h => ?_)
      have hs2 := z_W.sI hs1 (a := 3796) (by decide) j2 i6
      refine fr_gR (hs2.fx hm _ m_k4609).1 h (fun h => ?_)
      refine fr_if h (fun h => ?_) (fun h => ?_)
      · exact hs2.trans (w_M_resolveOrder_111 ih _ _ _ _ _ _ (hs2.fx hm) h)
      · refine fr_gR (hs2.fx hm _ m_k3777).1 h (fun h => ?_)
        refine fr_gR (hs2.fx hm _ m_k2497).1 h (fun h => ?_)
        refine fr_aI h (fun i13 h => ?_)
        refine fr_aI h (fun i14 h => ?_)
        refine fr_gR (hs2.fx hm _ m_k769).1 h (fun h => ?_)
        refine fr_aL h (fun j16 h => ?_)
        refine fr_c h (fun i17 s18 hc h => ?_)
        have hs3 := hs2.trans ((w_M_columnOf _ _ _ _ (hs2.fx hm) (er_nn hc)).mono (by decide) (by decide))
        exact hs3.trans (w_M_resolveOrder_111 ih _ _ _ _ _ _ (hs3.fx hm) h)
theorem w_M_resolveOrder (x1 : Int32) (s0 : g_St) {o : Unit × g_St} (hm : m_Fix s0) (h : f_M_resolveOrder (some 1) x1 s0 = some o) : z_W [833, 897] [3796, 3860] s0 o.2 := by
  unfold f_M_resolveOrder at h
  have hs0 : z_W [833, 897] [3796, 3860] s0 s0 := z_W.re
  refine fr_gI h (fun i1 h => ?_)
  refine fr_if h (fun h => ?_) (fun h => ?_)
  · exact hs0.trans (w_M_resolveOrder_32 _ _ _ _ (hs0.fx hm) h)
  · refine fr_gR (hs0.fx hm _ m_k2753).1 h (fun h => ?_)
    refine fr_aI h (fun i3 h => ?_)
    refine fr_if h (fun h => ?_) (fun h => ?_)
    · exact hs0.trans (w_M_resolveOrder_32 _ _ _ _ (hs0.fx hm) h)
    · refine fr_gR (hs0.fx hm _ m_k705).1 h (fun h => ?_)
      refine fr_gI h (fun i5 h => ?_)
      refine fr_aI h (fun i6 h => ?_)
      refine fr_c h (fun v1 s8 hc h => ?_)
      have hs1 := hs0.trans ((w_M_note _ _ _ (hs0.fx hm) (er_nn hc)).mono (by decide) (by decide))
      exact hs1.trans (w_M_resolveOrder_32 _ _ _ _ (hs1.fx hm) h)
theorem w_M_partNamed (x1 : Int32) (s0 : g_St) {o : Int32 × g_St} (hm : m_Fix s0) (h : f_M_partNamed (some 1) x1 s0 = some o) : z_W [] [] s0 o.2 := by
  unfold f_M_partNamed at h
  have hs0 : z_W [] [] s0 s0 := z_W.re
  refine fr_gR (hs0.fx hm _ m_k3777).1 h (fun h => ?_)
  refine fr_aI h (fun i2 h => ?_)
  refine fr_if h (fun h => ?_) (fun h => ?_)
  · exact fr_some h hs0
  · refine fr_gR (hs0.fx hm _ m_k3777).1 h (fun h => ?_)
    refine fr_aI h (fun i4 h => ?_)
    exact fr_some h hs0
theorem w_M_named_41 : ∀ (n : Nat) (x1 : Int32) (x2 : Int32) (x3 : Int32) (x4 : Int32) (s0 : g_St) {o : Int32 × g_St}, m_Fix s0 → f_M_named_41 n (some 1) x1 x2 x3 x4 s0 = some o → z_W [] [] s0 o.2 := by
  intro n
  induction n with
  | zero =>
    intro x1 x2 x3 x4 s0 o hm h
    rw [f_M_named_41] at h
    cases h
  | succ n ih =>
    intro x1 x2 x3 x4 s0 o hm h
    rw [f_M_named_41] at h
    have hs0 : z_W [] [] s0 s0 := z_W.re
    refine fr_if h (fun h => ?_) (fun h => ?_)
    · exact fr_some h hs0
    · refine fr_gR (hs0.fx hm _ m_k2625).1 h (fun h => ?_)
      refine fr_aI h (fun i2 h => ?_)
      refine fr_if h (fun h => ?_) (fun h => ?_)
      · exact fr_some h hs0
      · refine fr_gR (hs0.fx hm _ m_k2689).1 h (fun h => ?_)
        refine fr_aI h (fun i4 h => ?_)
        refine fr_gR (hs0.fx hm _ m_k3905).1 h (fun h => ?_)
        refine fr_aI h (fun i6 h => ?_)
        refine fr_if h (fun h => ?_) (fun h => ?_)
        · refine fr_gR (hs0.fx hm _ m_k4161).1 h (fun h => ?_)
          refine fr_aI h (fun i8 h => ?_)
          refine fr_c h (fun i9 s10 hc h => ?_)
          have hs1 := hs0.trans ((w_M_partNamed _ _ (hs0.fx hm) (er_nn hc)).mono (by decide) (by decide))
          exact hs1.trans (ih _ _ _ _ _ (hs1.fx hm) h)
        · exact hs0.trans (ih _ _ _ _ _ (hs0.fx hm) h)
theorem w_M_named_5 : ∀ (n : Nat) (x1 : Int32) (x2 : Int32) (x3 : Int32) (x4 : Int32) (s0 : g_St) {o : Int32 × g_St}, m_Fix s0 → f_M_named_5 n (some 1) x1 x2 x3 x4 s0 = some o → z_W [] [] s0 o.2 := by
  intro n
  induction n with
  | zero =>
    intro x1 x2 x3 x4 s0 o hm h
    rw [f_M_named_5] at h
    cases h
  | succ n ih =>
    intro x1 x2 x3 x4 s0 o hm h
    rw [f_M_named_5] at h
    have hs0 : z_W [] [] s0 s0 := z_W.re
    refine fr_gR (hs0.fx hm _ m_k2561).1 h (fun h => ?_)
    refine fr_aI h (fun i2 h => ?_)
    refine fr_if h (fun h => ?_) (fun h => ?_)
    · exact hs0.trans (w_M_named_41 _ _ _ _ _ _ (hs0.fx hm) h)
    · refine fr_gR (hs0.fx hm _ m_k2497).1 h (fun h => ?_)
      refine fr_aI h (fun i4 h => ?_)
      refine fr_c h (fun i5 s6 hc h => ?_)
      have hs1 := hs0.trans ((w_M_partNamed _ _ (hs0.fx hm) (er_nn hc)).mono (by decide) (by decide))
      exact hs1.trans (ih _ _ _ _ _ (hs1.fx hm) h)
theorem w_M_named (x1 : Int32) (x2 : Int32) (s0 : g_St) {o : Int32 × g_St} (hm : m_Fix s0) (h : f_M_named (some 1) x1 x2 s0 = some o) : z_W [] [] s0 o.2 := by
  unfold f_M_named at h
  have hs0 : z_W [] [] s0 s0 := z_W.re
  exact hs0.trans (w_M_named_5 _ _ _ _ _ _ (hs0.fx hm) h)
theorem w_M_together_6 : ∀ (n : Nat) (x1 : Int32) (x2 : Int32) (x3 : Int32) (s0 : g_St) {o : Int32 × g_St}, m_Fix s0 → f_M_together_6 n (some 1) x1 x2 x3 s0 = some o → z_W [] [] s0 o.2 := by
  intro n
  induction n with
  | zero =>
    intro x1 x2 x3 s0 o hm h
    rw [f_M_together_6] at h
    cases h
  | succ n ih =>
    intro x1 x2 x3 s0 o hm h
    rw [f_M_together_6] at h
    have hs0 : z_W [] [] s0 s0 := z_W.re
    refine fr_gI h (fun i1 h => ?_)
    refine fr_if h (fun h => ?_) (fun h => ?_)
    · exact fr_some h hs0
    · refine fr_gR (hs0.fx hm _ m_k4737).1 h (fun h => ?_)
      refine fr_aI h (fun i3 h => ?_)
      refine fr_if h (fun h => ?_) (fun h => ?_)
      · refine fr_gR (hs0.fx hm _ m_k4737).1 h (fun h => ?_)
        refine fr_aI h (fun i5 h => ?_)
        refine fr_if h (fun h => ?_) (fun h => ?_)
        · exact hs0.trans (ih _ _ _ _ (hs0.fx hm) h)
        · exact hs0.trans (ih _ _ _ _ (hs0.fx hm) h)
      · exact hs0.trans (ih _ _ _ _ (hs0.fx hm) h)
theorem w_M_together (x1 : Int32) (s0 : g_St) {o : Int32 × g_St} (hm : m_Fix s0) (h : f_M_together (some 1) x1 s0 = some o) : z_W [] [] s0 o.2 := by
  unfold f_M_together at h
  have hs0 : z_W [] [] s0 s0 := z_W.re
  exact hs0.trans (w_M_together_6 _ _ _ _ _ (hs0.fx hm) h)
theorem w_M_findComponents_229 {k163 : Option Nat → Int32 → g_St → Option (Unit × g_St)} (hk163 : ∀ (y1 : Int32) (s : g_St) {o : Unit × g_St}, m_Fix s → k163 (some 1) y1 s = some o → z_W [4865] [3924, 3988, 4052] s o.2) : ∀ (n : Nat) (x1 : Int32) (x2 : Int32) (x3 : Int32) (s0 : g_St) {o : Unit × g_St}, m_Fix s0 → f_M_findComponents_229 k163 n (some 1) x1 x2 x3 s0 = some o → z_W [4865] [3924, 3988, 4052] s0 o.2 := by
  intro n
  induction n with
  | zero =>
    intro x1 x2 x3 s0 o hm h
    rw [f_M_findComponents_229] at h
    cases h
  | succ n ih =>
    intro x1 x2 x3 s0 o hm h
    rw [f_M_findComponents_229] at h
    have hs0 : z_W [4865] [3924, 3988, 4052] s0 s0 := z_W.re
    refine fr_gI h (fun i1 h => ?_)
    refine fr_if h (fun h => ?_) (fun h => ?_)
    · refine fr_c h (fun i2 s3 hc h => ?_)
      have hs1 := hs0.trans ((w_M_together _ _ (hs0.fx hm) (er_nn hc)).mono (by decide) (by decide))
      refine fr_gI h (fun i4 h => ?_)
      refine fr_pI h (fun h => ?_)
      have hs2 := z_W.pI hs1 (k := 4865) (by decide) (i4 + 1)
      exact hs2.trans (hk163 _ _ (hs2.fx hm) h)
    · refine fr_c h (fun i6 s7 hc h => ?_)
      have hs3 := hs0.trans ((w_M_together _ _ (hs0.fx hm) (er_nn hc)).mono (by decide) (by decide))
      refine fr_if h (fun h => ?_) (fun h => ?_)
      · refine fr_gR (hs3.fx hm _ m_k4801).1 h (fun h => ?_)
        refine fr_gI h (fun i9 h => ?_)
        refine fr_sI h (fun j4 h => ?_)
        have hs4 := z_W.sI hs3 (a := 4052) (by decide) j4 i9
        exact hs4.trans (ih _ _ _ _ (hs4.fx hm) h)
      · exact hs3.trans (ih _ _ _ _ (hs3.fx hm) h)
theorem w_M_findComponents_184 {k163 : Option Nat → Int32 → g_St → Option (Unit × g_St)} (hk163 : ∀ (y1 : Int32) (s : g_St) {o : Unit × g_St}, m_Fix s → k163 (some 1) y1 s = some o → z_W [4865] [3924, 3988, 4052] s o.2) : ∀ (n : Nat) (x1 : Int32) (x2 : Int32) (x3 : Int32) (s0 : g_St) {o : Unit × g_St}, m_Fix s0 → f_M_findComponents_184 k163 n (some 1) x1 x2 x3 s0 = some o → z_W [4865] [3924, 3988, 4052] s0 o.2 := by
  intro n
  induction n with
  | zero =>
    intro x1 x2 x3 s0 o hm h
    rw [f_M_findComponents_184] at h
    cases h
  | succ n ih =>
    intro x1 x2 x3 s0 o hm h
    rw [f_M_findComponents_184] at h
    have hs0 : z_W [4865] [3924, 3988, 4052] s0 s0 := z_W.re
    refine fr_if h (fun h => ?_) (fun h => ?_)
    · exact hs0.trans (w_M_findComponents_229 hk163 _ _ _ _ _ (hs0.fx hm) h)
    · refine fr_gR (hs0.fx hm _ m_k4801).1 h (fun h => ?_)
      refine fr_aI h (fun i2 h => ?_)
      refine fr_if h (fun h => ?_) (fun h => ?_)
      · refine fr_gR (hs0.fx hm _ m_k4737).1 h (fun h => ?_)
        refine fr_aI h (fun i4 h => ?_)
        refine fr_c h (fun i5 s6 hc h => ?_)
        have hs1 := hs0.trans ((w_M_together _ _ (hs0.fx hm) (er_nn hc)).mono (by decide) (by decide))
        refine fr_if h (fun h => ?_) (fun h => ?_)
        · exact hs1.trans (ih _ _ _ _ (hs1.fx hm) h)
        · exact hs1.trans (ih _ _ _ _ (hs1.fx hm) h)
      · exact hs0.trans (ih _ _ _ _ (hs0.fx hm) h)
theorem w_M_findComponents_163 : ∀ (n : Nat) (x1 : Int32) (s0 : g_St) {o : Unit × g_St}, m_Fix s0 → f_M_findComponents_163 n (some 1) x1 s0 = some o → z_W [4865] [3924, 3988, 4052] s0 o.2 := by
  intro n
  induction n with
  | zero =>
    intro x1 s0 o hm h
    rw [f_M_findComponents_163] at h
    cases h
  | succ n ih =>
    intro x1 s0 o hm h
    rw [f_M_findComponents_163] at h
    have hs0 : z_W [4865] [3924, 3988, 4052] s0 s0 := z_W.re
    refine fr_gI h (fun i1 h => ?_)
    refine fr_if h (fun h => ?_) (fun h => ?_)
    · exact fr_some h hs0
    · refine fr_gI h (fun i2 h => ?_)
      exact hs0.trans (w_M_findComponents_184 ih _ _ _ _ _ (hs0.fx hm) h)
theorem w_M_findComponents_101 {k91 : Option Nat → Int32 → Int32 → g_St → Option (Unit × g_St)} (hk91 : ∀ (y1 : Int32) (y2 : Int32) (s : g_St) {o : Unit × g_St}, m_Fix s → k91 (some 1) y1 y2 s = some o → z_W [4865] [3924, 3988, 4052] s o.2) : ∀ (n : Nat) (x1 : Int32) (x2 : Int32) (x3 : Int32) (s0 : g_St) {o : Unit × g_St}, m_Fix s0 → f_M_findComponents_101 k91 n (some 1) x1 x2 x3 s0 = some o → z_W [4865] [3924, 3988, 4052] s0 o.2 := by
  intro n
  induction n with
  | zero =>
    intro x1 x2 x3 s0 o hm h
    rw [f_M_findComponents_101] at h
    cases h
  | succ n ih =>
    intro x1 x2 x3 s0 o hm h
    rw [f_M_findComponents_101] at h
    have hs0 : z_W [4865] [3924, 3988, 4052] s0 s0 := z_W.re
    refine fr_gI h (fun i1 h => ?_)
    refine fr_if h (fun h => ?_) (fun h => ?_)
    · exact hs0.trans (hk91 _ _ _ (hs0.fx hm) h)
    · refine fr_gR (hs0.fx hm _ m_k4737).1 h (fun h => ?_)
      refine fr_aI h (fun i3 h => ?_)
      refine fr_if h (fun h => ?_) (fun h => ?_)
      · refine fr_gR (hs0.fx hm _ m_k4737).1 h (fun h => ?_)
        refine fr_aI h (fun i5 h => ?_)
        refine fr_gR (hs0.fx hm _ m_k4737).1 h (fun h => ?_)
        refine fr_aI h (fun i7 h => ?_)
        refine fr_sI h (fun j1 h => ?_)
        have hs1 := z_W.sI hs0 (a := 3988) (by decide) j1 (i5 ||| i7)
        exact hs1.trans (ih _ _ _ _ (hs1.fx hm) h)
      · exact hs0.trans (ih _ _ _ _ (hs0.fx hm) h)
theorem w_M_findComponents_91 {k84 : Option Nat → Int32 → g_St → Option (Unit × g_St)} (hk84 : ∀ (y1 : Int32) (s : g_St) {o : Unit × g_St}, m_Fix s → k84 (some 1) y1 s = some o → z_W [4865] [3924, 3988, 4052] s o.2) : ∀ (n : Nat) (x1 : Int32) (x2 : Int32) (s0 : g_St) {o : Unit × g_St}, m_Fix s0 → f_M_findComponents_91 k84 n (some 1) x1 x2 s0 = some o → z_W [4865] [3924, 3988, 4052] s0 o.2 := by
  intro n
  induction n with
  | zero =>
    intro x1 x2 s0 o hm h
    rw [f_M_findComponents_91] at h
    cases h
  | succ n ih =>
    intro x1 x2 s0 o hm h
    rw [f_M_findComponents_91] at h
    have hs0 : z_W [4865] [3924, 3988, 4052] s0 s0 := z_W.re
    refine fr_gI h (fun i1 h => ?_)
    refine fr_if h (fun h => ?_) (fun h => ?_)
    · exact hs0.trans (hk84 _ _ (hs0.fx hm) h)
    · exact hs0.trans (w_M_findComponents_101 ih _ _ _ _ _ (hs0.fx hm) h)
theorem w_M_findComponents_84 : ∀ (n : Nat) (x1 : Int32) (s0 : g_St) {o : Unit × g_St}, m_Fix s0 → f_M_findComponents_84 n (some 1) x1 s0 = some o → z_W [4865] [3924, 3988, 4052] s0 o.2 := by
  intro n
  induction n with
  | zero =>
    intro x1 s0 o hm h
    rw [f_M_findComponents_84] at h
    cases h
  | succ n ih =>
    intro x1 s0 o hm h
    rw [f_M_findComponents_84] at h
    have hs0 : z_W [4865] [3924, 3988, 4052] s0 s0 := z_W.re
    refine fr_if h (fun h => ?_) (fun h => ?_)
    · refine fr_pI h (fun h => ?_)
      have hs1 := z_W.pI hs0 (k := 4865) (by decide) 0
      exact hs1.trans (w_M_findComponents_163 _ _ _ (hs1.fx hm) h)
    · exact hs0.trans (w_M_findComponents_91 ih _ _ _ _ (hs0.fx hm) h)
theorem w_M_findComponents_19 {k2 : Option Nat → Int32 → g_St → Option (Unit × g_St)} (hk2 : ∀ (y1 : Int32) (s : g_St) {o : Unit × g_St}, m_Fix s → k2 (some 1) y1 s = some o → z_W [4865] [3924, 3988, 4052] s o.2) : ∀ (n : Nat) (x1 : Int32) (x2 : Int32) (s0 : g_St) {o : Unit × g_St}, m_Fix s0 → f_M_findComponents_19 k2 n (some 1) x1 x2 s0 = some o → z_W [4865] [3924, 3988, 4052] s0 o.2 := by
  intro n
  induction n with
  | zero =>
    intro x1 x2 s0 o hm h
    rw [f_M_findComponents_19] at h
    cases h
  | succ n ih =>
    intro x1 x2 s0 o hm h
    rw [f_M_findComponents_19] at h
    have hs0 : z_W [4865] [3924, 3988, 4052] s0 s0 := z_W.re
    refine fr_gR (hs0.fx hm _ m_k2049).1 h (fun h => ?_)
    refine fr_aI h (fun i2 h => ?_)
    refine fr_if h (fun h => ?_) (fun h => ?_)
    · refine fr_gR (hs0.fx hm _ m_k4737).1 h (fun h => ?_)
      refine fr_gR (hs0.fx hm _ m_k4673).1 h (fun h => ?_)
      refine fr_aI h (fun i5 h => ?_)
      refine fr_sI h (fun j1 h => ?_)
      have hs1 := z_W.sI hs0 (a := 3988) (by decide) j1 i5
      refine fr_gR (hs1.fx hm _ m_k4801).1 h (fun h => ?_)
      refine fr_sI h (fun j2 h => ?_)
      have hs2 := z_W.sI hs1 (a := 4052) (by decide) j2 (-1)
      exact hs2.trans (hk2 _ _ (hs2.fx hm) h)
    · refine fr_gR (hs0.fx hm _ m_k4673).1 h (fun h => ?_)
      refine fr_aI h (fun i10 h => ?_)
      refine fr_gR (hs0.fx hm _ m_k1985).1 h (fun h => ?_)
      refine fr_aI h (fun i12 h => ?_)
      refine fr_c h (fun i13 s14 hc h => ?_)
      have hs3 := hs0.trans ((w_M_named _ _ _ (hs0.fx hm) (er_nn hc)).mono (by decide) (by decide))
      refine fr_sI h (fun j4 h => ?_)
      have hs4 := z_W.sI hs3 (a := 3924) (by decide) j4 (i10 ||| i13)
      exact hs4.trans (ih _ _ _ (hs4.fx hm) h)
theorem w_M_findComponents_2 : ∀ (n : Nat) (x1 : Int32) (s0 : g_St) {o : Unit × g_St}, m_Fix s0 → f_M_findComponents_2 n (some 1) x1 s0 = some o → z_W [4865] [3924, 3988, 4052] s0 o.2 := by
  intro n
  induction n with
  | zero =>
    intro x1 s0 o hm h
    rw [f_M_findComponents_2] at h
    cases h
  | succ n ih =>
    intro x1 s0 o hm h
    rw [f_M_findComponents_2] at h
    have hs0 : z_W [4865] [3924, 3988, 4052] s0 s0 := z_W.re
    refine fr_gI h (fun i1 h => ?_)
    refine fr_if h (fun h => ?_) (fun h => ?_)
    · exact hs0.trans (w_M_findComponents_84 _ _ _ (hs0.fx hm) h)
    · refine fr_gR (hs0.fx hm _ m_k4673).1 h (fun h => ?_)
      refine fr_sI h (fun j1 h => ?_)
      have hs1 := z_W.sI hs0 (a := 3924) (by decide) j1 0
      exact hs1.trans (w_M_findComponents_19 ih _ _ _ _ (hs1.fx hm) h)
theorem w_M_findComponents  (s0 : g_St) {o : Unit × g_St} (hm : m_Fix s0) (h : f_M_findComponents (some 1) s0 = some o) : z_W [4865] [3924, 3988, 4052] s0 o.2 := by
  unfold f_M_findComponents at h
  have hs0 : z_W [4865] [3924, 3988, 4052] s0 s0 := z_W.re
  exact hs0.trans (w_M_findComponents_2 _ _ _ (hs0.fx hm) h)
theorem w_M_isRecursive (x1 : Int32) (s0 : g_St) {o : Int32 × g_St} (hm : m_Fix s0) (h : f_M_isRecursive (some 1) x1 s0 = some o) : z_W [] [] s0 o.2 := by
  unfold f_M_isRecursive at h
  have hs0 : z_W [] [] s0 s0 := z_W.re
  refine fr_gR (hs0.fx hm _ m_k4737).1 h (fun h => ?_)
  refine fr_aI h (fun i2 h => ?_)
  refine fr_if h (fun h => ?_) (fun h => ?_)
  · exact fr_rZ h (fun h => fr_some h hs0)
  · exact fr_rZ h (fun h => fr_some h hs0)
theorem w_M_checkBarred_69 : ∀ (n : Nat) (x1 : Int32) (x2 : Int32) (x3 : Int32) (s0 : g_St) {o : Unit × g_St}, m_Fix s0 → f_M_checkBarred_69 n (some 1) x1 x2 x3 s0 = some o → z_W [833, 897] [] s0 o.2 := by
  intro n
  induction n with
  | zero =>
    intro x1 x2 x3 s0 o hm h
    rw [f_M_checkBarred_69] at h
    cases h
  | succ n ih =>
    intro x1 x2 x3 s0 o hm h
    rw [f_M_checkBarred_69] at h
    have hs0 : z_W [833, 897] [] s0 s0 := z_W.re
    refine fr_gR (hs0.fx hm _ m_k2625).1 h (fun h => ?_)
    refine fr_aI h (fun i2 h => ?_)
    refine fr_if h (fun h => ?_) (fun h => ?_)
    · exact fr_some h hs0
    · refine fr_gR (hs0.fx hm _ m_k2689).1 h (fun h => ?_)
      refine fr_aI h (fun i4 h => ?_)
      refine fr_gR (hs0.fx hm _ m_k3905).1 h (fun h => ?_)
      refine fr_aI h (fun i6 h => ?_)
      refine fr_if h (fun h => ?_) (fun h => ?_)
      · refine fr_gR (hs0.fx hm _ m_k4161).1 h (fun h => ?_)
        refine fr_aI h (fun i8 h => ?_)
        refine fr_c h (fun i9 s10 hc h => ?_)
        have hs1 := hs0.trans ((w_M_partNamed _ _ (hs0.fx hm) (er_nn hc)).mono (by decide) (by decide))
        refine fr_if h (fun h => ?_) (fun h => ?_)
        · exact hs1.trans (ih _ _ _ _ (hs1.fx hm) h)
        · refine fr_gR (hs1.fx hm _ m_k705).1 h (fun h => ?_)
          refine fr_gR (hs1.fx hm _ m_k3649).1 h (fun h => ?_)
          refine fr_gR (hs1.fx hm _ m_k4161).1 h (fun h => ?_)
          refine fr_aI h (fun i14 h => ?_)
          refine fr_aI h (fun i15 h => ?_)
          refine fr_aI h (fun i16 h => ?_)
          refine fr_c h (fun v2 s18 hc h => ?_)
          have hs2 := hs1.trans ((w_M_note _ _ _ (hs1.fx hm) (er_nn hc)).mono (by decide) (by decide))
          exact hs2.trans (ih _ _ _ _ (hs2.fx hm) h)
      · exact hs0.trans (ih _ _ _ _ (hs0.fx hm) h)
theorem w_M_checkBarred_2 : ∀ (n : Nat) (x1 : Int32) (x2 : Int32) (x3 : Int32) (s0 : g_St) {o : Unit × g_St}, m_Fix s0 → f_M_checkBarred_2 n (some 1) x1 x2 x3 s0 = some o → z_W [833, 897] [] s0 o.2 := by
  intro n
  induction n with
  | zero =>
    intro x1 x2 x3 s0 o hm h
    rw [f_M_checkBarred_2] at h
    cases h
  | succ n ih =>
    intro x1 x2 x3 s0 o hm h
    rw [f_M_checkBarred_2] at h
    have hs0 : z_W [833, 897] [] s0 s0 := z_W.re
    refine fr_gR (hs0.fx hm _ m_k2753).1 h (fun h => ?_)
    refine fr_aI h (fun i2 h => ?_)
    refine fr_if h (fun h => ?_) (fun h => ?_)
    · exact hs0.trans (w_M_checkBarred_69 _ _ _ _ _ (hs0.fx hm) h)
    · refine fr_gR (hs0.fx hm _ m_k2561).1 h (fun h => ?_)
      refine fr_aI h (fun i4 h => ?_)
      refine fr_if h (fun h => ?_) (fun h => ?_)
      · exact hs0.trans (w_M_checkBarred_69 _ _ _ _ _ (hs0.fx hm) h)
      · refine fr_gR (hs0.fx hm _ m_k2497).1 h (fun h => ?_)
        refine fr_aI h (fun i6 h => ?_)
        refine fr_c h (fun i7 s8 hc h => ?_)
        have hs1 := hs0.trans ((w_M_partNamed _ _ (hs0.fx hm) (er_nn hc)).mono (by decide) (by decide))
        refine fr_if h (fun h => ?_) (fun h => ?_)
        · exact hs1.trans (ih _ _ _ _ (hs1.fx hm) h)
        · refine fr_gR (hs1.fx hm _ m_k705).1 h (fun h => ?_)
          refine fr_gR (hs1.fx hm _ m_k3649).1 h (fun h => ?_)
          refine fr_gR (hs1.fx hm _ m_k2497).1 h (fun h => ?_)
          refine fr_aI h (fun i12 h => ?_)
          refine fr_aI h (fun i13 h => ?_)
          refine fr_aI h (fun i14 h => ?_)
          refine fr_c h (fun v2 s16 hc h => ?_)
          have hs2 := hs1.trans ((w_M_note _ _ _ (hs1.fx hm) (er_nn hc)).mono (by decide) (by decide))
          exact hs2.trans (ih _ _ _ _ (hs2.fx hm) h)
theorem w_M_checkBarred (x1 : Int32) (x2 : Int32) (s0 : g_St) {o : Unit × g_St} (hm : m_Fix s0) (h : f_M_checkBarred (some 1) x1 x2 s0 = some o) : z_W [833, 897] [] s0 o.2 := by
  unfold f_M_checkBarred at h
  have hs0 : z_W [833, 897] [] s0 s0 := z_W.re
  exact hs0.trans (w_M_checkBarred_2 _ _ _ _ _ (hs0.fx hm) h)
theorem w_M_timesNamed_54 : ∀ (n : Nat) (x1 : Int32) (x2 : Int32) (x3 : Int32) (x4 : Int32) (s0 : g_St) {o : Int32 × g_St}, m_Fix s0 → f_M_timesNamed_54 n (some 1) x1 x2 x3 x4 s0 = some o → z_W [] [] s0 o.2 := by
  intro n
  induction n with
  | zero =>
    intro x1 x2 x3 x4 s0 o hm h
    rw [f_M_timesNamed_54] at h
    cases h
  | succ n ih =>
    intro x1 x2 x3 x4 s0 o hm h
    rw [f_M_timesNamed_54] at h
    have hs0 : z_W [] [] s0 s0 := z_W.re
    refine fr_gR (hs0.fx hm _ m_k2625).1 h (fun h => ?_)
    refine fr_aI h (fun i2 h => ?_)
    refine fr_if h (fun h => ?_) (fun h => ?_)
    · exact fr_some h hs0
    · refine fr_gR (hs0.fx hm _ m_k2689).1 h (fun h => ?_)
      refine fr_aI h (fun i4 h => ?_)
      refine fr_gR (hs0.fx hm _ m_k3905).1 h (fun h => ?_)
      refine fr_aI h (fun i6 h => ?_)
      refine fr_if h (fun h => ?_) (fun h => ?_)
      · refine fr_gR (hs0.fx hm _ m_k3777).1 h (fun h => ?_)
        refine fr_gR (hs0.fx hm _ m_k4161).1 h (fun h => ?_)
        refine fr_aI h (fun i9 h => ?_)
        refine fr_aI h (fun i10 h => ?_)
        refine fr_if h (fun h => ?_) (fun h => ?_)
        · exact hs0.trans (ih _ _ _ _ _ (hs0.fx hm) h)
        · exact hs0.trans (ih _ _ _ _ _ (hs0.fx hm) h)
      · exact hs0.trans (ih _ _ _ _ _ (hs0.fx hm) h)
theorem w_M_timesNamed_5 : ∀ (n : Nat) (x1 : Int32) (x2 : Int32) (x3 : Int32) (x4 : Int32) (s0 : g_St) {o : Int32 × g_St}, m_Fix s0 → f_M_timesNamed_5 n (some 1) x1 x2 x3 x4 s0 = some o → z_W [] [] s0 o.2 := by
  intro n
  induction n with
  | zero =>
    intro x1 x2 x3 x4 s0 o hm h
    rw [f_M_timesNamed_5] at h
    cases h
  | succ n ih =>
    intro x1 x2 x3 x4 s0 o hm h
    rw [f_M_timesNamed_5] at h
    have hs0 : z_W [] [] s0 s0 := z_W.re
    refine fr_gR (hs0.fx hm _ m_k2561).1 h (fun h => ?_)
    refine fr_aI h (fun i2 h => ?_)
    refine fr_if h (fun h => ?_) (fun h => ?_)
    · exact hs0.trans (w_M_timesNamed_54 _ _ _ _ _ _ (hs0.fx hm) h)
    · refine fr_gR (hs0.fx hm _ m_k3777).1 h (fun h => ?_)
      refine fr_gR (hs0.fx hm _ m_k2497).1 h (fun h => ?_)
      refine fr_aI h (fun i5 h => ?_)
      refine fr_aI h (fun i6 h => ?_)
      refine fr_if h (fun h => ?_) (fun h => ?_)
      · exact hs0.trans (ih _ _ _ _ _ (hs0.fx hm) h)
      · exact hs0.trans (ih _ _ _ _ _ (hs0.fx hm) h)
theorem w_M_timesNamed (x1 : Int32) (x2 : Int32) (s0 : g_St) {o : Int32 × g_St} (hm : m_Fix s0) (h : f_M_timesNamed (some 1) x1 x2 s0 = some o) : z_W [] [] s0 o.2 := by
  unfold f_M_timesNamed at h
  have hs0 : z_W [] [] s0 s0 := z_W.re
  exact hs0.trans (w_M_timesNamed_5 _ _ _ _ _ _ (hs0.fx hm) h)
theorem w_M_checkShapes_248 {k2 : Option Nat → Int32 → g_St → Option (Unit × g_St)} (hk2 : ∀ (y1 : Int32) (s : g_St) {o : Unit × g_St}, m_Fix s → k2 (some 1) y1 s = some o → z_W [833, 897] [] s o.2) (x1 : Int32) (x2 : Int32) (x4 : Int32) (s0 : g_St) {o : Unit × g_St} (hm : m_Fix s0) (h : f_M_checkShapes_248 k2 (some 1) x1 x2 x4 s0 = some o) : z_W [833, 897] [] s0 o.2 := by
  unfold f_M_checkShapes_248 at h
  have hs0 : z_W [833, 897] [] s0 s0 := z_W.re
  refine fr_c h (fun i1 s2 hc h => ?_)
  have hs1 := hs0.trans ((w_M_isRecursive _ _ (hs0.fx hm) (er_nn hc)).mono (by decide) (by decide))
  refine fr_if h (fun h => ?_) (fun h => ?_)
  · refine fr_if h (fun h => ?_) (fun h => ?_)
    · exact hs1.trans (hk2 _ _ (hs1.fx hm) h)
    · refine fr_c h (fun v2 s4 hc h => ?_)
      have hs2 := hs1.trans ((w_M_note _ _ _ (hs1.fx hm) (er_nn hc)).mono (by decide) (by decide))
      exact hs2.trans (hk2 _ _ (hs2.fx hm) h)
  · exact hs1.trans (hk2 _ _ (hs1.fx hm) h)
theorem w_M_checkShapes_241 {k2 : Option Nat → Int32 → g_St → Option (Unit × g_St)} (hk2 : ∀ (y1 : Int32) (s : g_St) {o : Unit × g_St}, m_Fix s → k2 (some 1) y1 s = some o → z_W [833, 897] [] s o.2) (x1 : Int32) (x2 : Int32) (x4 : Int32) (s0 : g_St) {o : Unit × g_St} (hm : m_Fix s0) (h : f_M_checkShapes_241 k2 (some 1) x1 x2 x4 s0 = some o) : z_W [833, 897] [] s0 o.2 := by
  unfold f_M_checkShapes_241 at h
  have hs0 : z_W [833, 897] [] s0 s0 := z_W.re
  refine fr_c h (fun v1 s2 hc h => ?_)
  have hs1 := hs0.trans ((w_M_note _ _ _ (hs0.fx hm) (er_nn hc)).mono (by decide) (by decide))
  exact hs1.trans (w_M_checkShapes_248 hk2 _ _ _ _ (hs1.fx hm) h)
theorem w_M_checkShapes_215 {k2 : Option Nat → Int32 → g_St → Option (Unit × g_St)} (hk2 : ∀ (y1 : Int32) (s : g_St) {o : Unit × g_St}, m_Fix s → k2 (some 1) y1 s = some o → z_W [833, 897] [] s o.2) (x1 : Int32) (x2 : Int32) (x3 : Int32) (x4 : Int32) (s0 : g_St) {o : Unit × g_St} (hm : m_Fix s0) (h : f_M_checkShapes_215 k2 (some 1) x1 x2 x3 x4 s0 = some o) : z_W [833, 897] [] s0 o.2 := by
  unfold f_M_checkShapes_215 at h
  have hs0 : z_W [833, 897] [] s0 s0 := z_W.re
  refine fr_c h (fun i1 s2 hc h => ?_)
  have hs1 := hs0.trans ((w_M_isRecursive _ _ (hs0.fx hm) (er_nn hc)).mono (by decide) (by decide))
  refine fr_if h (fun h => ?_) (fun h => ?_)
  · exact hs1.trans (w_M_checkShapes_248 hk2 _ _ _ _ (hs1.fx hm) h)
  · refine fr_if h (fun h => ?_) (fun h => ?_)
    · refine fr_gR (hs1.fx hm _ m_k1921).1 h (fun h => ?_)
      refine fr_aI h (fun i4 h => ?_)
      refine fr_if h (fun h => ?_) (fun h => ?_)
      · refine fr_if h (fun h => ?_) (fun h => ?_)
        · exact hs1.trans (w_M_checkShapes_248 hk2 _ _ _ _ (hs1.fx hm) h)
        · exact hs1.trans (w_M_checkShapes_241 hk2 _ _ _ _ (hs1.fx hm) h)
      · exact hs1.trans (w_M_checkShapes_241 hk2 _ _ _ _ (hs1.fx hm) h)
    · exact hs1.trans (w_M_checkShapes_248 hk2 _ _ _ _ (hs1.fx hm) h)
theorem w_M_checkShapes_178 {k2 : Option Nat → Int32 → g_St → Option (Unit × g_St)} (hk2 : ∀ (y1 : Int32) (s : g_St) {o : Unit × g_St}, m_Fix s → k2 (some 1) y1 s = some o → z_W [833, 897] [] s o.2) (x1 : Int32) (x2 : Int32) (x3 : Int32) (x0s : Int32) (s0 : g_St) {o : Unit × g_St} (hm : m_Fix s0) (h : f_M_checkShapes_178 k2 (some 1) x1 x2 x3 x0s s0 = some o) : z_W [833, 897] [] s0 o.2 := by
  unfold f_M_checkShapes_178 at h
  have hs0 : z_W [833, 897] [] s0 s0 := z_W.re
  refine fr_c h (fun i1 s2 hc h => ?_)
  have hs1 := hs0.trans ((w_M_isRecursive _ _ (hs0.fx hm) (er_nn hc)).mono (by decide) (by decide))
  refine fr_if h (fun h => ?_) (fun h => ?_)
  · exact hs1.trans (w_M_checkShapes_215 hk2 _ _ _ _ _ (hs1.fx hm) h)
  · refine fr_gR (hs1.fx hm _ m_k1985).1 h (fun h => ?_)
    refine fr_aI h (fun i4 h => ?_)
    refine fr_c h (fun i5 s6 hc h => ?_)
    have hs2 := hs1.trans ((w_M_named _ _ _ (hs1.fx hm) (er_nn hc)).mono (by decide) (by decide))
    refine fr_c h (fun i7 s8 hc h => ?_)
    have hs3 := hs2.trans ((w_M_together _ _ (hs2.fx hm) (er_nn hc)).mono (by decide) (by decide))
    refine fr_if h (fun h => ?_) (fun h => ?_)
    · exact hs3.trans (w_M_checkShapes_215 hk2 _ _ _ _ _ (hs3.fx hm) h)
    · refine fr_c h (fun v4 s10 hc h => ?_)
      have hs4 := hs3.trans ((w_M_note _ _ _ (hs3.fx hm) (er_nn hc)).mono (by decide) (by decide))
      exact hs4.trans (w_M_checkShapes_215 hk2 _ _ _ _ _ (hs4.fx hm) h)
theorem w_M_checkShapes_154 {k2 : Option Nat → Int32 → g_St → Option (Unit × g_St)} (hk2 : ∀ (y1 : Int32) (s : g_St) {o : Unit × g_St}, m_Fix s → k2 (some 1) y1 s = some o → z_W [833, 897] [] s o.2) (x1 : Int32) (x2 : Int32) (x3 : Int32) (s0 : g_St) {o : Unit × g_St} (hm : m_Fix s0) (h : f_M_checkShapes_154 k2 (some 1) x1 x2 x3 s0 = some o) : z_W [833, 897] [] s0 o.2 := by
  unfold f_M_checkShapes_154 at h
  have hs0 : z_W [833, 897] [] s0 s0 := z_W.re
  refine fr_gR (hs0.fx hm _ m_k1409).1 h (fun h => ?_)
  refine fr_aI h (fun i2 h => ?_)
  refine fr_if h (fun h => ?_) (fun h => ?_)
  · exact hs0.trans (w_M_checkShapes_178 hk2 _ _ _ _ _ (hs0.fx hm) h)
  · refine fr_gR (hs0.fx hm _ m_k1601).1 h (fun h => ?_)
    refine fr_aI h (fun i4 h => ?_)
    refine fr_if h (fun h => ?_) (fun h => ?_)
    · exact hs0.trans (w_M_checkShapes_178 hk2 _ _ _ _ _ (hs0.fx hm) h)
    · exact hs0.trans (w_M_checkShapes_178 hk2 _ _ _ _ _ (hs0.fx hm) h)
theorem w_M_checkShapes_111 {k42 : Option Nat → Int32 → Int32 → Int32 → Int32 → g_St → Option (Unit × g_St)} (hk42 : ∀ (y1 : Int32) (y2 : Int32) (y3 : Int32) (y4 : Int32) (s : g_St) {o : Unit × g_St}, m_Fix s → k42 (some 1) y1 y2 y3 y4 s = some o → z_W [833, 897] [] s o.2) (x1 : Int32) (x2 : Int32) (x3 : Int32) (x4 : Int32) (x5 : Int32) (s0 : g_St) {o : Unit × g_St} (hm : m_Fix s0) (h : f_M_checkShapes_111 k42 (some 1) x1 x2 x3 x4 x5 s0 = some o) : z_W [833, 897] [] s0 o.2 := by
  unfold f_M_checkShapes_111 at h
  have hs0 : z_W [833, 897] [] s0 s0 := z_W.re
  refine fr_c h (fun i1 s2 hc h => ?_)
  have hs1 := hs0.trans ((w_M_timesNamed _ _ _ (hs0.fx hm) (er_nn hc)).mono (by decide) (by decide))
  refine fr_if h (fun h => ?_) (fun h => ?_)
  · exact hs1.trans (hk42 _ _ _ _ _ (hs1.fx hm) h)
  · exact hs1.trans (hk42 _ _ _ _ _ (hs1.fx hm) h)
theorem w_M_checkShapes_92 {k42 : Option Nat → Int32 → Int32 → Int32 → Int32 → g_St → Option (Unit × g_St)} (hk42 : ∀ (y1 : Int32) (y2 : Int32) (y3 : Int32) (y4 : Int32) (s : g_St) {o : Unit × g_St}, m_Fix s → k42 (some 1) y1 y2 y3 y4 s = some o → z_W [833, 897] [] s o.2) (x1 : Int32) (x2 : Int32) (x3 : Int32) (x4 : Int32) (x5 : Int32) (s0 : g_St) {o : Unit × g_St} (hm : m_Fix s0) (h : f_M_checkShapes_92 k42 (some 1) x1 x2 x3 x4 x5 s0 = some o) : z_W [833, 897] [] s0 o.2 := by
  unfold f_M_checkShapes_92 at h
  have hs0 : z_W [833, 897] [] s0 s0 := z_W.re
  refine fr_c h (fun i1 s2 hc h => ?_)
  have hs1 := hs0.trans ((w_M_isRecursive _ _ (hs0.fx hm) (er_nn hc)).mono (by decide) (by decide))
  refine fr_if h (fun h => ?_) (fun h => ?_)
  · exact hs1.trans (w_M_checkShapes_111 hk42 _ _ _ _ _ _ (hs1.fx hm) h)
  · refine fr_c h (fun i3 s4 hc h => ?_)
    have hs2 := hs1.trans ((w_M_together _ _ (hs1.fx hm) (er_nn hc)).mono (by decide) (by decide))
    refine fr_c h (fun v3 s6 hc h => ?_)
    have hs3 := hs2.trans ((w_M_checkBarred _ _ _ (hs2.fx hm) (er_nn hc)).mono (by decide) (by decide))
    exact hs3.trans (w_M_checkShapes_111 hk42 _ _ _ _ _ _ (hs3.fx hm) h)
theorem w_M_checkShapes_42 {k2 : Option Nat → Int32 → g_St → Option (Unit × g_St)} (hk2 : ∀ (y1 : Int32) (s : g_St) {o : Unit × g_St}, m_Fix s → k2 (some 1) y1 s = some o → z_W [833, 897] [] s o.2) : ∀ (n : Nat) (x1 : Int32) (x2 : Int32) (x3 : Int32) (x4 : Int32) (s0 : g_St) {o : Unit × g_St}, m_Fix s0 → f_M_checkShapes_42 k2 n (some 1) x1 x2 x3 x4 s0 = some o → z_W [833, 897] [] s0 o.2 := by
  intro n
  induction n with
  | zero =>
    intro x1 x2 x3 x4 s0 o hm h
    rw [f_M_checkShapes_42] at h
    cases h
  | succ n ih =>
    intro x1 x2 x3 x4 s0 o hm h
    rw [f_M_checkShapes_42] at h
    have hs0 : z_W [833, 897] [] s0 s0 := z_W.re
    refine fr_gR (hs0.fx hm _ m_k2049).1 h (fun h => ?_)
    refine fr_aI h (fun i2 h => ?_)
    refine fr_if h (fun h => ?_) (fun h => ?_)
    · refine fr_gR (hs0.fx hm _ m_k1857).1 h (fun h => ?_)
      refine fr_aI h (fun i4 h => ?_)
      refine fr_if h (fun h => ?_) (fun h => ?_)
      · exact hs0.trans (w_M_checkShapes_154 hk2 _ _ _ _ (hs0.fx hm) h)
      · refine fr_gR (hs0.fx hm _ m_k1921).1 h (fun h => ?_)
        refine fr_aI h (fun i6 h => ?_)
        refine fr_if h (fun h => ?_) (fun h => ?_)
        · exact hs0.trans (w_M_checkShapes_154 hk2 _ _ _ _ (hs0.fx hm) h)
        · refine fr_c h (fun v1 s8 hc h => ?_)
          have hs1 := hs0.trans ((w_M_note _ _ _ (hs0.fx hm) (er_nn hc)).mono (by decide) (by decide))
          exact hs1.trans (w_M_checkShapes_154 hk2 _ _ _ _ (hs1.fx hm) h)
    · refine fr_gR (hs0.fx hm _ m_k1985).1 h (fun h => ?_)
      refine fr_aI h (fun i10 h => ?_)
      refine fr_gR (hs0.fx hm _ m_k2433).1 h (fun h => ?_)
      refine fr_aI h (fun i12 h => ?_)
      refine fr_gR (hs0.fx hm _ m_k1281).1 h (fun h => ?_)
      refine fr_aI h (fun i14 h => ?_)
      refine fr_if h (fun h => ?_) (fun h => ?_)
      · exact hs0.trans (w_M_checkShapes_92 ih _ _ _ _ _ _ (hs0.fx hm) h)
      · refine fr_gR (hs0.fx hm _ m_k2305).1 h (fun h => ?_)
        refine fr_aI h (fun i16 h => ?_)
        refine fr_c h (fun v2 s18 hc h => ?_)
        have hs2 := hs0.trans ((w_M_note _ _ _ (hs0.fx hm) (er_nn hc)).mono (by decide) (by decide))
        exact hs2.trans (w_M_checkShapes_92 ih _ _ _ _ _ _ (hs2.fx hm) h)
theorem w_M_checkShapes_2 : ∀ (n : Nat) (x1 : Int32) (s0 : g_St) {o : Unit × g_St}, m_Fix s0 → f_M_checkShapes_2 n (some 1) x1 s0 = some o → z_W [833, 897] [] s0 o.2 := by
  intro n
  induction n with
  | zero =>
    intro x1 s0 o hm h
    rw [f_M_checkShapes_2] at h
    cases h
  | succ n ih =>
    intro x1 s0 o hm h
    rw [f_M_checkShapes_2] at h
    have hs0 : z_W [833, 897] [] s0 s0 := z_W.re
    refine fr_gI h (fun i1 h => ?_)
    refine fr_if h (fun h => ?_) (fun h => ?_)
    · exact fr_some h hs0
    · refine fr_gR (hs0.fx hm _ m_k705).1 h (fun h => ?_)
      refine fr_gR (hs0.fx hm _ m_k1217).1 h (fun h => ?_)
      refine fr_aI h (fun i4 h => ?_)
      refine fr_aI h (fun i5 h => ?_)
      refine fr_c h (fun i6 s7 hc h => ?_)
      have hs1 := hs0.trans ((w_M_together _ _ (hs0.fx hm) (er_nn hc)).mono (by decide) (by decide))
      refine fr_if h (fun h => ?_) (fun h => ?_)
      · exact hs1.trans (w_M_checkShapes_42 ih _ _ _ _ _ _ (hs1.fx hm) h)
      · exact hs1.trans (w_M_checkShapes_42 ih _ _ _ _ _ _ (hs1.fx hm) h)
theorem w_M_checkShapes  (s0 : g_St) {o : Unit × g_St} (hm : m_Fix s0) (h : f_M_checkShapes (some 1) s0 = some o) : z_W [833, 897] [] s0 o.2 := by
  unfold f_M_checkShapes at h
  have hs0 : z_W [833, 897] [] s0 s0 := z_W.re
  exact hs0.trans (w_M_checkShapes_2 _ _ _ (hs0.fx hm) h)
theorem w_M_prepare_208 (x1s : Int32) (s0 : g_St) {o : Int32 × g_St} (hm : m_Fix s0) (h : f_M_prepare_208 (some 1) (some 1) x1s s0 = some o) : z_W [1, 321, 513, 577, 833, 897, 961, 1025, 1089, 1153, 2113, 2177, 2817, 3009, 3073, 3585, 3841, 4353, 4417, 4865] [31, 95, 159, 725, 1108, 1172, 1236, 1300, 1364, 1428, 1492, 1556, 1620, 1684, 1748, 1812, 1876, 1940, 2004, 2068, 2132, 2196, 2260, 2324, 2388, 2452, 2516, 2580, 2644, 2708, 2772, 2836, 2900, 2964, 3028, 3092, 3156, 3220, 3284, 3348, 3412, 3476, 3540, 3604, 3668, 3732, 3796, 3860, 3924, 3988, 4052] s0 o.2 := by
  unfold f_M_prepare_208 at h
  have hs0 : z_W [1, 321, 513, 577, 833, 897, 961, 1025, 1089, 1153, 2113, 2177, 2817, 3009, 3073, 3585, 3841, 4353, 4417, 4865] [31, 95, 159, 725, 1108, 1172, 1236, 1300, 1364, 1428, 1492, 1556, 1620, 1684, 1748, 1812, 1876, 1940, 2004, 2068, 2132, 2196, 2260, 2324, 2388, 2452, 2516, 2580, 2644, 2708, 2772, 2836, 2900, 2964, 3028, 3092, 3156, 3220, 3284, 3348, 3412, 3476, 3540, 3604, 3668, 3732, 3796, 3860, 3924, 3988, 4052] s0 s0 := z_W.re
  refine fr_pZ h (fun h => ?_)
  have hs1 := z_W.pI hs0 (k := 1025) (by decide) x1s
  refine fr_gI h (fun i2 h => ?_)
  refine fr_if h (fun h => ?_) (fun h => ?_)
  · exact fr_some h hs1
  · refine fr_gI h (fun i3 h => ?_)
    exact fr_some h hs1
theorem w_M_prepare_192 (x1s : Int32) (s0 : g_St) {o : Int32 × g_St} (hm : m_Fix s0) (h : f_M_prepare_192 (some 1) (some 1) x1s s0 = some o) : z_W [1, 321, 513, 577, 833, 897, 961, 1025, 1089, 1153, 2113, 2177, 2817, 3009, 3073, 3585, 3841, 4353, 4417, 4865] [31, 95, 159, 725, 1108, 1172, 1236, 1300, 1364, 1428, 1492, 1556, 1620, 1684, 1748, 1812, 1876, 1940, 2004, 2068, 2132, 2196, 2260, 2324, 2388, 2452, 2516, 2580, 2644, 2708, 2772, 2836, 2900, 2964, 3028, 3092, 3156, 3220, 3284, 3348, 3412, 3476, 3540, 3604, 3668, 3732, 3796, 3860, 3924, 3988, 4052] s0 o.2 := by
  unfold f_M_prepare_192 at h
  have hs0 : z_W [1, 321, 513, 577, 833, 897, 961, 1025, 1089, 1153, 2113, 2177, 2817, 3009, 3073, 3585, 3841, 4353, 4417, 4865] [31, 95, 159, 725, 1108, 1172, 1236, 1300, 1364, 1428, 1492, 1556, 1620, 1684, 1748, 1812, 1876, 1940, 2004, 2068, 2132, 2196, 2260, 2324, 2388, 2452, 2516, 2580, 2644, 2708, 2772, 2836, 2900, 2964, 3028, 3092, 3156, 3220, 3284, 3348, 3412, 3476, 3540, 3604, 3668, 3732, 3796, 3860, 3924, 3988, 4052] s0 s0 := z_W.re
  refine fr_pI h (fun h => ?_)
  have hs1 := z_W.pI hs0 (k := 1) (by decide) x1s
  refine fr_gI h (fun i2 h => ?_)
  refine fr_if h (fun h => ?_) (fun h => ?_)
  · exact hs1.trans (w_M_prepare_208 _ _ (hs1.fx hm) h)
  · exact hs1.trans (w_M_prepare_208 _ _ (hs1.fx hm) h)
theorem w_M_prepare_176 (x1s : Int32) (s0 : g_St) {o : Int32 × g_St} (hm : m_Fix s0) (h : f_M_prepare_176 (some 1) (some 1) x1s s0 = some o) : z_W [1, 321, 513, 577, 833, 897, 961, 1025, 1089, 1153, 2113, 2177, 2817, 3009, 3073, 3585, 3841, 4353, 4417, 4865] [31, 95, 159, 725, 1108, 1172, 1236, 1300, 1364, 1428, 1492, 1556, 1620, 1684, 1748, 1812, 1876, 1940, 2004, 2068, 2132, 2196, 2260, 2324, 2388, 2452, 2516, 2580, 2644, 2708, 2772, 2836, 2900, 2964, 3028, 3092, 3156, 3220, 3284, 3348, 3412, 3476, 3540, 3604, 3668, 3732, 3796, 3860, 3924, 3988, 4052] s0 o.2 := by
  unfold f_M_prepare_176 at h
  have hs0 : z_W [1, 321, 513, 577, 833, 897, 961, 1025, 1089, 1153, 2113, 2177, 2817, 3009, 3073, 3585, 3841, 4353, 4417, 4865] [31, 95, 159, 725, 1108, 1172, 1236, 1300, 1364, 1428, 1492, 1556, 1620, 1684, 1748, 1812, 1876, 1940, 2004, 2068, 2132, 2196, 2260, 2324, 2388, 2452, 2516, 2580, 2644, 2708, 2772, 2836, 2900, 2964, 3028, 3092, 3156, 3220, 3284, 3348, 3412, 3476, 3540, 3604, 3668, 3732, 3796, 3860, 3924, 3988, 4052] s0 s0 := z_W.re
  refine fr_pI h (fun h => ?_)
  have hs1 := z_W.pI hs0 (k := 961) (by decide) x1s
  refine fr_gI h (fun i2 h => ?_)
  refine fr_if h (fun h => ?_) (fun h => ?_)
  · exact hs1.trans (w_M_prepare_192 _ _ (hs1.fx hm) h)
  · exact hs1.trans (w_M_prepare_192 _ _ (hs1.fx hm) h)
theorem w_M_prepare_152  (s0 : g_St) {o : Int32 × g_St} (hm : m_Fix s0) (h : f_M_prepare_152 (some 1) s0 = some o) : z_W [1, 321, 513, 577, 833, 897, 961, 1025, 1089, 1153, 2113, 2177, 2817, 3009, 3073, 3585, 3841, 4353, 4417, 4865] [31, 95, 159, 725, 1108, 1172, 1236, 1300, 1364, 1428, 1492, 1556, 1620, 1684, 1748, 1812, 1876, 1940, 2004, 2068, 2132, 2196, 2260, 2324, 2388, 2452, 2516, 2580, 2644, 2708, 2772, 2836, 2900, 2964, 3028, 3092, 3156, 3220, 3284, 3348, 3412, 3476, 3540, 3604, 3668, 3732, 3796, 3860, 3924, 3988, 4052] s0 o.2 := by
  unfold f_M_prepare_152 at h
  have hs0 : z_W [1, 321, 513, 577, 833, 897, 961, 1025, 1089, 1153, 2113, 2177, 2817, 3009, 3073, 3585, 3841, 4353, 4417, 4865] [31, 95, 159, 725, 1108, 1172, 1236, 1300, 1364, 1428, 1492, 1556, 1620, 1684, 1748, 1812, 1876, 1940, 2004, 2068, 2132, 2196, 2260, 2324, 2388, 2452, 2516, 2580, 2644, 2708, 2772, 2836, 2900, 2964, 3028, 3092, 3156, 3220, 3284, 3348, 3412, 3476, 3540, 3604, 3668, 3732, 3796, 3860, 3924, 3988, 4052] s0 s0 := z_W.re
  refine fr_gI h (fun i1 h => ?_)
  refine fr_if h (fun h => ?_) (fun h => ?_)
  · exact hs0.trans (w_M_prepare_176 _ _ (hs0.fx hm) h)
  · refine fr_gI h (fun i2 h => ?_)
    refine fr_gI h (fun i3 h => ?_)
    exact hs0.trans (w_M_prepare_176 _ _ (hs0.fx hm) h)
theorem w_M_prepare_137  (s0 : g_St) {o : Int32 × g_St} (hm : m_Fix s0) (h : f_M_prepare_137 (some 1) s0 = some o) : z_W [1, 321, 513, 577, 833, 897, 961, 1025, 1089, 1153, 2113, 2177, 2817, 3009, 3073, 3585, 3841, 4353, 4417, 4865] [31, 95, 159, 725, 1108, 1172, 1236, 1300, 1364, 1428, 1492, 1556, 1620, 1684, 1748, 1812, 1876, 1940, 2004, 2068, 2132, 2196, 2260, 2324, 2388, 2452, 2516, 2580, 2644, 2708, 2772, 2836, 2900, 2964, 3028, 3092, 3156, 3220, 3284, 3348, 3412, 3476, 3540, 3604, 3668, 3732, 3796, 3860, 3924, 3988, 4052] s0 o.2 := by
  unfold f_M_prepare_137 at h
  have hs0 : z_W [1, 321, 513, 577, 833, 897, 961, 1025, 1089, 1153, 2113, 2177, 2817, 3009, 3073, 3585, 3841, 4353, 4417, 4865] [31, 95, 159, 725, 1108, 1172, 1236, 1300, 1364, 1428, 1492, 1556, 1620, 1684, 1748, 1812, 1876, 1940, 2004, 2068, 2132, 2196, 2260, 2324, 2388, 2452, 2516, 2580, 2644, 2708, 2772, 2836, 2900, 2964, 3028, 3092, 3156, 3220, 3284, 3348, 3412, 3476, 3540, 3604, 3668, 3732, 3796, 3860, 3924, 3988, 4052] s0 s0 := z_W.re
  refine fr_gI h (fun i1 h => ?_)
  refine fr_if h (fun h => ?_) (fun h => ?_)
  · refine fr_c h (fun v1 s3 hc h => ?_)
    have hs1 := hs0.trans ((w_M_findComponents _ (hs0.fx hm) (er_nn hc)).mono (by decide) (by decide))
    refine fr_c h (fun v2 s5 hc h => ?_)
    have hs2 := hs1.trans ((w_M_checkShapes _ (hs1.fx hm) (er_nn hc)).mono (by decide) (by decide))
    exact hs2.trans (w_M_prepare_152 _ (hs2.fx hm) h)
  · exact hs0.trans (w_M_prepare_152 _ (hs0.fx hm) h)
theorem w_M_prepare_108 : ∀ (n : Nat) (x1 : Int32) (s0 : g_St) {o : Int32 × g_St}, m_Fix s0 → f_M_prepare_108 n (some 1) x1 s0 = some o → z_W [1, 321, 513, 577, 833, 897, 961, 1025, 1089, 1153, 2113, 2177, 2817, 3009, 3073, 3585, 3841, 4353, 4417, 4865] [31, 95, 159, 725, 1108, 1172, 1236, 1300, 1364, 1428, 1492, 1556, 1620, 1684, 1748, 1812, 1876, 1940, 2004, 2068, 2132, 2196, 2260, 2324, 2388, 2452, 2516, 2580, 2644, 2708, 2772, 2836, 2900, 2964, 3028, 3092, 3156, 3220, 3284, 3348, 3412, 3476, 3540, 3604, 3668, 3732, 3796, 3860, 3924, 3988, 4052] s0 o.2 := by
  intro n
  induction n with
  | zero =>
    intro x1 s0 o hm h
    rw [f_M_prepare_108] at h
    cases h
  | succ n ih =>
    intro x1 s0 o hm h
    rw [f_M_prepare_108] at h
    have hs0 : z_W [1, 321, 513, 577, 833, 897, 961, 1025, 1089, 1153, 2113, 2177, 2817, 3009, 3073, 3585, 3841, 4353, 4417, 4865] [31, 95, 159, 725, 1108, 1172, 1236, 1300, 1364, 1428, 1492, 1556, 1620, 1684, 1748, 1812, 1876, 1940, 2004, 2068, 2132, 2196, 2260, 2324, 2388, 2452, 2516, 2580, 2644, 2708, 2772, 2836, 2900, 2964, 3028, 3092, 3156, 3220, 3284, 3348, 3412, 3476, 3540, 3604, 3668, 3732, 3796, 3860, 3924, 3988, 4052] s0 s0 := z_W.re
    refine fr_gI h (fun i1 h => ?_)
    refine fr_if h (fun h => ?_) (fun h => ?_)
    · refine fr_gI h (fun i2 h => ?_)
      refine fr_c h (fun v1 s4 hc h => ?_)
      have hs1 := hs0.trans ((w_M_resolveOrder _ _ (hs0.fx hm) (er_nn hc)).mono (by decide) (by decide))
      exact hs1.trans (w_M_prepare_137 _ (hs1.fx hm) h)
    · refine fr_c h (fun v2 s6 hc h => ?_)
      have hs2 := hs0.trans ((w_M_resolveSelection _ _ (hs0.fx hm) (er_nn hc)).mono (by decide) (by decide))
      exact hs2.trans (ih _ _ (hs2.fx hm) h)
theorem w_M_prepare_87 : ∀ (n : Nat) (x1 : Int32) (s0 : g_St) {o : Int32 × g_St}, m_Fix s0 → f_M_prepare_87 n (some 1) x1 s0 = some o → z_W [1, 321, 513, 577, 833, 897, 961, 1025, 1089, 1153, 2113, 2177, 2817, 3009, 3073, 3585, 3841, 4353, 4417, 4865] [31, 95, 159, 725, 1108, 1172, 1236, 1300, 1364, 1428, 1492, 1556, 1620, 1684, 1748, 1812, 1876, 1940, 2004, 2068, 2132, 2196, 2260, 2324, 2388, 2452, 2516, 2580, 2644, 2708, 2772, 2836, 2900, 2964, 3028, 3092, 3156, 3220, 3284, 3348, 3412, 3476, 3540, 3604, 3668, 3732, 3796, 3860, 3924, 3988, 4052] s0 o.2 := by
  intro n
  induction n with
  | zero =>
    intro x1 s0 o hm h
    rw [f_M_prepare_87] at h
    cases h
  | succ n ih =>
    intro x1 s0 o hm h
    rw [f_M_prepare_87] at h
    have hs0 : z_W [1, 321, 513, 577, 833, 897, 961, 1025, 1089, 1153, 2113, 2177, 2817, 3009, 3073, 3585, 3841, 4353, 4417, 4865] [31, 95, 159, 725, 1108, 1172, 1236, 1300, 1364, 1428, 1492, 1556, 1620, 1684, 1748, 1812, 1876, 1940, 2004, 2068, 2132, 2196, 2260, 2324, 2388, 2452, 2516, 2580, 2644, 2708, 2772, 2836, 2900, 2964, 3028, 3092, 3156, 3220, 3284, 3348, 3412, 3476, 3540, 3604, 3668, 3732, 3796, 3860, 3924, 3988, 4052] s0 s0 := z_W.re
    refine fr_gI h (fun i1 h => ?_)
    refine fr_if h (fun h => ?_) (fun h => ?_)
    · exact hs0.trans (w_M_prepare_108 _ _ _ (hs0.fx hm) h)
    · refine fr_c h (fun v1 s3 hc h => ?_)
      have hs1 := hs0.trans ((w_M_resolvePart _ _ (hs0.fx hm) (er_nn hc)).mono (by decide) (by decide))
      exact hs1.trans (ih _ _ (hs1.fx hm) h)
theorem w_M_prepare  (s0 : g_St) {o : Int32 × g_St} (hm : m_Fix s0) (h : f_M_prepare (some 1) s0 = some o) : z_W [1, 321, 513, 577, 833, 897, 961, 1025, 1089, 1153, 2113, 2177, 2817, 3009, 3073, 3585, 3841, 4353, 4417, 4865] [31, 95, 159, 725, 1108, 1172, 1236, 1300, 1364, 1428, 1492, 1556, 1620, 1684, 1748, 1812, 1876, 1940, 2004, 2068, 2132, 2196, 2260, 2324, 2388, 2452, 2516, 2580, 2644, 2708, 2772, 2836, 2900, 2964, 3028, 3092, 3156, 3220, 3284, 3348, 3412, 3476, 3540, 3604, 3668, 3732, 3796, 3860, 3924, 3988, 4052] s0 o.2 := by
  unfold f_M_prepare at h
  have hs0 : z_W [1, 321, 513, 577, 833, 897, 961, 1025, 1089, 1153, 2113, 2177, 2817, 3009, 3073, 3585, 3841, 4353, 4417, 4865] [31, 95, 159, 725, 1108, 1172, 1236, 1300, 1364, 1428, 1492, 1556, 1620, 1684, 1748, 1812, 1876, 1940, 2004, 2068, 2132, 2196, 2260, 2324, 2388, 2452, 2516, 2580, 2644, 2708, 2772, 2836, 2900, 2964, 3028, 3092, 3156, 3220, 3284, 3348, 3412, 3476, 3540, 3604, 3668, 3732, 3796, 3860, 3924, 3988, 4052] s0 s0 := z_W.re
  refine fr_pI h (fun h => ?_)
  have hs1 := z_W.pI hs0 (k := 833) (by decide) 0
  refine fr_pI h (fun h => ?_)
  have hs2 := z_W.pI hs1 (k := 897) (by decide) 0
  refine fr_pZ h (fun h => ?_)
  have hs3 := z_W.pI hs2 (k := 1025) (by decide) 0
  refine fr_pZ h (fun h => ?_)
  have hs4 := z_W.pI hs3 (k := 1089) (by decide) 0
  refine fr_pI h (fun h => ?_)
  have hs5 := z_W.pI hs4 (k := 1153) (by decide) 0
  refine fr_pI h (fun h => ?_)
  have hs6 := z_W.pI hs5 (k := 2177) (by decide) 0
  refine fr_pI h (fun h => ?_)
  have hs7 := z_W.pI hs6 (k := 2817) (by decide) 0
  refine fr_pI h (fun h => ?_)
  have hs8 := z_W.pI hs7 (k := 3009) (by decide) 0
  refine fr_pI h (fun h => ?_)
  have hs9 := z_W.pI hs8 (k := 3073) (by decide) 0
  refine fr_pI h (fun h => ?_)
  have hs10 := z_W.pI hs9 (k := 3585) (by decide) 0
  refine fr_pI h (fun h => ?_)
  have hs11 := z_W.pI hs10 (k := 3841) (by decide) 0
  refine fr_pI h (fun h => ?_)
  have hs12 := z_W.pI hs11 (k := 4353) (by decide) 0
  refine fr_pI h (fun h => ?_)
  have hs13 := z_W.pI hs12 (k := 577) (by decide) 0
  refine fr_c h (fun v14 s15 hc h => ?_)
  have hs14 := hs13.trans ((w_M_scan _ (hs13.fx hm) (er_nn hc)).mono (by decide) (by decide))
  refine fr_pI h (fun h => ?_)
  have hs15 := z_W.pI hs14 (k := 321) (by decide) 0
  refine fr_c h (fun v16 s18 hc h => ?_)
  have hs16 := hs15.trans ((w_M_readQuery _ (hs15.fx hm) (er_nn hc)).mono (by decide) (by decide))
  refine fr_c h (fun i19 s20 hc h => ?_)
  have hs17 := hs16.trans ((w_M_bad _ (hs16.fx hm) (er_nn hc)).mono (by decide) (by decide))
  refine fr_if h (fun h => ?_) (fun h => ?_)
  · exact hs17.trans (w_M_prepare_87 _ _ _ (hs17.fx hm) h)
  · exact hs17.trans (w_M_prepare_137 _ (hs17.fx hm) h)
theorem w_M_fault  (s0 : g_St) {o : Int32 × g_St} (hm : m_Fix s0) (h : f_M_fault (some 1) s0 = some o) : z_W [1] [] s0 o.2 := by
  unfold f_M_fault at h
  have hs0 : z_W [1] [] s0 s0 := z_W.re
  refine fr_pI h (fun h => ?_)
  have hs1 := z_W.pI hs0 (k := 1) (by decide) 0
  refine fr_gI h (fun i2 h => ?_)
  exact fr_some h hs1
theorem w_M_part_38 (x1 : Int32) (x2 : Int32) (x1s : Int32) (s0 : g_St) {o : Int32 × g_St} (hm : m_Fix s0) (h : f_M_part_38 (some 1) x1 x2 (some 1) x1s s0 = some o) : z_W [1] [] s0 o.2 := by
  unfold f_M_part_38 at h
  have hs0 : z_W [1] [] s0 s0 := z_W.re
  refine fr_pI h (fun h => ?_)
  have hs1 := z_W.pI hs0 (k := 1) (by decide) x1s
  refine fr_gI h (fun i2 h => ?_)
  refine fr_if h (fun h => ?_) (fun h => ?_)
  · refine fr_if h (fun h => ?_) (fun h => ?_)
    · refine fr_gR (hs1.fx hm _ m_k4801).1 h (fun h => ?_)
      refine fr_aI h (fun i10 h => ?_)
      exact fr_some h hs1
    · refine fr_if h (fun h => ?_) (fun h => ?_)
      · refine fr_c h (fun i7 s8 hc h => ?_)
        have hs2 := hs1.trans ((w_M_isRecursive _ _ (hs1.fx hm) (er_nn hc)).mono (by decide) (by decide))
        refine fr_if h (fun h => ?_) (fun h => ?_)
        · exact fr_some h hs2
        · exact fr_some h hs2
      · refine fr_gR (hs1.fx hm _ m_k1281).1 h (fun h => ?_)
        refine fr_aI h (fun i4 h => ?_)
        refine fr_gR (hs1.fx hm _ m_k1601).1 h (fun h => ?_)
        refine fr_aI h (fun i6 h => ?_)
        refine fr_if h (fun h => ?_) (fun h => ?_)
        · exact fr_some h hs1
        · exact fr_some h hs1
  · exact fr_some h hs1
theorem w_M_part (x1 : Int32) (x2 : Int32) (s0 : g_St) {o : Int32 × g_St} (hm : m_Fix s0) (h : f_M_part (some 1) x1 x2 s0 = some o) : z_W [1] [] s0 o.2 := by
  unfold f_M_part at h
  have hs0 : z_W [1] [] s0 s0 := z_W.re
  refine fr_gI h (fun i1 h => ?_)
  refine fr_if h (fun h => ?_) (fun h => ?_)
  · exact hs0.trans (w_M_part_38 _ _ _ _ (hs0.fx hm) h)
  · refine fr_if h (fun h => ?_) (fun h => ?_)
    · exact hs0.trans (w_M_part_38 _ _ _ _ (hs0.fx hm) h)
    · refine fr_gI h (fun i2 h => ?_)
      refine fr_if h (fun h => ?_) (fun h => ?_)
      · refine fr_if h (fun h => ?_) (fun h => ?_)
        · exact hs0.trans (w_M_part_38 _ _ _ _ (hs0.fx hm) h)
        · refine fr_if h (fun h => ?_) (fun h => ?_)
          · exact hs0.trans (w_M_part_38 _ _ _ _ (hs0.fx hm) h)
          · exact hs0.trans (w_M_part_38 _ _ _ _ (hs0.fx hm) h)
      · exact hs0.trans (w_M_part_38 _ _ _ _ (hs0.fx hm) h)
theorem w_M_cellOf (x1 : Int32) (x2 : Int32) (s0 : g_St) {o : Int64 × g_St} (hm : m_Fix s0) (h : f_M_cellOf (some 1) x1 x2 s0 = some o) : z_W [] [] s0 o.2 := by
  unfold f_M_cellOf at h
  have hs0 : z_W [] [] s0 s0 := z_W.re
  refine fr_if h (fun h => ?_) (fun h => ?_)
  · refine fr_gR (hs0.fx hm _ m_k5057).1 h (fun h => ?_)
    refine fr_aL h (fun j2 h => ?_)
    exact fr_some h hs0
  · refine fr_gR (hs0.fx hm _ m_k257).1 h (fun h => ?_)
    refine fr_aL h (fun j4 h => ?_)
    exact fr_some h hs0
theorem w_M_valueOf_90 {k5 : Option Nat → Int32 → Int64 → Int32 → g_St → Option (Int64 × g_St)} (hk5 : ∀ (y1 : Int32) (y2 : Int64) (y3 : Int32) (s : g_St) {o : Int64 × g_St}, m_Fix s → k5 (some 1) y1 y2 y3 s = some o → z_W [] [] s o.2) (x1 : Int32) (y2 : Int64) (x4 : Int32) (x5 : Int32) (y0s : Int64) (s0 : g_St) {o : Int64 × g_St} (hm : m_Fix s0) (h : f_M_valueOf_90 k5 (some 1) x1 y2 x4 x5 y0s s0 = some o) : z_W [] [] s0 o.2 := by
  unfold f_M_valueOf_90 at h
  have hs0 : z_W [] [] s0 s0 := z_W.re
  refine fr_if h (fun h => ?_) (fun h => ?_)
  · exact fr_some h hs0
  · refine fr_gR (hs0.fx hm _ m_k3329).1 h (fun h => ?_)
    refine fr_aI h (fun i2 h => ?_)
    exact hs0.trans (hk5 _ _ _ _ (hs0.fx hm) h)
theorem w_M_valueOf_5 : ∀ (n : Nat) (x1 : Int32) (y2 : Int64) (x4 : Int32) (s0 : g_St) {o : Int64 × g_St}, m_Fix s0 → f_M_valueOf_5 n (some 1) x1 y2 x4 s0 = some o → z_W [] [] s0 o.2 := by
  intro n
  induction n with
  | zero =>
    intro x1 y2 x4 s0 o hm h
    rw [f_M_valueOf_5] at h
    cases h
  | succ n ih =>
    intro x1 y2 x4 s0 o hm h
    rw [f_M_valueOf_5] at h
    have hs0 : z_W [] [] s0 s0 := z_W.re
    refine fr_gR (hs0.fx hm _ m_k3201).1 h (fun h => ?_)
    refine fr_aI h (fun i2 h => ?_)
    refine fr_if h (fun h => ?_) (fun h => ?_)
    · exact fr_some h hs0
    · refine fr_gR (hs0.fx hm _ m_k3137).1 h (fun h => ?_)
      refine fr_aI h (fun i4 h => ?_)
      refine fr_gR (hs0.fx hm _ m_k3265).1 h (fun h => ?_)
      refine fr_aI h (fun i6 h => ?_)
      refine fr_if h (fun h => ?_) (fun h => ?_)
      · exact fr_some h hs0
      · refine fr_gR (hs0.fx hm _ m_k3265).1 h (fun h => ?_)
        refine fr_aI h (fun i8 h => ?_)
        refine fr_if h (fun h => ?_) (fun h => ?_)
        · refine fr_gR (hs0.fx hm _ m_k769).1 h (fun h => ?_)
          refine fr_gR (hs0.fx hm _ m_k3393).1 h (fun h => ?_)
          refine fr_aI h (fun i19 h => ?_)
          refine fr_aL h (fun j20 h => ?_)
          exact hs0.trans (w_M_valueOf_90 ih _ _ _ _ _ _ (hs0.fx hm) h)
        · refine fr_gR (hs0.fx hm _ m_k6273).1 h (fun h => ?_)
          refine fr_gR (hs0.fx hm _ m_k3457).1 h (fun h => ?_)
          refine fr_aI h (fun i11 h => ?_)
          refine fr_aI h (fun i12 h => ?_)
          refine fr_gR (hs0.fx hm _ m_k3521).1 h (fun h => ?_)
          refine fr_aI h (fun i14 h => ?_)
          refine fr_c h (fun j15 s16 hc h => ?_)
          have hs1 := hs0.trans ((w_M_cellOf _ _ _ (hs0.fx hm) (er_nn hc)).mono (by decide) (by decide))
          exact hs1.trans (w_M_valueOf_90 ih _ _ _ _ _ _ (hs1.fx hm) h)
theorem w_M_valueOf (x1 : Int32) (s0 : g_St) {o : Int64 × g_St} (hm : m_Fix s0) (h : f_M_valueOf (some 1) x1 s0 = some o) : z_W [] [] s0 o.2 := by
  unfold f_M_valueOf at h
  have hs0 : z_W [] [] s0 s0 := z_W.re
  exact hs0.trans (w_M_valueOf_5 _ _ _ _ _ (hs0.fx hm) h)
theorem w_M_compares (x1 : Int32) (s0 : g_St) {o : Int32 × g_St} (hm : m_Fix s0) (h : f_M_compares (some 1) x1 s0 = some o) : z_W [] [] s0 o.2 := by
  unfold f_M_compares at h
  have hs0 : z_W [] [] s0 s0 := z_W.re
  refine fr_gR (hs0.fx hm _ m_k4033).1 h (fun h => ?_)
  refine fr_aI h (fun i2 h => ?_)
  refine fr_c h (fun j3 s4 hc h => ?_)
  have hs1 := hs0.trans ((w_M_valueOf _ _ (hs0.fx hm) (er_nn hc)).mono (by decide) (by decide))
  refine fr_gR (hs1.fx hm _ m_k3905).1 h (fun h => ?_)
  refine fr_aI h (fun i6 h => ?_)
  refine fr_if h (fun h => ?_) (fun h => ?_)
  · refine fr_if h (fun h => ?_) (fun h => ?_)
    · exact fr_rZ h (fun h => fr_some h hs1)
    · exact fr_rZ h (fun h => fr_some h hs1)
  · refine fr_gR (hs1.fx hm _ m_k4097).1 h (fun h => ?_)
    refine fr_aI h (fun i8 h => ?_)
    refine fr_c h (fun j9 s10 hc h => ?_)
    have hs2 := hs1.trans ((w_M_valueOf _ _ (hs1.fx hm) (er_nn hc)).mono (by decide) (by decide))
    refine fr_if h (fun h => ?_) (fun h => ?_)
    · exact fr_rZ h (fun h => fr_some h hs2)
    · refine fr_if h (fun h => ?_) (fun h => ?_)
      · exact fr_rZ h (fun h => fr_some h hs2)
      · refine fr_gR (hs2.fx hm _ m_k3969).1 h (fun h => ?_)
        refine fr_aI h (fun i12 h => ?_)
        refine fr_if h (fun h => ?_) (fun h => ?_)
        · refine fr_if h (fun h => ?_) (fun h => ?_)
          · exact fr_rZ h (fun h => fr_some h hs2)
          · exact fr_rZ h (fun h => fr_some h hs2)
        · refine fr_gR (hs2.fx hm _ m_k3969).1 h (fun h => ?_)
          refine fr_aI h (fun i14 h => ?_)
          refine fr_if h (fun h => ?_) (fun h => ?_)
          · refine fr_if h (fun h => ?_) (fun h => ?_)
            · exact fr_rZ h (fun h => fr_some h hs2)
            · exact fr_rZ h (fun h => fr_some h hs2)
          · refine fr_gR (hs2.fx hm _ m_k3969).1 h (fun h => ?_)
            refine fr_aI h (fun i16 h => ?_)
            refine fr_if h (fun h => ?_) (fun h => ?_)
            · refine fr_if h (fun h => ?_) (fun h => ?_)
              · exact fr_rZ h (fun h => fr_some h hs2)
              · exact fr_rZ h (fun h => fr_some h hs2)
            · refine fr_if h (fun h => ?_) (fun h => ?_)
              · exact fr_rZ h (fun h => fr_some h hs2)
              · exact fr_rZ h (fun h => fr_some h hs2)
theorem w_M_hasNone_136 {k35 : Option Nat → Int32 → Int32 → Int32 → Int32 → g_St → Option (Int32 × g_St)} (hk35 : ∀ (y1 : Int32) (y2 : Int32) (y3 : Int32) (y4 : Int32) (s : g_St) {o : Int32 × g_St}, m_Fix s → k35 (some 1) y1 y2 y3 y4 s = some o → z_W [] [4756] s o.2) (x1 : Int32) (x2 : Int32) (x3 : Int32) (x4 : Int32) (x5 : Int32) (s0 : g_St) {o : Int32 × g_St} (hm : m_Fix s0) (h : f_M_hasNone_136 k35 (some 1) x1 x2 x3 x4 x5 s0 = some o) : z_W [] [4756] s0 o.2 := by
  unfold f_M_hasNone_136 at h
  have hs0 : z_W [] [4756] s0 s0 := z_W.re
  refine fr_if h (fun h => ?_) (fun h => ?_)
  · exact hs0.trans (hk35 _ _ _ _ _ (hs0.fx hm) h)
  · exact fr_rZ h (fun h => fr_some h hs0)
theorem w_M_hasNone_97 {k35 : Option Nat → Int32 → Int32 → Int32 → Int32 → g_St → Option (Int32 × g_St)} (hk35 : ∀ (y1 : Int32) (y2 : Int32) (y3 : Int32) (y4 : Int32) (s : g_St) {o : Int32 × g_St}, m_Fix s → k35 (some 1) y1 y2 y3 y4 s = some o → z_W [] [4756] s o.2) : ∀ (n : Nat) (x1 : Int32) (x2 : Int32) (x3 : Int32) (x4 : Int32) (x5 : Int32) (x6 : Int32) (s0 : g_St) {o : Int32 × g_St}, m_Fix s0 → f_M_hasNone_97 k35 n (some 1) x1 x2 x3 x4 x5 x6 s0 = some o → z_W [] [4756] s0 o.2 := by
  intro n
  induction n with
  | zero =>
    intro x1 x2 x3 x4 x5 x6 s0 o hm h
    rw [f_M_hasNone_97] at h
    cases h
  | succ n ih =>
    intro x1 x2 x3 x4 x5 x6 s0 o hm h
    rw [f_M_hasNone_97] at h
    have hs0 : z_W [] [4756] s0 s0 := z_W.re
    refine fr_gR (hs0.fx hm _ m_k4225).1 h (fun h => ?_)
    refine fr_aI h (fun i2 h => ?_)
    refine fr_if h (fun h => ?_) (fun h => ?_)
    · exact hs0.trans (w_M_hasNone_136 hk35 _ _ _ _ _ _ (hs0.fx hm) h)
    · refine fr_if h (fun h => ?_) (fun h => ?_)
      · exact hs0.trans (w_M_hasNone_136 hk35 _ _ _ _ _ _ (hs0.fx hm) h)
      · refine fr_gR (hs0.fx hm _ m_k4289).1 h (fun h => ?_)
        refine fr_aI h (fun i4 h => ?_)
        refine fr_c h (fun i5 s6 hc h => ?_)
        have hs1 := hs0.trans ((w_M_compares _ _ (hs0.fx hm) (er_nn hc)).mono (by decide) (by decide))
        exact hs1.trans (ih _ _ _ _ _ _ _ (hs1.fx hm) h)
theorem w_M_hasNone_64 {k35 : Option Nat → Int32 → Int32 → Int32 → Int32 → g_St → Option (Int32 × g_St)} (hk35 : ∀ (y1 : Int32) (y2 : Int32) (y3 : Int32) (y4 : Int32) (s : g_St) {o : Int32 × g_St}, m_Fix s → k35 (some 1) y1 y2 y3 y4 s = some o → z_W [] [4756] s o.2) (x1 : Int32) (x2 : Int32) (x3 : Int32) (x4 : Int32) (s0 : g_St) {o : Int32 × g_St} (hm : m_Fix s0) (h : f_M_hasNone_64 k35 (some 1) x1 x2 x3 x4 s0 = some o) : z_W [] [4756] s0 o.2 := by
  unfold f_M_hasNone_64 at h
  have hs0 : z_W [] [4756] s0 s0 := z_W.re
  refine fr_gR (hs0.fx hm _ m_k6273).1 h (fun h => ?_)
  refine fr_if h (fun h => ?_) (fun h => ?_)
  · refine fr_sI h (fun j1 h => ?_)
    have hs1 := z_W.sI hs0 (a := 4756) (by decide) j1 (100 + x4)
    exact hs1.trans (w_M_hasNone_97 hk35 _ _ _ _ _ _ _ _ (hs1.fx hm) h)
  · refine fr_sI h (fun j2 h => ?_)
    have hs2 := z_W.sI hs0 (a := 4756) (by decide) j2 ((16 * x2) + x4)
    exact hs2.trans (w_M_hasNone_97 hk35 _ _ _ _ _ _ _ _ (hs2.fx hm) h)
theorem w_M_hasNone_35 : ∀ (n : Nat) (x1 : Int32) (x2 : Int32) (x3 : Int32) (x4 : Int32) (s0 : g_St) {o : Int32 × g_St}, m_Fix s0 → f_M_hasNone_35 n (some 1) x1 x2 x3 x4 s0 = some o → z_W [] [4756] s0 o.2 := by
  intro n
  induction n with
  | zero =>
    intro x1 x2 x3 x4 s0 o hm h
    rw [f_M_hasNone_35] at h
    cases h
  | succ n ih =>
    intro x1 x2 x3 x4 s0 o hm h
    rw [f_M_hasNone_35] at h
    have hs0 : z_W [] [4756] s0 s0 := z_W.re
    refine fr_if h (fun h => ?_) (fun h => ?_)
    · exact fr_rZ h (fun h => fr_some h hs0)
    · refine fr_if h (fun h => ?_) (fun h => ?_)
      · exact hs0.trans (w_M_hasNone_64 ih _ _ _ _ _ (hs0.fx hm) h)
      · refine fr_gR (hs0.fx hm _ m_k4993).1 h (fun h => ?_)
        refine fr_aI h (fun i2 h => ?_)
        refine fr_if h (fun h => ?_) (fun h => ?_)
        · exact hs0.trans (w_M_hasNone_64 ih _ _ _ _ _ (hs0.fx hm) h)
        · exact hs0.trans (ih _ _ _ _ _ (hs0.fx hm) h)
theorem w_M_hasNone (x1 : Int32) (s0 : g_St) {o : Int32 × g_St} (hm : m_Fix s0) (h : f_M_hasNone (some 1) x1 s0 = some o) : z_W [] [4756] s0 o.2 := by
  unfold f_M_hasNone at h
  have hs0 : z_W [] [4756] s0 s0 := z_W.re
  refine fr_gR (hs0.fx hm _ m_k3777).1 h (fun h => ?_)
  refine fr_gR (hs0.fx hm _ m_k4161).1 h (fun h => ?_)
  refine fr_aI h (fun i3 h => ?_)
  refine fr_aI h (fun i4 h => ?_)
  refine fr_if h (fun h => ?_) (fun h => ?_)
  · refine fr_gI h (fun i5 h => ?_)
    exact hs0.trans (w_M_hasNone_35 _ _ _ _ _ _ (hs0.fx hm) h)
  · refine fr_gR (hs0.fx hm _ m_k193).1 h (fun h => ?_)
    refine fr_aI h (fun i7 h => ?_)
    exact hs0.trans (w_M_hasNone_35 _ _ _ _ _ _ (hs0.fx hm) h)
theorem w_M_passes_4 : ∀ (n : Nat) (x1 : Int32) (x2 : Int32) (x3 : Int32) (s0 : g_St) {o : Int32 × g_St}, m_Fix s0 → f_M_passes_4 n (some 1) x1 x2 x3 s0 = some o → z_W [] [4756] s0 o.2 := by
  intro n
  induction n with
  | zero =>
    intro x1 x2 x3 s0 o hm h
    rw [f_M_passes_4] at h
    cases h
  | succ n ih =>
    intro x1 x2 x3 s0 o hm h
    rw [f_M_passes_4] at h
    have hs0 : z_W [] [4756] s0 s0 := z_W.re
    refine fr_gR (hs0.fx hm _ m_k2625).1 h (fun h => ?_)
    refine fr_aI h (fun i2 h => ?_)
    refine fr_if h (fun h => ?_) (fun h => ?_)
    · exact fr_rZ h (fun h => fr_some h hs0)
    · refine fr_if h (fun h => ?_) (fun h => ?_)
      · exact fr_rZ h (fun h => fr_some h hs0)
      · refine fr_gR (hs0.fx hm _ m_k2689).1 h (fun h => ?_)
        refine fr_aI h (fun i4 h => ?_)
        refine fr_gR (hs0.fx hm _ m_k3905).1 h (fun h => ?_)
        refine fr_aI h (fun i6 h => ?_)
        refine fr_if h (fun h => ?_) (fun h => ?_)
        · refine fr_c h (fun i9 s10 hc h => ?_)
          have hs1 := hs0.trans ((w_M_hasNone _ _ (hs0.fx hm) (er_nn hc)).mono (by decide) (by decide))
          exact hs1.trans (ih _ _ _ _ (hs1.fx hm) h)
        · refine fr_c h (fun i7 s8 hc h => ?_)
          have hs2 := hs0.trans ((w_M_compares _ _ (hs0.fx hm) (er_nn hc)).mono (by decide) (by decide))
          exact hs2.trans (ih _ _ _ _ (hs2.fx hm) h)
theorem w_M_passes (x1 : Int32) (s0 : g_St) {o : Int32 × g_St} (hm : m_Fix s0) (h : f_M_passes (some 1) x1 s0 = some o) : z_W [] [4756] s0 o.2 := by
  unfold f_M_passes at h
  have hs0 : z_W [] [4756] s0 s0 := z_W.re
  exact hs0.trans (w_M_passes_4 _ _ _ _ _ (hs0.fx hm) h)
theorem w_M_isSeen_56 (x3 : Int32) (x5 : Int32) (x6 : Int32) (x0s : Int32) (s0 : g_St) {o : Int32 × g_St} (hm : m_Fix s0) (h : f_M_isSeen_56 x3 x5 x6 x0s s0 = some o) : z_W [] [] s0 o.2 := by
  unfold f_M_isSeen_56 at h
  have hs0 : z_W [] [] s0 s0 := z_W.re
  refine fr_if h (fun h => ?_) (fun h => ?_)
  · exact fr_rZ h (fun h => fr_some h hs0)
  · refine fr_if h (fun h => ?_) (fun h => ?_)
    · exact fr_rZ h (fun h => fr_some h hs0)
    · refine fr_if h (fun h => ?_) (fun h => ?_)
      · exact fr_rZ h (fun h => fr_some h hs0)
      · exact fr_rZ h (fun h => fr_some h hs0)
theorem w_M_isSeen (x1 : Int32) (x2 : Int32) (x3 : Int32) (x4 : Int32) (x5 : Int32) (x6 : Int32) (s0 : g_St) {o : Int32 × g_St} (hm : m_Fix s0) (h : f_M_isSeen (some 1) x1 x2 x3 x4 x5 x6 s0 = some o) : z_W [] [] s0 o.2 := by
  unfold f_M_isSeen at h
  have hs0 : z_W [] [] s0 s0 := z_W.re
  refine fr_if h (fun h => ?_) (fun h => ?_)
  · exact fr_rZ h (fun h => fr_some h hs0)
  · refine fr_gR (hs0.fx hm _ m_k2241).1 h (fun h => ?_)
    refine fr_aI h (fun i2 h => ?_)
    refine fr_if h (fun h => ?_) (fun h => ?_)
    · refine fr_gR (hs0.fx hm _ m_k1601).1 h (fun h => ?_)
      refine fr_aI h (fun i4 h => ?_)
      refine fr_if h (fun h => ?_) (fun h => ?_)
      · exact hs0.trans (w_M_isSeen_56 _ _ _ _ _ (hs0.fx hm) h)
      · refine fr_gR (hs0.fx hm _ m_k5057).1 h (fun h => ?_)
        refine fr_gR (hs0.fx hm _ m_k1281).1 h (fun h => ?_)
        refine fr_aI h (fun i7 h => ?_)
        refine fr_aL h (fun j8 h => ?_)
        refine fr_if h (fun h => ?_) (fun h => ?_)
        · exact hs0.trans (w_M_isSeen_56 _ _ _ _ _ (hs0.fx hm) h)
        · exact hs0.trans (w_M_isSeen_56 _ _ _ _ _ (hs0.fx hm) h)
    · exact hs0.trans (w_M_isSeen_56 _ _ _ _ _ (hs0.fx hm) h)
theorem w_M_gather_117 {k64 : Option Nat → Int32 → Int32 → Int32 → Int32 → Int32 → Int32 → Int32 → Int32 → g_St → Option (Unit × g_St)} (hk64 : ∀ (y1 : Int32) (y2 : Int32) (y3 : Int32) (y4 : Int32) (y5 : Int32) (y6 : Int32) (y7 : Int32) (y8 : Int32) (s : g_St) {o : Unit × g_St}, m_Fix s → k64 (some 1) y1 y2 y3 y4 y5 y6 y7 y8 s = some o → z_W [] [4564, 4628] s o.2) (x1 : Int32) (x2 : Int32) (x3 : Int32) (x4 : Int32) (x5 : Int32) (x6 : Int32) (x7 : Int32) (x8 : Int32) (x0s : Int32) (s0 : g_St) {o : Unit × g_St} (hm : m_Fix s0) (h : f_M_gather_117 k64 (some 1) x1 x2 x3 x4 x5 x6 x7 x8 x0s s0 = some o) : z_W [] [4564, 4628] s0 o.2 := by
  unfold f_M_gather_117 at h
  have hs0 : z_W [] [4564, 4628] s0 s0 := z_W.re
  refine fr_if h (fun h => ?_) (fun h => ?_)
  · exact hs0.trans (hk64 _ _ _ _ _ _ _ _ _ (hs0.fx hm) h)
  · refine fr_gR (hs0.fx hm _ m_k6081).1 h (fun h => ?_)
    refine fr_gR (hs0.fx hm _ m_k6145).1 h (fun h => ?_)
    refine fr_aI h (fun i3 h => ?_)
    refine fr_if h (fun h => ?_) (fun h => ?_)
    · refine fr_sI h (fun j1 h => ?_)
      have hs1 := z_W.sI hs0 (a := 4564) (by decide) j1 (100 + x8)
      refine fr_gR (hs1.fx hm _ m_k6145).1 h (fun h => ?_)
      refine fr_aI h (fun i6 h => ?_)
      refine fr_sI h (fun j2 h => ?_)
      have hs2 := z_W.sI hs1 (a := 4628) (by decide) j2 (i6 + 1)
      exact hs2.trans (hk64 _ _ _ _ _ _ _ _ _ (hs2.fx hm) h)
    · refine fr_sI h (fun j3 h => ?_)
      have hs3 := z_W.sI hs0 (a := 4564) (by decide) j3 ((16 * x6) + x8)
      refine fr_gR (hs3.fx hm _ m_k6145).1 h (fun h => ?_)
      refine fr_aI h (fun i10 h => ?_)
      refine fr_sI h (fun j4 h => ?_)
      have hs4 := z_W.sI hs3 (a := 4628) (by decide) j4 (i10 + 1)
      exact hs4.trans (hk64 _ _ _ _ _ _ _ _ _ (hs4.fx hm) h)
theorem w_M_gather_64 {k3 : Option Nat → Int32 → Int32 → Int32 → Int32 → Int32 → g_St → Option (Unit × g_St)} (hk3 : ∀ (y1 : Int32) (y2 : Int32) (y3 : Int32) (y4 : Int32) (y5 : Int32) (s : g_St) {o : Unit × g_St}, m_Fix s → k3 (some 1) y1 y2 y3 y4 y5 s = some o → z_W [] [4564, 4628] s o.2) : ∀ (n : Nat) (x1 : Int32) (x2 : Int32) (x3 : Int32) (x4 : Int32) (x5 : Int32) (x6 : Int32) (x7 : Int32) (x8 : Int32) (s0 : g_St) {o : Unit × g_St}, m_Fix s0 → f_M_gather_64 k3 n (some 1) x1 x2 x3 x4 x5 x6 x7 x8 s0 = some o → z_W [] [4564, 4628] s0 o.2 := by
  intro n
  induction n with
  | zero =>
    intro x1 x2 x3 x4 x5 x6 x7 x8 s0 o hm h
    rw [f_M_gather_64] at h
    cases h
  | succ n ih =>
    intro x1 x2 x3 x4 x5 x6 x7 x8 s0 o hm h
    rw [f_M_gather_64] at h
    have hs0 : z_W [] [4564, 4628] s0 s0 := z_W.re
    refine fr_if h (fun h => ?_) (fun h => ?_)
    · exact hs0.trans (hk3 _ _ _ _ _ _ (hs0.fx hm) h)
    · refine fr_if h (fun h => ?_) (fun h => ?_)
      · exact hs0.trans (w_M_gather_117 ih _ _ _ _ _ _ _ _ _ _ (hs0.fx hm) h)
      · refine fr_gR (hs0.fx hm _ m_k4993).1 h (fun h => ?_)
        refine fr_aI h (fun i2 h => ?_)
        refine fr_if h (fun h => ?_) (fun h => ?_)
        · refine fr_c h (fun i3 s4 hc h => ?_)
          have hs1 := hs0.trans ((w_M_isSeen _ _ _ _ _ _ _ (hs0.fx hm) (er_nn hc)).mono (by decide) (by decide))
          refine fr_if h (fun h => ?_) (fun h => ?_)
          · exact hs1.trans (w_M_gather_117 ih _ _ _ _ _ _ _ _ _ _ (hs1.fx hm) h)
          · exact hs1.trans (w_M_gather_117 ih _ _ _ _ _ _ _ _ _ _ (hs1.fx hm) h)
        · exact hs0.trans (w_M_gather_117 ih _ _ _ _ _ _ _ _ _ _ (hs0.fx hm) h)
theorem w_M_gather_3 : ∀ (n : Nat) (x1 : Int32) (x2 : Int32) (x3 : Int32) (x4 : Int32) (x5 : Int32) (s0 : g_St) {o : Unit × g_St}, m_Fix s0 → f_M_gather_3 n (some 1) x1 x2 x3 x4 x5 s0 = some o → z_W [] [4564, 4628] s0 o.2 := by
  intro n
  induction n with
  | zero =>
    intro x1 x2 x3 x4 x5 s0 o hm h
    rw [f_M_gather_3] at h
    cases h
  | succ n ih =>
    intro x1 x2 x3 x4 x5 s0 o hm h
    rw [f_M_gather_3] at h
    have hs0 : z_W [] [4564, 4628] s0 s0 := z_W.re
    refine fr_gR (hs0.fx hm _ m_k2561).1 h (fun h => ?_)
    refine fr_aI h (fun i2 h => ?_)
    refine fr_if h (fun h => ?_) (fun h => ?_)
    · exact fr_some h hs0
    · refine fr_gR (hs0.fx hm _ m_k3777).1 h (fun h => ?_)
      refine fr_gR (hs0.fx hm _ m_k2497).1 h (fun h => ?_)
      refine fr_aI h (fun i5 h => ?_)
      refine fr_aI h (fun i6 h => ?_)
      refine fr_gR (hs0.fx hm _ m_k6145).1 h (fun h => ?_)
      refine fr_sI h (fun j1 h => ?_)
      have hs1 := z_W.sI hs0 (a := 4628) (by decide) j1 0
      refine fr_if h (fun h => ?_) (fun h => ?_)
      · refine fr_gI h (fun i9 h => ?_)
        exact hs1.trans (w_M_gather_64 ih _ _ _ _ _ _ _ _ _ _ (hs1.fx hm) h)
      · refine fr_gR (hs1.fx hm _ m_k193).1 h (fun h => ?_)
        refine fr_aI h (fun i11 h => ?_)
        exact hs1.trans (w_M_gather_64 ih _ _ _ _ _ _ _ _ _ _ (hs1.fx hm) h)
theorem w_M_gather (x1 : Int32) (x2 : Int32) (x3 : Int32) (x4 : Int32) (s0 : g_St) {o : Unit × g_St} (hm : m_Fix s0) (h : f_M_gather (some 1) x1 x2 x3 x4 s0 = some o) : z_W [] [4564, 4628] s0 o.2 := by
  unfold f_M_gather at h
  have hs0 : z_W [] [4564, 4628] s0 s0 := z_W.re
  exact hs0.trans (w_M_gather_3 _ _ _ _ _ _ _ (hs0.fx hm) h)
theorem w_M_first_4 : ∀ (n : Nat) (x1 : Int32) (x2 : Int32) (x3 : Int32) (s0 : g_St) {o : Int32 × g_St}, m_Fix s0 → f_M_first_4 n (some 1) x1 x2 x3 s0 = some o → z_W [] [4692] s0 o.2 := by
  intro n
  induction n with
  | zero =>
    intro x1 x2 x3 s0 o hm h
    rw [f_M_first_4] at h
    cases h
  | succ n ih =>
    intro x1 x2 x3 s0 o hm h
    rw [f_M_first_4] at h
    have hs0 : z_W [] [4692] s0 s0 := z_W.re
    refine fr_gR (hs0.fx hm _ m_k2561).1 h (fun h => ?_)
    refine fr_aI h (fun i2 h => ?_)
    refine fr_if h (fun h => ?_) (fun h => ?_)
    · exact fr_rZ h (fun h => fr_some h hs0)
    · refine fr_gR (hs0.fx hm _ m_k6209).1 h (fun h => ?_)
      refine fr_sI h (fun j1 h => ?_)
      have hs1 := z_W.sI hs0 (a := 4692) (by decide) j1 0
      refine fr_if h (fun h => ?_) (fun h => ?_)
      · exact hs1.trans (ih _ _ _ _ (hs1.fx hm) h)
      · refine fr_gR (hs1.fx hm _ m_k6145).1 h (fun h => ?_)
        refine fr_aI h (fun i6 h => ?_)
        refine fr_if h (fun h => ?_) (fun h => ?_)
        · exact hs1.trans (ih _ _ _ _ (hs1.fx hm) h)
        · exact hs1.trans (ih _ _ _ _ (hs1.fx hm) h)
theorem w_M_first (x1 : Int32) (s0 : g_St) {o : Int32 × g_St} (hm : m_Fix s0) (h : f_M_first (some 1) x1 s0 = some o) : z_W [] [4692] s0 o.2 := by
  unfold f_M_first at h
  have hs0 : z_W [] [4692] s0 s0 := z_W.re
  exact hs0.trans (w_M_first_4 _ _ _ _ _ (hs0.fx hm) h)
theorem w_M_next_43 (x2 : Int32) (s0 : g_St) {o : Int32 × g_St} (hm : m_Fix s0) (h : f_M_next_43 (some 1) x2 s0 = some o) : z_W [] [4692] s0 o.2 := by
  unfold f_M_next_43 at h
  have hs0 : z_W [] [4692] s0 s0 := z_W.re
  refine fr_if h (fun h => ?_) (fun h => ?_)
  · refine fr_gR (hs0.fx hm _ m_k6209).1 h (fun h => ?_)
    refine fr_aI h (fun i2 h => ?_)
    refine fr_sI h (fun j1 h => ?_)
    have hs1 := z_W.sI hs0 (a := 4692) (by decide) j1 (i2 + 1)
    exact fr_rZ h (fun h => fr_some h hs1)
  · exact fr_rZ h (fun h => fr_some h hs0)
theorem w_M_next_9 : ∀ (n : Nat) (x2 : Int32) (s0 : g_St) {o : Int32 × g_St}, m_Fix s0 → f_M_next_9 n (some 1) x2 s0 = some o → z_W [] [4692] s0 o.2 := by
  intro n
  induction n with
  | zero =>
    intro x2 s0 o hm h
    rw [f_M_next_9] at h
    cases h
  | succ n ih =>
    intro x2 s0 o hm h
    rw [f_M_next_9] at h
    have hs0 : z_W [] [4692] s0 s0 := z_W.re
    refine fr_if h (fun h => ?_) (fun h => ?_)
    · exact hs0.trans (w_M_next_43 _ _ (hs0.fx hm) h)
    · refine fr_gR (hs0.fx hm _ m_k6209).1 h (fun h => ?_)
      refine fr_aI h (fun i2 h => ?_)
      refine fr_gR (hs0.fx hm _ m_k6145).1 h (fun h => ?_)
      refine fr_aI h (fun i4 h => ?_)
      refine fr_if h (fun h => ?_) (fun h => ?_)
      · refine fr_gR (hs0.fx hm _ m_k6209).1 h (fun h => ?_)
        refine fr_sI h (fun j1 h => ?_)
        have hs1 := z_W.sI hs0 (a := 4692) (by decide) j1 0
        exact hs1.trans (ih _ _ (hs1.fx hm) h)
      · exact hs0.trans (w_M_next_43 _ _ (hs0.fx hm) h)
theorem w_M_next (x1 : Int32) (s0 : g_St) {o : Int32 × g_St} (hm : m_Fix s0) (h : f_M_next (some 1) x1 s0 = some o) : z_W [] [4692] s0 o.2 := by
  unfold f_M_next at h
  have hs0 : z_W [] [4692] s0 s0 := z_W.re
  refine fr_gR (hs0.fx hm _ m_k2561).1 h (fun h => ?_)
  refine fr_aI h (fun i2 h => ?_)
  exact hs0.trans (w_M_next_9 _ _ _ (hs0.fx hm) h)
theorem w_M_matches_2 : ∀ (n : Nat) (x1 : Int32) (x2 : Int32) (s0 : g_St) {o : Int32 × g_St}, m_Fix s0 → f_M_matches_2 n (some 1) x1 x2 s0 = some o → z_W [] [4756] s0 o.2 := by
  intro n
  induction n with
  | zero =>
    intro x1 x2 s0 o hm h
    rw [f_M_matches_2] at h
    cases h
  | succ n ih =>
    intro x1 x2 s0 o hm h
    rw [f_M_matches_2] at h
    have hs0 : z_W [] [4756] s0 s0 := z_W.re
    refine fr_gR (hs0.fx hm _ m_k2561).1 h (fun h => ?_)
    refine fr_aI h (fun i2 h => ?_)
    refine fr_if h (fun h => ?_) (fun h => ?_)
    · refine fr_c h (fun i3 s4 hc h => ?_)
      have hs1 := hs0.trans ((w_M_passes _ _ (hs0.fx hm) (er_nn hc)).mono (by decide) (by decide))
      exact fr_rZ h (fun h => fr_some h hs1)
    · refine fr_gR (hs0.fx hm _ m_k6273).1 h (fun h => ?_)
      refine fr_gR (hs0.fx hm _ m_k6081).1 h (fun h => ?_)
      refine fr_gR (hs0.fx hm _ m_k6209).1 h (fun h => ?_)
      refine fr_aI h (fun i8 h => ?_)
      refine fr_aI h (fun i9 h => ?_)
      refine fr_sI h (fun j2 h => ?_)
      have hs2 := z_W.sI hs0 (a := 4756) (by decide) j2 i9
      exact hs2.trans (ih _ _ _ (hs2.fx hm) h)
theorem w_M_matches (x1 : Int32) (s0 : g_St) {o : Int32 × g_St} (hm : m_Fix s0) (h : f_M_matches (some 1) x1 s0 = some o) : z_W [] [4756] s0 o.2 := by
  unfold f_M_matches at h
  have hs0 : z_W [] [4756] s0 s0 := z_W.re
  exact hs0.trans (w_M_matches_2 _ _ _ _ (hs0.fx hm) h)
theorem w_M_isInt (y0 : Int64) (s0 : g_St) {o : Int32 × g_St} (hm : m_Fix s0) (h : f_M_isInt y0 s0 = some o) : z_W [] [] s0 o.2 := by
  unfold f_M_isInt at h
  have hs0 : z_W [] [] s0 s0 := z_W.re
  refine fr_if h (fun h => ?_) (fun h => ?_)
  · exact fr_rZ h (fun h => fr_some h hs0)
  · refine fr_if h (fun h => ?_) (fun h => ?_)
    · exact fr_rZ h (fun h => fr_some h hs0)
    · exact fr_rZ h (fun h => fr_some h hs0)
theorem w_M_fits (y0 : Int64) (s0 : g_St) {o : Int32 × g_St} (hm : m_Fix s0) (h : f_M_fits y0 s0 = some o) : z_W [] [] s0 o.2 := by
  unfold f_M_fits at h
  have hs0 : z_W [] [] s0 s0 := z_W.re
  refine fr_if h (fun h => ?_) (fun h => ?_)
  · exact fr_rZ h (fun h => fr_some h hs0)
  · refine fr_c h (fun i1 s2 hc h => ?_)
    have hs1 := hs0.trans ((w_M_isInt _ _ (hs0.fx hm) hc).mono (by decide) (by decide))
    refine fr_if h (fun h => ?_) (fun h => ?_)
    · exact fr_rZ h (fun h => fr_some h hs1)
    · exact fr_rZ h (fun h => fr_some h hs1)
theorem w_M_itemOf (x1 : Int32) (x2 : Int32) (s0 : g_St) {o : Int64 × g_St} (hm : m_Fix s0) (h : f_M_itemOf (some 1) x1 x2 s0 = some o) : z_W [] [] s0 o.2 := by
  unfold f_M_itemOf at h
  have hs0 : z_W [] [] s0 s0 := z_W.re
  refine fr_gR (hs0.fx hm _ m_k2945).1 h (fun h => ?_)
  refine fr_gR (hs0.fx hm _ m_k2369).1 h (fun h => ?_)
  refine fr_aI h (fun i3 h => ?_)
  refine fr_aI h (fun i4 h => ?_)
  refine fr_c h (fun j5 s6 hc h => ?_)
  have hs1 := hs0.trans ((w_M_valueOf _ _ (hs0.fx hm) (er_nn hc)).mono (by decide) (by decide))
  exact fr_some h hs1
theorem w_M_kindOf (x1 : Int32) (x2 : Int32) (s0 : g_St) {o : Int32 × g_St} (hm : m_Fix s0) (h : f_M_kindOf (some 1) x1 x2 s0 = some o) : z_W [] [] s0 o.2 := by
  unfold f_M_kindOf at h
  have hs0 : z_W [] [] s0 s0 := z_W.re
  refine fr_gR (hs0.fx hm _ m_k2881).1 h (fun h => ?_)
  refine fr_gR (hs0.fx hm _ m_k2369).1 h (fun h => ?_)
  refine fr_aI h (fun i3 h => ?_)
  refine fr_aI h (fun i4 h => ?_)
  exact fr_some h hs0
theorem w_M_openGroup_60 {k2 : Option Nat → Int32 → Int32 → g_St → Option (Unit × g_St)} (hk2 : ∀ (y1 : Int32) (y2 : Int32) (s : g_St) {o : Unit × g_St}, m_Fix s → k2 (some 1) y1 y2 s = some o → z_W [6337] [1109, 1173] s o.2) (x1 : Int32) (x2 : Int32) (x1s : Int32) (y2s : Int64) (s0 : g_St) {o : Unit × g_St} (hm : m_Fix s0) (h : f_M_openGroup_60 k2 (some 1) x1 x2 (some 1109) x1s y2s s0 = some o) : z_W [6337] [1109, 1173] s0 o.2 := by
  unfold f_M_openGroup_60 at h
  have hs0 : z_W [6337] [1109, 1173] s0 s0 := z_W.re
  refine fr_sL h (fun j1 h => ?_)
  have hs1 := z_W.sL hs0 (a := 1109) (by decide) j1 y2s
  refine fr_gR (hs1.fx hm _ m_k6465).1 h (fun h => ?_)
  refine fr_gI h (fun i3 h => ?_)
  refine fr_sL h (fun j2 h => ?_)
  have hs2 := z_W.sL hs1 (a := 1173) (by decide) j2 0
  exact hs2.trans (hk2 _ _ _ (hs2.fx hm) h)
theorem w_M_openGroup_2 : ∀ (n : Nat) (x1 : Int32) (x2 : Int32) (s0 : g_St) {o : Unit × g_St}, m_Fix s0 → f_M_openGroup_2 n (some 1) x1 x2 s0 = some o → z_W [6337] [1109, 1173] s0 o.2 := by
  intro n
  induction n with
  | zero =>
    intro x1 x2 s0 o hm h
    rw [f_M_openGroup_2] at h
    cases h
  | succ n ih =>
    intro x1 x2 s0 o hm h
    rw [f_M_openGroup_2] at h
    have hs0 : z_W [6337] [1109, 1173] s0 s0 := z_W.re
    refine fr_gR (hs0.fx hm _ m_k2433).1 h (fun h => ?_)
    refine fr_aI h (fun i2 h => ?_)
    refine fr_if h (fun h => ?_) (fun h => ?_)
    · refine fr_gI h (fun i3 h => ?_)
      refine fr_pI h (fun h => ?_)
      have hs1 := z_W.pI hs0 (k := 6337) (by decide) (i3 + 1)
      exact fr_some h hs1
    · refine fr_gR (hs0.fx hm _ m_k6401).1 h (fun h => ?_)
      refine fr_gI h (fun i6 h => ?_)
      refine fr_c h (fun i7 s8 hc h => ?_)
      have hs2 := hs0.trans ((w_M_kindOf _ _ _ (hs0.fx hm) (er_nn hc)).mono (by decide) (by decide))
      refine fr_if h (fun h => ?_) (fun h => ?_)
      · refine fr_c h (fun j11 s12 hc h => ?_)
        have hs3 := hs2.trans ((w_M_itemOf _ _ _ (hs2.fx hm) (er_nn hc)).mono (by decide) (by decide))
        exact hs3.trans (w_M_openGroup_60 ih _ _ _ _ _ (hs3.fx hm) h)
      · refine fr_c h (fun i9 s10 hc h => ?_)
        have hs4 := hs2.trans ((w_M_kindOf _ _ _ (hs2.fx hm) (er_nn hc)).mono (by decide) (by decide))
        refine fr_if h (fun h => ?_) (fun h => ?_)
        · exact hs4.trans (w_M_openGroup_60 ih _ _ _ _ _ (hs4.fx hm) h)
        · exact hs4.trans (w_M_openGroup_60 ih _ _ _ _ _ (hs4.fx hm) h)
theorem w_M_openGroup (x1 : Int32) (s0 : g_St) {o : Unit × g_St} (hm : m_Fix s0) (h : f_M_openGroup (some 1) x1 s0 = some o) : z_W [6337] [1109, 1173] s0 o.2 := by
  unfold f_M_openGroup at h
  have hs0 : z_W [6337] [1109, 1173] s0 s0 := z_W.re
  exact hs0.trans (w_M_openGroup_2 _ _ _ _ (hs0.fx hm) h)
theorem w_M_groupOf_21 {k4 : Option Nat → Int32 → Int32 → Int32 → g_St → Option (Int32 × g_St)} (hk4 : ∀ (y1 : Int32) (y2 : Int32) (y3 : Int32) (s : g_St) {o : Int32 × g_St}, m_Fix s → k4 (some 1) y1 y2 y3 s = some o → z_W [] [] s o.2) : ∀ (n : Nat) (x1 : Int32) (x2 : Int32) (x3 : Int32) (x4 : Int32) (s0 : g_St) {o : Int32 × g_St}, m_Fix s0 → f_M_groupOf_21 k4 n (some 1) x1 x2 x3 x4 s0 = some o → z_W [] [] s0 o.2 := by
  intro n
  induction n with
  | zero =>
    intro x1 x2 x3 x4 s0 o hm h
    rw [f_M_groupOf_21] at h
    cases h
  | succ n ih =>
    intro x1 x2 x3 x4 s0 o hm h
    rw [f_M_groupOf_21] at h
    have hs0 : z_W [] [] s0 s0 := z_W.re
    refine fr_gR (hs0.fx hm _ m_k2433).1 h (fun h => ?_)
    refine fr_aI h (fun i2 h => ?_)
    refine fr_if h (fun h => ?_) (fun h => ?_)
    · refine fr_if h (fun h => ?_) (fun h => ?_)
      · exact hs0.trans (hk4 _ _ _ _ (hs0.fx hm) h)
      · exact hs0.trans (hk4 _ _ _ _ (hs0.fx hm) h)
    · refine fr_if h (fun h => ?_) (fun h => ?_)
      · exact hs0.trans (ih _ _ _ _ _ (hs0.fx hm) h)
      · refine fr_c h (fun i3 s4 hc h => ?_)
        have hs1 := hs0.trans ((w_M_kindOf _ _ _ (hs0.fx hm) (er_nn hc)).mono (by decide) (by decide))
        refine fr_if h (fun h => ?_) (fun h => ?_)
        · exact hs1.trans (ih _ _ _ _ _ (hs1.fx hm) h)
        · refine fr_gR (hs1.fx hm _ m_k6401).1 h (fun h => ?_)
          refine fr_aL h (fun j6 h => ?_)
          refine fr_c h (fun j7 s8 hc h => ?_)
          have hs2 := hs1.trans ((w_M_itemOf _ _ _ (hs1.fx hm) (er_nn hc)).mono (by decide) (by decide))
          refine fr_if h (fun h => ?_) (fun h => ?_)
          · exact hs2.trans (ih _ _ _ _ _ (hs2.fx hm) h)
          · exact hs2.trans (ih _ _ _ _ _ (hs2.fx hm) h)
theorem w_M_groupOf_4 : ∀ (n : Nat) (x1 : Int32) (x2 : Int32) (x3 : Int32) (s0 : g_St) {o : Int32 × g_St}, m_Fix s0 → f_M_groupOf_4 n (some 1) x1 x2 x3 s0 = some o → z_W [] [] s0 o.2 := by
  intro n
  induction n with
  | zero =>
    intro x1 x2 x3 s0 o hm h
    rw [f_M_groupOf_4] at h
    cases h
  | succ n ih =>
    intro x1 x2 x3 s0 o hm h
    rw [f_M_groupOf_4] at h
    have hs0 : z_W [] [] s0 s0 := z_W.re
    refine fr_gI h (fun i1 h => ?_)
    refine fr_if h (fun h => ?_) (fun h => ?_)
    · exact fr_some h hs0
    · refine fr_if h (fun h => ?_) (fun h => ?_)
      · exact hs0.trans (w_M_groupOf_21 ih _ _ _ _ _ _ (hs0.fx hm) h)
      · exact fr_some h hs0
theorem w_M_groupOf (x1 : Int32) (s0 : g_St) {o : Int32 × g_St} (hm : m_Fix s0) (h : f_M_groupOf (some 1) x1 s0 = some o) : z_W [] [] s0 o.2 := by
  unfold f_M_groupOf at h
  have hs0 : z_W [] [] s0 s0 := z_W.re
  exact hs0.trans (w_M_groupOf_4 _ _ _ _ _ (hs0.fx hm) h)
theorem w_M_fold_47 (x1 : Int32) (x2 : Int32) (y3 : Int64) (x0s : Int32) (s0 : g_St) {o : Unit × g_St} (hm : m_Fix s0) (h : f_M_fold_47 (some 1) x1 x2 y3 x0s s0 = some o) : z_W [] [1109, 1173] s0 o.2 := by
  unfold f_M_fold_47 at h
  have hs0 : z_W [] [1109, 1173] s0 s0 := z_W.re
  refine fr_gR (hs0.fx hm _ m_k6465).1 h (fun h => ?_)
  refine fr_aL h (fun j2 h => ?_)
  refine fr_sL h (fun j1 h => ?_)
  have hs1 := z_W.sL hs0 (a := 1173) (by decide) j1 (j2 + 1)
  refine fr_gR (hs1.fx hm _ m_k6401).1 h (fun h => ?_)
  refine fr_aL h (fun j5 h => ?_)
  refine fr_gR (hs1.fx hm _ m_k6401).1 h (fun h => ?_)
  refine fr_if h (fun h => ?_) (fun h => ?_)
  · refine fr_if h (fun h => ?_) (fun h => ?_)
    · refine fr_sL h (fun j2 h => ?_)
      have hs2 := z_W.sL hs1 (a := 1109) (by decide) j2 (j5 + y3)
      exact fr_some h hs2
    · refine fr_if h (fun h => ?_) (fun h => ?_)
      · refine fr_if h (fun h => ?_) (fun h => ?_)
        · refine fr_sL h (fun j3 h => ?_)
          have hs3 := z_W.sL hs1 (a := 1109) (by decide) j3 y3
          exact fr_some h hs3
        · refine fr_sL h (fun j4 h => ?_)
          have hs4 := z_W.sL hs1 (a := 1109) (by decide) j4 j5
          exact fr_some h hs4
      · refine fr_if h (fun h => ?_) (fun h => ?_)
        · refine fr_sL h (fun j5 h => ?_)
          have hs5 := z_W.sL hs1 (a := 1109) (by decide) j5 y3
          exact fr_some h hs5
        · refine fr_sL h (fun j6 h => ?_)
          have hs6 := z_W.sL hs1 (a := 1109) (by decide) j6 j5
          exact fr_some h hs6
  · refine fr_sL h (fun j7 h => ?_)
    have hs7 := z_W.sL hs1 (a := 1109) (by decide) j7 y3
    exact fr_some h hs7
theorem w_M_fold (x1 : Int32) (x2 : Int32) (y3 : Int64) (s0 : g_St) {o : Unit × g_St} (hm : m_Fix s0) (h : f_M_fold (some 1) x1 x2 y3 s0 = some o) : z_W [] [1109, 1173] s0 o.2 := by
  unfold f_M_fold at h
  have hs0 : z_W [] [1109, 1173] s0 s0 := z_W.re
  refine fr_if h (fun h => ?_) (fun h => ?_)
  · exact fr_some h hs0
  · refine fr_if h (fun h => ?_) (fun h => ?_)
    · refine fr_gR (hs0.fx hm _ m_k6401).1 h (fun h => ?_)
      refine fr_aL h (fun j4 h => ?_)
      refine fr_sL h (fun j1 h => ?_)
      have hs1 := z_W.sL hs0 (a := 1109) (by decide) j1 (j4 + 1)
      exact fr_some h hs1
    · refine fr_if h (fun h => ?_) (fun h => ?_)
      · exact fr_some h hs0
      · refine fr_gR (hs0.fx hm _ m_k6465).1 h (fun h => ?_)
        refine fr_aL h (fun j2 h => ?_)
        refine fr_if h (fun h => ?_) (fun h => ?_)
        · exact hs0.trans (w_M_fold_47 _ _ _ _ _ (hs0.fx hm) h)
        · exact hs0.trans (w_M_fold_47 _ _ _ _ _ (hs0.fx hm) h)
theorem w_M_makeGroups_180 {k59 : Option Nat → Int32 → Int32 → g_St → Option (Unit × g_St)} (hk59 : ∀ (y1 : Int32) (y2 : Int32) (s : g_St) {o : Unit × g_St}, m_Fix s → k59 (some 1) y1 y2 s = some o → z_W [1, 6337] [1109, 1173, 4692, 4756] s o.2) (x1 : Int32) (s0 : g_St) {o : Unit × g_St} (hm : m_Fix s0) (h : f_M_makeGroups_180 k59 (some 1) x1 s0 = some o) : z_W [1, 6337] [1109, 1173, 4692, 4756] s0 o.2 := by
  unfold f_M_makeGroups_180 at h
  have hs0 : z_W [1, 6337] [1109, 1173, 4692, 4756] s0 s0 := z_W.re
  refine fr_c h (fun i1 s2 hc h => ?_)
  have hs1 := hs0.trans ((w_M_next _ _ (hs0.fx hm) (er_nn hc)).mono (by decide) (by decide))
  exact hs1.trans (hk59 _ _ _ (hs1.fx hm) h)
theorem w_M_makeGroups_171 {k112 : Option Nat → Int32 → Int32 → Int32 → g_St → Option (Unit × g_St)} (hk112 : ∀ (y1 : Int32) (y2 : Int32) (y3 : Int32) (s : g_St) {o : Unit × g_St}, m_Fix s → k112 (some 1) y1 y2 y3 s = some o → z_W [1, 6337] [1109, 1173, 4692, 4756] s o.2) (x1 : Int32) (x4 : Int32) (x5 : Int32) (x1s : Int32) (x2s : Int32) (y3s : Int64) (s0 : g_St) {o : Unit × g_St} (hm : m_Fix s0) (h : f_M_makeGroups_171 k112 (some 1) x1 x4 x5 (some 1) x1s x2s y3s s0 = some o) : z_W [1, 6337] [1109, 1173, 4692, 4756] s0 o.2 := by
  unfold f_M_makeGroups_171 at h
  have hs0 : z_W [1, 6337] [1109, 1173, 4692, 4756] s0 s0 := z_W.re
  refine fr_c h (fun v1 s2 hc h => ?_)
  have hs1 := hs0.trans ((w_M_fold _ _ _ _ (hs0.fx hm) (er_nn hc)).mono (by decide) (by decide))
  exact hs1.trans (hk112 _ _ _ _ (hs1.fx hm) h)
theorem w_M_makeGroups_112 {k59 : Option Nat → Int32 → Int32 → g_St → Option (Unit × g_St)} (hk59 : ∀ (y1 : Int32) (y2 : Int32) (s : g_St) {o : Unit × g_St}, m_Fix s → k59 (some 1) y1 y2 s = some o → z_W [1, 6337] [1109, 1173, 4692, 4756] s o.2) : ∀ (n : Nat) (x1 : Int32) (x4 : Int32) (x5 : Int32) (s0 : g_St) {o : Unit × g_St}, m_Fix s0 → f_M_makeGroups_112 k59 n (some 1) x1 x4 x5 s0 = some o → z_W [1, 6337] [1109, 1173, 4692, 4756] s0 o.2 := by
  intro n
  induction n with
  | zero =>
    intro x1 x4 x5 s0 o hm h
    rw [f_M_makeGroups_112] at h
    cases h
  | succ n ih =>
    intro x1 x4 x5 s0 o hm h
    rw [f_M_makeGroups_112] at h
    have hs0 : z_W [1, 6337] [1109, 1173, 4692, 4756] s0 s0 := z_W.re
    refine fr_gR (hs0.fx hm _ m_k2433).1 h (fun h => ?_)
    refine fr_aI h (fun i2 h => ?_)
    refine fr_if h (fun h => ?_) (fun h => ?_)
    · exact hs0.trans (w_M_makeGroups_180 hk59 _ _ (hs0.fx hm) h)
    · refine fr_c h (fun i3 s4 hc h => ?_)
      have hs1 := hs0.trans ((w_M_kindOf _ _ _ (hs0.fx hm) (er_nn hc)).mono (by decide) (by decide))
      refine fr_c h (fun i5 s6 hc h => ?_)
      have hs2 := hs1.trans ((w_M_kindOf _ _ _ (hs1.fx hm) (er_nn hc)).mono (by decide) (by decide))
      refine fr_if h (fun h => ?_) (fun h => ?_)
      · exact hs2.trans (w_M_makeGroups_171 ih _ _ _ _ _ _ _ (hs2.fx hm) h)
      · refine fr_c h (fun i7 s8 hc h => ?_)
        have hs3 := hs2.trans ((w_M_kindOf _ _ _ (hs2.fx hm) (er_nn hc)).mono (by decide) (by decide))
        refine fr_if h (fun h => ?_) (fun h => ?_)
        · exact hs3.trans (w_M_makeGroups_171 ih _ _ _ _ _ _ _ (hs3.fx hm) h)
        · refine fr_c h (fun j9 s10 hc h => ?_)
          have hs4 := hs3.trans ((w_M_itemOf _ _ _ (hs3.fx hm) (er_nn hc)).mono (by decide) (by decide))
          exact hs4.trans (w_M_makeGroups_171 ih _ _ _ _ _ _ _ (hs4.fx hm) h)
theorem w_M_makeGroups_59 : ∀ (n : Nat) (x1 : Int32) (x3 : Int32) (s0 : g_St) {o : Unit × g_St}, m_Fix s0 → f_M_makeGroups_59 n (some 1) x1 x3 s0 = some o → z_W [1, 6337] [1109, 1173, 4692, 4756] s0 o.2 := by
  intro n
  induction n with
  | zero =>
    intro x1 x3 s0 o hm h
    rw [f_M_makeGroups_59] at h
    cases h
  | succ n ih =>
    intro x1 x3 s0 o hm h
    rw [f_M_makeGroups_59] at h
    have hs0 : z_W [1, 6337] [1109, 1173, 4692, 4756] s0 s0 := z_W.re
    refine fr_if h (fun h => ?_) (fun h => ?_)
    · refine fr_gI h (fun i1 h => ?_)
      refine fr_gI h (fun i2 h => ?_)
      refine fr_if h (fun h => ?_) (fun h => ?_)
      · exact fr_some h hs0
      · refine fr_pI h (fun h => ?_)
        have hs1 := z_W.pI hs0 (k := 1) (by decide) 4
        exact fr_some h hs1
    · refine fr_c h (fun i4 s5 hc h => ?_)
      have hs2 := hs0.trans ((w_M_matches _ _ (hs0.fx hm) (er_nn hc)).mono (by decide) (by decide))
      refine fr_if h (fun h => ?_) (fun h => ?_)
      · exact hs2.trans (w_M_makeGroups_180 ih _ _ (hs2.fx hm) h)
      · refine fr_c h (fun i6 s7 hc h => ?_)
        have hs3 := hs2.trans ((w_M_groupOf _ _ (hs2.fx hm) (er_nn hc)).mono (by decide) (by decide))
        refine fr_gI h (fun i8 h => ?_)
        refine fr_if h (fun h => ?_) (fun h => ?_)
        · refine fr_gI h (fun i9 h => ?_)
          refine fr_gI h (fun i10 h => ?_)
          refine fr_if h (fun h => ?_) (fun h => ?_)
          · refine fr_c h (fun v4 s12 hc h => ?_)
            have hs4 := hs3.trans ((w_M_openGroup _ _ (hs3.fx hm) (er_nn hc)).mono (by decide) (by decide))
            exact hs4.trans (w_M_makeGroups_112 ih _ _ _ _ _ (hs4.fx hm) h)
          · exact hs3.trans (w_M_makeGroups_180 ih _ _ (hs3.fx hm) h)
        · exact hs3.trans (w_M_makeGroups_112 ih _ _ _ _ _ (hs3.fx hm) h)
theorem w_M_makeGroups_53 (x1 : Int32) (s0 : g_St) {o : Unit × g_St} (hm : m_Fix s0) (h : f_M_makeGroups_53 (some 1) x1 s0 = some o) : z_W [1, 6337] [1109, 1173, 4692, 4756] s0 o.2 := by
  unfold f_M_makeGroups_53 at h
  have hs0 : z_W [1, 6337] [1109, 1173, 4692, 4756] s0 s0 := z_W.re
  refine fr_c h (fun i1 s2 hc h => ?_)
  have hs1 := hs0.trans ((w_M_first _ _ (hs0.fx hm) (er_nn hc)).mono (by decide) (by decide))
  exact hs1.trans (w_M_makeGroups_59 _ _ _ _ (hs1.fx hm) h)
theorem w_M_makeGroups_9 : ∀ (n : Nat) (x1 : Int32) (x2 : Int32) (x3 : Int32) (s0 : g_St) {o : Unit × g_St}, m_Fix s0 → f_M_makeGroups_9 n (some 1) x1 x2 x3 s0 = some o → z_W [1, 6337] [1109, 1173, 4692, 4756] s0 o.2 := by
  intro n
  induction n with
  | zero =>
    intro x1 x2 x3 s0 o hm h
    rw [f_M_makeGroups_9] at h
    cases h
  | succ n ih =>
    intro x1 x2 x3 s0 o hm h
    rw [f_M_makeGroups_9] at h
    have hs0 : z_W [1, 6337] [1109, 1173, 4692, 4756] s0 s0 := z_W.re
    refine fr_gR (hs0.fx hm _ m_k2433).1 h (fun h => ?_)
    refine fr_aI h (fun i2 h => ?_)
    refine fr_if h (fun h => ?_) (fun h => ?_)
    · refine fr_if h (fun h => ?_) (fun h => ?_)
      · refine fr_c h (fun v1 s4 hc h => ?_)
        have hs1 := hs0.trans ((w_M_openGroup _ _ (hs0.fx hm) (er_nn hc)).mono (by decide) (by decide))
        exact hs1.trans (w_M_makeGroups_53 _ _ (hs1.fx hm) h)
      · exact hs0.trans (w_M_makeGroups_53 _ _ (hs0.fx hm) h)
    · refine fr_if h (fun h => ?_) (fun h => ?_)
      · refine fr_c h (fun i5 s6 hc h => ?_)
        have hs2 := hs0.trans ((w_M_kindOf _ _ _ (hs0.fx hm) (er_nn hc)).mono (by decide) (by decide))
        refine fr_if h (fun h => ?_) (fun h => ?_)
        · exact hs2.trans (ih _ _ _ _ (hs2.fx hm) h)
        · exact hs2.trans (ih _ _ _ _ (hs2.fx hm) h)
      · exact hs0.trans (ih _ _ _ _ (hs0.fx hm) h)
theorem w_M_makeGroups (x1 : Int32) (s0 : g_St) {o : Unit × g_St} (hm : m_Fix s0) (h : f_M_makeGroups (some 1) x1 s0 = some o) : z_W [1, 6337] [1109, 1173, 4692, 4756] s0 o.2 := by
  unfold f_M_makeGroups at h
  have hs0 : z_W [1, 6337] [1109, 1173, 4692, 4756] s0 s0 := z_W.re
  refine fr_pI h (fun h => ?_)
  have hs1 := z_W.pI hs0 (k := 6337) (by decide) 0
  exact hs1.trans (w_M_makeGroups_9 _ _ _ _ _ (hs1.fx hm) h)
theorem w_M_checkGroups_12 {k2 : Option Nat → Int32 → Int32 → g_St → Option (Unit × g_St)} (hk2 : ∀ (y1 : Int32) (y2 : Int32) (s : g_St) {o : Unit × g_St}, m_Fix s → k2 (some 1) y1 y2 s = some o → z_W [1] [] s o.2) : ∀ (n : Nat) (x1 : Int32) (x2 : Int32) (x3 : Int32) (s0 : g_St) {o : Unit × g_St}, m_Fix s0 → f_M_checkGroups_12 k2 n (some 1) x1 x2 x3 s0 = some o → z_W [1] [] s0 o.2 := by
  intro n
  induction n with
  | zero =>
    intro x1 x2 x3 s0 o hm h
    rw [f_M_checkGroups_12] at h
    cases h
  | succ n ih =>
    intro x1 x2 x3 s0 o hm h
    rw [f_M_checkGroups_12] at h
    have hs0 : z_W [1] [] s0 s0 := z_W.re
    refine fr_gR (hs0.fx hm _ m_k2433).1 h (fun h => ?_)
    refine fr_aI h (fun i2 h => ?_)
    refine fr_if h (fun h => ?_) (fun h => ?_)
    · exact hs0.trans (hk2 _ _ _ (hs0.fx hm) h)
    · refine fr_c h (fun i3 s4 hc h => ?_)
      have hs1 := hs0.trans ((w_M_kindOf _ _ _ (hs0.fx hm) (er_nn hc)).mono (by decide) (by decide))
      refine fr_if h (fun h => ?_) (fun h => ?_)
      · exact hs1.trans (ih _ _ _ _ (hs1.fx hm) h)
      · refine fr_gR (hs1.fx hm _ m_k6465).1 h (fun h => ?_)
        refine fr_aL h (fun j6 h => ?_)
        refine fr_if h (fun h => ?_) (fun h => ?_)
        · exact hs1.trans (ih _ _ _ _ (hs1.fx hm) h)
        · refine fr_gR (hs1.fx hm _ m_k6401).1 h (fun h => ?_)
          refine fr_aL h (fun j8 h => ?_)
          refine fr_c h (fun i9 s10 hc h => ?_)
          have hs2 := hs1.trans ((w_M_isInt _ _ (hs1.fx hm) hc).mono (by decide) (by decide))
          refine fr_if h (fun h => ?_) (fun h => ?_)
          · refine fr_pI h (fun h => ?_)
            have hs3 := z_W.pI hs2 (k := 1) (by decide) 3
            exact hs3.trans (ih _ _ _ _ (hs3.fx hm) h)
          · exact hs2.trans (ih _ _ _ _ (hs2.fx hm) h)
theorem w_M_checkGroups_2 : ∀ (n : Nat) (x1 : Int32) (x2 : Int32) (s0 : g_St) {o : Unit × g_St}, m_Fix s0 → f_M_checkGroups_2 n (some 1) x1 x2 s0 = some o → z_W [1] [] s0 o.2 := by
  intro n
  induction n with
  | zero =>
    intro x1 x2 s0 o hm h
    rw [f_M_checkGroups_2] at h
    cases h
  | succ n ih =>
    intro x1 x2 s0 o hm h
    rw [f_M_checkGroups_2] at h
    have hs0 : z_W [1] [] s0 s0 := z_W.re
    refine fr_gI h (fun i1 h => ?_)
    refine fr_if h (fun h => ?_) (fun h => ?_)
    · exact fr_some h hs0
    · exact hs0.trans (w_M_checkGroups_12 ih _ _ _ _ _ (hs0.fx hm) h)
theorem w_M_checkGroups (x1 : Int32) (s0 : g_St) {o : Unit × g_St} (hm : m_Fix s0) (h : f_M_checkGroups (some 1) x1 s0 = some o) : z_W [1] [] s0 o.2 := by
  unfold f_M_checkGroups at h
  have hs0 : z_W [1] [] s0 s0 := z_W.re
  exact hs0.trans (w_M_checkGroups_2 _ _ _ _ (hs0.fx hm) h)
theorem w_M_bringAnswer_79 : ∀ (n : Nat) (x3 : Int32) (s0 : g_St) {o : Unit × g_St}, m_Fix s0 → f_M_bringAnswer_79 n (some 1) x3 s0 = some o → z_W [1, 5377] [981, 1045] s0 o.2 := by
  intro n
  induction n with
  | zero =>
    intro x3 s0 o hm h
    rw [f_M_bringAnswer_79] at h
    cases h
  | succ n ih =>
    intro x3 s0 o hm h
    rw [f_M_bringAnswer_79] at h
    have hs0 : z_W [1, 5377] [981, 1045] s0 s0 := z_W.re
    refine fr_gI h (fun i1 h => ?_)
    refine fr_if h (fun h => ?_) (fun h => ?_)
    · refine fr_gI h (fun i2 h => ?_)
      refine fr_pI h (fun h => ?_)
      have hs1 := z_W.pI hs0 (k := 5377) (by decide) (i2 + 1)
      exact fr_some h hs1
    · refine fr_gR (hs0.fx hm _ m_k6273).1 h (fun h => ?_)
      refine fr_gR (hs0.fx hm _ m_k4545).1 h (fun h => ?_)
      refine fr_aI h (fun i6 h => ?_)
      refine fr_aI h (fun i7 h => ?_)
      refine fr_gR (hs0.fx hm _ m_k5569).1 h (fun h => ?_)
      refine fr_gI h (fun i9 h => ?_)
      refine fr_gR (hs0.fx hm _ m_k4609).1 h (fun h => ?_)
      refine fr_aI h (fun i11 h => ?_)
      refine fr_if h (fun h => ?_) (fun h => ?_)
      · refine fr_sL h (fun j2 h => ?_)
        have hs2 := z_W.sL hs0 (a := 1045) (by decide) j2 ((i7 - 100).toInt64)
        exact hs2.trans (ih _ _ (hs2.fx hm) h)
      · refine fr_gR (hs0.fx hm _ m_k4609).1 h (fun h => ?_)
        refine fr_aI h (fun i13 h => ?_)
        refine fr_c h (fun j14 s15 hc h => ?_)
        have hs3 := hs0.trans ((w_M_cellOf _ _ _ (hs0.fx hm) (er_nn hc)).mono (by decide) (by decide))
        refine fr_sL h (fun j4 h => ?_)
        have hs4 := z_W.sL hs3 (a := 1045) (by decide) j4 j14
        exact hs4.trans (ih _ _ (hs4.fx hm) h)
theorem w_M_bringAnswer_24 : ∀ (n : Nat) (x1 : Int32) (x2 : Int32) (x3 : Int32) (s0 : g_St) {o : Unit × g_St}, m_Fix s0 → f_M_bringAnswer_24 n (some 1) x1 x2 x3 s0 = some o → z_W [1, 5377] [981, 1045] s0 o.2 := by
  intro n
  induction n with
  | zero =>
    intro x1 x2 x3 s0 o hm h
    rw [f_M_bringAnswer_24] at h
    cases h
  | succ n ih =>
    intro x1 x2 x3 s0 o hm h
    rw [f_M_bringAnswer_24] at h
    have hs0 : z_W [1, 5377] [981, 1045] s0 s0 := z_W.re
    refine fr_gR (hs0.fx hm _ m_k2433).1 h (fun h => ?_)
    refine fr_aI h (fun i2 h => ?_)
    refine fr_if h (fun h => ?_) (fun h => ?_)
    · exact hs0.trans (w_M_bringAnswer_79 _ _ _ (hs0.fx hm) h)
    · refine fr_gR (hs0.fx hm _ m_k5505).1 h (fun h => ?_)
      refine fr_gI h (fun i4 h => ?_)
      refine fr_if h (fun h => ?_) (fun h => ?_)
      · refine fr_c h (fun j8 s9 hc h => ?_)
        have hs1 := hs0.trans ((w_M_itemOf _ _ _ (hs0.fx hm) (er_nn hc)).mono (by decide) (by decide))
        refine fr_sL h (fun j2 h => ?_)
        have hs2 := z_W.sL hs1 (a := 981) (by decide) j2 j8
        exact hs2.trans (ih _ _ _ _ (hs2.fx hm) h)
      · refine fr_gR (hs0.fx hm _ m_k6401).1 h (fun h => ?_)
        refine fr_aL h (fun j6 h => ?_)
        refine fr_sL h (fun j3 h => ?_)
        have hs3 := z_W.sL hs0 (a := 981) (by decide) j3 j6
        exact hs3.trans (ih _ _ _ _ (hs3.fx hm) h)
theorem w_M_bringAnswer (x1 : Int32) (x2 : Int32) (s0 : g_St) {o : Unit × g_St} (hm : m_Fix s0) (h : f_M_bringAnswer (some 1) x1 x2 s0 = some o) : z_W [1, 5377] [981, 1045] s0 o.2 := by
  unfold f_M_bringAnswer at h
  have hs0 : z_W [1, 5377] [981, 1045] s0 s0 := z_W.re
  refine fr_gI h (fun i1 h => ?_)
  refine fr_gI h (fun i2 h => ?_)
  refine fr_gI h (fun i3 h => ?_)
  refine fr_if h (fun h => ?_) (fun h => ?_)
  · refine fr_pI h (fun h => ?_)
    have hs1 := z_W.pI hs0 (k := 1) (by decide) 4
    exact fr_some h hs1
  · exact hs0.trans (w_M_bringAnswer_24 _ _ _ _ _ (hs0.fx hm) h)
theorem w_M_parent_5 : ∀ (n : Nat) (x1 : Int32) (x2 : Int32) (x3 : Int32) (x4 : Int32) (s0 : g_St) {o : Int32 × g_St}, m_Fix s0 → f_M_parent_5 n (some 1) x1 x2 x3 x4 s0 = some o → z_W [] [] s0 o.2 := by
  intro n
  induction n with
  | zero =>
    intro x1 x2 x3 x4 s0 o hm h
    rw [f_M_parent_5] at h
    cases h
  | succ n ih =>
    intro x1 x2 x3 x4 s0 o hm h
    rw [f_M_parent_5] at h
    have hs0 : z_W [] [] s0 s0 := z_W.re
    refine fr_gR (hs0.fx hm _ m_k2561).1 h (fun h => ?_)
    refine fr_aI h (fun i2 h => ?_)
    refine fr_if h (fun h => ?_) (fun h => ?_)
    · exact fr_some h hs0
    · refine fr_gR (hs0.fx hm _ m_k3777).1 h (fun h => ?_)
      refine fr_gR (hs0.fx hm _ m_k2497).1 h (fun h => ?_)
      refine fr_aI h (fun i5 h => ?_)
      refine fr_aI h (fun i6 h => ?_)
      refine fr_if h (fun h => ?_) (fun h => ?_)
      · refine fr_gR (hs0.fx hm _ m_k6273).1 h (fun h => ?_)
        refine fr_aI h (fun i8 h => ?_)
        exact hs0.trans (ih _ _ _ _ _ (hs0.fx hm) h)
      · exact hs0.trans (ih _ _ _ _ _ (hs0.fx hm) h)
theorem w_M_parent (x1 : Int32) (x2 : Int32) (s0 : g_St) {o : Int32 × g_St} (hm : m_Fix s0) (h : f_M_parent (some 1) x1 x2 s0 = some o) : z_W [] [] s0 o.2 := by
  unfold f_M_parent at h
  have hs0 : z_W [] [] s0 s0 := z_W.re
  exact hs0.trans (w_M_parent_5 _ _ _ _ _ _ (hs0.fx hm) h)
theorem w_M_lengthen_196 : ∀ (n : Nat) (x2 : Int32) (x3 : Int32) (x4 : Int32) (y5 : Int64) (y7 : Int64) (x9 : Int32) (s0 : g_St) {o : Unit × g_St}, m_Fix s0 → f_M_lengthen_196 n (some 1) x2 x3 x4 y5 y7 x9 s0 = some o → z_W [] [789, 853, 917, 4180, 4244] s0 o.2 := by
  intro n
  induction n with
  | zero =>
    intro x2 x3 x4 y5 y7 x9 s0 o hm h
    rw [f_M_lengthen_196] at h
    cases h
  | succ n ih =>
    intro x2 x3 x4 y5 y7 x9 s0 o hm h
    rw [f_M_lengthen_196] at h
    have hs0 : z_W [] [789, 853, 917, 4180, 4244] s0 s0 := z_W.re
    refine fr_if h (fun h => ?_) (fun h => ?_)
    · refine fr_gR (hs0.fx hm _ m_k5313).1 h (fun h => ?_)
      refine fr_gI h (fun i2 h => ?_)
      refine fr_sL h (fun j1 h => ?_)
      have hs1 := z_W.sL hs0 (a := 917) (by decide) j1 y5
      refine fr_gR (hs1.fx hm _ m_k5249).1 h (fun h => ?_)
      refine fr_gI h (fun i5 h => ?_)
      refine fr_sI h (fun j2 h => ?_)
      have hs2 := z_W.sI hs1 (a := 4244) (by decide) j2 (x4 + 1)
      refine fr_gR (hs2.fx hm _ m_k5057).1 h (fun h => ?_)
      refine fr_gI h (fun i8 h => ?_)
      refine fr_gR (hs2.fx hm _ m_k1281).1 h (fun h => ?_)
      refine fr_aI h (fun i10 h => ?_)
      refine fr_sL h (fun j3 h => ?_)
      have hs3 := z_W.sL hs2 (a := 789) (by decide) j3 y7
      exact fr_some h hs3
    · refine fr_gR (hs0.fx hm _ m_k5313).1 h (fun h => ?_)
      refine fr_gI h (fun i13 h => ?_)
      refine fr_gR (hs0.fx hm _ m_k5313).1 h (fun h => ?_)
      refine fr_aL h (fun j15 h => ?_)
      refine fr_sL h (fun j4 h => ?_)
      have hs4 := z_W.sL hs0 (a := 917) (by decide) j4 j15
      refine fr_if h (fun h => ?_) (fun h => ?_)
      · exact hs4.trans (ih _ _ _ _ _ _ _ (hs4.fx hm) h)
      · refine fr_gR (hs4.fx hm _ m_k5313).1 h (fun h => ?_)
        refine fr_aL h (fun j18 h => ?_)
        refine fr_if h (fun h => ?_) (fun h => ?_)
        · exact hs4.trans (ih _ _ _ _ _ _ _ (hs4.fx hm) h)
        · exact hs4.trans (ih _ _ _ _ _ _ _ (hs4.fx hm) h)
theorem w_M_lengthen_168 (x2 : Int32) (x3 : Int32) (x0s : Int32) (s0 : g_St) {o : Unit × g_St} (hm : m_Fix s0) (h : f_M_lengthen_168 (some 1) x2 x3 x0s s0 = some o) : z_W [] [789, 853, 917, 4180, 4244] s0 o.2 := by
  unfold f_M_lengthen_168 at h
  have hs0 : z_W [] [789, 853, 917, 4180, 4244] s0 s0 := z_W.re
  refine fr_gR (hs0.fx hm _ m_k5057).1 h (fun h => ?_)
  refine fr_gI h (fun i2 h => ?_)
  refine fr_gR (hs0.fx hm _ m_k1793).1 h (fun h => ?_)
  refine fr_aI h (fun i4 h => ?_)
  refine fr_aL h (fun j5 h => ?_)
  exact hs0.trans (w_M_lengthen_196 _ _ _ _ _ _ _ _ (hs0.fx hm) h)
theorem w_M_lengthen_142 (x2 : Int32) (x3 : Int32) (s0 : g_St) {o : Unit × g_St} (hm : m_Fix s0) (h : f_M_lengthen_142 (some 1) x2 x3 s0 = some o) : z_W [] [789, 853, 917, 4180, 4244] s0 o.2 := by
  unfold f_M_lengthen_142 at h
  have hs0 : z_W [] [789, 853, 917, 4180, 4244] s0 s0 := z_W.re
  refine fr_gR (hs0.fx hm _ m_k1601).1 h (fun h => ?_)
  refine fr_aI h (fun i2 h => ?_)
  refine fr_if h (fun h => ?_) (fun h => ?_)
  · exact fr_some h hs0
  · refine fr_if h (fun h => ?_) (fun h => ?_)
    · exact hs0.trans (w_M_lengthen_168 _ _ _ _ (hs0.fx hm) h)
    · refine fr_gR (hs0.fx hm _ m_k5249).1 h (fun h => ?_)
      refine fr_aI h (fun i4 h => ?_)
      exact hs0.trans (w_M_lengthen_168 _ _ _ _ (hs0.fx hm) h)
theorem w_M_lengthen_56 : ∀ (n : Nat) (x2 : Int32) (x3 : Int32) (x4 : Int32) (x5 : Int32) (s0 : g_St) {o : Unit × g_St}, m_Fix s0 → f_M_lengthen_56 n (some 1) x2 x3 x4 x5 s0 = some o → z_W [] [789, 853, 917, 4180, 4244] s0 o.2 := by
  intro n
  induction n with
  | zero =>
    intro x2 x3 x4 x5 s0 o hm h
    rw [f_M_lengthen_56] at h
    cases h
  | succ n ih =>
    intro x2 x3 x4 x5 s0 o hm h
    rw [f_M_lengthen_56] at h
    have hs0 : z_W [] [789, 853, 917, 4180, 4244] s0 s0 := z_W.re
    refine fr_if h (fun h => ?_) (fun h => ?_)
    · refine fr_gR (hs0.fx hm _ m_k5185).1 h (fun h => ?_)
      refine fr_gI h (fun i2 h => ?_)
      refine fr_gR (hs0.fx hm _ m_k5057).1 h (fun h => ?_)
      refine fr_gI h (fun i4 h => ?_)
      refine fr_gR (hs0.fx hm _ m_k1729).1 h (fun h => ?_)
      refine fr_aI h (fun i6 h => ?_)
      refine fr_aL h (fun j7 h => ?_)
      refine fr_sL h (fun j1 h => ?_)
      have hs1 := z_W.sL hs0 (a := 853) (by decide) j1 j7
      refine fr_gR (hs1.fx hm _ m_k5121).1 h (fun h => ?_)
      refine fr_gI h (fun i10 h => ?_)
      refine fr_sI h (fun j2 h => ?_)
      have hs2 := z_W.sI hs1 (a := 4180) (by decide) j2 (x4 + 1)
      exact hs2.trans (w_M_lengthen_142 _ _ _ (hs2.fx hm) h)
    · refine fr_gR (hs0.fx hm _ m_k5185).1 h (fun h => ?_)
      refine fr_gI h (fun i13 h => ?_)
      refine fr_gR (hs0.fx hm _ m_k5185).1 h (fun h => ?_)
      refine fr_aL h (fun j15 h => ?_)
      refine fr_sL h (fun j3 h => ?_)
      have hs3 := z_W.sL hs0 (a := 853) (by decide) j3 j15
      exact hs3.trans (ih _ _ _ _ _ (hs3.fx hm) h)
theorem w_M_lengthen_20 (x1 : Int32) (x2 : Int32) (s0 : g_St) {o : Unit × g_St} (hm : m_Fix s0) (h : f_M_lengthen_20 (some 1) x1 x2 s0 = some o) : z_W [] [789, 853, 917, 4180, 4244] s0 o.2 := by
  unfold f_M_lengthen_20 at h
  have hs0 : z_W [] [789, 853, 917, 4180, 4244] s0 s0 := z_W.re
  refine fr_c h (fun i1 s2 hc h => ?_)
  have hs1 := hs0.trans ((w_M_parent _ _ _ (hs0.fx hm) (er_nn hc)).mono (by decide) (by decide))
  refine fr_gR (hs1.fx hm _ m_k1409).1 h (fun h => ?_)
  refine fr_aI h (fun i4 h => ?_)
  refine fr_if h (fun h => ?_) (fun h => ?_)
  · exact hs1.trans (w_M_lengthen_142 _ _ _ (hs1.fx hm) h)
  · refine fr_if h (fun h => ?_) (fun h => ?_)
    · exact hs1.trans (w_M_lengthen_56 _ _ _ _ _ _ (hs1.fx hm) h)
    · refine fr_gR (hs1.fx hm _ m_k5121).1 h (fun h => ?_)
      refine fr_aI h (fun i6 h => ?_)
      exact hs1.trans (w_M_lengthen_56 _ _ _ _ _ _ (hs1.fx hm) h)
theorem w_M_lengthen (x1 : Int32) (x2 : Int32) (s0 : g_St) {o : Unit × g_St} (hm : m_Fix s0) (h : f_M_lengthen (some 1) x1 x2 s0 = some o) : z_W [] [789, 853, 917, 4180, 4244] s0 o.2 := by
  unfold f_M_lengthen at h
  have hs0 : z_W [] [789, 853, 917, 4180, 4244] s0 s0 := z_W.re
  refine fr_gR (hs0.fx hm _ m_k1409).1 h (fun h => ?_)
  refine fr_aI h (fun i2 h => ?_)
  refine fr_if h (fun h => ?_) (fun h => ?_)
  · refine fr_gR (hs0.fx hm _ m_k1601).1 h (fun h => ?_)
    refine fr_aI h (fun i4 h => ?_)
    refine fr_if h (fun h => ?_) (fun h => ?_)
    · exact fr_some h hs0
    · exact hs0.trans (w_M_lengthen_20 _ _ _ (hs0.fx hm) h)
  · exact hs0.trans (w_M_lengthen_20 _ _ _ (hs0.fx hm) h)
theorem w_M_isAlike_219 : ∀ (n : Nat) (x2 : Int32) (x4 : Int32) (x6 : Int32) (s0 : g_St) {o : Int32 × g_St}, m_Fix s0 → f_M_isAlike_219 n (some 1) x2 x4 x6 s0 = some o → z_W [] [] s0 o.2 := by
  intro n
  induction n with
  | zero =>
    intro x2 x4 x6 s0 o hm h
    rw [f_M_isAlike_219] at h
    cases h
  | succ n ih =>
    intro x2 x4 x6 s0 o hm h
    rw [f_M_isAlike_219] at h
    have hs0 : z_W [] [] s0 s0 := z_W.re
    refine fr_gR (hs0.fx hm _ m_k5249).1 h (fun h => ?_)
    refine fr_gI h (fun i2 h => ?_)
    refine fr_aI h (fun i3 h => ?_)
    refine fr_if h (fun h => ?_) (fun h => ?_)
    · exact fr_rZ h (fun h => fr_some h hs0)
    · refine fr_if h (fun h => ?_) (fun h => ?_)
      · exact fr_rZ h (fun h => fr_some h hs0)
      · refine fr_gR (hs0.fx hm _ m_k5313).1 h (fun h => ?_)
        refine fr_aL h (fun j5 h => ?_)
        refine fr_gR (hs0.fx hm _ m_k5313).1 h (fun h => ?_)
        refine fr_gI h (fun i7 h => ?_)
        refine fr_aL h (fun j8 h => ?_)
        refine fr_if h (fun h => ?_) (fun h => ?_)
        · exact hs0.trans (ih _ _ _ _ (hs0.fx hm) h)
        · exact hs0.trans (ih _ _ _ _ (hs0.fx hm) h)
theorem w_M_isAlike_153 : ∀ (n : Nat) (x2 : Int32) (x4 : Int32) (x6 : Int32) (s0 : g_St) {o : Int32 × g_St}, m_Fix s0 → f_M_isAlike_153 n (some 1) x2 x4 x6 s0 = some o → z_W [] [] s0 o.2 := by
  intro n
  induction n with
  | zero =>
    intro x2 x4 x6 s0 o hm h
    rw [f_M_isAlike_153] at h
    cases h
  | succ n ih =>
    intro x2 x4 x6 s0 o hm h
    rw [f_M_isAlike_153] at h
    have hs0 : z_W [] [] s0 s0 := z_W.re
    refine fr_gR (hs0.fx hm _ m_k5121).1 h (fun h => ?_)
    refine fr_gI h (fun i2 h => ?_)
    refine fr_aI h (fun i3 h => ?_)
    refine fr_if h (fun h => ?_) (fun h => ?_)
    · exact hs0.trans (w_M_isAlike_219 _ _ _ _ _ (hs0.fx hm) h)
    · refine fr_if h (fun h => ?_) (fun h => ?_)
      · exact hs0.trans (w_M_isAlike_219 _ _ _ _ _ (hs0.fx hm) h)
      · refine fr_gR (hs0.fx hm _ m_k5185).1 h (fun h => ?_)
        refine fr_aL h (fun j5 h => ?_)
        refine fr_gR (hs0.fx hm _ m_k5185).1 h (fun h => ?_)
        refine fr_gI h (fun i7 h => ?_)
        refine fr_aL h (fun j8 h => ?_)
        refine fr_if h (fun h => ?_) (fun h => ?_)
        · exact hs0.trans (ih _ _ _ _ (hs0.fx hm) h)
        · exact hs0.trans (ih _ _ _ _ (hs0.fx hm) h)
theorem w_M_isAlike_122 (x1 : Int32) (x2 : Int32) (x4 : Int32) (s0 : g_St) {o : Int32 × g_St} (hm : m_Fix s0) (h : f_M_isAlike_122 (some 1) x1 x2 x4 s0 = some o) : z_W [] [] s0 o.2 := by
  unfold f_M_isAlike_122 at h
  have hs0 : z_W [] [] s0 s0 := z_W.re
  refine fr_gR (hs0.fx hm _ m_k1409).1 h (fun h => ?_)
  refine fr_aI h (fun i2 h => ?_)
  refine fr_if h (fun h => ?_) (fun h => ?_)
  · refine fr_gR (hs0.fx hm _ m_k5121).1 h (fun h => ?_)
    refine fr_gI h (fun i4 h => ?_)
    refine fr_aI h (fun i5 h => ?_)
    exact hs0.trans (w_M_isAlike_153 _ _ _ _ _ (hs0.fx hm) h)
  · exact hs0.trans (w_M_isAlike_153 _ _ _ _ _ (hs0.fx hm) h)
theorem w_M_isAlike_69 : ∀ (n : Nat) (x1 : Int32) (x2 : Int32) (x3 : Int32) (x4 : Int32) (x5 : Int32) (s0 : g_St) {o : Int32 × g_St}, m_Fix s0 → f_M_isAlike_69 n (some 1) x1 x2 x3 x4 x5 s0 = some o → z_W [] [] s0 o.2 := by
  intro n
  induction n with
  | zero =>
    intro x1 x2 x3 x4 x5 s0 o hm h
    rw [f_M_isAlike_69] at h
    cases h
  | succ n ih =>
    intro x1 x2 x3 x4 x5 s0 o hm h
    rw [f_M_isAlike_69] at h
    have hs0 : z_W [] [] s0 s0 := z_W.re
    refine fr_if h (fun h => ?_) (fun h => ?_)
    · exact hs0.trans (w_M_isAlike_122 _ _ _ _ (hs0.fx hm) h)
    · refine fr_if h (fun h => ?_) (fun h => ?_)
      · exact hs0.trans (w_M_isAlike_122 _ _ _ _ (hs0.fx hm) h)
      · refine fr_gR (hs0.fx hm _ m_k5057).1 h (fun h => ?_)
        refine fr_aL h (fun j2 h => ?_)
        refine fr_gR (hs0.fx hm _ m_k5057).1 h (fun h => ?_)
        refine fr_gI h (fun i4 h => ?_)
        refine fr_aL h (fun j5 h => ?_)
        refine fr_if h (fun h => ?_) (fun h => ?_)
        · exact hs0.trans (ih _ _ _ _ _ _ (hs0.fx hm) h)
        · exact hs0.trans (ih _ _ _ _ _ _ (hs0.fx hm) h)
theorem w_M_isAlike_21 (x1 : Int32) (x2 : Int32) (x0s : Int32) (x1s : Int32) (s0 : g_St) {o : Int32 × g_St} (hm : m_Fix s0) (h : f_M_isAlike_21 (some 1) x1 x2 x0s x1s s0 = some o) : z_W [] [] s0 o.2 := by
  unfold f_M_isAlike_21 at h
  have hs0 : z_W [] [] s0 s0 := z_W.re
  refine fr_gR (hs0.fx hm _ m_k5121).1 h (fun h => ?_)
  refine fr_aI h (fun i2 h => ?_)
  refine fr_gR (hs0.fx hm _ m_k5121).1 h (fun h => ?_)
  refine fr_gI h (fun i4 h => ?_)
  refine fr_aI h (fun i5 h => ?_)
  refine fr_if h (fun h => ?_) (fun h => ?_)
  · refine fr_gR (hs0.fx hm _ m_k5249).1 h (fun h => ?_)
    refine fr_aI h (fun i7 h => ?_)
    refine fr_gR (hs0.fx hm _ m_k5249).1 h (fun h => ?_)
    refine fr_gI h (fun i9 h => ?_)
    refine fr_aI h (fun i10 h => ?_)
    refine fr_if h (fun h => ?_) (fun h => ?_)
    · exact hs0.trans (w_M_isAlike_69 _ _ _ _ _ _ _ (hs0.fx hm) h)
    · exact hs0.trans (w_M_isAlike_69 _ _ _ _ _ _ _ (hs0.fx hm) h)
  · exact hs0.trans (w_M_isAlike_69 _ _ _ _ _ _ _ (hs0.fx hm) h)
theorem w_M_isAlike (x1 : Int32) (x2 : Int32) (s0 : g_St) {o : Int32 × g_St} (hm : m_Fix s0) (h : f_M_isAlike (some 1) x1 x2 s0 = some o) : z_W [] [] s0 o.2 := by
  unfold f_M_isAlike at h
  have hs0 : z_W [] [] s0 s0 := z_W.re
  refine fr_gR (hs0.fx hm _ m_k1281).1 h (fun h => ?_)
  refine fr_aI h (fun i2 h => ?_)
  refine fr_gR (hs0.fx hm _ m_k1601).1 h (fun h => ?_)
  refine fr_aI h (fun i4 h => ?_)
  refine fr_if h (fun h => ?_) (fun h => ?_)
  · exact hs0.trans (w_M_isAlike_21 _ _ _ _ _ (hs0.fx hm) h)
  · exact hs0.trans (w_M_isAlike_21 _ _ _ _ _ (hs0.fx hm) h)
theorem w_M_isThere_4 : ∀ (n : Nat) (x1 : Int32) (x2 : Int32) (x3 : Int32) (s0 : g_St) {o : Int32 × g_St}, m_Fix s0 → f_M_isThere_4 n (some 1) x1 x2 x3 s0 = some o → z_W [] [] s0 o.2 := by
  intro n
  induction n with
  | zero =>
    intro x1 x2 x3 s0 o hm h
    rw [f_M_isThere_4] at h
    cases h
  | succ n ih =>
    intro x1 x2 x3 s0 o hm h
    rw [f_M_isThere_4] at h
    have hs0 : z_W [] [] s0 s0 := z_W.re
    refine fr_gI h (fun i1 h => ?_)
    refine fr_if h (fun h => ?_) (fun h => ?_)
    · exact fr_rZ h (fun h => fr_some h hs0)
    · refine fr_if h (fun h => ?_) (fun h => ?_)
      · refine fr_gR (hs0.fx hm _ m_k4993).1 h (fun h => ?_)
        refine fr_aI h (fun i3 h => ?_)
        refine fr_if h (fun h => ?_) (fun h => ?_)
        · refine fr_c h (fun i4 s5 hc h => ?_)
          have hs1 := hs0.trans ((w_M_isAlike _ _ _ (hs0.fx hm) (er_nn hc)).mono (by decide) (by decide))
          refine fr_if h (fun h => ?_) (fun h => ?_)
          · exact hs1.trans (ih _ _ _ _ (hs1.fx hm) h)
          · exact hs1.trans (ih _ _ _ _ (hs1.fx hm) h)
        · exact hs0.trans (ih _ _ _ _ (hs0.fx hm) h)
      · exact fr_rZ h (fun h => fr_some h hs0)
theorem w_M_isThere (x1 : Int32) (s0 : g_St) {o : Int32 × g_St} (hm : m_Fix s0) (h : f_M_isThere (some 1) x1 s0 = some o) : z_W [] [] s0 o.2 := by
  unfold f_M_isThere at h
  have hs0 : z_W [] [] s0 s0 := z_W.re
  exact hs0.trans (w_M_isThere_4 _ _ _ _ _ (hs0.fx hm) h)
theorem w_M_bring_143  (s0 : g_St) {o : Unit × g_St} (hm : m_Fix s0) (h : f_M_bring_143 (some 1) s0 = some o) : z_W [1, 4929, 5377] [789, 853, 917, 981, 1045, 4116, 4180, 4244] s0 o.2 := by
  unfold f_M_bring_143 at h
  have hs0 : z_W [1, 4929, 5377] [789, 853, 917, 981, 1045, 4116, 4180, 4244] s0 s0 := z_W.re
  refine fr_gI h (fun i1 h => ?_)
  refine fr_gI h (fun i2 h => ?_)
  refine fr_gI h (fun i3 h => ?_)
  refine fr_if h (fun h => ?_) (fun h => ?_)
  · refine fr_pI h (fun h => ?_)
    have hs1 := z_W.pI hs0 (k := 1) (by decide) 4
    exact fr_some h hs1
  · refine fr_gI h (fun i4 h => ?_)
    refine fr_pI h (fun h => ?_)
    have hs2 := z_W.pI hs0 (k := 4929) (by decide) (i4 + 1)
    exact fr_some h hs2
theorem w_M_bring_22 : ∀ (n : Nat) (x1 : Int32) (x2 : Int32) (x3 : Int32) (x4 : Int32) (s0 : g_St) {o : Unit × g_St}, m_Fix s0 → f_M_bring_22 n (some 1) x1 x2 x3 x4 s0 = some o → z_W [1, 4929, 5377] [789, 853, 917, 981, 1045, 4116, 4180, 4244] s0 o.2 := by
  intro n
  induction n with
  | zero =>
    intro x1 x2 x3 x4 s0 o hm h
    rw [f_M_bring_22] at h
    cases h
  | succ n ih =>
    intro x1 x2 x3 x4 s0 o hm h
    rw [f_M_bring_22] at h
    have hs0 : z_W [1, 4929, 5377] [789, 853, 917, 981, 1045, 4116, 4180, 4244] s0 s0 := z_W.re
    refine fr_gR (hs0.fx hm _ m_k2433).1 h (fun h => ?_)
    refine fr_aI h (fun i2 h => ?_)
    refine fr_if h (fun h => ?_) (fun h => ?_)
    · refine fr_gR (hs0.fx hm _ m_k4993).1 h (fun h => ?_)
      refine fr_gI h (fun i4 h => ?_)
      refine fr_sI h (fun j1 h => ?_)
      have hs1 := z_W.sI hs0 (a := 4116) (by decide) j1 x3
      refine fr_gR (hs1.fx hm _ m_k5121).1 h (fun h => ?_)
      refine fr_gI h (fun i7 h => ?_)
      refine fr_sI h (fun j2 h => ?_)
      have hs2 := z_W.sI hs1 (a := 4180) (by decide) j2 0
      refine fr_gR (hs2.fx hm _ m_k5249).1 h (fun h => ?_)
      refine fr_gI h (fun i10 h => ?_)
      refine fr_sI h (fun j3 h => ?_)
      have hs3 := z_W.sI hs2 (a := 4244) (by decide) j3 0
      refine fr_c h (fun v4 s13 hc h => ?_)
      have hs4 := hs3.trans ((w_M_lengthen _ _ _ (hs3.fx hm) (er_nn hc)).mono (by decide) (by decide))
      refine fr_gR (hs4.fx hm _ m_k1921).1 h (fun h => ?_)
      refine fr_aI h (fun i15 h => ?_)
      refine fr_if h (fun h => ?_) (fun h => ?_)
      · refine fr_gR (hs4.fx hm _ m_k2049).1 h (fun h => ?_)
        refine fr_aI h (fun i17 h => ?_)
        refine fr_if h (fun h => ?_) (fun h => ?_)
        · exact hs4.trans (w_M_bring_143 _ (hs4.fx hm) h)
        · refine fr_c h (fun i18 s19 hc h => ?_)
          have hs5 := hs4.trans ((w_M_isThere _ _ (hs4.fx hm) (er_nn hc)).mono (by decide) (by decide))
          refine fr_if h (fun h => ?_) (fun h => ?_)
          · exact hs5.trans (w_M_bring_143 _ (hs5.fx hm) h)
          · exact fr_some h hs5
      · exact hs4.trans (w_M_bring_143 _ (hs4.fx hm) h)
    · refine fr_gR (hs0.fx hm _ m_k5057).1 h (fun h => ?_)
      refine fr_gI h (fun i21 h => ?_)
      refine fr_if h (fun h => ?_) (fun h => ?_)
      · refine fr_c h (fun j25 s26 hc h => ?_)
        have hs6 := hs0.trans ((w_M_itemOf _ _ _ (hs0.fx hm) (er_nn hc)).mono (by decide) (by decide))
        refine fr_sL h (fun j7 h => ?_)
        have hs7 := z_W.sL hs6 (a := 789) (by decide) j7 j25
        exact hs7.trans (ih _ _ _ _ _ (hs7.fx hm) h)
      · refine fr_gR (hs0.fx hm _ m_k6401).1 h (fun h => ?_)
        refine fr_aL h (fun j23 h => ?_)
        refine fr_sL h (fun j8 h => ?_)
        have hs8 := z_W.sL hs0 (a := 789) (by decide) j8 j23
        exact hs8.trans (ih _ _ _ _ _ (hs8.fx hm) h)
theorem w_M_bring (x1 : Int32) (x2 : Int32) (s0 : g_St) {o : Unit × g_St} (hm : m_Fix s0) (h : f_M_bring (some 1) x1 x2 s0 = some o) : z_W [1, 4929, 5377] [789, 853, 917, 981, 1045, 4116, 4180, 4244] s0 o.2 := by
  unfold f_M_bring at h
  have hs0 : z_W [1, 4929, 5377] [789, 853, 917, 981, 1045, 4116, 4180, 4244] s0 s0 := z_W.re
  refine fr_gR (hs0.fx hm _ m_k2241).1 h (fun h => ?_)
  refine fr_aI h (fun i2 h => ?_)
  refine fr_if h (fun h => ?_) (fun h => ?_)
  · refine fr_c h (fun v1 s4 hc h => ?_)
    have hs1 := hs0.trans ((w_M_bringAnswer _ _ _ (hs0.fx hm) (er_nn hc)).mono (by decide) (by decide))
    exact fr_some h hs1
  · exact hs0.trans (w_M_bring_22 _ _ _ _ _ _ (hs0.fx hm) h)
theorem w_M_workOut_190 {k164 : Option Nat → Int32 → Int32 → g_St → Option (Unit × g_St)} (hk164 : ∀ (y1 : Int32) (y2 : Int32) (s : g_St) {o : Unit × g_St}, m_Fix s → k164 (some 1) y1 y2 s = some o → z_W [1, 4929, 5377, 6337] [789, 853, 917, 981, 1045, 1109, 1173, 4116, 4180, 4244, 4564, 4628, 4692, 4756] s o.2) (x1 : Int32) (s0 : g_St) {o : Unit × g_St} (hm : m_Fix s0) (h : f_M_workOut_190 k164 (some 1) x1 s0 = some o) : z_W [1, 4929, 5377, 6337] [789, 853, 917, 981, 1045, 1109, 1173, 4116, 4180, 4244, 4564, 4628, 4692, 4756] s0 o.2 := by
  unfold f_M_workOut_190 at h
  have hs0 : z_W [1, 4929, 5377, 6337] [789, 853, 917, 981, 1045, 1109, 1173, 4116, 4180, 4244, 4564, 4628, 4692, 4756] s0 s0 := z_W.re
  refine fr_c h (fun i1 s2 hc h => ?_)
  have hs1 := hs0.trans ((w_M_next _ _ (hs0.fx hm) (er_nn hc)).mono (by decide) (by decide))
  exact hs1.trans (hk164 _ _ _ (hs1.fx hm) h)
theorem w_M_workOut_164 : ∀ (n : Nat) (x1 : Int32) (x5 : Int32) (s0 : g_St) {o : Unit × g_St}, m_Fix s0 → f_M_workOut_164 n (some 1) x1 x5 s0 = some o → z_W [1, 4929, 5377, 6337] [789, 853, 917, 981, 1045, 1109, 1173, 4116, 4180, 4244, 4564, 4628, 4692, 4756] s0 o.2 := by
  intro n
  induction n with
  | zero =>
    intro x1 x5 s0 o hm h
    rw [f_M_workOut_164] at h
    cases h
  | succ n ih =>
    intro x1 x5 s0 o hm h
    rw [f_M_workOut_164] at h
    have hs0 : z_W [1, 4929, 5377, 6337] [789, 853, 917, 981, 1045, 1109, 1173, 4116, 4180, 4244, 4564, 4628, 4692, 4756] s0 s0 := z_W.re
    refine fr_if h (fun h => ?_) (fun h => ?_)
    · exact fr_some h hs0
    · refine fr_gI h (fun i1 h => ?_)
      refine fr_if h (fun h => ?_) (fun h => ?_)
      · refine fr_c h (fun i2 s3 hc h => ?_)
        have hs1 := hs0.trans ((w_M_matches _ _ (hs0.fx hm) (er_nn hc)).mono (by decide) (by decide))
        refine fr_if h (fun h => ?_) (fun h => ?_)
        · exact hs1.trans (w_M_workOut_190 ih _ _ (hs1.fx hm) h)
        · refine fr_c h (fun v2 s5 hc h => ?_)
          have hs2 := hs1.trans ((w_M_bring _ _ _ (hs1.fx hm) (er_nn hc)).mono (by decide) (by decide))
          exact hs2.trans (w_M_workOut_190 ih _ _ (hs2.fx hm) h)
      · exact fr_some h hs0
theorem w_M_workOut_127 : ∀ (n : Nat) (x1 : Int32) (x5 : Int32) (s0 : g_St) {o : Unit × g_St}, m_Fix s0 → f_M_workOut_127 n (some 1) x1 x5 s0 = some o → z_W [1, 4929, 5377, 6337] [789, 853, 917, 981, 1045, 1109, 1173, 4116, 4180, 4244, 4564, 4628, 4692, 4756] s0 o.2 := by
  intro n
  induction n with
  | zero =>
    intro x1 x5 s0 o hm h
    rw [f_M_workOut_127] at h
    cases h
  | succ n ih =>
    intro x1 x5 s0 o hm h
    rw [f_M_workOut_127] at h
    have hs0 : z_W [1, 4929, 5377, 6337] [789, 853, 917, 981, 1045, 1109, 1173, 4116, 4180, 4244, 4564, 4628, 4692, 4756] s0 s0 := z_W.re
    refine fr_gI h (fun i1 h => ?_)
    refine fr_if h (fun h => ?_) (fun h => ?_)
    · exact fr_some h hs0
    · refine fr_gI h (fun i2 h => ?_)
      refine fr_if h (fun h => ?_) (fun h => ?_)
      · refine fr_c h (fun v1 s4 hc h => ?_)
        have hs1 := hs0.trans ((w_M_bring _ _ _ (hs0.fx hm) (er_nn hc)).mono (by decide) (by decide))
        exact hs1.trans (ih _ _ _ (hs1.fx hm) h)
      · exact fr_some h hs0
theorem w_M_workOut_88 {k16 : Option Nat → Int32 → Int32 → g_St → Option (Unit × g_St)} (hk16 : ∀ (y1 : Int32) (y2 : Int32) (s : g_St) {o : Unit × g_St}, m_Fix s → k16 (some 1) y1 y2 s = some o → z_W [1, 4929, 5377, 6337] [789, 853, 917, 981, 1045, 1109, 1173, 4116, 4180, 4244, 4564, 4628, 4692, 4756] s o.2) (x1 : Int32) (s0 : g_St) {o : Unit × g_St} (hm : m_Fix s0) (h : f_M_workOut_88 k16 (some 1) x1 s0 = some o) : z_W [1, 4929, 5377, 6337] [789, 853, 917, 981, 1045, 1109, 1173, 4116, 4180, 4244, 4564, 4628, 4692, 4756] s0 o.2 := by
  unfold f_M_workOut_88 at h
  have hs0 : z_W [1, 4929, 5377, 6337] [789, 853, 917, 981, 1045, 1109, 1173, 4116, 4180, 4244, 4564, 4628, 4692, 4756] s0 s0 := z_W.re
  refine fr_c h (fun i1 s2 hc h => ?_)
  have hs1 := hs0.trans ((w_M_next _ _ (hs0.fx hm) (er_nn hc)).mono (by decide) (by decide))
  exact hs1.trans (hk16 _ _ _ (hs1.fx hm) h)
theorem w_M_workOut_35 {k16 : Option Nat → Int32 → Int32 → g_St → Option (Unit × g_St)} (hk16 : ∀ (y1 : Int32) (y2 : Int32) (s : g_St) {o : Unit × g_St}, m_Fix s → k16 (some 1) y1 y2 s = some o → z_W [1, 4929, 5377, 6337] [789, 853, 917, 981, 1045, 1109, 1173, 4116, 4180, 4244, 4564, 4628, 4692, 4756] s o.2) : ∀ (n : Nat) (x1 : Int32) (x6 : Int32) (s0 : g_St) {o : Unit × g_St}, m_Fix s0 → f_M_workOut_35 k16 n (some 1) x1 x6 s0 = some o → z_W [1, 4929, 5377, 6337] [789, 853, 917, 981, 1045, 1109, 1173, 4116, 4180, 4244, 4564, 4628, 4692, 4756] s0 o.2 := by
  intro n
  induction n with
  | zero =>
    intro x1 x6 s0 o hm h
    rw [f_M_workOut_35] at h
    cases h
  | succ n ih =>
    intro x1 x6 s0 o hm h
    rw [f_M_workOut_35] at h
    have hs0 : z_W [1, 4929, 5377, 6337] [789, 853, 917, 981, 1045, 1109, 1173, 4116, 4180, 4244, 4564, 4628, 4692, 4756] s0 s0 := z_W.re
    refine fr_gR (hs0.fx hm _ m_k2433).1 h (fun h => ?_)
    refine fr_aI h (fun i2 h => ?_)
    refine fr_if h (fun h => ?_) (fun h => ?_)
    · refine fr_gI h (fun i3 h => ?_)
      refine fr_if h (fun h => ?_) (fun h => ?_)
      · exact hs0.trans (w_M_workOut_88 hk16 _ _ (hs0.fx hm) h)
      · exact fr_some h hs0
    · refine fr_c h (fun i4 s5 hc h => ?_)
      have hs1 := hs0.trans ((w_M_kindOf _ _ _ (hs0.fx hm) (er_nn hc)).mono (by decide) (by decide))
      refine fr_if h (fun h => ?_) (fun h => ?_)
      · refine fr_c h (fun j6 s7 hc h => ?_)
        have hs2 := hs1.trans ((w_M_itemOf _ _ _ (hs1.fx hm) (er_nn hc)).mono (by decide) (by decide))
        refine fr_c h (fun i8 s9 hc h => ?_)
        have hs3 := hs2.trans ((w_M_fits _ _ (hs2.fx hm) hc).mono (by decide) (by decide))
        refine fr_if h (fun h => ?_) (fun h => ?_)
        · refine fr_pI h (fun h => ?_)
          have hs4 := z_W.pI hs3 (k := 1) (by decide) 3
          exact hs4.trans (ih _ _ _ (hs4.fx hm) h)
        · exact hs3.trans (ih _ _ _ (hs3.fx hm) h)
      · exact hs1.trans (ih _ _ _ (hs1.fx hm) h)
theorem w_M_workOut_16 : ∀ (n : Nat) (x1 : Int32) (x5 : Int32) (s0 : g_St) {o : Unit × g_St}, m_Fix s0 → f_M_workOut_16 n (some 1) x1 x5 s0 = some o → z_W [1, 4929, 5377, 6337] [789, 853, 917, 981, 1045, 1109, 1173, 4116, 4180, 4244, 4564, 4628, 4692, 4756] s0 o.2 := by
  intro n
  induction n with
  | zero =>
    intro x1 x5 s0 o hm h
    rw [f_M_workOut_16] at h
    cases h
  | succ n ih =>
    intro x1 x5 s0 o hm h
    rw [f_M_workOut_16] at h
    have hs0 : z_W [1, 4929, 5377, 6337] [789, 853, 917, 981, 1045, 1109, 1173, 4116, 4180, 4244, 4564, 4628, 4692, 4756] s0 s0 := z_W.re
    refine fr_if h (fun h => ?_) (fun h => ?_)
    · refine fr_gR (hs0.fx hm _ m_k2753).1 h (fun h => ?_)
      refine fr_aI h (fun i2 h => ?_)
      refine fr_if h (fun h => ?_) (fun h => ?_)
      · refine fr_c h (fun i3 s4 hc h => ?_)
        have hs1 := hs0.trans ((w_M_first _ _ (hs0.fx hm) (er_nn hc)).mono (by decide) (by decide))
        exact hs1.trans (w_M_workOut_164 _ _ _ _ (hs1.fx hm) h)
      · refine fr_c h (fun v2 s6 hc h => ?_)
        have hs2 := hs0.trans ((w_M_makeGroups _ _ (hs0.fx hm) (er_nn hc)).mono (by decide) (by decide))
        refine fr_gI h (fun i7 h => ?_)
        refine fr_if h (fun h => ?_) (fun h => ?_)
        · refine fr_c h (fun v3 s9 hc h => ?_)
          have hs3 := hs2.trans ((w_M_checkGroups _ _ (hs2.fx hm) (er_nn hc)).mono (by decide) (by decide))
          exact hs3.trans (w_M_workOut_127 _ _ _ _ (hs3.fx hm) h)
        · exact hs2.trans (w_M_workOut_127 _ _ _ _ (hs2.fx hm) h)
    · refine fr_c h (fun i10 s11 hc h => ?_)
      have hs4 := hs0.trans ((w_M_matches _ _ (hs0.fx hm) (er_nn hc)).mono (by decide) (by decide))
      refine fr_if h (fun h => ?_) (fun h => ?_)
      · exact hs4.trans (w_M_workOut_88 ih _ _ (hs4.fx hm) h)
      · exact hs4.trans (w_M_workOut_35 ih _ _ _ _ (hs4.fx hm) h)
theorem w_M_workOut (x1 : Int32) (x2 : Int32) (x3 : Int32) (x4 : Int32) (s0 : g_St) {o : Unit × g_St} (hm : m_Fix s0) (h : f_M_workOut (some 1) x1 x2 x3 x4 s0 = some o) : z_W [1, 4929, 5377, 6337] [789, 853, 917, 981, 1045, 1109, 1173, 4116, 4180, 4244, 4564, 4628, 4692, 4756] s0 o.2 := by
  unfold f_M_workOut at h
  have hs0 : z_W [1, 4929, 5377, 6337] [789, 853, 917, 981, 1045, 1109, 1173, 4116, 4180, 4244, 4564, 4628, 4692, 4756] s0 s0 := z_W.re
  refine fr_c h (fun v1 s2 hc h => ?_)
  have hs1 := hs0.trans ((w_M_gather _ _ _ _ _ (hs0.fx hm) (er_nn hc)).mono (by decide) (by decide))
  refine fr_c h (fun i3 s4 hc h => ?_)
  have hs2 := hs1.trans ((w_M_first _ _ (hs1.fx hm) (er_nn hc)).mono (by decide) (by decide))
  exact hs2.trans (w_M_workOut_16 _ _ _ _ (hs2.fx hm) h)
theorem w_M_compare (y0 : Int64) (y2 : Int64) (s0 : g_St) {o : Int32 × g_St} (hm : m_Fix s0) (h : f_M_compare y0 y2 s0 = some o) : z_W [] [] s0 o.2 := by
  unfold f_M_compare at h
  have hs0 : z_W [] [] s0 s0 := z_W.re
  refine fr_if h (fun h => ?_) (fun h => ?_)
  · exact fr_some h hs0
  · refine fr_if h (fun h => ?_) (fun h => ?_)
    · exact fr_some h hs0
    · refine fr_if h (fun h => ?_) (fun h => ?_)
      · exact fr_some h hs0
      · refine fr_if h (fun h => ?_) (fun h => ?_)
        · exact fr_some h hs0
        · exact fr_some h hs0
theorem w_M_compareTrails_140 (x3 : Int32) (x4 : Int32) (s0 : g_St) {o : Int32 × g_St} (hm : m_Fix s0) (h : f_M_compareTrails_140 x3 x4 s0 = some o) : z_W [] [] s0 o.2 := by
  unfold f_M_compareTrails_140 at h
  have hs0 : z_W [] [] s0 s0 := z_W.re
  refine fr_if h (fun h => ?_) (fun h => ?_)
  · refine fr_if h (fun h => ?_) (fun h => ?_)
    · exact fr_some h hs0
    · exact fr_some h hs0
  · exact fr_some h hs0
theorem w_M_compareTrails_84 : ∀ (n : Nat) (x1 : Int32) (x2 : Int32) (x3 : Int32) (x4 : Int32) (x5 : Int32) (s0 : g_St) {o : Int32 × g_St}, m_Fix s0 → f_M_compareTrails_84 n (some 1) x1 x2 x3 x4 x5 s0 = some o → z_W [] [] s0 o.2 := by
  intro n
  induction n with
  | zero =>
    intro x1 x2 x3 x4 x5 s0 o hm h
    rw [f_M_compareTrails_84] at h
    cases h
  | succ n ih =>
    intro x1 x2 x3 x4 x5 s0 o hm h
    rw [f_M_compareTrails_84] at h
    have hs0 : z_W [] [] s0 s0 := z_W.re
    refine fr_if h (fun h => ?_) (fun h => ?_)
    · exact hs0.trans (w_M_compareTrails_140 _ _ _ (hs0.fx hm) h)
    · refine fr_if h (fun h => ?_) (fun h => ?_)
      · exact hs0.trans (w_M_compareTrails_140 _ _ _ (hs0.fx hm) h)
      · refine fr_gR (hs0.fx hm _ m_k5185).1 h (fun h => ?_)
        refine fr_aL h (fun j2 h => ?_)
        refine fr_gR (hs0.fx hm _ m_k5185).1 h (fun h => ?_)
        refine fr_aL h (fun j4 h => ?_)
        refine fr_c h (fun i5 s6 hc h => ?_)
        have hs1 := hs0.trans ((w_M_compare _ _ _ (hs0.fx hm) hc).mono (by decide) (by decide))
        refine fr_if h (fun h => ?_) (fun h => ?_)
        · exact hs1.trans (ih _ _ _ _ _ _ (hs1.fx hm) h)
        · exact fr_some h hs1
theorem w_M_compareTrails (x1 : Int32) (x2 : Int32) (s0 : g_St) {o : Int32 × g_St} (hm : m_Fix s0) (h : f_M_compareTrails (some 1) x1 x2 s0 = some o) : z_W [] [] s0 o.2 := by
  unfold f_M_compareTrails at h
  have hs0 : z_W [] [] s0 s0 := z_W.re
  refine fr_gR (hs0.fx hm _ m_k5121).1 h (fun h => ?_)
  refine fr_aI h (fun i2 h => ?_)
  refine fr_gR (hs0.fx hm _ m_k5121).1 h (fun h => ?_)
  refine fr_aI h (fun i4 h => ?_)
  refine fr_gR (hs0.fx hm _ m_k1409).1 h (fun h => ?_)
  refine fr_gR (hs0.fx hm _ m_k4993).1 h (fun h => ?_)
  refine fr_aI h (fun i7 h => ?_)
  refine fr_aI h (fun i8 h => ?_)
  refine fr_if h (fun h => ?_) (fun h => ?_)
  · refine fr_if h (fun h => ?_) (fun h => ?_)
    · refine fr_gR (hs0.fx hm _ m_k5185).1 h (fun h => ?_)
      refine fr_aL h (fun j10 h => ?_)
      refine fr_gR (hs0.fx hm _ m_k5185).1 h (fun h => ?_)
      refine fr_aL h (fun j12 h => ?_)
      refine fr_c h (fun i13 s14 hc h => ?_)
      have hs1 := hs0.trans ((w_M_compare _ _ _ (hs0.fx hm) hc).mono (by decide) (by decide))
      exact fr_some h hs1
    · refine fr_if h (fun h => ?_) (fun h => ?_)
      · exact fr_some h hs0
      · exact fr_some h hs0
  · exact hs0.trans (w_M_compareTrails_84 _ _ _ _ _ _ _ (hs0.fx hm) h)
theorem w_M_compareAnswers_91 : ∀ (n : Nat) (x1 : Int32) (x2 : Int32) (x3 : Int32) (s0 : g_St) {o : Int32 × g_St}, m_Fix s0 → f_M_compareAnswers_91 n (some 1) x1 x2 x3 s0 = some o → z_W [] [] s0 o.2 := by
  intro n
  induction n with
  | zero =>
    intro x1 x2 x3 s0 o hm h
    rw [f_M_compareAnswers_91] at h
    cases h
  | succ n ih =>
    intro x1 x2 x3 s0 o hm h
    rw [f_M_compareAnswers_91] at h
    have hs0 : z_W [] [] s0 s0 := z_W.re
    refine fr_gI h (fun i1 h => ?_)
    refine fr_if h (fun h => ?_) (fun h => ?_)
    · exact fr_some h hs0
    · refine fr_gR (hs0.fx hm _ m_k5505).1 h (fun h => ?_)
      refine fr_aL h (fun j3 h => ?_)
      refine fr_gR (hs0.fx hm _ m_k5505).1 h (fun h => ?_)
      refine fr_aL h (fun j5 h => ?_)
      refine fr_c h (fun i6 s7 hc h => ?_)
      have hs1 := hs0.trans ((w_M_compare _ _ _ (hs0.fx hm) hc).mono (by decide) (by decide))
      refine fr_if h (fun h => ?_) (fun h => ?_)
      · exact hs1.trans (ih _ _ _ _ (hs1.fx hm) h)
      · exact fr_some h hs1
theorem w_M_compareAnswers_73 {k2 : Option Nat → Int32 → Int32 → Int32 → g_St → Option (Int32 × g_St)} (hk2 : ∀ (y1 : Int32) (y2 : Int32) (y3 : Int32) (s : g_St) {o : Int32 × g_St}, m_Fix s → k2 (some 1) y1 y2 y3 s = some o → z_W [] [] s o.2) (x1 : Int32) (x2 : Int32) (x3 : Int32) (x0s : Int32) (s0 : g_St) {o : Int32 × g_St} (hm : m_Fix s0) (h : f_M_compareAnswers_73 k2 (some 1) x1 x2 x3 x0s s0 = some o) : z_W [] [] s0 o.2 := by
  unfold f_M_compareAnswers_73 at h
  have hs0 : z_W [] [] s0 s0 := z_W.re
  refine fr_if h (fun h => ?_) (fun h => ?_)
  · exact hs0.trans (hk2 _ _ _ _ (hs0.fx hm) h)
  · exact fr_some h hs0
theorem w_M_compareAnswers_2 : ∀ (n : Nat) (x1 : Int32) (x2 : Int32) (x3 : Int32) (s0 : g_St) {o : Int32 × g_St}, m_Fix s0 → f_M_compareAnswers_2 n (some 1) x1 x2 x3 s0 = some o → z_W [] [] s0 o.2 := by
  intro n
  induction n with
  | zero =>
    intro x1 x2 x3 s0 o hm h
    rw [f_M_compareAnswers_2] at h
    cases h
  | succ n ih =>
    intro x1 x2 x3 s0 o hm h
    rw [f_M_compareAnswers_2] at h
    have hs0 : z_W [] [] s0 s0 := z_W.re
    refine fr_gI h (fun i1 h => ?_)
    refine fr_if h (fun h => ?_) (fun h => ?_)
    · exact hs0.trans (w_M_compareAnswers_91 _ _ _ _ _ (hs0.fx hm) h)
    · refine fr_gR (hs0.fx hm _ m_k4609).1 h (fun h => ?_)
      refine fr_aI h (fun i3 h => ?_)
      refine fr_if h (fun h => ?_) (fun h => ?_)
      · refine fr_gR (hs0.fx hm _ m_k5569).1 h (fun h => ?_)
        refine fr_aL h (fun j11 h => ?_)
        refine fr_gR (hs0.fx hm _ m_k5569).1 h (fun h => ?_)
        refine fr_aL h (fun j13 h => ?_)
        refine fr_c h (fun i14 s15 hc h => ?_)
        have hs1 := hs0.trans ((w_M_compareTrails _ _ _ (hs0.fx hm) (er_nn hc)).mono (by decide) (by decide))
        exact hs1.trans (w_M_compareAnswers_73 ih _ _ _ _ _ (hs1.fx hm) h)
      · refine fr_gR (hs0.fx hm _ m_k5569).1 h (fun h => ?_)
        refine fr_aL h (fun j5 h => ?_)
        refine fr_gR (hs0.fx hm _ m_k5569).1 h (fun h => ?_)
        refine fr_aL h (fun j7 h => ?_)
        refine fr_c h (fun i8 s9 hc h => ?_)
        have hs2 := hs0.trans ((w_M_compare _ _ _ (hs0.fx hm) hc).mono (by decide) (by decide))
        exact hs2.trans (w_M_compareAnswers_73 ih _ _ _ _ _ (hs2.fx hm) h)
theorem w_M_compareAnswers (x1 : Int32) (x2 : Int32) (s0 : g_St) {o : Int32 × g_St} (hm : m_Fix s0) (h : f_M_compareAnswers (some 1) x1 x2 s0 = some o) : z_W [] [] s0 o.2 := by
  unfold f_M_compareAnswers at h
  have hs0 : z_W [] [] s0 s0 := z_W.re
  exact hs0.trans (w_M_compareAnswers_2 _ _ _ _ _ (hs0.fx hm) h)
theorem w_M_sort_12 {k2 : Option Nat → Int32 → g_St → Option (Unit × g_St)} (hk2 : ∀ (y1 : Int32) (s : g_St) {o : Unit × g_St}, m_Fix s → k2 (some 1) y1 s = some o → z_W [] [4308] s o.2) : ∀ (n : Nat) (x1 : Int32) (x2 : Int32) (s0 : g_St) {o : Unit × g_St}, m_Fix s0 → f_M_sort_12 k2 n (some 1) x1 x2 s0 = some o → z_W [] [4308] s0 o.2 := by
  intro n
  induction n with
  | zero =>
    intro x1 x2 s0 o hm h
    rw [f_M_sort_12] at h
    cases h
  | succ n ih =>
    intro x1 x2 s0 o hm h
    rw [f_M_sort_12] at h
    have hs0 : z_W [] [4308] s0 s0 := z_W.re
    refine fr_if h (fun h => ?_) (fun h => ?_)
    · refine fr_gR (hs0.fx hm _ m_k5697).1 h (fun h => ?_)
      refine fr_sI h (fun j1 h => ?_)
      have hs1 := z_W.sI hs0 (a := 4308) (by decide) j1 x1
      exact hs1.trans (hk2 _ _ (hs1.fx hm) h)
    · refine fr_gR (hs0.fx hm _ m_k5697).1 h (fun h => ?_)
      refine fr_aI h (fun i4 h => ?_)
      refine fr_c h (fun i5 s6 hc h => ?_)
      have hs2 := hs0.trans ((w_M_compareAnswers _ _ _ (hs0.fx hm) (er_nn hc)).mono (by decide) (by decide))
      refine fr_if h (fun h => ?_) (fun h => ?_)
      · refine fr_gR (hs2.fx hm _ m_k5697).1 h (fun h => ?_)
        refine fr_sI h (fun j3 h => ?_)
        have hs3 := z_W.sI hs2 (a := 4308) (by decide) j3 x1
        exact hs3.trans (hk2 _ _ (hs3.fx hm) h)
      · refine fr_gR (hs2.fx hm _ m_k5697).1 h (fun h => ?_)
        refine fr_gR (hs2.fx hm _ m_k5697).1 h (fun h => ?_)
        refine fr_aI h (fun i11 h => ?_)
        refine fr_sI h (fun j4 h => ?_)
        have hs4 := z_W.sI hs2 (a := 4308) (by decide) j4 i11
        exact hs4.trans (ih _ _ _ (hs4.fx hm) h)
theorem w_M_sort_2 : ∀ (n : Nat) (x1 : Int32) (s0 : g_St) {o : Unit × g_St}, m_Fix s0 → f_M_sort_2 n (some 1) x1 s0 = some o → z_W [] [4308] s0 o.2 := by
  intro n
  induction n with
  | zero =>
    intro x1 s0 o hm h
    rw [f_M_sort_2] at h
    cases h
  | succ n ih =>
    intro x1 s0 o hm h
    rw [f_M_sort_2] at h
    have hs0 : z_W [] [4308] s0 s0 := z_W.re
    refine fr_gI h (fun i1 h => ?_)
    refine fr_if h (fun h => ?_) (fun h => ?_)
    · exact fr_some h hs0
    · exact hs0.trans (w_M_sort_12 ih _ _ _ _ (hs0.fx hm) h)
theorem w_M_sort  (s0 : g_St) {o : Unit × g_St} (hm : m_Fix s0) (h : f_M_sort (some 1) s0 = some o) : z_W [] [4308] s0 o.2 := by
  unfold f_M_sort at h
  have hs0 : z_W [] [4308] s0 s0 := z_W.re
  exact hs0.trans (w_M_sort_2 _ _ _ (hs0.fx hm) h)
theorem w_M_round_161 {k100 : Option Nat → Int32 → Int32 → Int32 → Int32 → Int32 → Int32 → Int32 → Int32 → g_St → Option (Unit × g_St)} (hk100 : ∀ (y1 : Int32) (y2 : Int32) (y3 : Int32) (y4 : Int32) (y5 : Int32) (y6 : Int32) (y7 : Int32) (y8 : Int32) (s : g_St) {o : Unit × g_St}, m_Fix s → k100 (some 1) y1 y2 y3 y4 y5 y6 y7 y8 s = some o → z_W [1, 4929, 5377, 6337] [789, 853, 917, 981, 1045, 1109, 1173, 4116, 4180, 4244, 4564, 4628, 4692, 4756] s o.2) (x1 : Int32) (x2 : Int32) (x3 : Int32) (x4 : Int32) (x5 : Int32) (x6 : Int32) (x7 : Int32) (x8 : Int32) (x9 : Int32) (s0 : g_St) {o : Unit × g_St} (hm : m_Fix s0) (h : f_M_round_161 k100 (some 1) x1 x2 x3 x4 x5 x6 x7 x8 x9 s0 = some o) : z_W [1, 4929, 5377, 6337] [789, 853, 917, 981, 1045, 1109, 1173, 4116, 4180, 4244, 4564, 4628, 4692, 4756] s0 o.2 := by
  unfold f_M_round_161 at h
  have hs0 : z_W [1, 4929, 5377, 6337] [789, 853, 917, 981, 1045, 1109, 1173, 4116, 4180, 4244, 4564, 4628, 4692, 4756] s0 s0 := z_W.re
  refine fr_c h (fun v1 s2 hc h => ?_)
  have hs1 := hs0.trans ((w_M_workOut _ _ _ _ _ (hs0.fx hm) (er_nn hc)).mono (by decide) (by decide))
  exact hs1.trans (hk100 _ _ _ _ _ _ _ _ _ (hs1.fx hm) h)
theorem w_M_round_147 {k100 : Option Nat → Int32 → Int32 → Int32 → Int32 → Int32 → Int32 → Int32 → Int32 → g_St → Option (Unit × g_St)} (hk100 : ∀ (y1 : Int32) (y2 : Int32) (y3 : Int32) (y4 : Int32) (y5 : Int32) (y6 : Int32) (y7 : Int32) (y8 : Int32) (s : g_St) {o : Unit × g_St}, m_Fix s → k100 (some 1) y1 y2 y3 y4 y5 y6 y7 y8 s = some o → z_W [1, 4929, 5377, 6337] [789, 853, 917, 981, 1045, 1109, 1173, 4116, 4180, 4244, 4564, 4628, 4692, 4756] s o.2) (x1 : Int32) (x2 : Int32) (x3 : Int32) (x4 : Int32) (x5 : Int32) (x6 : Int32) (x7 : Int32) (x8 : Int32) (x9 : Int32) (x0s : Int32) (s0 : g_St) {o : Unit × g_St} (hm : m_Fix s0) (h : f_M_round_147 k100 (some 1) x1 x2 x3 x4 x5 x6 x7 x8 x9 x0s s0 = some o) : z_W [1, 4929, 5377, 6337] [789, 853, 917, 981, 1045, 1109, 1173, 4116, 4180, 4244, 4564, 4628, 4692, 4756] s0 o.2 := by
  unfold f_M_round_147 at h
  have hs0 : z_W [1, 4929, 5377, 6337] [789, 853, 917, 981, 1045, 1109, 1173, 4116, 4180, 4244, 4564, 4628, 4692, 4756] s0 s0 := z_W.re
  refine fr_if h (fun h => ?_) (fun h => ?_)
  · exact hs0.trans (w_M_round_161 hk100 _ _ _ _ _ _ _ _ _ _ (hs0.fx hm) h)
  · refine fr_if h (fun h => ?_) (fun h => ?_)
    · exact hs0.trans (hk100 _ _ _ _ _ _ _ _ _ (hs0.fx hm) h)
    · exact hs0.trans (w_M_round_161 hk100 _ _ _ _ _ _ _ _ _ _ (hs0.fx hm) h)
theorem w_M_round_100 {k48 : Option Nat → Int32 → Int32 → Int32 → Int32 → Int32 → Int32 → g_St → Option (Unit × g_St)} (hk48 : ∀ (y1 : Int32) (y2 : Int32) (y3 : Int32) (y4 : Int32) (y5 : Int32) (y6 : Int32) (s : g_St) {o : Unit × g_St}, m_Fix s → k48 (some 1) y1 y2 y3 y4 y5 y6 s = some o → z_W [1, 4929, 5377, 6337] [789, 853, 917, 981, 1045, 1109, 1173, 4116, 4180, 4244, 4564, 4628, 4692, 4756] s o.2) : ∀ (n : Nat) (x1 : Int32) (x2 : Int32) (x3 : Int32) (x4 : Int32) (x5 : Int32) (x6 : Int32) (x7 : Int32) (x8 : Int32) (s0 : g_St) {o : Unit × g_St}, m_Fix s0 → f_M_round_100 k48 n (some 1) x1 x2 x3 x4 x5 x6 x7 x8 s0 = some o → z_W [1, 4929, 5377, 6337] [789, 853, 917, 981, 1045, 1109, 1173, 4116, 4180, 4244, 4564, 4628, 4692, 4756] s0 o.2 := by
  intro n
  induction n with
  | zero =>
    intro x1 x2 x3 x4 x5 x6 x7 x8 s0 o hm h
    rw [f_M_round_100] at h
    cases h
  | succ n ih =>
    intro x1 x2 x3 x4 x5 x6 x7 x8 s0 o hm h
    rw [f_M_round_100] at h
    have hs0 : z_W [1, 4929, 5377, 6337] [789, 853, 917, 981, 1045, 1109, 1173, 4116, 4180, 4244, 4564, 4628, 4692, 4756] s0 s0 := z_W.re
    refine fr_gR (hs0.fx hm _ m_k2049).1 h (fun h => ?_)
    refine fr_aI h (fun i2 h => ?_)
    refine fr_if h (fun h => ?_) (fun h => ?_)
    · exact hs0.trans (hk48 _ _ _ _ _ _ _ (hs0.fx hm) h)
    · refine fr_gI h (fun i3 h => ?_)
      refine fr_if h (fun h => ?_) (fun h => ?_)
      · refine fr_gR (hs0.fx hm _ m_k1985).1 h (fun h => ?_)
        refine fr_aI h (fun i5 h => ?_)
        refine fr_c h (fun i6 s7 hc h => ?_)
        have hs1 := hs0.trans ((w_M_timesNamed _ _ _ (hs0.fx hm) (er_nn hc)).mono (by decide) (by decide))
        refine fr_if h (fun h => ?_) (fun h => ?_)
        · exact hs1.trans (w_M_round_147 ih _ _ _ _ _ _ _ _ _ _ _ (hs1.fx hm) h)
        · exact hs1.trans (w_M_round_147 ih _ _ _ _ _ _ _ _ _ _ _ (hs1.fx hm) h)
      · exact hs0.trans (hk48 _ _ _ _ _ _ _ (hs0.fx hm) h)
theorem w_M_round_48 : ∀ (n : Nat) (x1 : Int32) (x2 : Int32) (x3 : Int32) (x4 : Int32) (x5 : Int32) (x6 : Int32) (s0 : g_St) {o : Unit × g_St}, m_Fix s0 → f_M_round_48 n (some 1) x1 x2 x3 x4 x5 x6 s0 = some o → z_W [1, 4929, 5377, 6337] [789, 853, 917, 981, 1045, 1109, 1173, 4116, 4180, 4244, 4564, 4628, 4692, 4756] s0 o.2 := by
  intro n
  induction n with
  | zero =>
    intro x1 x2 x3 x4 x5 x6 s0 o hm h
    rw [f_M_round_48] at h
    cases h
  | succ n ih =>
    intro x1 x2 x3 x4 x5 x6 s0 o hm h
    rw [f_M_round_48] at h
    have hs0 : z_W [1, 4929, 5377, 6337] [789, 853, 917, 981, 1045, 1109, 1173, 4116, 4180, 4244, 4564, 4628, 4692, 4756] s0 s0 := z_W.re
    refine fr_gI h (fun i1 h => ?_)
    refine fr_if h (fun h => ?_) (fun h => ?_)
    · exact fr_some h hs0
    · refine fr_gR (hs0.fx hm _ m_k4801).1 h (fun h => ?_)
      refine fr_aI h (fun i3 h => ?_)
      refine fr_if h (fun h => ?_) (fun h => ?_)
      · refine fr_c h (fun i4 s5 hc h => ?_)
        have hs1 := hs0.trans ((w_M_isRecursive _ _ (hs0.fx hm) (er_nn hc)).mono (by decide) (by decide))
        refine fr_if h (fun h => ?_) (fun h => ?_)
        · exact hs1.trans (w_M_round_100 ih _ _ _ _ _ _ _ _ _ _ (hs1.fx hm) h)
        · refine fr_gR (hs1.fx hm _ m_k1921).1 h (fun h => ?_)
          refine fr_aI h (fun i7 h => ?_)
          refine fr_if h (fun h => ?_) (fun h => ?_)
          · exact hs1.trans (w_M_round_100 ih _ _ _ _ _ _ _ _ _ _ (hs1.fx hm) h)
          · exact hs1.trans (w_M_round_100 ih _ _ _ _ _ _ _ _ _ _ (hs1.fx hm) h)
      · exact hs0.trans (ih _ _ _ _ _ _ _ (hs0.fx hm) h)
theorem w_M_round_6 : ∀ (n : Nat) (x1 : Int32) (x2 : Int32) (x3 : Int32) (x4 : Int32) (x5 : Int32) (x6 : Int32) (s0 : g_St) {o : Unit × g_St}, m_Fix s0 → f_M_round_6 n (some 1) x1 x2 x3 x4 x5 x6 s0 = some o → z_W [1, 4929, 5377, 6337] [789, 853, 917, 981, 1045, 1109, 1173, 4116, 4180, 4244, 4564, 4628, 4692, 4756] s0 o.2 := by
  intro n
  induction n with
  | zero =>
    intro x1 x2 x3 x4 x5 x6 s0 o hm h
    rw [f_M_round_6] at h
    cases h
  | succ n ih =>
    intro x1 x2 x3 x4 x5 x6 s0 o hm h
    rw [f_M_round_6] at h
    have hs0 : z_W [1, 4929, 5377, 6337] [789, 853, 917, 981, 1045, 1109, 1173, 4116, 4180, 4244, 4564, 4628, 4692, 4756] s0 s0 := z_W.re
    refine fr_gI h (fun i1 h => ?_)
    refine fr_if h (fun h => ?_) (fun h => ?_)
    · exact hs0.trans (w_M_round_48 _ _ _ _ _ _ _ _ (hs0.fx hm) h)
    · refine fr_gR (hs0.fx hm _ m_k4801).1 h (fun h => ?_)
      refine fr_aI h (fun i3 h => ?_)
      refine fr_if h (fun h => ?_) (fun h => ?_)
      · exact hs0.trans (ih _ _ _ _ _ _ _ (hs0.fx hm) h)
      · exact hs0.trans (ih _ _ _ _ _ _ _ (hs0.fx hm) h)
theorem w_M_round (x1 : Int32) (x2 : Int32) (x3 : Int32) (x4 : Int32) (s0 : g_St) {o : Unit × g_St} (hm : m_Fix s0) (h : f_M_round (some 1) x1 x2 x3 x4 s0 = some o) : z_W [1, 4929, 5377, 6337] [789, 853, 917, 981, 1045, 1109, 1173, 4116, 4180, 4244, 4564, 4628, 4692, 4756] s0 o.2 := by
  unfold f_M_round at h
  have hs0 : z_W [1, 4929, 5377, 6337] [789, 853, 917, 981, 1045, 1109, 1173, 4116, 4180, 4244, 4564, 4628, 4692, 4756] s0 s0 := z_W.re
  exact hs0.trans (w_M_round_6 _ _ _ _ _ _ _ _ (hs0.fx hm) h)
theorem w_M_workComponent_197 {k107 : Option Nat → Int32 → Int32 → Int32 → Int32 → Int32 → Int32 → Int32 → g_St → Option (Unit × g_St)} (hk107 : ∀ (y1 : Int32) (y2 : Int32) (y3 : Int32) (y4 : Int32) (y5 : Int32) (y6 : Int32) (y7 : Int32) (s : g_St) {o : Unit × g_St}, m_Fix s → k107 (some 1) y1 y2 y3 y4 y5 y6 y7 s = some o → z_W [1, 4929, 5377, 6337] [789, 853, 917, 981, 1045, 1109, 1173, 4116, 4180, 4244, 4372, 4436, 4564, 4628, 4692, 4756] s o.2) (x1 : Int32) (x2 : Int32) (x3 : Int32) (x4 : Int32) (x5 : Int32) (x6 : Int32) (x0s : Int32) (s0 : g_St) {o : Unit × g_St} (hm : m_Fix s0) (h : f_M_workComponent_197 k107 (some 1) x1 x2 x3 x4 x5 x6 x0s s0 = some o) : z_W [1, 4929, 5377, 6337] [789, 853, 917, 981, 1045, 1109, 1173, 4116, 4180, 4244, 4372, 4436, 4564, 4628, 4692, 4756] s0 o.2 := by
  unfold f_M_workComponent_197 at h
  have hs0 : z_W [1, 4929, 5377, 6337] [789, 853, 917, 981, 1045, 1109, 1173, 4116, 4180, 4244, 4372, 4436, 4564, 4628, 4692, 4756] s0 s0 := z_W.re
  refine fr_if h (fun h => ?_) (fun h => ?_)
  · exact hs0.trans (hk107 _ _ _ _ _ _ _ _ (hs0.fx hm) h)
  · refine fr_gI h (fun i1 h => ?_)
    refine fr_if h (fun h => ?_) (fun h => ?_)
    · refine fr_if h (fun h => ?_) (fun h => ?_)
      · refine fr_pI h (fun h => ?_)
        have hs1 := z_W.pI hs0 (k := 1) (by decide) 4
        exact hs1.trans (hk107 _ _ _ _ _ _ _ _ (hs1.fx hm) h)
      · exact hs0.trans (hk107 _ _ _ _ _ _ _ _ (hs0.fx hm) h)
    · exact hs0.trans (hk107 _ _ _ _ _ _ _ _ (hs0.fx hm) h)
theorem w_M_workComponent_150 {k107 : Option Nat → Int32 → Int32 → Int32 → Int32 → Int32 → Int32 → Int32 → g_St → Option (Unit × g_St)} (hk107 : ∀ (y1 : Int32) (y2 : Int32) (y3 : Int32) (y4 : Int32) (y5 : Int32) (y6 : Int32) (y7 : Int32) (s : g_St) {o : Unit × g_St}, m_Fix s → k107 (some 1) y1 y2 y3 y4 y5 y6 y7 s = some o → z_W [1, 4929, 5377, 6337] [789, 853, 917, 981, 1045, 1109, 1173, 4116, 4180, 4244, 4372, 4436, 4564, 4628, 4692, 4756] s o.2) (x1 : Int32) (x2 : Int32) (x3 : Int32) (x4 : Int32) (x5 : Int32) (x8 : Int32) (x1s : Int32) (x2s : Int32) (x3s : Int32) (x4s : Int32) (s0 : g_St) {o : Unit × g_St} (hm : m_Fix s0) (h : f_M_workComponent_150 k107 (some 1) x1 x2 x3 x4 x5 x8 (some 1) x1s x2s x3s x4s s0 = some o) : z_W [1, 4929, 5377, 6337] [789, 853, 917, 981, 1045, 1109, 1173, 4116, 4180, 4244, 4372, 4436, 4564, 4628, 4692, 4756] s0 o.2 := by
  unfold f_M_workComponent_150 at h
  have hs0 : z_W [1, 4929, 5377, 6337] [789, 853, 917, 981, 1045, 1109, 1173, 4116, 4180, 4244, 4372, 4436, 4564, 4628, 4692, 4756] s0 s0 := z_W.re
  refine fr_c h (fun v1 s2 hc h => ?_)
  have hs1 := hs0.trans ((w_M_round _ _ _ _ _ (hs0.fx hm) (er_nn hc)).mono (by decide) (by decide))
  refine fr_gR (hs1.fx hm _ m_k5825).1 h (fun h => ?_)
  refine fr_gI h (fun i4 h => ?_)
  refine fr_sI h (fun j2 h => ?_)
  have hs2 := z_W.sI hs1 (a := 4436) (by decide) j2 (i4 - x8)
  refine fr_if h (fun h => ?_) (fun h => ?_)
  · exact hs2.trans (w_M_workComponent_197 hk107 _ _ _ _ _ _ _ _ (hs2.fx hm) h)
  · refine fr_gI h (fun i6 h => ?_)
    refine fr_if h (fun h => ?_) (fun h => ?_)
    · exact hs2.trans (w_M_workComponent_197 hk107 _ _ _ _ _ _ _ _ (hs2.fx hm) h)
    · exact hs2.trans (w_M_workComponent_197 hk107 _ _ _ _ _ _ _ _ (hs2.fx hm) h)
theorem w_M_workComponent_138 {k107 : Option Nat → Int32 → Int32 → Int32 → Int32 → Int32 → Int32 → Int32 → g_St → Option (Unit × g_St)} (hk107 : ∀ (y1 : Int32) (y2 : Int32) (y3 : Int32) (y4 : Int32) (y5 : Int32) (y6 : Int32) (y7 : Int32) (s : g_St) {o : Unit × g_St}, m_Fix s → k107 (some 1) y1 y2 y3 y4 y5 y6 y7 s = some o → z_W [1, 4929, 5377, 6337] [789, 853, 917, 981, 1045, 1109, 1173, 4116, 4180, 4244, 4372, 4436, 4564, 4628, 4692, 4756] s o.2) (x1 : Int32) (x2 : Int32) (x3 : Int32) (x4 : Int32) (x5 : Int32) (x8 : Int32) (x1s : Int32) (x2s : Int32) (s0 : g_St) {o : Unit × g_St} (hm : m_Fix s0) (h : f_M_workComponent_138 k107 (some 1) x1 x2 x3 x4 x5 x8 (some 1) x1s x2s s0 = some o) : z_W [1, 4929, 5377, 6337] [789, 853, 917, 981, 1045, 1109, 1173, 4116, 4180, 4244, 4372, 4436, 4564, 4628, 4692, 4756] s0 o.2 := by
  unfold f_M_workComponent_138 at h
  have hs0 : z_W [1, 4929, 5377, 6337] [789, 853, 917, 981, 1045, 1109, 1173, 4116, 4180, 4244, 4372, 4436, 4564, 4628, 4692, 4756] s0 s0 := z_W.re
  refine fr_if h (fun h => ?_) (fun h => ?_)
  · exact hs0.trans (w_M_workComponent_150 hk107 _ _ _ _ _ _ _ _ _ _ _ (hs0.fx hm) h)
  · exact hs0.trans (w_M_workComponent_150 hk107 _ _ _ _ _ _ _ _ _ _ _ (hs0.fx hm) h)
theorem w_M_workComponent_107 : ∀ (n : Nat) (x1 : Int32) (x2 : Int32) (x3 : Int32) (x4 : Int32) (x5 : Int32) (x6 : Int32) (x7 : Int32) (s0 : g_St) {o : Unit × g_St}, m_Fix s0 → f_M_workComponent_107 n (some 1) x1 x2 x3 x4 x5 x6 x7 s0 = some o → z_W [1, 4929, 5377, 6337] [789, 853, 917, 981, 1045, 1109, 1173, 4116, 4180, 4244, 4372, 4436, 4564, 4628, 4692, 4756] s0 o.2 := by
  intro n
  induction n with
  | zero =>
    intro x1 x2 x3 x4 x5 x6 x7 s0 o hm h
    rw [f_M_workComponent_107] at h
    cases h
  | succ n ih =>
    intro x1 x2 x3 x4 x5 x6 x7 s0 o hm h
    rw [f_M_workComponent_107] at h
    have hs0 : z_W [1, 4929, 5377, 6337] [789, 853, 917, 981, 1045, 1109, 1173, 4116, 4180, 4244, 4372, 4436, 4564, 4628, 4692, 4756] s0 s0 := z_W.re
    refine fr_if h (fun h => ?_) (fun h => ?_)
    · refine fr_gR (hs0.fx hm _ m_k5761).1 h (fun h => ?_)
      refine fr_sI h (fun j1 h => ?_)
      have hs1 := z_W.sI hs0 (a := 4372) (by decide) j1 x5
      exact fr_some h hs1
    · refine fr_gI h (fun i3 h => ?_)
      refine fr_if h (fun h => ?_) (fun h => ?_)
      · refine fr_gI h (fun i6 h => ?_)
        refine fr_if h (fun h => ?_) (fun h => ?_)
        · exact hs0.trans (w_M_workComponent_138 ih _ _ _ _ _ _ _ _ _ (hs0.fx hm) h)
        · exact hs0.trans (w_M_workComponent_138 ih _ _ _ _ _ _ _ _ _ (hs0.fx hm) h)
      · refine fr_gR (hs0.fx hm _ m_k5761).1 h (fun h => ?_)
        refine fr_sI h (fun j2 h => ?_)
        have hs2 := z_W.sI hs0 (a := 4372) (by decide) j2 x5
        exact fr_some h hs2
theorem w_M_workComponent_46 {k8 : Option Nat → Int32 → Int32 → Int32 → Int32 → Int32 → g_St → Option (Unit × g_St)} (hk8 : ∀ (y1 : Int32) (y2 : Int32) (y3 : Int32) (y4 : Int32) (y5 : Int32) (s : g_St) {o : Unit × g_St}, m_Fix s → k8 (some 1) y1 y2 y3 y4 y5 s = some o → z_W [1, 4929, 5377, 6337] [789, 853, 917, 981, 1045, 1109, 1173, 4116, 4180, 4244, 4372, 4436, 4564, 4628, 4692, 4756] s o.2) (x1 : Int32) (x2 : Int32) (x4 : Int32) (x5 : Int32) (x0s : Int32) (s0 : g_St) {o : Unit × g_St} (hm : m_Fix s0) (h : f_M_workComponent_46 k8 (some 1) x1 x2 x4 x5 x0s s0 = some o) : z_W [1, 4929, 5377, 6337] [789, 853, 917, 981, 1045, 1109, 1173, 4116, 4180, 4244, 4372, 4436, 4564, 4628, 4692, 4756] s0 o.2 := by
  unfold f_M_workComponent_46 at h
  have hs0 : z_W [1, 4929, 5377, 6337] [789, 853, 917, 981, 1045, 1109, 1173, 4116, 4180, 4244, 4372, 4436, 4564, 4628, 4692, 4756] s0 s0 := z_W.re
  refine fr_if h (fun h => ?_) (fun h => ?_)
  · refine fr_gR (hs0.fx hm _ m_k4801).1 h (fun h => ?_)
    refine fr_aI h (fun i2 h => ?_)
    refine fr_if h (fun h => ?_) (fun h => ?_)
    · refine fr_c h (fun i3 s4 hc h => ?_)
      have hs1 := hs0.trans ((w_M_isRecursive _ _ (hs0.fx hm) (er_nn hc)).mono (by decide) (by decide))
      refine fr_if h (fun h => ?_) (fun h => ?_)
      · exact hs1.trans (hk8 _ _ _ _ _ _ (hs1.fx hm) h)
      · refine fr_gR (hs1.fx hm _ m_k1921).1 h (fun h => ?_)
        refine fr_aI h (fun i6 h => ?_)
        refine fr_if h (fun h => ?_) (fun h => ?_)
        · exact hs1.trans (hk8 _ _ _ _ _ _ (hs1.fx hm) h)
        · exact hs1.trans (hk8 _ _ _ _ _ _ (hs1.fx hm) h)
    · exact hs0.trans (hk8 _ _ _ _ _ _ (hs0.fx hm) h)
  · exact hs0.trans (hk8 _ _ _ _ _ _ (hs0.fx hm) h)
theorem w_M_workComponent_8 : ∀ (n : Nat) (x1 : Int32) (x2 : Int32) (x3 : Int32) (x4 : Int32) (x5 : Int32) (s0 : g_St) {o : Unit × g_St}, m_Fix s0 → f_M_workComponent_8 n (some 1) x1 x2 x3 x4 x5 s0 = some o → z_W [1, 4929, 5377, 6337] [789, 853, 917, 981, 1045, 1109, 1173, 4116, 4180, 4244, 4372, 4436, 4564, 4628, 4692, 4756] s0 o.2 := by
  intro n
  induction n with
  | zero =>
    intro x1 x2 x3 x4 x5 s0 o hm h
    rw [f_M_workComponent_8] at h
    cases h
  | succ n ih =>
    intro x1 x2 x3 x4 x5 s0 o hm h
    rw [f_M_workComponent_8] at h
    have hs0 : z_W [1, 4929, 5377, 6337] [789, 853, 917, 981, 1045, 1109, 1173, 4116, 4180, 4244, 4372, 4436, 4564, 4628, 4692, 4756] s0 s0 := z_W.re
    refine fr_gI h (fun i1 h => ?_)
    refine fr_if h (fun h => ?_) (fun h => ?_)
    · refine fr_gI h (fun i2 h => ?_)
      exact hs0.trans (w_M_workComponent_107 _ _ _ _ _ _ _ _ _ (hs0.fx hm) h)
    · refine fr_if h (fun h => ?_) (fun h => ?_)
      · refine fr_gR (hs0.fx hm _ m_k4801).1 h (fun h => ?_)
        refine fr_aI h (fun i4 h => ?_)
        refine fr_if h (fun h => ?_) (fun h => ?_)
        · refine fr_c h (fun i5 s6 hc h => ?_)
          have hs1 := hs0.trans ((w_M_isRecursive _ _ (hs0.fx hm) (er_nn hc)).mono (by decide) (by decide))
          refine fr_if h (fun h => ?_) (fun h => ?_)
          · exact hs1.trans (w_M_workComponent_46 ih _ _ _ _ _ _ (hs1.fx hm) h)
          · exact hs1.trans (w_M_workComponent_46 ih _ _ _ _ _ _ (hs1.fx hm) h)
        · exact hs0.trans (w_M_workComponent_46 ih _ _ _ _ _ _ (hs0.fx hm) h)
      · exact hs0.trans (w_M_workComponent_46 ih _ _ _ _ _ _ (hs0.fx hm) h)
theorem w_M_workComponent (x1 : Int32) (x2 : Int32) (s0 : g_St) {o : Unit × g_St} (hm : m_Fix s0) (h : f_M_workComponent (some 1) x1 x2 s0 = some o) : z_W [1, 4929, 5377, 6337] [789, 853, 917, 981, 1045, 1109, 1173, 4116, 4180, 4244, 4372, 4436, 4564, 4628, 4692, 4756] s0 o.2 := by
  unfold f_M_workComponent at h
  have hs0 : z_W [1, 4929, 5377, 6337] [789, 853, 917, 981, 1045, 1109, 1173, 4116, 4180, 4244, 4372, 4436, 4564, 4628, 4692, 4756] s0 s0 := z_W.re
  exact hs0.trans (w_M_workComponent_8 _ _ _ _ _ _ _ (hs0.fx hm) h)
theorem w_M_run_192 {k174 : Option Nat → Int32 → g_St → Option (Int32 × g_St)} (hk174 : ∀ (y1 : Int32) (s : g_St) {o : Int32 × g_St}, m_Fix s → k174 (some 1) y1 s = some o → z_W [1, 1089, 4929, 5377, 5441, 5633, 5889, 6017, 6337] [789, 853, 917, 981, 1045, 1109, 1173, 4116, 4180, 4244, 4308, 4372, 4436, 4500, 4564, 4628, 4692, 4756] s o.2) : ∀ (n : Nat) (x3 : Int32) (x4 : Int32) (s0 : g_St) {o : Int32 × g_St}, m_Fix s0 → f_M_run_192 k174 n (some 1) x3 x4 s0 = some o → z_W [1, 1089, 4929, 5377, 5441, 5633, 5889, 6017, 6337] [789, 853, 917, 981, 1045, 1109, 1173, 4116, 4180, 4244, 4308, 4372, 4436, 4500, 4564, 4628, 4692, 4756] s0 o.2 := by
  intro n
  induction n with
  | zero =>
    intro x3 x4 s0 o hm h
    rw [f_M_run_192] at h
    cases h
  | succ n ih =>
    intro x3 x4 s0 o hm h
    rw [f_M_run_192] at h
    have hs0 : z_W [1, 1089, 4929, 5377, 5441, 5633, 5889, 6017, 6337] [789, 853, 917, 981, 1045, 1109, 1173, 4116, 4180, 4244, 4308, 4372, 4436, 4500, 4564, 4628, 4692, 4756] s0 s0 := z_W.re
    refine fr_gI h (fun i1 h => ?_)
    refine fr_if h (fun h => ?_) (fun h => ?_)
    · exact hs0.trans (hk174 _ _ (hs0.fx hm) h)
    · refine fr_gR (hs0.fx hm _ m_k5953).1 h (fun h => ?_)
      refine fr_aI h (fun i3 h => ?_)
      refine fr_gR (hs0.fx hm _ m_k4993).1 h (fun h => ?_)
      refine fr_aI h (fun i5 h => ?_)
      refine fr_if h (fun h => ?_) (fun h => ?_)
      · refine fr_sI h (fun j1 h => ?_)
        have hs1 := z_W.sI hs0 (a := 4500) (by decide) j1 (i3 + 1)
        exact hs1.trans (ih _ _ _ (hs1.fx hm) h)
      · refine fr_sI h (fun j2 h => ?_)
        have hs2 := z_W.sI hs0 (a := 4500) (by decide) j2 (i3 + 0)
        exact hs2.trans (ih _ _ _ (hs2.fx hm) h)
theorem w_M_run_174 : ∀ (n : Nat) (x3 : Int32) (s0 : g_St) {o : Int32 × g_St}, m_Fix s0 → f_M_run_174 n (some 1) x3 s0 = some o → z_W [1, 1089, 4929, 5377, 5441, 5633, 5889, 6017, 6337] [789, 853, 917, 981, 1045, 1109, 1173, 4116, 4180, 4244, 4308, 4372, 4436, 4500, 4564, 4628, 4692, 4756] s0 o.2 := by
  intro n
  induction n with
  | zero =>
    intro x3 s0 o hm h
    rw [f_M_run_174] at h
    cases h
  | succ n ih =>
    intro x3 s0 o hm h
    rw [f_M_run_174] at h
    have hs0 : z_W [1, 1089, 4929, 5377, 5441, 5633, 5889, 6017, 6337] [789, 853, 917, 981, 1045, 1109, 1173, 4116, 4180, 4244, 4308, 4372, 4436, 4500, 4564, 4628, 4692, 4756] s0 s0 := z_W.re
    refine fr_gI h (fun i1 h => ?_)
    refine fr_if h (fun h => ?_) (fun h => ?_)
    · refine fr_gI h (fun i2 h => ?_)
      exact fr_some h hs0
    · refine fr_gR (hs0.fx hm _ m_k5953).1 h (fun h => ?_)
      refine fr_sI h (fun j1 h => ?_)
      have hs1 := z_W.sI hs0 (a := 4500) (by decide) j1 0
      exact hs1.trans (w_M_run_192 ih _ _ _ _ (hs1.fx hm) h)
theorem w_M_run_138  (s0 : g_St) {o : Int32 × g_St} (hm : m_Fix s0) (h : f_M_run_138 (some 1) s0 = some o) : z_W [1, 1089, 4929, 5377, 5441, 5633, 5889, 6017, 6337] [789, 853, 917, 981, 1045, 1109, 1173, 4116, 4180, 4244, 4308, 4372, 4436, 4500, 4564, 4628, 4692, 4756] s0 o.2 := by
  unfold f_M_run_138 at h
  have hs0 : z_W [1, 1089, 4929, 5377, 5441, 5633, 5889, 6017, 6337] [789, 853, 917, 981, 1045, 1109, 1173, 4116, 4180, 4244, 4308, 4372, 4436, 4500, 4564, 4628, 4692, 4756] s0 s0 := z_W.re
  refine fr_gI h (fun i1 h => ?_)
  refine fr_if h (fun h => ?_) (fun h => ?_)
  · refine fr_c h (fun v1 s3 hc h => ?_)
    have hs1 := hs0.trans ((w_M_sort _ (hs0.fx hm) (er_nn hc)).mono (by decide) (by decide))
    refine fr_pZ h (fun h => ?_)
    have hs2 := z_W.pI hs1 (k := 1089) (by decide) 1
    refine fr_gI h (fun i5 h => ?_)
    refine fr_pI h (fun h => ?_)
    have hs3 := z_W.pI hs2 (k := 6017) (by decide) i5
    refine fr_gI h (fun i7 h => ?_)
    refine fr_pI h (fun h => ?_)
    have hs4 := z_W.pI hs3 (k := 5889) (by decide) i7
    exact hs4.trans (w_M_run_174 _ _ _ (hs4.fx hm) h)
  · exact fr_some h hs0
theorem w_M_run_100  (s0 : g_St) {o : Int32 × g_St} (hm : m_Fix s0) (h : f_M_run_100 (some 1) s0 = some o) : z_W [1, 1089, 4929, 5377, 5441, 5633, 5889, 6017, 6337] [789, 853, 917, 981, 1045, 1109, 1173, 4116, 4180, 4244, 4308, 4372, 4436, 4500, 4564, 4628, 4692, 4756] s0 o.2 := by
  unfold f_M_run_100 at h
  have hs0 : z_W [1, 1089, 4929, 5377, 5441, 5633, 5889, 6017, 6337] [789, 853, 917, 981, 1045, 1109, 1173, 4116, 4180, 4244, 4308, 4372, 4436, 4500, 4564, 4628, 4692, 4756] s0 s0 := z_W.re
  refine fr_gR (hs0.fx hm _ m_k2433).1 h (fun h => ?_)
  refine fr_gI h (fun i2 h => ?_)
  refine fr_aI h (fun i3 h => ?_)
  refine fr_pI h (fun h => ?_)
  have hs1 := z_W.pI hs0 (k := 5633) (by decide) i3
  refine fr_gI h (fun i5 h => ?_)
  refine fr_if h (fun h => ?_) (fun h => ?_)
  · refine fr_gI h (fun i6 h => ?_)
    refine fr_gI h (fun i7 h => ?_)
    refine fr_c h (fun v2 s9 hc h => ?_)
    have hs2 := hs1.trans ((w_M_workOut _ _ _ _ _ (hs1.fx hm) (er_nn hc)).mono (by decide) (by decide))
    exact hs2.trans (w_M_run_138 _ (hs2.fx hm) h)
  · exact hs1.trans (w_M_run_138 _ (hs1.fx hm) h)
theorem w_M_run_73 : ∀ (n : Nat) (x1 : Int32) (x3 : Int32) (s0 : g_St) {o : Int32 × g_St}, m_Fix s0 → f_M_run_73 n (some 1) x1 x3 s0 = some o → z_W [1, 1089, 4929, 5377, 5441, 5633, 5889, 6017, 6337] [789, 853, 917, 981, 1045, 1109, 1173, 4116, 4180, 4244, 4308, 4372, 4436, 4500, 4564, 4628, 4692, 4756] s0 o.2 := by
  intro n
  induction n with
  | zero =>
    intro x1 x3 s0 o hm h
    rw [f_M_run_73] at h
    cases h
  | succ n ih =>
    intro x1 x3 s0 o hm h
    rw [f_M_run_73] at h
    have hs0 : z_W [1, 1089, 4929, 5377, 5441, 5633, 5889, 6017, 6337] [789, 853, 917, 981, 1045, 1109, 1173, 4116, 4180, 4244, 4308, 4372, 4436, 4500, 4564, 4628, 4692, 4756] s0 s0 := z_W.re
    refine fr_gI h (fun i1 h => ?_)
    refine fr_if h (fun h => ?_) (fun h => ?_)
    · exact hs0.trans (w_M_run_100 _ (hs0.fx hm) h)
    · refine fr_gI h (fun i2 h => ?_)
      refine fr_if h (fun h => ?_) (fun h => ?_)
      · refine fr_c h (fun v1 s4 hc h => ?_)
        have hs1 := hs0.trans ((w_M_workComponent _ _ _ (hs0.fx hm) (er_nn hc)).mono (by decide) (by decide))
        exact hs1.trans (ih _ _ _ (hs1.fx hm) h)
      · exact hs0.trans (w_M_run_100 _ (hs0.fx hm) h)
theorem w_M_run_39 (x1 : Int32) (x2 : Int32) (x1s : Int32) (s0 : g_St) {o : Int32 × g_St} (hm : m_Fix s0) (h : f_M_run_39 (some 1) x1 x2 (some 1) x1s s0 = some o) : z_W [1, 1089, 4929, 5377, 5441, 5633, 5889, 6017, 6337] [789, 853, 917, 981, 1045, 1109, 1173, 4116, 4180, 4244, 4308, 4372, 4436, 4500, 4564, 4628, 4692, 4756] s0 o.2 := by
  unfold f_M_run_39 at h
  have hs0 : z_W [1, 1089, 4929, 5377, 5441, 5633, 5889, 6017, 6337] [789, 853, 917, 981, 1045, 1109, 1173, 4116, 4180, 4244, 4308, 4372, 4436, 4500, 4564, 4628, 4692, 4756] s0 s0 := z_W.re
  refine fr_pI h (fun h => ?_)
  have hs1 := z_W.pI hs0 (k := 1) (by decide) x1s
  refine fr_gI h (fun i2 h => ?_)
  refine fr_if h (fun h => ?_) (fun h => ?_)
  · refine fr_pZ h (fun h => ?_)
    have hs2 := z_W.pI hs1 (k := 1089) (by decide) 0
    refine fr_pI h (fun h => ?_)
    have hs3 := z_W.pI hs2 (k := 5441) (by decide) x2
    refine fr_pI h (fun h => ?_)
    have hs4 := z_W.pI hs3 (k := 4929) (by decide) 0
    refine fr_pI h (fun h => ?_)
    have hs5 := z_W.pI hs4 (k := 5377) (by decide) 0
    exact hs5.trans (w_M_run_73 _ _ _ _ (hs5.fx hm) h)
  · exact fr_some h hs1
theorem w_M_run (x1 : Int32) (x2 : Int32) (s0 : g_St) {o : Int32 × g_St} (hm : m_Fix s0) (h : f_M_run (some 1) x1 x2 s0 = some o) : z_W [1, 1089, 4929, 5377, 5441, 5633, 5889, 6017, 6337] [789, 853, 917, 981, 1045, 1109, 1173, 4116, 4180, 4244, 4308, 4372, 4436, 4500, 4564, 4628, 4692, 4756] s0 o.2 := by
  unfold f_M_run at h
  have hs0 : z_W [1, 1089, 4929, 5377, 5441, 5633, 5889, 6017, 6337] [789, 853, 917, 981, 1045, 1109, 1173, 4116, 4180, 4244, 4308, 4372, 4436, 4500, 4564, 4628, 4692, 4756] s0 s0 := z_W.re
  refine fr_if h (fun h => ?_) (fun h => ?_)
  · exact hs0.trans (w_M_run_39 _ _ _ _ (hs0.fx hm) h)
  · refine fr_if h (fun h => ?_) (fun h => ?_)
    · exact hs0.trans (w_M_run_39 _ _ _ _ (hs0.fx hm) h)
    · refine fr_if h (fun h => ?_) (fun h => ?_)
      · exact hs0.trans (w_M_run_39 _ _ _ _ (hs0.fx hm) h)
      · refine fr_if h (fun h => ?_) (fun h => ?_)
        · refine fr_gI h (fun i1 h => ?_)
          refine fr_if h (fun h => ?_) (fun h => ?_)
          · exact hs0.trans (w_M_run_39 _ _ _ _ (hs0.fx hm) h)
          · exact hs0.trans (w_M_run_39 _ _ _ _ (hs0.fx hm) h)
        · exact hs0.trans (w_M_run_39 _ _ _ _ (hs0.fx hm) h)
theorem w_M_cell_37 (x1 : Int32) (x2 : Int32) (x1s : Int32) (s0 : g_St) {o : Int64 × g_St} (hm : m_Fix s0) (h : f_M_cell_37 (some 1) x1 x2 (some 1) x1s s0 = some o) : z_W [1] [] s0 o.2 := by
  unfold f_M_cell_37 at h
  have hs0 : z_W [1] [] s0 s0 := z_W.re
  refine fr_pI h (fun h => ?_)
  have hs1 := z_W.pI hs0 (k := 1) (by decide) x1s
  refine fr_gI h (fun i2 h => ?_)
  refine fr_if h (fun h => ?_) (fun h => ?_)
  · refine fr_gR (hs1.fx hm _ m_k5505).1 h (fun h => ?_)
    refine fr_gR (hs1.fx hm _ m_k5697).1 h (fun h => ?_)
    refine fr_aI h (fun i5 h => ?_)
    refine fr_aL h (fun j6 h => ?_)
    exact fr_some h hs1
  · exact fr_some h hs1
theorem w_M_cell (x1 : Int32) (x2 : Int32) (s0 : g_St) {o : Int64 × g_St} (hm : m_Fix s0) (h : f_M_cell (some 1) x1 x2 s0 = some o) : z_W [1] [] s0 o.2 := by
  unfold f_M_cell at h
  have hs0 : z_W [1] [] s0 s0 := z_W.re
  refine fr_gI h (fun i1 h => ?_)
  refine fr_if h (fun h => ?_) (fun h => ?_)
  · exact hs0.trans (w_M_cell_37 _ _ _ _ (hs0.fx hm) h)
  · refine fr_if h (fun h => ?_) (fun h => ?_)
    · exact hs0.trans (w_M_cell_37 _ _ _ _ (hs0.fx hm) h)
    · refine fr_gI h (fun i2 h => ?_)
      refine fr_if h (fun h => ?_) (fun h => ?_)
      · exact hs0.trans (w_M_cell_37 _ _ _ _ (hs0.fx hm) h)
      · refine fr_if h (fun h => ?_) (fun h => ?_)
        · exact hs0.trans (w_M_cell_37 _ _ _ _ (hs0.fx hm) h)
        · refine fr_gI h (fun i3 h => ?_)
          refine fr_if h (fun h => ?_) (fun h => ?_)
          · exact hs0.trans (w_M_cell_37 _ _ _ _ (hs0.fx hm) h)
          · exact hs0.trans (w_M_cell_37 _ _ _ _ (hs0.fx hm) h)
theorem w_M_size_25 (x1 : Int32) (x1s : Int32) (s0 : g_St) {o : Int32 × g_St} (hm : m_Fix s0) (h : f_M_size_25 (some 1) x1 (some 1) x1s s0 = some o) : z_W [1] [] s0 o.2 := by
  unfold f_M_size_25 at h
  have hs0 : z_W [1] [] s0 s0 := z_W.re
  refine fr_pI h (fun h => ?_)
  have hs1 := z_W.pI hs0 (k := 1) (by decide) x1s
  refine fr_gI h (fun i2 h => ?_)
  refine fr_if h (fun h => ?_) (fun h => ?_)
  · refine fr_gR (hs1.fx hm _ m_k5953).1 h (fun h => ?_)
    refine fr_aI h (fun i4 h => ?_)
    exact fr_some h hs1
  · exact fr_some h hs1
theorem w_M_size (x1 : Int32) (s0 : g_St) {o : Int32 × g_St} (hm : m_Fix s0) (h : f_M_size (some 1) x1 s0 = some o) : z_W [1] [] s0 o.2 := by
  unfold f_M_size at h
  have hs0 : z_W [1] [] s0 s0 := z_W.re
  refine fr_gI h (fun i1 h => ?_)
  refine fr_if h (fun h => ?_) (fun h => ?_)
  · exact hs0.trans (w_M_size_25 _ _ _ (hs0.fx hm) h)
  · refine fr_if h (fun h => ?_) (fun h => ?_)
    · exact hs0.trans (w_M_size_25 _ _ _ (hs0.fx hm) h)
    · refine fr_gI h (fun i2 h => ?_)
      refine fr_if h (fun h => ?_) (fun h => ?_)
      · exact hs0.trans (w_M_size_25 _ _ _ (hs0.fx hm) h)
      · exact hs0.trans (w_M_size_25 _ _ _ (hs0.fx hm) h)
theorem w_M_rounds_39 (x1 : Int32) (x2 : Int32) (x1s : Int32) (s0 : g_St) {o : Int32 × g_St} (hm : m_Fix s0) (h : f_M_rounds_39 (some 1) x1 x2 (some 1) x1s s0 = some o) : z_W [1] [] s0 o.2 := by
  unfold f_M_rounds_39 at h
  have hs0 : z_W [1] [] s0 s0 := z_W.re
  refine fr_pI h (fun h => ?_)
  have hs1 := z_W.pI hs0 (k := 1) (by decide) x1s
  refine fr_gI h (fun i2 h => ?_)
  refine fr_if h (fun h => ?_) (fun h => ?_)
  · refine fr_if h (fun h => ?_) (fun h => ?_)
    · refine fr_gR (hs1.fx hm _ m_k5761).1 h (fun h => ?_)
      refine fr_aI h (fun i6 h => ?_)
      exact fr_some h hs1
    · refine fr_gR (hs1.fx hm _ m_k5825).1 h (fun h => ?_)
      refine fr_aI h (fun i4 h => ?_)
      exact fr_some h hs1
  · exact fr_some h hs1
theorem w_M_rounds (x1 : Int32) (x2 : Int32) (s0 : g_St) {o : Int32 × g_St} (hm : m_Fix s0) (h : f_M_rounds (some 1) x1 x2 s0 = some o) : z_W [1] [] s0 o.2 := by
  unfold f_M_rounds at h
  have hs0 : z_W [1] [] s0 s0 := z_W.re
  refine fr_gI h (fun i1 h => ?_)
  refine fr_if h (fun h => ?_) (fun h => ?_)
  · exact hs0.trans (w_M_rounds_39 _ _ _ _ (hs0.fx hm) h)
  · refine fr_if h (fun h => ?_) (fun h => ?_)
    · exact hs0.trans (w_M_rounds_39 _ _ _ _ (hs0.fx hm) h)
    · refine fr_gI h (fun i2 h => ?_)
      refine fr_if h (fun h => ?_) (fun h => ?_)
      · exact hs0.trans (w_M_rounds_39 _ _ _ _ (hs0.fx hm) h)
      · refine fr_if h (fun h => ?_) (fun h => ?_)
        · exact hs0.trans (w_M_rounds_39 _ _ _ _ (hs0.fx hm) h)
        · refine fr_gR (hs0.fx hm _ m_k5761).1 h (fun h => ?_)
          refine fr_aI h (fun i4 h => ?_)
          refine fr_if h (fun h => ?_) (fun h => ?_)
          · exact hs0.trans (w_M_rounds_39 _ _ _ _ (hs0.fx hm) h)
          · exact hs0.trans (w_M_rounds_39 _ _ _ _ (hs0.fx hm) h)
