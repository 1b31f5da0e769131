/-! PREPARING: the reference, whole -/
theorem t_b0 (u : g_St) (k : Nat) : ∀ F : g_St → Option (Int32 × g_St), g_pZ u k (some 1) 0 F = F (g_setI u k 1 0) := fun F => x_pZ false F
section
variable {g : g_St} {len : Nat} {T : Nat → Nat} {tc : Nat} {cols : Nat → Nat}
set_option maxHeartbeats 4000000 in
theorem b_prep (hqn : ∀ q, z_rr (z_kdT len T) (z_vlT len T) = .inr q → q ≤ z_n len T) (F : m_Fix g) (KW : z_kwOk g) (hT : ∀ j, j < len → T j < 256) (X : z_XM g len T) (h65 : g_I g 65 1 = Int32.ofNat tc) (tc5 : tc ≤ 5) (hcol : ∀ t, t < tc → g_AI g 916 t = Int32.ofNat (cols t) ∧ cols t ≤ 3) : ∃ g' a, a = t_flt (fun j => z_fo 256 (fun c => c) (z_nm len T j) 0) (z_pl len T) (z_kdT len T) (z_vlT len T) tc cols ∧ f_M_prepare (some 1) g = some (if a.isNone = true then Int32.ofNat (z_qry (z_kdT len T) (z_vlT len T)).2.1.length else 0, g') ∧ M_pe g' a ∧ g_I g' 321 1 = 0 ∧ g_I g' 1089 1 = 0 ∧ (a = none → z_qed (z_kdT len T) (z_vlT len T) = none ∧ ∃ C, M_ck (z_n len T) (z_kdT len T) (z_pl len T) (z_vlT len T) g' C (z_qry (z_kdT len T) (z_vlT len T)) tc cols ∧ M_all (z_n len T) (z_kdT len T) (fun j => z_fo 256 (fun c => c) (z_nm len T j) 0) g' C (z_qry (z_kdT len T) (z_vlT len T)) tc cols ∧ M_cs g' (fun j => z_fo 256 (fun c => c) (z_nm len T j) 0) (z_qry (z_kdT len T) (z_vlT len T)) tc) := by
  have l4 := X.2.1
  have H : z_H (z_n len T) (z_kdT len T) := z_Htok l4
  have NM := z_NMtok hT
  have hpl : ∀ i, i ≤ z_n len T → z_pl len T i ≤ 400 := fun i _ => Nat.le_trans z_pl_le l4
  obtain ⟨s13, e13⟩ : ∃ s, s = g_setI (g_setI (g_setI (g_setI (g_setI (g_setI (g_setI (g_setI (g_setI (g_setI (g_setI (g_setI (g_setI g 833 1 0) 897 1 0) 1025 1 0) 1089 1 0) 1153 1 0) 2177 1 0) 2817 1 0) 3009 1 0) 3073 1 0) 3585 1 0) 3841 1 0) 4353 1 0) 577 1 0 := ⟨_, rfl⟩
  have I13 : ∀ k, g_I s13 k 1 = if k ∈ [833, 897, 1025, 1089, 1153, 2177, 2817, 3009, 3073, 3585, 3841, 4353, 577] then 0 else g_I g k 1 := fun k => by
    rw [e13]
    simp only [x_I_I, List.mem_cons, List.not_mem_nil, or_false]
    by_cases h1 : k = 577; · simp [h1]
    by_cases h2 : k = 4353; · simp [h2]
    by_cases h3 : k = 3841; · simp [h3]
    by_cases h4 : k = 3585; · simp [h4]
    by_cases h5 : k = 3073; · simp [h5]
    by_cases h6 : k = 3009; · simp [h6]
    by_cases h7 : k = 2817; · simp [h7]
    by_cases h8 : k = 2177; · simp [h8]
    by_cases h9 : k = 1153; · simp [h9]
    by_cases h10 : k = 1089; · simp [h10]
    by_cases h11 : k = 1025; · simp [h11]
    by_cases h12 : k = 897; · simp [h12]
    by_cases h13 : k = 833; · simp [h13]
    simp [h1, h2, h3, h4, h5, h6, h7, h8, h9, h10, h11, h12, h13]
  have F13 : m_Fix s13 := by rw [e13]; exact F
  have A13 : ∀ a, g_AI s13 a = g_AI g a := fun a => by rw [e13]; rfl
  have X13 : z_XM s13 len T := ⟨by rw [I13, if_neg (by decide)]; exact X.1, X.2.1, fun i hi => by rw [A13]; exact X.2.2 i hi⟩
  have L13 : ∀ a, g_AL s13 a = g_AL g a := fun a => by rw [e13]; rfl
  have K13 : z_kwOk s13 := fun k h1 h2 => by rw [L13]; exact KW k h1 h2
  obtain ⟨s15, c1, c2, c3⟩ := m_scan hT X13 F13 K13
  have W15 := w_M_scan s13 F13 c1
  obtain ⟨s16, e16⟩ : ∃ s, s = g_setI s15 321 1 0 := ⟨_, rfl⟩
  have I16 : ∀ k, k ≠ 513 → k ≠ 321 → g_I s16 k 1 = g_I s13 k 1 := fun k h1 h2 => by
    rw [e16, x_I_I, if_neg (fun q => h2 q.1)]
    exact W15.2.2.2.2.2.2.2.1 k 1 (fun q => h1 (by simpa using q.2))
  have F15 : m_Fix s15 := W15.fx F13
  have F16 : m_Fix s16 := by rw [e16]; exact F15
  have tk16 : z_tkM s16 (z_n len T) (z_kdT len T) (z_pl len T) (z_vlT len T) := by rw [e16]; exact c2
  obtain ⟨s18, d1, d2, d3⟩ := b_qry (pl := z_pl len T) H (u := s16) ⟨F16, tk16, ⟨by rw [I16 _ (by decide) (by decide), I13, if_pos (by decide)], by rw [I16 _ (by decide) (by decide), I13, if_pos (by decide)]; rfl⟩, Nat.zero_le _⟩ (fun f hf => by
    have hf' : f = 1153 ∨ f = 2177 ∨ f = 2817 ∨ f = 3009 ∨ f = 3073 ∨ f = 3585 ∨ f = 3841 := by simpa [z_cf] using hf
    rcases hf' with e | e | e | e | e | e | e <;> (rw [e, I16 _ (by decide) (by decide), I13, if_pos (by decide)]; rfl)) (by rw [I16 _ (by decide) (by decide), I13, if_pos (by decide)])
  have W18 := w_M_readQuery s16 F16 d1
  have start : f_M_prepare (some 1) g = g_c (g_nn (some 1) (f_M_bad (some 1) s18)) fun i19 s20 => if i19 = 0 then f_M_prepare_87 200000 (some 1) 0 s20 else f_M_prepare_137 (some 1) s20 := by
    unfold f_M_prepare
    rw [x_pI, x_pI, t_b0, t_b0, x_pI, x_pI, x_pI, x_pI, x_pI, x_pI, x_pI, x_pI, x_pI, ← e13, x_nn, c1, x_c, x_pI, ← e16, x_nn, d1, x_c]
  have I18 : ∀ k, k ∉ [577, 833, 897, 1153, 2113, 2177, 2817, 3009, 3073, 3585, 3841, 4353, 4417] → g_I s18 k 1 = g_I s16 k 1 := fun k hk => W18.2.2.2.2.2.2.2.1 k 1 (fun q => hk q.2)
  have t321 : g_I s18 321 1 = 0 := by rw [I18 _ (by decide), e16, x_I_I, if_pos ⟨rfl, rfl⟩]
  have t1089 : g_I s18 1089 1 = 0 := by rw [I18 _ (by decide), I16 _ (by decide) (by decide), I13, if_pos (by decide)]
  rw [start]
  unfold t_flt
  cases hq : z_qed (z_kdT len T) (z_vlT len T) with
  | some q =>
    rw [hq] at d2
    obtain ⟨F18, tk18, ⟨st1, st2, st3⟩, qn⟩ := d2
    obtain ⟨m, hm⟩ := x_ofN (g_I s18 1153 1)
    have nt : M_nt s18 (some (1, z_pl len T q)) := ⟨st1, st2, Nat.le_refl 1, (show (1 : Nat) ≤ 8 by decide), hpl q qn⟩
    obtain ⟨u', f1, f2, f3⟩ := b_end nt hm
    refine ⟨u', some (1, z_pl len T q), rfl, ?_, f3, ?_, ?_, fun e => by cases e⟩
    · rw [x_nn]
      unfold f_M_bad
      rw [x_gI, st1, if_pos rfl, z_rZ1, x_c, if_neg (by decide)]
      unfold f_M_prepare_137
      rw [x_gI, st1, if_neg (by decide), f1]
      rfl
    · rw [f2.2.2.2.2.2.2.2.1 321 1 (by decide)]; exact t321
    · rw [f2.2.2.2.2.2.2.2.1 1089 1 (by decide)]; exact t1089
  | none =>
    rw [hq] at d2
    obtain ⟨F18, tk18, st1⟩ := d2
    have st1' : g_I s18 833 1 = 0 := st1
    obtain ⟨C, qu⟩ := d3 hq
    obtain ⟨q, W, hrr⟩ := z_qry_w hq
    have hqn := hqn q hrr
    have A18 : ∀ t, g_AI s18 916 t = g_AI g 916 t := fun t => by
      rw [(W18.2.2.2.2.2.2.2.2 916 (by decide)).1, e16]
      show g_AI s15 916 t = _
      rw [(W15.2.2.2.2.2.2.2.2 916 (by decide)).1, A13]
    have K : M_ck (z_n len T) (z_kdT len T) (z_pl len T) (z_vlT len T) s18 C (z_qry (z_kdT len T) (z_vlT len T)) tc cols := ⟨F18, tk18, qu, ⟨by rw [I18 _ (by decide), I16 _ (by decide) (by decide), I13, if_neg (by decide)]; exact h65, tc5, fun t ht => by rw [A18]; exact hcol t ht⟩⟩
    obtain ⟨u', f1, f2, f3, f4, f5, f6⟩ := b_chk NM H hpl K W hqn (show M_nt s18 none from st1')
    refine ⟨u', _, rfl, ?_, f3, ?_, ?_, fun e => ⟨rfl, C, f4, f5, f6 e⟩⟩
    · rw [x_nn]
      unfold f_M_bad
      rw [x_gI, st1', if_neg (by decide), show g_rZ 0 (some ((0 : Int32), s18)) = some (0, s18) from if_pos (Or.inl rfl), x_c, if_pos rfl, f1]
    · rw [f2.2.2.2.2.2.2.2.1 321 1 (by decide)]; exact t321
    · rw [f2.2.2.2.2.2.2.2.1 1089 1 (by decide)]; exact t1089
end
