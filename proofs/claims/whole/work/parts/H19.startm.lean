/-! THE START: the reference; what the law begins with -/
theorem n_lo {y : Int64} {x : Int32} {s : g_St} {o : Int64 × g_St} (h : f_M_longer y x s = some o) : o.2 = s := by
  unfold f_M_longer at h
  split at h
  · cases h; rfl
  · cases h; rfl
theorem n_cl {α : Type} {o : α} {s : g_St} {y : Int64} {x : Int32} {F : Int64 → g_St → Option α} (h : g_c (f_M_longer y x s) F = some o) : ∃ v, F v s = some o := by
  obtain ⟨v, s1, h1, h2⟩ := n_c h
  have e := n_lo h1
  have e' : s1 = s := e
  rw [e'] at h2
  exact ⟨v, h2⟩
theorem n_wd {s : g_St} {a : Nat} {x1 x2 x3 x4 x5 x6 x7 x8 x9 x10 : Int32} {o : Unit × g_St} (N : N_r s) (h : f_M_word (some a) x1 x2 x3 x4 x5 x6 x7 x8 x9 x10 s = some o) : N_q s o.2 := by
  have q : N_q s s := ⟨N, fun _ => Nat.le_refl _⟩
  unfold f_M_word at h
  obtain ⟨_, h⟩ := n_cl h
  obtain ⟨_, h⟩ := n_cl h
  obtain ⟨_, h⟩ := n_cl h
  obtain ⟨_, h⟩ := n_cl h
  obtain ⟨_, h⟩ := n_cl h
  obtain ⟨_, h⟩ := n_cl h
  rw [x_gR] at h
  obtain ⟨_, h⟩ := n_cl h
  obtain ⟨_, h⟩ := n_cl h
  obtain ⟨_, h⟩ := n_cl h
  obtain ⟨s1, q, h⟩ := n_L q h
  cases h
  exact q
theorem n_cw {α : Type} {o : α} {s0 s : g_St} {a : Nat} {x1 x2 x3 x4 x5 x6 x7 x8 x9 x10 : Int32} {F : Unit → g_St → Option α} (q : N_q s0 s) (h : g_c (g_nn (some a) (f_M_word (some a) x1 x2 x3 x4 x5 x6 x7 x8 x9 x10 s)) F = some o) : ∃ s', N_q s0 s' ∧ F () s' = some o := by
  obtain ⟨v, s1, h1, h2⟩ := n_c h
  exact ⟨s1, q.trans (n_wd q.1 (er_nn h1)), h2⟩
set_option maxHeartbeats 8000000 in
set_option maxRecDepth 10000 in
theorem n_M {s : g_St} {a : Nat} {o : Unit × g_St} (N : N_r s) (al : g_al s a) (ha : a % 64 ≤ 5) (h : f_M_init (some a) s = some o) : N_q s o.2 := by
  have q : N_q s s := ⟨N, fun _ => Nat.le_refl _⟩
  unfold f_M_init at h
  have h := er_nn h
  obtain ⟨_, s0, q, -, -, h⟩ := n_A q (by decide) h
  obtain ⟨s1, q, h⟩ := n_P q al ha h
  obtain ⟨_, s2, q, -, -, h⟩ := n_A q (by decide) h
  obtain ⟨s3, q, h⟩ := n_P q al ha h
  obtain ⟨_, s4, q, -, -, h⟩ := n_A q (by decide) h
  obtain ⟨s5, q, h⟩ := n_P q al ha h
  obtain ⟨_, s6, q, -, -, h⟩ := n_A q (by decide) h
  obtain ⟨s7, q, h⟩ := n_P q al ha h
  obtain ⟨_, s8, q, -, -, h⟩ := n_A q (by decide) h
  obtain ⟨s9, q, h⟩ := n_P q al ha h
  obtain ⟨_, s10, q, -, -, h⟩ := n_A q (by decide) h
  obtain ⟨s11, q, h⟩ := n_P q al ha h
  obtain ⟨_, s12, q, -, -, h⟩ := n_A q (by decide) h
  obtain ⟨s13, q, h⟩ := n_P q al ha h
  obtain ⟨_, s14, q, -, -, h⟩ := n_A q (by decide) h
  obtain ⟨s15, q, h⟩ := n_P q al ha h
  obtain ⟨_, s16, q, -, -, h⟩ := n_A q (by decide) h
  obtain ⟨s17, q, h⟩ := n_P q al ha h
  obtain ⟨_, s18, q, -, -, h⟩ := n_A q (by decide) h
  obtain ⟨s19, q, h⟩ := n_P q al ha h
  obtain ⟨_, s20, q, -, -, h⟩ := n_A q (by decide) h
  obtain ⟨s21, q, h⟩ := n_P q al ha h
  obtain ⟨_, s22, q, -, -, h⟩ := n_A q (by decide) h
  obtain ⟨s23, q, h⟩ := n_P q al ha h
  obtain ⟨_, s24, q, -, -, h⟩ := n_A q (by decide) h
  obtain ⟨s25, q, h⟩ := n_P q al ha h
  obtain ⟨_, s26, q, -, -, h⟩ := n_A q (by decide) h
  obtain ⟨s27, q, h⟩ := n_P q al ha h
  obtain ⟨_, s28, q, -, -, h⟩ := n_A q (by decide) h
  obtain ⟨s29, q, h⟩ := n_P q al ha h
  obtain ⟨_, s30, q, -, -, h⟩ := n_A q (by decide) h
  obtain ⟨s31, q, h⟩ := n_P q al ha h
  obtain ⟨_, s32, q, -, -, h⟩ := n_A q (by decide) h
  obtain ⟨s33, q, h⟩ := n_P q al ha h
  obtain ⟨_, s34, q, -, -, h⟩ := n_A q (by decide) h
  obtain ⟨s35, q, h⟩ := n_P q al ha h
  obtain ⟨_, s36, q, -, -, h⟩ := n_A q (by decide) h
  obtain ⟨s37, q, h⟩ := n_P q al ha h
  obtain ⟨_, s38, q, -, -, h⟩ := n_A q (by decide) h
  obtain ⟨s39, q, h⟩ := n_P q al ha h
  obtain ⟨_, s40, q, -, -, h⟩ := n_A q (by decide) h
  obtain ⟨s41, q, h⟩ := n_P q al ha h
  obtain ⟨_, s42, q, -, -, h⟩ := n_A q (by decide) h
  obtain ⟨s43, q, h⟩ := n_P q al ha h
  obtain ⟨_, s44, q, -, -, h⟩ := n_A q (by decide) h
  obtain ⟨s45, q, h⟩ := n_P q al ha h
  obtain ⟨_, s46, q, -, -, h⟩ := n_A q (by decide) h
  obtain ⟨s47, q, h⟩ := n_P q al ha h
  obtain ⟨_, s48, q, -, -, h⟩ := n_A q (by decide) h
  obtain ⟨s49, q, h⟩ := n_P q al ha h
  obtain ⟨_, s50, q, -, -, h⟩ := n_A q (by decide) h
  obtain ⟨s51, q, h⟩ := n_P q al ha h
  obtain ⟨_, s52, q, -, -, h⟩ := n_A q (by decide) h
  obtain ⟨s53, q, h⟩ := n_P q al ha h
  obtain ⟨_, s54, q, -, -, h⟩ := n_A q (by decide) h
  obtain ⟨s55, q, h⟩ := n_P q al ha h
  obtain ⟨_, s56, q, -, -, h⟩ := n_A q (by decide) h
  obtain ⟨s57, q, h⟩ := n_P q al ha h
  obtain ⟨_, s58, q, -, -, h⟩ := n_A q (by decide) h
  obtain ⟨s59, q, h⟩ := n_P q al ha h
  obtain ⟨_, s60, q, -, -, h⟩ := n_A q (by decide) h
  obtain ⟨s61, q, h⟩ := n_P q al ha h
  obtain ⟨_, s62, q, -, -, h⟩ := n_A q (by decide) h
  obtain ⟨s63, q, h⟩ := n_P q al ha h
  obtain ⟨_, s64, q, -, -, h⟩ := n_A q (by decide) h
  obtain ⟨s65, q, h⟩ := n_P q al ha h
  obtain ⟨_, s66, q, -, -, h⟩ := n_A q (by decide) h
  obtain ⟨s67, q, h⟩ := n_P q al ha h
  obtain ⟨_, s68, q, -, -, h⟩ := n_A q (by decide) h
  obtain ⟨s69, q, h⟩ := n_P q al ha h
  obtain ⟨_, s70, q, -, -, h⟩ := n_A q (by decide) h
  obtain ⟨s71, q, h⟩ := n_P q al ha h
  obtain ⟨_, s72, q, -, -, h⟩ := n_A q (by decide) h
  obtain ⟨s73, q, h⟩ := n_P q al ha h
  obtain ⟨_, s74, q, -, -, h⟩ := n_A q (by decide) h
  obtain ⟨s75, q, h⟩ := n_P q al ha h
  obtain ⟨_, s76, q, -, -, h⟩ := n_A q (by decide) h
  obtain ⟨s77, q, h⟩ := n_P q al ha h
  obtain ⟨_, s78, q, -, -, h⟩ := n_A q (by decide) h
  obtain ⟨s79, q, h⟩ := n_P q al ha h
  obtain ⟨_, s80, q, -, -, h⟩ := n_A q (by decide) h
  obtain ⟨s81, q, h⟩ := n_P q al ha h
  obtain ⟨_, s82, q, -, -, h⟩ := n_A q (by decide) h
  obtain ⟨s83, q, h⟩ := n_P q al ha h
  obtain ⟨_, s84, q, -, -, h⟩ := n_A q (by decide) h
  obtain ⟨s85, q, h⟩ := n_P q al ha h
  obtain ⟨_, s86, q, -, -, h⟩ := n_A q (by decide) h
  obtain ⟨s87, q, h⟩ := n_P q al ha h
  obtain ⟨_, s88, q, -, -, h⟩ := n_A q (by decide) h
  obtain ⟨s89, q, h⟩ := n_P q al ha h
  obtain ⟨_, s90, q, -, -, h⟩ := n_A q (by decide) h
  obtain ⟨s91, q, h⟩ := n_P q al ha h
  obtain ⟨_, s92, q, -, -, h⟩ := n_A q (by decide) h
  obtain ⟨s93, q, h⟩ := n_P q al ha h
  obtain ⟨_, s94, q, -, -, h⟩ := n_A q (by decide) h
  obtain ⟨s95, q, h⟩ := n_P q al ha h
  obtain ⟨_, s96, q, -, -, h⟩ := n_A q (by decide) h
  obtain ⟨s97, q, h⟩ := n_P q al ha h
  obtain ⟨_, s98, q, -, -, h⟩ := n_A q (by decide) h
  obtain ⟨s99, q, h⟩ := n_P q al ha h
  obtain ⟨_, s100, q, -, -, h⟩ := n_A q (by decide) h
  obtain ⟨s101, q, h⟩ := n_P q al ha h
  obtain ⟨_, s102, q, -, -, h⟩ := n_A q (by decide) h
  obtain ⟨s103, q, h⟩ := n_P q al ha h
  obtain ⟨_, s104, q, -, -, h⟩ := n_A q (by decide) h
  obtain ⟨s105, q, h⟩ := n_P q al ha h
  obtain ⟨_, s106, q, -, -, h⟩ := n_A q (by decide) h
  obtain ⟨s107, q, h⟩ := n_P q al ha h
  obtain ⟨_, s108, q, -, -, h⟩ := n_A q (by decide) h
  obtain ⟨s109, q, h⟩ := n_P q al ha h
  obtain ⟨_, s110, q, -, -, h⟩ := n_A q (by decide) h
  obtain ⟨s111, q, h⟩ := n_P q al ha h
  obtain ⟨_, s112, q, -, -, h⟩ := n_A q (by decide) h
  obtain ⟨s113, q, h⟩ := n_P q al ha h
  obtain ⟨_, s114, q, -, -, h⟩ := n_A q (by decide) h
  obtain ⟨s115, q, h⟩ := n_P q al ha h
  obtain ⟨_, s116, q, -, -, h⟩ := n_A q (by decide) h
  obtain ⟨s117, q, h⟩ := n_P q al ha h
  obtain ⟨_, s118, q, -, -, h⟩ := n_A q (by decide) h
  obtain ⟨s119, q, h⟩ := n_P q al ha h
  obtain ⟨_, s120, q, -, -, h⟩ := n_A q (by decide) h
  obtain ⟨s121, q, h⟩ := n_P q al ha h
  obtain ⟨_, s122, q, -, -, h⟩ := n_A q (by decide) h
  obtain ⟨s123, q, h⟩ := n_P q al ha h
  obtain ⟨_, s124, q, -, -, h⟩ := n_A q (by decide) h
  obtain ⟨s125, q, h⟩ := n_P q al ha h
  obtain ⟨_, s126, q, -, -, h⟩ := n_A q (by decide) h
  obtain ⟨s127, q, h⟩ := n_P q al ha h
  obtain ⟨_, s128, q, -, -, h⟩ := n_A q (by decide) h
  obtain ⟨s129, q, h⟩ := n_P q al ha h
  obtain ⟨_, s130, q, -, -, h⟩ := n_A q (by decide) h
  obtain ⟨s131, q, h⟩ := n_P q al ha h
  obtain ⟨_, s132, q, -, -, h⟩ := n_A q (by decide) h
  obtain ⟨s133, q, h⟩ := n_P q al ha h
  obtain ⟨_, s134, q, -, -, h⟩ := n_A q (by decide) h
  obtain ⟨s135, q, h⟩ := n_P q al ha h
  obtain ⟨_, s136, q, -, -, h⟩ := n_A q (by decide) h
  obtain ⟨s137, q, h⟩ := n_P q al ha h
  obtain ⟨_, s138, q, -, -, h⟩ := n_A q (by decide) h
  obtain ⟨s139, q, h⟩ := n_P q al ha h
  obtain ⟨_, s140, q, -, -, h⟩ := n_A q (by decide) h
  obtain ⟨s141, q, h⟩ := n_P q al ha h
  obtain ⟨_, s142, q, -, -, h⟩ := n_A q (by decide) h
  obtain ⟨s143, q, h⟩ := n_P q al ha h
  obtain ⟨_, s144, q, -, -, h⟩ := n_A q (by decide) h
  obtain ⟨s145, q, h⟩ := n_P q al ha h
  obtain ⟨_, s146, q, -, -, h⟩ := n_A q (by decide) h
  obtain ⟨s147, q, h⟩ := n_P q al ha h
  obtain ⟨s148, q, h⟩ := n_cw q h
  obtain ⟨s149, q, h⟩ := n_cw q h
  obtain ⟨s150, q, h⟩ := n_cw q h
  obtain ⟨s151, q, h⟩ := n_cw q h
  obtain ⟨s152, q, h⟩ := n_cw q h
  obtain ⟨s153, q, h⟩ := n_cw q h
  obtain ⟨s154, q, h⟩ := n_cw q h
  obtain ⟨s155, q, h⟩ := n_cw q h
  obtain ⟨s156, q, h⟩ := n_cw q h
  obtain ⟨s157, q, h⟩ := n_cw q h
  obtain ⟨s158, q, h⟩ := n_cw q h
  obtain ⟨s159, q, h⟩ := n_cw q h
  obtain ⟨s160, q, h⟩ := n_cw q h
  obtain ⟨s161, q, h⟩ := n_cw q h
  obtain ⟨s162, q, h⟩ := n_cw q h
  obtain ⟨s163, q, h⟩ := n_cw q h
  obtain ⟨s164, q, h⟩ := n_cw q h
  obtain ⟨s165, q, h⟩ := n_cw q h
  obtain ⟨s166, q, h⟩ := n_cw q h
  obtain ⟨s167, q, h⟩ := n_cw q h
  obtain ⟨s168, q, h⟩ := n_cw q h
  obtain ⟨s169, q, h⟩ := n_cw q h
  obtain ⟨s170, q, h⟩ := n_cw q h
  obtain ⟨s171, q, h⟩ := n_cw q h
  obtain ⟨s172, q, h⟩ := n_cw q h
  cases h
  exact q
theorem n_init {o : (Option Nat × Option Nat × Option Nat) × g_St} (h : z_init = some o) : N_r o.2 := by
  have q : N_q g_u0 g_u0 := ⟨fun k c hc => absurd rfl hc, fun _ => Nat.le_refl _⟩
  unfold z_init at h
  obtain ⟨x1, s1, q1, y1, z1, h⟩ := n_N q (by decide) h
  obtain ⟨_, s2, h1, h⟩ := n_c h
  have q2 := q1.trans (n_E q1.1 y1 (by omega) (er_nn h1))
  obtain ⟨x3, s3, q3, y3, z3, h⟩ := n_N q2 (by decide) h
  obtain ⟨_, s4, h1, h⟩ := n_c h
  have q4 := q3.trans (n_M q3.1 y3 (by omega) (er_nn h1))
  obtain ⟨x5, s5, q5, y5, z5, h⟩ := n_A q4 (by decide) h
  cases h
  exact q5.1
