/-! THE REFERENCE'S QUERY, KEPT -/
section
variable {n : Nat} {kd pl nw : Nat → Nat} {vl : Nat → Int64} {x : z_Qu} {tc : Nat} {cols : Nat → Nat} {w : g_St} {C : Nat → Nat}
theorem t_205m (Q : M_qu pl w C x) {q : Nat} (W : z_wqu kd q x) (hq : q ≤ n) : t_205 x := by
  obtain ⟨-, Q2⟩ := M_qu.sels Q
  have lim : z_lim C := Q.2.2.2.2.2.2.2.2.2.2
  have l5 : C 3073 ≤ 205 := lim.2.2.2.1
  have ex : ∀ e L, M_ex w (C 3073) e L → L.length ≤ 205 := fun e L h => by
    obtain ⟨o, h1, h2, h3, h4⟩ := h
    omega
  have cb : ∀ c bb p q, M_cb w (C 3073) (C 3009) c bb → z_wb kd p q bb → bb.1.length ≤ 205 ∧ bb.2.2.length ≤ 205 := fun c bb p q h h9 => by
    obtain ⟨⟨e1, b1, b2, b3⟩, b4⟩ := h
    refine ⟨ex _ _ b3, ?_⟩
    rcases b4 with ⟨c1, -⟩ | ⟨c1, c2, c3, e2, c4, c5, c6⟩
    · rcases h9.2.2.2 with ⟨-, z⟩ | ⟨z, -⟩
      · rw [z]; exact Nat.zero_le _
      · omega
    · exact ex _ _ c6
  intro s hs
  obtain ⟨se, -⟩ := Q2 s hs
  have se' : M_se pl w C s (z_sv x s).1 (z_sv x s).2 := se
  obtain ⟨p, r, hr, wf⟩ := z_sv_w W hq hs
  obtain ⟨wa, a, b, wi1, ws1, wc1⟩ := wf
  obtain ⟨a1, a2, a3, ⟨i0, a4, a5⟩, a6, a7, ⟨k0, a8, a9⟩, a10, a11, a12, a13, a14, a15⟩ := se'
  have co : ∀ c ∈ (z_sv x s).2.2.2.2, ∃ i, M_co w C i c := fun c hc => by
    obtain ⟨j, j1, j2⟩ := z_mgd (.inr (0, [])) hc
    obtain ⟨i, -, i2⟩ := a12 j j1
    rw [j2] at i2
    exact ⟨i, i2⟩
  refine ⟨fun it hit => ?_, fun bb hb => ?_, fun z hz bb hbb => ?_⟩
  · obtain ⟨p1, q1, p2, q2, wf1⟩ := wi1.all _ hit
    obtain ⟨j, j1, j2⟩ := z_mgd (0, []) hit
    have h1 : M_it w (C 3073) (C 3009) (i0 + j) _ := a5.2 j j1
    rw [j2] at h1
    rcases h1 with ⟨c1, c2, e, c3, c4, c5⟩ | ⟨c1, c2, c3⟩ | ⟨c1, c1', c2, e, c3, c4, c5⟩
    · exact ex _ _ c5
    · rcases wf1.2 with ⟨z, -⟩ | ⟨-, z⟩ | ⟨z, -⟩
      · omega
      · rw [z]; exact Nat.zero_le _
      · omega
    · exact ex _ _ c5
  · obtain ⟨p1, q1, p2, q2, wf1⟩ := wc1.all _ hb
    obtain ⟨i, i1, i2⟩ := co _ hb
    exact cb _ _ _ _ i2 wf1
  · obtain ⟨p1, q1, p2, q2, wf1⟩ := wc1.all _ hz
    obtain ⟨i, i1, i2⟩ := co _ hz
    have d4' : g_AI w 3284 i = 2 ∧ (∃ k, k < C 3585 ∧ g_AI w 3540 i = Int32.ofNat k ∧ M_so w k z.1) ∧ g_AI w 3604 i = Int32.ofNat z.2.length ∧ z.2.length ≤ 3 ∧ ∀ j, j < z.2.length → ∃ d, d < C 3841 ∧ g_AI w 3668 (3 * i + j) = Int32.ofNat d ∧ M_cb w (C 3073) (C 3009) d (z.2.getD j ([], 0, [])) := i2
    have wf2 : p1 ≤ z.1 ∧ kd z.1 = 36 ∧ kd (z.1 + 1) = 36 ∧ z_ch (z_wb kd) z.2 (z.1 + 2) q1 := wf1
    obtain ⟨p3, q3, p4, q4, wf3⟩ := wf2.2.2.2.all _ hbb
    obtain ⟨j, j1, j2⟩ := z_mgd ([], 0, []) hbb
    obtain ⟨d, -, -, d3⟩ := d4'.2.2.2.2 j j1
    rw [j2] at d3
    exact cb _ _ _ _ d3 wf3
end
/-- what no call but prepare changes of the reference -/
def M_LI : List Nat := [1, 65, 321, 1089, 4929, 5377, 5441, 5633, 5889, 6017, 6337]
def M_LA : List Nat := [916, 980, 597, 1044] ++ M_RA
def M_q (g : g_St) (n : Nat) (kd pl nw : Nat → Nat) (vl : Nat → Int64) (x : z_Qu) (tc : Nat) (cols : Nat → Nat) : Prop := ∃ C, z_tkM g n kd pl vl ∧ M_qu pl g C x ∧ M_all n kd nw g C x tc cols ∧ M_cs g nw x tc
theorem M_q.W {g g' : g_St} {n : Nat} {kd pl nw : Nat → Nat} {vl : Nat → Int64} {x : z_Qu} {tc : Nat} {cols : Nat → Nat} (h : M_q g n kd pl nw vl x tc cols) (w : z_W M_LI M_LA g g') : M_q g' n kd pl nw vl x tc cols := by
  obtain ⟨C, h1, h2, h3, h4, h5, h6, h7, h8⟩ := h
  refine ⟨C, h1.W w (by decide) (by decide) (by decide), h2.W w (by decide) (by decide), h3.W w (by decide), fun k hk => ?_, fun k hk => ?_, h6, ?_, h8⟩
  · rw [w.ai (by decide)]; exact h4 k hk
  · rw [w.ai (by decide)]; exact h5 k hk
  · rw [w.fi (by decide)]; exact h7
