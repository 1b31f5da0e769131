/-! THE QUERY AS THE RUN HAS IT: all selections -/
section
variable {n : Nat} {kd pl nw nv : Nat → Nat} {wd vl : Nat → Int64} {x : z_Qu} {tc : Nat} {cols : Nat → Nat} {lv : Nat → Nat → Nat}
theorem t_trd {q : Nat} : r_tr (t_Xs nw x q) = z_trd (x.2.1.getD q z_pa0) := by
  unfold r_tr z_trd
  show (((x.2.1.getD q z_pa0).2.2.2.2.1.map _).isSome || ((x.2.1.getD q z_pa0).2.2.2.2.2.map _).isSome) = _
  rw [Option.isSome_map, Option.isSome_map]
theorem t_gcz (srs : List Nat) (l : List z_It) : r_gc (t_its nw vl x tc cols srs l) = z_gc l := by
  induction l with
  | nil => rfl
  | cons a l ih =>
    unfold z_gc r_gc t_its at ih ⊢
    rw [List.map_cons, List.map_cons, List.sum_cons, List.filter_cons, ← ih]
    by_cases g : a.1 = 0
    · rw [if_pos g, if_neg (by show ¬ decide (a.1 ≠ 0) = true; rw [g]; decide), Nat.zero_add]
    · rw [if_neg g, if_pos (show decide (a.1 ≠ 0) = true from decide_eq_true g), List.length_cons, Nat.add_comm]
theorem t_wd {q : Nat} (N : t_nf nw pl x tc cols) {m k : Nat} (hm : m < x.2.1.length) (hk : k < (x.2.1.getD m z_pa0).2.2.1.length) (W : z_wqu kd q x) : ((x.2.1.getD m z_pa0).2.2.1.getD k z_se0).2.1.length = (x.2.1.getD m z_pa0).2.1.length ∧ 1 ≤ (x.2.1.getD m z_pa0).2.1.length := by
  refine ⟨?_, ?_⟩
  · by_cases g : ((x.2.1.getD m z_pa0).2.2.1.getD k z_se0).2.1.length = (x.2.1.getD m z_pa0).2.1.length
    · exact g
    · exact absurd (Or.inr (Or.inr (Or.inl ⟨rfl, m, hm, k, hk, g, rfl⟩))) (N 3 (pl ((x.2.1.getD m z_pa0).2.2.1.getD k z_se0).1) (by decide) (by decide))
  · obtain ⟨a, b, h1, h2, h3, h4, h5⟩ := W
    obtain ⟨p1, q1, g1, g2, g3⟩ := h1.all _ (z_getD_m (d := z_pa0) hm)
    obtain ⟨w1, w2, a', b', d', c1, c2, c3, c4, c5, c6⟩ := g3
    exact c5
theorem t_fl {q : Nat} (W : z_wqu kd q x) : ∀ m, m < x.2.1.length → (x.2.1.getD m z_pa0).2.2.2.1.length + 1 = (x.2.1.getD m z_pa0).2.2.1.length := fun m hm => by
  obtain ⟨a, b, h1, h2, h3, h4, h5⟩ := W
  obtain ⟨p1, q1, g1, g2, g3⟩ := h1.all _ (z_getD_m (d := z_pa0) hm)
  obtain ⟨w1, w2, a', b', d', c1, c2, c3, c4, c5, c6⟩ := g3
  exact c6
theorem t_stl (NM : z_NM n kd wd vl nw nv) (N : t_nf nw pl x tc cols) (h4 : x.2.1.length ≤ 4) (hw : ∀ k, k < x.2.1.length → (x.2.1.getD k z_pa0).2.1.length ≤ 3) (hcl : ∀ t, t < tc → cols t ≤ 3) {q : Nat} (W : z_wqu kd q x) (hq : q ≤ n) (hlv : t_lvok nw x lv) (h3 : ∀ s, s < (z_sels x).length → (z_sv x s).2.2.2.1.length ≤ 3) : r_stl x.2.1.length tc (t_Xs nw x) (t_cp nw x tc) cols (t_ns x) (t_sl nw vl x tc cols lv) := by
  refine ⟨fun q' k hq' hk => ?_, fun p q' hp hq' hc hcy => ?_⟩
  · have hk' : k < (x.2.1.getD q' z_pa0).2.2.1.length := hk
    obtain ⟨g1, g2⟩ := z_sels_get (x := x) hq' hk'
    have sv : z_sv x (t_fs x q' + k) = (q', (x.2.1.getD q' z_pa0).2.2.1.getD k z_se0) := g1
    have hs : t_fs x q' + k < (z_sels x).length := g2
    have Qk := t_qok (vl := vl) (lv := lv) N h4 q' k hq' hk
    obtain ⟨wd1, wd2⟩ := t_wd N hq' hk' W
    have mem := z_getD_m (d := z_se0) hk'
    have wl := t_wsl (vl := vl) (lv := lv) NM N hw hcl W hq hlv hs (h3 _ hs) (by rw [sv]; show 1 ≤ ((x.2.1.getD q' z_pa0).2.2.1.getD k z_se0).2.1.length; omega) (t_cp nw x tc) (some q') (fun z0 hz0 => by
      rw [sv] at hz0
      have hz1 : (.inr z0 : z_Co) ∈ ((x.2.1.getD q' z_pa0).2.2.1.getD k z_se0).2.2.2 := hz0
      obtain ⟨i, i1, i2⟩ := z_mgd z_co0 hz1
      have := Qk.2.1 i (t_mn nw x tc z0.1, z0.2.map (t_bs nw vl x tc cols ((x.2.1.getD q' z_pa0).2.2.1.getD k z_se0).2.2.1 (some z0.1))) (by show i < (List.map _ _).length; rw [List.length_map]; exact i1) (by
        show (List.map _ _).getD i r_cd0 = _
        rw [t_gd _ i1 z_co0, i2]
        rfl)
      exact this)
    rw [sv] at wl
    obtain ⟨wl1, wl2⟩ := wl
    have own : ∀ m, m < ((x.2.1.getD q' z_pa0).2.2.1.getD k z_se0).2.2.1.length → r_ml (t_ms nw x tc ((x.2.1.getD q' z_pa0).2.2.1.getD k z_se0).2.2.1) m = .inl q' → z_nown nw x tc q' (((x.2.1.getD q' z_pa0).2.2.1.getD k z_se0).2.2.1.getD m 0) = true := fun m hm he => by
      obtain ⟨mm, hmm⟩ := t_nf_so N hs (sl := some m) (t := ((x.2.1.getD q' z_pa0).2.2.1.getD k z_se0).2.2.1.getD m 0) (by rw [sv]; exact ⟨hm, rfl⟩)
      have e := he
      rw [t_ml hm, (t_mn_ok hmm).1] at e
      rw [e] at hmm
      exact t_nown h4 hq' hmm rfl (t_edge hq' mem (z_srt_m.mpr ⟨some m, hm, rfl⟩) hmm)
    have l2 : (t_ms nw x tc ((x.2.1.getD q' z_pa0).2.2.1.getD k z_se0).2.2.1).length = ((x.2.1.getD q' z_pa0).2.2.1.getD k z_se0).2.2.1.length := List.length_map _
    refine ⟨wl1, ?_, fun hg ht m hm he => ?_, wl2, fun ht m m' hm hm' he he' => ?_⟩
    · show (List.map _ _).length = (x.2.1.getD q' z_pa0).2.1.length
      rw [List.length_map]; exact wd1
    · have hm2 : m < ((x.2.1.getD q' z_pa0).2.2.1.getD k z_se0).2.2.1.length := by
        have hm3 : m < (t_ms nw x tc ((x.2.1.getD q' z_pa0).2.2.1.getD k z_se0).2.2.1).length := hm
        rw [l2] at hm3; exact hm3
      have o := own m hm2 he
      have hg2 : 0 < z_gc ((x.2.1.getD q' z_pa0).2.2.1.getD k z_se0).2.1 := by
        have hg3 : r_gc (t_its nw vl x tc cols ((x.2.1.getD q' z_pa0).2.2.1.getD k z_se0).2.2.1 ((x.2.1.getD q' z_pa0).2.2.1.getD k z_se0).2.1) ≠ 0 := hg
        rw [t_gcz] at hg3
        omega
      have := t_nf5 N hs (sl := some m) (t := ((x.2.1.getD q' z_pa0).2.2.1.getD k z_se0).2.2.1.getD m 0) (by rw [sv]; exact ⟨hm2, rfl⟩) (by rw [sv]; exact Or.inr hg2)
      rw [sv] at this
      have t2 : z_nown nw x tc q' (((x.2.1.getD q' z_pa0).2.2.1.getD k z_se0).2.2.1.getD m 0) = false := this
      rw [o] at t2; cases t2
    · have hm2 : m < ((x.2.1.getD q' z_pa0).2.2.1.getD k z_se0).2.2.1.length := by
        have hm3 : m < (t_ms nw x tc ((x.2.1.getD q' z_pa0).2.2.1.getD k z_se0).2.2.1).length := hm
        rw [l2] at hm3; exact hm3
      have hm2' : m' < ((x.2.1.getD q' z_pa0).2.2.1.getD k z_se0).2.2.1.length := by
        have hm3 : m' < (t_ms nw x tc ((x.2.1.getD q' z_pa0).2.2.1.getD k z_se0).2.2.1).length := hm'
        rw [l2] at hm3; exact hm3
      rw [t_trd] at ht
      have no := (t_nf7 N h4 hq' (t_nf8 N hq' ht) (Or.inr ht)).2 k hk'
      have o := own m hm2 he
      have o' := own m' hm2' he'
      have gs : ∀ j, j < ((x.2.1.getD q' z_pa0).2.2.1.getD k z_se0).2.2.1.length → (z_srt ((x.2.1.getD q' z_pa0).2.2.1.getD k z_se0)).getD j 0 = ((x.2.1.getD q' z_pa0).2.2.1.getD k z_se0).2.2.1.getD j 0 := fun j hj => by
        unfold z_srt
        rw [z_gd_l hj]
      have ls : ((x.2.1.getD q' z_pa0).2.2.1.getD k z_se0).2.2.1.length ≤ (z_srt ((x.2.1.getD q' z_pa0).2.2.1.getD k z_se0)).length := by
        unfold z_srt
        rw [List.length_append]
        omega
      by_cases e : m = m'
      · exact e
      · exfalso
        by_cases l : m < m'
        · exact no ⟨m, m', l, by omega, by rw [gs m hm2]; exact o, by rw [gs m' hm2']; exact o'⟩
        · exact no ⟨m', m, by omega, by omega, by rw [gs m' hm2']; exact o', by rw [gs m hm2]; exact o⟩
  · have ht : z_trd (x.2.1.getD q' z_pa0) = true := by
      rw [← t_trd (nw := nw)]
      unfold r_tr
      rw [hcy, Bool.or_true]
    exact (t_nf7 N h4 hq' (t_nf8 N hq' ht) (Or.inr ht)).1 p hp hc
end
