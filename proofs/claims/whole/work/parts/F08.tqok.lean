/-! THE QUERY AS THE RUN HAS IT: what no fault means for selections -/
def t_nm (nw : Nat → Nat) (x : z_Qu) (tc q k : Nat) : Bool := (z_srt ((x.2.1.getD q z_pa0).2.2.1.getD k z_se0)).any fun t => z_nown nw x tc q t
section
variable {pl nw : Nat → Nat} {vl : Nat → Int64} {x : z_Qu} {tc : Nat} {cols : Nat → Nat} {lv : Nat → Nat → Nat}
theorem t_cd_inr {srs : List Nat} {l : List z_Co} {i : Nat} (hi : i < l.length) {z : (Nat ⊕ Nat) × List r_Cp} (h : (l.map (t_co nw vl x tc cols srs)).getD i r_cd0 = .inr z) : ∃ z0 : Nat × List z_Bs, .inr z0 ∈ l ∧ l.getD i z_co0 = .inr z0 ∧ z = (t_mn nw x tc z0.1, z0.2.map (t_bs nw vl x tc cols srs (some z0.1))) := by
  rw [t_gd _ hi z_co0] at h
  have mem := z_getD_m (d := z_co0) hi
  cases hc : l.getD i z_co0 with
  | inl b => rw [hc] at h; cases h
  | inr z0 =>
    rw [hc] at h mem
    exact ⟨z0, mem, rfl, (Sum.inr.inj h).symm⟩
theorem t_qok (N : t_nf nw pl x tc cols) (h4 : x.2.1.length ≤ 4) : r_qok x.2.1.length (t_Xs nw x) (t_cp nw x tc) (t_ns x) (t_nm nw x tc) (t_nms nw vl x tc cols) (t_rec nw x tc) (t_ua x) (t_sl nw vl x tc cols lv) := by
  intro q k hq hk
  have hk' : k < (x.2.1.getD q z_pa0).2.2.1.length := hk
  obtain ⟨g1, g2⟩ := z_sels_get (x := x) hq hk'
  have sv : z_sv x (t_fs x q + k) = (q, (x.2.1.getD q z_pa0).2.2.1.getD k z_se0) := g1
  have hs : t_fs x q + k < (z_sels x).length := g2
  have mem := z_getD_m (d := z_se0) hk'
  have so := fun {sl : Option Nat} {t : Nat} (h : q_so ((x.2.1.getD q z_pa0).2.2.1.getD k z_se0) sl t) => t_nf_so N hs (sl := sl) (t := t) (by rw [sv]; exact h)
  have n5 := fun {sl : Option Nat} {t : Nat} (h : q_so ((x.2.1.getD q z_pa0).2.2.1.getD k z_se0) sl t) (hg : sl = none ∨ 0 < z_gc ((x.2.1.getD q z_pa0).2.2.1.getD k z_se0).2.1) => (by
    have := t_nf5 N hs (sl := sl) (t := t) (by rw [sv]; exact h) (by rw [sv]; exact hg)
    rw [sv] at this
    exact this : z_nown nw x tc q t = false)
  have ed := fun {t j : Nat} (ht : t ∈ z_srt ((x.2.1.getD q z_pa0).2.2.1.getD k z_se0)) (hm : z_mng nw x.2.1 tc t = some (.inl j)) => t_edge hq mem ht hm
  have e1 : (t_sl nw vl x tc cols lv q k).2.1 = t_ms nw x tc ((x.2.1.getD q z_pa0).2.2.1.getD k z_se0).2.2.1 := rfl
  have e2 : (t_sl nw vl x tc cols lv q k).2.2.1 = ((x.2.1.getD q z_pa0).2.2.1.getD k z_se0).2.2.2.map (t_co nw vl x tc cols ((x.2.1.getD q z_pa0).2.2.1.getD k z_se0).2.2.1) := rfl
  have e3 : (t_sl nw vl x tc cols lv q k).1 = t_its nw vl x tc cols ((x.2.1.getD q z_pa0).2.2.1.getD k z_se0).2.2.1 ((x.2.1.getD q z_pa0).2.2.1.getD k z_se0).2.1 := rfl
  have e4 : t_nm nw x tc q k = (z_srt ((x.2.1.getD q z_pa0).2.2.1.getD k z_se0)).any fun t => z_nown nw x tc q t := rfl
  have e5 : t_nms nw vl x tc cols q k = r_nmd (t_ms nw x tc ((x.2.1.getD q z_pa0).2.2.1.getD k z_se0).2.2.1) (((x.2.1.getD q z_pa0).2.2.1.getD k z_se0).2.2.2.map (t_co nw vl x tc cols ((x.2.1.getD q z_pa0).2.2.1.getD k z_se0).2.2.1)) q := rfl
  rw [e1, e2, e3, e4, e5]
  generalize (x.2.1.getD q z_pa0).2.2.1.getD k z_se0 = y at so n5 ed ⊢
  have l2 : (t_ms nw x tc y.2.2.1).length = y.2.2.1.length := List.length_map _
  have l3 : (y.2.2.2.map (t_co nw vl x tc cols y.2.2.1)).length = y.2.2.2.length := List.length_map _
  have ml : ∀ m, m < y.2.2.1.length → z_mng nw x.2.1 tc (y.2.2.1.getD m 0) = some (r_ml (t_ms nw x tc y.2.2.1) m) := fun m hm => by
    obtain ⟨mm, h⟩ := so (sl := some m) (t := y.2.2.1.getD m 0) ⟨hm, rfl⟩
    rw [t_ml hm, (t_mn_ok h).1, h]
  have cdm : ∀ i z, i < y.2.2.2.length → (y.2.2.2.map (t_co nw vl x tc cols y.2.2.1)).getD i r_cd0 = .inr z → ∃ t, q_so y none t ∧ z_mng nw x.2.1 tc t = some z.1 := fun i z hi hz => by
    obtain ⟨z0, z1, -, z2⟩ := t_cd_inr hi hz
    have hso : q_so y none z0.1 := ⟨.inr z0, z1, rfl⟩
    obtain ⟨mm, h⟩ := so hso
    refine ⟨z0.1, hso, ?_⟩
    rw [z2]
    show _ = some (t_mn nw x tc z0.1)
    rw [(t_mn_ok h).1, h]
  have srt : ∀ m, m < y.2.2.1.length → y.2.2.1.getD m 0 ∈ z_srt y := fun m hm => z_srt_m.mpr ⟨some m, hm, rfl⟩
  -- a source of the own component is counted
  have own1 : ∀ sl t j, q_so y sl t → z_mng nw x.2.1 tc t = some (.inl j) → t_cp nw x tc q = t_cp nw x tc j → z_nown nw x tc q t = true := fun sl t j h1 h2 h3 => t_nown h4 hq h2 h3 (ed (z_srt_m.mpr ⟨sl, h1⟩) h2)
  have ne : ∀ i z, i < y.2.2.2.length → (y.2.2.2.map (t_co nw vl x tc cols y.2.2.1)).getD i r_cd0 = .inr z → r_in (t_cp nw x tc) (some q) z.1 = false := fun i z hi hz => by
    obtain ⟨t, t1, t2⟩ := cdm i z hi hz
    cases hm : z.1 with
    | inr t' => rfl
    | inl j =>
      rw [hm] at t2
      refine decide_eq_false (fun hc => ?_)
      have := own1 none t j t1 t2 hc
      rw [n5 t1 (Or.inl rfl)] at this
      cases this
  have src : r_nmd (t_ms nw x tc y.2.2.1) (y.2.2.2.map (t_co nw vl x tc cols y.2.2.1)) q = true → ∃ m, m < y.2.2.1.length ∧ r_ml (t_ms nw x tc y.2.2.1) m = .inl q := fun h => by
    unfold r_nmd at h
    rw [Bool.or_eq_true, List.any_eq_true, List.any_eq_true, l2, l3] at h
    rcases h with ⟨m, h1, h2⟩ | ⟨i, h1, h2⟩
    · exact ⟨m, List.mem_range.mp h1, of_decide_eq_true h2⟩
    · exfalso
      have hi := List.mem_range.mp h1
      cases hc : (y.2.2.2.map (t_co nw vl x tc cols y.2.2.1)).getD i r_cd0 with
      | inl b => rw [hc] at h2; cases h2
      | inr z =>
        rw [hc] at h2
        have hz : z.1 = .inl q := of_decide_eq_true h2
        have := ne i z hi hc
        rw [hz] at this
        have t2 : decide (t_cp nw x tc q = t_cp nw x tc q) = false := this
        rw [decide_eq_true rfl] at t2
        cases t2
  refine ⟨fun hn m hm => ?_, fun i z hi hz => ne i z (by rw [l3] at hi; exact hi) hz, fun hsp hnm => ?_, fun hnm => ?_, fun hsp hnm => ?_⟩
  · rw [l2] at hm
    cases hr : r_ml (t_ms nw x tc y.2.2.1) m with
    | inr t' => rfl
    | inl j =>
      refine decide_eq_false (fun hc => ?_)
      have hm' := ml m hm
      rw [hr] at hm'
      have o := own1 (some m) _ j ⟨hm, rfl⟩ hm' hc
      rw [List.any_eq_false] at hn
      exact hn _ (srt m hm) o
  · obtain ⟨m, m1, m2⟩ := src hnm
    refine ⟨⟨m, by rw [l2]; exact m1, m2⟩, ?_⟩
    have hm' := ml m m1
    rw [m2] at hm'
    have o := own1 (some m) _ q ⟨m1, rfl⟩ hm' rfl
    have z0 : ¬ 0 < z_gc y.2.1 := fun hg => by
      rw [n5 (sl := some m) ⟨m1, rfl⟩ (Or.inr hg)] at o
      cases o
    have key : ∀ (l : List z_It), r_gc (t_its nw vl x tc cols y.2.2.1 l) = z_gc l := by
      intro l
      induction l with
      | nil => rfl
      | cons a l ih =>
        unfold z_gc r_gc t_its at ih ⊢
        rw [List.map_cons, List.map_cons, List.sum_cons, List.filter_cons, ← ih]
        by_cases g : a.1 = 0
        · rw [if_pos g, if_neg (by show ¬ decide (a.1 ≠ 0) = true; rw [g]; decide), Nat.zero_add]
        · rw [if_neg g, if_pos (show decide (a.1 ≠ 0) = true from decide_eq_true g), List.length_cons, Nat.add_comm]
    rw [key]
    omega
  · obtain ⟨m, m1, m2⟩ := src hnm
    have hm' := ml m m1
    rw [m2] at hm'
    rw [List.any_eq_true]
    exact ⟨_, srt m m1, own1 (some m) _ q ⟨m1, rfl⟩ hm' rfl⟩
  · rw [List.any_eq_true] at hnm
    obtain ⟨t, t1, t2⟩ := hnm
    rw [Bool.and_eq_true] at hsp
    obtain ⟨j, j1, j2, j3, j4, j5⟩ := t_nown' h4 t2
    have ej := (t_nf7 N h4 hq hsp.1 (Or.inl hsp.2)).1 j j2 j4.symm
    rw [ej] at j1
    unfold r_nmd
    rw [Bool.or_eq_true, List.any_eq_true, List.any_eq_true, l2, l3]
    obtain ⟨sl, hso⟩ := z_srt_m.mp t1
    cases sl with
    | some m =>
      obtain ⟨h1, h2⟩ := hso
      left
      refine ⟨m, List.mem_range.mpr h1, decide_eq_true ?_⟩
      have hm' := ml m h1
      rw [h2, j1] at hm'
      exact (Option.some.inj hm').symm
    | none =>
      exfalso
      rw [n5 hso (Or.inl rfl)] at t2
      cases t2
end
