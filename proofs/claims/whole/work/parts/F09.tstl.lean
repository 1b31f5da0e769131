/-! THE QUERY AS THE RUN HAS IT: what is known of selections -/
def q_tc (c : z_Co) (wi : Option Nat) (e : Bool × Nat × Nat) : Prop := match c with
  | .inl b => wi = none ∧ e ∈ b.1 ++ b.2.2
  | .inr z => wi = some z.1 ∧ ∃ bb ∈ z.2, e ∈ bb.1 ++ bb.2.2
/-- the levels of the conditions -/
def t_lvok (nw : Nat → Nat) (x : z_Qu) (lv : Nat → Nat → Nat) : Prop := ∀ s, s < (z_sels x).length → ∀ i, i < (z_sv x s).2.2.2.2.length → lv s i ≤ (z_sv x s).2.2.2.1.length ∧ ∀ wi e, q_tc ((z_sv x s).2.2.2.2.getD i z_co0) wi e → e.2.1 = 2 → ∀ sl, z_slt nw (z_sv x s).2.2.2.1 e.2.2 wi = some sl → sl ≠ 3 → sl < lv s i
section
variable {n : Nat} {kd pl nw nv : Nat → Nat} {wd vl : Nat → Int64} {x : z_Qu} {tc : Nat} {cols : Nat → Nat} {lv : Nat → Nat → Nat}
theorem t_WV (hw : ∀ k, k < x.2.1.length → (x.2.1.getD k z_pa0).2.1.length ≤ 3) (hcl : ∀ t, t < tc → cols t ≤ 3) {m : Nat ⊕ Nat} (hm : M_ok x.2.1.length tc m) {j : Nat} (h : r_W (t_Xs nw x) cols m j) : r_V (t_Xs nw x) cols m j ∧ j ≤ 3 := by
  cases m with
  | inl q =>
    have h' : j < (x.2.1.getD q z_pa0).2.1.length ∨ (j = 3 ∧ (t_Xs nw x q).2.2.1.isSome = true) := h
    have w3 := hw q hm
    rcases h' with g | g
    · exact ⟨Or.inl g, by omega⟩
    · exact ⟨Or.inr ⟨g.1, by unfold r_tr; rw [g.2, Bool.or_true]⟩, by omega⟩
  | inr t =>
    have h' : j < cols t := h
    have := hcl t hm
    exact ⟨h', by omega⟩
theorem t_us2 {srs : List Nat} {wi : Option Nat} (hw : ∀ k, k < x.2.1.length → (x.2.1.getD k z_pa0).2.1.length ≤ 3) (h3 : srs.length ≤ 3) {L : z_Ex} (h : t_kn nw x tc cols srs wi L) : r_us (fun k j => t_D nw x tc cols srs wi k j ∧ ∃ e ∈ L, e.2.1 = 2 ∧ z_slt nw srs e.2.2 wi = some k) (t_ex nw vl x tc cols srs wi L) := by
  have u := t_us (vl := vl) hw h3 h
  intro o ho k j hj
  refine ⟨u o ho k j hj, ?_⟩
  unfold t_ex at ho
  rw [List.mem_map] at ho
  obtain ⟨e, he, rfl⟩ := ho
  have hj' : (if e.2.1 = 2 then (Sum.inr ((z_slt nw srs e.2.2 wi).getD 0, (z_tcl nw x.2.1 tc cols srs wi e.2.2).getD 0) : Int64 ⊕ (Nat × Nat)) else .inl (if e.2.1 = 1 then r_N else vl e.2.2)) = .inr (k, j) := hj
  by_cases g : e.2.1 = 2
  · rw [if_pos g] at hj'
    obtain ⟨c, c1, c2⟩ := h e he g
    obtain ⟨sl, m, s1, -⟩ := t_term hw h3 c1 c2
    rw [s1, c1] at hj'
    have := (Prod.mk.inj (Sum.inr.inj hj')).1
    have e1 : sl = k := this
    exact ⟨e, he, g, by rw [s1, e1]⟩
  · rw [if_neg g] at hj'; cases hj'
theorem t_wsl (NM : z_NM n kd wd vl nw nv) (N : t_nf nw pl x tc cols) (hw : ∀ k, k < x.2.1.length → (x.2.1.getD k z_pa0).2.1.length ≤ 3) (hcl : ∀ t, t < tc → cols t ≤ 3) {q : Nat} (W : z_wqu kd q x) (hq : q ≤ n) (hlv : t_lvok nw x lv) {s : Nat} (hs : s < (z_sels x).length) (h3 : (z_sv x s).2.2.2.1.length ≤ 3) (h1 : 1 ≤ (z_sv x s).2.2.1.length) (cp : Nat → Nat) (pc : Option Nat) (hne : ∀ z0 : Nat × List z_Bs, .inr z0 ∈ (z_sv x s).2.2.2.2 → r_in cp pc (t_mn nw x tc z0.1) = false) : r_wsl x.2.1.length tc (t_Xs nw x) cp cols pc (t_sel nw vl x tc cols (lv s) (z_sv x s).2) ∧ ∀ i, i < (t_sel nw vl x tc cols (lv s) (z_sv x s).2).2.2.1.length → (t_sel nw vl x tc cols (lv s) (z_sv x s).2).2.2.2.1 i ≤ (t_sel nw vl x tc cols (lv s) (z_sv x s).2).2.1.length ∧ r_ucd (t_Xs nw x) cols (t_sel nw vl x tc cols (lv s) (z_sv x s).2).2.1 ((t_sel nw vl x tc cols (lv s) (z_sv x s).2).2.2.2.1 i) ((t_sel nw vl x tc cols (lv s) (z_sv x s).2).2.2.1.getD i r_cd0) := by
  have te := fun {wi : Option Nat} {e : Bool × Nat × Nat} (h : q_te (z_sv x s).2 wi e) => t_nf_te N hs h
  have so := fun {sl : Option Nat} {t : Nat} (h : q_so (z_sv x s).2 sl t) => t_nf_so N hs h
  have lvs := hlv s hs
  obtain ⟨p, r, hr, wf⟩ := z_sv_w W hq hs
  generalize (z_sv x s).2 = y at te so lvs wf h3 h1 hne ⊢
  obtain ⟨wa, a, b, wi1, ws1, wc1⟩ := wf
  have l1 : (t_its nw vl x tc cols y.2.2.1 y.2.1).length = y.2.1.length := List.length_map _
  have l2 : (t_ms nw x tc y.2.2.1).length = y.2.2.1.length := List.length_map _
  have l3 : (y.2.2.2.map (t_co nw vl x tc cols y.2.2.1)).length = y.2.2.2.length := List.length_map _
  have gd : ∀ j, j < y.2.1.length → (t_its nw vl x tc cols y.2.2.1 y.2.1).getD j r_it0 = ((y.2.1.getD j z_it0).1, t_ex nw vl x tc cols y.2.2.1 none (y.2.1.getD j z_it0).2) := fun j hj => t_gd (fun i : z_It => (i.1, t_ex nw vl x tc cols y.2.2.1 none i.2)) hj z_it0 r_it0
  have kni : ∀ j, j < y.2.1.length → t_kn nw x tc cols y.2.2.1 none (y.2.1.getD j z_it0).2 := fun j hj e he h2 => te (Or.inl ⟨rfl, _, z_getD_m (d := z_it0) hj, he⟩) h2
  have mok : ∀ k, k < y.2.2.1.length → M_ok x.2.1.length tc (r_ml (t_ms nw x tc y.2.2.1) k) := fun k hk => by
    obtain ⟨m, hm⟩ := so (sl := some k) (t := y.2.2.1.getD k 0) ⟨hk, rfl⟩
    rw [t_ml hk, (t_mn_ok hm).1]
    exact (t_mn_ok hm).2
  have cdn : ∀ i z, i < y.2.2.2.length → (y.2.2.2.map (t_co nw vl x tc cols y.2.2.1)).getD i r_cd0 = .inr z → r_in cp pc z.1 = false := fun i z hi hz => by
    obtain ⟨z0, z1, -, z2⟩ := t_cd_inr hi hz
    rw [z2]
    exact hne z0 z1
  refine ⟨⟨?_, ?_, fun k hk => ?_, fun m hm hk => ?_, fun hrk m hm hk => ?_, fun i z hi hz => cdn i z (by rw [show (t_sel nw vl x tc cols (lv s) y).2.2.1.length = y.2.2.2.length from l3] at hi; exact hi) hz⟩, fun i hi => ?_⟩
  · show 1 ≤ (t_its nw vl x tc cols y.2.2.1 y.2.1).length
    rw [l1]; exact h1
  · show (t_ms nw x tc y.2.2.1).length ≤ 3
    rw [l2]; exact h3
  · have hk' : k < y.2.2.1.length := by
      rw [show (t_sel nw vl x tc cols (lv s) y).2.1.length = y.2.2.1.length from l2] at hk; exact hk
    have mk := mok k hk'
    refine ⟨fun q hq => ?_, fun t ht => ?_⟩
    · have hq' : r_ml (t_ms nw x tc y.2.2.1) k = .inl q := hq
      rw [hq'] at mk; exact mk
    · have ht' : r_ml (t_ms nw x tc y.2.2.1) k = .inr t := ht
      rw [ht'] at mk; exact mk
  · have hm' : m < y.2.1.length := by
      rw [show (t_sel nw vl x tc cols (lv s) y).1.length = y.2.1.length from l1] at hm; exact hm
    show r_us (fun k j => k < (t_ms nw x tc y.2.2.1).length ∧ r_V (t_Xs nw x) cols (r_ml (t_ms nw x tc y.2.2.1) k) j ∧ j ≤ 3) ((t_its nw vl x tc cols y.2.2.1 y.2.1).getD m r_it0).2
    rw [gd m hm']
    refine (t_us (vl := vl) (wi := none) hw h3 (kni m hm')).mono (fun k j h => ?_)
    have h' : k < 3 ∧ M_dd (t_Xs nw x) cols (t_ms nw x tc y.2.2.1) k j := h
    obtain ⟨v1, v2⟩ := t_WV hw hcl (mok k (by rw [← l2]; exact h'.2.1)) h'.2.2
    exact ⟨h'.2.1, v1, v2⟩
  · have hm' : m < y.2.1.length := by
      rw [show (t_sel nw vl x tc cols (lv s) y).1.length = y.2.1.length from l1] at hm; exact hm
    have hk' : ((t_its nw vl x tc cols y.2.2.1 y.2.1).getD m r_it0).1 = 0 := hk
    rw [gd m hm'] at hk'
    have hk2 : (y.2.1.getD m z_it0).1 = 0 := hk'
    show ∃ o, ((t_its nw vl x tc cols y.2.2.1 y.2.1).getD m r_it0).2 = [o] ∧ _
    rw [gd m hm']
    show ∃ o, t_ex nw vl x tc cols y.2.2.1 none (y.2.1.getD m z_it0).2 = [o] ∧ o.1 = false ∧ ∀ v, o.2 = .inl v → r_oor v = false
    have hrk' : z_rk y.2.1 = false := hrk
    obtain ⟨p1, q1, p2, q2, wf1⟩ := wi1.all _ (z_getD_m (d := z_it0) hm')
    have len1 : (y.2.1.getD m z_it0).2.length ≤ 1 := by
      unfold z_rk at hrk'
      rw [List.any_eq_false] at hrk'
      have := hrk' _ (z_getD_m (d := z_it0) hm')
      rw [decide_eq_true hk2, Bool.true_and] at this
      have t2 : ¬ 1 < (y.2.1.getD m z_it0).2.length := fun z => this (decide_eq_true z)
      omega
    obtain ⟨w1, w2⟩ := wf1
    generalize (y.2.1.getD m z_it0) = it at hk2 len1 w1 w2 ⊢
    obtain ⟨ik, il⟩ := it
    have w3 : 1 ≤ il.length ∧ (il.getD 0 (false, 0, 0)).1 = false := by
      have hk3 : ik = 0 := hk2
      rcases w2 with ⟨-, z2, z3⟩ | ⟨z1, -⟩ | ⟨z1, -, -⟩
      · exact ⟨z2, z3⟩
      · have : ik = 20 := z1; omega
      · have : 21 ≤ ik := z1; omega
    cases il with
    | nil => exact absurd w3.1 (by decide)
    | cons e l =>
      cases l with
      | cons e2 l =>
        have : (e :: e2 :: l).length = l.length + 2 := rfl
        have len2 : (e :: e2 :: l).length ≤ 1 := len1
        omega
      | nil =>
        refine ⟨t_op nw vl x tc cols y.2.2.1 none e, rfl, w3.2, fun v hv => ?_⟩
        have hv' : (if e.2.1 = 2 then (Sum.inr ((z_slt nw y.2.2.1 e.2.2 none).getD 0, (z_tcl nw x.2.1 tc cols y.2.2.1 none e.2.2).getD 0) : Int64 ⊕ (Nat × Nat)) else .inl (if e.2.1 = 1 then r_N else vl e.2.2)) = .inl v := hv
        by_cases g : e.2.1 = 2
        · rw [if_pos g] at hv'; cases hv'
        · rw [if_neg g] at hv'
          have hv2 := Sum.inl.inj hv'
          rw [← hv2]
          by_cases g1 : e.2.1 = 1
          · rw [if_pos g1]; exact r_oor_N
          · rw [if_neg g1]
            have wo := w1 e (List.mem_singleton.mpr rfl)
            have kd37 : kd e.2.2 = 37 := by
              rcases wo.2.2 with z | z | z
              · exact z.2
              · exact absurd z.1 g1
              · exact absurd z.1 g
            have ab : a ≤ n := by
              have := ws1.le
              have := wc1.le
              omega
            obtain ⟨n1, m', n2, n3⟩ := NM.2.2.2.2 e.2.2 (by have := wo.2.1; omega) kd37
            rw [← n1, n3]
            exact r_oor_n (by omega)
  · have hi' : i < y.2.2.2.length := by
      rw [show (t_sel nw vl x tc cols (lv s) y).2.2.1.length = y.2.2.2.length from l3] at hi; exact hi
    obtain ⟨v1, v2⟩ := lvs i hi'
    have mem := z_getD_m (d := z_co0) hi'
    refine ⟨by show lv s i ≤ (t_ms nw x tc y.2.2.1).length; rw [l2]; exact v1, ?_⟩
    show r_ucd (t_Xs nw x) cols (t_ms nw x tc y.2.2.1) (lv s i) ((y.2.2.2.map (t_co nw vl x tc cols y.2.2.1)).getD i r_cd0)
    rw [t_gd _ hi' z_co0]
    generalize y.2.2.2.getD i z_co0 = cc at v2 mem ⊢
    cases cc with
    | inl bb =>
      have kn : t_kn nw x tc cols y.2.2.1 none (bb.1 ++ bb.2.2) := fun e he h2 => te (Or.inr (Or.inl ⟨bb, mem, rfl, he⟩)) h2
      have go : ∀ L : z_Ex, (∀ e ∈ L, e ∈ bb.1 ++ bb.2.2) → r_us (fun k j => k < lv s i ∧ r_V (t_Xs nw x) cols (r_ml (t_ms nw x tc y.2.2.1) k) j ∧ j ≤ 3) (t_ex nw vl x tc cols y.2.2.1 none L) := fun L hL => by
        refine (t_us2 (vl := vl) (wi := none) hw h3 (fun e he => kn e (hL e he))).mono (fun k j h => ?_)
        obtain ⟨hd, e, he, h2, hsl⟩ := h
        have h' : k < 3 ∧ M_dd (t_Xs nw x) cols (t_ms nw x tc y.2.2.1) k j := hd
        obtain ⟨u1, u2⟩ := t_WV hw hcl (mok k (by rw [← l2]; exact h'.2.1)) h'.2.2
        exact ⟨v2 none e ⟨rfl, hL e he⟩ h2 k hsl (by omega), u1, u2⟩
      exact ⟨go bb.1 (fun e he => List.mem_append_left _ he), fun _ => go bb.2.2 (fun e he => List.mem_append_right _ he)⟩
    | inr z =>
      intro b0 hb0
      have hb' : b0 ∈ z.2.map (t_bs nw vl x tc cols y.2.2.1 (some z.1)) := hb0
      rw [List.mem_map] at hb'
      obtain ⟨bb, hbb, rfl⟩ := hb'
      have kn : t_kn nw x tc cols y.2.2.1 (some z.1) (bb.1 ++ bb.2.2) := fun e he h2 => te (Or.inr (Or.inr ⟨z, mem, rfl, bb, hbb, he⟩)) h2
      obtain ⟨mz, hmz⟩ := so (sl := none) (t := z.1) ⟨.inr z, mem, rfl⟩
      have mzok : M_ok x.2.1.length tc (t_mn nw x tc z.1) := by
        rw [(t_mn_ok hmz).1]; exact (t_mn_ok hmz).2
      have go : ∀ L : z_Ex, (∀ e ∈ L, e ∈ bb.1 ++ bb.2.2) → r_us (fun k j => ((k < lv s i ∧ r_V (t_Xs nw x) cols (r_ml (t_ms nw x tc y.2.2.1) k) j) ∨ (k = 3 ∧ r_V (t_Xs nw x) cols (t_mn nw x tc z.1) j)) ∧ j ≤ 3) (t_ex nw vl x tc cols y.2.2.1 (some z.1) L) := fun L hL => by
        refine (t_us2 (vl := vl) (wi := some z.1) hw h3 (fun e he => kn e (hL e he))).mono (fun k j h => ?_)
        obtain ⟨hd, e, he, h2, hsl⟩ := h
        have h' : (k < 3 ∧ M_dd (t_Xs nw x) cols (t_ms nw x tc y.2.2.1) k j) ∨ (k = 3 ∧ r_W (t_Xs nw x) cols (t_mn nw x tc z.1) j) := hd
        rcases h' with ⟨k1, k2⟩ | ⟨k1, k2⟩
        · obtain ⟨u1, u2⟩ := t_WV hw hcl (mok k (by rw [← l2]; exact k2.1)) k2.2
          exact ⟨Or.inl ⟨v2 (some z.1) e ⟨rfl, bb, hbb, hL e he⟩ h2 k hsl (by omega), u1⟩, u2⟩
        · obtain ⟨u1, u2⟩ := t_WV hw hcl mzok k2
          exact ⟨Or.inr ⟨k1, u1⟩, u2⟩
      exact ⟨go bb.1 (fun e he => List.mem_append_left _ he), fun _ => go bb.2.2 (fun e he => List.mem_append_right _ he)⟩
end
