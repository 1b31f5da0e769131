/-! THE QUERY AS THE RUN HAS IT: selections of the reference -/
/-- there is no fault -/
def t_nf (nw pl : Nat → Nat) (x : z_Qu) (tc : Nat) (cols : Nat → Nat) : Prop := ∀ num y, 2 ≤ num → num ≤ 8 → ¬ z_fl nw pl x tc cols num y
theorem t_nf_te {nw pl : Nat → Nat} {x : z_Qu} {tc : Nat} {cols : Nat → Nat} (N : t_nf nw pl x tc cols) {s : Nat} (hs : s < (z_sels x).length) {wi : Option Nat} {e : Bool × Nat × Nat} (h : q_te (z_sv x s).2 wi e) (h2 : e.2.1 = 2) : ∃ c, z_tcl nw x.2.1 tc cols (z_sv x s).2.2.2.1 wi e.2.2 = some c ∧ c ≠ 4 := by
  have hn := N 2 (pl e.2.2) (by decide) (by decide)
  have hb : ¬ z_tbad false (z_tcl nw x.2.1 tc cols (z_sv x s).2.2.2.1 wi e.2.2) = true := fun hb => hn (Or.inl ⟨rfl, Or.inr (Or.inr (Or.inl ⟨false, s, wi, e.2.2, Or.inl ⟨rfl, hs, e, h, h2, rfl⟩, hb, rfl⟩))⟩)
  cases hc : z_tcl nw x.2.1 tc cols (z_sv x s).2.2.2.1 wi e.2.2 with
  | none => rw [hc] at hb; exact absurd rfl hb
  | some c =>
    rw [hc] at hb
    refine ⟨c, rfl, fun e4 => hb ?_⟩
    rw [e4]
    rfl
theorem t_nf_so {nw pl : Nat → Nat} {x : z_Qu} {tc : Nat} {cols : Nat → Nat} (N : t_nf nw pl x tc cols) {s : Nat} (hs : s < (z_sels x).length) {sl : Option Nat} {t : Nat} (h : q_so (z_sv x s).2 sl t) : ∃ m, z_mng nw x.2.1 tc t = some m := by
  have hn := N 2 (pl t) (by decide) (by decide)
  cases hm : z_mng nw x.2.1 tc t with
  | some m => exact ⟨m, rfl⟩
  | none =>
    exact absurd (Or.inl ⟨rfl, Or.inr (Or.inl ⟨s, sl, t, hs, h, Or.inl ⟨by rw [hm]; rfl, rfl⟩⟩)⟩) hn
theorem r_us.mono {D D' : Nat → Nat → Prop} {L : List r_Op} (h : r_us D L) (hd : ∀ k j, D k j → D' k j) : r_us D' L := fun o ho k j hj => hd k j (h o ho k j hj)
theorem z_mc_M {m : Nat ⊕ Nat} : z_mc (some m) = Int32.ofNat (M_mc m) := by cases m <;> rfl
section
variable {n : Nat} {kd pl nw : Nat → Nat} {vl : Nat → Int64} {x : z_Qu} {tc : Nat} {cols : Nat → Nat} {w : g_St} {C : Nat → Nat}
theorem t_gd {α β : Type} (f : α → β) {l : List α} {j : Nat} (hj : j < l.length) (d : α) (d' : β) : (l.map f).getD j d' = f (l.getD j d) := by
  rw [List.getD_eq_getElem?_getD, List.getElem?_map, List.getElem?_eq_getElem hj, List.getD_eq_getElem?_getD, List.getElem?_eq_getElem hj]
  rfl
theorem t_dd {α : Type} {l : List α} {j : Nat} (hj : j < l.length) (d d' : α) : l.getD j d = l.getD j d' := by
  rw [List.getD_eq_getElem?_getD, List.getElem?_eq_getElem hj, List.getD_eq_getElem?_getD, List.getElem?_eq_getElem hj]
  rfl
theorem t_msl (hw : ∀ k, k < x.2.1.length → (x.2.1.getD k z_pa0).2.1.length ≤ 3) (N : t_nf nw pl x tc cols) {tk : Nat} {ck : Nat → Nat} (K : M_ck n kd pl vl w C x tk ck) (A : M_all n kd nw w C x tc cols) (H : z_H n kd) {q : Nat} (W : z_wqu kd q x) (hq : q ≤ n) (lv : Nat → Nat) {s : Nat} (hs : s < (z_sels x).length) : M_sl w x.2.1.length tc (t_Xs nw x) cols s (t_sel nw vl x tc cols lv (z_sv x s).2).1 (t_sel nw vl x tc cols lv (z_sv x s).2).2.1 (t_sel nw vl x tc cols lv (z_sv x s).2).2.2.1 ∧ M_sov w x.2.1.length tc s (t_sel nw vl x tc cols lv (z_sv x s).2).2.1 := by
  obtain ⟨Q1, Q2⟩ := M_qu.sels K.2.2.1
  obtain ⟨se, ow4⟩ := Q2 s hs
  have se' : M_se pl w C s (z_sv x s).1 (z_sv x s).2 := se
  have rse : M_rse n kd nw w C x.2.1 tc cols s (z_sv x s).2 := A.2.1 s hs
  obtain ⟨p, r, hr, wf⟩ := z_sv_w W hq hs
  have lim : z_lim C := K.2.2.1.2.2.2.2.2.2.2.2.2.2
  have te := fun {wi : Option Nat} {e : Bool × Nat × Nat} (h : q_te (z_sv x s).2 wi e) => t_nf_te N hs h
  have so := fun {sl : Option Nat} {t : Nat} (h : q_so (z_sv x s).2 sl t) => t_nf_so N hs h
  generalize (z_sv x s).2 = y at se' rse wf te so ⊢
  obtain ⟨a1, a2, a3, ⟨i0, a4, a5⟩, a6, a7, ⟨k0, a8, a9⟩, a10, a11, a12, a13, a14, a15⟩ := se'
  obtain ⟨⟨k0', ss⟩, ⟨i0', b1, b2, b3⟩, b4⟩ := rse
  obtain ⟨wa, a, b, wi1, ws1, wc1⟩ := wf
  obtain ⟨s1, s2, s3, s4, s5, s6⟩ := ss
  have s17 : s < 17 := s1
  have l1 : (t_its nw vl x tc cols y.2.2.1 y.2.1).length = y.2.1.length := List.length_map _
  have l2 : (t_ms nw x tc y.2.2.1).length = y.2.2.1.length := List.length_map _
  have l3 : (y.2.2.2.map (t_co nw vl x tc cols y.2.2.1)).length = y.2.2.2.length := List.length_map _
  have ei : i0' = i0 := by
    rw [b2] at a4
    have := lim.2.1
    have := a5.1
    rw [x_eq (by omega) (by omega)] at a4
    exact a4
  have c105 : C 3841 ≤ 105 := lim.2.2.2.2.2
  have c95 : C 3585 ≤ 95 := lim.2.2.2.2.1
  have c205 : C 3009 ≤ 205 := lim.2.2.1
  -- sources
  have msok : ∀ k, k < y.2.2.1.length → M_ok x.2.1.length tc (r_ml (t_ms nw x tc y.2.2.1) k) ∧ g_AI w 3220 (k0' + k) = Int32.ofNat (M_mc (r_ml (t_ms nw x tc y.2.2.1) k)) := fun k hk => by
    obtain ⟨-, -, g3⟩ := s6 k hk
    obtain ⟨m, hm⟩ := so (sl := some k) (t := y.2.2.1.getD k 0) ⟨hk, rfl⟩
    rw [t_ml hk]
    obtain ⟨t1, t2⟩ := t_mn_ok hm
    rw [t1]
    refine ⟨t2, ?_⟩
    rw [g3, hm, z_mc_M]
  -- conditions
  have rle : b ≤ r := wc1.le
  have cds : M_cds w (t_Xs nw x) (M_mm (t_Xs nw x) (t_ms nw x tc y.2.2.1)) s (y.2.2.2.map (t_co nw vl x tc cols y.2.2.1)) ∧ ∀ i, i < y.2.2.2.length → r_ux x.2.1.length tc (t_Xs nw x) cols (M_dd (t_Xs nw x) cols (t_ms nw x tc y.2.2.1)) ((y.2.2.2.map (t_co nw vl x tc cols y.2.2.1)).getD i r_cd0) := by
    have each : ∀ i, i < y.2.2.2.length → (∃ c, g_AI w 2452 (6 * s + i) = Int32.ofNat c ∧ M_vcd w (t_Xs nw x) (M_mm (t_Xs nw x) (t_ms nw x tc y.2.2.1)) c (t_co nw vl x tc cols y.2.2.1 (y.2.2.2.getD i z_co0))) ∧ r_ux x.2.1.length tc (t_Xs nw x) cols (M_dd (t_Xs nw x) cols (t_ms nw x tc y.2.2.1)) (t_co nw vl x tc cols y.2.2.1 (y.2.2.2.getD i z_co0)) := fun i hi => by
      obtain ⟨c, d1, d2⟩ := a12 i hi
      obtain ⟨c', e1, e2, e3⟩ := b4 i hi
      have d2' : M_co w C c (y.2.2.2.getD i z_co0) := by
        rw [← t_dd hi (Sum.inr (0, [])) z_co0]
        exact d2
      have ec : c' = c := by
        rw [e2] at d1
        have := d2'.1
        rw [x_eq (by omega) (by omega)] at d1
        exact d1
      rw [ec] at e1 e2 e3
      have mem := z_getD_m (d := z_co0) hi
      obtain ⟨p1, q1, p2, q2, wf1⟩ := wc1.all _ mem
      obtain ⟨d3, d4⟩ := d2'
      generalize y.2.2.2.getD i z_co0 = cc at d4 e3 mem wf1 ⊢
      cases cc with
      | inl bb =>
        have kn : t_kn nw x tc cols y.2.2.1 none (bb.1 ++ bb.2.2) := fun e he h2 => te (Or.inr (Or.inl ⟨bb, mem, rfl, he⟩)) h2
        have kn1 : t_kn nw x tc cols y.2.2.1 none bb.1 := fun e he => kn e (List.mem_append_left _ he)
        have kn2 : t_kn nw x tc cols y.2.2.1 none bb.2.2 := fun e he => kn e (List.mem_append_right _ he)
        refine ⟨⟨c, d1, t_vcp (wi := none) hw s5 K H e1 d4 e3 wf1 (by omega) kn1 kn2⟩, ?_⟩
        exact ⟨t_us (wi := none) hw s5 kn1, fun _ => t_us (wi := none) hw s5 kn2⟩
      | inr z =>
        have kn : ∀ bb ∈ z.2, t_kn nw x tc cols y.2.2.1 (some z.1) (bb.1 ++ bb.2.2) := fun bb hb e he h2 => te (Or.inr (Or.inr ⟨z, mem, rfl, bb, hb, he⟩)) h2
        have kn1 : ∀ bb ∈ z.2, t_kn nw x tc cols y.2.2.1 (some z.1) bb.1 := fun bb hb e he => kn bb hb e (List.mem_append_left _ he)
        have kn2 : ∀ bb ∈ z.2, t_kn nw x tc cols y.2.2.1 (some z.1) bb.2.2 := fun bb hb e he => kn bb hb e (List.mem_append_right _ he)
        obtain ⟨m, hm⟩ := so (sl := none) (t := z.1) ⟨.inr z, mem, rfl⟩
        obtain ⟨t1, t2⟩ := t_mn_ok hm
        have d4' : g_AI w 3284 c = 2 ∧ (∃ k, k < C 3585 ∧ g_AI w 3540 c = Int32.ofNat k ∧ M_so w k z.1) ∧ g_AI w 3604 c = Int32.ofNat z.2.length ∧ z.2.length ≤ 3 ∧ ∀ j, j < z.2.length → ∃ d, d < C 3841 ∧ g_AI w 3668 (3 * c + j) = Int32.ofNat d ∧ M_cb w (C 3073) (C 3009) d (z.2.getD j ([], 0, [])) := d4
        have e3' : M_rne n kd nw w x.2.1 tc cols y.2.2.1 c z := e3
        obtain ⟨f1, ⟨k, f2, f3, -⟩, f4, f5, f6⟩ := d4'
        obtain ⟨⟨k', g1, g2⟩, g3⟩ := e3'
        obtain ⟨g4, -, -, -, g5⟩ := g2 (k', z.1) rfl
        have wf2 : p1 ≤ z.1 ∧ kd z.1 = 36 ∧ kd (z.1 + 1) = 36 ∧ z_ch (z_wb kd) z.2 (z.1 + 2) q1 := wf1
        refine ⟨⟨c, d1, e1, f1, ?_, ?_, ⟨k', g1, g4, ?_⟩, fun j hj => ?_⟩, ?_, fun bb hb => ?_⟩
        · show (z.2.map _).length ≤ 3
          rw [List.length_map]; exact f5
        · show g_AI w 3604 c = Int32.ofNat (z.2.map _).length
          rw [List.length_map]; exact f4
        · rw [g5, hm, z_mc_M]
          show _ = Int32.ofNat (M_mc (t_mn nw x tc z.1))
          rw [t1]
        · have hj' : j < (z.2.map (t_bs nw vl x tc cols y.2.2.1 (some z.1))).length := hj
          rw [List.length_map] at hj'
          obtain ⟨d, h1, h2, h3⟩ := f6 j hj'
          obtain ⟨d', h4, h5, h6⟩ := g3 j hj'
          have ed : d' = d := by
            rw [h5] at h2
            rw [x_eq (by omega) (by omega)] at h2
            exact h2
          rw [ed] at h4 h6
          have mb := z_getD_m (d := (([], 0, []) : z_Bs)) hj'
          obtain ⟨p3, q3, p4, q4, wf3⟩ := wf2.2.2.2.all _ mb
          refine ⟨d, h2, ?_⟩
          show M_vcp w (t_mc nw x tc y.2.2.1 (some z.1)) d ((z.2.map (t_bs nw vl x tc cols y.2.2.1 (some z.1))).getD j r_cp0)
          rw [t_gd _ hj' ([], 0, [])]
          exact t_vcp (wi := some z.1) hw s5 K H h4 h3 h6 wf3 (by omega) (kn1 _ mb) (kn2 _ mb)
        · show M_ok x.2.1.length tc (t_mn nw x tc z.1)
          rw [t1]; exact t2
        · have hb' : bb ∈ z.2.map (t_bs nw vl x tc cols y.2.2.1 (some z.1)) := hb
          rw [List.mem_map] at hb'
          obtain ⟨b0, b1, rfl⟩ := hb'
          exact ⟨t_us (wi := some z.1) hw s5 (kn1 b0 b1), fun _ => t_us (wi := some z.1) hw s5 (kn2 b0 b1)⟩
    refine ⟨⟨s17, by rw [l3]; exact a15, by rw [l3]; exact a11, fun i hi => ?_⟩, fun i hi => ?_⟩
    · rw [l3] at hi
      rw [t_gd _ hi z_co0]
      exact (each i hi).1
    · rw [t_gd _ hi z_co0]
      exact (each i hi).2
  -- items
  have its : M_vit w (M_mm (t_Xs nw x) (t_ms nw x tc y.2.2.1)) s (t_its nw vl x tc cols y.2.2.1 y.2.1) ∧ r_uit (M_dd (t_Xs nw x) cols (t_ms nw x tc y.2.2.1)) (t_its nw vl x tc cols y.2.2.1 y.2.1) := by
    have gd : ∀ j, j < y.2.1.length → (t_its nw vl x tc cols y.2.2.1 y.2.1).getD j r_it0 = ((y.2.1.getD j z_it0).1, t_ex nw vl x tc cols y.2.2.1 none (y.2.1.getD j z_it0).2) := fun j hj => t_gd (fun i : z_It => (i.1, t_ex nw vl x tc cols y.2.2.1 none i.2)) hj z_it0 r_it0
    have kn : ∀ j, j < y.2.1.length → t_kn nw x tc cols y.2.2.1 none (y.2.1.getD j z_it0).2 := fun j hj e he h2 => te (Or.inl ⟨rfl, _, z_getD_m (d := z_it0) hj, he⟩) h2
    refine ⟨⟨s17, by rw [l1]; exact a13, i0, a4, by rw [l1, ← ei]; exact b1, fun j hj => ?_⟩, fun m hm hk => ?_⟩
    · rw [l1] at hj
      rw [gd j hj]
      obtain ⟨p1, q1, p2, q2, wf1⟩ := wi1.all _ (z_getD_m (d := z_it0) hj)
      have h1 := a5.2 j hj
      have h2 := b3 j hj
      rw [ei] at h2
      have ex : ∀ e, e < C 3009 → g_AI w 2580 (i0 + j) = Int32.ofNat e → M_ex w (C 3073) e (y.2.1.getD j z_it0).2 → (y.2.1.getD j z_it0).1 ≠ 20 → M_vex w (M_mm (t_Xs nw x) (t_ms nw x tc y.2.2.1)) e (t_ex nw vl x tc cols y.2.2.1 none (y.2.1.getD j z_it0).2) := fun e he g1 g2 g3 => by
        rcases h2 with h2 | ⟨e', h3, h4, h5⟩
        · exact absurd h2 g3
        · have ee : e' = e := by
            rw [g1] at h4
            rw [x_eq (by omega) (by omega)] at h4
            exact h4.symm
          rw [ee] at h5
          have aler : a ≤ n := by
            have h6 : a ≤ b := ws1.le
            omega
          exact t_vex (wi := none) hw s5 K H (by omega) g2 h5 wf1.1 (by omega) (kn j hj)
      have h1' : M_it w (C 3073) (C 3009) (i0 + j) (y.2.1.getD j z_it0) := h1
      show (((y.2.1.getD j z_it0).1 = 0 ∧ _) ∨ (20 ≤ (y.2.1.getD j z_it0).1 ∧ (y.2.1.getD j z_it0).1 ≤ 23) ∧ g_AI w 2516 (i0 + j) = z_km (y.2.1.getD j z_it0).1) ∧ ((y.2.1.getD j z_it0).1 ≠ 20 → _)
      rcases h1' with ⟨c1, c2, e, c3, c4, c5⟩ | ⟨c1, c2, c3⟩ | ⟨c1, c1', c2, e, c3, c4, c5⟩
      · exact ⟨Or.inl ⟨c1, c2⟩, fun g => ⟨e, c4, ex e c3 c4 c5 g⟩⟩
      · exact ⟨Or.inr ⟨by omega, by rw [c2, c1]; rfl⟩, fun g => absurd c1 g⟩
      · exact ⟨Or.inr ⟨by omega, c2⟩, fun g => ⟨e, c4, ex e c3 c4 c5 g⟩⟩
    · rw [l1] at hm
      rw [gd m hm]
      exact (t_us (wi := none) hw s5 (kn m hm)).mono (fun k j h => h.2)
  show M_sl w x.2.1.length tc (t_Xs nw x) cols s (t_its nw vl x tc cols y.2.2.1 y.2.1) (t_ms nw x tc y.2.2.1) (y.2.2.2.map (t_co nw vl x tc cols y.2.2.1)) ∧ M_sov w x.2.1.length tc s (t_ms nw x tc y.2.2.1)
  refine ⟨⟨s17, by rw [l2]; exact s5, by rw [l2]; exact s2, by rw [l1]; exact a6, cds.1, fun i hi => cds.2 i (by rw [l3] at hi; exact hi), its.1, its.2⟩, s17, by rw [l2]; exact s5, by rw [l2]; exact s2, k0', s3, ?_, fun k hk => msok k (by rw [l2] at hk; exact hk)⟩
  rw [l2]
  have := s4.1
  omega
end
