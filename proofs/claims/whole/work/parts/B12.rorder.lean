/-! THE CHECK: the order is resolved (reference) -/
def M_rok (nw : Nat → Nat) (u : g_St) (ps : List z_Pa) (tc : Nat) (cols : Nat → Nat) (srs : List Nat) (i t : Nat) : Prop := g_AI u 3796 i = z_oc (z_slt nw srs t none) ∧ g_AI u 3860 i = z_cc ps (z_tmn nw ps tc srs none (z_slt nw srs t none)) true (z_tcl nw ps tc cols srs none t)
def z_bd1 (nw : Nat → Nat) (x : z_Qu) (tc : Nat) (cols : Nat → Nat) (srs : List Nat) (t : Nat) : Bool := z_tbad true (z_tcl nw x.2.1 tc cols srs none t)
def z_ont (nw pl : Nat → Nat) (x : z_Qu) (tc : Nat) (cols : Nat → Nat) (a : Option (Nat × Nat)) : Option (Nat × Nat) := match x.2.2.2 with
  | none => a
  | some y => y.2.foldl (fun a t => z_nti2 (z_bd1 nw x tc cols x.2.2.1.2.2.1 t) a (pl t)) (z_nti2 (x.2.2.1.2.1.any fun i => decide (i.1 ≠ 0)) a (pl y.1))
def M_ror (nw : Nat → Nat) (u : g_St) (x : z_Qu) (tc : Nat) (cols : Nat → Nat) : Prop := ∀ y, x.2.2.2 = some y → ∀ j, j < y.2.length → M_rok nw u x.2.1 tc cols x.2.2.1.2.2.1 j (y.2.getD j 0)
section
variable {n : Nat} {kd pl nw nv : Nat → Nat} {wd vl : Nat → Int64}
theorem b_or1 (NM : z_NM n kd wd vl nw nv) (H : z_H n kd) (hpl : ∀ i, i ≤ n → pl i ≤ 400) {u : g_St} {C : Nat → Nat} {x : z_Qu} {tc : Nat} {cols : Nat → Nat} (Ku : M_ck n kd pl vl u C x tc cols) (hp : ∀ k, k < x.2.1.length → z_pnm n kd (x.2.1.getD k z_pa0)) (hw3 : ∀ k, (x.2.1.getD k z_pa0).2.1.length ≤ 3) {s k0 : Nat} {srs : List Nat} (ssu : M_ss n kd nw u C x.2.1 tc s k0 srs) {i t len : Nat} (isn1 : z_isn n kd t) (isn2 : z_isn n kd (t + 2)) (ho : g_AI u 3732 i = Int32.ofNat t) (hc : g_I u 4353 1 = Int32.ofNat len) (hi : i < len) (hl : len ≤ 2) (f : Nat) {a : Option (Nat × Nat)} (h5 : M_nt u a) :
    ∃ v, f_M_resolveOrder_32 (f + 1) (some 1) (Int32.ofNat s) (Int32.ofNat i) u = f_M_resolveOrder_32 f (some 1) (Int32.ofNat s) (Int32.ofNat (i + 1)) v ∧ z_W [833, 897] [3796, 3860] u v ∧ M_rok nw v x.2.1 tc cols srs i t ∧ (∀ j, j ≠ i → g_AI v 3796 j = g_AI u 3796 j ∧ g_AI v 3860 j = g_AI u 3860 j) ∧ M_nt v (z_nti2 (z_bd1 nw x tc cols srs t) a (pl t)) := by
  have hn := H.2.1
  have hm := Ku.1
  have tk := Ku.2.1
  have i2 : i < 2 := by omega
  have q1 := isn1.1
  have q2 := isn2.1
  have lim : z_lim C := Ku.2.2.1.2.2.2.2.2.2.2.2.2.2
  have hs1 := ssu.1
  have bs := b_slt NM H hm tk lim hs1 ssu.2.1 ssu.2.2.1 ssu.2.2.2.1 (fun j hj => (ssu.2.2.2.2.2 j hj).2.1) isn1 (wi := none) (fun y hy => by cases hy)
  have bs' : f_M_slotOf (some 1) (Int32.ofNat s) (vl t) (-1) u = some (z_oc (z_slt nw srs t none), u) := bs
  generalize hsl : z_slt nw srs t none = sl at bs'
  obtain ⟨s9, e9⟩ : ∃ s9, s9 = g_setAI u 3796 i (z_oc sl) := ⟨_, rfl⟩
  have W9 : z_W [833, 897] [3796, 3860] u s9 := by rw [e9]; exact z_W.re.sI (by decide) _ _
  have hm9 := W9.fx hm
  have K9 := Ku.W W9 (by decide) (by decide) (by decide) (by decide)
  have ss9 := ssu.W W9 (by decide)
  generalize hmn : z_tmn nw x.2.1 tc srs none sl = mn
  have ecl : z_tcl nw x.2.1 tc cols srs none t = z_cln nw x.2.1 cols mn (t + 2) := by unfold z_tcl; rw [hsl, hmn]
  have mlt := z_tmn_lt (N := nw) (ps := x.2.1) (tc := tc) (srs := srs) (wi := none) (sl := sl)
  rw [hmn] at mlt
  have bc := b_col NM H K9 hp mlt.1 mlt.2 isn2 true
  have bc' : f_M_columnOf (some 1) (z_mc mn) (vl (t + 2)) 1 s9 = some (z_cc x.2.1 mn true (z_cln nw x.2.1 cols mn (t + 2)), s9) := bc
  have cb := z_cc_bad (N := nw) (ps := x.2.1) (cols := cols) (m := mn) (q := t + 2) (o := true) hw3 (fun t ht => (Ku.2.2.2.2.2 t (mlt.2 t ht)).2)
  have st1 : f_M_resolveOrder_32 (f + 1) (some 1) (Int32.ofNat s) (Int32.ofNat i) u = f_M_resolveOrder_111 (f_M_resolveOrder_32 f) (some 1) (Int32.ofNat s) (Int32.ofNat i) (Int32.ofNat t) (some 3860) (Int32.ofNat i) (z_cc x.2.1 mn true (z_cln nw x.2.1 cols mn (t + 2))) s9 := by
    rw [f_M_resolveOrder_32, x_gI, hc, if_neg (by rw [x_le (by omega) (by omega)]; omega), x_gR, (m_at hm m_k4481).1, x_aI (by omega) (by rw [(m_at hm m_k4481).2]; exact i2), ho, x_gR, (m_at hm m_k769).1, z_tkv hm tk H isn1.1, x_nn, bs', x_c, x_gR, (m_at hm m_k4545).1, x_sI (by omega) (by rw [(m_at hm m_k4545).2]; exact i2), ← e9, x_gR, (m_at hm9 m_k4609).1]
    cases hsl2 : sl with
    | none =>
      rw [if_pos (show z_oc none = -1 from rfl)]
      have : mn = none := by rw [← hmn, hsl2]; rfl
      rw [this]; rfl
    | some k =>
      rw [hsl2] at hsl hmn
      rcases z_slt_lt hsl with hk | ⟨hk, w0, hw0⟩
      · have := ssu.2.2.2.1.1
        have l3 := lim.2.2.2.2.1
        rw [if_neg (show ¬ z_oc (some k) = -1 from z_oc_n (by have := ssu.2.2.2.2.1; omega)), x_gR, (m_at hm9 m_k3777).1, x_gR, (m_at hm9 m_k2497).1, x_aI (by omega) (by rw [(m_at hm9 m_k2497).2]; exact hs1), ss9.2.2.1, show z_oc (some k) = Int32.ofNat k from rfl, x_add, x_aI (by omega) (by rw [(m_at hm9 m_k3777).2]; omega), (ss9.2.2.2.2.2 k hk).2.2, show z_mng nw x.2.1 tc (srs.getD k 0) = mn from (by rw [← hmn]; unfold z_tmn; simp only []; rw [if_neg (by have := ssu.2.2.2.2.1; omega)]), x_gR, (m_at hm9 m_k769).1, show Int32.ofNat t + 2 = Int32.ofNat (t + 2) from (Int32.ofNat_add _ _).symm, z_tkv hm9 K9.2.1 H isn2.1, x_nn, bc', x_c]
      · cases hw0
  generalize hcc : z_cc x.2.1 mn true (z_cln nw x.2.1 cols mn (t + 2)) = cc at st1
  rw [hcc, ← ecl] at cb
  obtain ⟨s1, es1⟩ : ∃ s1, s1 = g_setAI s9 3860 i cc := ⟨_, rfl⟩
  have W1 : z_W [833, 897] [3796, 3860] u s1 := by rw [es1]; exact W9.sI (by decide) _ _
  have hm1 := W1.fx hm
  have a1 : M_nt s1 a := by rw [es1, e9]; exact h5
  obtain ⟨u1, n1, n2, n3⟩ := b_nt a1 (m := 2) (p := pl t) (by decide) (by decide) (hpl _ (by omega))
  have p1 : g_AI s1 1172 t = Int32.ofNat (pl t) := by
    rw [(W1.2.2.2.2.2.2.2.2 1172 (by decide)).1]; exact (tk t (by omega)).2.1
  have st3 : f_M_resolveOrder_32 (f + 1) (some 1) (Int32.ofNat s) (Int32.ofNat i) u = (if cc = (-1) then f_M_resolveOrder_32 f (some 1) (Int32.ofNat s) (Int32.ofNat (i + 1)) u1 else f_M_resolveOrder_32 f (some 1) (Int32.ofNat s) (Int32.ofNat (i + 1)) s1) := by
    rw [st1]
    unfold f_M_resolveOrder_111
    rw [x_sI (by omega) (by rw [(m_at hm9 m_k4609).2]; exact i2), ← es1, x_gR, (m_at hm1 m_k4609).1, x_aI (by omega) (by rw [(m_at hm1 m_k4609).2]; exact i2), show g_AI s1 3860 i = cc from (by rw [es1, x_AI_AI, if_pos ⟨rfl, rfl⟩]), x_gR, (m_at hm1 m_k705).1, x_aI (by omega) (by rw [(m_at hm1 m_k705).2]; omega), p1, x_nn, show (2 : Int32) = Int32.ofNat 2 from rfl, n1, x_c, x_p1]
  have fin : ∀ v, g_AI v 3796 = g_AI s1 3796 → g_AI v 3860 = g_AI s1 3860 → M_rok nw v x.2.1 tc cols srs i t ∧ ∀ j, j ≠ i → g_AI v 3796 j = g_AI u 3796 j ∧ g_AI v 3860 j = g_AI u 3860 j := fun v v3 v4 => by
    refine ⟨?_, fun j ne => ?_⟩
    · unfold M_rok
      rw [hsl, hmn, ecl, hcc, v3, v4, es1, x_AI_AI, if_neg (fun q => by have := q.1; omega), x_AI_AI, if_pos ⟨rfl, rfl⟩, e9, x_AI_AI, if_pos ⟨rfl, rfl⟩]
      exact ⟨rfl, rfl⟩
    · rw [v3, v4, es1, x_AI_AI, if_neg (fun q => by have := q.1; omega), x_AI_AI, if_neg (fun q => ne q.2), e9, x_AI_AI, if_neg (fun q => ne q.2), x_AI_AI, if_neg (fun q => by have := q.1; omega)]
      exact ⟨rfl, rfl⟩
  by_cases w : cc = -1
  · rw [if_pos w] at st3
    have tb : z_bd1 nw x tc cols srs t = true := by unfold z_bd1; rw [← cb]; exact w
    rw [tb]
    have F := fin u1 (n3.2.2.2.2.2.2.2.2 3796 (by decide)).1 (n3.2.2.2.2.2.2.2.2 3860 (by decide)).1
    exact ⟨u1, st3, W1.trans (n3.mono (fun _ h => h) (fun _ h => by cases h)), F.1, F.2, n2⟩
  · rw [if_neg w] at st3
    have tb : z_bd1 nw x tc cols srs t = false := by
      unfold z_bd1
      cases hh : z_tbad true (z_tcl nw x.2.1 tc cols srs none t) with
      | false => rfl
      | true => rw [hh] at cb; exact absurd (cb.mpr rfl) w
    rw [tb]
    have F := fin s1 rfl rfl
    exact ⟨s1, st3, W1, F.1, F.2, a1⟩
theorem b_ror (NM : z_NM n kd wd vl nw nv) (H : z_H n kd) (hpl : ∀ i, i ≤ n → pl i ≤ 400) {u0 : g_St} {C : Nat → Nat} {x : z_Qu} {tc : Nat} {cols : Nat → Nat} (K : M_ck n kd pl vl u0 C x tc cols) (hp : ∀ k, k < x.2.1.length → z_pnm n kd (x.2.1.getD k z_pa0)) (hw3 : ∀ k, (x.2.1.getD k z_pa0).2.1.length ≤ 3) {k0 : Nat} (hs : M_ss n kd nw u0 C x.2.1 tc (z_tot x.2.1) k0 x.2.2.1.2.2.1) {b q : Nat} (hx : z_wod kd b q x.2.2.2) (hq : q ≤ n) {a0 : Option (Nat × Nat)} (ha : M_nt u0 a0) :
    ∃ u', f_M_resolveOrder (some 1) (Int32.ofNat (z_tot x.2.1)) u0 = some ((), u') ∧ z_W [833, 897] [3796, 3860] u0 u' ∧ M_ror nw u' x tc cols ∧ M_nt u' (z_ont nw pl x tc cols a0) := by
  have hn := H.2.1
  have Q := K.2.2.1
  obtain ⟨Q1, Q2, Q3, Q4, Q5, Q6, Q7, Q8, Q9, Q10, lim⟩ := Q
  have hm := K.1
  cases ho : x.2.2.2 with
  | none =>
    rw [ho] at Q10
    have e0 : g_I u0 4353 1 = 0 := Q10
    have r32 : f_M_resolveOrder_32 200000 (some 1) (Int32.ofNat (z_tot x.2.1)) 0 u0 = some ((), u0) := by
      rw [show (200000 : Nat) = 199999 + 1 from rfl, f_M_resolveOrder_32, x_gI, e0, if_pos (by decide)]
    refine ⟨u0, ?_, z_W.re, fun y e => (by rw [ho] at e; cases e), by unfold z_ont; rw [ho]; exact ha⟩
    unfold f_M_resolveOrder
    rw [x_gI, e0, if_pos (by decide), r32]
  | some y =>
    rw [ho] at Q10 hx
    obtain ⟨o1, o2, o3, o4⟩ := Q10
    obtain ⟨w1, w2, w3, w4⟩ := hx
    have wl := w3.le
    have tok : ∀ j, j < y.2.length → z_isn n kd (y.2.getD j 0) ∧ z_isn n kd (y.2.getD j 0 + 2) := fun j hj => by
      obtain ⟨p1, q1, g1, g2, g3, g4, g5, g6⟩ := w3.all _ (z_getD_m (d := 0) hj)
      exact ⟨⟨by omega, g5⟩, ⟨by omega, g6⟩⟩
    have key : ∀ (l : List Nat) (i : Nat) (u : g_St) (a : Option (Nat × Nat)) (f : Nat), y.2.drop i = l → i ≤ y.2.length → l.length < f → z_W [833, 897] [3796, 3860] u0 u → M_nt u a →
      ∃ u', f_M_resolveOrder_32 f (some 1) (Int32.ofNat (z_tot x.2.1)) (Int32.ofNat i) u = some ((), u') ∧ z_W [833, 897] [3796, 3860] u0 u' ∧ (∀ j, j < i → g_AI u' 3796 j = g_AI u 3796 j ∧ g_AI u' 3860 j = g_AI u 3860 j) ∧ (∀ j, i ≤ j → j < y.2.length → M_rok nw u' x.2.1 tc cols x.2.2.1.2.2.1 j (y.2.getD j 0)) ∧ M_nt u' (l.foldl (fun a t => z_nti2 (z_bd1 nw x tc cols x.2.2.1.2.2.1 t) a (pl t)) a) := by
      intro l
      induction l with
      | nil =>
        intro i u a f h1 h2 h3 h4 h5
        have hi : y.2.length ≤ i := List.drop_eq_nil_iff.mp h1
        obtain ⟨f, rfl⟩ : ∃ m, f = m + 1 := ⟨f - 1, by omega⟩
        refine ⟨u, ?_, h4, fun _ _ => ⟨rfl, rfl⟩, fun j h6 h7 => by omega, h5⟩
        rw [f_M_resolveOrder_32, x_gI, h4.2.2.2.2.2.2.2.1 4353 1 (by decide), o2, if_pos (by rw [x_le (by omega) (by omega)]; exact hi)]
      | cons t l ih =>
        intro i u a f h1 h2 h3 h4 h5
        have hi : i < y.2.length := by
          by_cases w : i < y.2.length
          · exact w
          · rw [List.drop_eq_nil_of_le (by omega)] at h1; cases h1
        have hdr : y.2.drop (i + 1) = l := by
          have := List.drop_drop (i := 1) (j := i) (l := y.2)
          rw [h1] at this
          rw [show i + 1 = i + 1 from rfl, ← this]; rfl
        have hyi : y.2.getD i 0 = t := by
          have := List.drop_eq_getElem_cons hi
          rw [h1] at this
          rw [List.getD_eq_getElem?_getD, List.getElem?_eq_getElem hi]
          exact (List.cons.inj this).1.symm
        obtain ⟨f, rfl⟩ : ∃ m, f = m + 1 := ⟨f - 1, by omega⟩
        have tt := tok i hi
        rw [hyi] at tt
        obtain ⟨v, v1, v2, v3, v4, v5⟩ := b_or1 NM H hpl (K.W h4 (by decide) (by decide) (by decide) (by decide)) hp hw3 (hs.W h4 (by decide)) tt.1 tt.2 (i := i) (len := y.2.length) (by rw [(h4.2.2.2.2.2.2.2.2 3732 (by decide)).1, o4 i hi, hyi]) (by rw [h4.2.2.2.2.2.2.2.1 4353 1 (by decide)]; exact o2) hi o3 f h5
        obtain ⟨u', r1, r2, r3, r4, r5⟩ := ih (i + 1) v _ f hdr (by omega) (by rw [List.length_cons] at h3; omega) (h4.trans v2) v5
        refine ⟨u', v1.trans r1, r2, fun j hj => ?_, fun j h6 h7 => ?_, r5⟩
        · obtain ⟨y1, y2⟩ := r3 j (by omega)
          obtain ⟨y3, y4⟩ := v4 j (by omega)
          exact ⟨y1.trans y3, y2.trans y4⟩
        · by_cases w : j = i
          · obtain ⟨y1, y2⟩ := r3 i (by omega)
            rw [w, hyi]
            exact ⟨y1.trans v3.1, y2.trans v3.2⟩
          · exact r4 j (by omega) h7
    have fo : g_AI u0 159 (z_tot x.2.1) = z_fol x.2.2.1.2.1 := Q7.2.2.2.2.2.1
    obtain ⟨u1, n1, n2, n3⟩ := b_nt ha (m := 2) (p := pl y.1) (by decide) (by decide) (hpl _ (by omega))
    have tt : z_tot x.2.1 < 17 := by have := lim.1; omega
    have st : f_M_resolveOrder (some 1) (Int32.ofNat (z_tot x.2.1)) u0 = (if z_fol x.2.2.1.2.1 = 0 then f_M_resolveOrder_32 200000 (some 1) (Int32.ofNat (z_tot x.2.1)) 0 u0 else f_M_resolveOrder_32 200000 (some 1) (Int32.ofNat (z_tot x.2.1)) 0 u1) := by
      unfold f_M_resolveOrder
      rw [x_gI, o2, if_neg (show ¬ Int32.ofNat y.2.length ≤ 0 from (by rw [show (0 : Int32) = Int32.ofNat 0 from rfl, x_le (by omega) (by omega)]; omega)), x_gR, (m_at hm m_k2753).1, x_aI (by omega) (by rw [(m_at hm m_k2753).2]; exact tt), fo, x_gR, (m_at hm m_k705).1, x_gI, o1, x_aI (by omega) (by rw [(m_at hm m_k705).2]; omega), (K.2.1 y.1 (by omega)).2.1, x_nn, show (2 : Int32) = Int32.ofNat 2 from rfl, n1, x_c]
    have fin : ∀ (bo : Bool) (v : g_St), (x.2.2.1.2.1.any fun i => decide (i.1 ≠ 0)) = bo → f_M_resolveOrder (some 1) (Int32.ofNat (z_tot x.2.1)) u0 = f_M_resolveOrder_32 200000 (some 1) (Int32.ofNat (z_tot x.2.1)) 0 v → z_W [833, 897] [3796, 3860] u0 v → M_nt v (z_nti2 bo a0 (pl y.1)) → ∃ u', f_M_resolveOrder (some 1) (Int32.ofNat (z_tot x.2.1)) u0 = some ((), u') ∧ z_W [833, 897] [3796, 3860] u0 u' ∧ M_ror nw u' x tc cols ∧ M_nt u' (z_ont nw pl x tc cols a0) := by
      intro bo v h1 h2 h3 h4
      obtain ⟨u', r1, r2, r3, r4, r5⟩ := key y.2 0 v _ 200000 rfl (by omega) (by omega) h3 h4
      refine ⟨u', h2.trans r1, r2, fun z e j hj => ?_, ?_⟩
      · rw [ho] at e
        cases e
        exact r4 j (by omega) hj
      · unfold z_ont
        rw [ho]
        simp only []
        rw [h1]
        exact r5
    cases hb : (x.2.2.1.2.1.any fun i => decide (i.1 ≠ 0)) with
    | true =>
      rw [if_neg (by unfold z_fol; rw [hb]; decide)] at st
      exact fin true u1 hb st (n3.mono (fun _ h => h) (fun _ h => by cases h)) n2
    | false =>
      rw [if_pos (by unfold z_fol; rw [hb]; rfl)] at st
      exact fin false u0 hb st z_W.re ha
end
