/-! THE ENGINE'S CHECK: sources and terms, as nodes of the tree -/
theorem z_mgd {α : Type} {l : List α} {e : α} (d : α) (h : e ∈ l) : ∃ j, j < l.length ∧ l.getD j d = e := by
  obtain ⟨j, hj, e1⟩ := List.mem_iff_getElem.mp h
  exact ⟨j, hj, by rw [List.getD_eq_getElem?_getD, List.getElem?_eq_getElem hj]; exact e1⟩
/-- a source of a selection: its own at a place, or one within NOT EXISTS -/
def q_so (y : z_Se) (sl : Option Nat) (t : Nat) : Prop := match sl with
  | some m => m < y.2.2.1.length ∧ y.2.2.1.getD m 0 = t
  | none => ∃ c ∈ y.2.2.2, z_ci c = some t
def q_te (y : z_Se) (wi : Option Nat) (e : Bool × Nat × Nat) : Prop := (wi = none ∧ ∃ i ∈ y.2.1, e ∈ i.2) ∨ (∃ bb, .inl bb ∈ y.2.2.2 ∧ wi = none ∧ e ∈ bb.1 ++ bb.2.2) ∨ ∃ z : Nat × List z_Bs, .inr z ∈ y.2.2.2 ∧ wi = some z.1 ∧ ∃ bb ∈ z.2, e ∈ bb.1 ++ bb.2.2
def E_tp (pl : Nat → Nat) (wd : Nat → Int64) (u : g_St) (lo : Nat) (sel top wi : Option Nat) : Prop := match wi with
  | none => top = none ∨ ∃ k, top = some k ∧ g_R u 202 k = none ∧ g_I u 394 k = 0
  | some w => ∃ k j, top = some k ∧ g_R u 202 k = some (j * 64 + 9) ∧ lo ≤ j ∧ (j < g_cnt u 9 ∧ g_I u 394 k = 0) ∧ E_so pl wd u j sel (-1) w
section
variable {pl : Nat → Nat} {wd : Nat → Int64} {c : z_Cx} {u : g_St} {A O : Nat} {b : Nat → Nat} {x : z_Qu}
theorem k_src9 (Q : E_qu pl wd c u A O b x) {a : Nat} (h1 : b 9 ≤ a) (h2 : a < g_cnt u 9) : ∃ s sl t, s < (z_sels x).length ∧ q_so (z_sv x s).2 sl t ∧ E_so pl wd u a (some ((b 8 + s) * 64 + 8)) (z_oc sl) t := by
  obtain ⟨s, i, k, j, ⟨s1, s2, s3⟩, s4, s5⟩ := k_cov9 Q h1 h2
  obtain ⟨e1, e2, e3, e4, e5, e6, a26, a23, a27, a28, e7, e8, e9, e10, e11, e12⟩ := s3
  by_cases w : a < j + (z_sv x s).2.2.2.1.length
  · obtain ⟨g1, g2, g3⟩ := e11 (a - j) (by omega)
    rw [show j + (a - j) = a by omega] at g3
    exact ⟨s, some (a - j), _, s1, ⟨by omega, rfl⟩, g3⟩
  · have s5' : a < j + (z_sv x s).2.2.2.1.length + z_S z_nso (z_sv x s).2.2.2.2 := by
      have : z_nss (z_sv x s).2 = (z_sv x s).2.2.2.1.length + z_S z_nso (z_sv x s).2.2.2.2 := rfl
      omega
    obtain ⟨m, m1, m2, m3⟩ := z_cov z_nso z_co0 _ _ a (by omega) s5'
    obtain ⟨g1, g2, g3, g4⟩ := e12 m m1
    have hm : (z_sv x s).2.2.2.2.getD m z_co0 ∈ (z_sv x s).2.2.2.2 := z_getD_m m1
    have hz : z_nsc ((z_sv x s).2.2.2.2.take m) = z_S z_nso ((z_sv x s).2.2.2.2.take m) := rfl
    cases hc : (z_sv x s).2.2.2.2.getD m z_co0 with
    | inl y => rw [hc] at m3; exact absurd m3 (by show ¬ a < _ + 0; omega)
    | inr y =>
      rw [hc] at m3 g4 hm
      obtain ⟨-, f2, f3, f4, -⟩ := g4
      have ea : j + (z_sv x s).2.2.2.1.length + z_nsc ((z_sv x s).2.2.2.2.take m) = a := by
        have : a < j + (z_sv x s).2.2.2.1.length + z_S z_nso ((z_sv x s).2.2.2.2.take m) + 1 := m3
        omega
      rw [ea] at f4
      exact ⟨s, none, y.1, s1, ⟨_, hm, rfl⟩, f4⟩
theorem k_src9' (Q : E_qu pl wd c u A O b x) {s : Nat} (hs : s < (z_sels x).length) {sl : Option Nat} {t : Nat} (h : q_so (z_sv x s).2 sl t) : ∃ a, b 9 ≤ a ∧ a < g_cnt u 9 ∧ E_so pl wd u a (some ((b 8 + s) * 64 + 8)) (z_oc sl) t := by
  obtain ⟨i, k, j, s1, s2, s3⟩ := k_sel Q hs
  obtain ⟨e1, e2, e3, e4, e5, e6, a26, a23, a27, a28, e7, e8, e9, e10, e11, e12⟩ := s3
  cases sl with
  | some m =>
    obtain ⟨m1, m2⟩ := h
    obtain ⟨g1, g2, g3⟩ := e11 m m1
    rw [m2] at g3
    exact ⟨j + m, by omega, g2, g3⟩
  | none =>
    obtain ⟨cc, m1, m2⟩ := h
    obtain ⟨m, l1, l2⟩ := z_mgd z_co0 m1
    obtain ⟨g1, g2, g3, g4⟩ := e12 m l1
    rw [l2] at g4
    cases cc with
    | inl y => cases m2
    | inr y =>
      cases m2
      obtain ⟨-, f2, f3, f4, -⟩ := g4
      exact ⟨_, by omega, f3, f4⟩
theorem k_tcb {co i : Nat} {sel top : Option Nat} {bb : z_Bs} (h : E_cb pl wd u co i sel top bb) {a : Nat} (h1 : i ≤ a) (h2 : a < i + z_nb bb) : ∃ e ∈ bb.1 ++ bb.2.2, E_te pl wd u (a * 64 + 11) sel top e := by
  obtain ⟨f1, f2, f3, f4, f5, f6⟩ := h
  have hz : z_nb bb = bb.1.length + bb.2.2.length := rfl
  by_cases w : a < i + bb.1.length
  · have := (f3 (a - i) (by omega)).1
    rw [show i + (a - i) = a by omega] at this
    exact ⟨_, List.mem_append_left _ (z_getD_m (by omega)), this⟩
  · rcases f6 with ⟨g1, g2, g3⟩ | ⟨g1, g2, g3, g4⟩
    · rw [g2] at hz; rw [show ([] : z_Ex).length = 0 from rfl] at hz; omega
    · have := (g4 (a - (i + bb.1.length)) (by omega)).1
      rw [show i + bb.1.length + (a - (i + bb.1.length)) = a by omega] at this
      exact ⟨_, List.mem_append_right _ (z_getD_m (by omega)), this⟩
theorem k_tcb' {co i : Nat} {sel top : Option Nat} {bb : z_Bs} (h : E_cb pl wd u co i sel top bb) {e : Bool × Nat × Nat} (he : e ∈ bb.1 ++ bb.2.2) : ∃ a, i ≤ a ∧ a < g_cnt u 11 ∧ E_te pl wd u (a * 64 + 11) sel top e := by
  obtain ⟨f1, f2, f3, f4, f5, f6⟩ := h
  have hz : z_nb bb = bb.1.length + bb.2.2.length := rfl
  rcases List.mem_append.mp he with q | q
  · obtain ⟨j, j1, j2⟩ := z_mgd (false, 0, 0) q
    have := (f3 j j1).1
    rw [j2] at this
    exact ⟨i + j, by omega, by omega, this⟩
  · rcases f6 with ⟨g1, g2, g3⟩ | ⟨g1, g2, g3, g4⟩
    · rw [g2] at q; cases q
    · obtain ⟨j, j1, j2⟩ := z_mgd (false, 0, 0) q
      have := (g4 j j1).1
      rw [j2] at this
      exact ⟨i + bb.1.length + j, by omega, by omega, this⟩
theorem k_ter (Q : E_qu pl wd c u A O b x) {a : Nat} (h1 : b 11 ≤ a) (h2 : a < g_cnt u 11) : (∃ s wi top e, s < (z_sels x).length ∧ q_te (z_sv x s).2 wi e ∧ E_te pl wd u (a * 64 + 11) (some ((b 8 + s) * 64 + 8)) top e ∧ E_tp pl wd u (b 9) (some ((b 8 + s) * 64 + 8)) top wi) ∨ ∃ y t, x.2.2.2 = some y ∧ t ∈ y.2 ∧ E_ot pl wd u (a * 64 + 11) (some ((b 8 + z_tot x.2.1) * 64 + 8)) t := by
  rcases k_cov11 Q h1 h2 with ⟨s, i, k, j, ⟨s1, s2, s3⟩, s4, s5⟩ | ⟨y, m, y1, y2, y3⟩
  · left
    obtain ⟨e1, e2, e3, e4, e5, e6, a26, a23, a27, a28, e7, e8, e9, e10, e11, e12⟩ := s3
    by_cases w : a < i + z_nti (z_sv x s).2.2.1
    · obtain ⟨m, m1, m2, m3⟩ := z_cov (fun x : z_It => x.2.length) z_it0 (z_sv x s).2.2.1 i a s4 w
      obtain ⟨f1, f2, f3⟩ := e10 m m1
      have hz : z_nti ((z_sv x s).2.2.1.take m) = z_S (fun x : z_It => x.2.length) ((z_sv x s).2.2.1.take m) := rfl
      rcases f3 with ⟨g1, g2⟩ | ⟨g1, g2, g3, g4⟩
      · rw [g2] at m3
        exact absurd m3 (by show ¬ a < _ + 0; omega)
      · have m3' : a < i + z_nti ((z_sv x s).2.2.1.take m) + ((z_sv x s).2.2.1.getD m z_it0).2.length := m3
        have g := (g4 (a - (i + z_nti ((z_sv x s).2.2.1.take m))) (by omega)).1
        rw [show i + z_nti ((z_sv x s).2.2.1.take m) + (a - (i + z_nti ((z_sv x s).2.2.1.take m))) = a by omega] at g
        exact ⟨s, none, none, _, s1, Or.inl ⟨rfl, _, z_getD_m m1, z_getD_m (by omega)⟩, g, Or.inl rfl⟩
    · have s5' : a < i + z_nti (z_sv x s).2.2.1 + z_S z_nto (z_sv x s).2.2.2.2 := by
        have : z_nts (z_sv x s).2 = z_nti (z_sv x s).2.2.1 + z_S z_nto (z_sv x s).2.2.2.2 := rfl
        omega
      obtain ⟨m, m1, m2, m3⟩ := z_cov z_nto z_co0 _ _ a (by omega) s5'
      obtain ⟨g1, g2, g3, g4⟩ := e12 m m1
      have hz : z_ntc ((z_sv x s).2.2.2.2.take m) = z_S z_nto ((z_sv x s).2.2.2.2.take m) := rfl
      have hm : (z_sv x s).2.2.2.2.getD m z_co0 ∈ (z_sv x s).2.2.2.2 := z_getD_m m1
      cases hc : (z_sv x s).2.2.2.2.getD m z_co0 with
      | inl y =>
        rw [hc] at m3 g4 hm
        obtain ⟨f1, f2⟩ := g4
        have m3' : a < i + z_nti (z_sv x s).2.2.1 + z_S z_nto ((z_sv x s).2.2.2.2.take m) + z_nb y := m3
        obtain ⟨e, n1, n2⟩ := k_tcb f2 (a := a) (by omega) (by omega)
        exact ⟨s, none, _, e, s1, Or.inr (Or.inl ⟨y, hm, rfl, n1⟩), n2, Or.inr ⟨_, rfl, f1, g3⟩⟩
      | inr y =>
        rw [hc] at m3 g4 hm
        obtain ⟨-, f2, f3, f4, -, -, -, f5⟩ := g4
        have m3' : a < i + z_nti (z_sv x s).2.2.1 + z_S z_nto ((z_sv x s).2.2.2.2.take m) + z_S z_nb y.2 := m3
        obtain ⟨l, l1, l2, l3⟩ := z_cov z_nb z_bs0 y.2 (i + z_nti (z_sv x s).2.2.1 + z_ntc ((z_sv x s).2.2.2.2.take m)) a (by omega) (by omega)
        have hz2 : z_nbs (y.2.take l) = z_S z_nb (y.2.take l) := rfl
        obtain ⟨e, n1, n2⟩ := k_tcb (f5 l l1) (a := a) (by omega) (by omega)
        exact ⟨s, some y.1, _, e, s1, Or.inr (Or.inr ⟨y, hm, rfl, _, z_getD_m l1, n1⟩), n2, _, _, rfl, f2, by omega, ⟨f3, g3⟩, f4⟩
  · right
    have qr := Q.2.2.2.2.2.2
    rw [y1] at qr
    obtain ⟨r1, r2, r3, r4, r5⟩ := qr
    obtain ⟨g1, g2, g3⟩ := r5 m y2
    rw [← y3] at g3
    exact ⟨y, _, y1, z_getD_m y2, g3⟩
theorem k_ter' (Q : E_qu pl wd c u A O b x) {s : Nat} (hs : s < (z_sels x).length) {wi : Option Nat} {e : Bool × Nat × Nat} (h : q_te (z_sv x s).2 wi e) : ∃ a top, b 11 ≤ a ∧ a < g_cnt u 11 ∧ E_te pl wd u (a * 64 + 11) (some ((b 8 + s) * 64 + 8)) top e ∧ E_tp pl wd u (b 9) (some ((b 8 + s) * 64 + 8)) top wi := by
  obtain ⟨i, k, j, s1, s2, s3⟩ := k_sel Q hs
  obtain ⟨e1, e2, e3, e4, e5, e6, a26, a23, a27, a28, e7, e8, e9, e10, e11, e12⟩ := s3
  rcases h with ⟨h1, it, h2, h3⟩ | ⟨bb, h1, h2, h3⟩ | ⟨z, h1, h2, bb, h3, h4⟩
  · obtain ⟨m, m1, m2⟩ := z_mgd z_it0 h2
    obtain ⟨f1, f2, f3⟩ := e10 m m1
    rw [m2] at f1 f3
    rcases f3 with ⟨g1, g2⟩ | ⟨g1, g2, g3, g4⟩
    · rw [g2] at h3; cases h3
    · obtain ⟨l, l1, l2⟩ := z_mgd (false, 0, 0) h3
      have := (g4 l l1).1
      rw [l2] at this
      refine ⟨_, none, ?_, ?_, this, by rw [h1]; exact Or.inl rfl⟩
      · omega
      · omega
  · obtain ⟨m, m1, m2⟩ := z_mgd z_co0 h1
    obtain ⟨g1, g2, g3, g4⟩ := e12 m m1
    rw [m2] at g4
    obtain ⟨f1, f2⟩ := g4
    obtain ⟨a, n1, n2, n3⟩ := k_tcb' f2 h3
    exact ⟨a, _, by omega, n2, n3, by rw [h2]; exact Or.inr ⟨_, rfl, f1, g3⟩⟩
  · obtain ⟨m, m1, m2⟩ := z_mgd z_co0 h1
    obtain ⟨g1, g2, g3, g4⟩ := e12 m m1
    rw [m2] at g4
    obtain ⟨-, f2, f3, f4, -, -, -, f5⟩ := g4
    obtain ⟨l, l1, l2⟩ := z_mgd z_bs0 h3
    have f6 := f5 l l1
    rw [l2] at f6
    obtain ⟨a, n1, n2, n3⟩ := k_tcb' f6 h4
    exact ⟨a, _, by omega, n2, n3, by rw [h2]; exact ⟨_, _, rfl, f2, by omega, ⟨f3, g3⟩, f4⟩⟩
variable {n q : Nat} {kd : Nat → Nat}
theorem z_sv_w (W : z_wqu kd q x) (hq : q ≤ n) {s : Nat} (hs : s < (z_sels x).length) : ∃ p r, r ≤ n ∧ z_wse kd p r (z_sv x s).2 := by
  obtain ⟨a, b, h1, h2, h3, h4, h5⟩ := W
  have hb := z_wod_le h4
  by_cases w : s < z_tot x.2.1
  · have ch := z_sy_ch x.2.1 0 0 a h1
    obtain ⟨p1, q1, g1, g2, g3⟩ := ch.all _ (z_getD_m (d := (0, z_se0)) (k := s) (by rw [z_sy_len]; exact w))
    have e : z_sv x s = (z_sy 0 x.2.1).getD s (0, z_se0) := by
      unfold z_sv z_sels
      rw [List.getD_eq_getElem?_getD, List.getElem?_append_left (by rw [z_sy_len]; exact w), ← List.getD_eq_getElem?_getD]
    rw [e]
    exact ⟨p1, q1, by omega, g3⟩
  · rw [z_sv_len] at hs
    rw [show s = z_tot x.2.1 by omega, z_sv_own]
    exact ⟨a, b, by omega, h2⟩
theorem q_so.isn {y : z_Se} {p r : Nat} (h : z_wse kd p r y) (hr : r ≤ n) {sl : Option Nat} {t : Nat} (g : q_so y sl t) : z_isn n kd t ∧ z_isn n kd (t + 1) := by
  obtain ⟨h1, a, b, x1, x2, x3⟩ := h
  have l3 := x3.le
  cases sl with
  | some m =>
    obtain ⟨g1, g2⟩ := g
    obtain ⟨p1, q1, d1, d2, d3, d4, d5, d6⟩ := x2.all _ (z_getD_m (d := 0) g1)
    rw [g2] at d3 d5 d6
    exact ⟨⟨by omega, d5⟩, by omega, d6⟩
  | none =>
    obtain ⟨cc, g1, g2⟩ := g
    obtain ⟨p1, q1, d1, d2, d3⟩ := x3.all _ g1
    cases cc with
    | inl y => cases g2
    | inr y =>
      cases g2
      obtain ⟨f1, f2, f3, f4⟩ := d3
      have := f4.le
      exact ⟨⟨by omega, f2⟩, by omega, f3⟩
theorem z_wex.isn {p r : Nat} {L : z_Ex} (h : z_wex kd p r L) (hr : r ≤ n) {e : Bool × Nat × Nat} (he : e ∈ L) (h2 : e.2.1 = 2) : z_isn n kd e.2.2 ∧ z_isn n kd (e.2.2 + 2) := by
  obtain ⟨g1, g2, g3⟩ := h e he
  rcases g3 with ⟨g3, -⟩ | ⟨g3, -⟩ | ⟨-, d1, d2, d3, d4⟩
  · omega
  · omega
  · exact ⟨⟨by omega, d1⟩, by omega, d3⟩
theorem q_te.isn {y : z_Se} {p r : Nat} (h : z_wse kd p r y) (hr : r ≤ n) {wi : Option Nat} {e : Bool × Nat × Nat} (g : q_te y wi e) (h2 : e.2.1 = 2) : z_isn n kd e.2.2 ∧ z_isn n kd (e.2.2 + 2) := by
  obtain ⟨h1, a, b, x1, x2, x3⟩ := h
  have l3 := x3.le
  have l2 := x2.le
  have cb : ∀ {p q : Nat} {bb : z_Bs}, z_wb kd p q bb → q ≤ n → e ∈ bb.1 ++ bb.2.2 → z_isn n kd e.2.2 ∧ z_isn n kd (e.2.2 + 2) := fun w hq he => by
    rcases List.mem_append.mp he with q | q
    · exact w.1.isn hq q h2
    · exact w.2.1.isn hq q h2
  rcases g with ⟨h1, it, g1, g2⟩ | ⟨bb, g1, g2, g3⟩ | ⟨z, g1, g2, bb, g3, g4⟩
  · obtain ⟨p1, q1, d1, d2, d3, d4⟩ := x1.all _ g1
    exact d3.isn (by omega) g2 h2
  · obtain ⟨p1, q1, d1, d2, d3⟩ := x3.all _ g1
    exact cb d3 (by omega) g3
  · obtain ⟨p1, q1, d1, d2, d3⟩ := x3.all _ g1
    obtain ⟨f1, f2, f3, f4⟩ := d3
    obtain ⟨p2, q2, k1, k2, k3⟩ := f4.all _ g3
    exact cb k3 (by omega) g4
end
