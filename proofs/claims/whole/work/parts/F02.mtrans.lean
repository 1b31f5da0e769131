/-! THE QUERY AS THE RUN HAS IT: the reference -/
def t_mc (nw : Nat → Nat) (x : z_Qu) (tc : Nat) (srs : List Nat) : Option Nat → Nat → Nat → Nat
  | none => M_mm (t_Xs nw x) (t_ms nw x tc srs)
  | some w => M_mu (t_Xs nw x) (M_mm (t_Xs nw x) (t_ms nw x tc srs)) (t_mn nw x tc w)
/-- what an operand may use -/
def t_D (nw : Nat → Nat) (x : z_Qu) (tc : Nat) (cols : Nat → Nat) (srs : List Nat) : Option Nat → Nat → Nat → Prop
  | none => fun k j => k < 3 ∧ M_dd (t_Xs nw x) cols (t_ms nw x tc srs) k j
  | some w => fun k j => (k < 3 ∧ M_dd (t_Xs nw x) cols (t_ms nw x tc srs) k j) ∨ (k = 3 ∧ r_W (t_Xs nw x) cols (t_mn nw x tc w) j)
/-- the names of an expression are known -/
def t_kn (nw : Nat → Nat) (x : z_Qu) (tc : Nat) (cols : Nat → Nat) (srs : List Nat) (wi : Option Nat) (L : z_Ex) : Prop := ∀ e ∈ L, e.2.1 = 2 → ∃ c, z_tcl nw x.2.1 tc cols srs wi e.2.2 = some c ∧ c ≠ 4
section
variable {n : Nat} {kd pl nw : Nat → Nat} {vl : Nat → Int64} {x : z_Qu} {tc : Nat} {cols : Nat → Nat} {srs : List Nat} {w : g_St}
theorem t_len (srs : List Nat) : (t_ms nw x tc srs).length = srs.length := List.length_map _
theorem t_us {wi : Option Nat} (hw : ∀ k, k < x.2.1.length → (x.2.1.getD k z_pa0).2.1.length ≤ 3) (h3 : srs.length ≤ 3) {L : z_Ex} (h : t_kn nw x tc cols srs wi L) : r_us (t_D nw x tc cols srs wi) (t_ex nw vl x tc cols srs wi L) := by
  intro o ho k j hj
  unfold t_ex at ho
  rw [List.mem_map] at ho
  obtain ⟨e, he, rfl⟩ := ho
  have hj' : (if e.2.1 = 2 then (Sum.inr ((z_slt nw srs e.2.2 wi).getD 0, (z_tcl nw x.2.1 tc cols srs wi e.2.2).getD 0) : Int64 ⊕ (Nat × Nat)) else .inl (if e.2.1 = 1 then r_N else vl e.2.2)) = .inr (k, j) := hj
  by_cases g : e.2.1 = 2
  · rw [if_pos g] at hj'
    obtain ⟨c, c1, c2⟩ := h e he g
    obtain ⟨sl, m, s1, s2, s3, s4, s5, s6⟩ := t_term hw h3 c1 c2
    rw [s1, c1] at hj'
    have hk : sl = k ∧ c = j := by
      have := Sum.inr.inj hj'
      exact ⟨(Prod.mk.inj this).1, (Prod.mk.inj this).2⟩
    rw [← hk.1, ← hk.2]
    rcases s4 with ⟨a, b⟩ | ⟨a, w, b1, b2⟩
    · have d : sl < 3 ∧ M_dd (t_Xs nw x) cols (t_ms nw x tc srs) sl c := ⟨by omega, by rw [t_len]; exact a, by rw [b]; exact s5⟩
      cases wi with
      | none => exact d
      | some w => exact Or.inl d
    · rw [b1]
      exact Or.inr ⟨a, by rw [b2]; exact s5⟩
  · rw [if_neg g] at hj'; cases hj'
theorem t_vop {wi : Option Nat} (hw : ∀ k, k < x.2.1.length → (x.2.1.getD k z_pa0).2.1.length ≤ 3) (h3 : srs.length ≤ 3) {o : Nat} (ho : o < 210) {e : Bool × Nat × Nat} (h : M_op w o e) (h2 : e.2.1 = 2 → M_rop nw w x.2.1 tc cols srs wi o e.2.2) (hk : e.2.1 = 0 ∨ e.2.1 = 1 ∨ e.2.1 = 2) (ht : e.2.2 < 402) (hv : e.2.1 = 0 → g_AL w 725 e.2.2 = vl e.2.2) (hc : e.2.1 = 2 → ∃ c, z_tcl nw x.2.1 tc cols srs wi e.2.2 = some c ∧ c ≠ 4) : M_vop w (t_mc nw x tc srs wi) o (t_op nw vl x tc cols srs wi e) := by
  obtain ⟨a1, a2, a3⟩ := h
  refine ⟨ho, ?_, ?_⟩
  · rw [a1]; rfl
  · rcases hk with g | g | g
    · have e1 : (t_op nw vl x tc cols srs wi e).2 = .inl (vl e.2.2) := by
        show (if e.2.1 = 2 then _ else Sum.inl (if e.2.1 = 1 then r_N else vl e.2.2)) = _
        rw [if_neg (by omega), if_neg (by omega)]
      rw [e1]
      exact Or.inr ⟨by rw [a2, g]; rfl, e.2.2, a3, ht, hv g⟩
    · have e1 : (t_op nw vl x tc cols srs wi e).2 = .inl r_N := by
        show (if e.2.1 = 2 then _ else Sum.inl (if e.2.1 = 1 then r_N else vl e.2.2)) = _
        rw [if_neg (by omega), if_pos g]
      rw [e1]
      exact Or.inl ⟨rfl, by rw [a2, g]; rfl⟩
    · obtain ⟨c, c1, c2⟩ := hc g
      obtain ⟨sl, m, s1, s2, s3, s4, s5, s6⟩ := t_term hw h3 c1 c2
      obtain ⟨r1, r2⟩ := h2 g
      have e1 : (t_op nw vl x tc cols srs wi e).2 = .inr (sl, c) := by
        show (if e.2.1 = 2 then Sum.inr ((z_slt nw srs e.2.2 wi).getD 0, (z_tcl nw x.2.1 tc cols srs wi e.2.2).getD 0) else _) = _
        rw [if_pos g, s1, c1]
        rfl
      rw [e1]
      rw [s1] at r1 r2
      rw [s2, c1, s6] at r2
      refine ⟨by rw [a2, g]; rfl, r1, by rcases s4 with z | z <;> omega, ?_⟩
      rw [r2]
      refine congrArg Int32.ofNat ?_
      rcases s4 with ⟨b1, b2⟩ | ⟨b1, w', b2, b3⟩
      · cases wi with
        | none => show _ = M_col (t_Xs nw x) (r_ml (t_ms nw x tc srs) sl) c; rw [b2]
        | some w' =>
          show _ = if sl = 3 then _ else M_col (t_Xs nw x) (r_ml (t_ms nw x tc srs) sl) c
          rw [if_neg (by omega), b2]
      · rw [b2]
        show _ = if sl = 3 then M_col (t_Xs nw x) (t_mn nw x tc w') c else _
        rw [if_pos b1, b3]
theorem t_vex {wi : Option Nat} (hw : ∀ k, k < x.2.1.length → (x.2.1.getD k z_pa0).2.1.length ≤ 3) (h3 : srs.length ≤ 3) {C : Nat → Nat} {tk : Nat} {ck : Nat → Nat} (K : M_ck n kd pl vl w C x tk ck) (H : z_H n kd) {e : Nat} (he : e < 210) {L : z_Ex} (hx : M_ex w (C 3073) e L) (hr : M_rex nw w x.2.1 tc cols srs wi e L) {p q : Nat} (hL : z_wex kd p q L) (hq : q ≤ n) (hc : t_kn nw x tc cols srs wi L) : M_vex w (t_mc nw x tc srs wi) e (t_ex nw vl x tc cols srs wi L) := by
  obtain ⟨o, a1, a2, a3, a4⟩ := hr
  obtain ⟨o', b1, b2, b3, b4⟩ := hx
  have l1 : (t_ex nw vl x tc cols srs wi L).length = L.length := List.length_map _
  refine ⟨he, by rw [l1]; omega, by rw [l1]; exact b2, o, a1, ?_, fun j hj => ?_⟩
  · by_cases g : L.length = 0
    · rw [a1] at b1
      have lim := K.2.2.1.2.2.2.2.2.2.2.2.2.2
      have : C 3073 ≤ 205 := lim.2.2.2.1
      omega
    · omega
  · rw [l1] at hj
    have gd : (t_ex nw vl x tc cols srs wi L).getD j r_op0 = t_op nw vl x tc cols srs wi (L.getD j (false, 0, 0)) := by
      unfold t_ex
      rw [List.getD_eq_getElem?_getD, List.getElem?_map, List.getElem?_eq_getElem hj, List.getD_eq_getElem?_getD, List.getElem?_eq_getElem hj]
      rfl
    rw [gd]
    have wf := hL _ (z_getD_m (d := (false, 0, 0)) hj)
    have n4 := H.2.1
    refine t_vop hw h3 (by omega) (a2 j hj) (a4 j hj) (by rcases wf.2.2 with z | z | z <;> omega) (by have := wf.2.1; omega) (fun g => ?_) (hc _ (z_getD_m hj))
    exact (K.2.1 _ (by have := wf.2.1; omega)).2.2 (by have := wf.2.1; omega)
/-- a comparison -/
theorem t_vcp {wi : Option Nat} (hw : ∀ k, k < x.2.1.length → (x.2.1.getD k z_pa0).2.1.length ≤ 3) (h3 : srs.length ≤ 3) {C : Nat → Nat} {tk : Nat} {ck : Nat → Nat} (K : M_ck n kd pl vl w C x tk ck) (H : z_H n kd) {c : Nat} (hc : c < 120) {b : z_Bs} (hb : M_cb w (C 3073) (C 3009) c b) (hr : M_rcb nw w x.2.1 tc cols srs wi c b) {p q : Nat} (hL : z_wb kd p q b) (hq : q ≤ n) (hk1 : t_kn nw x tc cols srs wi b.1) (hk2 : t_kn nw x tc cols srs wi b.2.2) : M_vcp w (t_mc nw x tc srs wi) c (t_bs nw vl x tc cols srs wi b) := by
  obtain ⟨⟨e1, a1, a2, a3⟩, a4⟩ := hb
  obtain ⟨⟨e1', b1, b2, b3⟩, b4⟩ := hr
  obtain ⟨w1, w2, w3, w4⟩ := hL
  have lim := K.2.2.1.2.2.2.2.2.2.2.2.2.2
  have l5 : C 3009 ≤ 205 := lim.2.2.1
  have ee : e1' = e1 := by
    rw [b2] at a2
    rw [x_eq (by omega) (by omega)] at a2
    exact a2
  rw [ee] at b3
  refine ⟨hc, ⟨e1, a2, t_vex hw h3 K H (by omega) a3 b3 w1 hq hk1⟩, ?_⟩
  show (b.2.1 = 9 ∧ _) ∨ (b.2.1 ≠ 9 ∧ _)
  rcases a4 with ⟨c1, c2⟩ | ⟨c1, c2, c3, e2, c4, c5, c6⟩
  · exact Or.inl ⟨c1, c2⟩
  · right
    refine ⟨c1, c2, ?_, ?_⟩
    · rcases b4 with b4 | ⟨e2', d1, d2, d3⟩
      · exact absurd b4 c1
      · have ee2 : e2' = e2 := by
          rw [d2] at c5
          rw [x_eq (by omega) (by omega)] at c5
          exact c5
        rw [ee2] at d3
        exact ⟨e2, c5, t_vex hw h3 K H (by omega) c6 d3 w2 hq hk2⟩
    · show (b.2.1 = 31 ∧ _) ∨ (b.2.1 = 35 ∧ _) ∨ (b.2.1 = 32 ∧ _) ∨ (b.2.1 = 33 ∧ _)
      rw [c3]
      rcases w4 with z | ⟨z | z | z | z, -⟩
      · exact absurd z.1 c1
      · exact Or.inl ⟨z, by rw [z]; rfl⟩
      · exact Or.inr (Or.inr (Or.inl ⟨z, by rw [z]; rfl⟩))
      · exact Or.inr (Or.inr (Or.inr ⟨z, by rw [z]; decide, by rw [z]; decide, by rw [z]; decide⟩))
      · exact Or.inr (Or.inl ⟨z, by rw [z]; rfl⟩)
end
