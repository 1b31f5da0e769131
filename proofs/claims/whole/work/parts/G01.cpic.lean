/-! THE QUERY AS THE RUN HAS IT: the engine -/
/-- lengths of expressions (the reference has room for them) -/
def t_205 (x : z_Qu) : Prop := ∀ s, s < (z_sels x).length → (∀ it ∈ (z_sv x s).2.2.1, it.2.length ≤ 205) ∧ (∀ bb, .inl bb ∈ (z_sv x s).2.2.2.2 → bb.1.length ≤ 205 ∧ bb.2.2.length ≤ 205) ∧ ∀ z : Nat × List z_Bs, .inr z ∈ (z_sv x s).2.2.2.2 → ∀ bb ∈ z.2, bb.1.length ≤ 205 ∧ bb.2.2.length ≤ 205
/-- all that is known of the engine behind prepare -/
def t_C (n q : Nat) (kd pl nw nv : Nat → Nat) (wd vl : Nat → Int64) (c : z_Cx) (A O : Nat) (b : Nat → Nat) (x : z_Qu) (tc : Nat) (cols : Nat → Nat) (xs ys : List Nat) (u v : g_St) : Prop := z_NM n kd wd vl nw nv ∧ t_nf nw pl x tc cols ∧ E_S pl wd c A O b x tc cols xs ys u ∧ z_wqu kd q x ∧ q ≤ n ∧ E_D n kd pl nw wd c b x tc cols xs ys u v ∧ E_lvN n kd pl nw wd b x ys ys.length u v ∧ t_205 x
section
variable {n q : Nat} {kd pl nw nv : Nat → Nat} {wd vl : Nat → Int64} {c : z_Cx} {A O : Nat} {b : Nat → Nat} {x : z_Qu} {tc : Nat} {cols : Nat → Nat} {xs ys : List Nat} {u v : g_St}
theorem t_C.hw (C : t_C n q kd pl nw nv wd vl c A O b x tc cols xs ys u v) : ∀ k, k < x.2.1.length → (x.2.1.getD k z_pa0).2.1.length ≤ 3 := fun k hk => (C.2.2.1.1.2.2.1 k hk).2.2.2.2.1.1
theorem t_C.hcl (C : t_C n q kd pl nw nv wd vl c A O b x tc cols xs ys u v) : ∀ t, t < tc → cols t ≤ 3 := fun t ht => by
  obtain ⟨r, -, -, h⟩ := C.2.2.1.2.2.2.2.2.2.2 t ht
  exact h
theorem t_C.h3 (C : t_C n q kd pl nw nv wd vl c A O b x tc cols xs ys u v) : ∀ s, s < (z_sels x).length → (z_sv x s).2.2.2.1.length ≤ 3 := fun s hs => by
  obtain ⟨i, k, j, s1, s2, s3⟩ := k_sel C.2.2.1.1 hs
  exact s3.2.2.2.2.2.1.2.1
theorem z_wex.num {p r : Nat} {L : z_Ex} (h : z_wex kd p r L) (hr : r ≤ n) {e : Bool × Nat × Nat} (he : e ∈ L) (h2 : e.2.1 = 0) : e.2.2 < n ∧ kd e.2.2 = 37 := by
  obtain ⟨g1, g2, g3⟩ := h e he
  rcases g3 with ⟨-, g4⟩ | ⟨g3, -⟩ | ⟨g3, -⟩
  · exact ⟨by omega, g4⟩
  · omega
  · omega
theorem q_te.num {y : z_Se} {p r : Nat} (h : z_wse kd p r y) (hr : r ≤ n) {wi : Option Nat} {e : Bool × Nat × Nat} (g : q_te y wi e) (h2 : e.2.1 = 0) : e.2.2 < n ∧ kd e.2.2 = 37 := by
  obtain ⟨h1, a, b, x1, x2, x3⟩ := h
  have l3 := x3.le
  have l2 := x2.le
  have cb : ∀ {p q : Nat} {bb : z_Bs}, z_wb kd p q bb → q ≤ n → e ∈ bb.1 ++ bb.2.2 → e.2.2 < n ∧ kd e.2.2 = 37 := fun w hq he => by
    rcases List.mem_append.mp he with q | q
    · exact w.1.num hq q h2
    · exact w.2.1.num hq q h2
  rcases g with ⟨h1, it, g1, g2⟩ | ⟨bb, g1, g2, g3⟩ | ⟨z, g1, g2, bb, g3, g4⟩
  · obtain ⟨p1, q1, d1, d2, d3, d4⟩ := x1.all _ g1
    exact d3.num (by omega) g2 h2
  · obtain ⟨p1, q1, d1, d2, d3⟩ := x3.all _ g1
    exact cb d3 (by omega) g3
  · obtain ⟨p1, q1, d1, d2, d3⟩ := x3.all _ g1
    obtain ⟨f1, f2, f3, f4⟩ := d3
    obtain ⟨p2, q2, k1, k2, k3⟩ := f4.all _ g3
    exact cb k3 (by omega) g4
/-- the sources that a term may name -/
def t_hso (u : g_St) (b : Nat → Nat) (x : z_Qu) (s : Nat) (wi top : Option Nat) (so : Nat → Option Nat) : Prop := ∀ sl, (sl < (z_sv x s).2.2.2.1.length ∨ (sl = 3 ∧ ∃ w, wi = some w)) → ∃ r, so sl = some r ∧ E_srO u ((b 8 + s) * 64 + 8) top (some sl) = some r
theorem t_cop (C : t_C n q kd pl nw nv wd vl c A O b x tc cols xs ys u v) {s i : Nat} (hs : s < (z_sels x).length) {wi top : Option Nat} {e : Bool × Nat × Nat} (ht : q_te (z_sv x s).2 wi e) (i1 : b 11 ≤ i) (i2 : i < g_cnt u 11) (T : E_te pl wd u (i * 64 + 11) (some ((b 8 + s) * 64 + 8)) top e) (P : E_tp pl wd u (b 9) (some ((b 8 + s) * 64 + 8)) top wi) {so : Nat → Option Nat} (hso : t_hso u b x s wi top so) : X_op v so (i * 64 + 11) (t_op nw vl x tc cols (z_sv x s).2.2.2.1 wi e) := by
  have hw := C.hw
  have hcl := C.hcl
  have h3 := C.h3 s hs
  obtain ⟨NM, N, S, W, hq, D, -⟩ := C
  obtain ⟨p, r, hr, hwf⟩ := z_sv_w W hq hs
  obtain ⟨f1, f2, f3, f4, f5, f6, f7, f8, f9, f10, f11, f12⟩ := T
  have V := D.1
  refine ⟨by rw [V.I (by decide)]; exact f1, ?_⟩
  by_cases k2 : e.2.1 = 2
  · obtain ⟨c0, c1, c2⟩ := t_nf_te N hs ht k2
    obtain ⟨sl, m, s1, s2, s3, s4, s5, s6⟩ := t_term hw h3 c1 c2
    have e1 : (t_op nw vl x tc cols (z_sv x s).2.2.2.1 wi e).2 = .inr (sl, c0) := by
      show (if e.2.1 = 2 then Sum.inr ((z_slt nw (z_sv x s).2.2.2.1 e.2.2 wi).getD 0, (z_tcl nw x.2.1 tc cols (z_sv x s).2.2.2.1 wi e.2.2).getD 0) else _) = _
      rw [if_pos k2, s1, c1]
      rfl
    rw [e1]
    obtain ⟨i1', i2'⟩ := ht.isn hwf hr k2
    obtain ⟨g1, g2, g3⟩ := f7 k2
    have hy : (i * 64 + 11) ∈ ys := (S.2.2.2.2.1 _).mpr ⟨i, i1, i2, rfl, by rw [g2]; exact g3⟩
    have tf : E_tff n kd pl wd b x u (i * 64 + 11) s wi top e.2.2 := ⟨hs, f3, f4, P, g1, g2, i1', i2', fun w hw' => (ht.wi hw').isn hwf hr⟩
    obtain ⟨r1, r2⟩ := D.2.2.1.1 _ hy s wi top e.2.2 tf
    rw [s1] at r1
    rw [c1] at r2
    obtain ⟨rr, q1, q2⟩ := hso sl (z_slt_lt s1)
    exact ⟨rr, q1, by rw [r1]; exact q2, r2, (t_WV hw hcl s3 s5).2⟩
  · have e1 : (t_op nw vl x tc cols (z_sv x s).2.2.2.1 wi e).2 = .inl (if e.2.1 = 1 then r_N else vl e.2.2) := if_neg k2
    rw [e1]
    have hy : (i * 64 + 11) ∉ ys := fun h => by
      obtain ⟨j, -, -, j3, j4⟩ := (S.2.2.2.2.1 _).mp h
      exact j4 (f8 k2)
    refine ⟨by rw [D.2.2.1.2 _ hy]; exact f9, ?_⟩
    rw [V.L]
    by_cases k1 : e.2.1 = 1
    · rw [if_pos k1, f5 k1]
    · rw [if_neg k1, f6 (by omega)]
      obtain ⟨z1, z2⟩ := ht.num hwf hr (by omega)
      exact (NM.2.2.2.2 e.2.2 z1 z2).1
theorem t_cex (C : t_C n q kd pl nw nv wd vl c A O b x tc cols xs ys u v) {s i : Nat} (hs : s < (z_sels x).length) {wi top : Option Nat} {L : z_Ex} (hL : ∀ e ∈ L, q_te (z_sv x s).2 wi e) (l1 : 1 ≤ L.length) (l2 : L.length ≤ 205) (i1 : b 11 ≤ i) (i2 : i + L.length ≤ g_cnt u 11) (T : E_ex pl wd u i (some ((b 8 + s) * 64 + 8)) top L) (P : E_tp pl wd u (b 9) (some ((b 8 + s) * 64 + 8)) top wi) {so : Nat → Option Nat} (hso : t_hso u b x s wi top so) : X_ex v so i (t_ex nw vl x tc cols (z_sv x s).2.2.2.1 wi L) := by
  have ll : (t_ex nw vl x tc cols (z_sv x s).2.2.2.1 wi L).length = L.length := List.length_map _
  refine ⟨by rw [ll]; exact l1, by rw [ll]; exact l2, fun j hj => ?_⟩
  rw [ll] at hj
  obtain ⟨a1, a2⟩ := T j hj
  rw [ll, C.2.2.2.2.2.1.1.R (by decide)]
  refine ⟨?_, a2⟩
  unfold t_ex
  rw [t_gd _ hj (false, 0, 0)]
  exact t_cop C hs (hL _ (z_getD_m hj)) (by omega) (by omega) a1 P hso
theorem t_ccp (C : t_C n q kd pl nw nv wd vl c A O b x tc cols xs ys u v) {s i co : Nat} (hs : s < (z_sels x).length) {wi top : Option Nat} {bb : z_Bs} (hL : ∀ e ∈ bb.1 ++ bb.2.2, q_te (z_sv x s).2 wi e) (l2 : bb.1.length ≤ 205 ∧ bb.2.2.length ≤ 205) (i1 : b 11 ≤ i) (T : E_cb pl wd u co i (some ((b 8 + s) * 64 + 8)) top bb) (P : E_tp pl wd u (b 9) (some ((b 8 + s) * 64 + 8)) top wi) {so : Nat → Option Nat} (hso : t_hso u b x s wi top so) : X_cp v so co (t_bs nw vl x tc cols (z_sv x s).2.2.2.1 wi bb) := by
  obtain ⟨a1, a2, a3, a4, a5, a6⟩ := T
  have V := C.2.2.2.2.2.1.1
  have hz : z_nb bb = bb.1.length + bb.2.2.length := rfl
  refine ⟨i, by rw [V.R (by decide)]; exact a2, t_cex C hs (fun e he => hL e (List.mem_append_left _ he)) a4 l2.1 i1 (by omega) a3 P hso, by rw [V.R (by decide)]; exact a5, ?_⟩
  rcases a6 with ⟨b1, b2, b3⟩ | ⟨b1, b2, b3, b4⟩
  · exact Or.inl b1
  · exact Or.inr ⟨b1, _, by rw [V.R (by decide)]; exact b3, t_cex C hs (fun e he => hL e (List.mem_append_right _ he)) b2 l2.2 (by omega) (by omega) b4 P hso⟩
/-- a source has its meaning -/
theorem t_csrc (C : t_C n q kd pl nw nv wd vl c A O b x tc cols xs ys u v) {s j : Nat} (hs : s < (z_sels x).length) {sl : Option Nat} {t : Nat} (h : q_so (z_sv x s).2 sl t) (j1 : b 9 ≤ j) (j2 : j < g_cnt u 9) {sel : Option Nat} {slot : Int32} (E : E_so pl wd u j sel slot t) : X_src v x.2.1.length tc (j * 64 + 9) (t_mn nw x tc t) := by
  obtain ⟨NM, N, S, W, hq, D, -⟩ := C
  obtain ⟨p, r, hr, hwf⟩ := z_sv_w W hq hs
  obtain ⟨m, hm⟩ := t_nf_so N hs h
  obtain ⟨m1, m2⟩ := t_mn_ok hm
  obtain ⟨d1, d2⟩ := D.2.1 j t j1 j2 E.2.2.2.1 (h.isn hwf hr).1
  rw [m1]
  rw [hm] at d1 d2
  refine ⟨by omega, d1, fun q' e => ?_, fun t' e => ?_⟩
  · rw [e] at m2; exact m2
  · rw [e] at m2 d2; exact ⟨m2, d2⟩
end
