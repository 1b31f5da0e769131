/-! THE QUERY AS THE RUN HAS IT: selections of the engine -/
theorem z_S_lt {α : Type} (f : α → Nat) (d : α) : ∀ (l : List α) (m m' : Nat), m < m' → m' ≤ l.length → z_S f (l.take m) + f (l.getD m d) ≤ z_S f (l.take m') := by
  intro l
  induction l with
  | nil => intro m m' h1 h2; have : ([] : List α).length = 0 := rfl; omega
  | cons a l ih =>
    intro m m' h1 h2
    have hl : (a :: l).length = l.length + 1 := rfl
    obtain ⟨m', rfl⟩ : ∃ k, m' = k + 1 := ⟨m' - 1, by omega⟩
    have s : ∀ k, z_S f ((a :: l).take (k + 1)) = f a + z_S f (l.take k) := fun k => by
      rw [List.take_succ_cons]
      unfold z_S
      rw [List.map_cons, List.sum_cons]
    cases m with
    | zero =>
      rw [s, List.take_zero]
      show 0 + f a ≤ _
      omega
    | succ m =>
      rw [s, s]
      have := ih m m' (by omega) (by omega)
      show f a + z_S f (l.take m) + f (l.getD m d) ≤ _
      omega
def t_so (u : g_St) (b : Nat → Nat) (x : z_Qu) (s k : Nat) : Option Nat := if k < (z_sv x s).2.2.2.1.length then E_srO u ((b 8 + s) * 64 + 8) none (some k) else none
def t_lv (u v : g_St) (b : Nat → Nat) (s i : Nat) : Nat := match g_R u 520 ((b 8 + s) * 64 + 8) with
  | none => 0
  | some B => match g_AR u B i with
    | none => 0
    | some co => (g_I v 394 co).toNatClampNeg
/-- a condition of a selection -/
def t_cn (u : g_St) (b : Nat → Nat) (x : z_Qu) (s m co : Nat) : Prop := m < (z_sv x s).2.2.2.2.length ∧ ∃ B, g_R u 520 ((b 8 + s) * 64 + 8) = some B ∧ g_AR u B m = some co
/-- the selection of a condition -/
def t_cS (u : g_St) (co : Nat) : Option Nat := match g_R u 202 co with
  | some r => g_R u 9 r
  | none => match g_R u 74 co with
    | some t => g_R u 139 t
    | none => none
section
variable {n q : Nat} {kd pl nw nv : Nat → Nat} {wd vl : Nat → Int64} {c : z_Cx} {A O : Nat} {b : Nat → Nat} {x : z_Qu} {tc : Nat} {cols : Nat → Nat} {xs ys : List Nat} {u v : g_St}
theorem t_cn_at (Q : E_qu pl wd c u A O b x) {s m co : Nat} (hs : s < (z_sels x).length) (h : t_cn u b x s m co) : ∃ k i j, co = k * 64 + 10 ∧ (b 11 ≤ i ∧ b 9 ≤ j) ∧ E_co pl wd u k i j (b 28) (some ((b 8 + s) * 64 + 8)) ((z_sv x s).2.2.2.2.getD m z_co0) := by
  obtain ⟨i, k, j, s1, s2, s3⟩ := k_sel Q hs
  obtain ⟨e1, e2, e3, e4, e5, e6, a26, a23, a27, a28, e7, e8, e9, e10, e11, e12⟩ := s3
  obtain ⟨hm, B, h1, h2⟩ := h
  rw [e8.2.2.2] at h1
  cases h1
  obtain ⟨g1, g2⟩ := e12 m hm
  rw [g1] at h2
  cases h2
  exact ⟨_, _, _, rfl, by omega, g2⟩
theorem t_cn_S (Q : E_qu pl wd c u A O b x) {s m co : Nat} (hs : s < (z_sels x).length) (h : t_cn u b x s m co) : t_cS u co = some ((b 8 + s) * 64 + 8) := by
  obtain ⟨k, i, j, h1, h2, g1, g2, g3⟩ := t_cn_at Q hs h
  rw [h1]
  unfold t_cS
  cases hc : (z_sv x s).2.2.2.2.getD m z_co0 with
  | inl y =>
    rw [hc] at g3
    obtain ⟨f1, a1, a2, a3, a4, a5⟩ := g3
    rw [f1, a2]
    have := (a3 0 a4).1.2.2.1
    exact this
  | inr y =>
    rw [hc] at g3
    obtain ⟨-, f2, f3, f4, -⟩ := g3
    rw [f2]
    exact f4.1
theorem t_cn_u (Q : E_qu pl wd c u A O b x) {s s' m m' co : Nat} (hs : s < (z_sels x).length) (hs' : s' < (z_sels x).length) (h : t_cn u b x s m co) (h' : t_cn u b x s' m' co) : s = s' := by
  have a := t_cn_S Q hs h
  rw [t_cn_S Q hs' h'] at a
  have := Option.some.inj a
  omega
theorem t_ter (Q : E_qu pl wd c u A O b x) {a co : Nat} (h1 : b 11 ≤ a) (h2 : a < g_cnt u 11) (h3 : g_R u 203 (a * 64 + 11) = some co) : ∃ s m, s < (z_sels x).length ∧ t_cn u b x s m co ∧ g_R u 139 (a * 64 + 11) = some ((b 8 + s) * 64 + 8) := by
  rcases k_cov11 Q h1 h2 with ⟨s, i, k, j, ⟨s1, s2, s3⟩, s4, s5⟩ | ⟨y, m, y1, y2, y3⟩
  · obtain ⟨e1, e2, e3, e4, e5, e6, a26, a23, a27, a28, e7, e8, e9, e10, e11, e12⟩ := s3
    by_cases w : a < i + z_nti (z_sv x s).2.2.1
    · exfalso
      obtain ⟨m, m1, m2, m3⟩ := z_cov (fun x : z_It => x.2.length) z_it0 (z_sv x s).2.2.1 i a s4 w
      obtain ⟨f1, f2, f3⟩ := e10 m m1
      have hz : z_nti ((z_sv x s).2.2.1.take m) = z_S (fun x : z_It => x.2.length) ((z_sv x s).2.2.1.take m) := rfl
      rcases f3 with ⟨g1, g2⟩ | ⟨g1, g2, g3, g4⟩
      · rw [g2] at m3
        exact absurd m3 (by show ¬ a < _ + 0; omega)
      · have m3' : a < i + z_nti ((z_sv x s).2.2.1.take m) + ((z_sv x s).2.2.1.getD m z_it0).2.length := m3
        have g := (g4 (a - (i + z_nti ((z_sv x s).2.2.1.take m))) (by omega)).1
        rw [show i + z_nti ((z_sv x s).2.2.1.take m) + (a - (i + z_nti ((z_sv x s).2.2.1.take m))) = a by omega] at g
        have := g.2.2.2.1
        rw [this] at h3
        cases h3
    · have s5' : a < i + z_nti (z_sv x s).2.2.1 + z_S z_nto (z_sv x s).2.2.2.2 := by
        have : z_nts (z_sv x s).2 = z_nti (z_sv x s).2.2.1 + z_S z_nto (z_sv x s).2.2.2.2 := rfl
        omega
      obtain ⟨m, m1, m2, m3⟩ := z_cov z_nto z_co0 _ _ a (by omega) s5'
      obtain ⟨g1, g2, g3, g4⟩ := e12 m m1
      have hz : z_ntc ((z_sv x s).2.2.2.2.take m) = z_S z_nto ((z_sv x s).2.2.2.2.take m) := rfl
      have fin : ∀ e, E_te pl wd u (a * 64 + 11) (some ((b 8 + s) * 64 + 8)) (some ((k + z_ncc ((z_sv x s).2.2.2.2.take m)) * 64 + 10)) e → ∃ s m, s < (z_sels x).length ∧ t_cn u b x s m co ∧ g_R u 139 (a * 64 + 11) = some ((b 8 + s) * 64 + 8) := fun e te => by
        have t4 := te.2.2.2.1
        rw [t4] at h3
        cases h3
        exact ⟨s, m, s1, ⟨m1, _, e8.2.2.2, g1⟩, te.2.2.1⟩
      cases hc : (z_sv x s).2.2.2.2.getD m z_co0 with
      | inl y =>
        rw [hc] at m3 g4
        obtain ⟨f1, f2⟩ := g4
        have m3' : a < i + z_nti (z_sv x s).2.2.1 + z_S z_nto ((z_sv x s).2.2.2.2.take m) + z_nb y := m3
        obtain ⟨e, n1, n2⟩ := k_tcb f2 (a := a) (by omega) (by omega)
        exact fin e n2
      | inr y =>
        rw [hc] at m3 g4
        obtain ⟨-, f2, f3, f4, -, -, -, f5⟩ := g4
        have m3' : a < i + z_nti (z_sv x s).2.2.1 + z_S z_nto ((z_sv x s).2.2.2.2.take m) + z_S z_nb y.2 := m3
        obtain ⟨l, l1, l2, l3⟩ := z_cov z_nb z_bs0 y.2 (i + z_nti (z_sv x s).2.2.1 + z_ntc ((z_sv x s).2.2.2.2.take m)) a (by omega) (by omega)
        have hz2 : z_nbs (y.2.take l) = z_S z_nb (y.2.take l) := rfl
        obtain ⟨e, n1, n2⟩ := k_tcb (f5 l l1) (a := a) (by omega) (by omega)
        exact fin e n2
  · exfalso
    have qr := Q.2.2.2.2.2.2
    rw [y1] at qr
    obtain ⟨r1, r2, r3, r4, r5⟩ := qr
    obtain ⟨g1, g2, g3⟩ := r5 m y2
    rw [← y3] at g3
    have := g3.2.2.2.1
    rw [this] at h3
    cases h3
/-- levels of the conditions -/
theorem t_clv1 (C : t_C n q kd pl nw nv wd vl c A O b x tc cols xs ys u v) {s m co : Nat} (hs : s < (z_sels x).length) (h : t_cn u b x s m co) : g_I v 394 co = Int32.ofNat (t_lv u v b s m) ∧ t_lv u v b s m ≤ (z_sv x s).2.2.2.1.length := by
  have h3 := C.h3 s hs
  obtain ⟨NM, N, S, W, hq, D, LV, -⟩ := C
  obtain ⟨k, i, j, k1, k2, g1, g2, -⟩ := t_cn_at S.1 hs h
  obtain ⟨L, l1, l2⟩ := LV.1 co (by rw [k1]; exact g2)
  have lle : L ≤ (z_sv x s).2.2.2.1.length := by
    rcases l2 with l2 | ⟨i', i1, s', wi, t, sl, T, t1, t2, t3⟩
    · omega
    · have hy : ys.getD i' 0 ∈ ys := z_getD_m i1
      obtain ⟨ja, ja1, ja2, ja3, -⟩ := (S.2.2.2.2.1 _).mp hy
      obtain ⟨T1, T2, T3, -⟩ := T
      rw [ja3] at T2 T3
      obtain ⟨s'', m'', b1, b2, b3⟩ := t_ter S.1 ja1 ja2 T3
      rw [T2] at b3
      have e1 : s'' = s' := by have := Option.some.inj b3; omega
      have e2 := t_cn_u S.1 hs b1 h b2
      rw [← e1, ← e2] at t1
      rcases z_slt_lt t1 with g | ⟨g, -⟩
      · omega
      · exact absurd g t2
  have el : t_lv u v b s m = L := by
    obtain ⟨hm, B, B1, B2⟩ := h
    unfold t_lv
    rw [B1]
    simp only []
    rw [B2]
    simp only []
    rw [l1, Int32.toNatClampNeg_ofNat_of_lt (by omega)]
  rw [el]
  exact ⟨l1, lle⟩
theorem t_cn_ex (Q : E_qu pl wd c u A O b x) {s m : Nat} (hs : s < (z_sels x).length) (hm : m < (z_sv x s).2.2.2.2.length) : ∃ co, t_cn u b x s m co := by
  obtain ⟨i, k, j, s1, s2, s3⟩ := k_sel Q hs
  obtain ⟨e1, e2, e3, e4, e5, e6, a26, a23, a27, a28, e7, e8, e9, e10, e11, e12⟩ := s3
  exact ⟨_, hm, _, e8.2.2.2, (e12 m hm).1⟩
theorem t_clv (C : t_C n q kd pl nw nv wd vl c A O b x tc cols xs ys u v) : t_lvok nw x (t_lv u v b) := by
  intro s hs i hi
  have h3 := C.h3 s hs
  obtain ⟨co, hco⟩ := t_cn_ex C.2.2.1.1 hs hi
  obtain ⟨L1, L2⟩ := t_clv1 C hs hco
  refine ⟨L2, fun wi e he h2 sl hsl ne => ?_⟩
  obtain ⟨NM, N, S, W, hq, D, LV, -⟩ := C
  obtain ⟨p, r, hr, hwf⟩ := z_sv_w W hq hs
  obtain ⟨k, i', j, k1, k2, g1, g2, g3⟩ := t_cn_at S.1 hs hco
  have mem := z_getD_m (d := z_co0) hi
  have fin : ∀ a, b 11 ≤ a → a < g_cnt u 11 → E_te pl wd u (a * 64 + 11) (some ((b 8 + s) * 64 + 8)) (some co) e → E_tp pl wd u (b 9) (some ((b 8 + s) * 64 + 8)) (some co) wi → q_te (z_sv x s).2 wi e → sl < t_lv u v b s i := fun a a1 a2 te tp qt => by
    obtain ⟨f1, f2, f3, f4, f5, f6, f7, f8, f9, f10, f11, f12⟩ := te
    obtain ⟨i1', i2'⟩ := qt.isn hwf hr h2
    obtain ⟨d1, d2, d3⟩ := f7 h2
    have hy : (a * 64 + 11) ∈ ys := (S.2.2.2.2.1 _).mpr ⟨a, a1, a2, rfl, by rw [d2]; exact d3⟩
    obtain ⟨l, l1, l2⟩ := z_mgd 0 hy
    have tf : E_tff n kd pl wd b x u (ys.getD l 0) s wi (some co) e.2.2 := by
      rw [l2]
      exact ⟨hs, f3, f4, tp, d1, d2, i1', i2', fun w hw' => (qt.wi hw').isn hwf hr⟩
    obtain ⟨L, m1, m2, m3⟩ := LV.2 l l1 s wi co e.2.2 sl tf hsl ne
    rw [L1, x_eq (by omega) (by omega)] at m1
    omega
  generalize (z_sv x s).2.2.2.2.getD i z_co0 = cc at g3 he mem
  cases cc with
  | inl bb =>
    obtain ⟨f1, f2⟩ := g3
    have he' : wi = none ∧ e ∈ bb.1 ++ bb.2.2 := he
    obtain ⟨a, n1, n2, n3⟩ := k_tcb' f2 he'.2
    rw [← k1] at n3
    refine fin a (by omega) n2 n3 ?_ (Or.inr (Or.inl ⟨bb, mem, he'.1, he'.2⟩))
    rw [he'.1]
    exact Or.inr ⟨_, rfl, by rw [k1]; exact f1, by rw [k1]; exact g2⟩
  | inr z =>
    obtain ⟨-, f2, f3, f4, -, -, -, f5⟩ := g3
    have he' : wi = some z.1 ∧ ∃ bb ∈ z.2, e ∈ bb.1 ++ bb.2.2 := he
    obtain ⟨w1, bb, w2, w3⟩ := he'
    obtain ⟨l, l1, l2⟩ := z_mgd z_bs0 w2
    have f6 := f5 l l1
    rw [l2] at f6
    obtain ⟨a, n1, n2, n3⟩ := k_tcb' f6 w3
    rw [← k1] at n3
    refine fin a (by omega) n2 n3 ?_ (Or.inr (Or.inr ⟨z, mem, w1, bb, w2, w3⟩))
    rw [w1]
    exact ⟨_, _, rfl, by rw [k1]; exact f2, k2.2, ⟨f3, by rw [k1]; exact g2⟩, f4⟩
end
