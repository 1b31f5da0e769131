/-! THE REFERENCE READS A NOT EXISTS -/
def z_one (kd : Nat → Nat) (vl : Nat → Int64) (r : z_P) : z_P := match r with
  | .inl q => .inl q
  | .inr q => if kd q = 37 ∧ vl q ≠ 1 then .inl q else .inr q
/-- the place of the source's name -/
def z_neh (kd : Nat → Nat) (vl : Nat → Int64) (p : Nat) : z_P := z_ndr kd 4 (z_ndr kd 37 (z_one kd vl (z_ndr kd 3 (z_ndr kd 26 (z_ndr kd 8 (.inr (p + 1)))))))
def z_new (kd : Nat → Nat) (vl : Nat → Int64) (p : Nat) : List z_Bs × z_P := match (z_skr kd 5 (z_sor kd (z_neh kd vl p))) with
  | (true, .inr q) => z_cil kd 2 q
  | (_, r) => ([], r)
def z_ner (kd : Nat → Nat) (vl : Nat → Int64) (p : Nat) : (Nat × List z_Bs) × z_P := ((z_pk (z_neh kd vl p), (z_new kd vl p).1), z_ndr kd 27 (z_new kd vl p).2)
section
variable {n : Nat} {kd pl : Nat → Nat} {vl : Nat → Int64}
/-- two states alike but for the reader's place -/
def M_as (u u' : g_St) : Prop := (∀ a, g_AI u' a = g_AI u a) ∧ ∀ x, x ≠ 577 → x ≠ 833 → x ≠ 897 → g_I u' x 1 = g_I u x 1
theorem M_as.re {u : g_St} : M_as u u := ⟨fun _ => rfl, fun _ _ _ _ => rfl⟩
theorem M_as.trans {u v w : g_St} (h : M_as u v) (g : M_as v w) : M_as u w := ⟨fun a => (g.1 a).trans (h.1 a), fun x a b c => (g.2 x a b c).trans (h.2 x a b c)⟩
theorem z_W.as {u v : g_St} (h : z_W [577, 833, 897] [] u v) : M_as u v := ⟨fun a => (h.2.2.2.2.2.2.2.2 a (by simp)).1, fun x q1 q2 q3 => h.2.2.2.2.2.2.2.1 x 1 (fun q => by have := q.2; simp at this; omega)⟩
theorem m_neh (hk : ∀ i, kd i < 40) (hn : n ≤ 400) (hend : ∀ p, p ≤ n → kd p ≠ 38 → p < n) {s : g_St} (hm : m_Fix s) (ht : z_tkM s n kd pl vl) {p : Nat} (ha : z_ps s pl n (.inr (p + 1))) (x : Int32) : ∃ t, m_Fix t ∧ z_tkM t n kd pl vl ∧ z_ps t pl n (z_neh kd vl p) ∧ M_as s t ∧
    (g_c (g_nn (some 1) (f_M_need (some 1) 9 s)) fun _ s11 => g_c (g_nn (some 1) (f_M_needSign (some 1) 40 s11)) fun _ s13 => g_c (g_nn (some 1) (f_M_need (some 1) 4 s13)) fun _ s15 => g_c (g_nn (some 1) (f_M_is (some 1) 31 s15)) fun i16 s17 => if i16 = 0 then f_M_readNotExists_95 (some 1) x s17 else g_gR s17 769 (some 1) fun p18 => g_gI s17 577 (some 1) fun i19 => g_aL s17 p18 i19 fun j20 => if j20 = 1 then f_M_readNotExists_95 (some 1) x s17 else g_gR s17 705 (some 1) fun p21 => g_gI s17 577 (some 1) fun i22 => g_aI s17 p21 i22 fun i23 => g_c (g_nn (some 1) (f_M_note (some 1) 1 i23 s17)) fun _ s25 => f_M_readNotExists_95 (some 1) x s25) =
    (g_gR t 4161 (some 1) fun p5 => g_gI t 3585 (some 1) fun i6 => g_sI t p5 x i6 fun s7 => g_c (g_nn (some 1) (f_M_readSource (some 1) s7)) fun _ s9 => g_c (g_nn (some 1) (f_M_skip (some 1) 6 s9)) fun i10 s11 => if i10 = 0 then f_M_readNotExists_201 (some 1) x s11 else f_M_readNotExists_133 200000 (some 1) x 1 s11) := by
  obtain ⟨v1, s11, a1, a2, a3, a4, a5, -⟩ := m_ndr hk hn hend hm ht ha (k := 8) (by decide)
  obtain ⟨s13, b1, b2, b3, b4, b5⟩ := m_ndS hk hn hend a2 a3 a4 (k := 26) (by decide) (c := 40) rfl
  obtain ⟨v3, s15, c1, c2, c3, c4, c5, -⟩ := m_ndr hk hn hend b2 b3 b4 (k := 3) (by decide)
  have h15 : M_as s s15 := (a5.as.trans b5.as).trans c5.as
  -- the number
  have num : ∃ t, m_Fix t ∧ z_tkM t n kd pl vl ∧ z_ps t pl n (z_one kd vl (z_ndr kd 3 (z_ndr kd 26 (z_ndr kd 8 (.inr (p + 1)))))) ∧ M_as s15 t ∧ (g_c (g_nn (some 1) (f_M_is (some 1) 31 s15)) fun i16 s17 => if i16 = 0 then f_M_readNotExists_95 (some 1) x s17 else g_gR s17 769 (some 1) fun p18 => g_gI s17 577 (some 1) fun i19 => g_aL s17 p18 i19 fun j20 => if j20 = 1 then f_M_readNotExists_95 (some 1) x s17 else g_gR s17 705 (some 1) fun p21 => g_gI s17 577 (some 1) fun i22 => g_aI s17 p21 i22 fun i23 => g_c (g_nn (some 1) (f_M_note (some 1) 1 i23 s17)) fun _ s25 => f_M_readNotExists_95 (some 1) x s25) = f_M_readNotExists_95 (some 1) x t := by
    cases hz : z_ndr kd 3 (z_ndr kd 26 (z_ndr kd 8 (.inr (p + 1)))) with
    | inl q =>
      rw [hz] at c4
      refine ⟨s15, c2, c3, c4, M_as.re, ?_⟩
      rw [x_nn, pM_isS c4.1.1, x_c, if_pos rfl]
    | inr q =>
      rw [hz] at c4
      have hq : q ≤ n := c4.2
      rw [x_nn, show (31 : Int32) = z_km 37 from rfl, pM_is c2 c3 hk hn hq c4.1.1 c4.1.2 (by decide)]
      by_cases w : kd q = 37
      · have hqn := hend q hq (by omega)
        rw [if_pos w, x_c, if_neg (by decide), x_gR, (c2 _ m_k769).1, x_gI, c4.1.2, x_aL (by omega) (by rw [(c2 _ m_k769).2]; show q < 402; omega), (c3 q hq).2.2 hqn]
        by_cases w1 : vl q = 1
        · refine ⟨s15, c2, c3, ?_, M_as.re, by rw [if_pos w1]⟩
          unfold z_one
          simp only []
          rw [if_neg (fun y => y.2 w1)]
          exact c4
        · rw [if_neg w1, x_gR, (c2 _ m_k705).1, x_gI, c4.1.2, x_aI (by omega) (by rw [(c2 _ m_k705).2]; show q < 402; omega), (c3 q hq).2.1, x_nn, pM_note1 c4.1.1, x_c]
          refine ⟨g_setI (g_setI s15 833 1 1) 897 1 (Int32.ofNat (pl q)), c2, c3, ?_, ⟨fun _ => rfl, fun y q1 q2 q3 => ?_⟩, rfl⟩
          · unfold z_one
            simp only []
            rw [if_pos ⟨w, w1⟩]
            refine ⟨⟨?_, ?_, ?_⟩, hq⟩
            · rw [x_I_I, if_neg (fun q => by have := q.1; omega), x_I_I, if_pos ⟨rfl, rfl⟩]
            · rw [x_I_I, if_pos ⟨rfl, rfl⟩]
            · rw [x_I_I, if_neg (fun q => by have := q.1; omega), x_I_I, if_neg (fun q => by have := q.1; omega)]; exact c4.1.2
          · rw [x_I_I, if_neg (fun w => q3 w.1), x_I_I, if_neg (fun w => q2 w.1)]
      · refine ⟨s15, c2, c3, ?_, M_as.re, by rw [if_neg w, x_c, if_pos rfl]⟩
        unfold z_one
        simp only []
        rw [if_neg (fun y => w y.1)]
        exact c4
  obtain ⟨t, d1, d2, d3, d4, d5⟩ := num
  obtain ⟨v5, t2, e1, e2, e3, e4, e5, -⟩ := m_ndr hk hn hend d1 d2 d3 (k := 37) (by decide)
  obtain ⟨v6, t4, f1, f2, f3, f4, f5, -⟩ := m_ndr hk hn hend e2 e3 e4 (k := 4) (by decide)
  refine ⟨t4, f2, f3, f4, ((h15.trans d4).trans e5.as).trans f5.as, ?_⟩
  rw [x_nn, show (9 : Int32) = z_km 8 from rfl, a1, x_c, x_nn, b1, x_c, x_nn, show (4 : Int32) = z_km 3 from rfl, c1, x_c, d5]
  unfold f_M_readNotExists_95
  rw [x_nn, show (31 : Int32) = z_km 37 from rfl, e1, x_c, x_nn, show (5 : Int32) = z_km 4 from rfl, f1, x_c]
end
