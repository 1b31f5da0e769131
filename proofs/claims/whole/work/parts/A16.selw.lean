/-! THE ENGINE READS A SELECTION, WHOLE -/
def z_nts (x : z_Se) : Nat := z_nti x.2.1 + z_ntc x.2.2.2
def z_nss (x : z_Se) : Nat := x.2.2.1.length + z_nsc x.2.2.2
def z_ncs (x : z_Se) : Nat := z_ncc x.2.2.2
def z_sep (kd : Nat → Nat) (vl : Nat → Int64) (r : z_P) : z_P := match r with
  | .inl q => .inl q
  | .inr p => (z_ser kd vl p).2
def E_se (pl : Nat → Nat) (wd : Nat → Int64) (u : g_St) (s i k j : Nat) (bb : Nat → Nat) (ow : Int32) (x : z_Se) : Prop := s < g_cnt u 8 ∧ g_I u 8 (s * 64 + 8) = ow ∧ g_I u 72 (s * 64 + 8) = Int32.ofNat (pl x.1) ∧ g_I u 648 (s * 64 + 8) = 0 ∧ E_s1 u (s * 64 + 8) x.2.1 x.2.2.1 x.2.2.2 ∧ (x.2.1.length ≤ 4 ∧ x.2.2.1.length ≤ 3 ∧ x.2.2.2.length ≤ 6) ∧ ∃ a26 a23 a27 a28, (bb 26 ≤ a26 ∧ a26 < g_cnt u 26 ∧ bb 23 ≤ a23 ∧ a23 < g_cnt u 23 ∧ bb 27 ≤ a27 ∧ a27 < g_cnt u 27 ∧ bb 28 ≤ a28 ∧ a28 < g_cnt u 28) ∧ (g_R u 136 (s * 64 + 8) = some (a26 * 64 + 26) ∧ g_R u 200 (s * 64 + 8) = some (a23 * 64 + 23) ∧ g_R u 392 (s * 64 + 8) = some (a27 * 64 + 27) ∧ g_R u 520 (s * 64 + 8) = some (a28 * 64 + 28)) ∧ (g_ln u (a26 * 64 + 26) = 4 ∧ g_ln u (a23 * 64 + 23) = 4 ∧ g_ln u (a27 * 64 + 27) = 3 ∧ g_ln u (a28 * 64 + 28) = 6) ∧ E_its pl wd u (a26 * 64 + 26) (a23 * 64 + 23) i (some (s * 64 + 8)) x.2.1 ∧ E_srs pl wd u (a27 * 64 + 27) j (some (s * 64 + 8)) x.2.2.1 ∧ E_cns pl wd u (a28 * 64 + 28) k (i + z_nti x.2.1) (j + x.2.2.1.length) (bb 28) (some (s * 64 + 8)) x.2.2.2
theorem E_se.kp {pl : Nat → Nat} {wd : Nat → Int64} {u v : g_St} {s i k j : Nat} {bb : Nat → Nat} {ow : Int32} {x : z_Se} (h : E_se pl wd u s i k j bb ow x) {X : List Nat} (kp : E_kp X u v) (hX : ∀ a ∈ X, a % 64 ≠ 8 ∧ a % 64 ≠ 9 ∧ a % 64 ≠ 10 ∧ a % 64 ≠ 11 ∧ (a % 64 = 23 ∨ a % 64 = 26 ∨ a % 64 = 27 ∨ a % 64 = 28 → a / 64 < bb (a % 64))) : E_se pl wd v s i k j bb ow x := by
  obtain ⟨h1, h2, h3, h4, h5, h6, a26, a23, a27, a28, ⟨b1, b2, b3, b4, b5, b6, b7, b8⟩, ⟨c1, c2, c3, c4⟩, ⟨d1, d2, d3, d4⟩, e1, e2, e3⟩ := h
  have sS : E_sm u v (s * 64 + 8) := kp.at (by rw [E_alc (by decide)]; exact h1) (by rw [(E_num (by decide)).2]; decide) (fun q => (hX _ q).1 (E_num (by decide)).2)
  have gen : ∀ a t, t = 23 ∨ t = 26 ∨ t = 27 ∨ t = 28 → bb t ≤ a → a < g_cnt u t → E_sm u v (a * 64 + t) := fun a t ht ha hb => by
    have hm : (a * 64 + t) % 64 = t := (E_num (by omega)).2
    have hd : (a * 64 + t) / 64 = a := (E_num (by omega)).1
    refine kp.at (by rw [E_alc (by omega)]; exact hb) (by rw [hm]; omega) (fun q => ?_)
    have := (hX _ q).2.2.2.2 (by rw [hm]; exact ht)
    rw [hm, hd] at this
    omega
  have s26 := gen a26 26 (by omega) b1 b2
  have s23 := gen a23 23 (by omega) b3 b4
  have s27 := gen a27 27 (by omega) b5 b6
  have s28 := gen a28 28 (by omega) b7 b8
  refine ⟨Nat.lt_of_lt_of_le h1 (kp.1 8), by rw [(sS.1 _).1]; exact h2, by rw [(sS.1 _).1]; exact h3, by rw [(sS.1 _).1]; exact h4, h5.of (fun k => (sS.1 k).1), h6, a26, a23, a27, a28, ⟨b1, Nat.lt_of_lt_of_le b2 (kp.1 26), b3, Nat.lt_of_lt_of_le b4 (kp.1 23), b5, Nat.lt_of_lt_of_le b6 (kp.1 27), b7, Nat.lt_of_lt_of_le b8 (kp.1 28)⟩, ⟨by rw [(sS.1 _).2.2]; exact c1, by rw [(sS.1 _).2.2]; exact c2, by rw [(sS.1 _).2.2]; exact c3, by rw [(sS.1 _).2.2]; exact c4⟩, ⟨by rw [s26.2.2.2.2]; exact d1, by rw [s23.2.2.2.2]; exact d2, by rw [s27.2.2.2.2]; exact d3, by rw [s28.2.2.2.2]; exact d4⟩, e1.kp kp (fun a ha => (hX a ha).2.2.2.1) s26.2.2.2.1 s23.2.2.2.1, e2.kp kp (fun a ha => (hX a ha).2.1) s27.2.2.2.1, e3.kp kp (fun a ha => ⟨(hX a ha).2.1, (hX a ha).2.2.1, (hX a ha).2.2.2.1, fun e => ?_⟩) s28.2.2.2.1⟩
  have := (hX a ha).2.2.2.2 (by omega)
  rw [e] at this
  exact this
section
variable {n : Nat} {kd pl : Nat → Nat} {wd vl : Nat → Int64} {c : z_Cx}
theorem E_J.mono {S I G Sr Cn : Nat} {u0 : g_St} {p0 d e d' e' : Nat} {r : z_P} {its : List z_It} {srs : List Nat} {cns : List z_Co} {s : g_St} (h : E_J n kd pl wd c S I G Sr Cn u0 p0 d e r its srs cns s) (l : ∀ q, r = .inl q → d + e ≤ d' + e') (l2 : ∀ q, r = .inr q → d ≤ d') : E_J n kd pl wd c S I G Sr Cn u0 p0 d' e' r its srs cns s := by
  refine ⟨h.1.mono ?_, h.2⟩
  cases r with
  | inl q => have := l q rfl; show 3 * q + d + e ≤ 3 * q + d' + e'; omega
  | inr q => have := l2 q rfl; show 3 * q + d + 0 ≤ 3 * q + d' + 0; omega
theorem a_sel (Z : E_cx c) (H : z_H n kd) (hwd : ∀ i, i < n → kd i = 36 → wd i ≠ 0) (hvl : ∀ i, i < n → kd i = 37 → wd i = vl i) {u : g_St} {r : z_P} {d : Nat} (h : E_b n kd pl wd c u r (3 * z_pk r + d)) (hd : d ≤ 31) (ow : Int32) :
    ∃ u', f_Re_selection (some 2) ow u = some (some (g_cnt u 8 * 64 + 8), u') ∧ E_b n kd pl wd c u' (z_sep kd vl r) (3 * z_pk (z_sep kd vl r) + d + z_sl (z_sep kd vl r) 7) ∧ E_kp [] u u' ∧ E_ct [8, 9, 10, 11, 23, 26, 27, 28] u u' ∧ g_cnt u' 8 = g_cnt u 8 + 1 ∧ z_pk r ≤ z_pk (z_sep kd vl r) ∧ g_R u' 514 2 = some (g_cnt u 8 * 64 + 8) ∧ g_R u' 578 2 = none ∧ ∀ p q, r = .inr p → z_sep kd vl r = .inr q → g_cnt u' 11 = g_cnt u 11 + z_nts (z_ser kd vl p).1 ∧ g_cnt u' 9 = g_cnt u 9 + z_nss (z_ser kd vl p).1 ∧ g_cnt u' 10 = g_cnt u 10 + z_ncs (z_ser kd vl p).1 ∧ E_se pl wd u' (g_cnt u 8) (g_cnt u 11) (g_cnt u 10) (g_cnt u 9) (g_cnt u) ow (z_ser kd vl p).1 := by
  have hn := H.2.1
  have hp4 := (a_pl H h).2.2.2.1
  have au := h.a2 Z
  obtain ⟨s7, m1, m2, m3, m4, m5, m6, m7, m8⟩ := a_news Z H h (by omega) ow
  obtain ⟨S, hS⟩ : ∃ S, S = g_cnt u 8 * 64 + 8 := ⟨_, rfl⟩
  obtain ⟨I, hI⟩ : ∃ I, I = g_cnt u 26 * 64 + 26 := ⟨_, rfl⟩
  obtain ⟨G, hG⟩ : ∃ G, G = g_cnt u 23 * 64 + 23 := ⟨_, rfl⟩
  obtain ⟨Sr, hSr⟩ : ∃ Sr, Sr = g_cnt u 27 * 64 + 27 := ⟨_, rfl⟩
  obtain ⟨Cn, hCn⟩ : ∃ Cn, Cn = g_cnt u 28 * 64 + 28 := ⟨_, rfl⟩
  rw [← hS, ← hI, ← hG, ← hSr, ← hCn] at m5
  rw [← hS] at m6
  rw [← hI, ← hG, ← hSr, ← hCn] at m7
  have m8' : ∀ m, g_AR s7 I m = none ∧ g_AR s7 G m = none := fun m => by rw [hI, hG]; exact m8 m
  have S2 : S ≠ 2 := by omega
  obtain ⟨s9, e9⟩ : ∃ s9, s9 = g_setR (g_setR s7 514 2 (some S)) 578 2 none := ⟨_, rfl⟩
  have B9 : E_b n kd pl wd c s9 r (3 * z_pk r + d + 1) := by rw [e9]; exact (m2.p2R Z (Or.inl rfl) _).p2R Z (Or.inr rfl) _
  obtain ⟨u0, a1, a2, a3⟩ := a_ex Z H B9 (k := 3) (by decide)
  have c0 : ∀ t, g_cnt u0 t = g_cnt s7 t := fun t => by rw [a3.1, e9]; rfl
  have R0 : ∀ k a, g_R u0 k a = if k = 578 ∧ a = 2 then none else if k = 514 ∧ a = 2 then some S else g_R s7 k a := fun k a => by rw [a3.2.2.2.2.1, e9, x_R_R, x_R_R]
  have R0S : ∀ k, g_R u0 k S = g_R s7 k S := fun k => by rw [R0, if_neg (fun q => S2 q.2), if_neg (fun q => S2 q.2)]
  have I0 : ∀ k, g_I u0 k S = g_I s7 k S := fun k => by rw [((a3.sm S2).1 k).1, e9]; rfl
  have ln0 : g_ln u0 = g_ln s7 := by rw [a3.2.2.2.2.2.2.2.2.1, e9]; rfl
  have AR0 : g_AR u0 = g_AR s7 := by rw [a3.2.2.2.2.2.2.2.1, e9]; rfl
  have nw : ∀ t, t < 64 ∧ t ≠ 2 ∧ t ≠ 12 ∧ t ≠ 30 → E_nw c (g_cnt u t * 64 + t) := fun t ht => h.new Z ht
  have al0 : ∀ t, t = 8 ∨ t = 26 ∨ t = 23 ∨ t = 27 ∨ t = 28 → g_al u0 (g_cnt u t * 64 + t) := fun t ht => by
    rw [E_alc (by omega), c0, m4, if_pos ht]; omega
  have hA : E_sa c u0 S I G Sr Cn := by
    refine ⟨⟨by rw [hS]; exact (E_num (by decide)).2, by rw [hI]; exact (E_num (by decide)).2, by rw [hG]; exact (E_num (by decide)).2, ⟨by rw [hS]; exact nw 8 (by decide), by rw [hI]; exact nw 26 (by decide), by rw [hG]; exact nw 23 (by decide)⟩, ⟨by rw [hS]; exact al0 8 (by omega), by rw [hI]; exact al0 26 (by omega), by rw [hG]; exact al0 23 (by omega)⟩, by rw [R0S, m5, if_neg (by decide), if_neg (by decide), if_neg (by decide), if_pos rfl], by rw [R0S, m5, if_neg (by decide), if_neg (by decide), if_pos rfl], by rw [ln0]; exact m7.1, by rw [ln0]; exact m7.2.1⟩, ⟨by rw [hSr]; exact (E_num (by decide)).2, by rw [hCn]; exact (E_num (by decide)).2⟩, ⟨by rw [hSr]; exact nw 27 (by decide), by rw [hCn]; exact nw 28 (by decide)⟩, ⟨by rw [hSr]; exact al0 27 (by omega), by rw [hCn]; exact al0 28 (by omega)⟩, by rw [R0S, m5, if_neg (by decide), if_pos rfl], by rw [R0S, m5, if_pos rfl], by rw [ln0]; exact m7.2.2.1, by rw [ln0]; exact m7.2.2.2⟩
  have hf0 : E_sf S I G Sr Cn u0 u0 := ⟨E_kp.re, E_ct.re, by rw [R0, if_neg (fun q => by have := q.1; omega), if_pos ⟨rfl, rfl⟩], by rw [R0, if_pos ⟨rfl, rfl⟩], fun _ => rfl, fun _ _ _ _ _ _ => rfl, rfl, rfl, rfl, rfl⟩
  have z0 : ∀ k, k ≠ 72 → k ≠ 8 → g_I u0 k S = 0 := fun k x y => by rw [I0, m6, if_neg x, if_neg y]
  have ht0 : E_st pl wd S I G Sr Cn u0 u0 [] [] [] := ⟨⟨z0 _ (by decide) (by decide), z0 _ (by decide) (by decide), z0 _ (by decide) (by decide), z0 _ (by decide) (by decide), z0 _ (by decide) (by decide)⟩, ⟨rfl, rfl, rfl⟩, (fun m hm => by cases hm), (fun m hm => by cases hm), (fun m hm => by cases hm), fun m _ => by rw [AR0]; exact m8' m⟩
  have st : f_Re_selection (some 2) ow u = f_Re_selection_40 200000 (some 2) (some S) 1 0 u0 := by
    unfold f_Re_selection
    refine (m1 _).trans ?_
    rw [← hS, x_pR, x_pR, ← e9, x_nn, show (205 : Nat) = 3 * 64 + 13 from rfl, a1, x_c]
  have pk3 := z_pk_nd (kd := kd) 3 r
  -- items
  have items : ∃ u1, f_Re_selection_40 200000 (some 2) (some S) 1 0 u0 = f_Re_selection_84 (some 2) (some S) u1 ∧ E_J n kd pl wd c S I G Sr Cn u0 (z_pk r) d 7 (z_go (z_ndr kd 3 r) (z_lst kd 25 (z_itr kd) 3)).2 (z_go (z_ndr kd 3 r) (z_lst kd 25 (z_itr kd) 3)).1 [] [] u1 ∧ (z_go (z_ndr kd 3 r) (z_lst kd 25 (z_itr kd) 3)).1.length ≤ 4 := by
    cases hz : z_ndr kd 3 r with
    | inl q =>
      rw [hz] at a2 pk3
      have hq : z_pk r ≤ q := pk3
      have B0 : E_b n kd pl wd c u0 (.inl q) (3 * z_pk (.inl q) + (d + 1)) := a2.mono (by show _ ≤ 3 * q + (d + 1); omega)
      obtain ⟨s, b1, b2, b3, b4, b5⟩ := a_its1 Z H hwd hA (d := d + 1) (p0 := z_pk r) (by omega) (by show 0 ≤ 3; omega) B0 hf0 hq ht0
      refine ⟨s, ?_, ⟨b2.mono (by show 3 * q + (d + 1) + 6 ≤ 3 * q + d + 7; omega), b3, hq, fun q w => by cases w⟩, Nat.zero_le _⟩
      rw [f_Re_selection_40, if_neg (by decide), if_neg (by decide), x_nn, b1, x_c, if_neg (by decide), x_nn, pE_acceptS b2.2.2.1.1, x_c, if_pos rfl, f_Re_selection_40, if_neg (by decide), if_pos rfl]
    | inr q =>
      obtain ⟨p', y1, y2, y3⟩ := z_ndr_ok hz
      rw [hz] at a2
      have hq : z_pk r + 1 = q := by rw [y1]; exact y3.symm
      have hJ : E_J' n kd pl wd c S I G Sr Cn u0 (z_pk r) d q [] [] [] u0 := ⟨a2.mono (by omega), hf0, by omega, ht0⟩
      obtain ⟨u1, b1, b2, b3⟩ := a_itl Z H hwd hA (by omega) hJ
      rw [z_go_r]
      exact ⟨u1, b1, b2.mono (fun _ _ => by omega) (fun _ _ => Nat.le_refl _), b3⟩
  obtain ⟨u1, b1, b2, b3⟩ := items
  generalize hi1 : z_go (z_ndr kd 3 r) (z_lst kd 25 (z_itr kd) 3) = i1 at b2 b3
  -- sources
  obtain ⟨t1, c1, c2, c3⟩ := E_J.ac (k := 4) Z H hA (by decide) b2
  have srcs : ∃ u2, f_Re_selection_84 (some 2) (some S) u1 = f_Re_selection_156 (some 2) (some S) u2 ∧ E_J n kd pl wd c S I G Sr Cn u0 (z_pk r) d 7 (z_opt (z_skr kd 4 i1.2) (z_lst kd 25 (z_sos kd) 2)).2 i1.1 (z_opt (z_skr kd 4 i1.2) (z_lst kd 25 (z_sos kd) 2)).1 [] u2 ∧ (z_opt (z_skr kd 4 i1.2) (z_lst kd 25 (z_sos kd) 2)).1.length ≤ 3 := by
    have s84 : f_Re_selection_84 (some 2) (some S) u1 = f_Re_selection_95 200000 (some 2) (some S) (z_g (z_skr kd 4 i1.2).1) 0 t1 := by
      unfold f_Re_selection_84
      rw [x_nn, show (269 : Nat) = 4 * 64 + 13 from rfl, c1, x_c]
    rcases z_skr_c 4 i1.2 with ⟨w, q, f1, f2, f3⟩ | ⟨w, f1, f2⟩
    · obtain ⟨u2, x1, x2, x3⟩ := a_srl Z H hwd hA (by omega) (c3 q f1 f2)
      rw [f3, z_opt_t]
      exact ⟨u2, by rw [s84, w, ← x1]; rfl, x2.mono (fun _ _ => by omega) (fun _ _ => Nat.le_refl _), x3⟩
    · rw [z_opt_f _ w, f1]
      refine ⟨t1, ?_, c2 w, Nat.zero_le _⟩
      rw [s84, w, show z_g false = 0 from rfl, f_Re_selection_95, if_neg (by decide), if_pos rfl]
  obtain ⟨u2, d1, d2, d3⟩ := srcs
  generalize hi2 : z_opt (z_skr kd 4 i1.2) (z_lst kd 25 (z_sos kd) 2) = i2 at d2 d3
  -- conditions
  obtain ⟨t2, g1, g2, g3⟩ := E_J.ac (k := 5) Z H hA (by decide) d2
  have cnds : ∃ u3, f_Re_selection_156 (some 2) (some S) u2 = some (some S, u3) ∧ E_J n kd pl wd c S I G Sr Cn u0 (z_pk r) d 7 (z_opt (z_skr kd 5 i2.2) (z_lst kd 6 (z_con kd vl) 5)).2 i1.1 i2.1 (z_opt (z_skr kd 5 i2.2) (z_lst kd 6 (z_con kd vl) 5)).1 u3 ∧ (z_opt (z_skr kd 5 i2.2) (z_lst kd 6 (z_con kd vl) 5)).1.length ≤ 6 := by
    have s156 : f_Re_selection_156 (some 2) (some S) u2 = f_Re_selection_167 200000 (some 2) (some S) (z_g (z_skr kd 5 i2.2).1) 0 t2 := by
      unfold f_Re_selection_156
      rw [x_nn, show (333 : Nat) = 5 * 64 + 13 from rfl, g1, x_c]
    rcases z_skr_c 5 i2.2 with ⟨w, q, f1, f2, f3⟩ | ⟨w, f1, f2⟩
    · obtain ⟨u3, x1, x2, x3⟩ := a_cnl (vl := vl) Z H hwd hvl hA (by omega) (g3 q f1 f2)
      rw [f3, z_opt_t]
      exact ⟨u3, by rw [s156, w, ← x1]; rfl, x2, x3⟩
    · rw [z_opt_f _ w, f1]
      refine ⟨t2, ?_, g2 w, Nat.zero_le _⟩
      rw [s156, w, show z_g false = 0 from rfl, f_Re_selection_167, if_neg (by decide), if_pos rfl]
  obtain ⟨u3, k1, k2, k3⟩ := cnds
  generalize hi3 : z_opt (z_skr kd 5 i2.2) (z_lst kd 6 (z_con kd vl) 5) = i3 at k2 k3
  have esep : z_sep kd vl r = i3.2 := by
    cases hr : r with
    | inl q =>
      rw [hr] at hi1
      rw [← hi3, ← hi2, ← hi1]
      rfl
    | inr p =>
      rw [hr] at hi1
      rw [← hi3, ← hi2, ← hi1]
      rfl
  obtain ⟨l1, l2, l3, l4⟩ := k2
  rw [esep, ← hS]
  have nal : ∀ a ∈ [S, I, G, Sr, Cn], ¬ g_al u a := fun a ha => by
    simp only [List.mem_cons, List.not_mem_nil, or_false] at ha
    rcases ha with e | e | e | e | e
    · rw [e, hS]; exact E_nal (by decide)
    · rw [e, hI]; exact E_nal (by decide)
    · rw [e, hG]; exact E_nal (by decide)
    · rw [e, hSr]; exact E_nal (by decide)
    · rw [e, hCn]; exact E_nal (by decide)
  have K0 : E_kp [] u u0 := by
    have : E_kp [] u s9 := by rw [e9]; exact ((m3.kp au []).p2R (Or.inl rfl) _).p2R (Or.inr rfl) _
    exact this.trans (a3.kp []) (fun a ha => by cases ha)
  refine ⟨u3, by rw [st, b1, d1, k1], l1, K0.trans l2.1 (fun a ha => Or.inr (nal a ha)), fun t x y => ?_, ?_, l3, l2.2.2.1, l2.2.2.2.1, fun p q e1 e2 => ?_⟩
  · rw [l2.2.1 t (fun q => x (by simp only [List.mem_cons, List.not_mem_nil, or_false] at q ⊢; omega)) y, c0, m4, if_neg (fun q => x (by simp only [List.mem_cons, List.not_mem_nil, or_false]; omega))]
  · rw [l2.2.1 8 (by decide) (by decide), c0, m4, if_pos (by omega)]
  · obtain ⟨x1, ⟨x2, x3, x4⟩, x5, x6, x7, x8⟩ := l4 q e2
    have ez : (z_ser kd vl p).1 = (p, i1.1, i2.1, i3.1) := by
      rw [e1] at hi1
      rw [← hi3, ← hi2, ← hi1]
      rfl
    have n9 : g_cnt u0 9 = g_cnt u 9 := by rw [c0, m4, if_neg (by decide)]
    have n10 : g_cnt u0 10 = g_cnt u 10 := by rw [c0, m4, if_neg (by decide)]
    have n11 : g_cnt u0 11 = g_cnt u 11 := by rw [c0, m4, if_neg (by decide)]
    have n28 : g_cnt u0 28 = g_cnt u 28 + 1 := by rw [c0, m4, if_pos (by omega)]
    rw [n11] at x2 x5 x7
    rw [n9] at x3 x6 x7
    rw [n10] at x4 x7
    have hA3 := hA.of l2
    have up : ∀ t, g_cnt u0 t ≤ g_cnt u3 t := l2.1.1
    have lt : ∀ t, t = 8 ∨ t = 26 ∨ t = 23 ∨ t = 27 ∨ t = 28 → g_cnt u t < g_cnt u3 t := fun t ht => Nat.lt_of_lt_of_le (by rw [c0, m4, if_pos ht]; omega) (up t)
    rw [ez]
    refine ⟨by rw [x2]; show _ = _ + (z_nti i1.1 + z_ntc i3.1); omega, by rw [x3]; show _ = _ + (i2.1.length + z_nsc i3.1); omega, x4, lt 8 (by omega), ?_, ?_, ?_, ?_, ⟨b3, d3, k3⟩, g_cnt u 26, g_cnt u 23, g_cnt u 27, g_cnt u 28, ⟨Nat.le_refl _, lt 26 (by omega), Nat.le_refl _, lt 23 (by omega), Nat.le_refl _, lt 27 (by omega), Nat.le_refl _, lt 28 (by omega)⟩, ?_⟩
    · rw [← hS, l2.2.2.2.2.2.1 8 (by decide) (by decide) (by decide) (by decide) (by decide), I0, m6, if_neg (by decide), if_pos rfl]
    · rw [← hS, l2.2.2.2.2.2.1 72 (by decide) (by decide) (by decide) (by decide) (by decide), I0, m6, if_pos rfl, e1]; rfl
    · rw [← hS, l2.2.2.2.2.2.1 648 (by decide) (by decide) (by decide) (by decide) (by decide)]; exact z0 _ (by decide) (by decide)
    · rw [← hS]; exact x1
    · rw [← hS, ← hI, ← hG, ← hSr, ← hCn]
      exact ⟨⟨hA3.1.2.2.2.2.2.1, hA3.1.2.2.2.2.2.2.1, hA3.2.2.2.2.1, hA3.2.2.2.2.2.1⟩, ⟨hA3.1.2.2.2.2.2.2.2.1, hA3.1.2.2.2.2.2.2.2.2, hA3.2.2.2.2.2.2.1, hA3.2.2.2.2.2.2.2⟩, x5, x6, fun m hm => ⟨(x7 m hm).1, (x7 m hm).2.b (by omega)⟩⟩
end
