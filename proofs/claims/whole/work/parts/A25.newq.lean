/-! THE ENGINE READS A QUERY, WHOLE -/
theorem e_Fix.p450 {u : g_St} (h : e_Fix u) (x : Option Nat) : e_Fix (g_setR u 450 2 x) := by
  have w : ∀ q ∈ e_tab, ¬ (q.1 = 450 ∧ q.2.1 = 2) := by decide +kernel
  obtain ⟨h1, h2, h3, h4, h5, h6⟩ := h
  refine ⟨fun q hq => ?_, h2, h3, h4, h5, h6⟩
  rw [x_R_R, if_neg (w q hq)]
  exact h1 q hq
/-- where a new query lies -/
def z_cx (u : g_St) : z_Cx := (g_cnt u 6 * 64 + 6, g_cnt u 12 * 64 + 12, (g_cnt u 12 + 1) * 64 + 12, g_cnt u, g_cn u + 5, g_sn u + 22)
section
variable {n : Nat} {kd pl : Nat → Nat} {wd vl : Nat → Int64}
theorem a_newq {u : g_St} (H : z_H n kd) (h1 : e_Fix u) (h2 : z_tkE u n kd pl wd) (h3 : E_ps u n (.inr 0)) (h4 : z_Ok u) (h5 : ∀ a ∈ z_prot, g_al u a) (h6 : 1 ≤ g_cnt u 2 ∧ 1 ≤ g_cnt u 30) (r1 : g_cn u + 6510 ≤ 601024) (r2 : g_sn u + 195030 ≤ 7293034) : ∃ s, (∀ {α : Type} (F : Option Nat → g_St → Option α), (g_new u 6 10 fun p5 s6 => g_c (g_nn p5 (f_Qu_init p5 s6)) fun _ s8 => g_pR s8 450 (some 2) p5 fun s9 => F p5 s9) = F (some (z_cx u).1) s) ∧ E_cx (z_cx u) ∧ E_b n kd pl wd (z_cx u) s (.inr 0) 0 ∧ E_qA (z_cx u) s (g_cnt u 24 * 64 + 24) (g_cnt u 26 * 64 + 26) ∧ (∀ k, g_I s k (z_cx u).1 = 0) ∧ (∀ t, g_cnt s t = if t = 12 then g_cnt u 12 + 2 else if t = 6 ∨ t = 24 ∨ t = 26 then g_cnt u t + 1 else g_cnt u t) ∧ E_kp [] u (g_setR s 450 2 (g_R u 450 2)) := by
  obtain ⟨q, hq⟩ : ∃ S, S = g_cnt u 6 * 64 + 6 := ⟨_, rfl⟩
  obtain ⟨A, hA⟩ : ∃ S, S = g_cnt u 24 * 64 + 24 := ⟨_, rfl⟩
  obtain ⟨O, hO⟩ : ∃ S, S = g_cnt u 26 * 64 + 26 := ⟨_, rfl⟩
  obtain ⟨a, ha⟩ : ∃ S, S = g_cnt u 12 * 64 + 12 := ⟨_, rfl⟩
  obtain ⟨b, hb⟩ : ∃ S, S = (g_cnt u 12 + 1) * 64 + 12 := ⟨_, rfl⟩
  have ez : z_cx u = (q, a, b, g_cnt u, g_cn u + 5, g_sn u + 22) := by unfold z_cx; rw [hq, ha, hb]
  obtain ⟨s0, e0⟩ : ∃ s, s = g_mk u 6 10 0 := ⟨_, rfl⟩
  obtain ⟨s1, e1⟩ : ∃ s, s = g_setR (g_mk s0 24 4 4) 6 q (some A) := ⟨_, rfl⟩
  obtain ⟨s2, e2⟩ : ∃ s, s = g_setR (g_mk s1 26 2 2) 262 q (some O) := ⟨_, rfl⟩
  obtain ⟨s3, e3⟩ : ∃ s, s = g_setR (g_setI (g_mk s2 12 3 0) 12 a 0) 76 a (some 30) := ⟨_, rfl⟩
  obtain ⟨s4, e4⟩ : ∃ s, s = g_setR s3 518 q (some a) := ⟨_, rfl⟩
  obtain ⟨s5, e5⟩ : ∃ s, s = g_setR (g_setI (g_mk s4 12 3 0) 12 b 0) 76 b (some 30) := ⟨_, rfl⟩
  obtain ⟨s6, e6⟩ : ∃ s, s = g_setR s5 582 q (some b) := ⟨_, rfl⟩
  obtain ⟨s, es⟩ : ∃ s, s = g_setR s6 450 2 (some q) := ⟨_, rfl⟩
  have c0 : ∀ t, g_cnt s0 t = if t = 6 then g_cnt u 6 + 1 else g_cnt u t := fun t => by rw [e0]; exact x_cnt_mk u 6 10 0 t
  have c1 : ∀ t, g_cnt s1 t = if t = 24 then g_cnt s0 24 + 1 else g_cnt s0 t := fun t => by rw [e1]; exact x_cnt_mk s0 24 4 4 t
  have c2 : ∀ t, g_cnt s2 t = if t = 26 then g_cnt s1 26 + 1 else g_cnt s1 t := fun t => by rw [e2]; exact x_cnt_mk s1 26 2 2 t
  have c3 : ∀ t, g_cnt s3 t = if t = 12 then g_cnt s2 12 + 1 else g_cnt s2 t := fun t => by rw [e3]; exact x_cnt_mk s2 12 3 0 t
  have c4 : ∀ t, g_cnt s4 t = g_cnt s3 t := fun t => by rw [e4]; rfl
  have c5 : ∀ t, g_cnt s5 t = if t = 12 then g_cnt s4 12 + 1 else g_cnt s4 t := fun t => by rw [e5]; exact x_cnt_mk s4 12 3 0 t
  have c6 : ∀ t, g_cnt s t = g_cnt s5 t := fun t => by rw [es, e6]; rfl
  have b24 : g_cnt s0 24 = g_cnt u 24 := by rw [c0, if_neg (by decide)]
  have b26 : g_cnt s1 26 = g_cnt u 26 := by rw [c1, if_neg (by decide), c0, if_neg (by decide)]
  have b12 : g_cnt s2 12 = g_cnt u 12 := by rw [c2, if_neg (by decide), c1, if_neg (by decide), c0, if_neg (by decide)]
  have b12' : g_cnt s4 12 = g_cnt u 12 + 1 := by rw [c4, c3, if_pos rfl, b12]
  have n0 : g_cnt s0 24 * 64 + 24 = A := by rw [b24, hA]
  have n1 : g_cnt s1 26 * 64 + 26 = O := by rw [b26, hO]
  have n2 : g_cnt s2 12 * 64 + 12 = a := by rw [b12, ha]
  have n4 : g_cnt s4 12 * 64 + 12 = b := by rw [b12', hb]
  have ct : ∀ t, g_cnt s t = if t = 12 then g_cnt u 12 + 2 else if t = 6 ∨ t = 24 ∨ t = 26 then g_cnt u t + 1 else g_cnt u t := fun t => by
    rw [c6, c5 t, b12']
    by_cases y1 : t = 12
    · rw [if_pos y1, if_pos y1]
    · rw [if_neg y1, if_neg y1, c4, c3 t, if_neg y1, c2 t, b26]
      by_cases y2 : t = 26
      · rw [if_pos y2, if_pos (by omega), y2]
      · rw [if_neg y2, c1 t, b24]
        by_cases y3 : t = 24
        · rw [if_pos y3, if_pos (by omega), y3]
        · rw [if_neg y3, c0 t]
          by_cases y4 : t = 6
          · rw [if_pos y4, if_pos (by omega), y4]
          · rw [if_neg y4, if_neg (by omega)]
  have nq : ¬ g_al u q := by rw [hq]; exact E_nal (by decide)
  have na : ¬ g_al u a := by rw [ha]; exact E_nal (by decide)
  have nb : ¬ g_al u b := by rw [hb, E_alc (by decide)]; omega
  have fr : E_fr u s6 := by
    rw [e6, e5, e4, e3, e2, e1, e0]
    exact (((((((((((((E_fr.re.mk (by decide) 10 0).mk (by decide) 4 4).pR nq _ _).mk (by decide) 2 2).pR nq _ _).mk (by decide) 3 0).pI na _ _).pR na _ _).pR nq _ _).mk (by decide) 3 0).pI nb _ _).pR nb _ _).pR nq _ _)
  have alini : ∀ (l : Nat) (v : g_St), f_Al_init (some l) v = some ((), g_setR (g_setI v 12 l 0) 76 l (some 30)) := fun l v => by
    unfold f_Al_init f_Abl_init f_Abc_init
    rw [x_nn, x_nn, x_nn, x_c, x_pI, x_c, x_pR]
  have ini : f_Qu_init (some q) s0 = some ((), s6) := by
    unfold f_Qu_init
    rw [x_nn, show (4 : Int32) = Int32.ofNat 4 from rfl, x_newA (by decide) (by rw [e0]; show g_cn u + 1 < _; omega) (by rw [e0]; show g_sn u + 10 + 4 ≤ _; omega), n0, x_pR, ← e1, show (2 : Int32) = Int32.ofNat 2 from rfl, x_newA (by decide) (by rw [e1, e0]; show g_cn u + 1 + 1 < _; omega) (by rw [e1, e0]; show g_sn u + 10 + 4 + 2 ≤ _; omega), n1, x_pR, ← e2, x_new (by rw [e2, e1, e0]; show g_cn u + 1 + 1 + 1 < _; omega) (by rw [e2, e1, e0]; show g_sn u + 10 + 4 + 2 + 3 ≤ _; omega), n2, x_nn, alini, x_c, ← e3, x_pR, ← e4, x_new (by rw [e4, e3, e2, e1, e0]; show g_cn u + 1 + 1 + 1 + 1 < _; omega) (by rw [e4, e3, e2, e1, e0]; show g_sn u + 10 + 4 + 2 + 3 + 3 ≤ _; omega), n4, x_nn, alini, x_c, ← e5, x_pR, ← e6]
  have o0 : z_Ok s0 := by rw [e0]; exact h4.mk (by decide) _ _
  have o6 : z_Ok s6 := (v_Qu_init (u := s0) (some q) s0 z_V.re ini).2.2.2.2 o0
  have os : z_Ok s := by rw [es]; exact o6.pR (by decide) _ _
  have al2 : g_al u 2 := h6.1
  have k6 : E_kp [] u s6 := fr.kp al2 []
  have hp2 : ∀ x ∈ z_prot, g_al u x ∧ x ∉ ([] : List Nat) := fun x hx => ⟨h5 x hx, by simp⟩
  have fx : e_Fix s := by rw [es]; exact (E_fx h1 hp2 k6).p450 _
  have tk : z_tkE s n kd pl wd := by
    have t6 := h2.kp hp2 k6
    rw [es]
    exact t6
  have s2u : E_sm u s6 2 := fr.2 2 al2
  have ps : E_ps s n (.inr 0) := by
    have e : ∀ k, g_I s k 2 = g_I u k 2 := fun k => by rw [es]; exact (s2u.1 k).1
    show g_I s 386 2 = 0 ∧ g_I s 322 2 = _ ∧ _
    rw [e, e]
    exact h3
  have ne : q ≠ a ∧ q ≠ b ∧ a ≠ b ∧ q ≠ 2 ∧ A ≠ q ∧ O ≠ q ∧ a ≠ A ∧ a ≠ O ∧ b ≠ A ∧ b ≠ O ∧ A ≠ O := by omega
  obtain ⟨ne1, ne2, ne3, ne4, ne5, ne6, ne7, ne8, ne9, ne10, ne11⟩ := ne
  have Rq : ∀ k, k ≠ 450 → g_R s k q = if k = 582 then some b else if k = 518 then some a else if k = 262 then some O else if k = 6 then some A else none := fun k hk => by
    rw [es, x_R_R, if_neg (fun y => hk y.1), e6, x_R_R, e5, x_R_R, if_neg (fun y : k = 76 ∧ q = b => ne2 y.2)]
    show (if _ then _ else g_R (g_mk s4 12 3 0) k q) = _
    rw [x_R_mk, n4, if_neg ne2, e4, x_R_R, e3, x_R_R, if_neg (fun y : k = 76 ∧ q = a => ne1 y.2)]
    show (if _ then _ else if _ then _ else g_R (g_mk s2 12 3 0) k q) = _
    rw [x_R_mk, n2, if_neg ne1, e2, x_R_R]
    show (if _ then _ else if _ then _ else if _ then _ else g_R (g_mk s1 26 2 2) k q) = _
    rw [x_R_mk, n1, if_neg (Ne.symm ne6), e1, x_R_R]
    show (if _ then _ else if _ then _ else if _ then _ else if _ then _ else g_R (g_mk s0 24 4 4) k q) = _
    rw [x_R_mk, n0, if_neg (Ne.symm ne5), e0, x_R_mk, if_pos hq]
    by_cases y1 : k = 582
    · rw [if_pos ⟨y1, rfl⟩, if_pos y1]
    · rw [if_neg (fun q => y1 q.1), if_neg y1]
      by_cases y2 : k = 518
      · rw [if_pos ⟨y2, rfl⟩, if_pos y2]
      · rw [if_neg (fun q => y2 q.1), if_neg y2]
        by_cases y3 : k = 262
        · rw [if_pos ⟨y3, rfl⟩, if_pos y3]
        · rw [if_neg (fun q => y3 q.1), if_neg y3]
          by_cases y4 : k = 6
          · rw [if_pos ⟨y4, rfl⟩, if_pos y4]
          · rw [if_neg (fun q => y4 q.1), if_neg y4]
  have Iq : ∀ k, g_I s k q = 0 := fun k => by
    rw [es, e6, e5]
    show g_I (g_setI (g_mk s4 12 3 0) 12 b 0) k q = 0
    rw [x_I_I, if_neg (fun y => ne2 y.2), x_I_mk, n4, if_neg ne2, e4, e3]
    show g_I (g_setI (g_mk s2 12 3 0) 12 a 0) k q = 0
    rw [x_I_I, if_neg (fun y => ne1 y.2), x_I_mk, n2, if_neg ne1, e2]
    show g_I (g_mk s1 26 2 2) k q = 0
    rw [x_I_mk, n1, if_neg (Ne.symm ne6), e1]
    show g_I (g_mk s0 24 4 4) k q = 0
    rw [x_I_mk, n0, if_neg (Ne.symm ne5), e0, x_I_mk, if_pos hq]
  have lb : E_li s b [] := by
    refine ⟨?_, 30, ?_, Or.inl ⟨rfl, rfl⟩⟩
    · rw [es, e6, e5]
      show g_I (g_setI (g_mk s4 12 3 0) 12 b 0) 140 b = 0
      rw [x_I_I, if_neg (fun y => by have := y.1; omega), x_I_mk, n4, if_pos rfl]
    · rw [es, x_R_R, if_neg (fun y => by have := y.1; omega), e6, x_R_R, if_neg (fun y => by have := y.1; omega), e5, x_R_R, if_pos ⟨rfl, rfl⟩]
  have la : E_li s a [] := by
    refine ⟨?_, 30, ?_, Or.inl ⟨rfl, rfl⟩⟩
    · rw [es, e6, e5]
      show g_I (g_setI (g_mk s4 12 3 0) 12 b 0) 140 a = 0
      rw [x_I_I, if_neg (fun y => ne3 y.2), x_I_mk, n4, if_neg ne3, e4, e3]
      show g_I (g_setI (g_mk s2 12 3 0) 12 a 0) 140 a = 0
      rw [x_I_I, if_neg (fun y => by have := y.1; omega), x_I_mk, n2, if_pos rfl]
    · rw [es, x_R_R, if_neg (fun y => by have := y.1; omega), e6, x_R_R, if_neg (fun y => by have := y.1; omega), e5, x_R_R, if_neg (fun y => ne3 y.2)]
      show g_R (g_mk s4 12 3 0) 76 a = _
      rw [x_R_mk, n4, if_neg ne3, e4, x_R_R, if_neg (fun y => by have := y.1; omega), e3, x_R_R, if_pos ⟨rfl, rfl⟩]
  have lnA : g_ln s A = 4 := by
    rw [es, e6, e5]
    show g_ln (g_mk s4 12 3 0) A = 4
    rw [x_ln_mk, n4, if_neg (Ne.symm ne9), e4, e3]
    show g_ln (g_mk s2 12 3 0) A = 4
    rw [x_ln_mk, n2, if_neg (Ne.symm ne7), e2]
    show g_ln (g_mk s1 26 2 2) A = 4
    rw [x_ln_mk, n1, if_neg ne11, e1]
    show g_ln (g_mk s0 24 4 4) A = 4
    rw [x_ln_mk, n0, if_pos rfl]
  have lnO : g_ln s O = 2 := by
    rw [es, e6, e5]
    show g_ln (g_mk s4 12 3 0) O = 2
    rw [x_ln_mk, n4, if_neg (Ne.symm ne10), e4, e3]
    show g_ln (g_mk s2 12 3 0) O = 2
    rw [x_ln_mk, n2, if_neg (Ne.symm ne8), e2]
    show g_ln (g_mk s1 26 2 2) O = 2
    rw [x_ln_mk, n1, if_pos rfl]
  rw [ez, ← hA, ← hO]
  have cx : E_cx (q, a, b, g_cnt u, g_cn u + 5, g_sn u + 22) := ⟨by rw [hq]; exact (E_num (by decide)).2, by rw [ha]; exact (E_num (by decide)).2, by rw [hb]; exact (E_num (by decide)).2, ne3, h5, by show g_cn u + 5 + 6500 ≤ _; omega, by show g_sn u + 22 + 195000 ≤ _; omega, by show g_cnt u 6 ≤ q / 64; omega, h6.1, h6.2⟩
  refine ⟨s, fun F => ?_, cx, ⟨fx, tk, ps, os, ⟨?_, ?_, ?_⟩, ⟨fun t => ?_, ?_, ?_, ?_⟩, ⟨?_, ?_⟩, [], [], la, lb, (fun j hj => by cases hj), (fun j hj => by cases hj), by show 5 * 0 ≤ 0; omega, by show 5 * 0 ≤ 0; omega, fun p _ => ⟨?_, ?_⟩⟩, ⟨⟨by rw [hA]; exact (E_num (by decide)).2, by rw [hO]; exact (E_num (by decide)).2⟩, ⟨?_, ?_⟩, ⟨?_, ?_⟩, ⟨?_, ?_⟩, lnA, lnO⟩, Iq, ct, ?_⟩
  · rw [x_new (by omega) (by omega), ← hq, ← e0, x_nn, ini, x_c, x_pR, ← es]
  · rw [es, x_R_R, if_pos ⟨rfl, rfl⟩]
  · rw [Rq 518 (by decide), if_neg (by decide), if_pos rfl]
  · rw [Rq 582 (by decide), if_pos rfl]
  · rw [ct]
    by_cases y1 : t = 12
    · rw [if_pos y1, y1]; show g_cnt u 12 ≤ _; omega
    · rw [if_neg y1]
      by_cases y2 : t = 6 ∨ t = 24 ∨ t = 26
      · rw [if_pos y2]; show g_cnt u t ≤ _; omega
      · rw [if_neg y2]; exact Nat.le_refl _
  · show g_al s q
    rw [hq, E_alc (by decide), ct, if_neg (by decide), if_pos (by omega)]; omega
  · show g_al s a
    rw [ha, E_alc (by decide), ct, if_pos rfl]; omega
  · show g_al s b
    rw [hb, E_alc (by decide), ct, if_pos rfl]; omega
  · rw [es, e6, e5, e4, e3, e2, e1, e0]; show g_cn u + 1 + 1 + 1 + 1 + 1 ≤ g_cn u + 5 + 5 * 0; omega
  · rw [es, e6, e5, e4, e3, e2, e1, e0]; show g_sn u + 10 + 4 + 2 + 3 + 3 ≤ g_sn u + 22 + 150 * 0; omega
  · rw [ct, if_neg (by decide), if_neg (by decide)]
    show [] = (z_rng (g_cnt u 9) (g_cnt u 9) 9).filter _
    unfold z_rng
    rw [Nat.sub_self]; rfl
  · rw [ct, if_neg (by decide), if_neg (by decide)]
    show [] = (z_rng (g_cnt u 11) (g_cnt u 11) 11).filter _
    unfold z_rng
    rw [Nat.sub_self]; rfl
  · unfold E_nw; rw [hA, (E_num (by decide)).1, (E_num (by decide)).2]; exact ⟨by decide, by decide, by decide, Nat.le_refl _⟩
  · unfold E_nw; rw [hO, (E_num (by decide)).1, (E_num (by decide)).2]; exact ⟨by decide, by decide, by decide, Nat.le_refl _⟩
  · rw [hA, E_alc (by decide), ct, if_neg (by decide), if_pos (by omega)]; omega
  · rw [hO, E_alc (by decide), ct, if_neg (by decide), if_pos (by omega)]; omega
  · show g_R s 6 q = _
    rw [Rq 6 (by decide), if_neg (by decide), if_neg (by decide), if_neg (by decide), if_pos rfl]
  · show g_R s 262 q = _
    rw [Rq 262 (by decide), if_neg (by decide), if_neg (by decide), if_pos rfl]
  · have e : g_setR s 450 2 (g_R u 450 2) = g_setR s6 450 2 (g_R u 450 2) := by
      rw [es]
      show (s6.1, s6.2.1, s6.2.2.1, s6.2.2.2.1, g_u2 (g_u2 s6.2.2.2.2.1 450 2 (some q)) 450 2 (g_R u 450 2), s6.2.2.2.2.2) = (s6.1, s6.2.1, s6.2.2.1, s6.2.2.2.1, g_u2 s6.2.2.2.2.1 450 2 (g_R u 450 2), s6.2.2.2.2.2)
      have : g_u2 (g_u2 s6.2.2.2.2.1 450 2 (some q)) 450 2 (g_R u 450 2) = g_u2 s6.2.2.2.2.1 450 2 (g_R u 450 2) := funext fun k => funext fun x => by
        show (if k = 450 ∧ x = 2 then _ else if k = 450 ∧ x = 2 then _ else _) = if k = 450 ∧ x = 2 then _ else _
        by_cases y : k = 450 ∧ x = 2
        · rw [if_pos y, if_pos y]
        · rw [if_neg y, if_neg y, if_neg y]
      rw [this]
    rw [e]
    refine ⟨k6.1, fun x x1 x2 x3 x4 x5 => (k6.2.1 x x1 x2 x3 x4 x5).pR _ _ x4, k6.2.2.1, fun k x y => ?_⟩
    rw [x_R_R]
    by_cases z : k = 450
    · rw [if_pos ⟨z, rfl⟩, z]
    · rw [if_neg (fun q => z q.1)]; exact k6.2.2.2 k x y
end
