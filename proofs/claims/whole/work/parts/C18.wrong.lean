/-! THE ENGINE'S CHECK: faults 3, 4, 6, 7, 8 -/
def z_bc (x : Int32) : Int32 := match f_In_bitCount x g_u0 with
  | some o => o.1
  | none => 0
theorem z_bc_e (x : Int32) (s : g_St) : f_In_bitCount x s = some (z_bc x, s) := rfl
theorem z_bc16 : ∀ a : Fin 16, ∀ k : Fin 4, (a.1).testBit k.1 = true → decide (1 < z_bc (Int32.ofNat a.1)) = decide (a.1 ≠ 2 ^ k.1) := by decide +kernel
section
variable {n q : Nat} {kd pl nw nv : Nat → Nat} {wd vl : Nat → Int64} {c : z_Cx} {A O : Nat} {b : Nat → Nat} {x : z_Qu} {tc : Nat} {cols : Nat → Nat} {xs ys : List Nat} {u0 : g_St}
/-- a selection names its own component more than once -/
def z_two (nw : Nat → Nat) (x : z_Qu) (tc ow : Nat) (y : z_Se) : Prop := ∃ i j, i < j ∧ j < (z_srt y).length ∧ z_nown nw x tc ow ((z_srt y).getD i 0) = true ∧ z_nown nw x tc ow ((z_srt y).getD j 0) = true
def z_onc (nw : Nat → Nat) (x : z_Qu) (tc ow : Nat) (y : z_Se) : Prop := ∃ t ∈ z_srt y, z_nown nw x tc ow t = true
theorem k_nmg (NM : z_NM n kd wd vl nw nv) (S : E_S pl wd c A O b x tc cols xs ys u0) (W : z_wqu kd q x) (hq : q ≤ n) {v : g_St} (D : E_D n kd pl nw wd c b x tc cols xs ys u0 v) {s : Nat} (hs : s < (z_sels x).length) : ∃ k, g_I v 648 ((b 8 + s) * 64 + 8) = Int32.ofNat k ∧ k ≤ 2000 ∧ (0 < k ↔ z_onc nw x tc (z_sv x s).1 (z_sv x s).2) ∧ (1 < k ↔ z_two nw x tc (z_sv x s).1 (z_sv x s).2) := by
  obtain ⟨k, k1, k2, k3, k4⟩ := D.2.2.2.2.2.2.2 s hs
  have hl := S.2.2.1.1.len
  have hc := S.2.2.2.1.1
  have Q := S.1
  obtain ⟨p, r, hr, hw⟩ := z_sv_w W hq hs
  refine ⟨k, k1, by omega, k3.trans ⟨?_, ?_⟩, k4.trans ⟨?_, ?_⟩⟩
  · rintro ⟨a, a1, a2, sl, t, g1, g2, g3⟩
    exact ⟨t, q_so_srt.mpr ⟨sl, g1⟩, g3⟩
  · rintro ⟨t, g1, g2⟩
    obtain ⟨sl, g3⟩ := q_so_srt.mp g1
    obtain ⟨a, a1, a2, a3⟩ := k_src9' Q hs g3
    exact ⟨a, a1, by omega, sl, t, g3, a3, g2⟩
  · rintro ⟨a, a', a1, a2, a3, h1, h2⟩
    have pos : ∀ e, b 9 ≤ e → e < b 9 + xs.length → E_ow pl nw wd b x tc u0 e s → ∃ i, e = b 9 + z_of z_nss x s + i ∧ i < (z_srt (z_sv x s).2).length ∧ z_nown nw x tc (z_sv x s).1 ((z_srt (z_sv x s).2).getD i 0) = true := by
      rintro e e1 e2 ⟨sl, t, g1, g2, g3⟩
      obtain ⟨s', d1, d2, d3⟩ := k_cvx Q e1 (by omega)
      obtain ⟨sl', f1, f2, -, -⟩ := k_srt Q d1 (i := e - (b 9 + z_of z_nss x s')) (by omega)
      rw [show b 9 + z_of z_nss x s' + (e - (b 9 + z_of z_nss x s')) = e by omega] at f2
      have es : s' = s := by
        have := f2.1.symm.trans g2.1
        have := Option.some.inj this
        omega
      subst es
      have en := E_so.tok NM g2 f2 (g1.isn hw hr).1 (f1.isn hw hr).1
      refine ⟨e - (b 9 + z_of z_nss x s'), by omega, by rw [z_nss_len]; omega, ?_⟩
      rw [← z_nown_nw en]
      exact g3
    obtain ⟨i, i1, i2, i3⟩ := pos a a1 (by omega) h1
    obtain ⟨j, j1, j2, j3⟩ := pos a' (by omega) a3 h2
    exact ⟨i, j, by omega, j2, i3, j3⟩
  · rintro ⟨i, j, h1, h2, h3, h4⟩
    rw [z_nss_len] at h2
    obtain ⟨sl, f1, f2, -, f3⟩ := k_srt Q hs (i := i) (by omega)
    obtain ⟨sl', g1, g2, -, g3⟩ := k_srt Q hs (i := j) h2
    exact ⟨_, _, by omega, by omega, by omega, ⟨sl, _, f1, f2, h3⟩, ⟨sl', _, g1, g2, h4⟩⟩
/-- a selection of a part, reached -/
theorem k_ps (S : E_S pl wd c A O b x tc cols xs ys u0) {m j : Nat} (hm : m < x.2.1.length) (hj : j < (x.2.1.getD m z_pa0).2.2.1.length) {v : g_St} (V : E_V c tc u0 v) {α : Type} (F : Option Nat → Option α) : (g_gR v 647 (some ((b 7 + m) * 64 + 7)) fun p => g_aR v p (Int32.ofNat j) F) = F (some ((b 8 + (z_tot (x.2.1.take m) + j)) * 64 + 8)) := by
  obtain ⟨-, P⟩ := S.1.2.2.1 m hm
  obtain ⟨p1, p2, p3, p4, aW, aQ, aL, p5, p6, p7, p8, p9, p10, p11, p12⟩ := P
  rw [x_gR, V.R (by decide), p6.2.2, x_aR (by omega) (by rw [V.ln, p7.2.2]; omega), V.AR, (p12 j hj).1, Nat.add_assoc]
theorem k_tw (NM : z_NM n kd wd vl nw nv) (S : E_S pl wd c A O b x tc cols xs ys u0) (W : z_wqu kd q x) (hq : q ≤ n) {v : g_St} (D : E_D n kd pl nw wd c b x tc cols xs ys u0 v) {m : Nat} (hm : m < x.2.1.length) : ∃ w : Bool, f_Ch_namesItselfTwice (some ((b 7 + m) * 64 + 7)) v = some (z_g w, v) ∧ (w = true ↔ ∃ j, j < (x.2.1.getD m z_pa0).2.2.1.length ∧ z_two nw x tc m ((x.2.1.getD m z_pa0).2.2.1.getD j z_se0)) := by
  have V := D.1
  obtain ⟨-, P⟩ := S.1.2.2.1 m hm
  obtain ⟨p1, p2, p3, p4, P⟩ := P
  have z0 : g_rZ 0 (some ((0 : Int32), v)) = some (z_g false, v) := rfl
  have z1 : g_rZ 1 (some ((1 : Int32), v)) = some (z_g true, v) := rfl
  have key : ∀ d i f, i + d = (x.2.1.getD m z_pa0).2.2.1.length → d < f → ∃ w : Bool, f_Ch_namesItselfTwice_2 f (some ((b 7 + m) * 64 + 7)) (Int32.ofNat i) v = some (z_g w, v) ∧ (w = true ↔ ∃ j, i ≤ j ∧ j < (x.2.1.getD m z_pa0).2.2.1.length ∧ z_two nw x tc m ((x.2.1.getD m z_pa0).2.2.1.getD j z_se0)) := by
    intro d
    induction d with
    | zero =>
      intro i f h1 h2
      obtain ⟨f, rfl⟩ : ∃ m, f = m + 1 := ⟨f - 1, by omega⟩
      refine ⟨false, ?_, fun h => (by cases h), fun ⟨j, h3, h4, _⟩ => by omega⟩
      rw [f_Ch_namesItselfTwice_2, x_gI, V.I (by decide), p2.2.2.2.1, if_pos (by rw [x_le (by omega) (by omega)]; omega), z0]
    | succ d ih =>
      intro i f h1 h2
      obtain ⟨f, rfl⟩ : ∃ m, f = m + 1 := ⟨f - 1, by omega⟩
      obtain ⟨g, e⟩ := k_selp S.1 hm (m2 := i) (by omega)
      obtain ⟨k, k1, k2, k3, k4⟩ := k_nmg NM S W hq D g.1
      rw [e] at k4
      rw [f_Ch_namesItselfTwice_2, x_gI, V.I (by decide), p2.2.2.2.1, if_neg (by rw [x_le (by omega) (by omega)]; omega), k_ps S hm (by omega) V, x_gI, k1]
      by_cases w : 1 < k
      · rw [if_neg (by rw [show (1 : Int32) = Int32.ofNat 1 from rfl, x_le (by omega) (by omega)]; omega), z1]
        exact ⟨true, rfl, fun _ => ⟨i, Nat.le_refl _, by omega, k4.mp w⟩, fun _ => rfl⟩
      · rw [if_pos (by rw [show (1 : Int32) = Int32.ofNat 1 from rfl, x_le (by omega) (by omega)]; omega), x_p1]
        obtain ⟨w', w1, w2⟩ := ih (i + 1) f (by omega) (by omega)
        refine ⟨w', w1, w2.trans ⟨fun ⟨j, h3, h4⟩ => ⟨j, by omega, h4⟩, fun ⟨j, h3, h4, h5⟩ => ⟨j, ?_, h4, h5⟩⟩⟩
        by_cases ej : j = i
        · rw [ej] at h5; exact absurd (k4.mpr h5) w
        · omega
  obtain ⟨w, w1, w2⟩ := key _ 0 200000 (Nat.zero_add _) (by omega)
  exact ⟨w, w1, w2.trans ⟨fun ⟨j, _, h⟩ => ⟨j, h⟩, fun ⟨j, h⟩ => ⟨j, Nat.zero_le _, h⟩⟩⟩
/-- the faults that are told at a part's name -/
def z_wr (nw : Nat → Nat) (x : z_Qu) (tc m num : Nat) : Prop := (num = 4 ∧ ((x.2.1.getD m z_pa0).2.2.2.1.any fun b => !b) = true ∧ ((x.2.1.getD m z_pa0).2.2.2.1.any id) = true) ∨ (num = 6 ∧ z_onc nw x tc m ((x.2.1.getD m z_pa0).2.2.1.getD 0 z_se0)) ∨ (num = 7 ∧ (z_rch nw x tc m).testBit m = true ∧ (((x.2.1.getD m z_pa0).2.2.2.1.any id) = true ∨ z_trd (x.2.1.getD m z_pa0) = true) ∧ (z_tog x.2.1.length (z_rch nw x tc) m ≠ 2 ^ m ∨ ∃ j, j < (x.2.1.getD m z_pa0).2.2.1.length ∧ z_two nw x tc m ((x.2.1.getD m z_pa0).2.2.1.getD j z_se0))) ∨ (num = 8 ∧ z_trd (x.2.1.getD m z_pa0) = true ∧ (z_rch nw x tc m).testBit m = false)
theorem k_wr (NM : z_NM n kd wd vl nw nv) (S : E_S pl wd c A O b x tc cols xs ys u0) (W : z_wqu kd q x) (hq : q ≤ n) {v : g_St} (D : E_D n kd pl nw wd c b x tc cols xs ys u0 v) {m : Nat} (hm : m < x.2.1.length) (h1s : 1 ≤ (x.2.1.getD m z_pa0).2.2.1.length) {num : Nat} (hn : num = 4 ∨ num = 6 ∨ num = 7 ∨ num = 8) : ∃ w : Bool, f_Ch_isWrong (some 3) (some ((b 7 + m) * 64 + 7)) (Int32.ofNat num) v = some (z_g w, v) ∧ (w = true ↔ z_wr nw x tc m num) := by
  have V := D.1
  have q3 := S.1.1.2.2.1
  obtain ⟨-, P⟩ := S.1.2.2.1 m hm
  obtain ⟨p1, p2, p3, p4, P⟩ := P
  obtain ⟨W', Q', -, -, -, -, -, -, ps, pc⟩ := k_pw S hm
  have z0 : g_rZ 0 (some ((0 : Int32), v)) = some (z_g false, v) := rfl
  have z1 : g_rZ 1 (some ((1 : Int32), v)) = some (z_g true, v) := rfl
  have rc := (D.2.2.2.2.2.1 m hm).1
  have tg := (D.2.2.2.2.2.1 m hm).2
  have gz : ∀ b : Bool, (z_g b = 0) = (b = false) := fun b => z_gz
  have i391 : g_I v 391 ((b 7 + m) * 64 + 7) = z_g (x.2.1.getD m z_pa0).2.2.2.2.1.isSome := by
    rw [V.I (by decide)]
    cases hx : (x.2.1.getD m z_pa0).2.2.2.2.1 with
    | none => rw [hx] at ps; exact ps.1
    | some y => rw [hx] at ps; exact ps.1
  have i455 : g_I v 455 ((b 7 + m) * 64 + 7) = z_g (x.2.1.getD m z_pa0).2.2.2.2.2.isSome := by
    rw [V.I (by decide)]
    cases hx : (x.2.1.getD m z_pa0).2.2.2.2.2 with
    | none => rw [hx] at pc; exact pc.1
    | some y => rw [hx] at pc; exact pc.1
  have i519 : g_I v 519 ((b 7 + m) * 64 + 7) = z_g ((x.2.1.getD m z_pa0).2.2.2.1.any fun b => !b) := by rw [V.I (by decide)]; exact p2.2.2.2.2.1
  have i583 : g_I v 583 ((b 7 + m) * 64 + 7) = z_g ((x.2.1.getD m z_pa0).2.2.2.1.any id) := by rw [V.I (by decide)]; exact p2.2.2.2.2.2
  unfold f_Ch_isWrong z_wr z_trd
  rcases hn with e | e | e | e
  · rw [e, if_pos (by decide), x_gI, i519, x_gI, i583, z0, z1]
    cases h1 : ((x.2.1.getD m z_pa0).2.2.2.1.any fun b => !b) with
    | false => rw [if_pos (show z_g false = 0 from rfl)]; exact ⟨false, rfl, by simp⟩
    | true =>
      rw [if_neg (show ¬ z_g true = 0 from by decide)]
      cases h2 : ((x.2.1.getD m z_pa0).2.2.2.1.any id) with
      | false => rw [if_pos (show z_g false = 0 from rfl)]; exact ⟨false, rfl, by simp⟩
      | true => rw [if_neg (show ¬ z_g true = 0 from by decide)]; exact ⟨true, rfl, by simp⟩
  · obtain ⟨g, ee⟩ := k_selp S.1 hm (m2 := 0) (by omega)
    obtain ⟨k, k1, k2, k3, k4⟩ := k_nmg NM S W hq D g.1
    rw [ee] at k3
    rw [e, if_neg (by decide), if_pos (by decide), show (0 : Int32) = Int32.ofNat 0 from rfl, k_ps S hm (j := 0) (by omega) V, x_gI, k1, show Int32.ofNat 0 = (0 : Int32) from rfl, z0, z1]
    by_cases w : 0 < k
    · rw [if_neg (by rw [show (0 : Int32) = Int32.ofNat 0 from rfl, x_le (by omega) (by omega)]; omega)]
      exact ⟨true, rfl, fun _ => Or.inr (Or.inl ⟨rfl, k3.mp w⟩), fun _ => rfl⟩
    · rw [if_pos (by rw [show (0 : Int32) = Int32.ofNat 0 from rfl, x_le (by omega) (by omega)]; omega)]
      refine ⟨false, rfl, fun h => (by cases h), fun h => ?_⟩
      rcases h with ⟨h, -⟩ | ⟨-, h⟩ | ⟨h, -⟩ | ⟨h, -⟩
      · omega
      · exact absurd (k3.mpr h) w
      · omega
      · omega
  · have tl : z_tog x.2.1.length (z_rch nw x tc) m < 16 := z_tog_lt (by omega) q3
    have tb : (z_tog x.2.1.length (z_rch nw x tc) m).testBit m = true := z_tog_bit.mpr (Or.inl rfl)
    have bc := z_bc16 ⟨_, tl⟩ ⟨m, by omega⟩ tb
    obtain ⟨w, w1, w2⟩ := k_tw NM S W hq D hm
    have e83 : ∃ w' : Bool, f_Ch_isWrong_83 (some ((b 7 + m) * 64 + 7)) v = some (z_g w', v) ∧ (w' = true ↔ (z_tog x.2.1.length (z_rch nw x tc) m ≠ 2 ^ m ∨ ∃ j, j < (x.2.1.getD m z_pa0).2.2.1.length ∧ z_two nw x tc m ((x.2.1.getD m z_pa0).2.2.1.getD j z_se0))) := by
      unfold f_Ch_isWrong_83
      rw [x_gI, tg, z_bc_e, x_c, w1, x_c, z0, z1]
      by_cases h : z_tog x.2.1.length (z_rch nw x tc) m = 2 ^ m
      · rw [if_neg (fun q => by
          have := bc.symm.trans (decide_eq_true q)
          exact absurd h (of_decide_eq_true this))]
        cases w with
        | false => rw [if_pos (show z_g false = 0 from rfl)]; exact ⟨false, rfl, fun h => (by cases h), fun q => by rcases q with q | q; exact absurd h q; cases w2.mpr q⟩
        | true => rw [if_neg (show ¬ z_g true = 0 from by decide)]; exact ⟨true, rfl, fun _ => Or.inr (w2.mp rfl), fun _ => rfl⟩
      · rw [if_pos (of_decide_eq_true (bc.trans (decide_eq_true h)))]
        exact ⟨true, rfl, fun _ => Or.inl h, fun _ => rfl⟩
    obtain ⟨w', e1, e2⟩ := e83
    rw [e, if_neg (by decide), if_neg (by decide), if_pos (by decide), x_gI, rc, x_gI, i583, x_gI, i391, x_gI, i455, e1, z0]
    have fin : ((z_rch nw x tc m).testBit m = true ∧ ((((x.2.1.getD m z_pa0).2.2.2.1.any id) = true) ∨ ((x.2.1.getD m z_pa0).2.2.2.2.1.isSome || (x.2.1.getD m z_pa0).2.2.2.2.2.isSome) = true) → ∃ w : Bool, some (z_g w', v) = some (z_g w, v) ∧ (w = true ↔ (7 = 4 ∧ ((x.2.1.getD m z_pa0).2.2.2.1.any fun b => !b) = true ∧ ((x.2.1.getD m z_pa0).2.2.2.1.any id) = true) ∨ (7 = 6 ∧ z_onc nw x tc m ((x.2.1.getD m z_pa0).2.2.1.getD 0 z_se0)) ∨ (7 = 7 ∧ (z_rch nw x tc m).testBit m = true ∧ (((x.2.1.getD m z_pa0).2.2.2.1.any id) = true ∨ ((x.2.1.getD m z_pa0).2.2.2.2.1.isSome || (x.2.1.getD m z_pa0).2.2.2.2.2.isSome) = true) ∧ (z_tog x.2.1.length (z_rch nw x tc) m ≠ 2 ^ m ∨ ∃ j, j < (x.2.1.getD m z_pa0).2.2.1.length ∧ z_two nw x tc m ((x.2.1.getD m z_pa0).2.2.1.getD j z_se0))) ∨ (7 = 8 ∧ ((x.2.1.getD m z_pa0).2.2.2.2.1.isSome || (x.2.1.getD m z_pa0).2.2.2.2.2.isSome) = true ∧ (z_rch nw x tc m).testBit m = false))) := fun h => ⟨w', rfl, e2.trans ⟨fun q => Or.inr (Or.inr (Or.inl ⟨rfl, h.1, h.2, q⟩)), fun q => by
      rcases q with ⟨q, -⟩ | ⟨q, -⟩ | ⟨-, -, -, q⟩ | ⟨q, -⟩
      · omega
      · omega
      · exact q
      · omega⟩⟩
    have nof : ¬ ((z_rch nw x tc m).testBit m = true ∧ ((((x.2.1.getD m z_pa0).2.2.2.1.any id) = true) ∨ ((x.2.1.getD m z_pa0).2.2.2.2.1.isSome || (x.2.1.getD m z_pa0).2.2.2.2.2.isSome) = true)) → ∃ w : Bool, some (z_g false, v) = some (z_g w, v) ∧ (w = true ↔ (7 = 4 ∧ ((x.2.1.getD m z_pa0).2.2.2.1.any fun b => !b) = true ∧ ((x.2.1.getD m z_pa0).2.2.2.1.any id) = true) ∨ (7 = 6 ∧ z_onc nw x tc m ((x.2.1.getD m z_pa0).2.2.1.getD 0 z_se0)) ∨ (7 = 7 ∧ (z_rch nw x tc m).testBit m = true ∧ (((x.2.1.getD m z_pa0).2.2.2.1.any id) = true ∨ ((x.2.1.getD m z_pa0).2.2.2.2.1.isSome || (x.2.1.getD m z_pa0).2.2.2.2.2.isSome) = true) ∧ (z_tog x.2.1.length (z_rch nw x tc) m ≠ 2 ^ m ∨ ∃ j, j < (x.2.1.getD m z_pa0).2.2.1.length ∧ z_two nw x tc m ((x.2.1.getD m z_pa0).2.2.1.getD j z_se0))) ∨ (7 = 8 ∧ ((x.2.1.getD m z_pa0).2.2.2.2.1.isSome || (x.2.1.getD m z_pa0).2.2.2.2.2.isSome) = true ∧ (z_rch nw x tc m).testBit m = false)) := fun h => ⟨false, rfl, fun q => (by cases q), fun q => by
      rcases q with ⟨q, -⟩ | ⟨q, -⟩ | ⟨-, q1, q2, q⟩ | ⟨q, -⟩
      · omega
      · omega
      · exact absurd ⟨q1, q2⟩ h
      · omega⟩
    cases h1 : (z_rch nw x tc m).testBit m with
    | false => rw [if_pos (show z_g false = 0 from rfl)]; rw [h1] at nof; exact nof (fun h => by cases h.1)
    | true =>
      rw [if_neg (show ¬ z_g true = 0 from by decide)]
      rw [h1] at fin nof
      cases h2 : ((x.2.1.getD m z_pa0).2.2.2.1.any id) with
      | true =>
        rw [if_neg (show ¬ z_g true = 0 from by decide)]
        rw [h2] at fin
        exact fin ⟨rfl, Or.inl rfl⟩
      | false =>
        rw [if_pos (show z_g false = 0 from rfl)]
        rw [h2] at fin nof
        cases h3 : (x.2.1.getD m z_pa0).2.2.2.2.1.isSome with
        | true =>
          rw [if_neg (show ¬ z_g true = 0 from by decide)]
          rw [h3] at fin
          exact fin ⟨rfl, Or.inr rfl⟩
        | false =>
          rw [if_pos (show z_g false = 0 from rfl)]
          rw [h3] at fin nof
          cases h4 : (x.2.1.getD m z_pa0).2.2.2.2.2.isSome with
          | true =>
            rw [if_neg (show ¬ z_g true = 0 from by decide)]
            rw [h4] at fin
            exact fin ⟨rfl, Or.inr rfl⟩
          | false =>
            rw [if_pos (show z_g false = 0 from rfl)]
            rw [h4] at nof
            exact nof (fun h => by rcases h.2 with h | h; cases h; cases h)
  · have e127 : f_Ch_isWrong_127 (some ((b 7 + m) * 64 + 7)) v = some (z_g (!(z_rch nw x tc m).testBit m), v) := by
      unfold f_Ch_isWrong_127
      rw [x_gI, rc, z0, z1]
      cases (z_rch nw x tc m).testBit m with
      | false => rw [if_pos (show z_g false = 0 from rfl)]; rfl
      | true => rw [if_neg (show ¬ z_g true = 0 from by decide)]; rfl
    rw [e, if_neg (by decide), if_neg (by decide), if_neg (by decide), if_pos (by decide), x_gI, i391, x_gI, i455, e127, z0]
    cases h3 : (x.2.1.getD m z_pa0).2.2.2.2.1.isSome with
    | true =>
      rw [if_neg (show ¬ z_g true = 0 from by decide)]
      refine ⟨_, rfl, ?_⟩
      cases (z_rch nw x tc m).testBit m <;> simp
    | false =>
      rw [if_pos (show z_g false = 0 from rfl)]
      cases h4 : (x.2.1.getD m z_pa0).2.2.2.2.2.isSome with
      | true =>
        rw [if_neg (show ¬ z_g true = 0 from by decide)]
        refine ⟨_, rfl, ?_⟩
        cases (z_rch nw x tc m).testBit m <;> simp
      | false =>
        rw [if_pos (show z_g false = 0 from rfl)]
        exact ⟨false, rfl, by simp⟩
end
