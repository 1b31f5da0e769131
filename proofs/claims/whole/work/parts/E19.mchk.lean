/-! RUNNING (reference): the groups are made, whole, and looked through -/
theorem z_set3 (u : g_St) : g_setI (g_setI u 1 1 3) 1 1 3 = g_setI u 1 1 3 := by
  refine Prod.ext rfl (Prod.ext rfl (Prod.ext ?_ rfl))
  funext k a
  show g_I (g_setI (g_setI u 1 1 3) 1 1 3) k a = g_I (g_setI u 1 1 3) k a
  rw [x_I_I, x_I_I]
  by_cases e : k = 1 ∧ a = 1
  · rw [if_pos e, if_pos e]
  · rw [if_neg e]
def z_cd3 (b : Bool) (u : g_St) : g_St := if b = true then g_setI u 1 1 3 else u
theorem z_cd3_W (b : Bool) (u : g_St) : z_W [1] [] u (z_cd3 b u) := by
  cases b with
  | true => exact z_W.re.pI (by decide) _
  | false => exact z_W.re
theorem z_cd3_s (b : Bool) (u : g_St) : g_setI (z_cd3 b u) 1 1 3 = z_cd3 true u := by
  cases b with
  | true => exact z_set3 u
  | false => rfl
theorem z_isint (v : Int64) : (!(decide (v < -2147483648) || !decide (v ≤ 2147483647))) = !(decide (v = r_N) || r_oor v) := by
  unfold r_oor
  by_cases e : v = r_N
  · rw [decide_eq_true e, e]
    decide
  · rw [decide_eq_false e, Bool.false_or, Bool.not_false, Bool.true_and]
section
variable {w : g_St} {np nt : Nat} {Xs : Nat → r_Pt} {tw : Nat → Nat} {tbl : Nat → List (Nat → Int64)} {P : M_Pl} {s : Nat} {its : List r_It} {ms : List (Nat ⊕ Nat)} {cds : List r_Cd} {C : Nat → List Nat} {rs : Nat → List r_Row} {al : Nat}
theorem m_chk {mc : Nat → Nat → Nat} (F : m_Fix w) (hi : M_vit w mc s its) (hc : g_AI w 2196 s = Int32.ofNat its.length) {N : Nat} {gs : List r_Gp} (hN : N < 2 ^ 30) (hg : M_gr w its N gs) : f_M_checkGroups (some 1) (Int32.ofNat s) w = some ((), z_cd3 (r_gbadb its.length gs) w) := by
  have hs := hi.1
  have h4 := hi.2.1
  have l49 := hg.2.1
  have inner : ∀ (k2 : Option Nat → Int32 → Int32 → g_St → Option (Unit × g_St)) (g : Nat), g < gs.length → ∀ (d i f : Nat) (b : Bool), i + d = its.length → d < f → f_M_checkGroups_12 k2 f (some 1) (Int32.ofNat s) (Int32.ofNat g) (Int32.ofNat i) (z_cd3 b w) = k2 (some 1) (Int32.ofNat s) (Int32.ofNat (g + 1)) (z_cd3 (b || (List.range' i d).any fun i => (gs.getD g r_gp0).2 i && (decide ((gs.getD g r_gp0).1 i = r_N) || r_oor ((gs.getD g r_gp0).1 i))) w) := by
    intro k2 g hgl d
    induction d with
    | zero =>
      intro i f b e1 e2
      obtain ⟨f, rfl⟩ : ∃ m, f = m + 1 := ⟨f - 1, by omega⟩
      have W := z_cd3_W b w
      have f1 : g_R (z_cd3 b w) 2433 1 = some 2196 ∧ g_ln (z_cd3 b w) 2196 = 17 := W.fx F (2433, 2196, 17) (by decide)
      rw [f_M_checkGroups_12, x_gR, f1.1, x_aI (by omega) (by omega), W.ai (a := 2196) (by decide), hc, if_pos (by rw [x_le (by omega) (by omega)]; omega), x_p1]
      show _ = k2 (some 1) (Int32.ofNat s) (Int32.ofNat (g + 1)) (z_cd3 (b || false) w)
      rw [Bool.or_false]
    | succ d ih =>
      intro i f b e1 e2
      obtain ⟨f, rfl⟩ : ∃ m, f = m + 1 := ⟨f - 1, by omega⟩
      have hil : i < its.length := by omega
      have W := z_cd3_W b w
      have F1 := W.fx F
      have f1 : g_R (z_cd3 b w) 2433 1 = some 2196 ∧ g_ln (z_cd3 b w) 2196 = 17 := F1 (2433, 2196, 17) (by decide)
      have f2 : g_R (z_cd3 b w) 6401 1 = some 1109 ∧ g_ln (z_cd3 b w) 1109 = 200 := F1 (6401, 1109, 200) (by decide)
      have f3 : g_R (z_cd3 b w) 6465 1 = some 1173 ∧ g_ln (z_cd3 b w) 1173 = 200 := F1 (6465, 1173, 200) (by decide)
      obtain ⟨k1, k2'⟩ := m_kind F1 (hi.mv (W.mono (by decide) (by decide))) hil
      obtain ⟨a1, a2, a3, c, a4, a5, a6⟩ := hg.2.2 g hgl i hil
      rw [f_M_checkGroups_12, x_gR, f1.1, x_aI (by omega) (by omega), W.ai (a := 2196) (by decide), hc, if_neg (by rw [x_le (by omega) (by omega)]; omega), x_nn, k1, x_c, x_p1, List.range'_succ, List.any_cons]
      by_cases e : (its.getD i r_it0).1 = 0 ∨ (its.getD i r_it0).1 = 20
      · rw [if_pos (by
          unfold M_kd
          by_cases q : (its.getD i r_it0).1 = 0
          · rw [if_pos q]; decide
          · rw [if_neg q, show (22 : Int32) = Int32.ofNat 22 from rfl, x_lt (by omega) (by omega)]; omega), a2 e, Bool.false_and, Bool.false_or]
        exact ih (i + 1) f b (by omega) (by omega)
      · rw [if_neg (by
          unfold M_kd
          rw [if_neg (by omega), show (22 : Int32) = Int32.ofNat 22 from rfl, x_lt (by omega) (by omega)]; omega), x_gR, f3.1, show (4 : Int32) = Int32.ofNat 4 from rfl, x_mul, x_add, x_aL (by omega) (by omega), W.al (a := 1173) (by decide), a5]
        by_cases c0 : c = 0
        · have xf : (gs.getD g r_gp0).2 i = false := by
            cases hx : (gs.getD g r_gp0).2 i with
            | false => rfl
            | true => have := a6.mp hx; omega
          rw [if_pos (by rw [z_i64p (by omega)]; exact c0), xf, Bool.false_and, Bool.false_or]
          exact ih (i + 1) f b (by omega) (by omega)
        · have xt : (gs.getD g r_gp0).2 i = true := a6.mpr (by omega)
          have gv : r_gv its (gs.getD g r_gp0) i = (gs.getD g r_gp0).1 i := by
            unfold r_gv
            rw [if_pos (Or.inr (Or.inr xt))]
          rw [if_neg (by rw [z_i64p (by omega)]; exact c0), x_gR, f2.1, x_aL (by omega) (by omega), W.al (a := 1109) (by decide), a1, gv, m_int, x_c, z_isint, xt, Bool.true_and]
          cases (decide ((gs.getD g r_gp0).1 i = r_N) || r_oor ((gs.getD g r_gp0).1 i)) with
          | true =>
            rw [if_pos (show z_g (!true) = 0 from rfl), x_pI, z_cd3_s, ih (i + 1) f true (by omega) (by omega), Bool.true_or, Bool.or_true]
          | false =>
            rw [if_neg (show ¬ z_g (!false) = 0 from by decide), Bool.false_or]
            exact ih (i + 1) f b (by omega) (by omega)
  have outer : ∀ (d g f : Nat) (b : Bool), g + d = gs.length → d < f → f_M_checkGroups_2 f (some 1) (Int32.ofNat s) (Int32.ofNat g) (z_cd3 b w) = some ((), z_cd3 (b || (List.range' g d).any fun g => (List.range its.length).any fun i => (gs.getD g r_gp0).2 i && (decide ((gs.getD g r_gp0).1 i = r_N) || r_oor ((gs.getD g r_gp0).1 i))) w) := by
    intro d
    induction d with
    | zero =>
      intro g f b e1 e2
      obtain ⟨f, rfl⟩ : ∃ m, f = m + 1 := ⟨f - 1, by omega⟩
      have W := z_cd3_W b w
      rw [f_M_checkGroups_2, x_gI, W.fi (by decide), hg.1, if_pos (by rw [x_le (by omega) (by omega)]; omega)]
      show _ = some ((), z_cd3 (b || false) w)
      rw [Bool.or_false]
    | succ d ih =>
      intro g f b e1 e2
      obtain ⟨f, rfl⟩ : ∃ m, f = m + 1 := ⟨f - 1, by omega⟩
      have W := z_cd3_W b w
      have i0 := inner (f_M_checkGroups_2 f) g (by omega) its.length 0 200000 b (by omega) (by omega)
      rw [f_M_checkGroups_2, x_gI, W.fi (by decide), hg.1, if_neg (by rw [x_le (by omega) (by omega)]; omega), show (0 : Int32) = Int32.ofNat 0 from rfl, i0, ih (g + 1) f _ (by omega) (by omega), List.range'_succ, List.any_cons, ← List.range_eq_range', Bool.or_assoc]
  have o := outer gs.length 0 200000 false (by omega) (by omega)
  rw [Bool.false_or, ← List.range_eq_range'] at o
  exact o
theorem r_gc_all {its : List r_It} : (r_gc its = its.length) = (((List.range its.length).any fun i => decide ((its.getD i r_it0).1 = 0)) = false) := by
  unfold r_gc
  rw [List.length_filter_eq_length_iff]
  refine propext ⟨fun h => ?_, fun h a ha => ?_⟩
  · rw [List.any_eq_false]
    intro i hi
    have := h _ (z_getD_m (d := r_it0) (List.mem_range.mp hi))
    simpa using this
  · rw [List.any_eq_false] at h
    obtain ⟨i, hi, e⟩ := List.getElem_of_mem ha
    have := h i (List.mem_range.mpr hi)
    rw [List.getD_eq_getElem?_getD, List.getElem?_eq_getElem hi] at this
    have t2 : ¬ decide (its[i].1 = 0) = true := this
    rw [← e]
    simpa using t2
theorem m_mkg (S : M_st w np nt Xs tw tbl P) (L : M_sl w np nt Xs tw s its ms cds) (G : M_cst w Xs tw ms C rs) (hal : g_I w 5441 1 = Int32.ofNat al) (al1 : 1 ≤ al) (al48 : al ≤ 48) (hlen : (r_all (fun k => (rs k).length) ms.length 0 (fun _ => 0)).length ≤ 150000) : ∃ w', f_M_makeGroups (some 1) (Int32.ofNat s) w = some ((), w') ∧ z_W [1, 6337] [1109, 1173, 4692, 4756] w w' ∧ ((r_gfold its al (r_mt (r_tb (M_pr P) tbl) cds rs ms.length (r_all (fun k => (rs k).length) ms.length 0 (fun _ => 0)))).2 = true → g_I w' 1 1 = 4) ∧ ((r_gfold its al (r_mt (r_tb (M_pr P) tbl) cds rs ms.length (r_all (fun k => (rs k).length) ms.length 0 (fun _ => 0)))).2 = false → g_I w' 1 1 = g_I w 1 1 ∧ ∃ N, N < 2 ^ 30 ∧ M_gr w' its N (r_gfold its al (r_mt (r_tb (M_pr P) tbl) cds rs ms.length (r_all (fun k => (rs k).length) ms.length 0 (fun _ => 0)))).1 ∧ (r_gfold its al (r_mt (r_tb (M_pr P) tbl) cds rs ms.length (r_all (fun k => (rs k).length) ms.length 0 (fun _ => 0)))).1.length ≤ al) := by
  have hs := L.1
  have hi := L.2.2.2.2.2.2.1
  have hc := L.2.2.2.1
  have h4 := hi.2.1
  -- the end
  have fin : ∀ (f N : Nat) (w1 : g_St) (a : List r_Gp × Bool), z_W [6337] [1109, 1173, 4692, 4756] w w1 → N < 2 ^ 30 → M_gx w1 its al N a → ∃ w', f_M_makeGroups_59 (f + 1) (some 1) (Int32.ofNat s) 0 w1 = some ((), w') ∧ z_W [1, 6337] [1109, 1173, 4692, 4756] w w' ∧ (a.2 = true → g_I w' 1 1 = 4) ∧ (a.2 = false → g_I w' 1 1 = g_I w 1 1 ∧ ∃ N, N < 2 ^ 30 ∧ M_gr w' its N a.1 ∧ a.1.length ≤ al) := by
    intro f N w1 a hw hN hx
    rw [f_M_makeGroups_59, if_pos rfl, x_gI, x_gI, hw.fi (k := 5441) (by decide), hal]
    rcases hx with ⟨a1, a2, a3⟩ | ⟨a1, gs, a2, a3⟩
    · rw [a2.1, if_pos (by rw [x_le (by omega) (by omega)]; exact a3)]
      refine ⟨w1, rfl, hw.mono (by decide) (by decide), fun q => ?_, fun _ => ⟨hw.fi (by decide), N, hN, a2, a3⟩⟩
      rw [a1] at q; cases q
    · rw [a2.1, if_neg (by rw [x_le (by omega) (by omega)]; omega), x_pI]
      refine ⟨_, rfl, (hw.mono (by decide) (by decide)).pI (by decide) _, fun _ => by rw [x_I_I, if_pos ⟨rfl, rfl⟩], fun q => ?_⟩
      rw [a1] at q; cases q
  -- from the first combination on
  have go : ∀ (w1 : g_St) (a : List r_Gp × Bool), z_W [6337] [1109, 1173, 4692, 4756] w w1 → M_gx w1 its al 0 a → ∃ w', f_M_makeGroups_53 (some 1) (Int32.ofNat s) w1 = some ((), w') ∧ z_W [1, 6337] [1109, 1173, 4692, 4756] w w' ∧ (((r_mt (r_tb (M_pr P) tbl) cds rs ms.length (r_all (fun k => (rs k).length) ms.length 0 (fun _ => 0))).foldl (fun g e => r_gat its al (r_en e) (r_iv its (r_en e)) g) a).2 = true → g_I w' 1 1 = 4) ∧ (((r_mt (r_tb (M_pr P) tbl) cds rs ms.length (r_all (fun k => (rs k).length) ms.length 0 (fun _ => 0))).foldl (fun g e => r_gat its al (r_en e) (r_iv its (r_en e)) g) a).2 = false → g_I w' 1 1 = g_I w 1 1 ∧ ∃ N, N < 2 ^ 30 ∧ M_gr w' its N ((r_mt (r_tb (M_pr P) tbl) cds rs ms.length (r_all (fun k => (rs k).length) ms.length 0 (fun _ => 0))).foldl (fun g e => r_gat its al (r_en e) (r_iv its (r_en e)) g) a).1 ∧ ((r_mt (r_tb (M_pr P) tbl) cds rs ms.length (r_all (fun k => (rs k).length) ms.length 0 (fun _ => 0))).foldl (fun g e => r_gat its al (r_en e) (r_iv its (r_en e)) g) a).1.length ≤ al) := by
    intro w1 a hw hx
    obtain ⟨w2, m1, m2, m3⟩ := m_start (hw.fx S.1) (L.mv (hw.mono (by decide) (by decide))) (G.mv hw (by decide))
    have W2 : z_W [6337] [1109, 1173, 4692, 4756] w w2 := hw.trans (m2.mono (by decide) (by decide))
    have x2 : M_gx w2 its al 0 a := hx.mv m2 (by decide) (by decide) (by decide)
    unfold f_M_makeGroups_53
    rw [x_nn, m1, x_c]
    cases hA : r_all (fun k => (rs k).length) ms.length 0 (fun _ => 0) with
    | nil =>
      obtain ⟨w', e1, e2⟩ := fin 199999 0 w2 a W2 (by decide) x2
      exact ⟨w', e1, e2⟩
    | cons p R =>
      rw [hA] at hlen
      have hl : (p :: R).length = R.length + 1 := rfl
      obtain ⟨n1, n2, n3⟩ := m3 p R hA
      obtain ⟨w3, N', f', q1, q2, q3, q4⟩ := m_mg59 S L G hal al48 R p 200000 0 w2 a n2 n3 (by omega) (by omega) W2 n1 x2
      obtain ⟨w', e1, e2⟩ := fin f' N' w3 _ q2 q3 q4
      exact ⟨w', by rw [← e1, ← q1]; rfl, e2⟩
  -- is there a plain item
  have W0 : z_W [6337] [1109, 1173, 4692, 4756] w (g_setI w 6337 1 0) := z_W.re.pI (by decide) _
  have G0 : M_gr (g_setI w 6337 1 0) its 0 [] := ⟨by rw [x_I_I, if_pos ⟨rfl, rfl⟩]; rfl, by decide, fun g hg => by cases hg⟩
  have lp : ∀ (d i f : Nat) (b : Bool), i + d = its.length → d < f → f_M_makeGroups_9 f (some 1) (Int32.ofNat s) (z_g b) (Int32.ofNat i) (g_setI w 6337 1 0) = if (b || (List.range' i d).any fun i => decide ((its.getD i r_it0).1 = 0)) = true then f_M_makeGroups_53 (some 1) (Int32.ofNat s) (g_setI w 6337 1 0) else g_c (f_M_openGroup (some 1) (Int32.ofNat s) (g_setI w 6337 1 0)) fun _ s4 => f_M_makeGroups_53 (some 1) (Int32.ofNat s) s4 := by
    have F1 := W0.fx S.1
    have f1 : g_R (g_setI w 6337 1 0) 2433 1 = some 2196 ∧ g_ln (g_setI w 6337 1 0) 2196 = 17 := F1 (2433, 2196, 17) (by decide)
    intro d
    induction d with
    | zero =>
      intro i f b e1 e2
      obtain ⟨f, rfl⟩ : ∃ m, f = m + 1 := ⟨f - 1, by omega⟩
      rw [f_M_makeGroups_9, x_gR, f1.1, x_aI (by omega) (by omega), W0.ai (a := 2196) (by decide), hc, if_pos (show Int32.ofNat its.length ≤ Int32.ofNat i from by rw [x_le (by omega) (by omega)]; omega)]
      cases b with
      | true => rw [if_neg (show ¬ z_g true = 0 from by decide), Bool.true_or, if_pos (show true = true from rfl)]
      | false => rw [if_pos (show z_g false = 0 from rfl), if_neg (show ¬ (false || (List.range' i 0).any fun i => decide ((its.getD i r_it0).1 = 0)) = true from Bool.false_ne_true), x_nn]
    | succ d ih =>
      intro i f b e1 e2
      obtain ⟨f, rfl⟩ : ∃ m, f = m + 1 := ⟨f - 1, by omega⟩
      have hil : i < its.length := by omega
      obtain ⟨k1, k2⟩ := m_kind F1 (hi.mv (W0.mono (by decide) (by decide))) hil
      rw [f_M_makeGroups_9, x_gR, f1.1, x_aI (by omega) (by omega), W0.ai (a := 2196) (by decide), hc, if_neg (show ¬ Int32.ofNat its.length ≤ Int32.ofNat i from by rw [x_le (by omega) (by omega)]; omega), x_p1, List.range'_succ, List.any_cons]
      cases b with
      | true =>
        rw [if_neg (show ¬ z_g true = 0 from by decide), Bool.true_or]
        have e := ih (i + 1) f true (by omega) (by omega)
        rw [Bool.true_or] at e
        exact e
      | false =>
        rw [if_pos (show z_g false = 0 from rfl), x_nn, k1, x_c, Bool.false_or]
        by_cases e : (its.getD i r_it0).1 = 0
        · rw [if_pos (show M_kd (its.getD i r_it0).1 = 0 from by rw [M_kd0 k2]; exact e), decide_eq_true e]
          exact ih (i + 1) f true (by omega) (by omega)
        · rw [if_neg (show ¬ M_kd (its.getD i r_it0).1 = 0 from by rw [M_kd0 k2]; exact e), decide_eq_false e]
          exact ih (i + 1) f false (by omega) (by omega)
  have l0 := lp its.length 0 200000 false (by omega) (by omega)
  rw [Bool.false_or, ← List.range_eq_range'] at l0
  unfold f_M_makeGroups
  rw [x_pI, show (0 : Int32) = Int32.ofNat 0 from rfl, show (f_M_makeGroups_9 200000 (some 1) (Int32.ofNat s) (Int32.ofNat 0) (Int32.ofNat 0) (g_setI w 6337 1 (Int32.ofNat 0))) = _ from l0]
  unfold r_gfold
  by_cases e : r_gc its = its.length
  · have ea := e
    rw [r_gc_all] at ea
    obtain ⟨w1, o1, o2, o3⟩ := m_open (W0.fx S.1) (hi.mv (W0.mono (by decide) (by decide))) (by rw [W0.ai (a := 2196) (by decide)]; exact hc) r_c0 (fun w1 _ i hil hk => by
      rw [List.any_eq_false] at ea
      exact absurd (decide_eq_true hk) (ea i (List.mem_range.mpr hil))) G0 (by decide)
    rw [if_neg (by rw [ea]; decide), o1, x_c]
    have es : r_gs0 its = [r_g1 its r_c0] := by unfold r_gs0; rw [if_pos e]
    rw [es]
    exact go w1 ([r_g1 its r_c0], false) (W0.trans (o2.mono (by decide) (by decide))) (Or.inl ⟨rfl, o3, al1⟩)
  · have ea := e
    rw [r_gc_all, Bool.not_eq_false] at ea
    rw [if_pos ea]
    have es : r_gs0 its = [] := by unfold r_gs0; rw [if_neg e]
    rw [es]
    exact go _ ([], false) W0 (Or.inl ⟨rfl, G0, Nat.zero_le _⟩)
end
