/-! RUNNING (reference): a row comes to a part -/
def M_ro (Xs : Nat → r_Pt) (P : M_Pl) : Prop := ∀ x ∈ P, r_okr (Xs x.1) x.2
theorem M_pr_app (P Q : M_Pl) (q : Nat) : M_pr (P ++ Q) q = M_pr P q ++ M_pr Q q := List.filterMap_append
theorem M_pr_any (P : M_Pl) (q : Nat) (f : r_Row → Bool) : (M_pr P q).any f = P.any fun x => decide (x.1 = q) && f x.2 := by
  unfold M_pr
  rw [List.any_filterMap]
  refine congrArg (fun g => List.any P g) (funext fun x => ?_)
  by_cases e : x.1 = q
  · rw [if_pos e, decide_eq_true e]; rfl
  · rw [if_neg e, decide_eq_false e]; rfl
section
variable {w : g_St} {np nt : Nat} {Xs : Nat → r_Pt} {tw : Nat → Nat} {tbl : Nat → List (Nat → Int64)} {P : M_Pl} {p : Nat}
theorem m_there (F : m_Fix w) (PO : M_po w np Xs P) (hp : p < np) (np4 : np ≤ 4) (hpc : M_pcv w p (Xs p)) (ok : M_ro Xs P) {b : r_Row} (hb : M_row w (Xs p) P.length b) (ob : r_okr (Xs p) b) : f_M_isThere (some 1) (Int32.ofNat p) w = some (z_g ((M_pr P p).any fun r => r_same (Xs p) r b), w) := by
  obtain ⟨P1, P2, P3⟩ := PO
  have f4 : g_R w 4993 1 = some 4116 ∧ g_ln w 4116 = 50 := F (4993, 4116, 50) (by decide)
  have key : ∀ (d i f : Nat), i + d = P.length → d + 1 < f → f_M_isThere_4 f (some 1) (Int32.ofNat p) 0 (Int32.ofNat i) w = some (z_g ((P.drop i).any fun x => decide (x.1 = p) && r_same (Xs p) x.2 b), w) := by
    intro d
    induction d with
    | zero =>
      intro i f e1 e2
      obtain ⟨f, rfl⟩ : ∃ m, f = m + 1 := ⟨f - 1, by omega⟩
      rw [f_M_isThere_4, x_gI, P1, if_pos (by rw [x_le (by omega) (by omega)]; omega), List.drop_eq_nil_of_le (by omega)]
      rfl
    | succ d ih =>
      intro i f e1 e2
      obtain ⟨f, rfl⟩ : ∃ m, f = m + 1 := ⟨f - 1, by omega⟩
      have il : i < P.length := by omega
      obtain ⟨x, hx⟩ : ∃ x, P[i]? = some x := ⟨_, List.getElem?_eq_getElem il⟩
      have hdr : P.drop i = x :: P.drop (i + 1) := by
        rw [List.getElem?_eq_getElem il] at hx
        rw [← Option.some.inj hx]
        exact List.drop_eq_getElem_cons il
      have xm : x ∈ P := List.mem_of_getElem? hx
      obtain ⟨q', r'⟩ := x
      obtain ⟨p1, p2, p3⟩ := P3 i q' r' hx
      rw [f_M_isThere_4, x_gI, P1, if_neg (by rw [x_le (by omega) (by omega)]; omega), if_pos rfl, x_gR, f4.1, x_aI (by omega) (by omega), p2, hdr, List.any_cons]
      show _ = some (z_g ((decide (q' = p) && r_same (Xs p) r' b) || _), w)
      by_cases e : q' = p
      · have ok' := ok _ xm
        have ok2 : r_okr (Xs q') r' := ok'
        rw [e] at p3 ok2
        rw [if_pos (by rw [e]), x_nn, m_alike F hpc P1 (by omega) (by omega) p3 hb ok2 ob, x_c, decide_eq_true e, Bool.true_and, x_p1]
        cases r_same (Xs p) r' b with
        | false =>
          rw [if_pos (show z_g false = 0 from rfl), Bool.false_or]
          exact ih (i + 1) f (by omega) (by omega)
        | true =>
          rw [if_neg (show ¬ z_g true = 0 from by decide), Bool.true_or]
          obtain ⟨f, rfl⟩ : ∃ m, f = m + 1 := ⟨f - 1, by omega⟩
          rw [f_M_isThere_4, x_gI, P1, if_neg (show ¬ (1 : Int32) = 0 from by decide), ite_self]
          rfl
      · rw [if_neg (by rw [x_eq (by omega) (by omega)]; exact e), decide_eq_false e, Bool.false_and, Bool.false_or, x_p1]
        exact ih (i + 1) f (by omega) (by omega)
  have k0 := key P.length 0 200000 (by omega) (by omega)
  rw [List.drop_zero] at k0
  rw [M_pr_any P p (fun r => r_same (Xs p) r b)]
  exact k0
def M_un (w : g_St) (p : Nat) (X : r_Pt) : Prop := (X.2.2.2 = true ∧ g_AI w 95 p = 0 ∧ ∃ k, g_AI w 1940 p = Int32.ofNat k ∧ 1 < k ∧ k ≤ 4) ∨ (X.2.2.2 = false ∧ (g_AI w 95 p ≠ 0 ∨ ∃ k, g_AI w 1940 p = Int32.ofNat k ∧ k ≤ 1))
theorem r_okr_n {X : r_Pt} (hX : ∀ c, X.2.2.1 = some c → c < 3) (v : Nat → Int64) (par : r_Row) : r_okr X (r_nrow X v par) := by
  intro h
  have t : r_tr X = true := by unfold r_tr; rw [h, Bool.or_true]
  unfold r_nrow
  rw [if_pos t]
  show (if (3 : Nat) = 3 then r_mk X v par else v 3) = r_mk X (fun j => if j = 3 then r_mk X v par else v j) par
  rw [if_pos rfl]
  cases hc : X.2.2.1 with
  | none => rw [hc] at h; cases h
  | some c =>
    have c3 := hX c hc
    have e : ∀ own : Nat → Int64, r_mk X own par = if (!decide (own c = r_N) && par.any fun a => decide (a c = own c)) = true then 1 else 0 := fun own => by unfold r_mk; rw [hc]
    have e2 : (fun j => if j = 3 then r_mk X v par else v j) c = v c := if_neg (by omega)
    generalize (fun j => if j = 3 then r_mk X v par else v j) = o at e2 ⊢
    rw [e v, e o, e2]
/-- what comes of a row -/
def M_brg (w w' : g_St) (np nt : Nat) (Xs : Nat → r_Pt) (tw : Nat → Nat) (tbl : Nat → List (Nat → Int64)) (P : M_Pl) (p al : Nat) (b : r_Row) : Prop := if ((Xs p).2.2.2 && (M_pr P p).any fun r => r_same (Xs p) r b) = true then M_st w' np nt Xs tw tbl P ∧ g_I w' 1 1 = g_I w 1 1 else if P.length < al then M_st w' np nt Xs tw tbl (P ++ [(p, b)]) ∧ g_I w' 1 1 = g_I w 1 1 else g_I w' 1 1 = 4
theorem M_brg.t {w' : g_St} {al : Nat} {b : r_Row} (h : ((Xs p).2.2.2 && (M_pr P p).any fun r => r_same (Xs p) r b) = true) (a : M_st w' np nt Xs tw tbl P ∧ g_I w' 1 1 = g_I w 1 1) : M_brg w w' np nt Xs tw tbl P p al b := by
  unfold M_brg
  rw [if_pos h]
  exact a
theorem M_brg.n {w' : g_St} {al : Nat} {b : r_Row} (h : ¬ ((Xs p).2.2.2 && (M_pr P p).any fun r => r_same (Xs p) r b) = true) (l : P.length < al) (a : M_st w' np nt Xs tw tbl (P ++ [(p, b)]) ∧ g_I w' 1 1 = g_I w 1 1) : M_brg w w' np nt Xs tw tbl P p al b := by
  unfold M_brg
  rw [if_neg h, if_pos l]
  exact a
theorem M_brg.o {w' : g_St} {al : Nat} {b : r_Row} (h : ¬ ((Xs p).2.2.2 && (M_pr P p).any fun r => r_same (Xs p) r b) = true) (l : ¬ P.length < al) (a : g_I w' 1 1 = 4) : M_brg w w' np nt Xs tw tbl P p al b := by
  unfold M_brg
  rw [if_neg h, if_neg l]
  exact a
theorem m_bring {s : Nat} {its : List r_It} {al : Nat} {par : r_Row} (S : M_st w np nt Xs tw tbl P) (hs : s < 17) (hc : g_AI w 2196 s = Int32.ofNat its.length) (hl : its.length = (Xs p).1) (how : g_AI w 2004 s = Int32.ofNat p) (hp : p < np) (hpc : M_pcv w p (Xs p)) (hun : M_un w p (Xs p)) (ok : M_ro Xs P) (hal : g_I w 5441 1 = Int32.ofNat al) (al48 : al ≤ 48) (hPa : P.length ≤ al) (han : g_I w 5377 1 = 0) {v : Nat → Int64} {x2 : Int32} (hx : (x2 = -1 ∧ ∀ w1, z_W [] [789] w w1 → M_blw P.length w w1 → ∀ i, i < its.length → f_M_itemOf (some 1) (Int32.ofNat s) (Int32.ofNat i) w1 = some (v i, w1)) ∨ ∃ g, g < 49 ∧ x2 = Int32.ofNat g ∧ ∀ i, i < its.length → g_AL w 1109 (4 * g + i) = v i) (hpar : r_tr (Xs p) = true → ∀ w1, z_W [] [789, 4116, 4180, 4244] w w1 → M_blw P.length w w1 → ∃ x3, f_M_parent (some 1) (Int32.ofNat s) (Int32.ofNat p) w1 = some (x3, w1) ∧ M_pp w1 (Xs p) P.length x3 par) : ∃ w', f_M_bring (some 1) (Int32.ofNat s) x2 w = some ((), w') ∧ z_W [1, 4929] [789, 853, 917, 4116, 4180, 4244] w w' ∧ M_blw P.length w w' ∧ M_brg w w' np nt Xs tw tbl P p al (r_nrow (Xs p) v par) := by
  obtain ⟨F, T, PO, np4, w3⟩ := S
  have x3w := w3 p hp
  have f1 : g_R w 2241 1 = some 2004 ∧ g_ln w 2004 = 17 := F (2241, 2004, 17) (by decide)
  have P1 := PO.1
  have P2 := PO.2.1
  -- the cells
  have key : ∀ (d i f : Nat) (w1 : g_St), i + d = its.length → d < f → z_W [] [789] w w1 → M_blw P.length w w1 → (∀ j, j < i → g_AL w1 789 (4 * P.length + j) = v j) → ∃ w2 f', f_M_bring_22 f (some 1) (Int32.ofNat s) x2 (Int32.ofNat p) (Int32.ofNat i) w1 = f_M_bring_22 (f' + 1) (some 1) (Int32.ofNat s) x2 (Int32.ofNat p) (Int32.ofNat its.length) w2 ∧ z_W [] [789] w w2 ∧ M_blw P.length w w2 ∧ ∀ j, j < its.length → g_AL w2 789 (4 * P.length + j) = v j := by
    intro d
    induction d with
    | zero =>
      intro i f w1 e1 e2 hw hlo hv
      have ei : i = its.length := by omega
      refine ⟨w1, f - 1, ?_, hw, hlo, fun j hj => hv j (by omega)⟩
      rw [ei, show f - 1 + 1 = f by omega]
    | succ d ih =>
      intro i f w1 e1 e2 hw hlo hv
      obtain ⟨f, rfl⟩ : ∃ m, f = m + 1 := ⟨f - 1, by omega⟩
      have F1 := hw.fx F
      have g1 : g_R w1 2433 1 = some 2196 ∧ g_ln w1 2196 = 17 := F1 (2433, 2196, 17) (by decide)
      have g2 : g_R w1 5057 1 = some 789 ∧ g_ln w1 789 = 200 := F1 (5057, 789, 200) (by decide)
      have g3 : g_R w1 6401 1 = some 1109 ∧ g_ln w1 1109 = 200 := F1 (6401, 1109, 200) (by decide)
      have hn1 : g_I w1 4929 1 = Int32.ofNat P.length := by rw [hw.fi (by decide)]; exact P1
      have st : ∀ y, y = v i → ∃ w2 f', f_M_bring_22 f (some 1) (Int32.ofNat s) x2 (Int32.ofNat p) (Int32.ofNat (i + 1)) (g_setAL w1 789 (4 * P.length + i) y) = f_M_bring_22 (f' + 1) (some 1) (Int32.ofNat s) x2 (Int32.ofNat p) (Int32.ofNat its.length) w2 ∧ z_W [] [789] w w2 ∧ M_blw P.length w w2 ∧ ∀ j, j < its.length → g_AL w2 789 (4 * P.length + j) = v j := fun y hy => by
        refine ih (i + 1) f _ (by omega) (by omega) (hw.sL (by decide) _ _) (hlo.sL ⟨fun _ => by omega, fun q => absurd q (by decide)⟩) (fun j hj => ?_)
        rw [x_AL_AL]
        by_cases e : j = i
        · rw [if_pos ⟨rfl, by omega⟩, hy, e]
        · rw [if_neg (by omega)]; exact hv j (by omega)
      rw [f_M_bring_22, x_gR, g1.1, x_aI (by omega) (by omega), hw.ai (a := 2196) (by decide), hc, if_neg (by rw [x_le (by omega) (by omega)]; omega), x_gR, g2.1, x_gI, hn1, show (4 : Int32) = Int32.ofNat 4 from rfl, x_mul, x_add, x_p1]
      rcases hx with ⟨y1, y2⟩ | ⟨g, y1, y2, y3⟩
      · rw [if_pos y1, x_nn, y2 w1 hw hlo i (by omega), x_c, x_sL (by omega) (by omega)]
        exact st _ rfl
      · rw [if_neg (by
          rw [y2]
          intro q
          have q2 : (Int32.ofNat g).toInt = (-1 : Int32).toInt := by rw [q]
          rw [Int32.toInt_ofNat_of_lt (by omega)] at q2
          have q3 : (g : Int) = -1 := q2
          omega), x_gR, g3.1, y2, x_mul, x_add, x_aL (by omega) (by omega), x_sL (by omega) (by omega), ← y2]
        exact st _ (by rw [hw.al (a := 1109) (by decide)]; exact y3 i (by omega))
  obtain ⟨w2, f', k1, k2, k3, k4⟩ := key its.length 0 200000 w (by omega) (by omega) z_W.re M_blw.re (fun j hj => by omega)
  -- the rest of the row
  have F2 := k2.fx F
  obtain ⟨s5, hs5⟩ : ∃ x, x = g_setAI w2 4116 P.length (Int32.ofNat p) := ⟨_, rfl⟩
  obtain ⟨s8, hs8⟩ : ∃ x, x = g_setAI s5 4180 P.length 0 := ⟨_, rfl⟩
  obtain ⟨s11, hs11⟩ : ∃ x, x = g_setAI s8 4244 P.length 0 := ⟨_, rfl⟩
  have W5 : z_W [] [789, 4116, 4180, 4244] w s5 := by rw [hs5]; exact (k2.mono (by decide) (by decide)).sI (by decide) _ _
  have W8 : z_W [] [789, 4116, 4180, 4244] w s8 := by rw [hs8]; exact W5.sI (by decide) _ _
  have W11 : z_W [] [789, 4116, 4180, 4244] w s11 := by rw [hs11]; exact W8.sI (by decide) _ _
  have L11 : M_blw P.length w s11 := by rw [hs11, hs8, hs5]; exact ((k3.sI (Nat.le_refl _)).sI (Nat.le_refl _)).sI (Nat.le_refl _)
  have n11 : g_I s11 4929 1 = Int32.ofNat P.length := by rw [W11.fi (by decide)]; exact P1
  have c11 : g_AI s11 4116 P.length = Int32.ofNat p := by
    rw [hs11, x_AI_AI, if_neg (fun q => absurd q.1 (by decide)), hs8, x_AI_AI, if_neg (fun q => absurd q.1 (by decide)), hs5, x_AI_AI, if_pos ⟨rfl, rfl⟩]
  have a11 : g_AI s11 4180 P.length = 0 := by
    rw [hs11, x_AI_AI, if_neg (fun q => absurd q.1 (by decide)), hs8, x_AI_AI, if_pos ⟨rfl, rfl⟩]
  have b11 : g_AI s11 4244 P.length = 0 := by
    rw [hs11, x_AI_AI, if_pos ⟨rfl, rfl⟩]
  have v11 : ∀ j, j < (Xs p).1 → g_AL s11 789 (4 * P.length + j) = v j := fun j hj => by
    rw [hs11, x_AL_AI, hs8, x_AL_AI, hs5, x_AL_AI]
    exact k4 j (by omega)
  have F11 := W11.fx F
  obtain ⟨w3', m1, m2, m3, m4⟩ := m_leng (s := s) (par := par) F11 (hpc.mv (W11.mono (by decide) (by decide))) n11 P2 v11 a11 b11 (fun t => hpar t s11 W11 L11)
  have W3 : z_W [] [789, 853, 917, 4116, 4180, 4244] w w3' := (W11.mono (by decide) (by decide)).trans (m2.mono (by decide) (by decide))
  have L3 : M_blw P.length w w3' := L11.trans m3
  have F3 := W3.fx F
  have c3 : g_AI w3' 4116 P.length = Int32.ofNat p := by rw [m2.ai (a := 4116) (by decide)]; exact c11
  have n3 : g_I w3' 4929 1 = g_I w 4929 1 := W3.fi (by decide)
  have PO3 : M_po w3' np Xs P := PO.lo w3 L3 n3
  have T3 : M_tb w3' nt tw tbl := by
    unfold M_tb at T ⊢
    rw [W3.al (a := 597) (by decide), W3.ai (a := 980) (by decide)]
    exact T
  have ob : r_okr (Xs p) (r_nrow (Xs p) v par) := r_okr_n (fun c hc => by have := (hpc.2.2.2.2.2.2 c hc).2.2; omega) v par
  -- the end
  have e143 : (¬ ((Xs p).2.2.2 && (M_pr P p).any fun r => r_same (Xs p) r (r_nrow (Xs p) v par)) = true) → ∃ w', f_M_bring_143 (some 1) w3' = some ((), w') ∧ z_W [1, 4929] [789, 853, 917, 4116, 4180, 4244] w w' ∧ M_blw P.length w w' ∧ M_brg w w' np nt Xs tw tbl P p al (r_nrow (Xs p) v par) := by
    intro hno
    unfold f_M_bring_143
    rw [x_gI, n3, P1, x_gI, W3.fi (k := 5377) (by decide), han, x_gI, W3.fi (k := 5441) (by decide), hal, Int32.add_zero]
    by_cases e : P.length = al
    · rw [if_pos (by rw [e]), x_pI]
      exact ⟨_, rfl, (W3.mono (by decide) (by decide)).pI (by decide) _, L3, M_brg.o hno (by omega) (by rw [x_I_I, if_pos ⟨rfl, rfl⟩])⟩
    · rw [if_neg (by rw [x_eq (by omega) (by omega)]; exact e), x_gI, n3, P1, x_pI, x_p1]
      refine ⟨_, rfl, (W3.mono (by decide) (by decide)).pI (by decide) _, L3, M_brg.n hno (by omega) ⟨⟨F3, T3, ⟨?_, ?_, fun n q r hr => ?_⟩, np4, w3⟩, ?_⟩⟩
      · rw [x_I_I, if_pos ⟨rfl, rfl⟩, List.length_append]; rfl
      · rw [List.length_append]; show P.length + 1 ≤ 48; omega
      · show q < np ∧ g_AI w3' 4116 n = Int32.ofNat q ∧ M_row w3' (Xs q) n r
        by_cases g : n < P.length
        · rw [List.getElem?_append_left g] at hr
          exact PO3.2.2 n q r hr
        · rw [List.getElem?_append_right (by omega)] at hr
          have en : n = P.length := by
            by_cases g2 : n - P.length < 1
            · omega
            · rw [List.getElem?_eq_none (show ([(p, r_nrow (Xs p) v par)] : M_Pl).length ≤ n - P.length from by show 1 ≤ n - P.length; omega)] at hr
              cases hr
          rw [en, Nat.sub_self] at hr
          have hr' : some (p, r_nrow (Xs p) v par) = some (q, r) := hr
          cases hr'
          rw [en]
          exact ⟨hp, c3, m4⟩
      · rw [x_I_I, if_neg (fun q => absurd q.1 (by decide)), W3.fi (by decide)]
  have g1 : g_R w2 2433 1 = some 2196 ∧ g_ln w2 2196 = 17 := F2 (2433, 2196, 17) (by decide)
  have g2 : g_R w2 4993 1 = some 4116 ∧ g_ln w2 4116 = 50 := F2 (4993, 4116, 50) (by decide)
  have hn2 : g_I w2 4929 1 = Int32.ofNat P.length := by rw [k2.fi (by decide)]; exact P1
  unfold f_M_bring
  rw [x_gR, f1.1, x_aI (by omega) (by omega), how, if_neg (by rw [show (4 : Int32) = Int32.ofNat 4 from rfl, x_eq (by omega) (by omega)]; omega), show (0 : Int32) = Int32.ofNat 0 from rfl, k1, f_M_bring_22, x_gR, g1.1, x_aI (by omega) (by omega), k2.ai (a := 2196) (by decide), hc, if_pos (by rw [x_le (by omega) (by omega)]; omega), x_gR, g2.1, x_gI, hn2, x_sI (by omega) (by omega), ← hs5, x_gR, (m_fx (a := 5121) (b := 4180) (c := 50) (W5.fx F) (by decide)).1, x_gI, show g_I s5 4929 1 = Int32.ofNat P.length by rw [W5.fi (by decide)]; exact P1, x_sI (by omega) (by have := (m_fx (a := 5121) (b := 4180) (c := 50) (W5.fx F) (by decide)).2; omega), ← hs8, x_gR, (m_fx (a := 5249) (b := 4244) (c := 50) (W8.fx F) (by decide)).1, x_gI, show g_I s8 4929 1 = Int32.ofNat P.length by rw [W8.fi (by decide)]; exact P1, x_sI (by omega) (by have := (m_fx (a := 5249) (b := 4244) (c := 50) (W8.fx F) (by decide)).2; omega), ← hs11, x_nn, m1, x_c, x_gR, (m_fx (a := 1921) (b := 95) (c := 4) (F3) (by decide)).1, x_aI (by omega) (by have := (m_fx (a := 1921) (b := 95) (c := 4) (F3) (by decide)).2; omega), W3.ai (a := 95) (by decide)]
  rcases hun with ⟨u1, u2, k, u3, u4, u5⟩ | ⟨u1, u2⟩
  · rw [u2, if_pos rfl, x_gR, (m_fx (a := 2049) (b := 1940) (c := 4) (F3) (by decide)).1, x_aI (by omega) (by have := (m_fx (a := 2049) (b := 1940) (c := 4) (F3) (by decide)).2; omega), W3.ai (a := 1940) (by decide), u3, if_neg (by rw [show (1 : Int32) = Int32.ofNat 1 from rfl, x_le (by omega) (by omega)]; omega), x_nn, m_there F3 PO3 hp np4 (hpc.mv (W3.mono (by decide) (by decide))) ok m4 ob, x_c]
    cases ht : (M_pr P p).any fun r => r_same (Xs p) r (r_nrow (Xs p) v par) with
    | false =>
      rw [if_pos (show z_g false = 0 from rfl)]
      exact e143 (by rw [ht, Bool.and_false]; decide)
    | true =>
      rw [if_neg (show ¬ z_g true = 0 from by decide)]
      exact ⟨w3', rfl, W3.mono (by decide) (by decide), L3, M_brg.t (by rw [u1, ht]; rfl) ⟨⟨F3, T3, PO3, np4, w3⟩, W3.fi (by decide)⟩⟩
  · have hno : ¬ ((Xs p).2.2.2 && (M_pr P p).any fun r => r_same (Xs p) r (r_nrow (Xs p) v par)) = true := by
      rw [u1, Bool.false_and]; decide
    by_cases q : g_AI w 95 p = 0
    · rcases u2 with u2 | ⟨k, u2, u3⟩
      · exact absurd q u2
      · rw [q, if_pos rfl, x_gR, (m_fx (a := 2049) (b := 1940) (c := 4) (F3) (by decide)).1, x_aI (by omega) (by have := (m_fx (a := 2049) (b := 1940) (c := 4) (F3) (by decide)).2; omega), W3.ai (a := 1940) (by decide), u2, if_pos (by rw [show (1 : Int32) = Int32.ofNat 1 from rfl, x_le (by omega) (by omega)]; omega)]
        exact e143 hno
    · rw [if_neg q]
      exact e143 hno
end
