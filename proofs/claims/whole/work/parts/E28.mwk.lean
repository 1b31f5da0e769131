/-! RUNNING (reference): a selection is worked out, behind gathering -/
def M_res {α : Type} (Rel : g_St → α → Prop) (w : g_St) : α ⊕ Nat → Prop
  | .inl b => Rel w b
  | .inr c => g_I w 1 1 = Int32.ofNat (c + 1)
section
variable {α : Type} {Rel : g_St → α → Prop} {put : (Nat → r_Row) → (Nat → Int64) → α → α} {fo : α → Bool} {np nt : Nat} {Xs : Nat → r_Pt} {tw : Nat → Nat} {tbl : Nat → List (Nat → Int64)} {tb : (Nat ⊕ Nat) → List (Nat → Int64)} {s al : Nat} {its : List r_It} {ms : List (Nat ⊕ Nat)} {cds : List r_Cd} {C : Nat → List Nat} {rs : Nat → List r_Row}
theorem m_wk (h1 : M_sk1 Rel np nt Xs tw tbl tb s al its ms cds C rs) (h2 : M_sk2 Rel) (h3 : r_gc its = 0 → M_sk3 Rel put fo np nt Xs tw s its ms cds C rs) (h4 : r_gc its ≠ 0 → M_sk4 Rel put fo s its) (hm : ∀ e v a, fo a = true → fo (put e v a) = true) (al1 : 1 ≤ al) (al48 : al ≤ 48) (hrs : ∀ k, k < ms.length → (rs k).length ≤ 48) {w : g_St} {a : α} (hr : Rel w a) (hfo : fo a = false) (hfd : g_AI w 159 s = z_g (!decide (r_gc its = 0))) : ∃ w', (g_c (g_nn (some 1) (f_M_first (some 1) (Int32.ofNat s) w)) fun i3 s4 => f_M_workOut_16 200000 (some 1) (Int32.ofNat s) i3 s4) = some ((), w') ∧ M_res Rel w' (r_work its al put fo (r_mt tb cds rs ms.length (r_all (fun k => (rs k).length) ms.length 0 (fun _ => 0))) a) := by
  obtain ⟨c0, cal, L, G, P, S, hcd⟩ := h1 w a hr
  have l3 := L.2.1
  have s17 := L.1
  have hlen : (r_all (fun k => (rs k).length) ms.length 0 (fun _ => 0)).length ≤ 150000 := by
    have := r_all_len (fun k => (rs k).length) ms.length 0 (fun _ => 0) (fun k _ h => hrs k (by omega))
    have h48 : 48 ^ ms.length ≤ 48 ^ 3 := Nat.pow_le_pow_right (by decide) l3
    omega
  have emt : ∀ R, r_mt (r_tb (M_pr P) tbl) cds rs ms.length R = r_mt tb cds rs ms.length R := fun R => by
    unfold r_mt
    refine congrArg (fun f => List.filter f (R.map (r_pc rs ms.length))) (funext fun e => hcd _)
  have eany : ∀ R : List (Nat → Nat), (R.any fun q => r_cda (r_tb (M_pr P) tbl) cds (r_en (r_pc rs ms.length q)) && r_badb its (r_en (r_pc rs ms.length q))) = (r_mt tb cds rs ms.length R).any fun e => r_badb its (r_en e) := fun R => by
    unfold r_mt
    rw [List.any_filter, List.any_map]
    refine congrArg (fun f => List.any R f) (funext fun q => ?_)
    rw [hcd]
    rfl
  obtain ⟨w1, m1, m2, m3⟩ := m_start S.1 L G
  have r1 : Rel w1 a := h2 w w1 a (m2.mono (by decide) (by decide)) hr
  rw [x_nn, m1, x_c]
  -- behind the first time
  have rest : ((r_mt tb cds rs ms.length (r_all (fun k => (rs k).length) ms.length 0 (fun _ => 0))).any fun e => r_badb its (r_en e)) = false → ∀ f w2, z_W [] [4692, 4756] w w2 → ∃ w', f_M_workOut_16 (f + 1) (some 1) (Int32.ofNat s) 0 w2 = some ((), w') ∧ M_res Rel w' (r_work its al put fo (r_mt tb cds rs ms.length (r_all (fun k => (rs k).length) ms.length 0 (fun _ => 0))) a) := by
    intro hno f w2 hw2
    have r2 : Rel w2 a := h2 w w2 a (hw2.mono (by decide) (by decide)) hr
    obtain ⟨d0, dal, L2, G2, P2, S2, hcd2⟩ := h1 w2 a r2
    have emt2 : ∀ R, r_mt (r_tb (M_pr P2) tbl) cds rs ms.length R = r_mt tb cds rs ms.length R := fun R => by
      unfold r_mt
      refine congrArg (fun f => List.filter f (R.map (r_pc rs ms.length))) (funext fun e => hcd2 _)
    have f1 : g_R w2 2753 1 = some 159 ∧ g_ln w2 159 = 17 := S2.1 (2753, 159, 17) (by decide)
    unfold r_work
    rw [if_neg (by rw [hno]; decide), f_M_workOut_16, if_pos rfl, x_gR, f1.1, x_aI (by omega) (by omega), hw2.ai (a := 159) (by decide), hfd]
    by_cases g0 : r_gc its = 0
    · rw [decide_eq_true g0, if_pos (show z_g (!true) = 0 from rfl), if_pos g0]
      obtain ⟨w3, n1, n2, n3⟩ := m_start S2.1 L2 G2
      have r3 : Rel w3 a := h2 w2 w3 a (n2.mono (by decide) (by decide)) r2
      rw [x_nn, n1, x_c]
      cases hA : r_all (fun k => (rs k).length) ms.length 0 (fun _ => 0) with
      | nil =>
        show ∃ w', f_M_workOut_164 200000 (some 1) (Int32.ofNat s) 0 w3 = some ((), w') ∧ M_res Rel w' (if fo a = true then .inr 3 else .inl a)
        rw [if_neg (by rw [hfo]; decide)]
        exact ⟨w3, by rw [show (200000 : Nat) = 199999 + 1 from rfl, f_M_workOut_164, if_pos rfl], r3⟩
      | cons p R =>
        rw [hA] at hlen
        have hl : (p :: R).length = R.length + 1 := rfl
        obtain ⟨q1, q2, q3⟩ := n3 p R hA
        obtain ⟨w4, e1, e2, e3⟩ := m_l164 h1 h2 (h3 g0) hm R p 200000 w3 a q2 q3 (by omega) q1 r3 hfo
        refine ⟨w4, e1, ?_⟩
        cases hq : fo ((r_mt tb cds rs ms.length (p :: R)).foldl (fun a e => put e (r_iv its (r_en e)) a) a) with
        | true => rw [if_pos rfl]; exact e2 hq
        | false => rw [if_neg (by decide)]; exact e3 hq
    · rw [decide_eq_false g0, if_neg (show ¬ z_g (!false) = 0 from by decide), if_neg g0]
      obtain ⟨w3, n1, n2, n3, n4⟩ := m_mkg S2 L2 G2 dal al1 al48 hlen
      rw [emt2] at n3 n4
      generalize r_gfold its al (r_mt tb cds rs ms.length (r_all (fun k => (rs k).length) ms.length 0 (fun _ => 0))) = GF at n3 n4 ⊢
      rw [x_nn, n1, x_c, x_gI]
      cases ho : GF.2 with
      | true =>
        have c4 := n3 ho
        rw [c4, if_neg (by decide), if_pos rfl]
        refine ⟨w3, ?_, c4⟩
        rw [show (200000 : Nat) = 199999 + 1 from rfl, f_M_workOut_127, x_gI, x_gI, c4, if_neg (show ¬ (4 : Int32) = 0 from by decide), ite_self]
      | false =>
        obtain ⟨c4, N, hN, hg, hgl⟩ := n4 ho
        have c5 : g_I w3 1 1 = 0 := c4.trans d0
        have L3 := L2.mv (n2.mono (by decide) (by decide))
        have F3 := n2.fx S2.1
        rw [c5, if_pos rfl, if_neg (by decide), x_nn, m_chk F3 L3.2.2.2.2.2.2.1 L3.2.2.2.1 hN hg, x_c]
        cases hb : r_gbadb its.length GF.1 with
        | true =>
          rw [if_pos rfl]
          have W : z_W [1] [] w3 (z_cd3 true w3) := z_cd3_W true w3
          have c6 : g_I (z_cd3 true w3) 1 1 = 3 := by
            show g_I (g_setI w3 1 1 3) 1 1 = 3
            rw [x_I_I, if_pos ⟨rfl, rfl⟩]
          refine ⟨z_cd3 true w3, ?_, c6⟩
          rw [show (200000 : Nat) = 199999 + 1 from rfl, f_M_workOut_127, x_gI, x_gI, c6, if_neg (show ¬ (3 : Int32) = 0 from by decide), ite_self]
        | false =>
          rw [if_neg (by decide)]
          have W3 : z_W [6337] [1109, 1173, 4692, 4756] w2 w3 := by
            refine ⟨n2.1, n2.2.1, n2.2.2.1, n2.2.2.2.1, n2.2.2.2.2.1, n2.2.2.2.2.2.1, n2.2.2.2.2.2.2.1, fun k b q => ?_, n2.2.2.2.2.2.2.2.2⟩
            by_cases e : k = 1 ∧ b = 1
            · rw [e.1, e.2]; exact c4
            · refine n2.2.2.2.2.2.2.2.1 k b (fun z => ?_)
              rcases List.mem_cons.mp z.2 with z2 | z2
              · exact e ⟨z2, z.1⟩
              · exact q ⟨z.1, z2⟩
          have r3 : Rel w3 a := h2 w2 w3 a W3 r2
          obtain ⟨w4, e1, e2, e3⟩ := m_l127 h1 (h4 g0) hm (show GF.1.length ≤ 48 by omega) GF.1.length 0 200000 w3 a (by omega) (by omega) hg r3 hfo
          rw [List.drop_zero] at e2 e3
          refine ⟨w4, e1, ?_⟩
          cases hq : fo (GF.1.foldl (fun a g => put (fun _ => []) (r_gv its g) a) a) with
          | true => rw [if_pos rfl]; exact e2 hq
          | false => rw [if_neg (by decide)]; exact e3 hq
  cases hA : r_all (fun k => (rs k).length) ms.length 0 (fun _ => 0) with
  | nil =>
    rw [hA] at rest
    exact rest rfl 199999 w1 (m2.mono (by decide) (by decide))
  | cons p R =>
    rw [hA] at rest hlen
    have hl : (p :: R).length = R.length + 1 := rfl
    obtain ⟨q1, q2, q3⟩ := m3 p R hA
    obtain ⟨e1, e2⟩ := m_pass1 S L G c0 R p 200000 w1 q2 q3 (by omega) (m2.mono (by decide) (by decide)) q1
    rw [eany] at e1 e2
    cases hb : (r_mt tb cds rs ms.length (p :: R)).any fun e => r_badb its (r_en e) with
    | true =>
      obtain ⟨w', x1, x2, x3⟩ := e1 hb
      refine ⟨w', x1, ?_⟩
      unfold r_work
      rw [if_pos hb]
      exact x3
    | false =>
      obtain ⟨w2, f', x1, x2⟩ := e2 hb
      obtain ⟨w', y1, y2⟩ := rest hb f' w2 x2
      exact ⟨w', x1.trans y1, y2⟩
end
