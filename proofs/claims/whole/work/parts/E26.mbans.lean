/-! RUNNING (reference): a row comes to the answer -/
def M_ky (P : M_Pl) (pk : Nat) (x : Int64) : Int64 ⊕ r_Row → Prop
  | .inl v => x = v
  | .inr r => ∃ n, x = Int64.ofNat n ∧ P[n]? = some (pk, r)
def M_an (w : g_St) (wd : Nat) (ks : List (Nat × Nat)) (pp : Nat → Nat) (P : M_Pl) (A : List r_An) : Prop := g_I w 5377 1 = Int32.ofNat A.length ∧ A.length ≤ 48 ∧ ∀ i, i < A.length → (∀ j, j < wd → g_AL w 981 (4 * i + j) = (A.getD i r_an0).1 j) ∧ (A.getD i r_an0).2.length = ks.length ∧ ∀ k, k < ks.length → M_ky P (pp k) (g_AL w 1045 (2 * i + k)) ((A.getD i r_an0).2.getD k (.inl 0))
def M_ord (w : g_St) (Xs : Nat → r_Pt) (ms : List (Nat ⊕ Nat)) (ks : List (Nat × Nat)) : Prop := g_I w 4353 1 = Int32.ofNat ks.length ∧ ks.length ≤ 2 ∧ ∀ k, k < ks.length → g_AI w 3796 k = Int32.ofNat (ks.getD k (0, 0)).1 ∧ (ks.getD k (0, 0)).1 < ms.length ∧ g_AI w 3860 k = (if (ks.getD k (0, 0)).2 = 4 then 100 else Int32.ofNat (M_col Xs (r_ml ms (ks.getD k (0, 0)).1) (ks.getD k (0, 0)).2)) ∧ ((ks.getD k (0, 0)).2 ≠ 4 → M_col Xs (r_ml ms (ks.getD k (0, 0)).1) (ks.getD k (0, 0)).2 ≤ 3)
theorem M_ord.mv {u w : g_St} {wI wA : List Nat} (h : z_W wI wA u w) (h1 : 4353 ∉ wI) (h2 : 3796 ∉ wA) (h3 : 3860 ∉ wA) {Xs : Nat → r_Pt} {ms : List (Nat ⊕ Nat)} {ks : List (Nat × Nat)} (q : M_ord u Xs ms ks) : M_ord w Xs ms ks := by
  unfold M_ord at q ⊢
  rw [h.fi h1, h.ai h2, h.ai h3]
  exact q
theorem M_an.mv {u w : g_St} {wI wA : List Nat} (h : z_W wI wA u w) (h1 : 5377 ∉ wI) (h2 : 981 ∉ wA) (h3 : 1045 ∉ wA) {wd : Nat} {ks : List (Nat × Nat)} {pp : Nat → Nat} {P : M_Pl} {A : List r_An} (q : M_an u wd ks pp P A) : M_an w wd ks pp P A := by
  unfold M_an at q ⊢
  rw [h.fi h1, h.al h2, h.al h3]
  exact q
/-- the keys of the row that may come -/
def M_key (w : g_St) (Xs : Nat → r_Pt) (P : M_Pl) (ms : List (Nat ⊕ Nat)) (pp : Nat → Nat) (ks : List (Nat × Nat)) (ch : Nat → r_Row) : Prop := ∀ k, k < ks.length → ∃ x, g_AI w 4756 (ks.getD k (0, 0)).1 = Int32.ofNat x ∧ ((ks.getD k (0, 0)).2 = 4 → ∃ n, x = 100 + n ∧ P[n]? = some (pp k, ch (ks.getD k (0, 0)).1)) ∧ ((ks.getD k (0, 0)).2 ≠ 4 → M_xo x (M_col Xs (r_ml ms (ks.getD k (0, 0)).1) (ks.getD k (0, 0)).2) ∧ M_cl w x (M_col Xs (r_ml ms (ks.getD k (0, 0)).1) (ks.getD k (0, 0)).2) = r_hd (ch (ks.getD k (0, 0)).1) (ks.getD k (0, 0)).2)
section
variable {w : g_St} {np nt : Nat} {Xs : Nat → r_Pt} {tw : Nat → Nat} {tbl : Nat → List (Nat → Int64)} {P : M_Pl}
theorem m_bans {s : Nat} {its : List r_It} {ms : List (Nat ⊕ Nat)} {ks : List (Nat × Nat)} {pp : Nat → Nat} {al : Nat} {A : List r_An} (S : M_st w np nt Xs tw tbl P) (hs : s < 17) (hc : g_AI w 2196 s = Int32.ofNat its.length) (hl : its.length ≤ 4) (how : g_AI w 2004 s = 4) (hal : g_I w 5441 1 = Int32.ofNat al) (al48 : al ≤ 48) (hA : M_an w its.length ks pp P A) (hPA : P.length + A.length ≤ al) (hor : M_ord w Xs ms ks) (hms : ms.length ≤ 3) {ch : Nat → r_Row} (hkey : M_key w Xs P ms pp ks ch) {v : Nat → Int64} {x2 : Int32} (hx : (x2 = -1 ∧ ∀ w1, z_W [] [981] w w1 → ∀ i, i < its.length → f_M_itemOf (some 1) (Int32.ofNat s) (Int32.ofNat i) w1 = some (v i, w1)) ∨ ∃ g, g < 49 ∧ x2 = Int32.ofNat g ∧ ∀ i, i < its.length → g_AL w 1109 (4 * g + i) = v i) : ∃ w', f_M_bring (some 1) (Int32.ofNat s) x2 w = some ((), w') ∧ z_W [1, 5377] [981, 1045] w w' ∧ (P.length + A.length < al → g_I w' 1 1 = g_I w 1 1 ∧ M_an w' its.length ks pp P (A ++ [(v, ks.map (r_key ch))])) ∧ (¬ P.length + A.length < al → g_I w' 1 1 = 4) := by
  have F := S.1
  have P1 := S.2.2.1.1
  have P2 := S.2.2.1.2.1
  obtain ⟨a1, a2, a3⟩ := hA
  obtain ⟨o1, o2, o3⟩ := hor
  have f1 : g_R w 2241 1 = some 2004 ∧ g_ln w 2004 = 17 := F (2241, 2004, 17) (by decide)
  unfold f_M_bring
  rw [x_gR, f1.1, x_aI (by omega) (by omega), how, if_pos rfl, x_nn]
  unfold f_M_bringAnswer
  rw [x_gI, P1, x_gI, a1, x_gI, hal, x_add]
  by_cases e : P.length + A.length = al
  · rw [if_pos (by rw [e]), x_pI, x_c]
    exact ⟨_, rfl, z_W.re.pI (by decide) _, fun q => absurd e (by omega), fun _ => by rw [x_I_I, if_pos ⟨rfl, rfl⟩]⟩
  · rw [if_neg (by rw [x_eq (by omega) (by omega)]; exact e)]
    have lt : A.length < 48 := by omega
    -- the cells
    have key : ∀ (d i f : Nat) (w1 : g_St), i + d = its.length → d < f → z_W [] [981] w w1 → (∀ j, j < 4 * A.length → g_AL w1 981 j = g_AL w 981 j) → (∀ j, j < i → g_AL w1 981 (4 * A.length + j) = v j) → ∃ w2, f_M_bringAnswer_24 f (some 1) (Int32.ofNat s) x2 (Int32.ofNat i) w1 = f_M_bringAnswer_79 200000 (some 1) 0 w2 ∧ z_W [] [981] w w2 ∧ (∀ j, j < 4 * A.length → g_AL w2 981 j = g_AL w 981 j) ∧ ∀ j, j < its.length → g_AL w2 981 (4 * A.length + j) = v j := by
      intro d
      induction d with
      | zero =>
        intro i f w1 e1 e2 hw hlo hv
        obtain ⟨f, rfl⟩ : ∃ m, f = m + 1 := ⟨f - 1, by omega⟩
        have g1 : g_R w1 2433 1 = some 2196 ∧ g_ln w1 2196 = 17 := hw.fx F (2433, 2196, 17) (by decide)
        rw [f_M_bringAnswer_24, x_gR, g1.1, x_aI (by omega) (by omega), hw.ai (a := 2196) (by decide), hc, if_pos (by rw [x_le (by omega) (by omega)]; omega)]
        exact ⟨w1, rfl, hw, hlo, fun j hj => hv j (by omega)⟩
      | succ d ih =>
        intro i f w1 e1 e2 hw hlo hv
        obtain ⟨f, rfl⟩ : ∃ m, f = m + 1 := ⟨f - 1, by omega⟩
        have F1 := hw.fx F
        have g1 : g_R w1 2433 1 = some 2196 ∧ g_ln w1 2196 = 17 := F1 (2433, 2196, 17) (by decide)
        have g2 : g_R w1 5505 1 = some 981 ∧ g_ln w1 981 = 200 := F1 (5505, 981, 200) (by decide)
        have g3 : g_R w1 6401 1 = some 1109 ∧ g_ln w1 1109 = 200 := F1 (6401, 1109, 200) (by decide)
        have hn1 : g_I w1 5377 1 = Int32.ofNat A.length := by rw [hw.fi (by decide)]; exact a1
        have st : ∀ y, y = v i → ∃ w2, f_M_bringAnswer_24 f (some 1) (Int32.ofNat s) x2 (Int32.ofNat (i + 1)) (g_setAL w1 981 (4 * A.length + i) y) = f_M_bringAnswer_79 200000 (some 1) 0 w2 ∧ z_W [] [981] w w2 ∧ (∀ j, j < 4 * A.length → g_AL w2 981 j = g_AL w 981 j) ∧ ∀ j, j < its.length → g_AL w2 981 (4 * A.length + j) = v j := fun y hy => by
          refine ih (i + 1) f _ (by omega) (by omega) (hw.sL (by decide) _ _) (fun j hj => ?_) (fun j hj => ?_)
          · rw [x_AL_AL, if_neg (by omega)]; exact hlo j hj
          · rw [x_AL_AL]
            by_cases e : j = i
            · rw [if_pos ⟨rfl, by omega⟩, hy, e]
            · rw [if_neg (by omega)]; exact hv j (by omega)
        rw [f_M_bringAnswer_24, x_gR, g1.1, x_aI (by omega) (by omega), hw.ai (a := 2196) (by decide), hc, if_neg (by rw [x_le (by omega) (by omega)]; omega), x_gR, g2.1, x_gI, hn1, show (4 : Int32) = Int32.ofNat 4 from rfl, x_mul, x_add, x_p1]
        rcases hx with ⟨y1, y2⟩ | ⟨g, y1, y2, y3⟩
        · rw [if_pos y1, x_nn, y2 w1 hw i (by omega), x_c, x_sL (by omega) (by omega)]
          exact st _ rfl
        · rw [if_neg (by
            rw [y2]
            intro q
            have q2 : (Int32.ofNat g).toInt = (-1 : Int32).toInt := by rw [q]
            rw [Int32.toInt_ofNat_of_lt (by omega)] at q2
            have q3 : (g : Int) = -1 := q2
            omega), x_gR, g3.1, y2, x_mul, x_add, x_aL (by omega) (by omega), x_sL (by omega) (by omega), ← y2]
          exact st _ (by rw [hw.al (a := 1109) (by decide)]; exact y3 i (by omega))
    obtain ⟨w2, k1, k2, k3, k4⟩ := key its.length 0 200000 w (by omega) (by omega) z_W.re (fun _ _ => rfl) (fun j hj => by omega)
    -- the keys
    have keyk : ∀ (d k f : Nat) (w1 : g_St), k + d = ks.length → d < f → z_W [] [981, 1045] w w1 → g_AL w1 981 = g_AL w2 981 → (∀ j, j < 2 * A.length → g_AL w1 1045 j = g_AL w 1045 j) → (∀ j, j < k → M_ky P (pp j) (g_AL w1 1045 (2 * A.length + j)) (r_key ch (ks.getD j (0, 0)))) → ∃ w3, f_M_bringAnswer_79 f (some 1) (Int32.ofNat k) w1 = some ((), g_setI w3 5377 1 (Int32.ofNat (A.length + 1))) ∧ z_W [] [981, 1045] w w3 ∧ g_AL w3 981 = g_AL w2 981 ∧ (∀ j, j < 2 * A.length → g_AL w3 1045 j = g_AL w 1045 j) ∧ ∀ j, j < ks.length → M_ky P (pp j) (g_AL w3 1045 (2 * A.length + j)) (r_key ch (ks.getD j (0, 0))) := by
      intro d
      induction d with
      | zero =>
        intro k f w1 e1 e2 hw h9 hlo hv
        obtain ⟨f, rfl⟩ : ∃ m, f = m + 1 := ⟨f - 1, by omega⟩
        rw [f_M_bringAnswer_79, x_gI, hw.fi (k := 4353) (by decide), o1, if_pos (by rw [x_le (by omega) (by omega)]; omega), x_gI, hw.fi (k := 5377) (by decide), a1, x_pI, x_p1]
        exact ⟨w1, rfl, hw, h9, hlo, fun j hj => hv j (by omega)⟩
      | succ d ih =>
        intro k f w1 e1 e2 hw h9 hlo hv
        obtain ⟨f, rfl⟩ : ∃ m, f = m + 1 := ⟨f - 1, by omega⟩
        have F1 := hw.fx F
        have g1 : g_R w1 6273 1 = some 4756 ∧ g_ln w1 4756 = 4 := F1 (6273, 4756, 4) (by decide)
        have g2 : g_R w1 4545 1 = some 3796 ∧ g_ln w1 3796 = 2 := F1 (4545, 3796, 2) (by decide)
        have g3 : g_R w1 5569 1 = some 1045 ∧ g_ln w1 1045 = 100 := F1 (5569, 1045, 100) (by decide)
        have g4 : g_R w1 4609 1 = some 3860 ∧ g_ln w1 3860 = 2 := F1 (4609, 3860, 2) (by decide)
        obtain ⟨q1, q2, q3, q4⟩ := o3 k (by omega)
        obtain ⟨x, x1, x2, x3⟩ := hkey k (by omega)
        have st : ∀ y, M_ky P (pp k) y (r_key ch (ks.getD k (0, 0))) → ∃ w3, f_M_bringAnswer_79 f (some 1) (Int32.ofNat (k + 1)) (g_setAL w1 1045 (2 * A.length + k) y) = some ((), g_setI w3 5377 1 (Int32.ofNat (A.length + 1))) ∧ z_W [] [981, 1045] w w3 ∧ g_AL w3 981 = g_AL w2 981 ∧ (∀ j, j < 2 * A.length → g_AL w3 1045 j = g_AL w 1045 j) ∧ ∀ j, j < ks.length → M_ky P (pp j) (g_AL w3 1045 (2 * A.length + j)) (r_key ch (ks.getD j (0, 0))) := fun y hy => by
          refine ih (k + 1) f _ (by omega) (by omega) (hw.sL (by decide) _ _) ?_ (fun j hj => ?_) (fun j hj => ?_)
          · funext j
            rw [x_AL_AL, if_neg (fun q => absurd q.1 (by decide)), h9]
          · rw [x_AL_AL, if_neg (by omega)]; exact hlo j hj
          · rw [x_AL_AL]
            by_cases e : j = k
            · rw [if_pos ⟨rfl, by omega⟩, e]; exact hy
            · rw [if_neg (by omega)]; exact hv j (by omega)
        rw [f_M_bringAnswer_79, x_gI, hw.fi (k := 4353) (by decide), o1, if_neg (by rw [x_le (by omega) (by omega)]; omega), x_gR, g1.1, x_gR, g2.1, x_aI (by omega) (by omega), hw.ai (a := 3796) (by decide), q1, x_aI (by omega) (by omega), hw.ai (a := 4756) (by decide), x1, x_gR, g3.1, x_gI, hw.fi (k := 5377) (by decide), a1, x_gR, g4.1, x_aI (by omega) (by omega), hw.ai (a := 3860) (by decide), q3, show (2 : Int32) = Int32.ofNat 2 from rfl, x_mul, x_add, x_p1]
        by_cases c4 : (ks.getD k (0, 0)).2 = 4
        · obtain ⟨n, n1, n2⟩ := x2 c4
          have nl : n < P.length := by
            by_cases g : n < P.length
            · exact g
            · rw [List.getElem?_eq_none (by omega)] at n2; cases n2
          rw [if_pos c4, if_pos rfl, n1, show (100 : Int32) = Int32.ofNat 100 from rfl, x_sub (by omega), show 100 + n - 100 = n by omega, z_toI64 (by omega), x_sL (by omega) (by omega)]
          refine st _ ?_
          unfold r_key
          rw [if_pos c4]
          exact ⟨n, rfl, n2⟩
        · obtain ⟨n1, n2⟩ := x3 c4
          have q4' := q4 c4
          have n3 : M_cl w1 x (M_col Xs (r_ml ms (ks.getD k (0, 0)).1) (ks.getD k (0, 0)).2) = r_hd (ch (ks.getD k (0, 0)).1) (ks.getD k (0, 0)).2 := by
            rw [← n2]
            unfold M_cl
            rw [hw.al (a := 597) (by decide), hw.al (a := 789) (by decide)]
          rw [if_neg c4, if_neg (by rw [show (100 : Int32) = Int32.ofNat 100 from rfl, x_eq (by omega) (by omega)]; omega), x_gR, g4.1, x_aI (by omega) (by omega), hw.ai (a := 3860) (by decide), q3, if_neg c4, x_nn, m_cell F1 n1, x_c, x_sL (by omega) (by omega), n3]
          refine st _ ?_
          unfold r_key
          rw [if_neg c4]
          rfl
    have W2 : z_W [] [981, 1045] w w2 := k2.mono (by decide) (by decide)
    obtain ⟨w3, j1, j2, j3, j4, j5⟩ := keyk ks.length 0 200000 w2 (by omega) (by omega) W2 rfl (fun j hj => by rw [k2.al (a := 1045) (by decide)]) (fun j hj => by omega)
    have k1' : f_M_bringAnswer_24 200000 (some 1) (Int32.ofNat s) x2 0 w = f_M_bringAnswer_79 200000 (some 1) 0 w2 := k1
    have j1' : f_M_bringAnswer_79 200000 (some 1) 0 w2 = some ((), g_setI w3 5377 1 (Int32.ofNat (A.length + 1))) := j1
    rw [k1', j1', x_c]
    refine ⟨_, rfl, (j2.mono (by decide) (by decide)).pI (by decide) _, fun _ => ⟨?_, ?_, ?_, fun i hi => ?_⟩, fun q => absurd (show P.length + A.length < al by omega) q⟩
    · rw [x_I_I, if_neg (fun q => absurd q.1 (by decide)), j2.fi (by decide)]
    · rw [x_I_I, if_pos ⟨rfl, rfl⟩, List.length_append]; rfl
    · rw [List.length_append]; show A.length + 1 ≤ 48; omega
    · rw [List.length_append] at hi
      have hi' : i < A.length + 1 := hi
      show (∀ j, j < its.length → g_AL w3 981 (4 * i + j) = _) ∧ _ ∧ ∀ k, k < ks.length → M_ky P (pp k) (g_AL w3 1045 (2 * i + k)) _
      by_cases e : i = A.length
      · rw [e, z_gd_e, j3]
        refine ⟨k4, by show (ks.map _).length = _; rw [List.length_map], fun k hk => ?_⟩
        have ek : (ks.map (r_key ch)).getD k (.inl 0) = r_key ch (ks.getD k (0, 0)) := by
          rw [List.getD_eq_getElem?_getD, List.getElem?_map, List.getElem?_eq_getElem hk, List.getD_eq_getElem?_getD, List.getElem?_eq_getElem hk]
          rfl
        show M_ky P (pp k) (g_AL w3 1045 (2 * A.length + k)) ((ks.map (r_key ch)).getD k (.inl 0))
        rw [ek]
        exact j5 k hk
      · rw [z_gd_l (by omega), j3]
        obtain ⟨b1, b2, b3⟩ := a3 i (by omega)
        refine ⟨fun j hj => by rw [k3 _ (by omega)]; exact b1 j hj, b2, fun k hk => ?_⟩
        rw [j4 _ (by omega)]
        exact b3 k hk
end
