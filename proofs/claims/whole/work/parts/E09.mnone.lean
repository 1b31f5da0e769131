/-! RUNNING (reference): NOT EXISTS -/
def M_mu (Xs : Nat → r_Pt) (mc : Nat → Nat → Nat) (m : Nat ⊕ Nat) : Nat → Nat → Nat := fun k j => if k = 3 then M_col Xs m j else mc k j
def M_vcn (w : g_St) (Xs : Nat → r_Pt) (mc : Nat → Nat → Nat) (c : Nat) (z : (Nat ⊕ Nat) × List r_Cp) : Prop := c < 120 ∧ g_AI w 3284 c = 2 ∧ z.2.length ≤ 3 ∧ g_AI w 3604 c = Int32.ofNat z.2.length ∧ (∃ k, g_AI w 3540 c = Int32.ofNat k ∧ k < 100 ∧ g_AI w 3220 k = Int32.ofNat (M_mc z.1)) ∧ ∀ i, i < z.2.length → ∃ c', g_AI w 3668 (3 * c + i) = Int32.ofNat c' ∧ M_vcp w (M_mu Xs mc z.1) c' (z.2.getD i r_cp0)
theorem M_vcn.mv {u w : g_St} (h : M_K u w) {Xs : Nat → r_Pt} {mc : Nat → Nat → Nat} {c : Nat} {z : (Nat ⊕ Nat) × List r_Cp} (q : M_vcn u Xs mc c z) : M_vcn w Xs mc c z := by
  obtain ⟨q1, q2, q3, q4, ⟨k, q5, q6, q7⟩, q8⟩ := q
  refine ⟨q1, by rw [h.ai (a := 3284) (by decide)]; exact q2, q3, by rw [h.ai (a := 3604) (by decide)]; exact q4, ⟨k, by rw [h.ai (a := 3540) (by decide)]; exact q5, q6, by rw [h.ai (a := 3220) (by decide)]; exact q7⟩, fun i hi => ?_⟩
  rw [h.ai (a := 3668) (by decide)]
  obtain ⟨c', e1, e2⟩ := q8 i hi
  exact ⟨c', e1, e2.mv h⟩
section
variable {w : g_St} {np nt : Nat} {Xs : Nat → r_Pt} {tw : Nat → Nat} {tbl : Nat → List (Nat → Int64)} {P : M_Pl} {mc : Nat → Nat → Nat} {c : Nat} {z : (Nat ⊕ Nat) × List r_Cp}
/-- the conditions within -/
theorem m_none97 (F : m_Fix w) (h : M_vcn w Xs mc c z) {env : Nat → Nat → Int64} {D : Nat → Nat → Prop} (hu : ∀ b ∈ z.2, r_ucp D b) (hd : ∀ k j, D k j → M_vb w (M_mu Xs mc z.1) env k j) (k35 : Option Nat → Int32 → Int32 → Int32 → Int32 → g_St → Option (Int32 × g_St)) (x2 x3 x4 : Int32) : f_M_hasNone_97 k35 200000 (some 1) (Int32.ofNat c) x2 x3 x4 1 0 w = if z.2.all (r_cp env) = true then some (z_g false, w) else k35 (some 1) (Int32.ofNat c) x2 x3 (x4 + 1) w := by
  have f1 : g_R w 4225 1 = some 3604 ∧ g_ln w 3604 = 120 := F (4225, 3604, 120) (by decide)
  have f2 : g_R w 4289 1 = some 3668 ∧ g_ln w 3668 = 360 := F (4289, 3668, 360) (by decide)
  obtain ⟨h1, -, h3, h4, -, h6⟩ := h
  have key : ∀ (d k f : Nat), k + d = z.2.length → d + 1 < f → f_M_hasNone_97 k35 f (some 1) (Int32.ofNat c) x2 x3 x4 1 (Int32.ofNat k) w = if (z.2.drop k).all (r_cp env) = true then some (z_g false, w) else k35 (some 1) (Int32.ofNat c) x2 x3 (x4 + 1) w := by
    intro d
    induction d with
    | zero =>
      intro k f e1 e2
      obtain ⟨f, rfl⟩ : ∃ m, f = m + 1 := ⟨f - 1, by omega⟩
      rw [f_M_hasNone_97, x_gR, f1.1, x_aI (by omega) (by omega), h4, if_pos (by rw [x_le (by omega) (by omega)]; omega), List.drop_eq_nil_of_le (by omega), if_pos (show ([] : List r_Cp).all (r_cp env) = true from rfl)]
      unfold f_M_hasNone_136
      rw [if_neg (by decide)]
      rfl
    | succ d ih =>
      intro k f e1 e2
      obtain ⟨f, rfl⟩ : ∃ m, f = m + 1 := ⟨f - 1, by omega⟩
      have hk : k < z.2.length := by omega
      have hdr : z.2.drop k = z.2.getD k r_cp0 :: z.2.drop (k + 1) := by
        rw [List.getD_eq_getElem?_getD, List.getElem?_eq_getElem hk]
        exact List.drop_eq_getElem_cons hk
      obtain ⟨c', c1, c2⟩ := h6 k hk
      have v := m_cp F c2 (hu _ (z_getD_m hk)) (fun k j q => (hd k j q).bd F)
      rw [f_M_hasNone_97, x_gR, f1.1, x_aI (by omega) (by omega), h4, if_neg (by rw [x_le (by omega) (by omega)]; omega), if_neg (by decide), x_gR, f2.1, show (3 : Int32) = Int32.ofNat 3 from rfl, x_mul, x_add, x_aI (by omega) (by omega), c1, x_nn, v, x_c, hdr, List.all_cons, x_p1]
      cases r_cp env (z.2.getD k r_cp0) with
      | true =>
        rw [Bool.true_and]
        exact ih (k + 1) f (by omega) (by omega)
      | false =>
        rw [Bool.false_and, if_neg (by decide)]
        obtain ⟨f, rfl⟩ : ∃ m, f = m + 1 := ⟨f - 1, by omega⟩
        have e136 : f_M_hasNone_136 k35 (some 1) (Int32.ofNat c) x2 x3 x4 (z_g false) w = k35 (some 1) (Int32.ofNat c) x2 x3 (x4 + 1) w := by
          unfold f_M_hasNone_136
          rw [if_pos (show z_g false = 0 from rfl)]
        rw [f_M_hasNone_97, x_gR, f1.1, x_aI (by omega) (by omega), if_pos (show z_g false = 0 from rfl), e136, ite_self]
  have k0 := key z.2.length 0 200000 (by omega) (by omega)
  rw [List.drop_zero] at k0
  exact k0
theorem m_none (S : M_st w np nt Xs tw tbl P) (h : M_vcn w Xs mc c z) (hm : M_ok np nt z.1) {env : Nat → Nat → Int64} {D : Nat → Nat → Prop} (hu : ∀ b ∈ z.2, r_ucp (fun k j => (k < 3 ∧ D k j) ∨ (k = 3 ∧ r_W Xs tw z.1 j)) b) (hd : ∀ k j, k < 3 → D k j → M_vb w mc env k j) : ∃ w', f_M_hasNone (some 1) (Int32.ofNat c) w = some (z_g (r_cd (r_tb (M_pr P) tbl) env (.inr z)), w') ∧ z_W [] [4756] w w' ∧ ∀ k, k < 3 → g_AI w' 4756 k = g_AI w 4756 k := by
  have F : m_Fix w := S.1
  have f1 : g_R w 3777 1 = some 3220 ∧ g_ln w 3220 = 100 := F (3777, 3220, 100) (by decide)
  have f2 : g_R w 4161 1 = some 3540 ∧ g_ln w 3540 = 120 := F (4161, 3540, 120) (by decide)
  have f3 : g_R w 193 1 = some 980 ∧ g_ln w 980 = 5 := F (193, 980, 5) (by decide)
  have f4 : g_R w 4993 1 = some 4116 ∧ g_ln w 4116 = 50 := F (4993, 4116, 50) (by decide)
  have f5 : g_R w 6273 1 = some 4756 ∧ g_ln w 4756 = 4 := F (6273, 4756, 4) (by decide)
  have hw := h
  obtain ⟨h1, h2, h3, h4, ⟨n, h5, h6, h7⟩, h8⟩ := h
  have mlt : M_mc z.1 < 20 ∧ M_nd P tbl z.1 ≤ 48 := by
    obtain ⟨-, ⟨T0, T⟩, ⟨P1, P2, P3⟩, np4, -⟩ := S
    cases hz : z.1 with
    | inl q => rw [hz] at hm; exact ⟨by have : q < np := hm; show 10 + q < 20; omega, P2⟩
    | inr t => rw [hz] at hm; exact ⟨by have : t < nt := hm; show t < 20; omega, by have := (T t hm).2.1; show (tbl t).length ≤ 48; omega⟩
  -- the loop
  have key : ∀ (d i f : Nat) (w1 : g_St), i + d = M_nd P tbl z.1 → d < f → z_W [] [4756] w w1 → (∀ k, k < 3 → g_AI w1 4756 k = g_AI w 4756 k) → ∃ w', f_M_hasNone_35 f (some 1) (Int32.ofNat c) (Int32.ofNat (M_mc z.1)) (Int32.ofNat (M_nd P tbl z.1)) (Int32.ofNat i) w1 = some (z_g (!(((List.range' i d).filterMap (M_at P tbl z.1)).any fun row => z.2.all (r_cp (r_up env 3 (r_hd row))))), w') ∧ z_W [] [4756] w w' ∧ ∀ k, k < 3 → g_AI w' 4756 k = g_AI w 4756 k := by
    intro d
    induction d with
    | zero =>
      intro i f w1 e1 e2 hw1 ha
      obtain ⟨f, rfl⟩ : ∃ m, f = m + 1 := ⟨f - 1, by omega⟩
      rw [f_M_hasNone_35, if_pos (by rw [x_le (by omega) (by omega)]; omega)]
      exact ⟨w1, rfl, hw1, ha⟩
    | succ d ih =>
      intro i f w1 e1 e2 hw1 ha
      obtain ⟨f, rfl⟩ : ∃ m, f = m + 1 := ⟨f - 1, by omega⟩
      have S1 : M_st w1 np nt Xs tw tbl P := S.mv hw1 (by decide) (by decide)
      have F1 := S1.1
      have K1 : M_K w w1 := hw1.mono (by decide) (by decide)
      -- the row is looked at
      have look : ∀ r, M_at P tbl z.1 i = some r → ∃ w', f_M_hasNone_64 (f_M_hasNone_35 f) (some 1) (Int32.ofNat c) (Int32.ofNat (M_mc z.1)) (Int32.ofNat (M_nd P tbl z.1)) (Int32.ofNat i) w1 = some (z_g (!(((List.range' i (d + 1)).filterMap (M_at P tbl z.1)).any fun row => z.2.all (r_cp (r_up env 3 (r_hd row))))), w') ∧ z_W [] [4756] w w' ∧ ∀ k, k < 3 → g_AI w' 4756 k = g_AI w 4756 k := by
        intro r hr
        have e64 : f_M_hasNone_64 (f_M_hasNone_35 f) (some 1) (Int32.ofNat c) (Int32.ofNat (M_mc z.1)) (Int32.ofNat (M_nd P tbl z.1)) (Int32.ofNat i) w1 = f_M_hasNone_97 (f_M_hasNone_35 f) 200000 (some 1) (Int32.ofNat c) (Int32.ofNat (M_mc z.1)) (Int32.ofNat (M_nd P tbl z.1)) (Int32.ofNat i) 1 0 (g_setAI w1 4756 3 (Int32.ofNat (M_xc z.1 i))) := by
          unfold f_M_hasNone_64
          have g5 : g_R w1 6273 1 = some 4756 ∧ g_ln w1 4756 = 4 := F1 (6273, 4756, 4) (by decide)
          rw [x_gR, g5.1]
          cases hz : z.1 with
          | inl q =>
            rw [if_pos (by show (10 : Int32) ≤ Int32.ofNat (10 + q); rw [hz] at mlt; have m1 : 10 + q < 20 := mlt.1; rw [show (10 : Int32) = Int32.ofNat 10 from rfl, x_le (by omega) (by omega)]; omega), show (100 : Int32) = Int32.ofNat 100 from rfl, x_add, show (3 : Int32) = Int32.ofNat 3 from rfl, x_sI (by omega) (by omega)]
            rfl
          | inr t =>
            rw [hz] at hm
            have ht : t < nt := hm
            have nt5 := S.2.1.1
            rw [if_neg (by show ¬ (10 : Int32) ≤ Int32.ofNat t; rw [show (10 : Int32) = Int32.ofNat 10 from rfl, x_le (by omega) (by omega)]; omega), show (16 : Int32) = Int32.ofNat 16 from rfl, show (Int32.ofNat (M_mc (.inr t))) = Int32.ofNat t from rfl, x_mul, x_add, show (3 : Int32) = Int32.ofNat 3 from rfl, x_sI (by omega) (by omega)]
            rfl
        have W2 : z_W [] [4756] w (g_setAI w1 4756 3 (Int32.ofNat (M_xc z.1 i))) := hw1.sI (by decide) _ _
        have A2 : ∀ k, k < 3 → g_AI (g_setAI w1 4756 3 (Int32.ofNat (M_xc z.1 i))) 4756 k = g_AI w 4756 k := fun k hk => by
          rw [x_AI_AI, if_neg (by omega)]; exact ha k hk
        have A3 : g_AI (g_setAI w1 4756 3 (Int32.ofNat (M_xc z.1 i))) 4756 3 = Int32.ofNat (M_xc z.1 i) := by
          rw [x_AI_AI, if_pos ⟨rfl, rfl⟩]
        rw [e64]
        generalize g_setAI w1 4756 3 (Int32.ofNat (M_xc z.1 i)) = w2 at W2 A2 A3 ⊢
        have S2 : M_st w2 np nt Xs tw tbl P := S.mv W2 (by decide) (by decide)
        rw [m_none97 S2.1 (hw.mv (W2.mono (by decide) (by decide))) (env := r_up env 3 (r_hd r)) hu (fun k j q => by
          rcases q with ⟨q1, q2⟩ | ⟨q1, q2⟩
          · obtain ⟨x, x1, x2, x3⟩ := (hd k j q1 q2).mv W2 (by decide) (by decide) (A2 k q1)
            refine ⟨x, x1, ?_, ?_⟩
            · unfold M_mu; rw [if_neg (by omega)]; exact x2
            · unfold M_mu r_up; rw [if_neg (by omega), if_neg (by omega)]; exact x3
          · obtain ⟨y1, y2⟩ := S2.cl hm hr q2
            refine ⟨M_xc z.1 i, by rw [q1]; exact A3, ?_, ?_⟩
            · unfold M_mu; rw [if_pos q1]; exact y1
            · unfold M_mu r_up; rw [if_pos q1, if_pos q1]; exact y2), x_p1]
        have ef : (List.range' i (d + 1)).filterMap (M_at P tbl z.1) = r :: (List.range' (i + 1) d).filterMap (M_at P tbl z.1) := by rw [List.range'_succ, List.filterMap_cons, hr]
        rw [ef, List.any_cons]
        cases z.2.all (r_cp (r_up env 3 (r_hd r))) with
        | true => exact ⟨w2, by rw [if_pos rfl, Bool.true_or]; rfl, W2, A2⟩
        | false =>
          rw [if_neg (by decide), Bool.false_or]
          exact ih (i + 1) f w2 (by omega) (by omega) W2 A2
      have skip : M_at P tbl z.1 i = none → ∃ w', f_M_hasNone_35 f (some 1) (Int32.ofNat c) (Int32.ofNat (M_mc z.1)) (Int32.ofNat (M_nd P tbl z.1)) (Int32.ofNat (i + 1)) w1 = some (z_g (!(((List.range' i (d + 1)).filterMap (M_at P tbl z.1)).any fun row => z.2.all (r_cp (r_up env 3 (r_hd row))))), w') ∧ z_W [] [4756] w w' ∧ ∀ k, k < 3 → g_AI w' 4756 k = g_AI w 4756 k := by
        intro hr
        rw [List.range'_succ, List.filterMap_cons, hr]
        exact ih (i + 1) f w1 (by omega) (by omega) hw1 ha
      rw [f_M_hasNone_35, if_neg (by rw [x_le (by omega) (by omega)]; omega)]
      cases hz : z.1 with
      | inl q =>
        rw [hz] at look skip mlt
        have m1 : 10 + q < 20 := mlt.1
        have hq : q < np := by rw [hz] at hm; exact hm
        have np4 := S.2.2.2.1
        have il : i < P.length := by rw [hz] at e1; have : i + (d + 1) = P.length := e1; omega
        obtain ⟨x, hx⟩ : ∃ x, P[i]? = some x := ⟨_, List.getElem?_eq_getElem il⟩
        obtain ⟨q', r'⟩ := x
        obtain ⟨p1, p2, -⟩ := S1.2.2.1.2.2 i q' r' hx
        have P2 := S.2.2.1.2.1
        have g4 : g_R w1 4993 1 = some 4116 ∧ g_ln w1 4116 = 50 := F1 (4993, 4116, 50) (by decide)
        rw [if_neg (by show ¬ Int32.ofNat (10 + q) < (10 : Int32); rw [show (10 : Int32) = Int32.ofNat 10 from rfl, x_lt (by omega) (by omega)]; omega), x_gR, g4.1, x_aI (by omega) (by omega), p2]
        show ∃ w', (if Int32.ofNat q' = Int32.ofNat (10 + q) - 10 then _ else _) = _ ∧ _
        rw [show Int32.ofNat (10 + q) - 10 = Int32.ofNat q by rw [show (10 : Int32) = Int32.ofNat 10 from rfl, x_sub (by omega), show 10 + q - 10 = q by omega]]
        have hat : M_at P tbl (.inl q) i = if q' = q then some r' else none := by
          show (P[i]?.bind fun x => if x.1 = q then some x.2 else none) = _
          rw [hx]
          rfl
        by_cases e : q' = q
        · rw [if_pos (by rw [e])]
          rw [if_pos e] at hat
          exact look r' hat
        · rw [if_neg (by rw [x_eq (by omega) (by omega)]; exact e), x_p1]
          rw [if_neg e] at hat
          exact skip hat
      | inr t =>
        rw [hz] at look
        have ht : t < nt := by rw [hz] at hm; exact hm
        have nt5 := S.2.1.1
        have il : i < (tbl t).length := by rw [hz] at e1; have : i + (d + 1) = (tbl t).length := e1; omega
        rw [if_pos (by show Int32.ofNat t < (10 : Int32); rw [show (10 : Int32) = Int32.ofNat 10 from rfl, x_lt (by omega) (by omega)]; omega)]
        refine look [(tbl t)[i]] ?_
        show (tbl t)[i]?.map (fun c => ([c] : r_Row)) = _
        rw [List.getElem?_eq_getElem il]
        rfl
  have er : r_cd (r_tb (M_pr P) tbl) env (.inr z) = !(((List.range' 0 (M_nd P tbl z.1)).filterMap (M_at P tbl z.1)).any fun row => z.2.all (r_cp (r_up env 3 (r_hd row)))) := by
    show (!((r_rws (M_pr P) tbl z.1).map r_hd).any fun row => z.2.all (r_cp (r_up env 3 row))) = _
    rw [List.any_map, ← M_rws, List.range_eq_range']
    rfl
  obtain ⟨w', k1, k2, k3⟩ := key (M_nd P tbl z.1) 0 200000 w (by omega) (by omega) z_W.re (fun _ _ => rfl)
  refine ⟨w', ?_, k2, k3⟩
  rw [er]
  unfold f_M_hasNone
  rw [x_gR, f1.1, x_gR, f2.1, x_aI (by omega) (by omega), h5, x_aI (by omega) (by omega), h7]
  rw [← k1]
  cases hz : z.1 with
  | inl q =>
    rw [hz] at mlt
    have m1 : 10 + q < 20 := mlt.1
    rw [if_pos (by show (10 : Int32) ≤ Int32.ofNat (10 + q); rw [show (10 : Int32) = Int32.ofNat 10 from rfl, x_le (by omega) (by omega)]; omega), x_gI, S.2.2.1.1]
    rfl
  | inr t =>
    have ht : t < nt := by rw [hz] at hm; exact hm
    have nt5 := S.2.1.1
    rw [if_neg (by show ¬ (10 : Int32) ≤ Int32.ofNat t; rw [show (10 : Int32) = Int32.ofNat 10 from rfl, x_le (by omega) (by omega)]; omega), x_gR, f3.1, show (Int32.ofNat (M_mc (.inr t))) = Int32.ofNat t from rfl, x_aI (by omega) (by omega), (S.2.1.2 t ht).1]
    rfl
end
