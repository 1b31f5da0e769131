/-! RUNNING (reference): groups -/
def M_kd (k : Nat) : Int32 := if k = 0 then 0 else Int32.ofNat (k + 1)
theorem m_kind {w : g_St} (F : m_Fix w) {mc : Nat → Nat → Nat} {s : Nat} {its : List r_It} (h : M_vit w mc s its) {j : Nat} (hj : j < its.length) : f_M_kindOf (some 1) (Int32.ofNat s) (Int32.ofNat j) w = some (M_kd (its.getD j r_it0).1, w) ∧ ((its.getD j r_it0).1 = 0 ∨ (20 ≤ (its.getD j r_it0).1 ∧ (its.getD j r_it0).1 ≤ 23)) := by
  have f1 : g_R w 2881 1 = some 2516 ∧ g_ln w 2516 = 68 := F (2881, 2516, 68) (by decide)
  have f2 : g_R w 2369 1 = some 2132 ∧ g_ln w 2132 = 17 := F (2369, 2132, 17) (by decide)
  obtain ⟨s17, l4, i0, h1, h2, h3⟩ := h
  obtain ⟨h4, -⟩ := h3 j hj
  unfold f_M_kindOf M_kd
  rw [x_gR, f1.1, x_gR, f2.1, x_aI (by omega) (by omega), h1, x_add, x_aI (by omega) (by omega)]
  rcases h4 with ⟨a, b⟩ | ⟨⟨a, b⟩, c⟩
  · exact ⟨by rw [b, if_pos a], Or.inl a⟩
  · refine ⟨?_, Or.inr ⟨a, b⟩⟩
    rw [c, if_neg (by omega)]
    have h5 : (its.getD j r_it0).1 = 20 ∨ (its.getD j r_it0).1 = 21 ∨ (its.getD j r_it0).1 = 22 ∨ (its.getD j r_it0).1 = 23 := by omega
    rcases h5 with e | e | e | e <;> rw [e] <;> rfl
theorem M_kd0 {k : Nat} (h : k = 0 ∨ (20 ≤ k ∧ k ≤ 23)) : (M_kd k = 0) = (k = 0) := by
  unfold M_kd
  rcases h with e | e
  · rw [if_pos e]; exact propext ⟨fun _ => e, fun _ => rfl⟩
  · rw [if_neg (by omega), show (0 : Int32) = Int32.ofNat 0 from rfl, x_eq (by omega) (by omega)]
    exact propext ⟨fun q => by omega, fun q => by omega⟩
theorem M_kdn {k n : Nat} (h : k = 0 ∨ (20 ≤ k ∧ k ≤ 23)) (hn : 20 ≤ n ∧ n ≤ 23) : (M_kd k = Int32.ofNat (n + 1)) = (k = n) := by
  unfold M_kd
  rcases h with e | e
  · rw [if_pos e, show (0 : Int32) = Int32.ofNat 0 from rfl, x_eq (by omega) (by omega)]; exact propext ⟨fun q => by omega, fun q => by omega⟩
  · rw [if_neg (by omega), x_eq (by omega) (by omega)]
    exact propext ⟨fun q => by omega, fun q => by omega⟩
/-- the groups; N: how many combinations there were -/
def M_g1 (w : g_St) (its : List r_It) (N g : Nat) (x : r_Gp) : Prop := ∀ i, i < its.length → g_AL w 1109 (4 * g + i) = r_gv its x i ∧ ((its.getD i r_it0).1 = 0 ∨ (its.getD i r_it0).1 = 20 → x.2 i = false) ∧ ((its.getD i r_it0).1 = 21 → x.2 i = false → x.1 i = 0) ∧ ∃ c, c ≤ N ∧ g_AL w 1173 (4 * g + i) = Int64.ofNat c ∧ (x.2 i = true ↔ 0 < c)
def M_gr (w : g_St) (its : List r_It) (N : Nat) (gs : List r_Gp) : Prop := g_I w 6337 1 = Int32.ofNat gs.length ∧ gs.length ≤ 49 ∧ ∀ g, g < gs.length → M_g1 w its N g (gs.getD g r_gp0)
theorem M_gr.mv {u w : g_St} {wI wA : List Nat} (h : z_W wI wA u w) (h1 : 6337 ∉ wI) (h2 : 1109 ∉ wA) (h3 : 1173 ∉ wA) {its : List r_It} {N : Nat} {gs : List r_Gp} (q : M_gr u its N gs) : M_gr w its N gs := by
  unfold M_gr M_g1 at q ⊢
  rw [h.fi h1, h.al h2, h.al h3]
  exact q
theorem M_gr.le {w : g_St} {its : List r_It} {N N' : Nat} {gs : List r_Gp} (q : M_gr w its N gs) (h : N ≤ N') : M_gr w its N' gs := ⟨q.1, q.2.1, fun g hg i hi => by
  obtain ⟨a, b, c, n, d, e⟩ := q.2.2 g hg i hi
  exact ⟨a, b, c, n, by omega, e⟩⟩
section
variable {w : g_St} {mc : Nat → Nat → Nat} {s : Nat} {its : List r_It} {env : Nat → Nat → Int64} {D : Nat → Nat → Prop}
/-- does the combination belong to group g -/
theorem m_gof21 (F : m_Fix w) (hi : M_vit w mc s its) (hc : g_AI w 2196 s = Int32.ofNat its.length) (hu : r_uit D its) (hd : ∀ k j, D k j → M_vbd w mc env k j) {N g : Nat} (hg : g < 49) {x : r_Gp} (hx : M_g1 w its N g x) (k4 : Option Nat → Int32 → Int32 → Int32 → g_St → Option (Int32 × g_St)) : f_M_groupOf_21 k4 200000 (some 1) (Int32.ofNat s) (Int32.ofNat g) 1 0 w = if r_eqg its (r_iv its env) x = true then k4 (some 1) (Int32.ofNat s) (Int32.ofNat g) 1 w else k4 (some 1) (Int32.ofNat s) (Int32.ofNat (g + 1)) 0 w := by
  have f1 : g_R w 2433 1 = some 2196 ∧ g_ln w 2196 = 17 := F (2433, 2196, 17) (by decide)
  have f2 : g_R w 6401 1 = some 1109 ∧ g_ln w 1109 = 200 := F (6401, 1109, 200) (by decide)
  have hs := hi.1
  have h4 := hi.2.1
  have z0 : Int32.ofNat g + 0 = Int32.ofNat g := Int32.add_zero _
  have key : ∀ (d i f : Nat) (b : Bool), i + d = its.length → d < f → f_M_groupOf_21 k4 f (some 1) (Int32.ofNat s) (Int32.ofNat g) (z_g b) (Int32.ofNat i) w = if (b && (List.range' i d).all fun i => !decide ((its.getD i r_it0).1 = 0) || decide (x.1 i = r_iv its env i)) = true then k4 (some 1) (Int32.ofNat s) (Int32.ofNat g) 1 w else k4 (some 1) (Int32.ofNat s) (Int32.ofNat (g + 1)) 0 w := by
    intro d
    induction d with
    | zero =>
      intro i f b e1 e2
      obtain ⟨f, rfl⟩ : ∃ m, f = m + 1 := ⟨f - 1, by omega⟩
      rw [f_M_groupOf_21, x_gR, f1.1, x_aI (by omega) (by omega), hc, if_pos (by rw [x_le (by omega) (by omega)]; omega)]
      cases b with
      | true => rw [if_neg (show ¬ z_g true = 0 from by decide), z0, if_pos (show (true && (List.range' i 0).all fun i => !decide ((its.getD i r_it0).1 = 0) || decide (x.1 i = r_iv its env i)) = true from rfl)]; rfl
      | false => rw [if_pos (show z_g false = 0 from rfl), x_p1, if_neg (show ¬ (false && (List.range' i 0).all fun i => !decide ((its.getD i r_it0).1 = 0) || decide (x.1 i = r_iv its env i)) = true from by rw [Bool.false_and]; decide)]; rfl
    | succ d ih =>
      intro i f b e1 e2
      obtain ⟨f, rfl⟩ : ∃ m, f = m + 1 := ⟨f - 1, by omega⟩
      have hil : i < its.length := by omega
      obtain ⟨k1, k2⟩ := m_kind F hi hil
      rw [f_M_groupOf_21, x_gR, f1.1, x_aI (by omega) (by omega), hc, if_neg (by rw [x_le (by omega) (by omega)]; omega), List.range'_succ, List.all_cons, x_p1]
      cases b with
      | false =>
        rw [if_pos (show z_g false = 0 from rfl), Bool.false_and]
        have e := ih (i + 1) f false (by omega) (by omega)
        rw [Bool.false_and] at e
        exact e
      | true =>
        rw [if_neg (show ¬ z_g true = 0 from by decide), x_nn, k1, x_c, Bool.true_and]
        by_cases e : (its.getD i r_it0).1 = 0
        · rw [if_neg (by unfold M_kd; rw [if_pos e]; decide), decide_eq_true e, Bool.not_true, Bool.false_or, x_gR, f2.1, show (4 : Int32) = Int32.ofNat 4 from rfl, x_mul, x_add, x_aL (by omega) (by omega), x_nn, m_itv F hi hil (by rw [e]; decide) hu hd, x_c, (hx i hil).1]
          have gv : r_gv its x i = x.1 i := by unfold r_gv; rw [if_pos (Or.inl e)]
          rw [gv]
          by_cases a : x.1 i = r_iv its env i
          · rw [if_pos a, decide_eq_true a]
            exact ih (i + 1) f true (by omega) (by omega)
          · rw [if_neg a, decide_eq_false a]
            exact ih (i + 1) f false (by omega) (by omega)
        · rw [if_pos (by
            unfold M_kd
            rw [if_neg e, show (0 : Int32) = Int32.ofNat 0 from rfl, x_lt (by omega) (by omega)]
            omega), decide_eq_false e, Bool.not_false, Bool.true_or, Bool.true_and]
          have e := ih (i + 1) f true (by omega) (by omega)
          rw [Bool.true_and] at e
          exact e
  have k0 := key its.length 0 200000 true (by omega) (by omega)
  rw [Bool.true_and] at k0
  unfold r_eqg
  rw [List.range_eq_range']
  exact k0
theorem m_gof (F : m_Fix w) (hi : M_vit w mc s its) (hc : g_AI w 2196 s = Int32.ofNat its.length) (hu : r_uit D its) (hd : ∀ k j, D k j → M_vbd w mc env k j) {N : Nat} {gs : List r_Gp} (hg : M_gr w its N gs) : f_M_groupOf (some 1) (Int32.ofNat s) w = some (Int32.ofNat ((r_gfd its (r_iv its env) gs).getD gs.length), w) := by
  obtain ⟨g1, g2, g3⟩ := hg
  have key : ∀ (d g f : Nat), g + d = gs.length → d + 1 < f → f_M_groupOf_4 f (some 1) (Int32.ofNat s) (Int32.ofNat g) 0 w = some (Int32.ofNat ((z_ff (fun g => r_eqg its (r_iv its env) (gs.getD g r_gp0)) d g).getD gs.length), w) := by
    intro d
    induction d with
    | zero =>
      intro g f e1 e2
      obtain ⟨f, rfl⟩ : ∃ m, f = m + 1 := ⟨f - 1, by omega⟩
      rw [f_M_groupOf_4, x_gI, g1, if_pos (by rw [x_le (by omega) (by omega)]; omega)]
      show _ = some (Int32.ofNat gs.length, w)
      rw [show g = gs.length by omega]
    | succ d ih =>
      intro g f e1 e2
      obtain ⟨f, rfl⟩ : ∃ m, f = m + 1 := ⟨f - 1, by omega⟩
      rw [f_M_groupOf_4, x_gI, g1, if_neg (by rw [x_le (by omega) (by omega)]; omega), if_pos rfl, m_gof21 F hi hc hu hd (by omega) (g3 g (by omega)), z_ff]
      by_cases e : r_eqg its (r_iv its env) (gs.getD g r_gp0) = true
      · rw [if_pos e, if_pos e]
        obtain ⟨f, rfl⟩ : ∃ m, f = m + 1 := ⟨f - 1, by omega⟩
        rw [f_M_groupOf_4, x_gI, g1, if_neg (by rw [x_le (by omega) (by omega)]; omega), if_neg (by decide)]
        rfl
      · rw [if_neg e, if_neg e]
        exact ih (g + 1) f (by omega) (by omega)
  exact key gs.length 0 200000 (by omega) (by omega)
/-- a group is opened -/
theorem m_open (F : m_Fix w) (hi : M_vit w mc s its) (hc : g_AI w 2196 s = Int32.ofNat its.length) (iv : Nat → Int64) (hv : ∀ w1, z_W [6337] [1109, 1173] w w1 → ∀ i, i < its.length → (its.getD i r_it0).1 = 0 → f_M_itemOf (some 1) (Int32.ofNat s) (Int32.ofNat i) w1 = some (iv i, w1)) {N : Nat} {gs : List r_Gp} (hg : M_gr w its N gs) (hl : gs.length ≤ 48) : ∃ w', f_M_openGroup (some 1) (Int32.ofNat s) w = some ((), w') ∧ z_W [6337] [1109, 1173] w w' ∧ M_gr w' its N (gs ++ [r_g1 its iv]) := by
  obtain ⟨g1, g2, g3⟩ := hg
  have hs := hi.1
  have h4 := hi.2.1
  have key : ∀ (d i f : Nat) (w1 : g_St), i + d = its.length → d < f → z_W [] [1109, 1173] w w1 → (∀ j, ¬ (4 * gs.length ≤ j) → g_AL w1 1109 j = g_AL w 1109 j ∧ g_AL w1 1173 j = g_AL w 1173 j) → (∀ j, j < i → g_AL w1 1109 (4 * gs.length + j) = r_gv its (r_g1 its iv) j ∧ g_AL w1 1173 (4 * gs.length + j) = 0) → ∃ w', f_M_openGroup_2 f (some 1) (Int32.ofNat s) (Int32.ofNat i) w1 = some ((), w') ∧ z_W [6337] [1109, 1173] w w' ∧ M_gr w' its N (gs ++ [r_g1 its iv]) := by
    intro d
    induction d with
    | zero =>
      intro i f w1 e1 e2 hw ho hn
      obtain ⟨f, rfl⟩ : ∃ m, f = m + 1 := ⟨f - 1, by omega⟩
      have F1 := hw.fx F
      have f1 : g_R w1 2433 1 = some 2196 ∧ g_ln w1 2196 = 17 := F1 (2433, 2196, 17) (by decide)
      rw [f_M_openGroup_2, x_gR, f1.1, x_aI (by omega) (by omega), hw.ai (a := 2196) (by decide), hc, if_pos (by rw [x_le (by omega) (by omega)]; omega), x_gI, hw.fi (k := 6337) (by decide), g1, x_pI, x_p1]
      refine ⟨_, rfl, (hw.mono (by decide) (by decide)).pI (by decide) _, ?_⟩
      refine ⟨?_, ?_, fun g hgl i hil => ?_⟩
      · rw [x_I_I, if_pos ⟨rfl, rfl⟩, List.length_append]; rfl
      · rw [List.length_append]; show gs.length + 1 ≤ 49; omega
      · rw [List.length_append] at hgl
        have hgl' : g < gs.length + 1 := hgl
        show g_AL w1 1109 (4 * g + i) = _ ∧ _ ∧ _ ∧ ∃ c, c ≤ N ∧ g_AL w1 1173 (4 * g + i) = _ ∧ _
        by_cases e : g = gs.length
        · rw [e, z_gd_e]
          obtain ⟨n1, n2⟩ := hn i (by omega)
          refine ⟨n1, fun _ => rfl, fun q _ => ?_, 0, Nat.zero_le _, n2, ?_⟩
          · show (if (its.getD i r_it0).1 = 0 then iv i else 0) = 0
            rw [if_neg (by omega)]
          · exact ⟨fun q => (by cases q), fun q => by omega⟩
        · rw [z_gd_l (by omega)]
          obtain ⟨o1, o2⟩ := ho (4 * g + i) (by omega)
          rw [o1, o2]
          exact g3 g (by omega) i hil
    | succ d ih =>
      intro i f w1 e1 e2 hw ho hn
      obtain ⟨f, rfl⟩ : ∃ m, f = m + 1 := ⟨f - 1, by omega⟩
      have hil : i < its.length := by omega
      have F1 := hw.fx F
      have f1 : g_R w1 2433 1 = some 2196 ∧ g_ln w1 2196 = 17 := F1 (2433, 2196, 17) (by decide)
      have f2 : g_R w1 6401 1 = some 1109 ∧ g_ln w1 1109 = 200 := F1 (6401, 1109, 200) (by decide)
      have f3 : g_R w1 6465 1 = some 1173 ∧ g_ln w1 1173 = 200 := F1 (6465, 1173, 200) (by decide)
      obtain ⟨k1, k2⟩ := m_kind F1 (hi.mv (hw.mono (by decide) (by decide))) hil
      have e60 : ∀ v, v = r_gv its (r_g1 its iv) i → ∃ w', f_M_openGroup_60 (f_M_openGroup_2 f) (some 1) (Int32.ofNat s) (Int32.ofNat i) (some 1109) (Int32.ofNat (4 * gs.length + i)) v w1 = some ((), w') ∧ z_W [6337] [1109, 1173] w w' ∧ M_gr w' its N (gs ++ [r_g1 its iv]) := by
        intro v hv'
        unfold f_M_openGroup_60
        rw [x_sL (by omega) (by omega), x_gR, show g_R (g_setAL w1 1109 (4 * gs.length + i) v) 6465 1 = some 1173 from f3.1, x_gI, show g_I (g_setAL w1 1109 (4 * gs.length + i) v) 6337 1 = Int32.ofNat gs.length from by rw [x_I_AL, hw.fi (k := 6337) (by decide), g1], show (4 : Int32) = Int32.ofNat 4 from rfl, x_mul, x_add, x_sL (by omega) (by show _ < g_ln w1 1173; omega), x_p1]
        refine ih (i + 1) f _ (by omega) (by omega) ((hw.sL (by decide) _ _).sL (by decide) _ _) (fun j hj => ?_) (fun j hj => ?_)
        · rw [x_AL_AL, if_neg (fun q => absurd q.1 (by decide)), x_AL_AL, if_neg (by omega), x_AL_AL, if_neg (by omega), x_AL_AL, if_neg (fun q => absurd q.1 (by decide))]
          exact ho j hj
        · rw [x_AL_AL, if_neg (fun q => absurd q.1 (by decide)), x_AL_AL, x_AL_AL]
          by_cases e : j = i
          · rw [if_pos ⟨rfl, by omega⟩, if_pos ⟨rfl, by omega⟩, e]
            exact ⟨hv', rfl⟩
          · rw [if_neg (by omega), if_neg (by omega), x_AL_AL, if_neg (fun q => absurd q.1 (by decide))]
            exact hn j (by omega)
      rw [f_M_openGroup_2, x_gR, f1.1, x_aI (by omega) (by omega), hw.ai (a := 2196) (by decide), hc, if_neg (by rw [x_le (by omega) (by omega)]; omega), x_gR, f2.1, x_gI, hw.fi (k := 6337) (by decide), g1, x_nn, k1, x_c, show (4 : Int32) = Int32.ofNat 4 from rfl, x_mul, x_add]
      by_cases e : (its.getD i r_it0).1 = 0
      · rw [if_pos (by rw [M_kd0 k2]; exact e), x_nn, hv w1 (hw.mono (by decide) (by decide)) i hil e, x_c]
        refine e60 _ ?_
        unfold r_gv r_g1
        rw [if_pos (Or.inl e)]
        show iv i = if _ then iv i else 0
        rw [if_pos e]
      · rw [if_neg (by rw [M_kd0 k2]; exact e), x_nn, k1, x_c]
        by_cases e2 : (its.getD i r_it0).1 = 20
        · rw [if_pos (by rw [show (21 : Int32) = Int32.ofNat (20 + 1) from rfl, M_kdn k2 (by omega)]; exact e2)]
          refine e60 _ ?_
          unfold r_gv r_g1
          rw [if_pos (Or.inr (Or.inl e2))]
          show 0 = if _ then iv i else 0
          rw [if_neg e]
        · rw [if_neg (by rw [show (21 : Int32) = Int32.ofNat (20 + 1) from rfl, M_kdn k2 (by omega)]; exact e2)]
          refine e60 _ ?_
          unfold r_gv r_g1
          rw [if_neg (fun q => by
            rcases q with q | q | q
            · exact e q
            · exact e2 q
            · cases q)]
  exact key its.length 0 200000 w (by omega) (by omega) z_W.re (fun j hj => ⟨rfl, rfl⟩) (fun j hj => by omega)
end
