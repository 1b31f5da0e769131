/-! RUNNING (reference): a combination comes to a group -/
def M_gi (w : g_St) (k a : Nat) (x1 : Int64) (x2 : Bool) (N : Nat) : Prop := g_AL w 1109 a = (if k = 0 ∨ k = 20 ∨ x2 = true then x1 else r_N) ∧ (k = 0 ∨ k = 20 → x2 = false) ∧ (k = 21 → x2 = false → x1 = 0) ∧ ∃ c, c ≤ N ∧ g_AL w 1173 a = Int64.ofNat c ∧ (x2 = true ↔ 0 < c)
theorem z_i64z {c : Nat} (h : c < 2 ^ 40) : (Int64.ofNat c = 0) = (c = 0) := propext ⟨fun q => by
  have e := congrArg Int64.toInt q
  rw [Int64.toInt_ofNat_of_lt (by omega)] at e
  have e' : (c : Int) = 0 := e
  omega, fun q => by rw [q]; rfl⟩
theorem z_i64p {c : Nat} (h : c < 2 ^ 40) : (Int64.ofNat c ≤ 0) = (c = 0) := propext ⟨fun q => by
  rw [Int64.le_iff_toInt_le, Int64.toInt_ofNat_of_lt (by omega)] at q
  have e' : (c : Int) ≤ 0 := q
  omega, fun q => by rw [q]; decide⟩
theorem z_i641 (c : Nat) : Int64.ofNat c + 1 = Int64.ofNat (c + 1) := (Int64.ofNat_add _ _).symm
theorem m_fold {w : g_St} (F : m_Fix w) {k a N : Nat} (hk : k = 0 ∨ (20 ≤ k ∧ k ≤ 23)) (ha : a < 200) {x1 : Int64} {x2 : Bool} (h : M_gi w k a x1 x2 N) (hN : N < 2 ^ 30) (v : Int64) : ∃ w', f_M_fold (some 1) (M_kd k) (Int32.ofNat a) v w = some ((), w') ∧ z_W [] [1109, 1173] w w' ∧ (∀ j, j ≠ a → g_AL w' 1109 j = g_AL w 1109 j ∧ g_AL w' 1173 j = g_AL w 1173 j) ∧ M_gi w' k a (if k = 20 then (x1 + 1, x2) else if k = 0 then (x1, x2) else r_add k (x1, x2) v).1 (if k = 20 then (x1 + 1, x2) else if k = 0 then (x1, x2) else r_add k (x1, x2) v).2 (N + 1) := by
  have f2 : g_R w 6401 1 = some 1109 ∧ g_ln w 1109 = 200 := F (6401, 1109, 200) (by decide)
  have f3 : g_R w 6465 1 = some 1173 ∧ g_ln w 1173 = 200 := F (6465, 1173, 200) (by decide)
  obtain ⟨h1, h2, h3, c, h4, h5, h6⟩ := h
  unfold f_M_fold
  by_cases e0 : k = 0
  · rw [if_pos (by rw [M_kd0 hk]; exact e0), if_neg (show ¬ k = 20 by omega), if_pos e0]
    exact ⟨w, rfl, z_W.re, fun _ _ => ⟨rfl, rfl⟩, h1, h2, h3, c, by omega, h5, h6⟩
  · rw [if_neg (by rw [M_kd0 hk]; exact e0), show (21 : Int32) = Int32.ofNat (20 + 1) from rfl]
    by_cases e20 : k = 20
    · rw [if_pos (by rw [M_kdn hk (by omega)]; exact e20), x_gR, f2.1, x_aL (by omega) (by omega), x_sL (by omega) (by omega), if_pos e20]
      refine ⟨_, rfl, z_W.re.sL (by decide) _ _, fun j hj => ?_, ?_⟩
      · rw [x_AL_AL, if_neg (fun q => hj q.2), x_AL_AL, if_neg (fun q => hj q.2)]
        exact ⟨rfl, rfl⟩
      · refine ⟨?_, h2, fun q => by omega, c, by omega, ?_, h6⟩
        · rw [x_AL_AL, if_pos ⟨rfl, rfl⟩, h1, if_pos (Or.inr (Or.inl e20)), if_pos (Or.inr (Or.inl e20))]
        · rw [x_AL_AL, if_neg (fun q => absurd q.1 (by decide))]; exact h5
    · rw [if_neg (by rw [M_kdn hk (by omega)]; exact e20), if_neg e20, if_neg e0]
      unfold r_add
      by_cases ev : v = r_N
      · rw [if_pos (show v = 1099511627776 from ev), if_pos ev]
        exact ⟨w, rfl, z_W.re, fun _ _ => ⟨rfl, rfl⟩, h1, h2, h3, c, by omega, h5, h6⟩
      · rw [if_neg (show ¬ v = 1099511627776 from ev), if_neg ev, x_gR, f3.1, x_aL (by omega) (by omega), h5]
        -- what is written
        have fin : ∀ (y : Int64) (b : Bool), (∀ s3, g_R s3 = g_R w → g_ln s3 = g_ln w → g_AL s3 1109 a = g_AL w 1109 a → True) → True := fun _ _ _ => trivial
        have put : ∀ y : Int64, z_W [] [1109, 1173] w (g_setAL (g_setAL w 1173 a (Int64.ofNat (c + 1))) 1109 a y) ∧ (∀ j, j ≠ a → g_AL (g_setAL (g_setAL w 1173 a (Int64.ofNat (c + 1))) 1109 a y) 1109 j = g_AL w 1109 j ∧ g_AL (g_setAL (g_setAL w 1173 a (Int64.ofNat (c + 1))) 1109 a y) 1173 j = g_AL w 1173 j) ∧ M_gi (g_setAL (g_setAL w 1173 a (Int64.ofNat (c + 1))) 1109 a y) k a y true (N + 1) := fun y => by
          refine ⟨(z_W.re.sL (by decide) _ _).sL (by decide) _ _, fun j hj => ?_, ?_, fun q => by omega, fun _ q => (by cases q), c + 1, by omega, ?_, ?_⟩
          · rw [x_AL_AL, if_neg (fun q => hj q.2), x_AL_AL, if_neg (fun q => absurd q.1 (by decide)), x_AL_AL, if_neg (fun q => absurd q.1 (by decide)), x_AL_AL, if_neg (fun q => hj q.2)]
            exact ⟨rfl, rfl⟩
          · rw [x_AL_AL, if_pos ⟨rfl, rfl⟩, if_pos (Or.inr (Or.inr rfl))]
          · rw [x_AL_AL, if_neg (fun q => absurd q.1 (by decide)), x_AL_AL, if_pos ⟨rfl, rfl⟩]
          · exact ⟨fun _ => by omega, fun _ => rfl⟩
        have rd : g_AL (g_setAL w 1173 a (Int64.ofNat (c + 1))) 1109 a = g_AL w 1109 a := by rw [x_AL_AL, if_neg (fun q => absurd q.1 (by decide))]
        have st : ∀ (y : Int64), g_sL (g_setAL w 1173 a (Int64.ofNat (c + 1))) (some 1109) (Int32.ofNat a) y (fun s11 => some ((), s11)) = some ((), g_setAL (g_setAL w 1173 a (Int64.ofNat (c + 1))) 1109 a y) := fun y => by
          rw [x_sL (by omega) (by show a < g_ln w 1109; omega)]
        have e47 : ∀ x0s : Int32, f_M_fold_47 (some 1) (M_kd k) (Int32.ofNat a) v x0s w = some ((), g_setAL (g_setAL w 1173 a (Int64.ofNat (c + 1))) 1109 a (if x0s = 0 then (if k = 21 then g_AL w 1109 a + v else if k = 23 then (if g_AL w 1109 a ≤ v then v else g_AL w 1109 a) else if v ≤ g_AL w 1109 a then v else g_AL w 1109 a) else v)) := fun x0s => by
          unfold f_M_fold_47
          rw [x_gR, f3.1, x_aL (by omega) (by omega), h5, z_i641, x_sL (by omega) (by omega), x_gR, show g_R (g_setAL w 1173 a (Int64.ofNat (c + 1))) 6401 1 = some 1109 from f2.1, x_aL (by omega) (by show a < g_ln w 1109; omega), rd, x_gR, show g_R (g_setAL w 1173 a (Int64.ofNat (c + 1))) 6401 1 = some 1109 from f2.1]
          by_cases q : x0s = 0
          · rw [if_pos q, if_pos q, show (22 : Int32) = Int32.ofNat (21 + 1) from rfl, show (24 : Int32) = Int32.ofNat (23 + 1) from rfl]
            by_cases q1 : k = 21
            · rw [if_pos (by rw [M_kdn hk (by omega)]; exact q1), if_pos q1]; exact st _
            · rw [if_neg (by rw [M_kdn hk (by omega)]; exact q1), if_neg q1]
              by_cases q2 : k = 23
              · rw [if_pos (by rw [M_kdn hk (by omega)]; exact q2), if_pos q2]
                by_cases q3 : g_AL w 1109 a ≤ v
                · rw [if_pos q3, if_pos q3]; exact st _
                · rw [if_neg q3, if_neg q3]; exact st _
              · rw [if_neg (by rw [M_kdn hk (by omega)]; exact q2), if_neg q2]
                by_cases q3 : v ≤ g_AL w 1109 a
                · rw [if_pos q3, if_pos q3]; exact st _
                · rw [if_neg q3, if_neg q3]; exact st _
          · rw [if_neg q, if_neg q]; exact st _
        have same : ∀ y y' : Int64, y = y' → ∃ w', some ((), g_setAL (g_setAL w 1173 a (Int64.ofNat (c + 1))) 1109 a y) = some ((), w') ∧ z_W [] [1109, 1173] w w' ∧ (∀ j, j ≠ a → g_AL w' 1109 j = g_AL w 1109 j ∧ g_AL w' 1173 j = g_AL w 1173 j) ∧ M_gi w' k a y' true (N + 1) := fun y y' e => by
          rw [← e]
          exact ⟨_, rfl, put y⟩
        by_cases ec : c = 0
        · have x2f : x2 = false := by
            cases hx : x2 with
            | false => rfl
            | true => have := h6.mp hx; omega
          rw [if_pos (by rw [z_i64z (by omega)]; exact ec), e47, if_neg (by decide)]
          by_cases q1 : k = 21
          · rw [if_pos q1]
            exact same _ _ (by show v = x1 + v; rw [h3 q1 x2f, Int64.zero_add])
          · rw [if_neg q1, if_pos (show (x1, x2).2 = false from x2f)]
            exact same _ _ rfl
        · have x2t : x2 = true := h6.mpr (by omega)
          have was : g_AL w 1109 a = x1 := by rw [h1, if_pos (Or.inr (Or.inr x2t))]
          rw [if_neg (by rw [z_i64z (by omega)]; exact ec), e47, if_pos rfl, was]
          by_cases q1 : k = 21
          · rw [if_pos q1, if_pos q1]
            exact same _ _ rfl
          · rw [if_neg q1, if_neg q1, if_neg (show ¬ (x1, x2).2 = false from by show ¬ x2 = false; rw [x2t]; decide)]
            by_cases q2 : k = 23
            · rw [if_pos q2, if_neg (show ¬ k = 22 by omega)]
              refine same _ _ ?_
              show _ = if v < x1 then x1 else v
              by_cases q3 : x1 ≤ v
              · rw [if_pos q3, if_neg (by
                  rw [Int64.lt_iff_toInt_lt]; rw [Int64.le_iff_toInt_le] at q3; omega)]
              · rw [if_neg q3, if_pos (by
                  rw [Int64.lt_iff_toInt_lt]; rw [Int64.le_iff_toInt_le] at q3; omega)]
            · rw [if_neg q2, if_pos (show k = 22 by omega)]
              refine same _ _ ?_
              show _ = if v < x1 then v else x1
              by_cases q3 : v < x1
              · rw [if_pos q3, if_pos (by
                  rw [Int64.lt_iff_toInt_lt] at q3; rw [Int64.le_iff_toInt_le]; omega)]
              · rw [if_neg q3]
                by_cases q4 : v ≤ x1
                · rw [if_pos q4]
                  refine Int64.toInt_inj.mp ?_
                  rw [Int64.lt_iff_toInt_lt] at q3; rw [Int64.le_iff_toInt_le] at q4
                  omega
                · rw [if_neg q4]
section
variable {w : g_St} {mc : Nat → Nat → Nat} {s : Nat} {its : List r_It} {env : Nat → Nat → Int64} {D : Nat → Nat → Prop}
/-- all items of a combination come to group g -/
theorem m_mg112 (F : m_Fix w) (hi : M_vit w mc s its) (hc : g_AI w 2196 s = Int32.ofNat its.length) (hu : r_uit D its) (hd : ∀ k j, D k j → M_vb w mc env k j) {N g : Nat} (hg : g < 49) (hN : N < 2 ^ 30) {x : r_Gp} (hx : M_g1 w its N g x) (k59 : Option Nat → Int32 → Int32 → g_St → Option (Unit × g_St)) : ∃ w', f_M_makeGroups_112 k59 200000 (some 1) (Int32.ofNat s) (Int32.ofNat g) 0 w = f_M_makeGroups_180 k59 (some 1) (Int32.ofNat s) w' ∧ z_W [] [1109, 1173] w w' ∧ (∀ j, ¬ (4 * g ≤ j ∧ j < 4 * g + 4) → g_AL w' 1109 j = g_AL w 1109 j ∧ g_AL w' 1173 j = g_AL w 1173 j) ∧ M_g1 w' its (N + 1) g (r_fold its env x) := by
  have hs := hi.1
  have h4 := hi.2.1
  have key : ∀ (d i f : Nat) (w1 : g_St), i + d = its.length → d < f → z_W [] [1109, 1173] w w1 → (∀ j, ¬ (4 * g ≤ j ∧ j < 4 * g + i) → g_AL w1 1109 j = g_AL w 1109 j ∧ g_AL w1 1173 j = g_AL w 1173 j) → (∀ j, j < i → M_gi w1 (its.getD j r_it0).1 (4 * g + j) (r_fd its env x j).1 (r_fd its env x j).2 (N + 1)) → ∃ w', f_M_makeGroups_112 k59 f (some 1) (Int32.ofNat s) (Int32.ofNat g) (Int32.ofNat i) w1 = f_M_makeGroups_180 k59 (some 1) (Int32.ofNat s) w' ∧ z_W [] [1109, 1173] w w' ∧ (∀ j, ¬ (4 * g ≤ j ∧ j < 4 * g + 4) → g_AL w' 1109 j = g_AL w 1109 j ∧ g_AL w' 1173 j = g_AL w 1173 j) ∧ M_g1 w' its (N + 1) g (r_fold its env x) := by
    intro d
    induction d with
    | zero =>
      intro i f w1 e1 e2 hw ho hn
      obtain ⟨f, rfl⟩ : ∃ m, f = m + 1 := ⟨f - 1, by omega⟩
      have F1 := hw.fx F
      have f1 : g_R w1 2433 1 = some 2196 ∧ g_ln w1 2196 = 17 := F1 (2433, 2196, 17) (by decide)
      rw [f_M_makeGroups_112, x_gR, f1.1, x_aI (by omega) (by omega), hw.ai (a := 2196) (by decide), hc, if_pos (by rw [x_le (by omega) (by omega)]; omega)]
      refine ⟨w1, rfl, hw, fun j hj => ho j (by omega), fun j hj => ?_⟩
      have n := hn j (by omega)
      show M_gi w1 (its.getD j r_it0).1 (4 * g + j) (if j < its.length then (r_fd its env x j).1 else x.1 j) (if j < its.length then (r_fd its env x j).2 else x.2 j) (N + 1)
      rw [if_pos hj, if_pos hj]
      exact n
    | succ d ih =>
      intro i f w1 e1 e2 hw ho hn
      obtain ⟨f, rfl⟩ : ∃ m, f = m + 1 := ⟨f - 1, by omega⟩
      have hil : i < its.length := by omega
      have F1 := hw.fx F
      have hi1 : M_vit w1 mc s its := hi.mv (hw.mono (by decide) (by decide))
      have f1 : g_R w1 2433 1 = some 2196 ∧ g_ln w1 2196 = 17 := F1 (2433, 2196, 17) (by decide)
      obtain ⟨k1, k2⟩ := m_kind F1 hi1 hil
      have old : M_gi w1 (its.getD i r_it0).1 (4 * g + i) (x.1 i) (x.2 i) N := by
        obtain ⟨a1, a2, a3, c, a4, a5, a6⟩ := hx i hil
        obtain ⟨o1, o2⟩ := ho (4 * g + i) (by omega)
        exact ⟨o1.trans a1, a2, a3, c, a4, o2.trans a5, a6⟩
      have e171 : ∀ v, ((its.getD i r_it0).1 ≠ 0 → (its.getD i r_it0).1 ≠ 20 → v = r_val env (its.getD i r_it0).2) → ∃ w', f_M_makeGroups_171 (f_M_makeGroups_112 k59 f) (some 1) (Int32.ofNat s) (Int32.ofNat g) (Int32.ofNat i) (some 1) (M_kd (its.getD i r_it0).1) (Int32.ofNat (4 * g + i)) v w1 = f_M_makeGroups_180 k59 (some 1) (Int32.ofNat s) w' ∧ z_W [] [1109, 1173] w w' ∧ (∀ j, ¬ (4 * g ≤ j ∧ j < 4 * g + 4) → g_AL w' 1109 j = g_AL w 1109 j ∧ g_AL w' 1173 j = g_AL w 1173 j) ∧ M_g1 w' its (N + 1) g (r_fold its env x) := by
        intro v hv
        obtain ⟨w2, m1, m2, m3, m4⟩ := m_fold F1 k2 (a := 4 * g + i) (by omega) old hN v
        have er : (if (its.getD i r_it0).1 = 20 then (x.1 i + 1, x.2 i) else if (its.getD i r_it0).1 = 0 then (x.1 i, x.2 i) else r_add (its.getD i r_it0).1 (x.1 i, x.2 i) v) = r_fd its env x i := by
          unfold r_fd
          by_cases q1 : (its.getD i r_it0).1 = 20
          · rw [if_pos q1, if_pos q1]
          · rw [if_neg q1, if_neg q1]
            by_cases q2 : (its.getD i r_it0).1 = 0
            · rw [if_pos q2, if_pos q2]
            · rw [if_neg q2, if_neg q2, hv q2 q1]
        rw [er] at m4
        unfold f_M_makeGroups_171
        rw [x_nn, m1, x_c, x_p1]
        refine ih (i + 1) f w2 (by omega) (by omega) (hw.trans m2) (fun j hj => ?_) (fun j hj => ?_)
        · obtain ⟨a, b⟩ := m3 j (by omega)
          obtain ⟨a', b'⟩ := ho j (by omega)
          exact ⟨a.trans a', b.trans b'⟩
        · by_cases e : j = i
          · rw [e]; exact m4
          · obtain ⟨a, b⟩ := m3 (4 * g + j) (by omega)
            obtain ⟨n1, n2, n3, c, n4, n5, n6⟩ := hn j (by omega)
            exact ⟨a.trans n1, n2, n3, c, n4, b.trans n5, n6⟩
      rw [f_M_makeGroups_112, x_gR, f1.1, x_aI (by omega) (by omega), hw.ai (a := 2196) (by decide), hc, if_neg (by rw [x_le (by omega) (by omega)]; omega), x_nn, k1, x_c, x_nn, k1, x_c, show (4 : Int32) = Int32.ofNat 4 from rfl, x_mul, x_add]
      by_cases e : (its.getD i r_it0).1 = 0
      · rw [if_pos (by rw [M_kd0 k2]; exact e)]
        exact e171 0 (fun q => absurd e q)
      · rw [if_neg (by rw [M_kd0 k2]; exact e), x_nn, k1, x_c]
        by_cases e2 : (its.getD i r_it0).1 = 20
        · rw [if_pos (by rw [show (21 : Int32) = Int32.ofNat (20 + 1) from rfl, M_kdn k2 (by omega)]; exact e2)]
          exact e171 0 (fun _ q => absurd e2 q)
        · rw [if_neg (by rw [show (21 : Int32) = Int32.ofNat (20 + 1) from rfl, M_kdn k2 (by omega)]; exact e2), x_nn, m_itv F1 hi1 hil e2 hu (fun k j q => ((hd k j q).mv hw (by decide) (by decide) (by rw [hw.ai (a := 4756) (by decide)])).bd F1), x_c]
          exact e171 _ (fun _ _ => rfl)
  exact key its.length 0 200000 w (by omega) (by omega) z_W.re (fun j hj => ⟨rfl, rfl⟩) (fun j hj => by omega)
end
