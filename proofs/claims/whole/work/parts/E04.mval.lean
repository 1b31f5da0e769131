/-! RUNNING (reference): values -/
def M_vop (w : g_St) (mc : Nat → Nat → Nat) (t : Nat) (o : r_Op) : Prop := t < 210 ∧ g_AI w 2836 t = (if o.1 = true then -1 else 1) ∧ match o.2 with
  | .inl v => (v = r_N ∧ g_AI w 2772 t = 1) ∨ (g_AI w 2772 t = 0 ∧ ∃ k, g_AI w 2900 t = Int32.ofNat k ∧ k < 402 ∧ g_AL w 725 k = v)
  | .inr q => g_AI w 2772 t = 2 ∧ g_AI w 2964 t = Int32.ofNat q.1 ∧ q.1 ≤ 3 ∧ g_AI w 3028 t = Int32.ofNat (mc q.1 q.2)
/-- a slot has a row -/
def M_vbd (w : g_St) (mc : Nat → Nat → Nat) (env : Nat → Nat → Int64) (k j : Nat) : Prop := ∃ x, g_AI w 4756 k = Int32.ofNat x ∧ f_M_cellOf (some 1) (Int32.ofNat x) (Int32.ofNat (mc k j)) w = some (env k j, w)
theorem x_sg1 (v x : Int64) : v + (1 : Int32).toInt64 * x = v + x := by
  rw [show (1 : Int32).toInt64 = 1 from rfl, Int64.one_mul]
theorem x_sgm (v x : Int64) : v + (-1 : Int32).toInt64 * x = v - x := by
  rw [show (-1 : Int32).toInt64 = -1 from rfl, Int64.neg_mul, Int64.one_mul, Int64.sub_eq_add_neg]
theorem m_val {w : g_St} (F : m_Fix w) {mc : Nat → Nat → Nat} {e b : Nat} (he : e < 210) {L : List r_Op} (l4 : L.length ≤ 205) (h1 : g_AI w 2708 e = Int32.ofNat L.length) (h2 : g_AI w 2644 e = Int32.ofNat b) (hb : b < 210) (h3 : ∀ j, j < L.length → M_vop w mc (b + j) (L.getD j r_op0)) {env : Nat → Nat → Int64} {D : Nat → Nat → Prop} (hu : r_us D L) (hd : ∀ k j, D k j → M_vbd w mc env k j) : f_M_valueOf (some 1) (Int32.ofNat e) w = some (r_val env L, w) := by
  have f1 : g_R w 3201 1 = some 2708 ∧ g_ln w 2708 = 210 := F (3201, 2708, 210) (by decide)
  have f2 : g_R w 3137 1 = some 2644 ∧ g_ln w 2644 = 210 := F (3137, 2644, 210) (by decide)
  have f3 : g_R w 3265 1 = some 2772 ∧ g_ln w 2772 = 210 := F (3265, 2772, 210) (by decide)
  have f4 : g_R w 3329 1 = some 2836 ∧ g_ln w 2836 = 210 := F (3329, 2836, 210) (by decide)
  have f5 : g_R w 3393 1 = some 2900 ∧ g_ln w 2900 = 210 := F (3393, 2900, 210) (by decide)
  have f6 : g_R w 769 1 = some 725 ∧ g_ln w 725 = 402 := F (769, 725, 402) (by decide)
  have f7 : g_R w 3457 1 = some 2964 ∧ g_ln w 2964 = 210 := F (3457, 2964, 210) (by decide)
  have f8 : g_R w 3521 1 = some 3028 ∧ g_ln w 3028 = 210 := F (3521, 3028, 210) (by decide)
  have f9 : g_R w 6273 1 = some 4756 ∧ g_ln w 4756 = 4 := F (6273, 4756, 4) (by decide)
  have key : ∀ (d j f : Nat) (v : Int64), j + d = L.length → d < f → f_M_valueOf_5 f (some 1) (Int32.ofNat e) v (Int32.ofNat j) w = some (r_go env (L.drop j) v, w) := by
    intro d
    induction d with
    | zero =>
      intro j f v e1 e2
      obtain ⟨f, rfl⟩ : ∃ m, f = m + 1 := ⟨f - 1, by omega⟩
      rw [f_M_valueOf_5, x_gR, f1.1, x_aI (by omega) (by omega), h1, if_pos (by rw [x_le (by omega) (by omega)]; omega), List.drop_eq_nil_of_le (by omega)]
      rfl
    | succ d ih =>
      intro j f v e1 e2
      obtain ⟨f, rfl⟩ : ∃ m, f = m + 1 := ⟨f - 1, by omega⟩
      have hj : j < L.length := by omega
      have hdr : L.drop j = L.getD j r_op0 :: L.drop (j + 1) := by
        rw [List.getD_eq_getElem?_getD, List.getElem?_eq_getElem hj]
        exact List.drop_eq_getElem_cons hj
      have hmem : L.getD j r_op0 ∈ L := by
        rw [List.getD_eq_getElem?_getD, List.getElem?_eq_getElem hj]; exact List.getElem_mem hj
      obtain ⟨o0, o1, o2⟩ := h3 j hj
      have us := hu _ hmem
      rw [hdr, r_go]
      generalize L.getD j r_op0 = o at o1 o2 us ⊢
      have e90 : ∀ x, f_M_valueOf_90 (f_M_valueOf_5 f) (some 1) (Int32.ofNat e) v (Int32.ofNat j) (Int32.ofNat (b + j)) x w = some (if x = r_N then r_N else r_go env (L.drop (j + 1)) (if o.1 = true then v - x else v + x), w) := fun x => by
        unfold f_M_valueOf_90
        by_cases c : x = r_N
        · rw [if_pos c, if_pos c]
        · rw [if_neg c, if_neg c, x_gR, f4.1, x_aI (by omega) (by omega), o1, x_p1]
          cases hs : o.1 with
          | true => rw [if_pos rfl, if_pos rfl, x_sgm]; exact ih (j + 1) f _ (by omega) (by omega)
          | false => rw [if_neg (by decide), if_neg (by decide), x_sg1]; exact ih (j + 1) f _ (by omega) (by omega)
      rw [f_M_valueOf_5, x_gR, f1.1, x_aI (by omega) (by omega), h1, if_neg (by rw [x_le (by omega) (by omega)]; omega), x_gR, f2.1, x_aI (by omega) (by omega), h2, x_gR, f3.1, x_add, x_aI (by omega) (by omega)]
      cases ho : o.2 with
      | inl c =>
        rw [ho] at o2
        have ev : r_op env o = c := by unfold r_op; rw [ho]
        rw [ev]
        rcases o2 with ⟨q1, q2⟩ | ⟨q1, k, q2, q3, q4⟩
        · rw [q2, if_pos rfl, if_pos q1]
        · rw [q1, if_neg (by decide), x_gR, f3.1, x_aI (by omega) (by omega), q1, if_pos rfl, x_gR, f6.1, x_gR, f5.1, x_aI (by omega) (by omega), q2, x_aL (by omega) (by omega), q4, e90]
      | inr q =>
        rw [ho] at o2
        obtain ⟨q1, q2, q3, q4⟩ := o2
        have ev : r_op env o = env q.1 q.2 := by unfold r_op; rw [ho]
        obtain ⟨x, x1, x2⟩ := hd q.1 q.2 (us q.1 q.2 ho)
        rw [ev, q1, if_neg (by decide), x_gR, f3.1, x_aI (by omega) (by omega), q1, if_neg (by decide), x_gR, f9.1, x_gR, f7.1, x_aI (by omega) (by omega), q2, x_aI (by omega) (by omega), x1, x_gR, f8.1, x_aI (by omega) (by omega), q4, x_nn, x2, x_c, e90]
  unfold f_M_valueOf r_val
  have k0 := key L.length 0 200000 0 (by omega) (by omega)
  rw [List.drop_zero] at k0
  exact k0
