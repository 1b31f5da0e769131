/-! TOKENS: the reference's four ways -/
section
variable {u : g_St} {len : Nat} {T : Nat → Nat}
theorem z_run_first {f i : Nat} (h : z_bl f (T i) = true) (hi : i < len) : z_run T f (len - i) i = z_run T f (len - (i + 1)) (i + 1) := by
  rw [show len - i = (len - (i + 1)) + 1 by omega, z_run, if_pos h]
theorem m_keyword (hX : z_XM u len T) (hm : m_Fix u) (hT : ∀ j, j < len → T j < 256) (hkw : z_kwOk u) {i c : Nat} (hi : i < len) (hcp : z_cp (T i) = true) (hc : c < 402) (hc1 : g_I u 513 1 = Int32.ofNat c) :
    ∃ u', f_M_scanKeyword (some 1) (Int32.ofNat i) u = some (Int32.ofNat (z_tend len T i), u') ∧ g_AI u' 1108 c = z_km (z_kind T i (z_tend len T i)) ∧ ∀ j, j ≠ c → g_AI u' 1108 j = g_AI u 1108 j := by
  have h400 := hX.2.1
  have hcb : 65 ≤ T i ∧ T i ≤ 90 := of_decide_eq_true hcp
  have hsm : z_sm (T i) = false := by unfold z_sm; rw [decide_eq_false_iff_not]; omega
  have hdg : z_dg (T i) = false := by unfold z_dg; rw [decide_eq_false_iff_not]; omega
  have hbl : ∀ x, z_bl (T i) x = z_cp x := fun x => by
    unfold z_bl
    rw [if_neg (by rw [hsm]; decide), if_neg (by rw [hdg]; decide), hcp]
    rfl
  have hE : z_tend len T i = z_run T (T i) (len - i) i := by
    unfold z_tend
    rw [if_neg (fun w => by omega), z_run_first (by rw [hbl]; exact hcp) hi]
  have hte := z_tend_le (T := T) hi
  have hin : ∀ j, i ≤ j → j < z_tend len T i → 65 ≤ T j ∧ T j ≤ 90 := fun j h1 h2 => by
    rw [hE] at h2
    have := z_run_in T (T i) (len - i) i j h1 h2
    rw [hbl] at this
    exact of_decide_eq_true this
  unfold f_M_scanKeyword
  rw [m_kwrun hX hm hT hcp (len - i) i 200000 0 (Nat.le_refl _) (by omega) (by omega), ← hE, x_gR, (hm _ m_k641).1, x_gI, hc1, x_sI (by omega) (by rw [(hm _ m_k641).2]; exact hc)]
  obtain ⟨u', a1, a2, a3⟩ := m_kwloop (i := i) (E := z_tend len T i) (by omega) (by omega) (y := z_kh T i (z_tend len T i - i) i 0) hc 25 1 200000 (g_setAI u 1108 c 0) 0 (by decide) (by decide) (by decide) hkw hm hc1 (by rw [x_AI_AI, if_pos ⟨rfl, rfl⟩])
  refine ⟨u', a1, ?_, fun j hj => ?_⟩
  · rw [a2]
    have hw : ∀ x ∈ z_w T i (z_tend len T i), 65 ≤ x ∧ x ≤ 90 := fun x hx => by
      obtain ⟨j, hj, rfl⟩ := List.mem_map.mp hx
      have := List.mem_range.mp hj
      exact hin (i + j) (by omega) (by omega)
    have hk : z_kind T i (z_tend len T i) = z_fk (z_w T i (z_tend len T i)) 36 0 := by
      unfold z_kind
      rw [if_neg (by rw [hsm]; decide), if_neg (by rw [hdg]; decide)]
    rw [hk]
    refine z_key hw (fun e => by have := z_w_len T i (z_tend len T i); rw [e] at this; have h0 : ([] : List Nat).length = 0 := rfl; omega) (fun k h1 h2 => ?_)
    rw [z_w_len]
    by_cases q : z_tend len T i - i < 10
    · have e1 : z_kh T i (z_tend len T i - i) i 0 = Int64.ofNat (z_zh (z_w T i (z_tend len T i)) 0) := z_kh_zh T i (z_tend len T i - i) i 0 (fun j h1 h2 => hin j h1 (by omega)) (Nat.le_refl _) (by omega)
      have b1 : z_zh (z_w T i (z_tend len T i)) 0 < 27 ^ (0 + (z_w T i (z_tend len T i)).length) := z_zh_lt _ 0 0 hw (by decide)
      rw [z_w_len, Nat.zero_add] at b1
      have b2 : 27 ^ (z_tend len T i - i) ≤ 27 ^ 9 := Nat.pow_le_pow_right (by decide) (by omega)
      have b3 : z_zh (z_w T i (z_tend len T i)) 0 < 2 ^ 63 := Nat.lt_of_lt_of_le b1 (Nat.le_trans b2 (by decide))
      have b4 : z_kvs.getD (k - 1) 0 < 2 ^ 63 := by
        have w : ((List.range 25).all fun k => decide (z_kvs.getD k 0 < 2 ^ 63)) = true := by decide +kernel
        exact of_decide_eq_true (List.all_eq_true.mp w (k - 1) (List.mem_range.mpr (by omega)))
      rw [e1, z_i64 b4 b3]
      exact ⟨fun w => ⟨w.1.symm, w.2⟩, fun w => ⟨w.1.symm, w.2⟩⟩
    · exact ⟨fun w => absurd w.2 q, fun w => absurd w.2 q⟩
  · rw [a3 j hj, x_AI_AI, if_neg (fun w => hj w.2)]
/-- a name's number, a number's value, as the reference has them -/
def z_aM (T : Nat → Nat) (i : Nat) : Nat → Nat → Int64 → Int64
  | 0, _, y => y
  | m + 1, e, y => z_aM T i m (e + 1) (if 6 ≤ e - i then y else (37 * y) + (if z_dg (T e) = true then (Int32.ofNat (T e) - 21).toInt64 else (Int32.ofNat (T e) - 96).toInt64))
def z_dM (T : Nat → Nat) (i : Nat) : Nat → Nat → Int64 → Int64
  | 0, _, y => y
  | m + 1, e, y => z_dM T i m (e + 1) (if 4 ≤ e - i then y else ((10 * y) + (Int32.ofNat (T e)).toInt64) - 48)
theorem m_namerun (hX : z_XM u len T) (hm : m_Fix u) (hT : ∀ j, j < len → T j < 256) {i c : Nat} (hi : z_sm (T i) = true) (hc : c < 402) (hc1 : g_I u 513 1 = Int32.ofNat c) : ∀ (d e n : Nat) (y : Int64), i ≤ e → e + d = len → d < n →
    f_M_scanName_4 n (some 1) (Int32.ofNat i) (Int32.ofNat e) y u = some (Int32.ofNat (z_run T (T i) d e), g_setAL (g_setAI u 1108 c (if z_run T (T i) d e - i ≤ 6 then 30 else 0)) 725 c (z_aM T i (z_run T (T i) d e - e) e y)) := by
  have h400 := hX.2.1
  have hbl : ∀ x, z_bl (T i) x = (z_sm x || z_dg x) := fun x => by
    unfold z_bl
    rw [if_pos hi]
  have fin : ∀ (E : Nat) (y : Int64), i ≤ E → E ≤ 400 → (g_gR u 641 (some 1) fun p9 => g_gI u 513 (some 1) fun i10 => if (Int32.ofNat E - Int32.ofNat i) ≤ 6 then g_sI u p9 i10 30 fun s11 => g_gR s11 769 (some 1) fun p12 => g_gI s11 513 (some 1) fun i13 => g_sL s11 p12 i13 y fun s14 => some (Int32.ofNat E, s14) else g_sI u p9 i10 0 fun s15 => g_gR s15 769 (some 1) fun p16 => g_gI s15 513 (some 1) fun i17 => g_sL s15 p16 i17 y fun s18 => some (Int32.ofNat E, s18)) = some (Int32.ofNat E, g_setAL (g_setAI u 1108 c (if E - i ≤ 6 then 30 else 0)) 725 c y) := by
    intro E y h1 h2
    have e6 : (Int32.ofNat (E - i) ≤ 6) = (E - i ≤ 6) := x_le (b := 6) (by omega) (by decide)
    rw [x_gR, (hm _ m_k641).1, x_gI, hc1, x_sub h1]
    have st : ∀ v : Int32, (g_sI u (some 1108) (Int32.ofNat c) v fun s11 => g_gR s11 769 (some 1) fun p12 => g_gI s11 513 (some 1) fun i13 => g_sL s11 p12 i13 y fun s14 => some (Int32.ofNat E, s14)) = some (Int32.ofNat E, g_setAL (g_setAI u 1108 c v) 725 c y) := by
      intro v
      rw [x_sI (by omega) (by rw [show g_ln u 1108 = 402 from (hm _ m_k641).2]; exact hc), x_gR, show g_R (g_setAI u 1108 c v) 769 1 = some 725 from (hm _ m_k769).1, x_gI, show g_I (g_setAI u 1108 c v) 513 1 = Int32.ofNat c from hc1, x_sL (by omega) (by show c < g_ln u 725; rw [show g_ln u 725 = 402 from (hm _ m_k769).2]; exact hc)]
    by_cases q : E - i ≤ 6
    · rw [if_pos (by rw [e6]; exact q), if_pos q]
      exact st 30
    · rw [if_neg (by rw [e6]; exact q), if_neg q]
      exact st 0
  intro d
  induction d with
  | zero =>
    intro e n y hie he hn
    obtain ⟨n, rfl⟩ : ∃ m, n = m + 1 := ⟨n - 1, by omega⟩
    have elt : z_lt len T e = 0 := if_neg (by omega)
    rw [f_M_scanName_4, x_nn, m_letter hX hm (by omega), x_c, m_small (z_lt_256 hT e), x_c, elt, if_pos (by decide), x_nn, m_letter hX hm (by omega), x_c, m_digit (z_lt_256 hT e), x_c, elt, if_pos (by decide), z_run, Nat.sub_self, z_aM]
    exact fin e y hie (by omega)
  | succ d ih =>
    intro e n y hie he hn
    obtain ⟨n, rfl⟩ : ∃ m, n = m + 1 := ⟨n - 1, by omega⟩
    have elt : z_lt len T e = T e := if_pos (by omega)
    have hte := hT e (by omega)
    have go : z_bl (T i) (T e) = true → f_M_scanName_26 (f_M_scanName_4 n) (some 1) (Int32.ofNat i) (Int32.ofNat e) y u = some (Int32.ofNat (z_run T (T i) (d + 1) e), g_setAL (g_setAI u 1108 c (if z_run T (T i) (d + 1) e - i ≤ 6 then 30 else 0)) 725 c (z_aM T i (z_run T (T i) (d + 1) e - e) e y)) := by
      intro hb
      have hr := (z_run_le T (T i) d (e + 1)).1
      have e6 : (6 ≤ Int32.ofNat (e - i)) = (6 ≤ e - i) := x_le (a := 6) (by decide) (by omega)
      rw [z_run, if_pos hb, show z_run T (T i) d (e + 1) - e = (z_run T (T i) d (e + 1) - (e + 1)) + 1 by omega, z_aM]
      unfold f_M_scanName_26
      rw [x_sub hie, x_p1]
      by_cases q : 6 ≤ e - i
      · rw [if_pos (by rw [e6]; exact q), if_pos q]
        exact ih (e + 1) n y (by omega) (by omega) (by omega)
      · rw [if_neg (by rw [e6]; exact q), if_neg q, x_nn, m_letter hX hm (by omega), x_c, m_digit (z_lt_256 hT e), x_c, elt]
        cases hd : z_dg (T e) with
        | true =>
          rw [if_neg (by decide), if_pos rfl, x_nn, m_letter hX hm (by omega), x_c, elt]
          exact ih (e + 1) n _ (by omega) (by omega) (by omega)
        | false =>
          rw [if_pos (by decide), x_nn, m_letter hX hm (by omega), x_c, elt, if_neg (show ¬ false = true from (by decide))]
          exact ih (e + 1) n _ (by omega) (by omega) (by omega)
    rw [f_M_scanName_4, x_nn, m_letter hX hm (by omega), x_c, m_small (z_lt_256 hT e), x_c, elt]
    cases hs : z_sm (T e) with
    | true =>
      rw [if_neg (by decide)]
      exact go (by rw [hbl, hs]; rfl)
    | false =>
      rw [if_pos (by decide), x_nn, m_letter hX hm (by omega), x_c, m_digit (z_lt_256 hT e), x_c, elt]
      cases hd : z_dg (T e) with
      | true =>
        rw [if_neg (by decide)]
        exact go (by rw [hbl, hs, hd]; rfl)
      | false =>
        rw [if_pos (by decide), z_run, if_neg (by rw [hbl, hs, hd]; decide), Nat.sub_self, z_aM]
        exact fin e y hie (by omega)
theorem m_numrun (hX : z_XM u len T) (hm : m_Fix u) (hT : ∀ j, j < len → T j < 256) {i c : Nat} (hi : z_dg (T i) = true) (hc : c < 402) (hc1 : g_I u 513 1 = Int32.ofNat c) : ∀ (d e n : Nat) (y : Int64), i ≤ e → e + d = len → d < n →
    f_M_scanNumber_4 n (some 1) (Int32.ofNat i) (Int32.ofNat e) y u = some (Int32.ofNat (z_run T (T i) d e), g_setAL (g_setAI u 1108 c (if z_run T (T i) d e - i ≤ 4 then 31 else 0)) 725 c (z_dM T i (z_run T (T i) d e - e) e y)) := by
  have h400 := hX.2.1
  have hdb : 48 ≤ T i ∧ T i ≤ 57 := of_decide_eq_true hi
  have hbl : ∀ x, z_bl (T i) x = z_dg x := fun x => by
    unfold z_bl
    rw [if_neg (by unfold z_sm; rw [decide_eq_true_eq]; omega), if_pos hi]
  have fin : ∀ (E : Nat) (y : Int64), i ≤ E → E ≤ 400 → (g_gR u 641 (some 1) fun p9 => g_gI u 513 (some 1) fun i10 => if (Int32.ofNat E - Int32.ofNat i) ≤ 4 then g_sI u p9 i10 31 fun s11 => g_gR s11 769 (some 1) fun p12 => g_gI s11 513 (some 1) fun i13 => g_sL s11 p12 i13 y fun s14 => some (Int32.ofNat E, s14) else g_sI u p9 i10 0 fun s15 => g_gR s15 769 (some 1) fun p16 => g_gI s15 513 (some 1) fun i17 => g_sL s15 p16 i17 y fun s18 => some (Int32.ofNat E, s18)) = some (Int32.ofNat E, g_setAL (g_setAI u 1108 c (if E - i ≤ 4 then 31 else 0)) 725 c y) := by
    intro E y h1 h2
    have e4 : (Int32.ofNat (E - i) ≤ 4) = (E - i ≤ 4) := x_le (b := 4) (by omega) (by decide)
    rw [x_gR, (hm _ m_k641).1, x_gI, hc1, x_sub h1]
    have st : ∀ v : Int32, (g_sI u (some 1108) (Int32.ofNat c) v fun s11 => g_gR s11 769 (some 1) fun p12 => g_gI s11 513 (some 1) fun i13 => g_sL s11 p12 i13 y fun s14 => some (Int32.ofNat E, s14)) = some (Int32.ofNat E, g_setAL (g_setAI u 1108 c v) 725 c y) := by
      intro v
      rw [x_sI (by omega) (by rw [show g_ln u 1108 = 402 from (hm _ m_k641).2]; exact hc), x_gR, show g_R (g_setAI u 1108 c v) 769 1 = some 725 from (hm _ m_k769).1, x_gI, show g_I (g_setAI u 1108 c v) 513 1 = Int32.ofNat c from hc1, x_sL (by omega) (by show c < g_ln u 725; rw [show g_ln u 725 = 402 from (hm _ m_k769).2]; exact hc)]
    by_cases q : E - i ≤ 4
    · rw [if_pos (by rw [e4]; exact q), if_pos q]
      exact st 31
    · rw [if_neg (by rw [e4]; exact q), if_neg q]
      exact st 0
  intro d
  induction d with
  | zero =>
    intro e n y hie he hn
    obtain ⟨n, rfl⟩ : ∃ m, n = m + 1 := ⟨n - 1, by omega⟩
    have elt : z_lt len T e = 0 := if_neg (by omega)
    rw [f_M_scanNumber_4, x_nn, m_letter hX hm (by omega), x_c, m_digit (z_lt_256 hT e), x_c, elt, if_pos (by decide), z_run, Nat.sub_self, z_dM]
    exact fin e y hie (by omega)
  | succ d ih =>
    intro e n y hie he hn
    obtain ⟨n, rfl⟩ : ∃ m, n = m + 1 := ⟨n - 1, by omega⟩
    have elt : z_lt len T e = T e := if_pos (by omega)
    have hte := hT e (by omega)
    have e4 : (4 ≤ Int32.ofNat (e - i)) = (4 ≤ e - i) := x_le (a := 4) (by decide) (by omega)
    rw [f_M_scanNumber_4, x_nn, m_letter hX hm (by omega), x_c, m_digit (z_lt_256 hT e), x_c, elt, z_run, hbl]
    cases hd : z_dg (T e) with
    | false =>
      rw [if_pos (by decide), if_neg (by decide), Nat.sub_self, z_dM]
      exact fin e y hie (by omega)
    | true =>
      have hr := (z_run_le T (T i) d (e + 1)).1
      rw [if_neg (by decide), if_pos rfl, show z_run T (T i) d (e + 1) - e = (z_run T (T i) d (e + 1) - (e + 1)) + 1 by omega, z_dM, x_sub hie, x_p1]
      by_cases q : 4 ≤ e - i
      · rw [if_pos (by rw [e4]; exact q), if_pos q]
        exact ih (e + 1) n y (by omega) (by omega) (by omega)
      · rw [if_neg (by rw [e4]; exact q), if_neg q, x_nn, m_letter hX hm (by omega), x_c, elt]
        exact ih (e + 1) n _ (by omega) (by omega) (by omega)
end
/-! signs, and the whole scan -/
def z_vM (T : Nat → Nat) (i e : Nat) : Int64 := if z_cp (T i) = true then 0 else if z_sm (T i) = true then z_aM T i (e - i) i 0 else if z_dg (T i) = true then z_dM T i (e - i) i 0 else 0
def z_sg (c : Nat) : Int32 := if c = 44 ∨ c = 40 ∨ c = 41 ∨ c = 46 ∨ c = 43 ∨ c = 45 ∨ c = 61 ∨ c = 60 ∨ c = 62 ∨ c = 42 then 100 + Int32.ofNat c else 0
theorem z_sg_km : ∀ c, c < 256 → z_cp c = false → z_sm c = false → z_dg c = false → z_sg c = z_km (z_fk [c] 36 0) := by
  have w : ((List.range 256).all fun c => decide (z_cp c = false → z_sm c = false → z_dg c = false → z_sg c = z_km (z_fk [c] 36 0))) = true := by decide +kernel
  intro c hc
  exact of_decide_eq_true (List.all_eq_true.mp w c (List.mem_range.mpr hc))
section
variable {u : g_St} {len : Nat} {T : Nat → Nat}
theorem m_sign (hX : z_XM u len T) (hm : m_Fix u) (hT : ∀ j, j < len → T j < 256) {i c : Nat} (hi : i < len) (h1 : z_cp (T i) = false) (h2 : z_sm (T i) = false) (h3 : z_dg (T i) = false) (hc : c < 402) (hc1 : g_I u 513 1 = Int32.ofNat c) :
    f_M_scanSign (some 1) (Int32.ofNat i) u = some (Int32.ofNat (z_tend len T i), g_setAI u 1108 c (z_km (z_kind T i (z_tend len T i)))) := by
  have h400 := hX.2.1
  have hti := hT i hi
  have bl : ∀ x, z_bl (T i) x = false := fun x => by
    unfold z_bl
    rw [if_neg (by rw [h2]; decide), if_neg (by rw [h3]; decide), h1]
    rfl
  have run : z_run T (T i) (len - (i + 1)) (i + 1) = i + 1 := by
    cases len - (i + 1) with
    | zero => rfl
    | succ d => rw [z_run, if_neg (by rw [bl]; decide)]
  have kd : ∀ e, z_kind T i e = z_fk (z_w T i e) 36 0 := fun e => by
    unfold z_kind
    rw [if_neg (by rw [h2]; decide), if_neg (by rw [h3]; decide)]
  have l641 : g_ln u 1108 = 402 := (hm _ m_k641).2
  have one : f_M_scanSign_40 (some 1) (Int32.ofNat i) (Int32.ofNat (T i)) u = some (Int32.ofNat (i + 1), g_setAI u 1108 c (z_km (z_fk [T i] 36 0))) := by
    rw [← z_sg_km (T i) hti h1 h2 h3]
    have st1 : f_M_scanSign_105 (some 1) (Int32.ofNat i) (Int32.ofNat (T i)) 1 u = some (Int32.ofNat (i + 1), g_setAI u 1108 c (100 + Int32.ofNat (T i))) := by
      unfold f_M_scanSign_105
      rw [x_gR, (hm _ m_k641).1, x_gI, hc1, if_neg (by decide), x_sI (by omega) (by rw [l641]; exact hc), x_p1]
    have st0 : f_M_scanSign_105 (some 1) (Int32.ofNat i) (Int32.ofNat (T i)) 0 u = some (Int32.ofNat (i + 1), g_setAI u 1108 c 0) := by
      unfold f_M_scanSign_105
      rw [x_gR, (hm _ m_k641).1, x_gI, hc1, if_pos rfl, x_sI (by omega) (by rw [l641]; exact hc), x_p1]
    have q : ∀ b : Nat, b < 256 → (Int32.ofNat (T i) = Int32.ofNat b) = (T i = b) := fun b hb => x_eq (by omega) (by omega)
    unfold f_M_scanSign_40
    have s1 : T i = 44 ∨ T i = 40 ∨ T i = 41 ∨ T i = 46 ∨ T i = 43 ∨ T i = 45 ∨ T i = 61 ∨ T i = 60 ∨ T i = 62 ∨ T i = 42 → z_sg (T i) = 100 + Int32.ofNat (T i) := fun w => if_pos w
    by_cases w1 : T i = 44
    · rw [if_pos (by rw [show (44 : Int32) = Int32.ofNat 44 from rfl, q 44 (by decide)]; exact w1), s1 (by omega)]; exact st1
    rw [if_neg (by rw [show (44 : Int32) = Int32.ofNat 44 from rfl, q 44 (by decide)]; exact w1)]
    by_cases w2 : T i = 40
    · rw [if_pos (by rw [show (40 : Int32) = Int32.ofNat 40 from rfl, q 40 (by decide)]; exact w2), s1 (by omega)]; exact st1
    rw [if_neg (by rw [show (40 : Int32) = Int32.ofNat 40 from rfl, q 40 (by decide)]; exact w2)]
    by_cases w3 : T i = 41
    · rw [if_pos (by rw [show (41 : Int32) = Int32.ofNat 41 from rfl, q 41 (by decide)]; exact w3), s1 (by omega)]; exact st1
    rw [if_neg (by rw [show (41 : Int32) = Int32.ofNat 41 from rfl, q 41 (by decide)]; exact w3)]
    by_cases w4 : T i = 46
    · rw [if_pos (by rw [show (46 : Int32) = Int32.ofNat 46 from rfl, q 46 (by decide)]; exact w4), s1 (by omega)]; exact st1
    rw [if_neg (by rw [show (46 : Int32) = Int32.ofNat 46 from rfl, q 46 (by decide)]; exact w4)]
    by_cases w5 : T i = 43
    · rw [if_pos (by rw [show (43 : Int32) = Int32.ofNat 43 from rfl, q 43 (by decide)]; exact w5), s1 (by omega)]; exact st1
    rw [if_neg (by rw [show (43 : Int32) = Int32.ofNat 43 from rfl, q 43 (by decide)]; exact w5)]
    by_cases w6 : T i = 45
    · rw [if_pos (by rw [show (45 : Int32) = Int32.ofNat 45 from rfl, q 45 (by decide)]; exact w6), s1 (by omega)]; exact st1
    rw [if_neg (by rw [show (45 : Int32) = Int32.ofNat 45 from rfl, q 45 (by decide)]; exact w6)]
    by_cases w7 : T i = 61
    · rw [if_pos (by rw [show (61 : Int32) = Int32.ofNat 61 from rfl, q 61 (by decide)]; exact w7), s1 (by omega)]; exact st1
    rw [if_neg (by rw [show (61 : Int32) = Int32.ofNat 61 from rfl, q 61 (by decide)]; exact w7)]
    by_cases w8 : T i = 60
    · rw [if_pos (by rw [show (60 : Int32) = Int32.ofNat 60 from rfl, q 60 (by decide)]; exact w8), s1 (by omega)]; exact st1
    rw [if_neg (by rw [show (60 : Int32) = Int32.ofNat 60 from rfl, q 60 (by decide)]; exact w8)]
    by_cases w9 : T i = 62
    · rw [if_pos (by rw [show (62 : Int32) = Int32.ofNat 62 from rfl, q 62 (by decide)]; exact w9), s1 (by omega)]; exact st1
    rw [if_neg (by rw [show (62 : Int32) = Int32.ofNat 62 from rfl, q 62 (by decide)]; exact w9)]
    by_cases w0 : T i = 42
    · rw [if_pos (by rw [show (42 : Int32) = Int32.ofNat 42 from rfl, q 42 (by decide)]; exact w0), s1 (by omega)]; exact st1
    rw [if_neg (by rw [show (42 : Int32) = Int32.ofNat 42 from rfl, q 42 (by decide)]; exact w0), show z_sg (T i) = 0 from if_neg (by omega)]
    exact st0
  have w1 : z_w T i (i + 1) = [T i] := by unfold z_w; rw [show i + 1 - i = 1 by omega]; rfl
  unfold f_M_scanSign
  have h60 : (Int32.ofNat (T i) = 60) = (T i = 60) := x_eq (b := 60) (by omega) (by decide)
  rw [x_gR, (hm _ m_k385).1, x_aI (by omega) (by rw [(hm _ m_k385).2]; show i < 400; omega), hX.2.2 i hi]
  by_cases q : T i = 60
  · have h62 : (Int32.ofNat (z_lt len T (i + 1)) = 62) = (z_lt len T (i + 1) = 62) := x_eq (b := 62) (by have := z_lt_256 hT (i + 1); omega) (by decide)
    rw [if_pos (by rw [h60]; exact q), x_p1, x_nn, m_letter hX hm (by omega), x_c]
    by_cases q2 : i + 1 < len ∧ T (i + 1) = 62
    · have elt : z_lt len T (i + 1) = 62 := by unfold z_lt; rw [if_pos q2.1]; exact q2.2
      have te : z_tend len T i = i + 2 := by unfold z_tend; rw [if_pos ⟨q, q2⟩]
      have w2 : z_w T i (i + 2) = [60, 62] := by
        unfold z_w
        rw [show i + 2 - i = 2 by omega]
        show [T (i + 0), T (i + 1)] = _
        rw [Nat.add_zero, q, q2.2]
      rw [if_pos (by rw [h62]; exact elt), x_gR, (hm _ m_k641).1, x_gI, hc1, x_sI (by omega) (by rw [l641]; exact hc), te, kd, w2, show z_km (z_fk [60, 62] 36 0) = 32 from (by decide +kernel)]
      exact congrArg (fun z => some (z, g_setAI u 1108 c 32)) (Int32.ofNat_add i 2).symm
    · have te : z_tend len T i = i + 1 := by unfold z_tend; rw [if_neg (fun w => q2 w.2), run]
      rw [if_neg (by
        rw [h62]
        unfold z_lt
        intro w
        by_cases z : i + 1 < len
        · rw [if_pos z] at w; exact q2 ⟨z, w⟩
        · rw [if_neg z] at w; omega), te, kd, w1]
      exact one
  · have te : z_tend len T i = i + 1 := by unfold z_tend; rw [if_neg (fun w => q w.1), run]
    rw [if_neg (by rw [h60]; exact q), te, kd, w1]
    exact one
end
