/-! TOKENS: the reference's four ways -/
section
variable {u : g_St} {len : Nat} {T : Nat → Nat}
theorem z_run_first {f i : Nat} (h : z_bl f (T i) = true) (hi : i < len) : z_run T f (len - i) i = z_run T f (len - (i + 1)) (i + 1) := by
  rw [show len - i = (len - (i + 1)) + 1 by omega, z_run, if_pos h]
theorem m_keyword (hX : z_XM u len T) (hm : m_Fix u) (hT : ∀ j, j < len → T j < 256) (hkw : z_kwOk u) {i c : Nat} (hi : i < len) (hcp : z_cp (T i) = true) (hc : c < 402) (hc1 : g_I u 513 1 = Int32.ofNat c) :
    ∃ u', f_M_scanKeyword (some 1) (Int32.ofNat i) u = some (Int32.ofNat (z_tend len T i), u') ∧ g_AI u' 1108 c = z_km (z_kind T i (z_tend len T i)) ∧ ∀ j, j ≠ c → g_AI u' 1108 j = g_AI u 1108 j := by
  have h400 := hX.2.1
  have hcb : 65 ≤ T i ∧ T i ≤ 90 := of_decide_eq_true hcp
  have hsm : z_sm (T i) = false := by unfold z_sm; rw [decide_eq_false_iff_not]; omega
  have hdg : z_dg (T i) = false := by unfold z_dg; rw [decide_eq_false_iff_not]; omega
  have hbl : ∀ x, z_bl (T i) x = z_cp x := fun x => by
    unfold z_bl
    rw [if_neg (by rw [hsm]; decide), if_neg (by rw [hdg]; decide), hcp]
    rfl
  have hE : z_tend len T i = z_run T (T i) (len - i) i := by
    unfold z_tend
    rw [if_neg (fun w => by omega), z_run_first (by rw [hbl]; exact hcp) hi]
  have hte := z_tend_le (T := T) hi
  have hin : ∀ j, i ≤ j → j < z_tend len T i → 65 ≤ T j ∧ T j ≤ 90 := fun j h1 h2 => by
    rw [hE] at h2
    have := z_run_in T (T i) (len - i) i j h1 h2
    rw [hbl] at this
    exact of_decide_eq_true this
  unfold f_M_scanKeyword
  rw [m_kwrun hX hm hT hcp (len - i) i 200000 0 (Nat.le_refl _) (by omega) (by omega), ← hE, x_gR, (hm _ m_k641).1, x_gI, hc1, x_sI (by omega) (by rw [(hm _ m_k641).2]; exact hc)]
  obtain ⟨u', a1, a2, a3⟩ := m_kwloop (i := i) (E := z_tend len T i) (by omega) (by omega) (y := z_kh T i (z_tend len T i - i) i 0) hc 25 1 200000 (g_setAI u 1108 c 0) 0 (by decide) (by decide) (by decide) hkw hm hc1 (by rw [x_AI_AI, if_pos ⟨rfl, rfl⟩])
  refine ⟨u', a1, ?_, fun j hj => ?_⟩
  · rw [a2]
    have hw : ∀ x ∈ z_w T i (z_tend len T i), 65 ≤ x ∧ x ≤ 90 := fun x hx => by
      obtain ⟨j, hj, rfl⟩ := List.mem_map.mp hx
      have := List.mem_range.mp hj
      exact hin (i + j) (by omega) (by omega)
    have hk : z_kind T i (z_tend len T i) = z_fk (z_w T i (z_tend len T i)) 36 0 := by
      unfold z_kind
      rw [if_neg (by rw [hsm]; decide), if_neg (by rw [hdg]; decide)]
    rw [hk]
    refine z_key hw (fun e => by have := z_w_len T i (z_tend len T i); rw [e] at this; have h0 : ([] : List Nat).length = 0 := rfl; omega) (fun k h1 h2 => ?_)
    rw [z_w_len]
    by_cases q : z_tend len T i - i < 10
    · have e1 : z_kh T i (z_tend len T i - i) i 0 = Int64.ofNat (z_zh (z_w T i (z_tend len T i)) 0) := z_kh_zh T i (z_tend len T i - i) i 0 (fun j h1 h2 => hin j h1 (by omega)) (Nat.le_refl _) (by omega)
      have b1 : z_zh (z_w T i (z_tend len T i)) 0 < 27 ^ (0 + (z_w T i (z_tend len T i)).length) := z_zh_lt _ 0 0 hw (by decide)
      rw [z_w_len, Nat.zero_add] at b1
      have b2 : 27 ^ (z_tend len T i - i) ≤ 27 ^ 9 := Nat.pow_le_pow_right (by decide) (by omega)
      have b3 : z_zh (z_w T i (z_tend len T i)) 0 < 2 ^ 63 := Nat.lt_of_lt_of_le b1 (Nat.le_trans b2 (by decide))
      have b4 : z_kvs.getD (k - 1) 0 < 2 ^ 63 := by
        have w : ((List.range 25).all fun k => decide (z_kvs.getD k 0 < 2 ^ 63)) = true := by decide +kernel
        exact of_decide_eq_true (List.all_eq_true.mp w (k - 1) (List.mem_range.mpr (by omega)))
      rw [e1, z_i64 b4 b3]
      exact ⟨fun w => ⟨w.1.symm, w.2⟩, fun w => ⟨w.1.symm, w.2⟩⟩
    · exact ⟨fun w => absurd w.2 q, fun w => absurd w.2 q⟩
  · rw [a3 j hj, x_AI_AI, if_neg (fun w => hj w.2)]
/-- a name's number, a number's value, as the reference has them -/
def z_aM (T : Nat → Nat) (i : Nat) : Nat → Nat → Int64 → Int64
  | 0, _, y => y
  | m + 1, e, y => z_aM T i m (e + 1) (if 6 ≤ e - i then y else (37 * y) + (if z_dg (T e) = true then (Int32.ofNat (T e) - 21).toInt64 else (Int32.ofNat (T e) - 96).toInt64))
def z_dM (T : Nat → Nat) (i : Nat) : Nat → Nat → Int64 → Int64
  | 0, _, y => y
  | m + 1, e, y => z_dM T i m (e + 1) (if 4 ≤ e - i then y else ((10 * y) + (Int32.ofNat (T e)).toInt64) - 48)
theorem m_namerun (hX : z_XM u len T) (hm : m_Fix u) (hT : ∀ j, j < len → T j < 256) {i c : Nat} (hi : z_sm (T i) = true) (hc : c < 402) (hc1 : g_I u 513 1 = Int32.ofNat c) : ∀ (d e n : Nat) (y : Int64), i ≤ e → e + d = len → d < n →
    f_M_scanName_4 n (some 1) (Int32.ofNat i) (Int32.ofNat e) y u = some (Int32.ofNat (z_run T (T i) d e), g_setAL (g_setAI u 1108 c (if z_run T (T i) d e - i ≤ 6 then 30 else 0)) 725 c (z_aM T i (z_run T (T i) d e - e) e y)) := by
  have h400 := hX.2.1
  have hbl : ∀ x, z_bl (T i) x = (z_sm x || z_dg x) := fun x => by
    unfold z_bl
    rw [if_pos hi]
  have fin : ∀ (E : Nat) (y : Int64), i ≤ E → E ≤ 400 → (g_gR u 641 (some 1) fun p9 => g_gI u 513 (some 1) fun i10 => if (Int32.ofNat E - Int32.ofNat i) ≤ 6 then g_sI u p9 i10 30 fun s11 => g_gR s11 769 (some 1) fun p12 => g_gI s11 513 (some 1) fun i13 => g_sL s11 p12 i13 y fun s14 => some (Int32.ofNat E, s14) else g_sI u p9 i10 0 fun s15 => g_gR s15 769 (some 1) fun p16 => g_gI s15 513 (some 1) fun i17 => g_sL s15 p16 i17 y fun s18 => some (Int32.ofNat E, s18)) = some (Int32.ofNat E, g_setAL (g_setAI u 1108 c (if E - i ≤ 6 then 30 else 0)) 725 c y) := by
    intro E y h1 h2
    have e6 : (Int32.ofNat (E - i) ≤ 6) = (E - i ≤ 6) := x_le (b := 6) (by omega) (by decide)
    rw [x_gR, (hm _ m_k641).1, x_gI, hc1, x_sub h1]
    have st : ∀ v : Int32, (g_sI u (some 1108) (Int32.ofNat c) v fun s11 => g_gR s11 769 (some 1) fun p12 => g_gI s11 513 (some 1) fun i13 => g_sL s11 p12 i13 y fun s14 => some (Int32.ofNat E, s14)) = some (Int32.ofNat E, g_setAL (g_setAI u 1108 c v) 725 c y) := by
      intro v
      rw [x_sI (by omega) (by rw [show g_ln u 1108 = 402 from (hm _ m_k641).2]; exact hc), x_gR, show g_R (g_setAI u 1108 c v) 769 1 = some 725 from (hm _ m_k769).1, x_gI, show g_I (g_setAI u 1108 c v) 513 1 = Int32.ofNat c from hc1, x_sL (by omega) (by show c < g_ln u 725; rw [show g_ln u 725 = 402 from (hm _ m_k769).2]; exact hc)]
    by_cases q : E - i ≤ 6
    · rw [if_pos (by rw [e6]; exact q), if_pos q]
      exact st 30
    · rw [if_neg (by rw [e6]; exact q), if_neg q]
      exact st 0
  intro d
  induction d with
  | zero =>
    intro e n y hie he hn
    obtain ⟨n, rfl⟩ : ∃ m, n = m + 1 := ⟨n - 1, by omega⟩
    have elt : z_lt len T e = 0 := if_neg (by omega)
    rw [f_M_scanName_4, x_nn, m_letter hX hm (by omega), x_c, m_small (z_lt_256 hT e), x_c, elt, if_pos (by decide), x_nn, m_letter hX hm (by omega), x_c, m_digit (z_lt_256 hT e), x_c, elt, if_pos (by decide), z_run, Nat.sub_self, z_aM]
    exact fin e y hie (by omega)
  | succ d ih =>
    intro e n y hie he hn
    obtain ⟨n, rfl⟩ : ∃ m, n = m + 1 := ⟨n - 1, by omega⟩
    have elt : z_lt len T e = T e := if_pos (by omega)
    have hte := hT e (by omega)
    have go : z_bl (T i) (T e) = true → f_M_scanName_26 (f_M_scanName_4 n) (some 1) (Int32.ofNat i) (Int32.ofNat e) y u = some (Int32.ofNat (z_run T (T i) (d + 1) e), g_setAL (g_setAI u 1108 c (if z_run T (T i) (d + 1) e - i ≤ 6 then 30 else 0)) 725 c (z_aM T i (z_run T (T i) (d + 1) e - e) e y)) := by
      intro hb
      have hr := (z_run_le T (T i) d (e + 1)).1
      have e6 : (6 ≤ Int32.ofNat (e - i)) = (6 ≤ e - i) := x_le (a := 6) (by decide) (by omega)
      rw [z_run, if_pos hb, show z_run T (T i) d (e + 1) - e = (z_run T (T i) d (e + 1) - (e + 1)) + 1 by omega, z_aM]
      unfold f_M_scanName_26
      rw [x_sub hie, x_p1]
      by_cases q : 6 ≤ e - i
      · rw [if_pos (by rw [e6]; exact q), if_pos q]
        exact ih (e + 1) n y (by omega) (by omega) (by omega)
      · rw [if_neg (by rw [e6]; exact q), if_neg q, x_nn, m_letter hX hm (by omega), x_c, m_digit (z_lt_256 hT e), x_c, elt]
        cases hd : z_dg (T e) with
        | true =>
          rw [if_neg (by decide), if_pos rfl, x_nn, m_letter hX hm (by omega), x_c, elt]
          exact ih (e + 1) n _ (by omega) (by omega) (by omega)
        | false =>
          rw [if_pos (by decide), if_neg (by decide), x_nn, m_letter hX hm (by omega), x_c, elt]
          exact ih (e + 1) n _ (by omega) (by omega) (by omega)
    rw [f_M_scanName_4, x_nn, m_letter hX hm (by omega), x_c, m_small (z_lt_256 hT e), x_c, elt]
    cases hs : z_sm (T e) with
    | true =>
      rw [if_neg (by decide)]
      exact go (by rw [hbl, hs]; rfl)
    | false =>
      rw [if_pos (by decide), x_nn, m_letter hX hm (by omega), x_c, m_digit (z_lt_256 hT e), x_c, elt]
      cases hd : z_dg (T e) with
      | true =>
        rw [if_neg (by decide)]
        exact go (by rw [hbl, hs, hd]; rfl)
      | false =>
        rw [if_pos (by decide), z_run, if_neg (by rw [hbl, hs, hd]; decide), Nat.sub_self, z_aM]
        exact fin e y hie (by omega)
theorem m_numrun (hX : z_XM u len T) (hm : m_Fix u) (hT : ∀ j, j < len → T j < 256) {i c : Nat} (hi : z_dg (T i) = true) (hc : c < 402) (hc1 : g_I u 513 1 = Int32.ofNat c) : ∀ (d e n : Nat) (y : Int64), i ≤ e → e + d = len → d < n →
    f_M_scanNumber_4 n (some 1) (Int32.ofNat i) (Int32.ofNat e) y u = some (Int32.ofNat (z_run T (T i) d e), g_setAL (g_setAI u 1108 c (if z_run T (T i) d e - i ≤ 4 then 31 else 0)) 725 c (z_dM T i (z_run T (T i) d e - e) e y)) := by
  have h400 := hX.2.1
  have hdb : 48 ≤ T i ∧ T i ≤ 57 := of_decide_eq_true hi
  have hbl : ∀ x, z_bl (T i) x = z_dg x := fun x => by
    unfold z_bl
    rw [if_neg (by unfold z_sm; rw [decide_eq_true_eq]; omega), if_pos hi]
  have fin : ∀ (E : Nat) (y : Int64), i ≤ E → E ≤ 400 → (g_gR u 641 (some 1) fun p9 => g_gI u 513 (some 1) fun i10 => if (Int32.ofNat E - Int32.ofNat i) ≤ 4 then g_sI u p9 i10 31 fun s11 => g_gR s11 769 (some 1) fun p12 => g_gI s11 513 (some 1) fun i13 => g_sL s11 p12 i13 y fun s14 => some (Int32.ofNat E, s14) else g_sI u p9 i10 0 fun s15 => g_gR s15 769 (some 1) fun p16 => g_gI s15 513 (some 1) fun i17 => g_sL s15 p16 i17 y fun s18 => some (Int32.ofNat E, s18)) = some (Int32.ofNat E, g_setAL (g_setAI u 1108 c (if E - i ≤ 4 then 31 else 0)) 725 c y) := by
    intro E y h1 h2
    have e4 : (Int32.ofNat (E - i) ≤ 4) = (E - i ≤ 4) := x_le (b := 4) (by omega) (by decide)
    rw [x_gR, (hm _ m_k641).1, x_gI, hc1, x_sub h1]
    have st : ∀ v : Int32, (g_sI u (some 1108) (Int32.ofNat c) v fun s11 => g_gR s11 769 (some 1) fun p12 => g_gI s11 513 (some 1) fun i13 => g_sL s11 p12 i13 y fun s14 => some (Int32.ofNat E, s14)) = some (Int32.ofNat E, g_setAL (g_setAI u 1108 c v) 725 c y) := by
      intro v
      rw [x_sI (by omega) (by rw [show g_ln u 1108 = 402 from (hm _ m_k641).2]; exact hc), x_gR, show g_R (g_setAI u 1108 c v) 769 1 = some 725 from (hm _ m_k769).1, x_gI, show g_I (g_setAI u 1108 c v) 513 1 = Int32.ofNat c from hc1, x_sL (by omega) (by show c < g_ln u 725; rw [show g_ln u 725 = 402 from (hm _ m_k769).2]; exact hc)]
    by_cases q : E - i ≤ 4
    · rw [if_pos (by rw [e4]; exact q), if_pos q]
      exact st 31
    · rw [if_neg (by rw [e4]; exact q), if_neg q]
      exact st 0
  intro d
  induction d with
  | zero =>
    intro e n y hie he hn
    obtain ⟨n, rfl⟩ : ∃ m, n = m + 1 := ⟨n - 1, by omega⟩
    have elt : z_lt len T e = 0 := if_neg (by omega)
    rw [f_M_scanNumber_4, x_nn, m_letter hX hm (by omega), x_c, m_digit (z_lt_256 hT e), x_c, elt, if_pos (by decide), z_run, Nat.sub_self, z_dM]
    exact fin e y hie (by omega)
  | succ d ih =>
    intro e n y hie he hn
    obtain ⟨n, rfl⟩ : ∃ m, n = m + 1 := ⟨n - 1, by omega⟩
    have elt : z_lt len T e = T e := if_pos (by omega)
    have hte := hT e (by omega)
    have e4 : (4 ≤ Int32.ofNat (e - i)) = (4 ≤ e - i) := x_le (a := 4) (by decide) (by omega)
    rw [f_M_scanNumber_4, x_nn, m_letter hX hm (by omega), x_c, m_digit (z_lt_256 hT e), x_c, elt, z_run, hbl]
    cases hd : z_dg (T e) with
    | false =>
      rw [if_pos (by decide), if_neg (by decide), Nat.sub_self, z_dM]
      exact fin e y hie (by omega)
    | true =>
      have hr := (z_run_le T (T i) d (e + 1)).1
      rw [if_neg (by decide), if_pos rfl, show z_run T (T i) d (e + 1) - e = (z_run T (T i) d (e + 1) - (e + 1)) + 1 by omega, z_dM, x_sub hie, x_p1]
      by_cases q : 4 ≤ e - i
      · rw [if_pos (by rw [e4]; exact q), if_pos q]
        exact ih (e + 1) n y (by omega) (by omega) (by omega)
      · rw [if_neg (by rw [e4]; exact q), if_neg q, x_nn, m_letter hX hm (by omega), x_c, elt]
        exact ih (e + 1) n _ (by omega) (by omega) (by omega)
end
