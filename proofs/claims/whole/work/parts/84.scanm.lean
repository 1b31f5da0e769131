/-! TOKENS: the reference scans the text -/
theorem m_capital {c : Nat} (h : c < 256) (u : g_St) : f_M_isCapital (Int32.ofNat c) u = some (z_g (z_cp c), u) := by
  have e1 : (Int32.ofNat c ≤ 64) = (c ≤ 64) := x_le (b := 64) (by omega) (by decide)
  have e2 : (91 ≤ Int32.ofNat c) = (91 ≤ c) := x_le (a := 91) (by decide) (by omega)
  unfold f_M_isCapital z_cp
  by_cases h1 : c ≤ 64
  · rw [if_pos (by rw [e1]; exact h1), decide_eq_false (by omega)]; rfl
  · rw [if_neg (by rw [e1]; exact h1)]
    by_cases h2 : 91 ≤ c
    · rw [if_pos (by rw [e2]; exact h2), decide_eq_false (by omega)]; rfl
    · rw [if_neg (by rw [e2]; exact h2), decide_eq_true (by omega)]; rfl
theorem m_small {c : Nat} (h : c < 256) (u : g_St) : f_M_isSmall (Int32.ofNat c) u = some (z_g (z_sm c), u) := by
  have e1 : (Int32.ofNat c ≤ 96) = (c ≤ 96) := x_le (b := 96) (by omega) (by decide)
  have e2 : (123 ≤ Int32.ofNat c) = (123 ≤ c) := x_le (a := 123) (by decide) (by omega)
  unfold f_M_isSmall z_sm
  by_cases h1 : c ≤ 96
  · rw [if_pos (by rw [e1]; exact h1), decide_eq_false (by omega)]; rfl
  · rw [if_neg (by rw [e1]; exact h1)]
    by_cases h2 : 123 ≤ c
    · rw [if_pos (by rw [e2]; exact h2), decide_eq_false (by omega)]; rfl
    · rw [if_neg (by rw [e2]; exact h2), decide_eq_true (by omega)]; rfl
theorem m_digit {c : Nat} (h : c < 256) (u : g_St) : f_M_isDigit (Int32.ofNat c) u = some (z_g (z_dg c), u) := by
  have e1 : (Int32.ofNat c ≤ 47) = (c ≤ 47) := x_le (b := 47) (by omega) (by decide)
  have e2 : (58 ≤ Int32.ofNat c) = (58 ≤ c) := x_le (a := 58) (by decide) (by omega)
  unfold f_M_isDigit z_dg
  by_cases h1 : c ≤ 47
  · rw [if_pos (by rw [e1]; exact h1), decide_eq_false (by omega)]; rfl
  · rw [if_neg (by rw [e1]; exact h1)]
    by_cases h2 : 58 ≤ c
    · rw [if_pos (by rw [e2]; exact h2), decide_eq_false (by omega)]; rfl
    · rw [if_neg (by rw [e2]; exact h2), decide_eq_true (by omega)]; rfl
def z_lt (len : Nat) (T : Nat → Nat) (k : Nat) : Nat := if k < len then T k else 0
theorem z_lt_256 {len : Nat} {T : Nat → Nat} (hT : ∀ j, j < len → T j < 256) (k : Nat) : z_lt len T k < 256 := by
  unfold z_lt
  split
  · exact hT k (by assumption)
  · decide
section
variable {u : g_St} {len : Nat} {T : Nat → Nat}
theorem m_letter (hX : z_XM u len T) (hm : m_Fix u) {k : Nat} (hk : k < 1000) : f_M_letter (some 1) (Int32.ofNat k) u = some (Int32.ofNat (z_lt len T k), u) := by
  have h400 := hX.2.1
  unfold f_M_letter z_lt
  rw [x_gI, hX.1]
  by_cases h : k < len
  · rw [if_neg (by rw [x_le (by omega) (by omega)]; omega), if_pos h, x_gR, (hm _ m_k385).1, x_aI (by omega) (by rw [(hm _ m_k385).2]; show k < 400; omega), hX.2.2 k h]
  · rw [if_pos (by rw [x_le (by omega) (by omega)]; omega), if_neg h]; rfl
/-- a keyword's number as its letters come; only the first ten -/
def z_kh (T : Nat → Nat) (i : Nat) : Nat → Nat → Int64 → Int64
  | 0, _, y => y
  | m + 1, e, y => z_kh T i m (e + 1) (if 10 ≤ e - i then y else ((27 * y) + (Int32.ofNat (T e)).toInt64) - 64)
theorem m_kwrun (hX : z_XM u len T) (hm : m_Fix u) (hT : ∀ j, j < len → T j < 256) {i : Nat} (hi : z_cp (T i) = true) : ∀ (d e n : Nat) (y : Int64), i ≤ e → e + d = len → d < n →
    f_M_scanKeyword_4 n (some 1) (Int32.ofNat i) (Int32.ofNat e) y u = g_gR u 641 (some 1) fun p5 => g_gI u 513 (some 1) fun i6 => g_sI u p5 i6 0 fun s7 => f_M_scanKeyword_52 200000 (some 1) (Int32.ofNat i) (Int32.ofNat (z_run T (T i) d e)) (z_kh T i (z_run T (T i) d e - e) e y) 1 s7 := by
  have h400 := hX.2.1
  have hcp : 65 ≤ T i ∧ T i ≤ 90 := of_decide_eq_true hi
  have hbl : ∀ c, z_bl (T i) c = z_cp c := fun c => by
    unfold z_bl
    rw [if_neg (by unfold z_sm; rw [decide_eq_true_eq]; omega), if_neg (by unfold z_dg; rw [decide_eq_true_eq]; omega), hi]
    rfl
  intro d
  induction d with
  | zero =>
    intro e n y hie he hn
    obtain ⟨n, rfl⟩ : ∃ m, n = m + 1 := ⟨n - 1, by omega⟩
    rw [f_M_scanKeyword_4, x_nn, m_letter hX hm (by omega), x_c, m_capital (z_lt_256 hT e), x_c, show z_lt len T e = 0 from if_neg (by omega), if_pos (by decide), z_run, Nat.sub_self, z_kh]
  | succ d ih =>
    intro e n y hie he hn
    obtain ⟨n, rfl⟩ : ∃ m, n = m + 1 := ⟨n - 1, by omega⟩
    have elt : z_lt len T e = T e := if_pos (by omega)
    have hte := hT e (by omega)
    rw [f_M_scanKeyword_4, x_nn, m_letter hX hm (by omega), x_c, m_capital (z_lt_256 hT e), x_c, elt, z_run, hbl]
    cases hc : z_cp (T e) with
    | false =>
      rw [if_pos (by decide), if_neg (by decide), Nat.sub_self, z_kh]
    | true =>
      have hr := (z_run_le T (T i) d (e + 1)).1
      have e10 : (10 ≤ Int32.ofNat (e - i)) = (10 ≤ e - i) := x_le (a := 10) (by decide) (by omega)
      have hcp2 : 65 ≤ T e ∧ T e ≤ 90 := of_decide_eq_true hc
      rw [if_neg (by decide), if_pos rfl, show z_run T (T i) d (e + 1) - e = (z_run T (T i) d (e + 1) - (e + 1)) + 1 by omega, z_kh, x_sub hie, x_p1]
      by_cases q : 10 ≤ e - i
      · rw [if_pos (by rw [e10]; exact q), if_pos q]
        exact ih (e + 1) n y (by omega) (by omega) (by omega)
      · rw [if_neg (by rw [e10]; exact q), if_neg q, x_nn, m_letter hX hm (by omega), x_c, elt]
        unfold f_M_longer
        rw [if_neg (by rw [l_0, x_eq (by omega) (by decide)]; omega), x_c]
        exact ih (e + 1) n _ (by omega) (by omega) (by omega)
/-- the reference's numbers of the keywords -/
def z_kwOk (u : g_St) : Prop := ∀ k, 1 ≤ k → k < 26 → g_AL u 661 k = Int64.ofNat (z_kvs.getD (k - 1) 0)
theorem m_kwloop {i E : Nat} (hiE : i ≤ E) (hE : E ≤ 400) {y : Int64} {c : Nat} (hc : c < 402) : ∀ (d k n : Nat) (u : g_St) (v : Int32), 1 ≤ k → k + d = 26 → d < n → z_kwOk u → m_Fix u → g_I u 513 1 = Int32.ofNat c → g_AI u 1108 c = v →
    ∃ u', f_M_scanKeyword_52 n (some 1) (Int32.ofNat i) (Int32.ofNat E) y (Int32.ofNat k) u = some (Int32.ofNat E, u') ∧ g_AI u' 1108 c = z_fm (fun k => Int64.ofNat (z_kvs.getD (k - 1) 0) = y ∧ E - i < 10) (fun _ => inferInstance) d k v ∧ ∀ j, j ≠ c → g_AI u' 1108 j = g_AI u 1108 j := by
  intro d
  induction d with
  | zero =>
    intro k n u v h1 hk hn hkw hm hc1 hv
    obtain ⟨n, rfl⟩ : ∃ m, n = m + 1 := ⟨n - 1, by omega⟩
    have e26 : (26 ≤ Int32.ofNat k) = (26 ≤ k) := x_le (a := 26) (by decide) (by omega)
    rw [f_M_scanKeyword_52, if_pos (by rw [e26]; omega)]
    exact ⟨u, rfl, by rw [hv]; rfl, fun _ _ => rfl⟩
  | succ d ih =>
    intro k n u v h1 hk hn hkw hm hc1 hv
    obtain ⟨n, rfl⟩ : ∃ m, n = m + 1 := ⟨n - 1, by omega⟩
    have e26 : (26 ≤ Int32.ofNat k) = (26 ≤ k) := x_le (a := 26) (by decide) (by omega)
    have e10 : (10 ≤ Int32.ofNat (E - i)) = (10 ≤ E - i) := x_le (a := 10) (by decide) (by omega)
    rw [f_M_scanKeyword_52, if_neg (by rw [e26]; omega), x_gR, (hm _ m_k449).1, x_aL (by omega) (by rw [(hm _ m_k449).2]; show k < 26; omega), hkw k h1 (by omega), z_fm, x_p1, x_sub hiE]
    by_cases q : Int64.ofNat (z_kvs.getD (k - 1) 0) = y
    · rw [if_pos q]
      by_cases q2 : 10 ≤ E - i
      · rw [if_pos (by rw [e10]; exact q2), if_neg (fun w => by have := w.2; omega)]
        exact ih (k + 1) n u v (by omega) (by omega) (by omega) hkw hm hc1 hv
      · rw [if_neg (by rw [e10]; exact q2), if_pos ⟨q, by omega⟩, x_gR, (hm _ m_k641).1, x_gI, hc1, x_sI (by omega) (by rw [(hm _ m_k641).2]; exact hc)]
        obtain ⟨u', a1, a2, a3⟩ := ih (k + 1) n (g_setAI u 1108 c (Int32.ofNat k)) (Int32.ofNat k) (by omega) (by omega) (by omega) hkw hm hc1 (by rw [x_AI_AI, if_pos ⟨rfl, rfl⟩])
        refine ⟨u', a1, a2, fun j hj => ?_⟩
        rw [a3 j hj, x_AI_AI, if_neg (fun w => hj w.2)]
    · rw [if_neg q, if_neg (fun w => q w.1)]
      exact ih (k + 1) n u v (by omega) (by omega) (by omega) hkw hm hc1 hv
theorem z_i64 {a b : Nat} (ha : a < 2 ^ 63) (hb : b < 2 ^ 63) : (Int64.ofNat a = Int64.ofNat b) ↔ a = b := by
  constructor
  · intro h
    have := congrArg Int64.toInt h
    rw [Int64.toInt_ofNat_of_lt ha, Int64.toInt_ofNat_of_lt hb] at this
    omega
  · intro h; rw [h]
theorem z_kh_zh (T : Nat → Nat) (i : Nat) : ∀ (m e v : Nat), (∀ j, e ≤ j → j < e + m → 65 ≤ T j ∧ T j ≤ 90) → i ≤ e → e + m - i ≤ 10 → z_kh T i m e (Int64.ofNat v) = Int64.ofNat (z_zh ((List.range m).map fun j => T (e + j)) v) := by
  intro m
  induction m with
  | zero => intro e v _ _ _; rfl
  | succ m ih =>
    intro e v h hie hl
    have hc := h e (Nat.le_refl _) (by omega)
    rw [z_kh, if_neg (by omega), List.range_succ_eq_map, List.map_cons, z_zh, List.map_map]
    have e1 : (Int32.ofNat (T e)).toInt64 = Int64.ofNat (T e) := Int32.toInt64_ofNat' (by have : Int32.maxValue.toInt = 2147483647 := rfl; omega)
    have e2 : 27 * Int64.ofNat v + (Int32.ofNat (T e)).toInt64 - 64 = Int64.ofNat (27 * v + (T (e + 0) - 64)) := by
      rw [e1, show (27 : Int64) = Int64.ofNat 27 from rfl, show (64 : Int64) = Int64.ofNat 64 from rfl, ← Int64.ofNat_mul, ← Int64.ofNat_add, ← Int64.ofNat_sub _ _ (by omega), show 27 * v + T e - 64 = 27 * v + (T (e + 0) - 64) by rw [Nat.add_zero]; omega]
    rw [e2, ih (e + 1) _ (fun j h1 h2 => h j (by omega) (by omega)) (by omega) (by omega)]
    congr 2
    apply List.map_congr_left
    intro j _
    show T (e + 1 + j) = T (e + (j + 1))
    rw [show e + 1 + j = e + (j + 1) by omega]
end
