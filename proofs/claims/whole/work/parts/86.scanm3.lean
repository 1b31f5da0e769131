/-! TOKENS: the reference's scan, whole -/
def z_vlT (len : Nat) (T : Nat → Nat) (j : Nat) : Int64 := if j < z_n len T then z_vM T (z_pl len T j) (z_tend len T (z_pl len T j)) else 0
def z_tkm (u : g_St) (len : Nat) (T : Nat → Nat) (c : Nat) : Prop := ∀ j, j < c → g_AI u 1108 j = z_km (z_kdT len T j) ∧ g_AI u 1172 j = Int32.ofNat (z_pl len T j) ∧ g_AL u 725 j = z_vlT len T j
/-- a token is scanned: its kind and value stand at c, nothing else has changed -/
def z_tok1 (u u' : g_St) (T : Nat → Nat) (c i e : Nat) : Prop := z_W [] [725, 1108] u u' ∧ g_AI u' 1108 c = z_km (z_kind T i e) ∧ (∀ j, j ≠ c → g_AI u' 1108 j = g_AI u 1108 j) ∧ g_AL u' 725 c = z_vM T i e ∧ ∀ j, j ≠ c → g_AL u' 725 j = g_AL u 725 j
section
variable {len : Nat} {T : Nat → Nat}
theorem m_tkC {u : g_St} (hX : z_XM u len T) (hm : m_Fix u) (hT : ∀ j, j < len → T j < 256) (hkw : z_kwOk u) {i c : Nat} (hi : i < len) (hc : c < 402) (hc1 : g_I u 513 1 = Int32.ofNat c) (hv : g_AL u 725 c = 0) (h : z_cp (T i) = true) : ∃ u', f_M_scanKeyword (some 1) (Int32.ofNat i) u = some (Int32.ofNat (z_tend len T i), u') ∧ z_tok1 u u' T c i (z_tend len T i) := by
  obtain ⟨u', a1, a2, a3⟩ := m_keyword hX hm hT hkw hi h hc hc1
  have w := w_M_scanKeyword _ _ hm a1
  have e : g_AL u' 725 = g_AL u 725 := (w.2.2.2.2.2.2.2.2 725 (by decide)).2
  refine ⟨u', a1, w.mono (by decide) (by decide), a2, a3, ?_, fun j _ => by rw [e]⟩
  rw [e, hv]
  unfold z_vM
  rw [if_pos h]
theorem m_tkN {u : g_St} (hX : z_XM u len T) (hm : m_Fix u) (hT : ∀ j, j < len → T j < 256) {i c : Nat} (hi : i < len) (hc : c < 402) (hc1 : g_I u 513 1 = Int32.ofNat c) (h1 : z_cp (T i) = false) (h : z_sm (T i) = true) : ∃ u', f_M_scanName (some 1) (Int32.ofNat i) u = some (Int32.ofNat (z_tend len T i), u') ∧ z_tok1 u u' T c i (z_tend len T i) := by
  have hsb : 97 ≤ T i ∧ T i ≤ 122 := of_decide_eq_true h
  have hE : z_tend len T i = z_run T (T i) (len - i) i := by
    unfold z_tend
    rw [if_neg (fun w => by omega), z_run_first (by unfold z_bl; rw [if_pos h, h]; rfl) hi]
  have a1 := m_namerun hX hm hT h hc hc1 (len - i) i 200000 0 (Nat.le_refl _) (by omega) (by have := hX.2.1; omega)
  rw [← hE] at a1
  have a1' : f_M_scanName (some 1) (Int32.ofNat i) u = _ := a1
  have w := w_M_scanName _ _ hm a1'
  refine ⟨_, a1', w.mono (by decide) (by decide), ?_, fun j hj => ?_, ?_, fun j hj => ?_⟩
  · show g_AI (g_setAI u 1108 c _) 1108 c = _
    rw [x_AI_AI, if_pos ⟨rfl, rfl⟩]
    unfold z_kind
    rw [if_pos h]
    by_cases q : z_tend len T i - i ≤ 6
    · rw [if_pos q, if_pos q]; rfl
    · rw [if_neg q, if_neg q]; rfl
  · show g_AI (g_setAI u 1108 c _) 1108 j = _
    rw [x_AI_AI, if_neg (fun w => hj w.2)]
  · rw [x_AL_AL, if_pos ⟨rfl, rfl⟩]
    unfold z_vM
    rw [if_neg (by rw [h1]; decide), if_pos h]
  · rw [x_AL_AL, if_neg (fun w => hj w.2)]; rfl
theorem m_tkD {u : g_St} (hX : z_XM u len T) (hm : m_Fix u) (hT : ∀ j, j < len → T j < 256) {i c : Nat} (hi : i < len) (hc : c < 402) (hc1 : g_I u 513 1 = Int32.ofNat c) (h1 : z_cp (T i) = false) (h2 : z_sm (T i) = false) (h : z_dg (T i) = true) : ∃ u', f_M_scanNumber (some 1) (Int32.ofNat i) u = some (Int32.ofNat (z_tend len T i), u') ∧ z_tok1 u u' T c i (z_tend len T i) := by
  have hsb : 48 ≤ T i ∧ T i ≤ 57 := of_decide_eq_true h
  have hE : z_tend len T i = z_run T (T i) (len - i) i := by
    unfold z_tend
    rw [if_neg (fun w => by omega), z_run_first (by unfold z_bl; rw [if_neg (by rw [h2]; decide), if_pos h, h]) hi]
  have a1 := m_numrun hX hm hT h hc hc1 (len - i) i 200000 0 (Nat.le_refl _) (by omega) (by have := hX.2.1; omega)
  rw [← hE] at a1
  have a1' : f_M_scanNumber (some 1) (Int32.ofNat i) u = _ := a1
  have w := w_M_scanNumber _ _ hm a1'
  refine ⟨_, a1', w.mono (by decide) (by decide), ?_, fun j hj => ?_, ?_, fun j hj => ?_⟩
  · show g_AI (g_setAI u 1108 c _) 1108 c = _
    rw [x_AI_AI, if_pos ⟨rfl, rfl⟩]
    have kd : z_kind T i (z_tend len T i) = if z_tend len T i - i ≤ 4 then 37 else 39 := by
      unfold z_kind
      rw [if_neg (by rw [h2]; decide), if_pos h]
    rw [kd]
    by_cases q : z_tend len T i - i ≤ 4
    · rw [if_pos q, if_pos q]; rfl
    · rw [if_neg q, if_neg q]; rfl
  · show g_AI (g_setAI u 1108 c _) 1108 j = _
    rw [x_AI_AI, if_neg (fun w => hj w.2)]
  · rw [x_AL_AL, if_pos ⟨rfl, rfl⟩]
    unfold z_vM
    rw [if_neg (by rw [h1]; decide), if_neg (by rw [h2]; decide), if_pos h]
  · rw [x_AL_AL, if_neg (fun w => hj w.2)]; rfl
theorem m_tkS {u : g_St} (hX : z_XM u len T) (hm : m_Fix u) (hT : ∀ j, j < len → T j < 256) {i c : Nat} (hi : i < len) (hc : c < 402) (hc1 : g_I u 513 1 = Int32.ofNat c) (hv : g_AL u 725 c = 0) (h1 : z_cp (T i) = false) (h2 : z_sm (T i) = false) (h3 : z_dg (T i) = false) : ∃ u', f_M_scanSign (some 1) (Int32.ofNat i) u = some (Int32.ofNat (z_tend len T i), u') ∧ z_tok1 u u' T c i (z_tend len T i) := by
  have a1 := m_sign hX hm hT hi h1 h2 h3 hc hc1
  have w := w_M_scanSign _ _ hm a1
  refine ⟨_, a1, w.mono (by decide) (by decide), ?_, fun j hj => ?_, ?_, fun j _ => rfl⟩
  · rw [x_AI_AI, if_pos ⟨rfl, rfl⟩]
  · rw [x_AI_AI, if_neg (fun w => hj w.2)]
  · show g_AL u 725 c = _
    rw [hv]
    unfold z_vM
    rw [if_neg (by rw [h1]; decide), if_neg (by rw [h2]; decide), if_neg (by rw [h3]; decide)]
theorem m_scan7 (hT : ∀ j, j < len → T j < 256) : ∀ (d i c n : Nat) (u : g_St) (pre : List Nat), i + d = len → d < n → z_XM u len T → m_Fix u → z_kwOk u → g_I u 513 1 = Int32.ofNat c → z_Z len T 0 = pre ++ z_Z len T i → pre.length = c → z_tkm u len T c →
    ∃ u', f_M_scan_7 n (some 1) (Int32.ofNat i) u = some ((), u') ∧ z_tkM u' (z_n len T) (z_kdT len T) (z_pl len T) (z_vlT len T) ∧ g_I u' 513 1 = Int32.ofNat (z_n len T) := by
  intro d
  induction d using Nat.strongRecOn with
  | ind d ih =>
    intro i c n u pre hd hn hX hm hkw hc1 hpre hc hk
    obtain ⟨n, rfl⟩ : ∃ m, n = m + 1 := ⟨n - 1, by omega⟩
    have h400 := hX.2.1
    have hnl := z_n_le len T
    rw [f_M_scan_7, x_gI, hX.1]
    by_cases hend : len ≤ i
    · have hcn : c = z_n len T := by
        unfold z_n
        rw [hpre, z_Z_end hend, List.append_nil, hc]
      have p38 : z_pl len T c = len := by
        unfold z_pl
        rw [List.getD_eq_getElem?_getD, List.getElem?_eq_none (by show z_n len T ≤ c; omega)]
        rfl
      have k38 : z_kdT len T c = 38 := by unfold z_kdT; rw [if_neg (by omega)]
      rw [if_pos (by rw [x_le (by omega) (by omega)]; omega), x_gR, (hm _ m_k641).1, x_gI, hc1, x_sI (by omega) (by rw [(hm _ m_k641).2]; show c < 402; omega), x_gR, show g_R (g_setAI u 1108 c 99) 705 1 = some 1172 from (hm _ m_k705).1, x_gI, show g_I (g_setAI u 1108 c 99) 513 1 = Int32.ofNat c from hc1, x_gI, show g_I (g_setAI u 1108 c 99) 321 1 = Int32.ofNat len from hX.1, x_sI (by omega) (by show c < g_ln u 1172; rw [show g_ln u 1172 = 402 from (hm _ m_k705).2]; omega)]
      refine ⟨_, rfl, fun j hj => ?_, by rw [← hcn]; exact hc1⟩
      have f1 : ∀ j, g_AI (g_setAI (g_setAI u 1108 c 99) 1172 c (Int32.ofNat len)) 1108 j = if j = c then 99 else g_AI u 1108 j := fun j => by
        rw [x_AI_AI, if_neg (fun w => by have := w.1; omega), x_AI_AI]
        by_cases e : j = c
        · rw [if_pos ⟨rfl, e⟩, if_pos e]
        · rw [if_neg (fun w => e w.2), if_neg e]
      have f2 : ∀ j, g_AI (g_setAI (g_setAI u 1108 c 99) 1172 c (Int32.ofNat len)) 1172 j = if j = c then Int32.ofNat len else g_AI u 1172 j := fun j => by
        rw [x_AI_AI]
        by_cases e : j = c
        · rw [if_pos ⟨rfl, e⟩, if_pos e]
        · rw [if_neg (fun w => e w.2), if_neg e, x_AI_AI, if_neg (fun w => by have := w.1; omega)]
      rw [f1, f2]
      by_cases e : j = c
      · rw [if_pos e, if_pos e, e, k38, p38]
        exact ⟨rfl, rfl, fun w => by omega⟩
      · rw [if_neg e, if_neg e]
        have q := hk j (by omega)
        exact ⟨q.1, q.2.1, fun _ => q.2.2⟩
    · rw [if_neg (by rw [x_le (by omega) (by omega)]; omega), x_gR, (hm _ m_k385).1, x_aI (by omega) (by rw [(hm _ m_k385).2]; show i < 400; omega), hX.2.2 i (by omega)]
      have hti := hT i (by omega)
      have e32 : (Int32.ofNat (T i) = 32) = (T i = 32) := x_eq (b := 32) (by omega) (by decide)
      by_cases s : T i = 32
      · rw [if_pos (by rw [e32]; exact s), x_p1]
        exact ih (d - 1) (by omega) (i + 1) c n u pre (by omega) (by omega) hX hm hkw hc1 (by rw [hpre, z_Z_sp (by omega) s]) hc hk
      · have hte := z_tend_le (T := T) (show i < len by omega)
        have hZ := z_Z_tok (T := T) (show i < len by omega) s
        rw [hZ] at hpre
        have hcn : c < z_n len T := by
          unfold z_n
          rw [hpre, List.length_append, List.length_cons]
          omega
        have hpl : z_pl len T c = i := by
          unfold z_pl
          rw [hpre, List.getD_eq_getElem?_getD, List.getElem?_append_right (by omega), show c - pre.length = 0 by omega]
          rfl
        have hkd : z_kind T i (z_tend len T i) = z_kdT len T c := by unfold z_kdT; rw [if_pos hcn, hpl]
        have hvl : z_vM T i (z_tend len T i) = z_vlT len T c := by unfold z_vlT; rw [if_pos hcn, hpl]
        rw [if_neg (by rw [e32]; exact s), x_gR, (hm _ m_k705).1, x_gI, hc1, x_sI (by omega) (by rw [(hm _ m_k705).2]; show c < 402; omega), x_gR, show g_R (g_setAI u 1172 c (Int32.ofNat i)) 769 1 = some 725 from (hm _ m_k769).1, x_gI, show g_I (g_setAI u 1172 c (Int32.ofNat i)) 513 1 = Int32.ofNat c from hc1, x_sL (by omega) (by show c < g_ln u 725; rw [show g_ln u 725 = 402 from (hm _ m_k769).2]; omega)]
        generalize hu1 : g_setAL (g_setAI u 1172 c (Int32.ofNat i)) 725 c 0 = u1
        have hX1 : z_XM u1 len T := by
          rw [← hu1]
          refine ⟨hX.1, hX.2.1, fun j hj => ?_⟩
          show g_AI (g_setAI u 1172 c (Int32.ofNat i)) 1044 j = _
          rw [x_AI_AI, if_neg (fun w => by have := w.1; omega)]
          exact hX.2.2 j hj
        have hm1 : m_Fix u1 := by rw [← hu1]; exact hm
        have hkw1 : z_kwOk u1 := by
          rw [← hu1]
          intro k q1 q2
          rw [x_AL_AL, if_neg (fun w => by have := w.1; omega)]
          exact hkw k q1 q2
        have hc11 : g_I u1 513 1 = Int32.ofNat c := by rw [← hu1]; exact hc1
        have hv1 : g_AL u1 725 c = 0 := by rw [← hu1, x_AL_AL, if_pos ⟨rfl, rfl⟩]
        have p1 : ∀ j, g_AI u1 1172 j = if j = c then Int32.ofNat i else g_AI u 1172 j := fun j => by
          rw [← hu1]
          show g_AI (g_setAI u 1172 c (Int32.ofNat i)) 1172 j = _
          rw [x_AI_AI]
          by_cases e : j = c
          · rw [if_pos ⟨rfl, e⟩, if_pos e]
          · rw [if_neg (fun w => e w.2), if_neg e]
        have p2 : ∀ j, g_AI u1 1108 j = g_AI u 1108 j := fun j => by
          rw [← hu1]
          show g_AI (g_setAI u 1172 c (Int32.ofNat i)) 1108 j = _
          rw [x_AI_AI, if_neg (fun w => by have := w.1; omega)]
        have p3 : ∀ j, j ≠ c → g_AL u1 725 j = g_AL u 725 j := fun j hj => by
          rw [← hu1, x_AL_AL, if_neg (fun w => hj w.2)]
          rfl
        have go : ∀ u2, z_tok1 u1 u2 T c i (z_tend len T i) → ∃ u', (g_gI u2 513 (some 1) fun i25 => g_pI u2 513 (some 1) (i25 + 1) fun s26 => f_M_scan_7 n (some 1) (Int32.ofNat (z_tend len T i)) s26) = some ((), u') ∧ z_tkM u' (z_n len T) (z_kdT len T) (z_pl len T) (z_vlT len T) ∧ g_I u' 513 1 = Int32.ofNat (z_n len T) := by
          intro u2 ⟨w, t1, t2, t3, t4⟩
          have i2 : ∀ k a, g_I u2 k a = g_I u1 k a := fun k a => w.2.2.2.2.2.2.2.1 k a (fun q => by cases q.2)
          have hm2 : m_Fix u2 := w.fx hm1
          rw [x_gI, i2, hc11, x_pI, x_p1]
          refine ih (len - z_tend len T i) (by omega) (z_tend len T i) (c + 1) n (g_setI u2 513 1 (Int32.ofNat (c + 1))) (pre ++ [i]) (by omega) (by omega) ?_ hm2 ?_ (by rw [x_I_I, if_pos ⟨rfl, rfl⟩]) (by rw [hpre, List.append_assoc]; rfl) (by rw [List.length_append, hc]; rfl) ?_
          · refine ⟨?_, hX.2.1, fun j hj => ?_⟩
            · rw [x_I_I, if_neg (fun q => by have := q.1; omega), i2]
              exact hX1.1
            · show g_AI u2 1044 j = _
              rw [(w.2.2.2.2.2.2.2.2 1044 (by decide)).1]
              exact hX1.2.2 j hj
          · intro k q1 q2
            show g_AL u2 661 k = _
            rw [(w.2.2.2.2.2.2.2.2 661 (by decide)).2]
            exact hkw1 k q1 q2
          · intro j hj
            show g_AI u2 1108 j = _ ∧ g_AI u2 1172 j = _ ∧ g_AL u2 725 j = _
            rw [(w.2.2.2.2.2.2.2.2 1172 (by decide)).1, p1]
            by_cases e : j = c
            · rw [e, t1, t3, if_pos rfl, hkd, hvl, hpl]
              exact ⟨rfl, rfl, rfl⟩
            · rw [t2 j e, t4 j e, if_neg e, p2, p3 j e]
              exact hk j (by omega)
        rw [m_capital hti, x_c]
        cases hcp : z_cp (T i) with
        | true =>
          obtain ⟨u2, a1, a2⟩ := m_tkC hX1 hm1 hT hkw1 (show i < len by omega) (show c < 402 by omega) hc11 hv1 hcp
          rw [if_neg (by decide), x_nn, a1, x_c]
          exact go u2 a2
        | false =>
          rw [if_pos (by decide), m_small hti, x_c]
          cases hsm : z_sm (T i) with
          | true =>
            obtain ⟨u2, a1, a2⟩ := m_tkN hX1 hm1 hT (show i < len by omega) (show c < 402 by omega) hc11 hcp hsm
            rw [if_neg (by decide), x_nn, a1, x_c]
            exact go u2 a2
          | false =>
            rw [if_pos (by decide), m_digit hti, x_c]
            cases hdg : z_dg (T i) with
            | true =>
              obtain ⟨u2, a1, a2⟩ := m_tkD hX1 hm1 hT (show i < len by omega) (show c < 402 by omega) hc11 hcp hsm hdg
              rw [if_neg (by decide), x_nn, a1, x_c]
              exact go u2 a2
            | false =>
              obtain ⟨u2, a1, a2⟩ := m_tkS hX1 hm1 hT (show i < len by omega) (show c < 402 by omega) hc11 hv1 hcp hsm hdg
              rw [if_pos (by decide), x_nn, a1, x_c]
              exact go u2 a2
theorem m_scan {u : g_St} (hT : ∀ j, j < len → T j < 256) (hX : z_XM u len T) (hm : m_Fix u) (hkw : z_kwOk u) : ∃ u', f_M_scan (some 1) u = some ((), u') ∧ z_tkM u' (z_n len T) (z_kdT len T) (z_pl len T) (z_vlT len T) ∧ g_I u' 513 1 = Int32.ofNat (z_n len T) := by
  unfold f_M_scan
  rw [x_pI]
  exact m_scan7 hT len 0 0 200000 (g_setI u 513 1 0) [] (by omega) (by have := hX.2.1; omega) ⟨by rw [x_I_I, if_neg (fun q => by have := q.1; omega)]; exact hX.1, hX.2.1, hX.2.2⟩ hm hkw (by rw [x_I_I, if_pos ⟨rfl, rfl⟩]; rfl) rfl rfl (fun j hj => absurd hj (Nat.not_lt_zero j))
end
