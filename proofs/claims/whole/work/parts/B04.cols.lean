/-! THE CHECK: columns and slots (reference) -/
section
variable {n : Nat} {kd pl nw nv : Nat → Nat} {wd vl : Nat → Int64}
/-- the names of a part are names -/
def z_pnm (n : Nat) (kd : Nat → Nat) (x : z_Pa) : Prop := z_isn n kd x.1 ∧ (∀ i, i < x.2.1.length → z_isn n kd (x.2.1.getD i 0)) ∧ (∀ y, x.2.2.2.2.1 = some y → z_isn n kd (y.2 + 3) ∧ z_isn n kd (y.2 + 5)) ∧ (∀ y, x.2.2.2.2.2 = some y → z_isn n kd y ∧ z_isn n kd (y + 2))
theorem z_getD_m {α : Type} {l : List α} {d : α} {k : Nat} (hk : k < l.length) : l.getD k d ∈ l := by
  rw [List.getD_eq_getElem?_getD, List.getElem?_eq_getElem hk]
  exact List.getElem_mem hk
theorem z_wpa_nm {p q : Nat} {x : z_Pa} (h : z_wpa kd p q x) (hq : q ≤ n) : z_pnm n kd x ∧ p < q := by
  obtain ⟨h1, h2, a, b, d, c1, c2, c3, c4, c5, c6⟩ := h
  have l1 := c1.le
  have l2 := c2.le
  have l3 : b ≤ d := by
    revert c3
    cases x.2.2.2.2.1 with
    | none => intro c3; exact c3
    | some y => intro c3; have := c3.1; have := c3.2.2.2; omega
  have l4 : d ≤ q := by
    revert c4
    cases x.2.2.2.2.2 with
    | none => intro c4; exact c4
    | some y => intro c4; have := c4.1; have := c4.2.2.2; omega
  refine ⟨⟨⟨by omega, by rw [h1]; exact h2⟩, fun i hi => ?_, fun y hy => ?_, fun y hy => ?_⟩, by omega⟩
  · obtain ⟨p1, q1, g1, g2, g3, g4, g5⟩ := c1.all _ (z_getD_m (d := 0) hi)
    exact ⟨by omega, g5⟩
  · rw [hy] at c3
    obtain ⟨e1, e2, e3, e4⟩ := c3
    exact ⟨⟨by omega, e2⟩, by omega, e3⟩
  · rw [hy] at c4
    obtain ⟨e1, e2, e3, e4⟩ := c4
    exact ⟨⟨by omega, e2⟩, by omega, e3⟩
theorem z_wod_le {p q : Nat} {x : Option (Nat × List Nat)} (h : z_wod kd p q x) : p ≤ q := by
  cases x with
  | none => exact h
  | some y => have := h.1; have := h.2.2.1.le; omega
theorem z_wqu_ps {x : z_Qu} {q : Nat} (W : z_wqu kd q x) (hq : q ≤ n) : ∀ k, k < x.2.1.length → z_pnm n kd (x.2.1.getD k z_pa0) := fun k hk => by
  obtain ⟨a, b, h1, h2, h3, h4, h5⟩ := W
  obtain ⟨p1, q1, g1, g2, g3⟩ := h1.all _ (z_getD_m (d := z_pa0) hk)
  exact (z_wpa_nm g3 (by have := z_wod_le h4; omega)).1
theorem b_col (NM : z_NM n kd wd vl nw nv) (H : z_H n kd) {u : g_St} {C : Nat → Nat} {x : z_Qu} {tc : Nat} {cols : Nat → Nat} (K : M_ck n kd pl vl u C x tc cols) (hp : ∀ k, k < x.2.1.length → z_pnm n kd (x.2.1.getD k z_pa0)) {m : z_Mn} (hm1 : ∀ k, m = some (.inl k) → k < x.2.1.length) (hm2 : ∀ k, m = some (.inr k) → k < tc) {q : Nat} (hq : z_isn n kd q) (o : Bool) : f_M_columnOf (some 1) (z_mc m) (vl q) (z_g o) u = some (z_cc x.2.1 m o (z_cln nw x.2.1 cols m q), u) := by
  obtain ⟨hm, tk, Q, htc, h5, hc⟩ := K
  obtain ⟨q1, q2, q3, q4, q5, -⟩ := Q
  have hn := H.2.1
  obtain ⟨v1, v2, v3, v4, v5, v6⟩ := NM.1 q hq.1 hq.2
  cases m with
  | none =>
    unfold f_M_columnOf
    rw [if_pos (show z_mc none = -1 from rfl)]
    rfl
  | some mm =>
    cases mm with
    | inr t =>
      have ht := hm2 t rfl
      obtain ⟨c1, c2⟩ := hc t ht
      unfold f_M_columnOf
      rw [show z_mc (some (.inr t)) = Int32.ofNat t from rfl, if_neg (z_oc_n (by omega)), if_neg (show ¬ (10 : Int32) ≤ Int32.ofNat t from by rw [show (10 : Int32) = Int32.ofNat 10 from rfl, x_le (by omega) (by omega)]; omega)]
      have i64 : ∀ a b : Nat, a < 2 ^ 62 → b < 2 ^ 62 → (Int64.ofNat a < Int64.ofNat b) = (a < b) := fun a b ha hb => propext (Int64.ofNat_lt_iff_lt (by omega) (by omega))
      rw [v2, if_neg (show ¬ Int64.ofNat (nv q) < 1 from by rw [show (1 : Int64) = Int64.ofNat 1 from rfl, i64 _ _ (by omega) (by omega)]; omega), x_gR, (m_at hm m_k129).1, x_aI (by omega) (by rw [(m_at hm m_k129).2]; omega), c1, z_toI64 (by omega)]
      have cl : z_cln nw x.2.1 cols (some (.inr t)) q = if cols t < nv q then none else some (nv q - 1) := by
        show z_ff (fun k => decide (nw q = 97 + k)) (cols t) 0 = _
        cases hz : z_ff (fun k => decide (nw q = 97 + k)) (cols t) 0 with
        | none =>
          have no := z_ff_none hz
          by_cases w : cols t < nv q
          · rw [if_pos w]
          · exfalso
            have e := (NM.2.2.2.1 q (nv q - 1) hq.1 hq.2 (by omega)).mpr (by omega)
            have := no (nv q - 1) (Nat.zero_le _) (by omega)
            rw [decide_eq_true e] at this
            cases this
        | some k =>
          obtain ⟨a1, a2, a3, -⟩ := z_ff_some hz
          have e := (NM.2.2.2.1 q k hq.1 hq.2 (by omega)).mp (of_decide_eq_true a3)
          rw [if_neg (by omega), show nv q - 1 = k by omega]
      rw [cl]
      by_cases w : cols t < nv q
      · rw [if_pos (by rw [i64 _ _ (by omega) (by omega)]; exact w), if_pos w]
        rfl
      · rw [if_neg (by rw [i64 _ _ (by omega) (by omega)]; exact w), if_neg w]
        show some ((Int64.ofNat (nv q)).toInt32 - 1, u) = some (Int32.ofNat (nv q - 1), u)
        have e3 : nv q = 1 ∨ nv q = 2 ∨ nv q = 3 := by omega
        rcases e3 with e | e | e <;> (rw [e]; rfl)
    | inl k =>
      have hk := hm1 k rfl
      obtain ⟨w1, w2, w3, w4⟩ := hp k hk
      obtain ⟨m0, m1, m2, m3, m4, m5, m6, m7, m8, m9, m10, m11, m12⟩ := q5 k hk
      have hl := m11
      unfold f_M_columnOf
      rw [show z_mc (some (.inl k)) = Int32.ofNat (10 + k) from rfl, if_neg (z_oc_n (by omega)), if_pos (show (10 : Int32) ≤ Int32.ofNat (10 + k) from by rw [show (10 : Int32) = Int32.ofNat 10 from rfl, x_le (by omega) (by omega)]; omega), show (10 : Int32) = Int32.ofNat 10 from rfl, x_sub (by omega), show 10 + k - 10 = k by omega]
      generalize hX : x.2.1.getD k z_pa0 = X at w1 w2 w3 w4 m1 m2 m3 m9 m10 m11 m12 hl
      have k4 : k < 4 := by omega
      -- the trail
      have t128 : z_mark nw X q = false → f_M_columnOf_128 (some 1) (vl q) (z_g o) (Int32.ofNat k) u = some (if z_trl nw X q = true ∧ o = true then 100 else -1, u) := by
        intro _
        unfold f_M_columnOf_128
        cases o with
        | false => rw [if_pos (show z_g false = 0 from rfl), if_neg (fun w => by cases w.2)]
        | true =>
          rw [if_neg (show ¬ z_g true = 0 by decide), x_gR, (m_at hm m_k1409).1, x_aI (by omega) (by rw [(m_at hm m_k1409).2]; exact k4)]
          cases hs : X.2.2.2.2.1 with
          | none =>
            rw [hs] at m9
            have e0 : g_AI u 1428 k = 0 := m9
            have t0 : z_trl nw X q = false := by unfold z_trl; rw [hs]
            rw [e0, if_pos (by decide), t0, if_neg (fun w => by cases w.1)]
          | some y =>
            rw [hs] at m9
            obtain ⟨e1, e2, e3⟩ := m9
            have t0 : z_trl nw X q = decide (nw (y.2 + 5) = nw q) := by unfold z_trl; rw [hs]
            have hy := (w3 y hs).2
            have := hy.1
            rw [e1, if_neg (by cases y.1 <;> decide), x_gR, (m_at hm m_k769).1, x_gR, (m_at hm m_k1537).1, x_aI (by omega) (by rw [(m_at hm m_k1537).2]; exact k4), e3, z_tkv hm tk H hy.1, t0]
            have e := NM.eq hy hq
            by_cases w : nw (y.2 + 5) = nw q
            · rw [if_pos (by rw [e]; exact w), if_pos ⟨decide_eq_true w, rfl⟩]
            · rw [if_neg (by rw [e]; exact w), if_neg (fun z => w (of_decide_eq_true z.1))]
      have key : ∀ d i f, i + d = X.2.1.length → d < f → f_M_columnOf_49 f (some 1) (vl q) (z_g o) (Int32.ofNat k) (Int32.ofNat i) u = some (match z_ff (fun i => decide (nw (X.2.1.getD i 0) = nw q)) d i with | some j => Int32.ofNat j | none => if z_mark nw X q = true then Int32.ofNat X.2.1.length else if z_trl nw X q = true ∧ o = true then 100 else -1, u) := by
        intro d
        induction d with
        | zero =>
          intro i f h1 h2
          obtain ⟨f, rfl⟩ : ∃ m, f = m + 1 := ⟨f - 1, by omega⟩
          rw [f_M_columnOf_49, x_gR, (m_at hm m_k1281).1, x_aI (by omega) (by rw [(m_at hm m_k1281).2]; exact k4), m2, if_pos (by rw [x_le (by omega) (by omega)]; omega), x_gR, (m_at hm m_k1601).1, x_aI (by omega) (by rw [(m_at hm m_k1601).2]; exact k4), z_ff]
          simp only []
          cases hs : X.2.2.2.2.2 with
          | none =>
            rw [hs] at m10
            have e0 : g_AI u 1620 k = -1 := m10
            have t0 : z_mark nw X q = false := by unfold z_mark; rw [hs]
            rw [e0, if_pos rfl, t128 t0, t0]
            rfl
          | some y =>
            rw [hs] at m10
            obtain ⟨e1, e2⟩ := m10
            have t0 : z_mark nw X q = decide (nw (y + 2) = nw q) := by unfold z_mark; rw [hs]
            have hy := (w4 y hs).2
            have := hy.1
            rw [e1, if_neg (z_oc_n (by omega)), x_gR, (m_at hm m_k769).1, x_gR, (m_at hm m_k1665).1, x_aI (by omega) (by rw [(m_at hm m_k1665).2]; exact k4), e2, z_tkv hm tk H hy.1]
            have e := NM.eq hy hq
            by_cases w : nw (y + 2) = nw q
            · rw [if_pos (by rw [e]; exact w), t0, decide_eq_true w, if_pos rfl, x_gR, (m_at hm m_k1281).1, x_aI (by omega) (by rw [(m_at hm m_k1281).2]; exact k4), m2]
            · have t1 : z_mark nw X q = false := by rw [t0]; exact decide_eq_false w
              rw [if_neg (by rw [e]; exact w), t128 t1, t1]
              rfl
        | succ d ih =>
          intro i f h1 h2
          obtain ⟨f, rfl⟩ : ∃ m, f = m + 1 := ⟨f - 1, by omega⟩
          have hi : i < X.2.1.length := by omega
          have hy := w2 i hi
          have := hy.1
          rw [f_M_columnOf_49, x_gR, (m_at hm m_k1281).1, x_aI (by omega) (by rw [(m_at hm m_k1281).2]; exact k4), m2, if_neg (by rw [x_le (by omega) (by omega)]; omega), x_gR, (m_at hm m_k769).1, x_gR, (m_at hm m_k1345).1, show (3 : Int32) * Int32.ofNat k + Int32.ofNat i = Int32.ofNat (3 * k + i) from (by rw [Int32.ofNat_add, Int32.ofNat_mul]; rfl), x_aI (by omega) (by rw [(m_at hm m_k1345).2]; omega), m3 i hi, z_tkv hm tk H hy.1, z_ff]
          have e := NM.eq hy hq
          by_cases w : nw (X.2.1.getD i 0) = nw q
          · rw [if_pos (by rw [e]; exact w), if_pos (decide_eq_true w)]
          · rw [if_neg (by rw [e]; exact w), if_neg (by rw [decide_eq_true_eq]; exact w), x_p1]
            exact ih (i + 1) f (by omega) (by omega)
      refine (key X.2.1.length 0 200000 (by omega) (by omega)).trans ?_
      show _ = some (z_cc x.2.1 (some (.inl k)) o (z_pcl nw (x.2.1.getD k z_pa0) q), u)
      unfold z_cc
      simp only []
      rw [hX]
      unfold z_pcl
      cases hz : z_ff (fun i => decide (nw (X.2.1.getD i 0) = nw q)) X.2.1.length 0 with
      | some i =>
        obtain ⟨-, a2, -, -⟩ := z_ff_some hz
        simp only []
        rw [if_pos (by omega)]
      | none =>
        simp only []
        by_cases w : z_mark nw X q = true
        · rw [if_pos w, if_pos w]
          rfl
        · rw [if_neg w, if_neg w]
          by_cases w' : z_trl nw X q = true
          · cases o with
            | true => rw [if_pos ⟨w', rfl⟩, if_pos w']; rfl
            | false => rw [if_neg (fun z => by cases z.2), if_pos w']; rfl
          · rw [if_neg (fun z => w' z.1), if_neg w']
def z_wic (wi : Option (Nat × Nat)) : Int32 := match wi with
  | none => -1
  | some y => Int32.ofNat y.1
/-- the slot of an byname -/
theorem b_slt (NM : z_NM n kd wd vl nw nv) (H : z_H n kd) {u : g_St} (hm : m_Fix u) (tk : z_tkM u n kd pl vl) {C : Nat → Nat} (lim : z_lim C) {s : Nat} (hs : s < 17) {k0 : Nat} {srs : List Nat} (h1 : g_AI u 2324 s = Int32.ofNat srs.length) (h2 : g_AI u 2260 s = Int32.ofNat k0) (h3 : M_sos u C k0 srs) (h4 : ∀ j, j < srs.length → z_isn n kd (srs.getD j 0 + 1)) {p : Nat} (hp : z_isn n kd p) {wi : Option (Nat × Nat)} (hw : ∀ y, wi = some y → y.1 < 100 ∧ M_so u y.1 y.2 ∧ z_isn n kd (y.2 + 1)) : f_M_slotOf (some 1) (Int32.ofNat s) (vl p) (z_wic wi) u = some (z_oc (z_slt nw srs p (wi.map (·.2))), u) := by
  have hn := H.2.1
  have l5 := lim.2.2.2.2.1
  have l3 := h3.1
  have key : ∀ d i f, i + d = srs.length → d < f → f_M_slotOf_3 f (some 1) (Int32.ofNat s) (vl p) (z_wic wi) (Int32.ofNat i) u = some (match z_ff (fun k => decide (nw (srs.getD k 0 + 1) = nw p)) d i with | some j => Int32.ofNat j | none => z_oc (match wi.map (·.2) with | none => none | some w => if nw (w + 1) = nw p then some 3 else none), u) := by
    intro d
    induction d with
    | zero =>
      intro i f e1 e2
      obtain ⟨f, rfl⟩ : ∃ m, f = m + 1 := ⟨f - 1, by omega⟩
      rw [f_M_slotOf_3, x_gR, (m_at hm m_k2561).1, x_aI (by omega) (by rw [(m_at hm m_k2561).2]; exact hs), h1, if_pos (by rw [x_le (by omega) (by omega)]; omega), z_ff]
      cases wi with
      | none =>
        rw [if_pos (show z_wic none = -1 from rfl)]
        rfl
      | some y =>
        obtain ⟨a1, a2, a3⟩ := hw y rfl
        have := a3.1
        rw [show z_wic (some y) = Int32.ofNat y.1 from rfl, if_neg (z_oc_n (by omega)), x_gR, (m_at hm m_k769).1, x_gR, (m_at hm m_k3713).1, x_aI (by omega) (by rw [(m_at hm m_k3713).2]; exact a1), a2.2, z_tkv hm tk H a3.1]
        have e := NM.eq a3 hp
        by_cases w : nw (y.2 + 1) = nw p
        · rw [if_pos (by rw [e]; exact w)]
          show _ = some (z_oc (if nw (y.2 + 1) = nw p then some 3 else none), u)
          rw [if_pos w]; rfl
        · rw [if_neg (by rw [e]; exact w)]
          show _ = some (z_oc (if nw (y.2 + 1) = nw p then some 3 else none), u)
          rw [if_neg w]; rfl
    | succ d ih =>
      intro i f e1 e2
      obtain ⟨f, rfl⟩ : ∃ m, f = m + 1 := ⟨f - 1, by omega⟩
      have hi : i < srs.length := by omega
      have hy := h4 i hi
      have := hy.1
      rw [f_M_slotOf_3, x_gR, (m_at hm m_k2561).1, x_aI (by omega) (by rw [(m_at hm m_k2561).2]; exact hs), h1, if_neg (by rw [x_le (by omega) (by omega)]; omega), x_gR, (m_at hm m_k769).1, x_gR, (m_at hm m_k3713).1, x_gR, (m_at hm m_k2497).1, x_aI (by omega) (by rw [(m_at hm m_k2497).2]; exact hs), h2, x_add, x_aI (by omega) (by rw [(m_at hm m_k3713).2]; omega), (h3.2 i hi).2, z_tkv hm tk H hy.1, z_ff]
      have e := NM.eq hy hp
      by_cases w : nw (srs.getD i 0 + 1) = nw p
      · rw [if_pos (by rw [e]; exact w), if_pos (decide_eq_true w)]
      · rw [if_neg (by rw [e]; exact w), if_neg (by rw [decide_eq_true_eq]; exact w), x_p1]
        exact ih (i + 1) f (by omega) (by omega)
  unfold f_M_slotOf
  refine (key srs.length 0 200000 (by omega) (by omega)).trans ?_
  unfold z_slt
  cases hz : z_ff (fun k => decide (nw (srs.getD k 0 + 1) = nw p)) srs.length 0 with
  | some i => rfl
  | none => rfl
end
