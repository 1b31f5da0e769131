/-! THE ENGINE'S CHECK: components in order -/
def E_cp (c : z_Cx) (b : Nat → Nat) (m come num : Nat) (cp : Nat → Nat) (v : g_St) : Prop := (∀ k, k < m → g_I v 903 ((b 7 + k) * 64 + 7) = if come.testBit k = true then Int32.ofNat (cp k) else -1) ∧ g_I v 454 c.1 = Int32.ofNat num
section
variable {n q : Nat} {kd pl nw nv : Nat → Nat} {wd vl : Nat → Int64} {c : z_Cx} {A O : Nat} {b : Nat → Nat} {x : z_Qu} {tc : Nat} {cols : Nat → Nat} {xs ys : List Nat} {u0 : g_St}
theorem k_nxt (S : E_S pl wd c A O b x tc cols xs ys u0) {s : g_St} (V : E_V c tc u0 s) {r : Nat → Nat} (R : E_nd b x.2.1.length s r) (P2 : E_np2 b x.2.1.length r x.2.1.length s) {come : Nat} (hc : come < 16) : f_Ch_nextReady (some 3) (Int32.ofNat come) s = some (z_oc (z_nxt x.2.1.length r come), s) := by
  have q3 := S.1.1.2.2.1
  have key : ∀ d i f, i + d = x.2.1.length → d < f → f_Ch_nextReady_2 f (some 3) (Int32.ofNat come) (Int32.ofNat i) s = some (z_oc (z_ff (z_rdy x.2.1.length r come) d i), s) := by
    intro d
    induction d with
    | zero =>
      intro i f h1 h2
      obtain ⟨f, rfl⟩ : ∃ m, f = m + 1 := ⟨f - 1, by omega⟩
      rw [f_Ch_nextReady_2, V.count S, if_pos (by rw [x_le (by omega) (by omega)]; omega)]
      rfl
    | succ d ih =>
      intro i f h1 h2
      obtain ⟨f, rfl⟩ : ∃ m, f = m + 1 := ⟨f - 1, by omega⟩
      have b1 := z_bit0' hc (show i < 4 by omega)
      have tl : z_tog x.2.1.length r i < 16 := z_tog_lt (by omega) q3
      have sb := z_sub16 ⟨r i, (R i (by omega)).2⟩ ⟨z_tog x.2.1.length r i, tl⟩ ⟨come, hc⟩
      have e : ((Int32.ofNat (r i) &&& (Int32.ofNat (z_tog x.2.1.length r i) ^^^ (-1))) &&& (Int32.ofNat come ^^^ (-1)) = 0) = (r i &&& (come ||| z_tog x.2.1.length r i) = r i) := by
        rw [Nat.or_comm]
        by_cases w : ((Int32.ofNat (r i) &&& (Int32.ofNat (z_tog x.2.1.length r i) ^^^ (-1))) &&& (Int32.ofNat come ^^^ (-1)) = 0)
        · have := sb.symm.trans (decide_eq_true w)
          exact propext ⟨fun _ => of_decide_eq_true this, fun _ => w⟩
        · have := sb.symm.trans (decide_eq_false w)
          exact propext ⟨fun h => absurd h w, fun h => absurd h (of_decide_eq_false this)⟩
      rw [f_Ch_nextReady_2, V.count S, if_neg (by rw [x_le (by omega) (by omega)]; omega), V.part S (show i < x.2.1.length by omega), x_gI, (R i (by omega)).1, x_gI, (P2 i (by omega)).2, z_ff]
      by_cases w1 : come.testBit i = true
      · have nr : ¬ z_rdy x.2.1.length r come i = true := fun h => by unfold z_rdy at h; rw [w1] at h; cases h
        rw [if_neg (by rw [b1, w1]; decide), if_neg nr, x_p1]
        exact ih (i + 1) f (by omega) (by omega)
      · have w1' : come.testBit i = false := by cases h : come.testBit i with | true => exact absurd h w1 | false => rfl
        rw [if_pos (by rw [b1]; exact w1')]
        by_cases w2 : r i &&& (come ||| z_tog x.2.1.length r i) = r i
        · rw [if_pos (by rw [e]; exact w2), if_pos (show z_rdy x.2.1.length r come i = true from by unfold z_rdy; rw [w1', decide_eq_true w2]; rfl)]
          rfl
        · rw [if_neg (by rw [e]; exact w2), if_neg (show ¬ z_rdy x.2.1.length r come i = true from by unfold z_rdy; rw [w1', decide_eq_false w2]; decide), x_p1]
          exact ih (i + 1) f (by omega) (by omega)
  exact key x.2.1.length 0 200000 (by omega) (by omega)
theorem k_oc43 (S : E_S pl wd c A O b x tc cols xs ys u0) (k4 : Option Nat → Int32 → Int32 → g_St → Option (Unit × g_St)) {come num t : Nat} (hc : come < 16) (ht : t < 16) {s9 : g_St} (V9 : E_V c tc u0 s9) : ∃ v, f_Ch_orderComponents_43 k4 200000 (some 3) (Int32.ofNat come) (Int32.ofNat num) (Int32.ofNat t) 0 s9 = k4 (some 3) (Int32.ofNat (come ||| t)) (Int32.ofNat (num + 1)) (g_setI v 454 c.1 (Int32.ofNat (num + 1))) ∧ E_V c tc u0 v ∧ E_fk [903] [] s9 v ∧ ∀ k, k < x.2.1.length → g_I v 903 ((b 7 + k) * 64 + 7) = if t.testBit k = true then Int32.ofNat num else g_I s9 903 ((b 7 + k) * 64 + 7) := by
  have q3 := S.1.1.2.2.1
  refine z_cl x.2.1.length (fun f i s => f_Ch_orderComponents_43 k4 f (some 3) (Int32.ofNat come) (Int32.ofNat num) (Int32.ofNat t) (Int32.ofNat i) s) (fun v => k4 (some 3) (Int32.ofNat (come ||| t)) (Int32.ofNat (num + 1)) (g_setI v 454 c.1 (Int32.ofNat (num + 1)))) (fun i s => E_V c tc u0 s ∧ E_fk [903] [] s9 s ∧ (∀ k, k < i → g_I s 903 ((b 7 + k) * 64 + 7) = if t.testBit k = true then Int32.ofNat num else g_I s9 903 ((b 7 + k) * 64 + 7)) ∧ ∀ k, i ≤ k → g_I s 903 ((b 7 + k) * 64 + 7) = g_I s9 903 ((b 7 + k) * 64 + 7)) (fun v => E_V c tc u0 v ∧ E_fk [903] [] s9 v ∧ ∀ k, k < x.2.1.length → g_I v 903 ((b 7 + k) * 64 + 7) = if t.testBit k = true then Int32.ofNat num else g_I s9 903 ((b 7 + k) * 64 + 7)) ?_ ?_ x.2.1.length 0 s9 200000 (by omega) (by omega) ⟨V9, E_fk.re, fun k hk => by omega, fun _ _ => rfl⟩
  · rintro f s ⟨V, F, D, -⟩
    refine ⟨s, ?_, V, F, D⟩
    show f_Ch_orderComponents_43 k4 (f + 1) (some 3) _ _ _ (Int32.ofNat x.2.1.length) s = _
    rw [f_Ch_orderComponents_43, V.count S, if_pos (by rw [x_le (by omega) (by omega)]; exact Nat.le_refl _), x_gR, V.2.1, x_pI, x_p1, (z_or16' hc ht).1]
  · rintro f i s hi ⟨V, F, D, N⟩
    have b1 := z_bit0' ht (show i < 4 by omega)
    have st : f_Ch_orderComponents_43 k4 (f + 1) (some 3) (Int32.ofNat come) (Int32.ofNat num) (Int32.ofNat t) (Int32.ofNat i) s = if ((Int32.ofNat t >>> (Int32.ofNat i &&& 31)) &&& 1) = 0 then f_Ch_orderComponents_43 k4 f (some 3) (Int32.ofNat come) (Int32.ofNat num) (Int32.ofNat t) (Int32.ofNat (i + 1)) s else f_Ch_orderComponents_43 k4 f (some 3) (Int32.ofNat come) (Int32.ofNat num) (Int32.ofNat t) (Int32.ofNat (i + 1)) (g_setI s 903 ((b 7 + i) * 64 + 7) (Int32.ofNat num)) := by
      rw [f_Ch_orderComponents_43, V.count S, if_neg (by rw [x_le (by omega) (by omega)]; omega), V.part S hi, x_pI, x_p1]
    by_cases w : t.testBit i = true
    · rw [if_neg (by rw [b1, w]; decide)] at st
      refine ⟨_, st, V.pI (by decide) (by decide) _ _, F.pI (by decide) _ _, fun k hk => ?_, fun k hk => ?_⟩
      · by_cases e : k = i
        · rw [e, x_I_I, if_pos ⟨rfl, rfl⟩, if_pos w]
        · rw [x_I_I, if_neg (fun q => by have := q.2; omega)]
          exact D k (by omega)
      · rw [x_I_I, if_neg (fun q => by have := q.2; omega)]
        exact N k (by omega)
    · have w' : t.testBit i = false := by cases h : t.testBit i with | true => exact absurd h w | false => rfl
      rw [if_pos (by rw [b1]; exact w')] at st
      refine ⟨_, st, V, F, fun k hk => ?_, fun k hk => N k (by omega)⟩
      by_cases e : k = i
      · rw [e, if_neg w]; exact N i (Nat.le_refl _)
      · exact D k (by omega)
theorem k_oc4 (S : E_S pl wd c A O b x tc cols xs ys u0) {s9 : g_St} (V9 : E_V c tc u0 s9) {r : Nat → Nat} (R9 : E_nd b x.2.1.length s9 r) (P9 : E_np2 b x.2.1.length r x.2.1.length s9) (tr : z_cb x.2.1.length x.2.1.length r) (bd : ∀ i j, i < x.2.1.length → z_Pb r i j → j < x.2.1.length) : ∀ d come num cp f s, num + d = x.2.1.length → d < f → z_uc x.2.1.length come ≤ d → come < 2 ^ x.2.1.length → E_V c tc u0 s → E_fk [903, 454] [] s9 s → E_cp c b x.2.1.length come num cp s → ∃ v come', f_Ch_orderComponents_4 f (some 3) (Int32.ofNat come) (Int32.ofNat num) s = some ((), v) ∧ E_V c tc u0 v ∧ E_fk [903, 454] [] s9 v ∧ (∀ i, i < x.2.1.length → come'.testBit i = true) ∧ E_cp c b x.2.1.length come' (z_ord x.2.1.length r d come num cp).2 (z_ord x.2.1.length r d come num cp).1 v := by
  have q3 := S.1.1.2.2.1
  have hpow : 2 ^ x.2.1.length ≤ 16 := Nat.pow_le_pow_right (n := 2) (by decide) q3
  intro d
  induction d with
  | zero =>
    intro come num cp f s h1 h2 h3 h4 V F C
    obtain ⟨f, rfl⟩ : ∃ m, f = m + 1 := ⟨f - 1, by omega⟩
    refine ⟨s, come, ?_, V, F, z_uc_0 (by omega), C⟩
    rw [f_Ch_orderComponents_4, V.count S, if_pos (by rw [x_le (by omega) (by omega)]; omega)]
  | succ d ih =>
    intro come num cp f s h1 h2 h3 h4 V F C
    obtain ⟨f, rfl⟩ : ∃ m, f = m + 1 := ⟨f - 1, by omega⟩
    have Rs : E_nd b x.2.1.length s r := fun k hk => by rw [F.2.1 _ _ (by decide)]; exact R9 k hk
    have Ps : E_np2 b x.2.1.length r x.2.1.length s := fun k hk => by rw [F.2.1 _ _ (by decide), F.2.1 _ _ (by decide)]; exact P9 k hk
    have nx := k_nxt S V Rs Ps (come := come) (by omega)
    rw [f_Ch_orderComponents_4, V.count S, if_neg (by rw [x_le (by omega) (by omega)]; omega), x_nn, nx, x_c, z_ord]
    cases hz : z_nxt x.2.1.length r come with
    | none =>
      rw [if_neg (show ¬ (0 : Int32) ≤ z_oc none from by decide)]
      refine ⟨s, come, rfl, V, F, fun i hi => ?_, C⟩
      cases hb : come.testBit i with
      | true => rfl
      | false =>
        obtain ⟨p, p1, -⟩ := z_nxt_ex tr bd hi hb
        rw [hz] at p1
        cases p1
    | some p =>
      have pz : z_ff (z_rdy x.2.1.length r come) x.2.1.length 0 = some p := hz
      obtain ⟨c1, c2, c3, c4⟩ := z_ff_some pz
      have pm : p < x.2.1.length := by omega
      have p3 : come.testBit p = false := by
        unfold z_rdy at c3
        cases hb : come.testBit p with
        | true => rw [hb] at c3; cases c3
        | false => rfl
      have tl : z_tog x.2.1.length r p < 16 := z_tog_lt (by omega) q3
      have tb : ∀ k, (z_tog x.2.1.length r p).testBit k = true → k < x.2.1.length := fun k hk => by
        rcases z_tog_bit.mp hk with e | e
        · omega
        · exact e.1
      have tlt : z_tog x.2.1.length r p < 2 ^ x.2.1.length := Nat.lt_pow_two_of_testBit _ (fun k hk => by
        cases hb : (z_tog x.2.1.length r p).testBit k with
        | false => rfl
        | true => have := tb k hb; omega)
      have pt : (z_tog x.2.1.length r p).testBit p = true := z_tog_bit.mpr (Or.inl rfl)
      have un := z_uc_lt (c := come) (c' := come ||| z_tog x.2.1.length r p) (p := p) (fun i h => by rw [Nat.testBit_or, h]; rfl) p3 (by rw [Nat.testBit_or, pt, Bool.or_true]) x.2.1.length pm
      obtain ⟨v, v1, v2, v3, v4⟩ := k_oc43 S (f_Ch_orderComponents_4 f) (come := come) (num := num) (by omega) tl V
      rw [if_pos (show (0 : Int32) ≤ z_oc (some p) from by show (0 : Int32) ≤ Int32.ofNat p; rw [show (0 : Int32) = Int32.ofNat 0 from rfl, x_le (by omega) (by omega)]; omega), show z_oc (some p) = Int32.ofNat p from rfl, V.part S pm, x_gI, (Ps p pm).2, v1]
      refine ih (come ||| z_tog x.2.1.length r p) (num + 1) _ f _ (by omega) (by omega) (by omega) (Nat.or_lt_two_pow h4 tlt) (v2.pI (by decide) (by decide) _ _) ((F.trans (v3.mono (by decide) (by decide))).pI (by decide) _ _) ⟨fun k hk => ?_, by rw [x_I_I, if_pos ⟨rfl, rfl⟩]⟩
      rw [x_I_I, if_neg (fun q => by have := q.1; omega), v4 k hk, C.1 k hk, Nat.testBit_or]
      cases h7 : (z_tog x.2.1.length r p).testBit k with
      | true => rw [if_pos rfl, Bool.or_true, if_pos rfl]; show _ = Int32.ofNat (if (z_tog x.2.1.length r p).testBit k = true then num else cp k); rw [if_pos h7]
      | false =>
        rw [if_neg (by decide), Bool.or_false]
        cases come.testBit k with
        | true => rw [if_pos rfl, if_pos rfl]; show _ = Int32.ofNat (if (z_tog x.2.1.length r p).testBit k = true then num else cp k); rw [if_neg (by rw [h7]; decide)]
        | false => rw [if_neg (by decide), if_neg (by decide)]
def E_oc (c : z_Cx) (b : Nat → Nat) (nw : Nat → Nat) (x : z_Qu) (tc : Nat) (v : g_St) : Prop := (∀ k, k < x.2.1.length → g_I v 903 ((b 7 + k) * 64 + 7) = Int32.ofNat ((z_cmp nw x tc).1 k)) ∧ g_I v 454 c.1 = Int32.ofNat (z_cmp nw x tc).2
theorem k_oc (S : E_S pl wd c A O b x tc cols xs ys u0) {s9 : g_St} (V9 : E_V c tc u0 s9) (R9 : E_nd b x.2.1.length s9 (z_rch nw x tc)) (P9 : E_np2 b x.2.1.length (z_rch nw x tc) x.2.1.length s9) (h0 : ∀ k, k < x.2.1.length → g_I s9 903 ((b 7 + k) * 64 + 7) = -1) (h1 : g_I s9 454 c.1 = 0) : ∃ v, f_Ch_orderComponents (some 3) s9 = some ((), v) ∧ E_V c tc u0 v ∧ E_fk [903, 454] [] s9 v ∧ E_oc c b nw x tc v := by
  have q3 := S.1.1.2.2.1
  obtain ⟨v, come, a1, a2, a3, a4, a5⟩ := k_oc4 S V9 R9 P9 (z_c4_tr q3 _) (fun i j hi h => z_rch_bd hi h) x.2.1.length 0 0 (fun _ => 0) 200000 s9 (by omega) (by omega) (z_uc_le _ _) (Nat.two_pow_pos _) V9 E_fk.re ⟨fun k hk => by rw [Nat.zero_testBit, if_neg (by decide)]; exact h0 k hk, h1⟩
  refine ⟨v, a1, a2, a3, fun k hk => ?_, a5.2⟩
  rw [a5.1 k hk, if_pos (a4 k hk)]
  rfl
end
