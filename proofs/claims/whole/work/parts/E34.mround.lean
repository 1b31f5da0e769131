/-! RUNNING (reference): the selections of a round -/
theorem z_or1 : ∀ a : Fin 16, ∀ k : Fin 4, (Int32.ofNat a.1 ||| ((1 : Int32) <<< (Int32.ofNat k.1 &&& 31))) = Int32.ofNat (a.1 ||| 1 <<< k.1) := by decide +kernel
theorem z_orlt : ∀ a : Fin 16, ∀ k : Fin 4, (a.1 ||| 1 <<< k.1) < 16 := by decide +kernel
theorem z_or0 (a : Nat) : Int32.ofNat a ||| 0 = Int32.ofNat a := Int32.or_zero
theorem z_ortb (a k q : Nat) : (a ||| 1 <<< k).testBit q = (a.testBit q || decide (k = q)) := by
  rw [Nat.testBit_or, Nat.shiftLeft_eq, Nat.one_mul, Nat.testBit_two_pow]
def M_stc (w : g_St) (np nt : Nat) (Xs : Nat → r_Pt) (tw cp ns fs : Nat → Nat) (ual rec : Nat → Bool) (names : Nat → Nat → Bool) (sl : Nat → Nat → r_Sel) : Prop := g_I w 1153 1 = Int32.ofNat np ∧ np ≤ 4 ∧ ∀ q, q < np → (M_pcv w q (Xs q) ∧ g_AI w 4052 q = Int32.ofNat (cp q) ∧ cp q ≤ 3 ∧ g_AI w 1940 q = Int32.ofNat (ns q) ∧ ns q ≤ 4 ∧ g_AI w 1876 q = Int32.ofNat (fs q) ∧ fs q + ns q ≤ 16) ∧ g_AI w 95 q = z_g (ual q) ∧ (∃ r, g_AI w 3988 q = Int32.ofNat r ∧ r < 16 ∧ r.testBit q = rec q) ∧ ∀ k, k < ns q → M_psl w np nt Xs tw (fs q + k) q (sl q k).1 (sl q k).2.1 (sl q k).2.2.1 ∧ g_AI w 159 (fs q + k) = z_g (!decide (r_gc (sl q k).1 = 0)) ∧ ∃ c, c ≤ 100 ∧ (names q k = true ↔ 0 < c) ∧ ∀ w', M_K w w' → f_M_timesNamed (some 1) (Int32.ofNat (fs q + k)) (Int32.ofNat q) w' = some (Int32.ofNat c, w')
theorem M_stc.mv {u w : g_St} (h : M_K u w) {np nt : Nat} {Xs : Nat → r_Pt} {tw cp ns fs : Nat → Nat} {ual rec : Nat → Bool} {names : Nat → Nat → Bool} {sl : Nat → Nat → r_Sel} (q : M_stc u np nt Xs tw cp ns fs ual rec names sl) : M_stc w np nt Xs tw cp ns fs ual rec names sl := by
  obtain ⟨q1, q0, q2⟩ := q
  refine ⟨by rw [h.fi (by decide)]; exact q1, q0, fun p hp => ?_⟩
  obtain ⟨⟨a1, a2, a3, a4, a5, a6, a7⟩, b, c, d⟩ := q2 p hp
  refine ⟨⟨a1.mv h, by rw [h.ai (a := 4052) (by decide)]; exact a2, a3, by rw [h.ai (a := 1940) (by decide)]; exact a4, a5, by rw [h.ai (a := 1876) (by decide)]; exact a6, a7⟩, by rw [h.ai (a := 95) (by decide)]; exact b, by rw [h.ai (a := 3988) (by decide)]; exact c, fun k hk => ?_⟩
  obtain ⟨d1, d2, n, d3, d4, d5⟩ := d k hk
  exact ⟨d1.mv h, by rw [h.ai (a := 159) (by decide)]; exact d2, n, d3, d4, fun w' hw' => d5 w' (h.trans hw')⟩
/-- a part is recursive -/
theorem m_isr {w : g_St} (F : m_Fix w) {q r : Nat} {b : Bool} (hq : q < 4) (h : g_AI w 3988 q = Int32.ofNat r) (hr : r < 16) (hb : r.testBit q = b) : f_M_isRecursive (some 1) (Int32.ofNat q) w = some (z_g b, w) := by
  have f1 : g_R w 4737 1 = some 3988 ∧ g_ln w 3988 = 4 := F (4737, 3988, 4) (by decide)
  unfold f_M_isRecursive
  rw [x_gR, f1.1, x_aI (by omega) (by omega), h]
  cases b with
  | true => rw [if_pos (by rw [z_bit16' hr hq]; exact hb)]; rfl
  | false => rw [if_neg (by rw [z_bit16' hr hq, hb]; decide)]; rfl
/-- what stands between two selections -/
def M_rst (w0 : g_St) (np nt : Nat) (Xs : Nat → r_Pt) (tw : Nat → Nat) (tbl : Nat → List (Nat → Int64)) (al : Nat) (w : g_St) (P : M_Pl) : Prop := M_K w0 w ∧ M_st w np nt Xs tw tbl P ∧ M_ro Xs P ∧ g_I w 1 1 = 0 ∧ g_I w 5377 1 = 0 ∧ P.length ≤ al
def M_rrs (w0 : g_St) (np nt : Nat) (Xs : Nat → r_Pt) (tw : Nat → Nat) (tbl : Nat → List (Nat → Int64)) (al : Nat) (Iv : M_Pl → Prop) (w : g_St) (P : M_Pl) : r_Rs ⊕ Nat → Prop
  | .inl s => ∃ D : M_Pl, s = (M_pr (P ++ D), (P ++ D).length) ∧ M_rst w0 np nt Xs tw tbl al w (P ++ D) ∧ Iv (P ++ D)
  | .inr c => M_K w0 w ∧ g_I w 1 1 = Int32.ofNat (c + 1) ∧ c < 100
/-- what working a selection asks for -/
def r_wpk (np : Nat) (Xs : Nat → r_Pt) (cp tw : Nat → Nat) (ua : Nat → Bool) (st bf : Nat → Nat) (low high : Nat) (y : r_Sel) (p : Nat) (P : M_Pl) : Prop := high ≤ P.length ∧ (∀ q, q < np → cp p = cp q → st q = (M_pr (P.take high) q).length ∧ (if ua q = true then bf q else 0) = (M_pr (P.take low) q).length ∧ ((Xs q).2.2.1.isSome = true → p = q)) ∧ (∀ i, i < y.2.2.1.length → y.2.2.2.1 i ≤ y.2.1.length ∧ r_ucd Xs tw y.2.1 (y.2.2.2.1 i) (y.2.2.1.getD i r_cd0)) ∧ (∀ i z, i < y.2.2.1.length → y.2.2.1.getD i r_cd0 = .inr z → z.1 ≠ .inl p) ∧ (r_tr (Xs p) = true → (∀ k k', k < y.2.1.length → k' < y.2.1.length → r_ml y.2.1 k = .inl p → r_ml y.2.1 k' = .inl p → k = k') ∧ (r_gc y.1 ≠ 0 → ∀ k, k < y.2.1.length → r_ml y.2.1 k ≠ .inl p) ∧ ∀ r ∈ (M_pr P p).take (st p), r.length ≤ 29)
section
variable {w0 : g_St} {np nt : Nat} {Xs : Nat → r_Pt} {tw cp ns fs : Nat → Nat} {ual rec : Nat → Bool} {names : Nat → Nat → Bool} {sl : Nat → Nat → r_Sel} {tbl : Nat → List (Nat → Int64)} {al c : Nat} {ua : Nat → Bool} {st bf : Nat → Nat} {low high mask : Nat} {Iv : M_Pl → Prop} {bg : Bool}
/-- with an error nothing more happens -/
theorem m_rskip (F0 : m_Fix w0) (H : M_stc w0 np nt Xs tw cp ns fs ual rec names sl) {x1 x2 x3 x4 x5 : Int32} {w : g_St} (K : M_K w0 w) (hc : g_I w 1 1 ≠ 0) : ∀ (d q f : Nat), q + d = np → d < f → f_M_round_48 f (some 1) x1 x2 x3 x4 x5 (Int32.ofNat q) w = some ((), w) := by
  have H' := H.mv K
  have F := K.fx F0
  have np4 := H'.2.1
  intro d
  induction d with
  | zero =>
    intro q f e1 e2
    obtain ⟨f, rfl⟩ : ∃ m, f = m + 1 := ⟨f - 1, by omega⟩
    rw [f_M_round_48, x_gI, H'.1, if_pos (by rw [x_le (by omega) (by omega)]; omega)]
  | succ d ih =>
    intro q f e1 e2
    obtain ⟨f, rfl⟩ : ∃ m, f = m + 1 := ⟨f - 1, by omega⟩
    obtain ⟨⟨a1, a2, a3, a4, a5, a6, a7⟩, b, ⟨r, r1, r2, r3⟩, -⟩ := H'.2.2 q (by omega)
    have f1 : g_R w 4801 1 = some 4052 ∧ g_ln w 4052 = 4 := F (4801, 4052, 4) (by decide)
    have f2 : g_R w 1921 1 = some 95 ∧ g_ln w 95 = 4 := F (1921, 95, 4) (by decide)
    have f3 : g_R w 2049 1 = some 1940 ∧ g_ln w 1940 = 4 := F (2049, 1940, 4) (by decide)
    have e100 : ∀ x7, f_M_round_100 (f_M_round_48 f) 200000 (some 1) x1 x2 x3 x4 x5 (Int32.ofNat q) x7 0 w = some ((), w) := fun x7 => by
      rw [show (200000 : Nat) = 199999 + 1 from rfl, f_M_round_100, x_gR, f3.1, x_aI (by omega) (by omega), x_gI, if_neg hc, ite_self, x_p1]
      exact ih (q + 1) f (by omega) (by omega)
    rw [f_M_round_48, x_gI, H'.1, if_neg (by rw [x_le (by omega) (by omega)]; omega), x_gR, f1.1, x_aI (by omega) (by omega), x_nn, m_isr F (by omega) r1 r2 r3, x_c, x_gR, f2.1, x_aI (by omega) (by omega), e100, e100, ite_self, ite_self, x_p1, ih (q + 1) f (by omega) (by omega), ite_self]
/-- the selections of a part -/
theorem m_r100 (F0 : m_Fix w0) (H : M_stc w0 np nt Xs tw cp ns fs ual rec names sl) (hal : g_I w0 5441 1 = Int32.ofNat al) (al1 : 1 ≤ al) (al48 : al ≤ 48) (hm16 : mask < 16) (hin : ∀ q, q < np → mask.testBit q = decide (c = cp q)) (lh : low ≤ high) (hW : ∀ q k P, q < np → cp q = c → k < ns q → Iv P → r_wpk np Xs cp tw ua st bf low high (sl q k) q P) (hI : ∀ q k P (l : List r_Row), q < np → cp q = c → k < ns q → Iv P → r_one Xs cp ua tbl al st bf (sl q k) q (M_pr P, P.length) = .inl (M_pr (P ++ l.map fun r => (q, r)), (P ++ l.map fun r => (q, r)).length) → Iv (P ++ l.map fun r => (q, r))) (hE : ∀ q k s e, r_one Xs cp ua tbl al st bf (sl q k) q s = .inr e → e < 100) {q : Nat} (hq : q < np) (hcq : cp q = c) {spl : Bool} (f : Nat) : ∀ (d k F : Nat) (w : g_St) (P : M_Pl), k + d = ns q → d < F → M_rst w0 np nt Xs tw tbl al w P → Iv P → ∃ w', f_M_round_100 (f_M_round_48 f) F (some 1) (Int32.ofNat c) (Int32.ofNat low) (Int32.ofNat high) (z_g bg) (Int32.ofNat mask) (Int32.ofNat q) (z_g spl) (Int32.ofNat k) w = f_M_round_48 f (some 1) (Int32.ofNat c) (Int32.ofNat low) (Int32.ofNat high) (z_g bg) (Int32.ofNat mask) (Int32.ofNat (q + 1)) w' ∧ M_rrs w0 np nt Xs tw tbl al Iv w' P (r_seq (fun j => r_one Xs cp ua tbl al st bf (sl j.1 j.2) j.1) (r_jk (fun q k => !spl || (names q k != bg)) false q (List.range' k d)) (M_pr P, P.length)) := by
  have np4 := H.2.1
  intro d
  induction d with
  | zero =>
    intro k F w P e1 e2 hr hi
    obtain ⟨F, rfl⟩ : ∃ m, F = m + 1 := ⟨F - 1, by omega⟩
    have H' := H.mv hr.1
    have F1 := hr.1.fx F0
    obtain ⟨⟨a1, a2, a3, a4, a5, a6, a7⟩, -⟩ := H'.2.2 q hq
    have f3 : g_R w 2049 1 = some 1940 ∧ g_ln w 1940 = 4 := F1 (2049, 1940, 4) (by decide)
    rw [f_M_round_100, x_gR, f3.1, x_aI (by omega) (by omega), a4, if_pos (by rw [x_le (by omega) (by omega)]; omega), x_p1]
    refine ⟨w, rfl, [], ?_, ?_, ?_⟩
    · rw [List.append_nil]
    · rw [List.append_nil]; exact hr
    · rw [List.append_nil]; exact hi
  | succ d ih =>
    intro k F w P e1 e2 hr hi
    obtain ⟨F, rfl⟩ : ∃ m, F = m + 1 := ⟨F - 1, by omega⟩
    have hk : k < ns q := by omega
    have H' := H.mv hr.1
    have F1 := hr.1.fx F0
    obtain ⟨⟨a1, a2, a3, a4, a5, a6, a7⟩, b, cc, dd⟩ := H'.2.2 q hq
    obtain ⟨d1, d2, n, d3, d4, d5⟩ := dd k hk
    have f3 : g_R w 2049 1 = some 1940 ∧ g_ln w 1940 = 4 := F1 (2049, 1940, 4) (by decide)
    have f4 : g_R w 1985 1 = some 1876 ∧ g_ln w 1876 = 5 := F1 (1985, 1876, 5) (by decide)
    have jk : r_jk (fun q k => !spl || (names q k != bg)) false q (List.range' k (d + 1)) = if (!spl || (names q k != bg)) = true then (q, k) :: r_jk (fun q k => !spl || (names q k != bg)) false q (List.range' (k + 1) d) else r_jk (fun q k => !spl || (names q k != bg)) false q (List.range' (k + 1) d) := by
      unfold r_jk
      rw [List.range'_succ, List.filter_cons]
      show List.map _ (if (false || (!spl || (names q k != bg))) = true then _ else _) = _
      rw [Bool.false_or]
      by_cases g : (!spl || (names q k != bg)) = true
      · rw [if_pos g, if_pos g, List.map_cons]
      · rw [if_neg g, if_neg g]
    -- it is left out
    have skip : (!spl || (names q k != bg)) = false → ∃ w', f_M_round_100 (f_M_round_48 f) F (some 1) (Int32.ofNat c) (Int32.ofNat low) (Int32.ofNat high) (z_g bg) (Int32.ofNat mask) (Int32.ofNat q) (z_g spl) (Int32.ofNat (k + 1)) w = f_M_round_48 f (some 1) (Int32.ofNat c) (Int32.ofNat low) (Int32.ofNat high) (z_g bg) (Int32.ofNat mask) (Int32.ofNat (q + 1)) w' ∧ M_rrs w0 np nt Xs tw tbl al Iv w' P (r_seq (fun j => r_one Xs cp ua tbl al st bf (sl j.1 j.2) j.1) (r_jk (fun q k => !spl || (names q k != bg)) false q (List.range' k (d + 1))) (M_pr P, P.length)) := fun g => by
      rw [jk, if_neg (by rw [g]; decide)]
      exact ih (k + 1) F w P (by omega) (by omega) hr hi
    -- it is worked out
    have work : (!spl || (names q k != bg)) = true → ∃ w', f_M_round_161 (f_M_round_100 (f_M_round_48 f) F) (some 1) (Int32.ofNat c) (Int32.ofNat low) (Int32.ofNat high) (z_g bg) (Int32.ofNat mask) (Int32.ofNat q) (z_g spl) (Int32.ofNat k) (Int32.ofNat (fs q + k)) w = f_M_round_48 f (some 1) (Int32.ofNat c) (Int32.ofNat low) (Int32.ofNat high) (z_g bg) (Int32.ofNat mask) (Int32.ofNat (q + 1)) w' ∧ M_rrs w0 np nt Xs tw tbl al Iv w' P (r_seq (fun j => r_one Xs cp ua tbl al st bf (sl j.1 j.2) j.1) (r_jk (fun q k => !spl || (names q k != bg)) false q (List.range' k (d + 1))) (M_pr P, P.length)) := fun g => by
      rw [jk, if_pos g, r_seq]
      obtain ⟨k0, s1, s2, s3, s4, s5⟩ := hr
      obtain ⟨v1, v2, v3, v4, v5⟩ := hW q k P hq hcq hk hi
      obtain ⟨w1, m1, m2⟩ := m_wop (cp := cp) (ua := ua) (st := st) (bf := bf) s1 d1 d2 (fun q' hq' => (H'.2.2 q' hq').1.1) (by rw [k0.fi (by decide)]; exact hal) al1 al48 s3 s4 s2 s5 hm16 (fun q' hq' => by rw [hin q' hq', hcq]) lh v1 v2 v3 v4 v5
      have W1 := w_M_workOut _ _ _ _ _ F1 m1
      have K1 : M_K w0 w1 := k0.trans (W1.mono (by decide) (by decide))
      unfold f_M_round_161
      rw [x_nn, m1, x_c, x_p1]
      show ∃ w', _ ∧ M_rrs w0 np nt Xs tw tbl al Iv w' P (match r_one Xs cp ua tbl al st bf (sl q k) q (M_pr P, P.length) with | .inl s' => r_seq (fun j => r_one Xs cp ua tbl al st bf (sl j.1 j.2) j.1) (r_jk (fun q k => !spl || (names q k != bg)) false q (List.range' (k + 1) d)) s' | .inr c => .inr c)
      cases ho : r_one Xs cp ua tbl al st bf (sl q k) q (M_pr P, P.length) with
      | inr e =>
        rw [ho] at m2
        have e100 := hE q k _ e ho
        have c1 : g_I w1 1 1 = Int32.ofNat (e + 1) := m2
        have ne : g_I w1 1 1 ≠ 0 := by
          rw [c1, show (0 : Int32) = Int32.ofNat 0 from rfl]
          intro z
          rw [x_eq (by omega) (by omega)] at z
          omega
        obtain ⟨F, rfl⟩ : ∃ m, F = m + 1 := ⟨F - 1, by omega⟩
        have F2 := K1.fx F0
        have f3' : g_R w1 2049 1 = some 1940 ∧ g_ln w1 1940 = 4 := F2 (2049, 1940, 4) (by decide)
        refine ⟨w1, ?_, K1, c1, e100⟩
        rw [f_M_round_100, x_gR, f3'.1, x_aI (by omega) (by omega), x_gI, if_neg ne, ite_self, x_p1]
      | inl s' =>
        rw [ho] at m2
        obtain ⟨l, l1, l2, l3, l4, l5, l6⟩ := m2
        have ivp : Iv (P ++ l.map fun r => (q, r)) := hI q k P l hq hcq hk hi (by rw [ho, l1])
        obtain ⟨w', n1, n2⟩ := ih (k + 1) F w1 (P ++ l.map fun r => (q, r)) (by omega) (by omega) ⟨K1, l2, l3, l4, l5, l6⟩ ivp
        refine ⟨w', n1, ?_⟩
        show M_rrs w0 np nt Xs tw tbl al Iv w' P (r_seq (fun j => r_one Xs cp ua tbl al st bf (sl j.1 j.2) j.1) (r_jk (fun q k => !spl || (names q k != bg)) false q (List.range' (k + 1) d)) s')
        rw [l1]
        generalize r_seq (fun j => r_one Xs cp ua tbl al st bf (sl j.1 j.2) j.1) (r_jk (fun q k => !spl || (names q k != bg)) false q (List.range' (k + 1) d)) (M_pr (P ++ l.map fun r => (q, r)), (P ++ l.map fun r => (q, r)).length) = R at n2 ⊢
        cases R with
        | inr e => exact n2
        | inl z =>
          obtain ⟨D, D1, D2, D3⟩ := n2
          exact ⟨l.map (fun r => (q, r)) ++ D, by rw [← List.append_assoc]; exact D1, by rw [← List.append_assoc]; exact D2, by rw [← List.append_assoc]; exact D3⟩
    rw [f_M_round_100, x_gR, f3.1, x_aI (by omega) (by omega), a4, if_neg (by rw [x_le (by omega) (by omega)]; omega), x_gI, hr.2.2.2.1, if_pos rfl, x_gR, f4.1, x_aI (by omega) (by omega), a6, x_add, x_nn, d5 w z_W.re, x_c]
    have e147 : ∀ b : Bool, names q k = b → ∃ w', f_M_round_147 (f_M_round_100 (f_M_round_48 f) F) (some 1) (Int32.ofNat c) (Int32.ofNat low) (Int32.ofNat high) (z_g bg) (Int32.ofNat mask) (Int32.ofNat q) (z_g spl) (Int32.ofNat k) (Int32.ofNat (fs q + k)) (z_g b) w = f_M_round_48 f (some 1) (Int32.ofNat c) (Int32.ofNat low) (Int32.ofNat high) (z_g bg) (Int32.ofNat mask) (Int32.ofNat (q + 1)) w' ∧ M_rrs w0 np nt Xs tw tbl al Iv w' P (r_seq (fun j => r_one Xs cp ua tbl al st bf (sl j.1 j.2) j.1) (r_jk (fun q k => !spl || (names q k != bg)) false q (List.range' k (d + 1))) (M_pr P, P.length)) := fun b hb => by
      unfold f_M_round_147
      cases hs : spl with
      | false =>
        rw [if_pos (show z_g false = 0 from rfl)]
        have := work (by rw [hs]; rfl)
        rw [hs] at this
        exact this
      | true =>
        rw [if_neg (show ¬ z_g true = 0 from by decide)]
        by_cases e : b = bg
        · rw [if_pos (by rw [e]), x_p1]
          have := skip (by rw [hs, hb, e]; cases bg <;> rfl)
          rw [hs] at this
          exact this
        · rw [if_neg (by cases b <;> cases bg <;> first | exact absurd rfl e | decide)]
          have := work (by rw [hs, hb]; cases b <;> cases bg <;> first | exact absurd rfl e | rfl)
          rw [hs] at this
          exact this
    cases hb : names q k with
    | false =>
      have n0 : ¬ 0 < n := fun z => by rw [d4.mpr z] at hb; cases hb
      rw [if_pos (by rw [show (0 : Int32) = Int32.ofNat 0 from rfl, x_le (by omega) (by omega)]; omega)]
      exact e147 false hb
    | true =>
      have n0 : 0 < n := d4.mp hb
      rw [if_neg (by rw [show (0 : Int32) = Int32.ofNat 0 from rfl, x_le (by omega) (by omega)]; omega)]
      exact e147 true hb
end
