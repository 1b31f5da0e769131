/-! RUNNING (reference): a component -/
def M_tl (w : g_St) (c : Nat) (tl : List Nat) : Prop := ∀ i, i < tl.length → g_AI w 4436 (32 * c + i) = Int32.ofNat (tl.getD i 0)
/-- what is known of the selections -/
def r_stl (np nt : Nat) (Xs : Nat → r_Pt) (cp tw ns : Nat → Nat) (sl : Nat → Nat → r_Sel) : Prop := (∀ q k, q < np → k < ns q → r_wsl np nt Xs cp tw (some q) (sl q k) ∧ (sl q k).1.length = (Xs q).1 ∧ (r_gc (sl q k).1 ≠ 0 → r_tr (Xs q) = true → ∀ m, m < (sl q k).2.1.length → r_ml (sl q k).2.1 m ≠ .inl q) ∧ (∀ i, i < (sl q k).2.2.1.length → (sl q k).2.2.2.1 i ≤ (sl q k).2.1.length ∧ r_ucd Xs tw (sl q k).2.1 ((sl q k).2.2.2.1 i) ((sl q k).2.2.1.getD i r_cd0)) ∧ (r_tr (Xs q) = true → ∀ m m', m < (sl q k).2.1.length → m' < (sl q k).2.1.length → r_ml (sl q k).2.1 m = .inl q → r_ml (sl q k).2.1 m' = .inl q → m = m')) ∧ ∀ p q, p < np → q < np → cp p = cp q → (Xs q).2.2.1.isSome = true → p = q
def M_cres (w0 : g_St) (np nt : Nat) (Xs : Nat → r_Pt) (cp tw : Nat → Nat) (tbl : Nat → List (Nat → Int64)) (al mr c : Nat) (w w' : g_St) : r_Cs ⊕ Nat → Prop
  | .inl x => ∃ P : M_Pl, x.1 = (M_pr P, P.length) ∧ M_rst w0 np nt Xs tw tbl al w' P ∧ r_J np Xs cp tw c x.2.2.2.length x.2.1 x.2.2.1 x.1 ∧ M_tl w' c x.2.2.2 ∧ (1 ≤ x.2.2.2.length ∧ x.2.2.2.length ≤ mr) ∧ g_AI w' 4372 c = Int32.ofNat x.2.2.2.length ∧ (∀ j, ¬ (32 * c ≤ j ∧ j < 32 * c + 32) → g_AI w' 4436 j = g_AI w 4436 j) ∧ ∀ j, j ≠ c → g_AI w' 4372 j = g_AI w 4372 j
  | .inr e => M_K w0 w' ∧ g_I w' 1 1 = Int32.ofNat (e + 1) ∧ e < 100
theorem r_seq_e {one : Nat × Nat → r_Rs → r_Rs ⊕ Nat} {E : Nat → Prop} (h : ∀ j s e, one j s = .inr e → E e) : ∀ (l : List (Nat × Nat)) (s : r_Rs) (e : Nat), r_seq one l s = .inr e → E e := by
  intro l
  induction l with
  | nil => intro s e q; rw [r_seq] at q; cases q
  | cons j l ih =>
    intro s e q
    rw [r_seq] at q
    cases ho : one j s with
    | inr c => rw [ho] at q; rw [← Sum.inr.inj q]; exact h j s c ho
    | inl s1 => rw [ho] at q; exact ih s1 e q
section
variable {w0 : g_St} {np nt : Nat} {Xs : Nat → r_Pt} {tw cp ns fs : Nat → Nat} {ua rec : Nat → Bool} {nm names : Nat → Nat → Bool} {sl : Nat → Nat → r_Sel} {tbl : Nat → List (Nat → Int64)} {al mr c : Nat} {rc alls : Bool}
/-- how it goes on behind a round -/
def M_crt (rc alls : Bool) (c mr e n F : Nat) (s5 : g_St) : Option (Unit × g_St) := if z_g rc = 0 then f_M_workComponent_197 (f_M_workComponent_107 F) (some 1) (Int32.ofNat c) (Int32.ofNat mr) (z_g rc) (z_g alls) (Int32.ofNat (e + 1)) (Int32.ofNat n) 0 s5 else g_gI s5 4929 (some 1) fun i6 => if i6 ≤ Int32.ofNat n then f_M_workComponent_197 (f_M_workComponent_107 F) (some 1) (Int32.ofNat c) (Int32.ofNat mr) (z_g rc) (z_g alls) (Int32.ofNat (e + 1)) (Int32.ofNat n) 0 s5 else f_M_workComponent_197 (f_M_workComponent_107 F) (some 1) (Int32.ofNat c) (Int32.ofNat mr) (z_g rc) (z_g alls) (Int32.ofNat (e + 1)) (Int32.ofNat n) 1 s5
def M_crr (w0 : g_St) (np nt : Nat) (Xs : Nat → r_Pt) (cp tw : Nat → Nat) (tbl : Nat → List (Nat → Int64)) (al c e : Nat) (st bf : Nat → Nat) (Cl : r_Rs → Prop) (P : M_Pl) (w s5 : g_St) : r_Rs ⊕ Nat → Prop
  | .inl s => ∃ D : M_Pl, s = (M_pr (P ++ D), (P ++ D).length) ∧ M_rst w0 np nt Xs tw tbl al s5 (P ++ D) ∧ r_J np Xs cp tw c (e + 1) st bf s ∧ Cl s ∧ g_AI s5 4436 (32 * c + e) = Int32.ofNat D.length ∧ (∀ j, j ≠ 32 * c + e → g_AI s5 4436 j = g_AI w 4436 j) ∧ g_AI s5 4372 = g_AI w 4372
  | .inr e => M_K w0 s5 ∧ g_I s5 1 1 = Int32.ofNat (e + 1) ∧ e < 100
theorem m_crd (F0 : m_Fix w0) (H : M_stc w0 np nt Xs tw cp ns fs ua rec names sl) (hal : g_I w0 5441 1 = Int32.ofNat al) (al1 : 1 ≤ al) (al48 : al ≤ 48) (mr30 : mr ≤ 30) (c3 : c ≤ 3) (Q : r_qok np Xs cp ns nm names rec ua sl) (Z : r_stl np nt Xs cp tw ns sl) (hA1 : alls = true → ∀ q, q < np → cp q = c → ua q = true) (hA2 : alls = false → rc = true → ∀ q, q < np → cp q = c → ua q = false) (hX6 : rc = true → ∀ q, q < np → cp q = c → (rec q && ua q) = false → (Xs q).2.2.2 = true) (w3 : ∀ q, q < np → (Xs q).1 ≤ 3) (T16 : ∀ t, t < nt → (tbl t).length ≤ 48) {e F : Nat} {w : g_St} {P : M_Pl} {st bf : Nat → Nat} {low : Nat} (e1 : e < mr) (hr : M_rst w0 np nt Xs tw tbl al w P) (hj : r_J np Xs cp tw c e st bf (M_pr P, P.length)) (hlo : low ≤ P.length) (hst : ∀ q, q < np → cp q = c → st q = (M_pr (P.take low) q).length) (h0 : e = 0 → ∀ q, q < np → cp q = c → M_pr P q = [] ∧ st q = 0) (hcl : 0 < e → rc = true ∧ r_all_clo np Xs cp ns nm rec ua tbl al sl c (M_pr P, P.length)) : ∃ s5, f_M_workComponent_107 (F + 1) (some 1) (Int32.ofNat c) (Int32.ofNat mr) (z_g rc) (z_g alls) (Int32.ofNat e) (Int32.ofNat low) 1 w = M_crt rc alls c mr e P.length F s5 ∧ M_crr w0 np nt Xs cp tw tbl al c e (r_nst cp c (M_pr P) st) (r_nbf cp c st bf) (fun s => rc = true → r_all_clo np Xs cp ns nm rec ua tbl al sl c s) P w s5 (r_seq (fun j => r_one Xs cp ua tbl al (r_nst cp c (M_pr P) st) (r_nbf cp c st bf) (sl j.1 j.2) j.1) (r_jobs cp ns nm c (decide (e + 1 = 1)) (List.range np)) (M_pr P, P.length)) := by
  have np4 := H.2.1
  have hE : ∀ (st bf : Nat → Nat) q k s e, r_one Xs cp ua tbl al st bf (sl q k) q s = .inr e → e < 100 := fun st bf q k s e h => by
    rcases r_one_e h with h | h <;> omega
  have P48 := hr.2.1.2.2.1.2.1
  have P1 := hr.2.1.2.2.1.1
  -- the window of the round
  have lowR : ∃ lr, lr ≤ P.length ∧ (if alls = true then low else 0) = lr ∧ ∀ q, q < np → cp q = c → (if ua q = true then r_nbf cp c st bf q else 0) = (M_pr (P.take lr) q).length := by
    refine ⟨if alls = true then low else 0, by split <;> omega, rfl, fun q hq hc => ?_⟩
    have eb : r_nbf cp c st bf q = st q := by unfold r_nbf; rw [if_pos hc]
    rw [eb]
    cases ha : alls with
    | true => rw [if_pos (hA1 ha q hq hc), if_pos rfl]; exact hst q hq hc
    | false =>
      rw [if_neg (show ¬ false = true from by decide), List.take_zero]
      show (if ua q = true then st q else 0) = 0
      by_cases g : e = 0
      · rw [(h0 g q hq hc).2, ite_self]
      · rw [hA2 ha (hcl (by omega)).1 q hq hc, if_neg (by decide)]
  obtain ⟨lr, lr1, lr2, lr3⟩ := lowR
  have hst' : ∀ q, q < np → cp q = c → r_nst cp c (M_pr P) st q = (M_pr P q).length := fun q hq hc => by unfold r_nst; rw [if_pos hc]
  have hJ' := r_J_N hj
  obtain ⟨Iv, hIv⟩ : ∃ Iv : M_Pl → Prop, Iv = fun Q' => (∃ D, Q' = P ++ D) ∧ r_J np Xs cp tw c (e + 1) (r_nst cp c (M_pr P) st) (r_nbf cp c st bf) (M_pr Q', Q'.length) := ⟨_, rfl⟩
  have ivP : Iv P := by rw [hIv]; exact ⟨⟨[], (List.append_nil _).symm⟩, hJ'⟩
  obtain ⟨w1, m1, m2⟩ := m_round (bg := decide (e = 0)) (Iv := Iv) (st := r_nst cp c (M_pr P) st) (bf := r_nbf cp c st bf) (ua := ua) (low := lr) (high := P.length) F0 H hal al1 al48 c3 lr1 (fun q k P' hq hc hk hi => by
    rw [hIv] at hi
    obtain ⟨⟨D, hD⟩, hj2⟩ := hi
    obtain ⟨z1, z2, z3, z4, z5⟩ := Z.1 q k hq hk
    have tk : ∀ n, n ≤ P.length → P'.take n = P.take n := fun n hn => by rw [hD, List.take_append_of_le_length hn]
    refine ⟨by rw [hD, List.length_append]; omega, fun q' hq' hc' => ⟨?_, ?_, Z.2 q q' hq hq' hc'⟩, z4, fun i z hi hz => ?_, fun t => ⟨z5 t, fun g => z3 g t, fun r hrr => ?_⟩⟩
    · rw [tk _ (Nat.le_refl _), List.take_length]
      exact hst' q' hq' (by rw [← hc', hc])
    · rw [tk _ lr1]
      exact lr3 q' hq' (by rw [← hc', hc])
    · intro hz2
      have := z1.2.2.2.2.2 i z hi hz
      rw [hz2] at this
      have t2 : decide (cp q = cp q) = false := this
      rw [decide_eq_true rfl] at t2
      cases t2
    · obtain ⟨n, hn, en⟩ := List.getElem_of_mem hrr
      rw [List.length_take] at hn
      have := (hj2.2.2.2.1 q hq hc).2.2 n (by omega)
      have gd : ((M_pr P') q).getD n [] = r := by
        rw [List.getD_eq_getElem?_getD, List.getElem?_eq_getElem (by omega), ← en, List.getElem_take]
        rfl
      have t2 : (((M_pr P') q).getD n []).length + 1 ≤ max (e + 1) 1 := this
      rw [gd] at t2
      omega) (fun q k P' l hq hc hk hi ho => by
    rw [hIv] at hi ⊢
    obtain ⟨⟨D, hD⟩, hj2⟩ := hi
    obtain ⟨z1, z2, z3, z4, z5⟩ := Z.1 q k hq hk
    exact ⟨⟨D ++ l.map (fun r => (q, r)), by rw [hD, List.append_assoc]⟩, r_J_J al48 (by omega) hj2 hq hc (w3 q hq) z1 z2 T16 ho⟩) (fun q k s e h => hE _ _ q k s e h) hr ivP
  have W1 := w_M_round _ _ _ _ _ (hr.1.fx F0) m1
  have K1 : M_K w0 w1 := hr.1.trans (W1.mono (by decide) (by decide))
  have F1 := K1.fx F0
  -- the jobs are those of the engine
  have eq : r_seq (fun j => r_one Xs cp ua tbl al (r_nst cp c (M_pr P) st) (r_nbf cp c st bf) (sl j.1 j.2) j.1) (r_jobs cp ns (M_keep ua rec names (decide (e = 0))) c false (List.range np)) (M_pr P, P.length) = r_seq (fun j => r_one Xs cp ua tbl al (r_nst cp c (M_pr P) st) (r_nbf cp c st bf) (sl j.1 j.2) j.1) (r_jobs cp ns nm c (decide (e + 1 = 1)) (List.range np)) (M_pr P, P.length) := by
    by_cases g : e = 0
    · rw [decide_eq_true g, decide_eq_true (show e + 1 = 1 by omega)]
      exact r_rd1 Q (fun q hq hc => by rw [hst' q hq hc, (h0 g q hq hc).1]; rfl) _
    · rw [decide_eq_false g, decide_eq_false (show ¬ e + 1 = 1 by omega)]
      obtain ⟨c1, c2⟩ := hcl (by omega)
      exact r_rd2 Q (hX6 c1) c2
  rw [eq] at m2
  have f1 : g_R w1 5825 1 = some 4436 ∧ g_ln w1 4436 = 128 := F1 (5825, 4436, 128) (by decide)
  have mr1 : e + 1 ≤ 30 := by omega
  -- the machine, up to the round's end
  have em : f_M_workComponent_107 (F + 1) (some 1) (Int32.ofNat c) (Int32.ofNat mr) (z_g rc) (z_g alls) (Int32.ofNat e) (Int32.ofNat low) 1 w = M_crt rc alls c mr e P.length F (g_setAI w1 4436 (32 * c + e) (g_I w1 4929 1 - Int32.ofNat P.length)) := by
    have e150 : f_M_workComponent_138 (f_M_workComponent_107 F) (some 1) (Int32.ofNat c) (Int32.ofNat mr) (z_g rc) (z_g alls) (Int32.ofNat e) (Int32.ofNat P.length) (some 1) (Int32.ofNat c) (Int32.ofNat lr) w = f_M_workComponent_150 (f_M_workComponent_107 F) (some 1) (Int32.ofNat c) (Int32.ofNat mr) (z_g rc) (z_g alls) (Int32.ofNat e) (Int32.ofNat P.length) (some 1) (Int32.ofNat c) (Int32.ofNat lr) (Int32.ofNat P.length) (z_g (decide (e = 0))) w := by
      unfold f_M_workComponent_138
      by_cases g : e = 0
      · rw [if_pos (by rw [g]; rfl), decide_eq_true g]; rfl
      · rw [if_neg (by rw [show (0 : Int32) = Int32.ofNat 0 from rfl, x_eq (by omega) (by omega)]; exact g), decide_eq_false g]; rfl
    have el : (if z_g alls = 0 then f_M_workComponent_138 (f_M_workComponent_107 F) (some 1) (Int32.ofNat c) (Int32.ofNat mr) (z_g rc) (z_g alls) (Int32.ofNat e) (Int32.ofNat P.length) (some 1) (Int32.ofNat c) 0 w else f_M_workComponent_138 (f_M_workComponent_107 F) (some 1) (Int32.ofNat c) (Int32.ofNat mr) (z_g rc) (z_g alls) (Int32.ofNat e) (Int32.ofNat P.length) (some 1) (Int32.ofNat c) (Int32.ofNat low) w) = f_M_workComponent_138 (f_M_workComponent_107 F) (some 1) (Int32.ofNat c) (Int32.ofNat mr) (z_g rc) (z_g alls) (Int32.ofNat e) (Int32.ofNat P.length) (some 1) (Int32.ofNat c) (Int32.ofNat lr) w := by
      rw [← lr2]
      cases alls with
      | true => rw [if_neg (show ¬ z_g true = 0 from by decide), if_pos rfl]
      | false => rw [if_pos (show z_g false = 0 from rfl), if_neg (by decide)]; rfl
    rw [f_M_workComponent_107, if_neg (by decide), x_gI, hr.2.2.2.1, if_pos rfl, x_gI, P1, el, e150]
    unfold f_M_workComponent_150
    rw [x_nn, m1, x_c, x_gR, f1.1, show (32 : Int32) = Int32.ofNat 32 from rfl, x_mul, x_add, x_gI, x_sI (by omega) (by omega), x_p1]
    rfl
  refine ⟨_, em, ?_⟩
  have W5 : z_W [] [4436] w1 (g_setAI w1 4436 (32 * c + e) (g_I w1 4929 1 - Int32.ofNat P.length)) := z_W.re.sI (by decide) _ _
  have B5 : ∀ j, g_AI (g_setAI w1 4436 (32 * c + e) (g_I w1 4929 1 - Int32.ofNat P.length)) 4436 j = if j = 32 * c + e then g_I w1 4929 1 - Int32.ofNat P.length else g_AI w1 4436 j := fun j => by
    rw [x_AI_AI]
    by_cases g : j = 32 * c + e
    · rw [if_pos ⟨rfl, g⟩, if_pos g]
    · rw [if_neg (fun z => g z.2), if_neg g]
  have cl : ∀ s', r_seq (fun j => r_one Xs cp ua tbl al (r_nst cp c (M_pr P) st) (r_nbf cp c st bf) (sl j.1 j.2) j.1) (r_jobs cp ns nm c (decide (e + 1 = 1)) (List.range np)) (M_pr P, P.length) = .inl s' → rc = true → r_all_clo np Xs cp ns nm rec ua tbl al sl c s' := fun s' hs hrc => by
    by_cases g : e = 0
    · rw [decide_eq_true (show e + 1 = 1 by omega)] at hs
      exact r_rd1c Q (hX6 hrc) hs
    · rw [decide_eq_false (show ¬ e + 1 = 1 by omega)] at hs
      exact r_seq_inv _ (fun j hj s s' hs e => r_clo_step Q (r_jobs_mem hj).2.1 hs e) _ _ (hcl (by omega)).2 hs
  generalize g_setAI w1 4436 (32 * c + e) (g_I w1 4929 1 - Int32.ofNat P.length) = s5 at W5 B5 ⊢
  generalize r_seq (fun j => r_one Xs cp ua tbl al (r_nst cp c (M_pr P) st) (r_nbf cp c st bf) (sl j.1 j.2) j.1) (r_jobs cp ns nm c (decide (e + 1 = 1)) (List.range np)) (M_pr P, P.length) = R at m2 cl ⊢
  cases R with
  | inr e' =>
    obtain ⟨n1, n2, n3⟩ := m2
    exact ⟨K1.trans (W5.mono (by decide) (by decide)), by rw [W5.fi (by decide)]; exact n2, n3⟩
  | inl s' =>
    obtain ⟨D, D1, ⟨d1, d2, d3, d4, d5, d6⟩, D3⟩ := m2
    rw [hIv] at D3
    have len : (P ++ D).length = P.length + D.length := List.length_append
    refine ⟨D, D1, ⟨d1.trans (W5.mono (by decide) (by decide)), d2.mv W5 (by decide) (by decide), d3, by rw [W5.fi (by decide)]; exact d4, by rw [W5.fi (by decide)]; exact d5, d6⟩, by rw [D1]; exact D3.2, cl s' rfl, ?_, fun j hj => ?_, ?_⟩
    · rw [B5, if_pos rfl, d2.2.2.1.1, len, x_sub (by omega), show P.length + D.length - P.length = D.length by omega]
    · rw [B5, if_neg hj, W1.ai (a := 4436) (by decide)]
    · rw [W5.ai (a := 4372) (by decide), W1.ai (a := 4372) (by decide)]
end
