/-! RUNNING (engine): the selections of a round -/
abbrev r_Sel : Type := List r_It × List (Nat ⊕ Nat) × List r_Cd × (Nat → Nat) × Bool
abbrev r_Rs : Type := (Nat → List r_Row) × Nat
def r_one (Xs : Nat → r_Pt) (cp : Nat → Nat) (ua : Nat → Bool) (tbl : Nat → List (Nat → Int64)) (al : Nat) (st bf : Nat → Nat) (y : r_Sel) (q : Nat) (s : r_Rs) : r_Rs ⊕ Nat := match r_work y.1 al (fun ch v a => r_put (Xs q) al a (r_nrow (Xs q) v (r_par y.2.1 q ch))) (fun a => a.2.2) (r_cbs cp Xs ua s.1 tbl st bf (some q) y.2.1 y.2.2.1 y.2.2.2.1) (s.1 q, s.2, false) with
  | .inl a => .inl (r_upd s.1 q a.1, a.2.1)
  | .inr c => .inr c
def r_seq (one : Nat × Nat → r_Rs → r_Rs ⊕ Nat) : List (Nat × Nat) → r_Rs → r_Rs ⊕ Nat
  | [], s => .inl s
  | j :: l, s => match one j s with
    | .inl s' => r_seq one l s'
    | .inr c => .inr c
def r_jk (nm : Nat → Nat → Bool) (first : Bool) (q : Nat) (l : List Nat) : List (Nat × Nat) := (l.filter fun k => first || nm q k).map fun k => (q, k)
def r_jq (cp ns : Nat → Nat) (nm : Nat → Nat → Bool) (num : Nat) (first : Bool) (q : Nat) : List (Nat × Nat) := if cp q = num then r_jk nm first q (List.range (ns q)) else []
def r_jobs (cp ns : Nat → Nat) (nm : Nat → Nat → Bool) (num : Nat) (first : Bool) (l : List Nat) : List (Nat × Nat) := l.flatMap (r_jq cp ns nm num first)
theorem r_seq_app (one : Nat × Nat → r_Rs → r_Rs ⊕ Nat) (a b : List (Nat × Nat)) (s : r_Rs) : r_seq one (a ++ b) s = match r_seq one a s with | .inl s' => r_seq one b s' | .inr c => .inr c := by
  induction a generalizing s with
  | nil => rfl
  | cons j l ih =>
    rw [List.cons_append, r_seq, r_seq]
    cases one j s with
    | inl s' => exact ih s'
    | inr c => rfl
/-- the selections of the parts -/
def X_sls (w : g_St) (np nt : Nat) (P : Nat → Nat) (Xs : Nat → r_Pt) (tw : Nat → Nat) (ns : Nat → Nat) (nm : Nat → Nat → Bool) (sl : Nat → Nat → r_Sel) (so : Nat → Nat → Nat → Option Nat) (Sx : Nat → Nat → Nat) : Prop := ∀ q, q < np → P q % 64 = 7 ∧ g_I w 711 (P q) = Int32.ofNat (ns q) ∧ ns q ≤ 4 ∧ ∃ SA, g_R w 647 (P q) = some SA ∧ SA % 64 = 25 ∧ g_ln w SA = 4 ∧ ∀ k, k < ns q → g_AR w SA k = some (Sx q k) ∧ X_sel w np nt Xs tw (so q k) (Sx q k) q (sl q k).1 (sl q k).2.1 (sl q k).2.2.1 (sl q k).2.2.2.1 (sl q k).2.2.2.2 ∧ ∃ c, g_I w 648 (Sx q k) = Int32.ofNat c ∧ c ≤ 2000 ∧ (nm q k = true ↔ 0 < c)
theorem X_sls.ag {v w : g_St} {np nt : Nat} {P : Nat → Nat} {Xs : Nat → r_Pt} {tw : Nat → Nat} {ns : Nat → Nat} {nm : Nat → Nat → Bool} {sl : Nat → Nat → r_Sel} {so : Nat → Nat → Nat → Option Nat} {Sx : Nat → Nat → Nat} (h : X_sls v np nt P Xs tw ns nm sl so Sx) (f : E_ag v w) : X_sls w np nt P Xs tw ns nm sl so Sx := fun q hq => by
  obtain ⟨h1, h2, h3, SA, h4, h5, h6, h7⟩ := h q hq
  have aA := f.2 SA (by omega) (by omega)
  refine ⟨h1, by rw [f.I (by omega) (by omega) (by decide)]; exact h2, h3, SA, by rw [f.R (by omega) (by omega) (by decide)]; exact h4, h5, by rw [aA.2]; exact h6, fun k hk => ?_⟩
  obtain ⟨g1, g2, c, g3, g4⟩ := h7 k hk
  have s8 := g2.1.1
  exact ⟨by rw [aA.1]; exact g1, g2.ag f, c, by rw [f.I (by omega) (by omega) (by decide)]; exact g3, g4⟩
section
variable {w0 : g_St} {Q np nt : Nat} {P cp tw ca : Nat → Nat} {Xs : Nat → r_Pt} {ua : Nat → Bool} {tbl : Nat → List (Nat → Int64)} {st bf : Nat → Nat} {al mr : Nat} {ns : Nat → Nat} {nm : Nat → Nat → Bool} {sl : Nat → Nat → r_Sel} {so : Nat → Nat → Nat → Option Nat} {Sx : Nat → Nat → Nat} {J : r_Rs → Prop} {num : Nat}
/-- what working a selection asks for, beside the pictures -/
def r_may (np : Nat) (Xs : Nat → r_Pt) (cp : Nat → Nat) (ua : Nat → Bool) (tbl : Nat → List (Nat → Int64)) (st bf : Nat → Nat) (y : r_Sel) (q : Nat) (s : r_Rs) : Prop := 1 ≤ y.1.length ∧ y.1.length = (Xs q).1 ∧ (∀ i, i < st q → ((s.1 q).getD i []).length ≤ 99) ∧ (∀ i z, i < y.2.2.1.length → y.2.2.1.getD i r_cd0 = .inr z → r_in cp (some q) z.1 = false) ∧ (y.2.2.2.2 = false → ∀ ch, (∀ k, k < y.2.1.length → ch k ∈ r_rs cp ua s.1 tbl st bf (some q) (r_ml y.2.1 k)) → ¬ r_bad y.1 (r_en ch)) ∧ (r_gc y.1 ≠ 0 → r_tr (Xs q) = true → ∀ k, k < y.2.1.length → r_ml y.2.1 k ≠ .inl q)
/-- the state of a run -/
def X_now (w0 : g_St) (np : Nat) (Xs : Nat → r_Pt) (st bf : Nat → Nat) (J : r_Rs → Prop) (w : g_St) (s : r_Rs) : Prop := X_rf w0 w ∧ X_dy w np Xs s.1 st bf s.2 ∧ g_I w 261 261 = g_I w0 261 261 ∧ g_AI w 84 = g_AI w0 84 ∧ J s
def X_kt (Z : Option ((Unit ⊕ Nat) × g_St)) (w0 : g_St) (OK : g_St → r_Rs → Prop) (K : g_St → Option ((Unit ⊕ Nat) × g_St)) : r_Rs ⊕ Nat → Prop
  | .inl s => ∃ w', Z = K w' ∧ OK w' s
  | .inr c => ∃ w', Z = some (.inr c, g_bump w' 8 512) ∧ X_rf w0 w'
theorem y_one (H : X_sq w0 Q P np Xs cp ua nt tbl tw ca) (Ra : X_ra w0 al mr) (Z : X_sls w0 np nt P Xs tw ns nm sl so Sx) {q k : Nat} (hq : q < np) (hk : k < ns q) {w : g_St} {s : r_Rs} (N : X_now w0 np Xs st bf J w s) (M : r_may np Xs cp ua tbl st bf (sl q k) q s) (hJ : ∀ s', r_one Xs cp ua tbl al st bf (sl q k) q s = .inl s' → J s') : X_kt (f_Ru_work (some 4) (some (Sx q k)) (Int32.ofNat q) w) w0 (X_now w0 np Xs st bf J) (fun w' => some (.inl (), w')) (r_one Xs cp ua tbl al st bf (sl q k) q s) := by
  obtain ⟨n1, n2, n3, n4, n5⟩ := N
  obtain ⟨m1, m2, m3, m4, m5, m6⟩ := M
  obtain ⟨-, -, -, SA, -, -, -, h7⟩ := (Z.ag n1.ag) q hq
  have r := y_workP (H.rf n1) (Ra.rf n1) n2 (h7 k hk).2.1 m1 hq m2 m3 m4 m5 m6
  unfold r_one at hJ ⊢
  generalize r_work (sl q k).1 al (fun ch v a => r_put (Xs q) al a (r_nrow (Xs q) v (r_par (sl q k).2.1 q ch))) (fun a => a.2.2) (r_cbs cp Xs ua s.1 tbl st bf (some q) (sl q k).2.1 (sl q k).2.2.1 (sl q k).2.2.2.1) (s.1 q, s.2, false) = rr at r hJ ⊢
  cases rr with
  | inr c =>
    obtain ⟨w', g1, g2⟩ := r
    exact ⟨w', g1, n1.trans g2⟩
  | inl a =>
    obtain ⟨w', g1, g2, g3, g4, g5, g6⟩ := r
    exact ⟨w', g1, n1.trans g2, g3, g5.trans n3, g6.trans n4, hJ _ rfl⟩
theorem y_52 (H : X_sq w0 Q P np Xs cp ua nt tbl tw ca) (Ra : X_ra w0 al mr) (Z : X_sls w0 np nt P Xs tw ns nm sl so Sx) (hM : ∀ q k s, q < np → cp q = num → k < ns q → J s → r_may np Xs cp ua tbl st bf (sl q k) q s) (hJ : ∀ q k s s', q < np → cp q = num → k < ns q → J s → r_one Xs cp ua tbl al st bf (sl q k) q s = .inl s' → J s') (k25 : Option Nat → Int32 → Int32 → Int32 → Int32 → Int32 → g_St → Option ((Unit ⊕ Nat) × g_St)) {rd : Nat} (hrd : rd < 100) (hnum : num ≤ 4) (x3 x4 : Int32) {q : Nat} (hq : q < np) : ∀ (d k f : Nat) (w : g_St) (s : r_Rs), k + d = ns q → d < f → X_now w0 np Xs st bf J w s → X_kt (f_Ru_component_52 k25 f (some 4) (Int32.ofNat num) (Int32.ofNat rd) x3 x4 (Int32.ofNat q) (some (P q)) (Int32.ofNat k) w) w0 (X_now w0 np Xs st bf J) (fun w' => k25 (some 4) (Int32.ofNat num) (Int32.ofNat rd) x3 x4 (Int32.ofNat (q + 1)) w') (r_seq (fun j => r_one Xs cp ua tbl al st bf (sl j.1 j.2) j.1) (if cp q = num then r_jk nm (decide (rd = 1)) q (List.range' k d) else []) s) := by
  obtain ⟨p7, i711, n4, SA, r647, SA25, lSA, sels⟩ := Z q hq
  have np4 := H.1.2.2.2.1
  have cpq : g_I w0 903 (P q) = Int32.ofNat (cp q) ∧ cp q ≤ 4 := by
    obtain ⟨⟨-, -, -, -, PA, -, -, -, a8⟩, -⟩ := H
    exact ⟨(a8 q hq).2.2.1, (a8 q hq).2.2.2.1⟩
  intro d
  induction d with
  | zero =>
    intro k f w s e1 e2 N
    obtain ⟨f, rfl⟩ : ∃ m, f = m + 1 := ⟨f - 1, by omega⟩
    have e : r_seq (fun j => r_one Xs cp ua tbl al st bf (sl j.1 j.2) j.1) (if cp q = num then r_jk nm (decide (rd = 1)) q (List.range' k 0) else []) s = .inl s := by
      by_cases c : cp q = num
      · rw [if_pos c]; rfl
      · rw [if_neg c]; rfl
    rw [e]
    refine ⟨w, ?_, N⟩
    rw [f_Ru_component_52, x_gI, N.1.ag.I (by omega) (by omega) (by decide), i711, if_pos (by rw [x_le (by omega) (by omega)]; omega), x_p1]
  | succ d ih =>
    intro k f w s e1 e2 N
    obtain ⟨f, rfl⟩ : ∃ m, f = m + 1 := ⟨f - 1, by omega⟩
    have ag := N.1.ag
    have aA := ag.2 SA (by omega) (by omega)
    obtain ⟨g1, g2, c, g3, g4, g5⟩ := sels k (by omega)
    have s8 := g2.1.1
    rw [f_Ru_component_52, x_gI, ag.I (by omega) (by omega) (by decide), i711, if_neg (by rw [x_le (by omega) (by omega)]; omega), x_gI, ag.I (by omega) (by omega) (by decide), cpq.1]
    by_cases cq : cp q = num
    · rw [if_pos (by rw [cq]), if_pos cq]
      have IH := fun w s => ih (k + 1) f w s (by omega) (by omega)
      simp only [if_pos cq] at IH
      have wk : X_kt (f_Ru_component_90 (f_Ru_component_52 k25 f) (some 4) (Int32.ofNat num) (Int32.ofNat rd) x3 x4 (Int32.ofNat q) (some (P q)) (Int32.ofNat k) w) w0 (X_now w0 np Xs st bf J) (fun w' => k25 (some 4) (Int32.ofNat num) (Int32.ofNat rd) x3 x4 (Int32.ofNat (q + 1)) w') (r_seq (fun j => r_one Xs cp ua tbl al st bf (sl j.1 j.2) j.1) ((q, k) :: r_jk nm (decide (rd = 1)) q (List.range' (k + 1) d)) s) := by
        have o := y_one H Ra Z hq (k := k) (by omega) N (hM q k s hq cq (by omega) N.2.2.2.2) (fun s' hs => hJ q k s s' hq cq (by omega) N.2.2.2.2 hs)
        have e90 : f_Ru_component_90 (f_Ru_component_52 k25 f) (some 4) (Int32.ofNat num) (Int32.ofNat rd) x3 x4 (Int32.ofNat q) (some (P q)) (Int32.ofNat k) w = g_cT (f_Ru_work (some 4) (some (Sx q k)) (Int32.ofNat q) w) fun _ s4 => f_Ru_component_52 k25 f (some 4) (Int32.ofNat num) (Int32.ofNat rd) x3 x4 (Int32.ofNat q) (some (P q)) (Int32.ofNat (k + 1)) s4 := by
          unfold f_Ru_component_90
          rw [x_gR, ag.R (by omega) (by omega) (by decide), r647, x_aR (by omega) (by rw [aA.2]; omega), aA.1, g1, x_nn, x_p1]
        rw [e90, r_seq]
        show X_kt _ _ _ _ (match r_one Xs cp ua tbl al st bf (sl q k) q s with | .inl s' => _ | .inr c => _)
        generalize r_one Xs cp ua tbl al st bf (sl q k) q s = rr at o ⊢
        cases rr with
        | inr c =>
          obtain ⟨w', o1, o2⟩ := o
          exact ⟨w', by rw [o1, x_cTr], o2⟩
        | inl s' =>
          obtain ⟨w', o1, o2⟩ := o
          rw [o1, x_cTi]
          exact IH w' s' o2
      have hr : r_jk nm (decide (rd = 1)) q (List.range' k (d + 1)) = if (decide (rd = 1) || nm q k) = true then (q, k) :: r_jk nm (decide (rd = 1)) q (List.range' (k + 1) d) else r_jk nm (decide (rd = 1)) q (List.range' (k + 1) d) := by
        unfold r_jk
        rw [List.range'_succ, List.filter_cons]
        by_cases b : (decide (rd = 1) || nm q k) = true
        · rw [if_pos b, if_pos b]; rfl
        · rw [if_neg b, if_neg b]
      rw [hr]
      by_cases r1 : rd = 1
      · rw [if_pos (show Int32.ofNat rd = 1 from by rw [r1]; rfl), decide_eq_true r1, Bool.true_or, if_pos rfl]
        rw [decide_eq_true r1] at wk
        exact wk
      · rw [if_neg (show ¬ Int32.ofNat rd = 1 from by rw [show (1 : Int32) = Int32.ofNat 1 from rfl, x_eq (by omega) (by omega)]; exact r1), x_gR, ag.R (by omega) (by omega) (by decide), r647, x_aR (by omega) (by rw [aA.2]; omega), aA.1, g1, x_gI, ag.I (by omega) (by omega) (by decide), g3, decide_eq_false r1, Bool.false_or]
        rw [decide_eq_false r1] at wk IH
        have c0 : (Int32.ofNat c ≤ 0) = (c ≤ 0) := x_le (b := 0) (by omega) (by omega)
        by_cases cz : c ≤ 0
        · rw [if_pos (by rw [c0]; exact cz), if_neg (fun q => by have := g5.mp q; omega), x_p1]
          exact IH w s N
        · rw [if_neg (by rw [c0]; exact cz), if_pos (g5.mpr (by omega))]
          exact wk
    · rw [if_neg (by rw [x_eq (by omega) (by omega)]; exact cq), if_neg cq]
      exact ⟨w, by rw [x_p1], N⟩
/-- a round's selections -/
theorem y_25 (H : X_sq w0 Q P np Xs cp ua nt tbl tw ca) (Ra : X_ra w0 al mr) (Z : X_sls w0 np nt P Xs tw ns nm sl so Sx) (hM : ∀ q k s, q < np → cp q = num → k < ns q → J s → r_may np Xs cp ua tbl st bf (sl q k) q s) (hJ : ∀ q k s s', q < np → cp q = num → k < ns q → J s → r_one Xs cp ua tbl al st bf (sl q k) q s = .inl s' → J s') (k2 : Option Nat → Int32 → Int32 → g_St → Option ((Unit ⊕ Nat) × g_St)) {rd : Nat} (hrd : rd < 100) (hnum : num ≤ 4) (x3 x4 : Int32) : ∀ (d q f : Nat) (w : g_St) (s : r_Rs), q + d = np → d < f → X_now w0 np Xs st bf J w s → X_kt (f_Ru_component_25 k2 f (some 4) (Int32.ofNat num) (Int32.ofNat rd) x3 x4 (Int32.ofNat q) w) w0 (X_now w0 np Xs st bf J) (fun w' => f_Ru_component_25 k2 1 (some 4) (Int32.ofNat num) (Int32.ofNat rd) x3 x4 (Int32.ofNat np) w') (r_seq (fun j => r_one Xs cp ua tbl al st bf (sl j.1 j.2) j.1) (r_jobs cp ns nm num (decide (rd = 1)) (List.range' q d)) s) := by
  have np4 := H.1.2.2.2.1
  intro d
  induction d with
  | zero =>
    intro q f w s e1 e2 N
    obtain ⟨f, rfl⟩ : ∃ m, f = m + 1 := ⟨f - 1, by omega⟩
    refine ⟨w, ?_, N⟩
    obtain ⟨⟨a1, a2, a3, a4, PA, a5, a6, a7, a8⟩, -⟩ := H.rf N.1
    have stop : ∀ f, f_Ru_component_25 k2 (f + 1) (some 4) (Int32.ofNat num) (Int32.ofNat rd) x3 x4 (Int32.ofNat np) w = g_gR w 68 (some 4) fun p3 => g_sI w p3 ((Int32.ofNat num) * 31) (Int32.ofNat rd) fun s4 => g_gR s4 68 (some 4) fun p5 => g_gI s4 708 (some 4) fun i6 => g_sI s4 p5 (((Int32.ofNat num) * 31) + (Int32.ofNat rd)) (i6 - x3) fun s7 => if x4 = 0 then some (Sum.inl (), s7) else g_gI s7 708 (some 4) fun i8 => if i8 = x3 then some (Sum.inl (), s7) else k2 (some 4) (Int32.ofNat num) ((Int32.ofNat rd) + 1) s7 := fun f => by
      rw [f_Ru_component_25, x_gR, a1, x_gI, a3, if_pos (by rw [x_le (by omega) (by omega)]; exact Nat.le_refl _)]
    rw [show q = np by omega, stop f]
    exact (stop 0).symm
  | succ d ih =>
    intro q f w s e1 e2 N
    obtain ⟨f, rfl⟩ : ∃ m, f = m + 1 := ⟨f - 1, by omega⟩
    obtain ⟨⟨a1, a2, a3, a4, PA, a5, a6, a7, a8⟩, -⟩ := H.rf N.1
    have o := y_52 H Ra Z hM hJ (f_Ru_component_25 k2 f) hrd hnum x3 x4 (q := q) (by omega) (ns q) 0 200000 w s (by omega) (by have := (Z q (by omega)).2.2.1; omega) N
    rw [f_Ru_component_25, x_gR, a1, x_gI, a3, if_neg (by rw [x_le (by omega) (by omega)]; omega), x_gR, a1, x_gR, a5, x_aR (by omega) (by omega), (a8 q (by omega)).1]
    unfold r_jobs
    rw [List.range'_succ, List.flatMap_cons, r_seq_app]
    have ej : (if cp q = num then r_jk nm (decide (rd = 1)) q (List.range' 0 (ns q)) else []) = r_jq cp ns nm num (decide (rd = 1)) q := by unfold r_jq; rw [List.range_eq_range']
    rw [ej] at o
    generalize r_seq (fun j => r_one Xs cp ua tbl al st bf (sl j.1 j.2) j.1) (r_jq cp ns nm num (decide (rd = 1)) q) s = rr at o ⊢
    cases rr with
    | inr c => exact o
    | inl s' =>
      obtain ⟨w', o1, o2⟩ := o
      rw [show f_Ru_component_52 (f_Ru_component_25 k2 f) 200000 (some 4) (Int32.ofNat num) (Int32.ofNat rd) x3 x4 (Int32.ofNat q) (some (P q)) 0 w = _ from o1]
      exact ih (q + 1) f w' s' (by omega) (by omega) o2
end
