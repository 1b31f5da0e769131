/-! RUNNING (engine): a component, whole -/
abbrev r_Cs : Type := r_Rs × (Nat → Nat) × (Nat → Nat) × List Nat
/-- how many rounds there were, and what came in each -/
def X_tl (w : g_St) (num : Nat) (tl : List Nat) : Prop := ∀ i, i < tl.length → g_AI w 84 (num * 31 + (i + 1)) = Int32.ofNat (tl.getD i 0)
section
variable {wb : g_St} {Q np nt : Nat} {P cp tw ca : Nat → Nat} {Xs : Nat → r_Pt} {ua : Nat → Bool} {tbl : Nat → List (Nat → Int64)} {al mr : Nat} {ns : Nat → Nat} {nm : Nat → Nat → Bool} {sl : Nat → Nat → r_Sel} {so : Nat → Nat → Nat → Option Nat} {Sx : Nat → Nat → Nat} {J : Nat → (Nat → Nat) → (Nat → Nat) → r_Rs → Prop} {num : Nat} {rc : Bool}
def X_cok (wb : g_St) (np mr num : Nat) (Xs : Nat → r_Pt) (J : Nat → (Nat → Nat) → (Nat → Nat) → r_Rs → Prop) (w : g_St) (c : r_Cs) : Prop := X_dy w np Xs c.1.1 c.2.1 c.2.2.1 c.1.2 ∧ g_I w 261 261 = g_I wb 261 261 ∧ X_tl w num c.2.2.2 ∧ (1 ≤ c.2.2.2.length ∧ c.2.2.2.length ≤ mr) ∧ g_AI w 84 (num * 31) = Int32.ofNat c.2.2.2.length ∧ (∀ j, ¬ (num * 31 ≤ j ∧ j < num * 31 + 31) → g_AI w 84 j = g_AI wb 84 j) ∧ J c.2.2.2.length c.2.1 c.2.2.1 c.1
theorem y_comp (H : X_sq wb Q P np Xs cp ua nt tbl tw ca) (Ra : X_ra wb al mr) (Z : X_sls wb np nt P Xs tw ns nm sl so Sx) (hnum : num ≤ 3) (hrc : ∀ q, q < np → cp q = num → g_I wb 967 (P q) = z_g rc) (hex : ∃ q, q < np ∧ cp q = num) (hM : ∀ rd st bf q k s, 1 ≤ rd → rd ≤ mr → q < np → cp q = num → k < ns q → J rd st bf s → r_may np Xs cp ua tbl st bf (sl q k) q s) (hJ : ∀ rd st bf q k s s', 1 ≤ rd → rd ≤ mr → q < np → cp q = num → k < ns q → J rd st bf s → r_one Xs cp ua tbl al st bf (sl q k) q s = .inl s' → J rd st bf s') (hN : ∀ rd st bf s, rd < mr → J rd st bf s → J (rd + 1) (r_nst cp num s.1 st) (r_nbf cp num st bf) s) : ∀ (f e F : Nat) (w : g_St) (s : r_Rs) (st bf : Nat → Nat) (tl : List Nat), e + f = mr → tl.length = e → f < F → X_rf wb w → X_dy w np Xs s.1 st bf s.2 → g_I w 261 261 = g_I wb 261 261 → X_tl w num tl → (∀ j, ¬ (num * 31 ≤ j ∧ j < num * 31 + 31) → g_AI w 84 j = g_AI wb 84 j) → J e st bf s → X_res (α := r_Cs) (f_Ru_component_2 F (some 4) (Int32.ofNat num) (Int32.ofNat (e + 1)) w) (X_rf wb) (X_cok wb np mr num Xs J) (r_comp (fun st bf j => r_one Xs cp ua tbl al st bf (sl j.1 j.2) j.1) cp ns nm np num rc f (e + 1) s st bf tl) := by
  have Ra' := Ra
  obtain ⟨-, ⟨-, -, t1, t2, -, -⟩, -, -, m1, m2, m3, m4⟩ := Ra
  intro f
  induction f with
  | zero =>
    intro e F w s st bf tl e1 e2 e3 R Y i1 T O j
    obtain ⟨F, rfl⟩ : ∃ m, F = m + 1 := ⟨F - 1, by omega⟩
    refine ⟨w, ?_, R⟩
    obtain ⟨-, -, -, -, c1, -, c2, c3⟩ := Ra'.rf R
    rw [f_Ru_component_2, x_gI, c1, if_pos (by rw [x_lt (by omega) (by omega)]; omega), x_thr c2 c3]
  | succ f ih =>
    intro e F w s st bf tl e1 e2 e3 R Y i1 T O j
    obtain ⟨F, rfl⟩ : ∃ m, F = m + 1 := ⟨F - 1, by omega⟩
    have Rw := Ra'.rf R
    obtain ⟨-, -, -, -, c1, -, c2, c3⟩ := Rw
    have Hw := H.rf R
    have p7 : ∀ q, q < np → P q % 64 = 7 := fun q hq => (Z q hq).1
    obtain ⟨w1, b1, b2, b3, b4, b5⟩ := y_bround Hw Y (num := num) (by omega) (rc := rc) (fun q hq c => by have := p7 q hq; rw [R.ag.I (by omega) (by omega) (by decide)]; exact hrc q hq c) hex
    have R1 := R.trans b2
    have j1 := hN e st bf s (by omega) j
    have o := y_25 (w0 := w1) (J := J (e + 1) (r_nst cp num s.1 st) (r_nbf cp num st bf)) (H.rf R1) (Ra'.rf R1) (Z.ag R1.ag) (num := num) (fun q k s hq hc hk hj => hM (e + 1) _ _ q k s (by omega) (by omega) hq hc hk hj) (fun q k s s' hq hc hk hj h => hJ (e + 1) _ _ q k s s' (by omega) (by omega) hq hc hk hj h) (f_Ru_component_2 F) (rd := e + 1) (by omega) (by omega) (Int32.ofNat s.2) (z_g rc) np 0 200000 w1 s (by omega) (by have := H.1.2.2.2.1; omega) ⟨X_rf.re, b3, rfl, rfl, j1⟩
    rw [f_Ru_component_2, x_gI, c1, if_neg (by rw [x_lt (by omega) (by omega)]; omega), x_gI, Y.2.1, x_nn, b1, x_c, r_comp, List.range_eq_range']
    have mono := r_seq_tot (one := fun j => r_one Xs cp ua tbl al (r_nst cp num s.1 st) (r_nbf cp num st bf) (sl j.1 j.2) j.1) (fun j s s' h => r_one_tot h) (r_jobs cp ns nm num (decide (e + 1 = 1)) (List.range' 0 np)) s
    generalize r_seq (fun j => r_one Xs cp ua tbl al (r_nst cp num s.1 st) (r_nbf cp num st bf) (sl j.1 j.2) j.1) (r_jobs cp ns nm num (decide (e + 1 = 1)) (List.range' 0 np)) s = rr at o mono ⊢
    cases rr with
    | inr c =>
      obtain ⟨w', o1, o2⟩ := o
      exact ⟨w', o1, R1.trans o2⟩
    | inl s' =>
      obtain ⟨w2, o1, o2, o3, o4, o5, o6⟩ := o
      have le := mono s' rfl
      have R2 := R1.trans o2
      obtain ⟨-, ⟨-, -, u1, u2, -, -⟩, -⟩ := Ra'.rf R2
      obtain ⟨⟨a1, a2, a3, a4, -⟩, -⟩ := H.rf R2
      have t48 := o3.2.2
      obtain ⟨w3, ew⟩ : ∃ w3, w3 = g_setAI (g_setAI w2 84 (num * 31) (Int32.ofNat (e + 1))) 84 (num * 31 + (e + 1)) (Int32.ofNat (s'.2 - s.2)) := ⟨_, rfl⟩
      have AI : ∀ b i, g_AI w3 b i = if b = 84 ∧ i = num * 31 + (e + 1) then Int32.ofNat (s'.2 - s.2) else if b = 84 ∧ i = num * 31 then Int32.ofNat (e + 1) else g_AI w2 b i := fun b i => by rw [ew, x_AI_AI, x_AI_AI]
      have a84 : g_AI w2 84 = g_AI w 84 := o5.trans b5
      have R3 : X_rf wb w3 := by
        refine R2.trans ?_
        rw [ew]
        refine ⟨⟨rfl, rfl, rfl, rfl, rfl, rfl⟩, fun _ _ _ _ => rfl, fun _ _ _ _ _ => rfl, fun _ _ _ => rfl, fun a i h => ?_⟩
        rw [x_AI_AI, if_neg (fun q => h (by have := q.1; omega)), x_AI_AI, if_neg (fun q => h (by have := q.1; omega))]
      have Y3 : X_dy w3 np Xs s'.1 (r_nst cp num s.1 st) (r_nbf cp num st bf) s'.2 := by
        obtain ⟨y1, y2, y3⟩ := o3
        refine ⟨fun q hq => ?_, by rw [ew]; exact y2, y3⟩
        obtain ⟨l1, l2, l3, l4⟩ := y1 q hq
        exact ⟨l1.eq (H.w3 hq) (by rw [ew]; rfl) (by rw [ew]; rfl) (funext fun i => by rw [AI, if_neg (fun q => by have := q.1; omega), if_neg (fun q => by have := q.1; omega)]) (funext fun i => by rw [AI, if_neg (fun q => by have := q.1; omega), if_neg (fun q => by have := q.1; omega)]), by rw [ew]; exact l2, by rw [ew]; exact l3, l4⟩
      have i3 : g_I w3 261 261 = g_I wb 261 261 := by
        rw [ew]
        show g_I w2 261 261 = _
        rw [o4, b4]; exact i1
      have T3 : X_tl w3 num (tl ++ [s'.2 - s.2]) := fun i hi => by
        rw [List.length_append, List.length_singleton] at hi
        rw [AI, z_getD_app]
        by_cases c : i < tl.length
        · rw [if_neg (fun q => by have := q.2; omega), if_neg (fun q => by have := q.2; omega), if_pos c, a84]
          exact T i c
        · rw [if_pos ⟨rfl, by omega⟩, if_neg c, if_pos (by omega)]
      have O3 : ∀ j, ¬ (num * 31 ≤ j ∧ j < num * 31 + 31) → g_AI w3 84 j = g_AI wb 84 j := fun j h => by
        rw [AI, if_neg (fun q => h (by have := q.2; omega)), if_neg (fun q => h (by have := q.2; omega)), a84]
        exact O j h
      have h31 : g_AI w3 84 (num * 31) = Int32.ofNat (e + 1) := by rw [AI, if_neg (fun q => by have := q.2; omega), if_pos ⟨rfl, rfl⟩]
      have len1 : (tl ++ [s'.2 - s.2]).length = e + 1 := by rw [List.length_append, List.length_singleton, e2]
      have ok : X_cok wb np mr num Xs J w3 (s', r_nst cp num s.1 st, r_nbf cp num st bf, tl ++ [s'.2 - s.2]) := ⟨Y3, i3, T3, by show 1 ≤ (tl ++ [s'.2 - s.2]).length ∧ (tl ++ [s'.2 - s.2]).length ≤ mr; rw [len1]; omega, by show _ = Int32.ofNat (tl ++ [s'.2 - s.2]).length; rw [len1]; exact h31, O3, by show J (tl ++ [s'.2 - s.2]).length _ _ _; rw [len1]; exact o6⟩
      have fin : f_Ru_component_25 (f_Ru_component_2 F) 1 (some 4) (Int32.ofNat num) (Int32.ofNat (e + 1)) (Int32.ofNat s.2) (z_g rc) (Int32.ofNat np) w2 = if z_g rc = 0 then some (Sum.inl (), w3) else if Int32.ofNat s'.2 = Int32.ofNat s.2 then some (Sum.inl (), w3) else f_Ru_component_2 F (some 4) (Int32.ofNat num) (Int32.ofNat (e + 1 + 1)) w3 := by
        rw [f_Ru_component_25, x_gR, a1, x_gI, a3, if_pos (by rw [x_le (by omega) (by omega)]; exact Nat.le_refl _), x_gR, u1, show (31 : Int32) = Int32.ofNat 31 from rfl, x_mul, x_sI (by omega) (by omega), x_gR, show g_R (g_setAI w2 84 (num * 31) (Int32.ofNat (e + 1))) 68 4 = some 84 from u1, x_gI, show g_I (g_setAI w2 84 (num * 31) (Int32.ofNat (e + 1))) 708 4 = Int32.ofNat s'.2 from o3.2.1, x_add, x_sub le, x_sI (by omega) (by show _ < g_ln w2 84; omega), ← ew, x_gI, show g_I w3 708 4 = Int32.ofNat s'.2 from (by rw [ew]; exact o3.2.1), x_p1]
      rw [show f_Ru_component_25 (f_Ru_component_2 F) 200000 (some 4) (Int32.ofNat num) (Int32.ofNat (e + 1)) (Int32.ofNat s.2) (z_g rc) 0 w1 = _ from o1]
      show X_res (f_Ru_component_25 (f_Ru_component_2 F) 1 (some 4) (Int32.ofNat num) (Int32.ofNat (e + 1)) (Int32.ofNat s.2) (z_g rc) (Int32.ofNat np) w2) _ _ _
      rw [fin]
      show X_res _ _ _ (if rc = false ∨ s'.2 = s.2 then _ else _)
      have s48 := Y.2.2
      cases hr : rc with
      | false =>
        rw [if_pos (show z_g false = 0 from rfl), if_pos (Or.inl rfl)]
        exact ⟨w3, rfl, R3, ok⟩
      | true =>
        rw [if_neg (show ¬ z_g true = 0 from by decide)]
        by_cases c : s'.2 = s.2
        · rw [if_pos (by rw [c]), if_pos (Or.inr c)]
          exact ⟨w3, rfl, R3, ok⟩
        · rw [if_neg (by rw [x_eq (by omega) (by omega)]; exact c), if_neg (fun q => by rcases q with q | q; cases q; exact c q)]
          have := ih (e + 1) F w3 s' (r_nst cp num s.1 st) (r_nbf cp num st bf) (tl ++ [s'.2 - s.2]) (by omega) len1 (by omega) R3 Y3 i3 T3 O3 o6
          rw [hr] at this
          exact this
end
