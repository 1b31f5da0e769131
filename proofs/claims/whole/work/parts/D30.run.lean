/-! RUNNING (engine): all components, one after the other -/
def r_comps (comp : Nat → r_Rs → (Nat → Nat) → (Nat → Nat) → r_Cs ⊕ Nat) : Nat → Nat → r_Rs → (Nat → Nat) → (Nat → Nat) → List (List Nat) → (r_Rs × (Nat → Nat) × (Nat → Nat) × List (List Nat)) ⊕ Nat
  | 0, _, s, st, bf, tls => .inl (s, st, bf, tls)
  | d + 1, i, s, st, bf, tls => match comp i s st bf with
    | .inr c => .inr c
    | .inl c => r_comps comp d (i + 1) c.1 c.2.1 c.2.2.1 (tls ++ [c.2.2.2])
def r_rend (w : g_St) : Option ((Int32 ⊕ Nat) × g_St) := g_gR w 256 (some 0) fun p3 => g_gR w 320 (some 0) fun p4 => g_gR w 198 p4 fun p5 => g_cT (g_nn p3 (f_Ru_work p3 p5 4 w)) fun _ s7 => g_gR s7 256 (some 0) fun p8 => g_c (g_nn p8 (f_Ru_sort p8 s7)) fun _ s10 => g_pZ s10 448 (some 0) 1 fun s11 => g_gR s11 256 (some 0) fun p12 => g_gR s11 4 p12 fun p13 => g_aR s11 p13 4 fun p14 => g_gI s11 261 p14 fun i15 => some (Sum.inl i15, s11)
def X_tls (w : g_St) (tls : List (List Nat)) : Prop := ∀ n, n < tls.length → X_tl w n (tls.getD n []) ∧ g_AI w 84 (n * 31) = Int32.ofNat (tls.getD n []).length ∧ (tls.getD n []).length ≤ 30
section
variable {wb : g_St} {Q np nt nc : Nat} {P cp tw ca : Nat → Nat} {Xs : Nat → r_Pt} {ua : Nat → Bool} {tbl : Nat → List (Nat → Int64)} {al mr : Nat} {ns : Nat → Nat} {nm : Nat → Nat → Bool} {sl : Nat → Nat → r_Sel} {so : Nat → Nat → Nat → Option Nat} {Sx : Nat → Nat → Nat} {J : Nat → Nat → (Nat → Nat) → (Nat → Nat) → r_Rs → Prop} {JJ : Nat → (Nat → Nat) → (Nat → Nat) → r_Rs → Prop} {rc : Nat → Bool}
def X_csk (Z : Option ((Int32 ⊕ Nat) × g_St)) (wb : g_St) (np nc : Nat) (Xs : Nat → r_Pt) (JJ : Nat → (Nat → Nat) → (Nat → Nat) → r_Rs → Prop) : (r_Rs × (Nat → Nat) × (Nat → Nat) × List (List Nat)) ⊕ Nat → Prop
  | .inr c => ∃ w', Z = some (.inr c, g_bump w' 8 512) ∧ X_rf wb w'
  | .inl z => ∃ w', Z = r_rend w' ∧ X_rf wb w' ∧ X_dy w' np Xs z.1.1 z.2.1 z.2.2.1 z.1.2 ∧ g_I w' 261 261 = g_I wb 261 261 ∧ X_tls w' z.2.2.2 ∧ z.2.2.2.length = nc ∧ JJ nc z.2.1 z.2.2.1 z.1
theorem y_comps (H : X_sq wb Q P np Xs cp ua nt tbl tw ca) (Ra : X_ra wb al mr) (Z : X_sls wb np nt P Xs tw ns nm sl so Sx) (h320 : g_R wb 320 0 = some Q) (h256 : g_R wb 256 0 = some 4) (h454 : g_I wb 454 Q = Int32.ofNat nc) (nc4 : nc ≤ 4) (hrc : ∀ i q, i < nc → q < np → cp q = i → g_I wb 967 (P q) = z_g (rc i)) (hex : ∀ i, i < nc → ∃ q, q < np ∧ cp q = i) (hM : ∀ i rd st bf q k s, i < nc → 1 ≤ rd → rd ≤ mr → q < np → cp q = i → k < ns q → J i rd st bf s → r_may np Xs cp ua tbl st bf (sl q k) q s) (hJ : ∀ i rd st bf q k s s', i < nc → 1 ≤ rd → rd ≤ mr → q < np → cp q = i → k < ns q → J i rd st bf s → r_one Xs cp ua tbl al st bf (sl q k) q s = .inl s' → J i rd st bf s') (hN : ∀ i rd st bf s, i < nc → rd < mr → J i rd st bf s → J i (rd + 1) (r_nst cp i s.1 st) (r_nbf cp i st bf) s) (hS : ∀ i st bf s, i < nc → JJ i st bf s → J i 0 st bf s) (hE : ∀ i rd st bf s, i < nc → 1 ≤ rd → rd ≤ mr → J i rd st bf s → JJ (i + 1) st bf s) : ∀ (d i F : Nat) (w : g_St) (s : r_Rs) (st bf : Nat → Nat) (tls : List (List Nat)), i + d = nc → tls.length = i → d < F → X_rf wb w → X_dy w np Xs s.1 st bf s.2 → g_I w 261 261 = g_I wb 261 261 → X_tls w tls → JJ i st bf s → X_csk (f_E_run_73 F (some 0) (Int32.ofNat i) w) wb np nc Xs JJ (r_comps (fun i s st bf => r_comp (fun st bf j => r_one Xs cp ua tbl al st bf (sl j.1 j.2) j.1) cp ns nm np i (rc i) mr 1 s st bf []) d i s st bf tls) := by
  have q6 := H.1.2.1
  have mr30 := Ra.2.2.2.2.2.1
  intro d
  induction d with
  | zero =>
    intro i F w s st bf tls e1 e2 e3 R Y i1 T j
    obtain ⟨F, rfl⟩ : ∃ m, F = m + 1 := ⟨F - 1, by omega⟩
    refine ⟨w, ?_, R, Y, i1, T, by show tls.length = nc; omega, by rw [show nc = i by omega]; exact j⟩
    rw [f_E_run_73, x_gR, R.2.1 _ _ (by decide) (by decide), h320, x_gI, R.ag.I (by omega) (by omega) (by decide), h454, if_pos (by rw [x_le (by omega) (by omega)]; omega)]
    rfl
  | succ d ih =>
    intro i F w s st bf tls e1 e2 e3 R Y i1 T j
    obtain ⟨F, rfl⟩ : ∃ m, F = m + 1 := ⟨F - 1, by omega⟩
    have hi : i < nc := by omega
    have o := y_comp (wb := w) (J := J i) (num := i) (rc := rc i) (H.rf R) (Ra.rf R) (Z.ag R.ag) (by omega) (fun q hq c => by
      have p7 := (Z q hq).1
      rw [R.ag.I (by omega) (by omega) (by decide)]; exact hrc i q hi hq c) (hex i hi) (fun rd st bf q k s => hM i rd st bf q k s hi) (fun rd st bf q k s s' => hJ i rd st bf q k s s' hi) (fun rd st bf s => hN i rd st bf s hi) mr 0 200000 w s st bf [] (by omega) rfl (by omega) X_rf.re Y rfl (fun i hi => by cases hi) (fun _ _ => rfl) (hS i st bf s hi j)
    rw [f_E_run_73, x_gR, R.2.1 _ _ (by decide) (by decide), h320, x_gI, R.ag.I (by omega) (by omega) (by decide), h454, if_neg (by rw [x_le (by omega) (by omega)]; omega), x_gR, R.2.1 _ _ (by decide) (by decide), h256, x_nn, r_comps]
    have ec : f_Ru_component (some 4) (Int32.ofNat i) w = f_Ru_component_2 200000 (some 4) (Int32.ofNat i) (Int32.ofNat (0 + 1)) w := rfl
    rw [ec]
    generalize r_comp (fun st bf j => r_one Xs cp ua tbl al st bf (sl j.1 j.2) j.1) cp ns nm np i (rc i) mr (0 + 1) s st bf [] = rr at o ⊢
    cases rr with
    | inr c =>
      obtain ⟨w', o1, o2⟩ := o
      exact ⟨w', by rw [o1, x_cTr], R.trans o2⟩
    | inl c =>
      obtain ⟨w', o1, o2, o3, o4, o5, o6, o7, o8, o9⟩ := o
      rw [o1, x_cTi, x_p1]
      refine ih (i + 1) F w' c.1 c.2.1 c.2.2.1 (tls ++ [c.2.2.2]) (by omega) (by rw [List.length_append, List.length_singleton, e2]) (by omega) (R.trans o2) o3 (o4.trans i1) (fun n hn => ?_) (hE i _ _ _ _ hi o6.1 o6.2 o9)
      rw [List.length_append, List.length_singleton] at hn
      rw [z_getD_app]
      by_cases c1 : n < tls.length
      · rw [if_pos c1]
        obtain ⟨t1, t2, t3⟩ := T n c1
        refine ⟨fun k hk => ?_, ?_, t3⟩
        · rw [o8 _ (by omega)]; exact t1 k hk
        · rw [o8 _ (by omega)]; exact t2
      · have en : n = i := by omega
        rw [if_neg c1, if_pos (by omega), en]
        exact ⟨o5, o7, by omega⟩
end
