/-! THE CHECK: what preparing answers (reference) -/
def z_code (a : Option (Nat × Nat)) : Int32 := match a with
  | none => 0
  | some y => Int32.ofNat (y.1 + 10 * y.2)
/-- what the reference has when it has prepared -/
def M_pe (u : g_St) (a : Option (Nat × Nat)) : Prop := g_I u 961 1 = z_code a ∧ g_I u 1 1 = z_g a.isSome ∧ g_I u 1025 1 = z_g a.isNone
theorem z_Is (u : g_St) (k : Nat) (v : Int32) : g_I (g_setI u k 1 v) k 1 = v := by rw [x_I_I, if_pos ⟨rfl, rfl⟩]
theorem z_Io (u : g_St) {k k' : Nat} (v : Int32) (h : k' ≠ k) : g_I (g_setI u k 1 v) k' 1 = g_I u k' 1 := by rw [x_I_I, if_neg (fun q => h q.1)]
theorem b_end {u : g_St} {a : Option (Nat × Nat)} (h : M_nt u a) {m : Nat} (hm : g_I u 1153 1 = Int32.ofNat m) : ∃ u', f_M_prepare_152 (some 1) u = some (if a.isNone = true then Int32.ofNat m else 0, u') ∧ z_W [961, 1, 1025] [] u u' ∧ M_pe u' a := by
  have p208 : ∀ (s : g_St) (b : Bool), f_M_prepare_208 (some 1) (some 1) (z_g b) s = some (if b = true then g_I s 1153 1 else 0, g_setI s 1025 1 (z_g b)) := fun s b => by
    unfold f_M_prepare_208
    rw [x_pZ, x_gI, z_Is, x_gI, z_Io _ _ (by decide)]
    cases b with
    | true => rw [if_neg (by decide), if_pos rfl]
    | false => rw [if_pos (by decide), if_neg (by decide)]
  have p192 : ∀ (s : g_St) (b : Bool), f_M_prepare_192 (some 1) (some 1) (z_g b) s = some (if b = true then 0 else g_I s 1153 1, g_setI (g_setI s 1 1 (z_g b)) 1025 1 (z_g !b)) := fun s b => by
    unfold f_M_prepare_192
    rw [x_pI, x_gI, z_Is]
    cases b with
    | true =>
      rw [if_neg (by decide)]
      refine (p208 _ false).trans ?_
      rw [if_neg (by decide), if_pos rfl]; rfl
    | false =>
      rw [if_pos (by decide)]
      refine (p208 _ true).trans ?_
      rw [if_pos rfl, if_neg (by decide), z_Io _ _ (by decide)]; rfl
  cases a with
  | none =>
    have h0 : g_I u 833 1 = 0 := h
    have e : f_M_prepare_152 (some 1) u = some (Int32.ofNat m, g_setI (g_setI (g_setI u 961 1 0) 1 1 (z_g false)) 1025 1 (z_g true)) := by
      unfold f_M_prepare_152
      rw [x_gI, h0, if_pos rfl]
      unfold f_M_prepare_176
      rw [x_pI, x_gI, z_Io _ _ (by decide), h0, if_pos rfl]
      refine (p192 _ false).trans ?_
      rw [if_neg (by decide), z_Io _ _ (by decide), hm]; rfl
    refine ⟨_, e, ((z_W.re.pI (by decide) _).pI (by decide) _).pI (by decide) _, ?_, ?_, ?_⟩
    · rw [z_Io _ _ (by decide), z_Io _ _ (by decide), z_Is]; rfl
    · rw [z_Io _ _ (by decide), z_Is]; rfl
    · rw [z_Is]; rfl
  | some y =>
    obtain ⟨h1, h2, h3, h4, h5⟩ := h
    have ne : ¬ Int32.ofNat y.1 = 0 := fun e => by
      have := (x_eq (a := y.1) (b := 0) (by omega) (by omega)).mp e
      omega
    have e : f_M_prepare_152 (some 1) u = some (0, g_setI (g_setI (g_setI u 961 1 (z_code (some y))) 1 1 (z_g true)) 1025 1 (z_g false)) := by
      unfold f_M_prepare_152
      rw [x_gI, h1, if_neg ne, x_gI, h1, x_gI, h2]
      unfold f_M_prepare_176
      rw [x_pI, x_gI, z_Io _ _ (by decide), h1, if_neg ne, show Int32.ofNat y.1 + 10 * Int32.ofNat y.2 = z_code (some y) from (by show _ = Int32.ofNat (y.1 + 10 * y.2); rw [Int32.ofNat_add, Int32.ofNat_mul]; rfl)]
      exact p192 _ true
    refine ⟨_, e, ((z_W.re.pI (by decide) _).pI (by decide) _).pI (by decide) _, ?_, ?_, ?_⟩
    · rw [z_Io _ _ (by decide), z_Io _ _ (by decide), z_Is]
    · rw [z_Io _ _ (by decide), z_Is]; rfl
    · rw [z_Is]; rfl
/-- the fault of a query that can be read -/
def z_flt (nw pl : Nat → Nat) (x : z_Qu) (tc : Nat) (cols : Nat → Nat) : Option (Nat × Nat) := match z_ant nw pl x tc cols with
  | some y => some y
  | none => z_sht nw pl x tc none
def z_wAA : List Nat := z_wA7 ++ z_wC
section
variable {n : Nat} {kd pl nw nv : Nat → Nat} {wd vl : Nat → Int64}
theorem b_chk (NM : z_NM n kd wd vl nw nv) (H : z_H n kd) (hpl : ∀ i, i ≤ n → pl i ≤ 400) {u0 : g_St} {C : Nat → Nat} {x : z_Qu} {tc : Nat} {cols : Nat → Nat} (K : M_ck n kd pl vl u0 C x tc cols) {q : Nat} (W : z_wqu kd q x) (hq : q ≤ n) (ha : M_nt u0 none) :
    ∃ u', f_M_prepare_87 200000 (some 1) 0 u0 = some (if (z_flt nw pl x tc cols).isNone = true then Int32.ofNat x.2.1.length else 0, u') ∧ z_W [833, 897, 4865, 961, 1, 1025] z_wAA u0 u' ∧ M_pe u' (z_flt nw pl x tc cols) ∧ M_ck n kd pl vl u' C x tc cols ∧ M_all n kd nw u' C x tc cols ∧ (z_flt nw pl x tc cols = none → M_cs u' nw x tc) := by
  obtain ⟨u1, a1, a2, a3, a4, a5⟩ := b_all NM H hpl K W hq ha
  have c1 : ∀ {u : g_St}, M_ck n kd pl vl u C x tc cols → g_I u 1153 1 = Int32.ofNat x.2.1.length := fun k => by rw [k.2.2.1.1 1153 (by decide), k.2.2.1.2.2.1]
  have a2' : z_W [833, 897, 4865, 961, 1, 1025] z_wAA u0 u1 := a2.mono (by decide) (by decide)
  unfold z_flt
  rw [a1]
  unfold f_M_prepare_137
  cases hz : z_ant nw pl x tc cols with
  | some y =>
    rw [hz] at a5
    have ne : ¬ g_I u1 833 1 = 0 := fun e => by
      rw [a5.1] at e
      have := (x_eq (a := y.1) (b := 0) (by have := a5.2.2.2.1; omega) (by omega)).mp e
      have := a5.2.2.1
      omega
    obtain ⟨u', b1, b2, b3⟩ := b_end a5 (c1 a3)
    rw [x_gI, if_neg ne, b1]
    exact ⟨u', rfl, a2'.trans (b2.mono (by decide) (by decide)), b3, a3.W b2 (by decide) (by decide) (by decide) (by decide), a4.W b2 (by decide), fun e => by cases e⟩
  | none =>
    rw [hz] at a5
    have e0 : g_I u1 833 1 = 0 := a5
    obtain ⟨u2, f1, f2, f3⟩ := b_fc a3 a4
    have K2 := a3.W f2 (by decide) (by decide) (by decide) (by decide)
    have A2 := a4.W f2 (by decide)
    obtain ⟨u3, g1, g2, g3⟩ := b_sht (nw := nw) H hpl K2 W hq A2 f3.1 (a := none) (by show g_I u2 833 1 = 0; rw [f2.2.2.2.2.2.2.2.1 833 1 (by decide)]; exact e0)
    have K3 := K2.W g2 (by decide) (by decide) (by decide) (by decide)
    have A3 := A2.W g2 (by decide)
    obtain ⟨u', b1, b2, b3⟩ := b_end g3 (c1 K3)
    rw [x_gI, e0, if_pos rfl, x_nn, f1, x_c, x_nn, g1, x_c, b1]
    have Wz : z_W [833, 897, 961, 1, 1025] [] u2 u' := (g2.mono (by decide) (by decide)).trans (b2.mono (by decide) (by decide))
    refine ⟨u', rfl, (a2'.trans (f2.mono (by decide) (by decide))).trans (Wz.mono (by decide) (by decide)), b3, K3.W b2 (by decide) (by decide) (by decide) (by decide), A3.W b2 (by decide), fun _ => ⟨fun k hk => ?_, fun k hk => ?_, f3.2.2.1, ?_, f3.2.2.2.2⟩⟩
    · rw [(Wz.2.2.2.2.2.2.2.2 3988 (by decide)).1]; exact f3.1 k hk
    · rw [(Wz.2.2.2.2.2.2.2.2 4052 (by decide)).1]; exact f3.2.1 k hk
    · rw [Wz.2.2.2.2.2.2.2.1 4865 1 (by decide)]; exact f3.2.2.2.1
end
