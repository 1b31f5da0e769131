/-! RUNNING (engine): a run, whole -/
def r_run (Xs : Nat → r_Pt) (cp : Nat → Nat) (ua : Nat → Bool) (tbl : Nat → List (Nat → Int64)) (ns : Nat → Nat) (nm : Nat → Nat → Bool) (sl : Nat → Nat → r_Sel) (rc : Nat → Bool) (np nc : Nat) (ow : r_Sel) (ks : List (Nat × Nat)) (mr al : Nat) : (List r_An × List (List Nat) × (Nat → List r_Row)) ⊕ Nat := match r_comps (fun i s st bf => r_comp (fun st bf j => r_one Xs cp ua tbl al st bf (sl j.1 j.2) j.1) cp ns nm np i (rc i) mr 1 s st bf []) nc 0 (fun _ => [], 0) (fun _ => 0) (fun _ => 0) [] with
  | .inr c => .inr c
  | .inl z => match r_work ow.1 al (fun ch v a => r_putA al a (v, ks.map (r_key ch))) (fun a => a.2.2) (r_cbs cp Xs ua z.1.1 tbl z.2.1 z.2.2.1 none ow.2.1 ow.2.2.1 ow.2.2.2.1) ([], z.1.2, false) with
    | .inr c => .inr c
    | .inl a => .inl (a.1, z.2.2.2, z.1.1)
def X_fin (Z : Option ((Int32 ⊕ Nat) × g_St)) (wb : g_St) (wd n nc np : Nat) (XK : Nat → r_Pt) : (List r_An × List (List Nat) × (Nat → List r_Row)) ⊕ Nat → Prop
  | .inr c => ∃ w', Z = some (.inr c, g_bump w' 8 512) ∧ X_rf wb w'
  | .inl a => ∃ w', Z = some (.inl (Int32.ofNat a.1.length), w') ∧ X_end wb w' wd n XK a.1 a.2.1 np a.2.2 ∧ a.2.1.length = nc
section
variable {wb : g_St} {Q np nt nc : Nat} {P cp tw ca : Nat → Nat} {Xs : Nat → r_Pt} {ua : Nat → Bool} {tbl : Nat → List (Nat → Int64)} {al mr : Nat} {ns : Nat → Nat} {nm : Nat → Nat → Bool} {sl : Nat → Nat → r_Sel} {so : Nat → Nat → Nat → Option Nat} {Sx : Nat → Nat → Nat} {rc : Nat → Bool} {sow : Nat → Option Nat} {S now : Nat} {ow : r_Sel} {ks : List (Nat × Nat)} {pp : Nat → Nat}
theorem y_run (H : X_sq wb Q P np Xs cp ua nt tbl tw ca) (Ra : X_ra wb al mr) (Z : X_sls wb np nt P Xs tw ns nm sl so Sx) (h320 : g_R wb 320 0 = some Q) (h256 : g_R wb 256 0 = some 4) (h454 : g_I wb 454 Q = Int32.ofNat nc) (nc4 : nc ≤ 4) (hrc : ∀ i q, i < nc → q < np → cp q = i → g_I wb 967 (P q) = z_g (rc i)) (hex : ∀ i, i < nc → ∃ q, q < np ∧ cp q = i) (Y : X_dy wb np Xs (fun _ => []) (fun _ => 0) (fun _ => 0) 0) (h261 : g_I wb 261 261 = Int32.ofNat 0) (T : ∀ t, t < nt → ∀ c ∈ tbl t, ∀ j, j < tw t → r_oor (c j) = false) (Ws : ∀ q k, q < np → k < ns q → r_wsl np nt Xs cp tw (some q) (sl q k) ∧ (sl q k).1.length = (Xs q).1 ∧ (r_gc (sl q k).1 ≠ 0 → r_tr (Xs q) = true → ∀ m, m < (sl q k).2.1.length → r_ml (sl q k).2.1 m ≠ .inl q)) (Zo : X_sel wb np nt Xs tw sow S now ow.1 ow.2.1 ow.2.2.1 ow.2.2.2.1 ow.2.2.2.2) (Wo : r_wsl np nt Xs cp tw none ow) (h198 : g_R wb 198 Q = some S) (hO : X_or wb sow ks) (hks : ∀ k, k < ks.length → (ks.getD k (0, 0)).1 < ow.2.1.length ∧ ((ks.getD k (0, 0)).2 ≠ 4 → r_V Xs tw (r_ml ow.2.1 (ks.getD k (0, 0)).1) (ks.getD k (0, 0)).2 ∧ (ks.getD k (0, 0)).2 ≤ 3) ∧ ((ks.getD k (0, 0)).2 = 4 → r_ml ow.2.1 (ks.getD k (0, 0)).1 = .inl (pp k))) (ok : r_oks Xs np ow.2.1 ks pp) (hgk : r_gc ow.1 ≠ 0 → ks = []) : X_fin (f_E_run_73 200000 (some 0) 0 wb) wb ow.1.length ks.length nc np (fun k => Xs (pp k)) (r_run Xs cp ua tbl ns nm sl rc np nc ow ks mr al) := by
  have mr30 := Ra.2.2.2.2.2.1
  have al48 := Ra.2.2.2.1
  have T16 : ∀ t, t < nt → (tbl t).length ≤ 48 := fun t ht => by
    obtain ⟨-, -, -, -, -, c4⟩ := H
    obtain ⟨-, -, -, -, -, d6, -⟩ := c4 t ht
    omega
  have o := y_comps (J := fun i rd st bf s => r_J np Xs cp tw i rd st bf s) (JJ := fun i st bf s => r_JJ np Xs cp tw i st bf s) (rc := rc) H Ra Z h320 h256 h454 nc4 hrc hex (fun i rd st bf q k s _ h1 h2 hq hc hk hj => r_J_M mr30 h2 hj hq hc (Ws q k hq hk).1 (Ws q k hq hk).2.1 (Ws q k hq hk).2.2 T) (fun i rd st bf q k s s' _ h1 h2 hq hc hk hj e => r_J_J al48 h1 hj hq hc (H.w3 hq) (Ws q k hq hk).1 (Ws q k hq hk).2.1 T16 e) (fun i rd st bf s _ _ hj => r_J_N hj) (fun i st bf s _ hj => r_J_S hj) (fun i rd st bf s _ _ _ hj => r_J_E hj) nc 0 200000 wb (fun _ => [], 0) (fun _ => 0) (fun _ => 0) [] (by omega) rfl (by omega) X_rf.re Y rfl (fun n hn => by cases hn) ⟨fun q _ x hx => (by cases hx), fun q _ => Nat.le_refl _, by decide, fun q _ _ => ⟨rfl, rfl⟩⟩
  unfold r_run
  generalize r_comps (fun i s st bf => r_comp (fun st bf j => r_one Xs cp ua tbl al st bf (sl j.1 j.2) j.1) cp ns nm np i (rc i) mr 1 s st bf []) nc 0 (fun _ => [], 0) (fun _ => 0) (fun _ => 0) [] = rr at o ⊢
  cases rr with
  | inr c => exact o
  | inl z =>
    obtain ⟨w, o1, o2, o3, o4, o5, o6, o7⟩ := o
    have f := y_rend H Ra Zo h320 h256 h198 Wo.1 hO hks ok hgk o2 o3 (by rw [o4]; exact h261) o5 (r_ok_nr Wo o7.1 T)
    show X_fin _ _ _ _ _ _ _ (match r_work ow.1 al (fun ch v a => r_putA al a (v, ks.map (r_key ch))) (fun a => a.2.2) (r_cbs cp Xs ua z.1.1 tbl z.2.1 z.2.2.1 none ow.2.1 ow.2.2.1 ow.2.2.2.1) ([], z.1.2, false) with | .inr c => .inr c | .inl a => .inl (a.1, z.2.2.2, z.1.1))
    rw [show f_E_run_73 200000 (some 0) 0 wb = r_rend w from o1]
    generalize r_work ow.1 al (fun ch v a => r_putA al a (v, ks.map (r_key ch))) (fun a => a.2.2) (r_cbs cp Xs ua z.1.1 tbl z.2.1 z.2.2.1 none ow.2.1 ow.2.2.1 ow.2.2.2.1) ([], z.1.2, false) = ww at f ⊢
    cases ww with
    | inr c => exact f
    | inl a =>
      obtain ⟨w', f1, f2⟩ := f
      exact ⟨w', f1, f2, o6⟩
end
