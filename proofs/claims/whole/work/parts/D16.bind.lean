/-! RUNNING (engine): the state of a run; sources are bound -/
/-- what a run may change -/
def X_rf (w w' : g_St) : Prop := (g_cnt w' = g_cnt w ∧ g_cn w' = g_cn w ∧ g_sn w' = g_sn w ∧ g_L w' = g_L w ∧ g_AR w' = g_AR w ∧ g_ln w' = g_ln w) ∧ (∀ k a, ¬ (k = 521 ∧ a % 64 = 9) → ¬ (a = 4 ∧ (k = 772 ∨ k = 836 ∨ k = 900)) → g_R w' k a = g_R w k a) ∧ (∀ k a, ¬ (k = 585 ∨ k = 649 ∨ k = 713 ∨ k = 777) → ¬ (a = 4 ∧ (k = 708 ∨ k = 1092 ∨ k = 964 ∨ k = 1028)) → ¬ (a % 64 = 5 ∧ a < 320 ∧ (k = 261 ∨ k = 325 ∨ k = 389)) → g_I w' k a = g_I w k a) ∧ (∀ a i, ¬ (a % 64 = 21 ∧ 85 ≤ a ∧ a < 597) → g_AL w' a i = g_AL w a i) ∧ ∀ a i, ¬ (a % 64 = 20 ∧ 84 ≤ a ∧ a < 916) → g_AI w' a i = g_AI w a i
section
variable {u v w w' : g_St}
theorem X_rf.re : X_rf w w := ⟨⟨rfl, rfl, rfl, rfl, rfl, rfl⟩, fun _ _ _ _ => rfl, fun _ _ _ _ _ => rfl, fun _ _ _ => rfl, fun _ _ _ => rfl⟩
theorem X_rf.trans (h : X_rf u v) (g : X_rf v w) : X_rf u w := by
  obtain ⟨⟨a1, a2, a3, a4, a5, a6⟩, a7, a8, a9, a10⟩ := h
  obtain ⟨⟨b1, b2, b3, b4, b5, b6⟩, b7, b8, b9, b10⟩ := g
  exact ⟨⟨b1.trans a1, b2.trans a2, b3.trans a3, b4.trans a4, b5.trans a5, b6.trans a6⟩, fun k a x y => (b7 k a x y).trans (a7 k a x y), fun k a x y z => (b8 k a x y z).trans (a8 k a x y z), fun a i x => (b9 a i x).trans (a9 a i x), fun a i x => (b10 a i x).trans (a10 a i x)⟩
theorem X_rf.ag (h : X_rf v w) : E_ag v w := ⟨fun a a1 a2 => ⟨fun k k1 k2 k3 k4 => h.2.2.1 k a (fun q => by omega) (fun q => by have := q.1; omega) (fun q => by have := q.1; omega), fun k k1 => h.2.1 k a (fun q => k1 q.1) (fun q => by have := q.1; omega), fun k => by rw [h.1.2.2.2.1]⟩, fun a _ _ => ⟨by rw [h.1.2.2.2.2.1], by rw [h.1.2.2.2.2.2]⟩⟩
theorem X_wf.rf {p n0 : Nat} (h : X_wf p n0 v w) (hp : p < 5) : X_rf v w := ⟨⟨h.1.1, h.1.2.1, h.1.2.2.1, h.1.2.2.2.2.1, h.1.2.2.2.2.2.1, h.1.2.2.2.2.2.2⟩, fun k a _ _ => by rw [h.1.2.2.2.1], fun k a x y z => h.2.1 k a (fun e => x (by omega)) (fun q => z ⟨by have := q.2; omega, by have := q.2; omega, Or.inl q.1⟩) (fun q => y ⟨q.1, by have := q.2; omega⟩), fun a i x => h.2.2.1 a i (fun q => x (by have := q.1; omega)) (fun q => x (by omega)) (fun q => x (by omega)) (fun q => x (by omega)), fun a i x => h.2.2.2 a i (fun q => x (by have := q.1; omega)) (fun q => x (by omega))⟩
theorem X_gf.rf (h : X_gf v w) : X_rf v w := (h.wf (p := 0) (n0 := 0)).rf (by omega)
theorem X_rf.pI (h : X_rf v w) {k a : Nat} (hk : (a % 64 = 9 ∧ (k = 585 ∨ k = 649 ∨ k = 713 ∨ k = 777)) ∨ (a = 4 ∧ (k = 708 ∨ k = 1092 ∨ k = 964 ∨ k = 1028)) ∨ (a % 64 = 5 ∧ a < 320 ∧ (k = 261 ∨ k = 325 ∨ k = 389))) (x : Int32) : X_rf v (g_setI w k a x) := ⟨h.1, h.2.1, fun k' a' h1 h2 h3 => by
  rw [x_I_I, if_neg (fun q => by
    rw [← q.1, ← q.2] at hk
    rcases hk with g | g | g
    · exact h1 g.2
    · exact h2 g
    · exact h3 g)]
  exact h.2.2.1 k' a' h1 h2 h3, h.2.2.2⟩
theorem X_rf.pR (h : X_rf v w) {k a : Nat} (hk : (k = 521 ∧ a % 64 = 9) ∨ (a = 4 ∧ (k = 772 ∨ k = 836 ∨ k = 900))) (x : Option Nat) : X_rf v (g_setR w k a x) := ⟨h.1, fun k' a' h1 h2 => by
  rw [x_R_R, if_neg (fun q => by
    rw [← q.1, ← q.2] at hk
    rcases hk with g | g
    · exact h1 g
    · exact h2 g)]
  exact h.2.1 k' a' h1 h2, h.2.2⟩
end
/-- what stands still during a run -/
def X_sq (w : g_St) (Q : Nat) (P : Nat → Nat) (np : Nat) (Xs : Nat → r_Pt) (cp : Nat → Nat) (ua : Nat → Bool) (nt : Nat) (tbl : Nat → List (Nat → Int64)) (tw : Nat → Nat) (ca : Nat → Nat) : Prop := (g_R w 452 4 = some Q ∧ Q % 64 = 6 ∧ g_I w 70 Q = Int32.ofNat np ∧ np ≤ 4 ∧ ∃ PA, g_R w 6 Q = some PA ∧ PA % 64 = 24 ∧ g_ln w PA = 4 ∧ ∀ q, q < np → g_AR w PA q = some (P q) ∧ X_pt w (P q) (Xs q) ∧ g_I w 903 (P q) = Int32.ofNat (cp q) ∧ cp q ≤ 4 ∧ g_I w 583 (P q) = z_g (ua q)) ∧ (g_R w 4 4 = some 93 ∧ g_ln w 93 = 5 ∧ ∀ i, i < 5 → g_AR w 93 i = some (64 * i + 5) ∧ X_fx w i) ∧ g_R w 516 4 = some 29 ∧ g_ln w 29 = 5 ∧ nt ≤ 5 ∧ ∀ t, t < nt → g_AR w 29 t = some ((5 + t) * 64 + 5) ∧ g_R w 69 ((5 + t) * 64 + 5) = some (ca t) ∧ 597 ≤ ca t ∧ g_ln w (ca t) = 68 ∧ g_I w 261 ((5 + t) * 64 + 5) = Int32.ofNat (tbl t).length ∧ (tbl t).length ≤ 16 ∧ tw t ≤ 3 ∧ ∀ i, i < (tbl t).length → ∀ j, j < tw t → g_AL w (ca t) (i * 4 + j) = (tbl t).getD i r_c0 j
section
variable {v w : g_St} {Q np nt : Nat} {P cp tw ca : Nat → Nat} {Xs : Nat → r_Pt} {ua : Nat → Bool} {tbl : Nat → List (Nat → Int64)}
theorem X_sq.rf (h : X_sq v Q P np Xs cp ua nt tbl tw ca) (f : X_rf v w) : X_sq w Q P np Xs cp ua nt tbl tw ca := by
  obtain ⟨⟨a1, a2, a3, a4, PA, a5, a6, a7, a8⟩, ⟨b1, b2, b3⟩, c1, c2, c3, c4⟩ := h
  have R : ∀ k a, ¬ (k = 521 ∧ a % 64 = 9) → ¬ (a = 4 ∧ (k = 772 ∨ k = 836 ∨ k = 900)) → g_R w k a = g_R v k a := f.2.1
  have A : ∀ a i, g_AR w a i = g_AR v a i := fun a i => by rw [f.1.2.2.2.2.1]
  have N : ∀ a, g_ln w a = g_ln v a := fun a => by rw [f.1.2.2.2.2.2]
  refine ⟨⟨by rw [R _ _ (by decide) (by decide)]; exact a1, a2, by rw [f.ag.I (by omega) (by omega) (by decide)]; exact a3, a4, PA, by rw [f.ag.R (by omega) (by omega) (by decide)]; exact a5, a6, by rw [N]; exact a7, fun q hq => ?_⟩, ⟨by rw [R _ _ (by decide) (by decide)]; exact b1, by rw [N]; exact b2, fun i hi => ?_⟩, by rw [R _ _ (by decide) (by decide)]; exact c1, by rw [N]; exact c2, c3, fun t ht => ?_⟩
  · obtain ⟨d1, d2, d3, d4, d5⟩ := a8 q hq
    have p7 := d2.1
    exact ⟨by rw [A]; exact d1, d2.ag f.ag, by rw [f.ag.I (by omega) (by omega) (by decide)]; exact d3, d4, by rw [f.ag.I (by omega) (by omega) (by decide)]; exact d5⟩
  · obtain ⟨d1, d2⟩ := b3 i hi
    refine ⟨by rw [A]; exact d1, ?_⟩
    unfold X_fx at *
    rw [R _ _ (fun q => by have := q.1; omega) (fun q => by have := q.1; omega), R _ _ (fun q => by have := q.1; omega) (fun q => by have := q.1; omega), R _ _ (fun q => by have := q.1; omega) (fun q => by have := q.1; omega), N, N, N]
    exact d2
  · obtain ⟨d1, d2, d3, d4, d5, d6, d7, d8⟩ := c4 t ht
    refine ⟨by rw [A]; exact d1, by rw [R _ _ (fun q => by have := q.1; omega) (fun q => by have := q.1; omega)]; exact d2, d3, by rw [N]; exact d4, by rw [f.2.2.1 _ _ (by decide) (fun q => by have := q.1; omega) (fun q => by have := q.2.1; omega)]; exact d5, d6, d7, fun i hi j hj => by rw [f.2.2.2.1 _ _ (fun q => by have := q.2.2; omega)]; exact d8 i hi j hj⟩
end
/-- the rows of all parts, where the rounds began, and how many rows there are -/
def X_dy (w : g_St) (np : Nat) (Xs : Nat → r_Pt) (pr : Nat → List r_Row) (st bf : Nat → Nat) (tot : Nat) : Prop := (∀ q, q < np → X_rl w q (r_tr (Xs q)) (Xs q).1 (pr q) ∧ g_I w 325 (64 * q + 5) = Int32.ofNat (st q) ∧ g_I w 389 (64 * q + 5) = Int32.ofNat (bf q) ∧ bf q ≤ st q ∧ st q ≤ (pr q).length ∧ (pr q).length ≤ tot) ∧ g_I w 708 4 = Int32.ofNat tot ∧ tot ≤ 48
def r_rel : Nat ⊕ Nat → Nat
  | .inl q => 64 * q + 5
  | .inr t => (5 + t) * 64 + 5
def r_rws (pr : Nat → List r_Row) (tbl : Nat → List (Nat → Int64)) : Nat ⊕ Nat → List r_Row
  | .inl q => pr q
  | .inr t => (tbl t).map fun c => [c]
/-- a source of the component that is worked -/
def r_in (cp : Nat → Nat) (pc : Option Nat) : Nat ⊕ Nat → Bool
  | .inl q => pc.any fun p => decide (cp p = cp q)
  | .inr _ => false
def r_frm (cp : Nat → Nat) (ua : Nat → Bool) (bf : Nat → Nat) (pc : Option Nat) : Nat ⊕ Nat → Nat
  | .inl q => if r_in cp pc (.inl q) = true then (if ua q = true then bf q else 0) else 0
  | .inr _ => 0
def r_to (cp : Nat → Nat) (pr : Nat → List r_Row) (tbl : Nat → List (Nat → Int64)) (st : Nat → Nat) (pc : Option Nat) : Nat ⊕ Nat → Nat
  | .inl q => if r_in cp pc (.inl q) = true then st q else (pr q).length
  | .inr t => (tbl t).length
def r_mkd (cp : Nat → Nat) (Xs : Nat → r_Pt) (pc : Option Nat) : Nat ⊕ Nat → Bool
  | .inl q => r_in cp pc (.inl q) && (Xs q).2.2.1.isSome
  | .inr _ => false
theorem r_frm_l (cp : Nat → Nat) (ua : Nat → Bool) (bf : Nat → Nat) (pc : Option Nat) (q : Nat) : r_frm cp ua bf pc (.inl q) = if r_in cp pc (.inl q) = true then (if ua q = true then bf q else 0) else 0 := rfl
theorem r_to_l (cp : Nat → Nat) (pr : Nat → List r_Row) (tbl : Nat → List (Nat → Int64)) (st : Nat → Nat) (pc : Option Nat) (q : Nat) : r_to cp pr tbl st pc (.inl q) = if r_in cp pc (.inl q) = true then st q else (pr q).length := rfl
theorem r_mkd_l (cp : Nat → Nat) (Xs : Nat → r_Pt) (pc : Option Nat) (q : Nat) : r_mkd cp Xs pc (.inl q) = (r_in cp pc (.inl q) && (Xs q).2.2.1.isSome) := rfl
theorem x_Rss (u : g_St) (k a : Nat) (v : Option Nat) : g_R (g_setR u k a v) k a = v := by rw [x_R_R, if_pos ⟨rfl, rfl⟩]
/-- a source is bound -/
def X_bn (w : g_St) (r : Nat) (m : Nat ⊕ Nat) (fr to : Nat) (mk : Bool) : Prop := g_R w 521 r = some (r_rel m) ∧ g_I w 585 r = Int32.ofNat fr ∧ g_I w 649 r = Int32.ofNat to ∧ g_I w 777 r = z_g mk
/-- binding changes only its source -/
def X_bf (r : Nat) (w w' : g_St) : Prop := (g_cnt w' = g_cnt w ∧ g_cn w' = g_cn w ∧ g_sn w' = g_sn w ∧ g_L w' = g_L w ∧ g_AR w' = g_AR w ∧ g_ln w' = g_ln w ∧ g_AL w' = g_AL w ∧ g_AI w' = g_AI w) ∧ (∀ k a, ¬ (k = 521 ∧ a = r) → g_R w' k a = g_R w k a) ∧ ∀ k a, ¬ (a = r ∧ (k = 585 ∨ k = 649 ∨ k = 777)) → g_I w' k a = g_I w k a
section
variable {u v w : g_St} {r : Nat}
theorem X_bf.re : X_bf r w w := ⟨⟨rfl, rfl, rfl, rfl, rfl, rfl, rfl, rfl⟩, fun _ _ _ => rfl, fun _ _ _ => rfl⟩
theorem X_bf.pI (h : X_bf r v w) {k : Nat} (hk : k = 585 ∨ k = 649 ∨ k = 777) (x : Int32) : X_bf r v (g_setI w k r x) := ⟨h.1, h.2.1, fun k' a' h1 => by rw [x_I_I, if_neg (fun q => h1 ⟨q.2, by rw [q.1]; exact hk⟩)]; exact h.2.2 k' a' h1⟩
theorem X_bf.pR (h : X_bf r v w) (x : Option Nat) : X_bf r v (g_setR w 521 r x) := ⟨h.1, fun k' a' h1 => by rw [x_R_R, if_neg (fun q => h1 q)]; exact h.2.1 k' a' h1, h.2.2⟩
theorem X_bf.rf (h : X_bf r v w) (hr : r % 64 = 9) : X_rf v w := ⟨⟨h.1.1, h.1.2.1, h.1.2.2.1, h.1.2.2.2.1, h.1.2.2.2.2.1, h.1.2.2.2.2.2.1⟩, fun k a x _ => h.2.1 k a (fun q => x ⟨q.1, by rw [q.2]; exact hr⟩), fun k a x _ _ => h.2.2 k a (fun q => x (by have := q.2; omega)), fun a i _ => by rw [h.1.2.2.2.2.2.2.1], fun a i _ => by rw [h.1.2.2.2.2.2.2.2]⟩
end
section
variable {w : g_St} {Q np nt : Nat} {P cp tw ca : Nat → Nat} {Xs : Nat → r_Pt} {ua : Nat → Bool} {tbl : Nat → List (Nat → Int64)} {pr : Nat → List r_Row} {st' bf : Nat → Nat} {tot : Nat}
theorem y_bind (H : X_sq w Q P np Xs cp ua nt tbl tw ca) (Y : X_dy w np Xs pr st' bf tot) {pc : Option Nat} (hpc : g_R w 836 4 = pc.map P) (hpc' : ∀ p, pc = some p → p < np) {r : Nat} (hr : r % 64 = 9) {m : Nat ⊕ Nat} (h1 : g_I w 393 r = z_ppE (some m)) (h2 : ∀ q, m = .inl q → q < np) (h3 : ∀ t, m = .inr t → t < nt ∧ g_I w 457 r = Int32.ofNat t) : ∃ w', f_Ru_bind (some 4) (some r) w = some ((), w') ∧ X_bf r w w' ∧ X_bn w' r m (r_frm cp ua bf pc m) (r_to cp pr tbl st' pc m) (r_mkd cp Xs pc m) := by
  obtain ⟨⟨a1, a2, a3, a4, PA, a5, a6, a7, a8⟩, ⟨b1, b2, b3⟩, c1, c2, c3, c4⟩ := H
  obtain ⟨y1, y2, y3⟩ := Y
  obtain ⟨s2, e2⟩ : ∃ s2, s2 = g_setI (g_setI w 777 r (z_g false)) 585 r (Int32.ofNat 0) := ⟨_, rfl⟩
  have B2 : X_bf r w s2 := by rw [e2]; exact (X_bf.re.pI (Or.inr (Or.inr rfl)) _).pI (Or.inl rfl) _
  have i585 : g_I s2 585 r = Int32.ofNat 0 := by rw [e2, x_Iss]
  have i777 : g_I s2 777 r = z_g false := by rw [e2, x_Ik (by decide), x_Iss]
  have I2 : ∀ k a, ¬ (a = r ∧ (k = 585 ∨ k = 649 ∨ k = 777)) → g_I s2 k a = g_I w k a := B2.2.2
  have R2 : ∀ k a, ¬ (k = 521 ∧ a = r) → g_R s2 k a = g_R w k a := B2.2.1
  have A2 : ∀ a i, g_AR s2 a i = g_AR w a i := fun a i => by rw [B2.1.2.2.2.2.1]
  have N2 : ∀ a, g_ln s2 a = g_ln w a := fun a => by rw [B2.1.2.2.2.2.2.1]
  unfold f_Ru_bind
  rw [show g_pZ w 777 (some r) 0 = g_pZ w 777 (some r) (z_g false) from rfl, x_pZ, x_pI, show (g_setI (g_setI w 777 r (z_g false)) 585 r 0) = s2 from e2.symm, x_gI, I2 _ _ (fun q => by have := q.2; omega), h1]
  obtain ⟨s3, e3⟩ : ∃ s3, s3 = g_setI (g_setR s2 521 r (some (r_rel m))) 649 r (Int32.ofNat (r_rws pr tbl m).length) := ⟨_, rfl⟩
  have B3 : X_bf r w s3 := by rw [e3]; exact (B2.pR _).pI (Or.inr (Or.inl rfl)) _
  have r521 : g_R s3 521 r = some (r_rel m) := by rw [e3]; exact x_Rss _ _ _ _
  have j585 : g_I s3 585 r = Int32.ofNat 0 := by rw [e3, x_Ik (by decide)]; exact i585
  have j777 : g_I s3 777 r = z_g false := by rw [e3, x_Ik (by decide)]; exact i777
  have j649 : g_I s3 649 r = Int32.ofNat (r_rws pr tbl m).length := by rw [e3, x_Iss]
  have I3 : ∀ k a, ¬ (a = r ∧ (k = 585 ∨ k = 649 ∨ k = 777)) → g_I s3 k a = g_I w k a := B3.2.2
  have R3 : ∀ k a, ¬ (k = 521 ∧ a = r) → g_R s3 k a = g_R w k a := B3.2.1
  have nq : ∀ k, k ≠ 521 → ∀ a, ¬ (k = 521 ∧ a = r) := fun k hk a q => hk q.1
  have plain : r_in cp pc m = false → X_bn s3 r m (r_frm cp ua bf pc m) (r_to cp pr tbl st' pc m) (r_mkd cp Xs pc m) := fun e => by
    cases m with
    | inl q =>
      refine ⟨r521, ?_, ?_, ?_⟩
      · rw [j585, r_frm_l, e, if_neg (by decide)]
      · rw [j649, r_to_l, e, if_neg (by decide)]; rfl
      · rw [j777, r_mkd_l, e, Bool.false_and]
    | inr t => exact ⟨r521, j585, by rw [j649]; show Int32.ofNat ((tbl t).map _).length = Int32.ofNat (tbl t).length; rw [List.length_map], j777⟩
  cases m with
  | inr t =>
    obtain ⟨t1, t2⟩ := h3 t rfl
    obtain ⟨d1, d2, d3, d4, d5, d6, d7, d8⟩ := c4 t t1
    refine ⟨s3, ?_, B3, plain rfl⟩
    rw [if_neg (show ¬ (0 : Int32) ≤ z_ppE (some (.inr t)) from (by decide : ¬ (0 : Int32) ≤ -1)), x_gR, R2 _ _ (nq _ (by decide) _), c1, x_gI, I2 _ _ (fun q => by have := q.2; omega), t2, x_aR (by omega) (by rw [N2]; omega), A2, d1, x_pR, x_gR, x_Rss, x_gI, show g_I (g_setR s2 521 r (some ((5 + t) * 64 + 5))) 261 ((5 + t) * 64 + 5) = g_I w 261 ((5 + t) * 64 + 5) from I2 _ _ (fun q => by have := q.1; omega), d5, x_pI, e3]
    show some ((), g_setI _ _ _ _) = some ((), g_setI _ _ _ (Int32.ofNat ((tbl t).map _).length))
    rw [List.length_map]
    rfl
  | inl q =>
    have hq := h2 q rfl
    obtain ⟨d1, d2, d3, d4, d5⟩ := a8 q hq
    obtain ⟨l1, l2, l3, l4, l5, l6⟩ := y1 q hq
    have p7 := d2.1
    have p7 : g_AR s2 PA q = some (P q) := by rw [A2]; exact d1
    have S2 : ∀ F : Option Nat → g_St → Option (Unit × g_St), (g_gR s2 452 (some 4) fun p4 => g_gR s2 6 p4 fun p5 => g_gI s2 393 (some r) fun i6 => g_aR s2 p5 i6 fun p7 => g_gR s2 4 (some 4) fun p8 => g_gI s2 393 (some r) fun i9 => g_aR s2 p8 i9 fun p10 => g_pR s2 521 (some r) p10 fun s11 => g_gR s11 521 (some r) fun p12 => g_gI s11 261 p12 fun i13 => g_pI s11 649 (some r) i13 (F p7)) = F (some (P q)) s3 := fun F => by
      rw [x_gR, R2 _ _ (nq _ (by decide) _), a1, x_gR, R2 _ _ (nq _ (by decide) _), a5, x_gI, I2 _ _ (fun q => by have := q.2; omega), h1, show z_ppE (some (.inl q)) = Int32.ofNat q from rfl, x_aR (by omega) (by rw [N2]; omega), p7, x_gR, R2 _ _ (nq _ (by decide) _), b1, x_gI, I2 _ _ (fun q => by have := q.2; omega), h1, show z_ppE (some (.inl q)) = Int32.ofNat q from rfl, x_aR (by omega) (by rw [N2]; omega), A2, (b3 q (by omega)).1, x_pR, x_gR, x_Rss, x_gI, show g_I (g_setR s2 521 r (some (64 * q + 5))) 261 (64 * q + 5) = g_I w 261 (64 * q + 5) from I2 _ _ (fun q => by have := q.1; omega), l1.1, x_pI, e3]
      rfl
    rw [if_pos (show (0 : Int32) ≤ z_ppE (some (.inl q)) from (by rw [show z_ppE (some (.inl q)) = Int32.ofNat q from rfl, show (0 : Int32) = Int32.ofNat 0 from rfl, x_le (by omega) (by omega)]; omega)), S2 (fun p7 s14 => g_gR s14 836 (some 4) fun p15 => if p15 = none then some ((), s14) else g_gR s14 836 (some 4) fun p16 => g_gI s14 903 p16 fun i17 => g_gI s14 903 p7 fun i18 => if i17 = i18 then g_gI s14 583 p7 fun i19 => if i19 = 0 then f_Ru_bind_119 (some r) p7 (some r) 0 s14 else g_gR s14 521 (some r) fun p20 => g_gI s14 389 p20 fun i21 => f_Ru_bind_119 (some r) p7 (some r) i21 s14 else some ((), s14)), x_gR, R3 _ _ (nq _ (by decide) _), hpc]
    have P9 : ∀ p, p < np → (P p) % 64 = 7 := fun p hp => (a8 p hp).2.1.1
    have IP : ∀ k p, p < np → g_I s3 k (P p) = g_I w k (P p) := fun k p hp => I3 _ _ (fun z => by have := P9 p hp; have := z.1; omega)
    have e119 : ∀ x, f_Ru_bind_119 (some r) (some (P q)) (some r) (Int32.ofNat x) s3 = some ((), g_setI (g_setI (g_setI s3 585 r (Int32.ofNat x)) 649 r (Int32.ofNat (st' q))) 777 r (z_g (Xs q).2.2.1.isSome)) := fun x => by
      unfold f_Ru_bind_119
      rw [x_pI, x_gR, show g_R (g_setI s3 585 r (Int32.ofNat x)) 521 r = some (64 * q + 5) from r521, x_gI, x_Ik (by decide), I3 _ _ (fun z => by have := z.1; omega), l2, x_pI, x_gI, x_Ik (by decide), x_Ik (by decide), IP _ _ hq, d2.2.2.2.2.1, x_pZ]
    cases hp : pc with
    | none =>
      rw [if_pos (show (none : Option Nat).map P = none from rfl)]
      rw [hp] at plain
      exact ⟨s3, rfl, B3, plain rfl⟩
    | some p =>
      have hpn := hpc' p hp
      rw [if_neg (show ¬ (some p).map P = none from Option.some_ne_none _), x_gR, R3 _ _ (nq _ (by decide) _), hpc, hp, show (some p).map P = some (P p) from rfl, x_gI, IP _ _ hpn, (a8 p hpn).2.2.1, x_gI, IP _ _ hq, d3]
      have ein : r_in cp (some p) (.inl q) = decide (cp p = cp q) := rfl
      have := (a8 p hpn).2.2.2.1
      by_cases e : cp p = cp q
      · rw [if_pos (by rw [e]), x_gI, IP _ _ hq, d5]
        have fin : ∀ x, x = r_frm cp ua bf (some p) (.inl q) → ∃ w', f_Ru_bind_119 (some r) (some (P q)) (some r) (Int32.ofNat x) s3 = some ((), w') ∧ X_bf r w w' ∧ X_bn w' r (.inl q) (r_frm cp ua bf (some p) (.inl q)) (r_to cp pr tbl st' (some p) (.inl q)) (r_mkd cp Xs (some p) (.inl q)) := fun x hx => by
          refine ⟨_, e119 x, ((B3.pI (Or.inl rfl) _).pI (Or.inr (Or.inl rfl)) _).pI (Or.inr (Or.inr rfl)) _, r521, ?_, ?_, ?_⟩
          · rw [x_Ik (by decide), x_Ik (by decide), x_Iss, hx]
          · rw [x_Ik (by decide), x_Iss, r_to_l, ein, if_pos (decide_eq_true e)]
          · rw [x_Iss, r_mkd_l, ein, decide_eq_true e, Bool.true_and]
        have fr : r_frm cp ua bf (some p) (.inl q) = if ua q = true then bf q else 0 := by rw [r_frm_l, ein, if_pos (decide_eq_true e)]
        cases hu : ua q with
        | false =>
          rw [if_pos (show z_g false = 0 from rfl)]
          exact fin 0 (by rw [fr, hu, if_neg (by decide)])
        | true =>
          rw [if_neg (show ¬ z_g true = 0 from by decide), x_gR, r521, x_gI, show r_rel (.inl q) = 64 * q + 5 from rfl, I3 _ _ (fun z => by have := z.1; omega), l3]
          exact fin _ (by rw [fr, hu, if_pos rfl])
      · rw [if_neg (by rw [x_eq (by omega) (by omega)]; exact e)]
        rw [hp] at plain
        exact ⟨s3, rfl, B3, plain (by rw [ein]; exact decide_eq_false e)⟩
end
