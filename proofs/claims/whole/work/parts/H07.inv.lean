/-! THE INVARIANT -/
/-- what is kept of the engine's query and answer -/
def K_q (u v : g_St) : Prop := E_ag u v ∧ g_R v 320 0 = g_R u 320 0 ∧ g_I v 448 0 = g_I u 448 0 ∧ (∀ q, q < 5 → g_I v 261 (64 * q + 5) = g_I u 261 (64 * q + 5)) ∧ (∀ i, g_AL v 533 i = g_AL u 533 i) ∧ (∀ i, g_AI v 148 i = g_AI u 148 i) ∧ ∀ i, g_AI v 84 i = g_AI u 84 i
def A_E (u : g_St) (N wd np : Nat) (pz : Nat → Nat) (cv : Nat → Nat → Int64) (tls : List (List Nat)) (sz : Nat → Nat) : Prop := g_I u 261 261 = Int32.ofNat N ∧ (∀ i, i < N → ∀ j, j < wd → g_AL u 533 (i * 4 + j) = cv i j) ∧ (∀ i, i < N → g_AI u 148 i = Int32.ofNat (pz i)) ∧ X_tls u tls ∧ ∀ q, q < np → g_I u 261 (64 * q + 5) = Int32.ofNat (sz q)
def A_M (g : g_St) (N wd nc np : Nat) (pz : Nat → Nat) (cv : Nat → Nat → Int64) (tls : List (List Nat)) (sz : Nat → Nat) : Prop := (g_I g 6017 1 = Int32.ofNat np ∧ g_I g 5889 1 = Int32.ofNat nc ∧ g_I g 5633 1 = Int32.ofNat wd ∧ g_I g 5377 1 = Int32.ofNat N) ∧ (∀ i, i < N → ∀ j, j < wd → g_AL g 981 (4 * i + j) = cv i j) ∧ (∀ i, i < N → g_AI g 4308 i = Int32.ofNat (pz i)) ∧ (∀ n, n < nc → M_tl g n (tls.getD n []) ∧ g_AI g 4372 n = Int32.ofNat (tls.getD n []).length) ∧ ∀ q, q < np → g_AI g 4500 q = Int32.ofNat (sz q)
def I_a (u g : g_St) (wd np nc : Nat) : Prop := (g_I u 448 0 = 0 ∧ g_I g 1089 1 = 0) ∨ (g_I u 448 0 = 1 ∧ g_I g 1089 1 = 1 ∧ ∃ N pz cv tls sz, (N ≤ 48 ∧ (∀ i, i < N → pz i < N) ∧ tls.length = nc) ∧ A_E u N wd np pz cv tls sz ∧ A_M g N wd nc np pz cv tls sz)
def I_q (u g : g_St) (nT : Nat) (cols : Nat → Nat) : Prop := (g_R u 320 0 = none ∧ g_I g 1025 1 = 0 ∧ g_I u 448 0 = 0 ∧ g_I g 1089 1 = 0) ∨ ∃ (Q : Nat) (b : Nat → Nat) (n : Nat) (kd pl nw nv : Nat → Nat) (wd vl : Nat → Int64) (x : z_Qu) (tc : Nat) (cq : Nat → Nat) (lv : Nat → Nat → Nat) (so : Nat → Nat → Option Nat), (g_R u 320 0 = some Q ∧ g_I g 1025 1 = 1 ∧ tc ≤ nT ∧ ∀ t, t < tc → cq t = cols t) ∧ z_H n kd ∧ t_P n kd pl nw nv wd vl x tc cq lv ∧ Y_q u Q b nw vl x tc cq lv so ∧ M_q g n kd pl nw vl x tc cq ∧ I_a u g x.2.2.1.2.1.length x.2.1.length (z_cmp nw x tc).2
section
variable {u v w g g' : g_St}
theorem K_q.re : K_q u u := ⟨E_ag.re, rfl, rfl, fun _ _ => rfl, fun _ => rfl, fun _ => rfl, fun _ => rfl⟩
theorem K_q.trans (h : K_q u v) (k : K_q v w) : K_q u w := ⟨h.1.trans k.1, k.2.1.trans h.2.1, k.2.2.1.trans h.2.2.1, fun q hq => (k.2.2.2.1 q hq).trans (h.2.2.2.1 q hq), fun i => (k.2.2.2.2.1 i).trans (h.2.2.2.2.1 i), fun i => (k.2.2.2.2.2.1 i).trans (h.2.2.2.2.2.1 i), fun i => (k.2.2.2.2.2.2 i).trans (h.2.2.2.2.2.2 i)⟩
theorem K_q.ew {wI wA : List Nat} (h : z_W wI wA u v) (h1 : 533 ∉ wA) (h2 : 148 ∉ wA) (h3 : 84 ∉ wA) : K_q u v := by
  have I : ∀ k a, a ≠ 1 → g_I v k a = g_I u k a := fun k a ha => h.2.2.2.2.2.2.2.1 k a (fun q => ha q.1)
  refine ⟨⟨fun a a1 a2 => ⟨fun k _ _ _ _ => I k a (by omega), fun k _ => by rw [h.2.2.2.2.1], fun k => by rw [h.2.2.2.1]⟩, fun a _ _ => ⟨by rw [h.2.2.2.2.2.1], by rw [h.2.2.2.2.2.2.1]⟩⟩, by rw [h.2.2.2.2.1], I _ _ (by decide), fun q hq => I _ _ (by omega), fun i => by rw [h.al h1], fun i => by rw [h.ai h2], fun i => by rw [h.ai h3]⟩
theorem A_E.keep {N wd np : Nat} {pz : Nat → Nat} {cv : Nat → Nat → Int64} {tls : List (List Nat)} {sz : Nat → Nat} (h : A_E u N wd np pz cv tls sz) (np4 : np ≤ 4) (k : K_q u v) : A_E v N wd np pz cv tls sz := by
  obtain ⟨h1, h2, h3, h4, h5⟩ := h
  obtain ⟨-, -, -, k4, k5, k6, k7⟩ := k
  refine ⟨by rw [k4 4 (by decide)]; exact h1, fun i hi j hj => by rw [k5]; exact h2 i hi j hj, fun i hi => by rw [k6]; exact h3 i hi, fun n hn => ?_, fun q hq => by rw [k4 q (by omega)]; exact h5 q hq⟩
  obtain ⟨a1, a2, a3⟩ := h4 n hn
  exact ⟨fun i hi => by rw [k7]; exact a1 i hi, by rw [k7]; exact a2, a3⟩
theorem A_M.keep {N wd nc np : Nat} {pz : Nat → Nat} {cv : Nat → Nat → Int64} {tls : List (List Nat)} {sz : Nat → Nat} (h : A_M g N wd nc np pz cv tls sz) (k : z_W [1, 65, 321] [916, 980, 597, 1044] g g') : A_M g' N wd nc np pz cv tls sz := by
  obtain ⟨⟨h1, h2, h3, h4⟩, h5, h6, h7, h8⟩ := h
  refine ⟨⟨by rw [k.fi (by decide)]; exact h1, by rw [k.fi (by decide)]; exact h2, by rw [k.fi (by decide)]; exact h3, by rw [k.fi (by decide)]; exact h4⟩, fun i hi j hj => by rw [k.al (by decide)]; exact h5 i hi j hj, fun i hi => by rw [k.ai (by decide)]; exact h6 i hi, fun n hn => ⟨fun i hi => by rw [k.ai (by decide)]; exact (h7 n hn).1 i hi, by rw [k.ai (by decide)]; exact (h7 n hn).2⟩, fun q hq => by rw [k.ai (by decide)]; exact h8 q hq⟩
theorem I_q.keep {nT nT' : Nat} {cols cols' : Nat → Nat} (h : I_q u g nT cols) (k : K_q u v) (w : z_W [1, 65, 321] [916, 980, 597, 1044] g g') (hn : nT ≤ nT') (hc : ∀ t, t < nT → cols' t = cols t) : I_q v g' nT' cols' := by
  rcases h with ⟨h1, h2, h3, h4⟩ | ⟨Q, b, n, kd, pl, nw, nv, wd, vl, x, tc, cq, lv, so, ⟨h1, h2, h3, h4⟩, h5, h6, h7, h8, h9⟩
  · exact Or.inl ⟨by rw [k.2.1]; exact h1, by rw [w.fi (by decide)]; exact h2, by rw [k.2.2.1]; exact h3, by rw [w.fi (by decide)]; exact h4⟩
  · refine Or.inr ⟨Q, b, n, kd, pl, nw, nv, wd, vl, x, tc, cq, lv, so, ⟨by rw [k.2.1]; exact h1, by rw [w.fi (by decide)]; exact h2, by omega, fun t ht => by rw [hc t (by omega)]; exact h4 t ht⟩, h5, h6, h7.ag k.1, h8.W (w.mono (by decide) (by decide)), ?_⟩
    rcases h9 with ⟨a1, a2⟩ | ⟨a1, a2, N, pz, cv, tls, sz, a3, a4, a5⟩
    · exact Or.inl ⟨by rw [k.2.2.1]; exact a1, by rw [w.fi (by decide)]; exact a2⟩
    · exact Or.inr ⟨by rw [k.2.2.1]; exact a1, by rw [w.fi (by decide)]; exact a2, N, pz, cv, tls, sz, a3, a4.keep h7.1.2.2.1 k, a5.keep w⟩
end
/-- both objects, side by side: the engine in u, the reference in g -/
def J (n : Nat) (u g : g_St) (nT : Nat) (cols cnt : Nat → Nat) (cell : Nat → Nat → Nat → Int64) (ca : Nat → Nat) (len : Nat) (T : Nat → Nat) : Prop := E_0 u ∧ (m_Fix g ∧ z_kwOk g) ∧ (z_TE u nT (fun t => Int32.ofNat (cols t)) cnt cell ca ∧ z_TM g nT (fun t => Int32.ofNat (cols t)) cnt cell ∧ (∀ t, t < nT → 1 ≤ cols t ∧ cols t ≤ 3) ∧ ∀ t, t < nT → ∀ i k, i < cnt t → k < 3 → r_oor (cell t i k) = false) ∧ (z_XE u len T ∧ z_XM g len T ∧ ∀ j, j < len → T j < 256) ∧ g_I u 384 0 = g_I g 961 1 ∧ (g_cn u + 15 * len ≤ 200 + 600 * n ∧ g_sn u + 450 * len ≤ 20000 + 10000 * n) ∧ I_q u g nT cols
def Inv (n : Nat) (u : g_St) : Prop := ∃ (g : g_St) (nT : Nat) (cols cnt : Nat → Nat) (cell : Nat → Nat → Nat → Int64) (ca : Nat → Nat) (len : Nat) (T : Nat → Nat), z_M u g ∧ J n u g nT cols cnt cell ca len T
section
variable {n : Nat} {u v g g' : g_St} {nT : Nat} {cols cnt : Nat → Nat} {cell : Nat → Nat → Nat → Int64} {ca : Nat → Nat} {len : Nat} {T : Nat → Nat}
theorem J.up (h : J n u g nT cols cnt cell ca len T) : J (n + 1) u g nT cols cnt cell ca len T := by
  obtain ⟨h1, h2, h3, h4, h5, h6, h7⟩ := h
  exact ⟨h1, h2, h3, h4, h5, ⟨by omega, by omega⟩, h7⟩
/-- a call of the reference -/
theorem J.ew {wI wA : List Nat} (h : J n u g nT cols cnt cell ca len T) (w : z_W wI wA u v) (hA : ∀ a ∈ wA, a ∈ m_arr) : J n v g nT cols cnt cell ca len T := by
  obtain ⟨h1, h2, ⟨⟨t1, t2, t3, t4⟩, h4, h5⟩, ⟨⟨x1, x2, x3⟩, h6⟩, h7, h8, h9⟩ := h
  have I : ∀ k a, a ≠ 1 → g_I v k a = g_I u k a := fun k a ha => w.2.2.2.2.2.2.2.1 k a (fun q => ha q.1)
  have na : ∀ {a}, a ∉ m_arr → a ∉ wA := fun h1 h2 => h1 (hA _ h2)
  refine ⟨h1.ew w, h2, ⟨⟨by rw [I _ _ (by decide)]; exact t1, t2, by rw [w.1]; exact t3, fun t ht => ?_⟩, h4, h5⟩, ⟨⟨by rw [I _ _ (by decide)]; exact x1, x2, fun i hi => by rw [w.ai (na (by decide))]; exact x3 i hi⟩, h6⟩, by rw [I _ _ (by decide)]; exact h7, by rw [w.2.1, w.2.2.1]; exact h8, h9.keep (K_q.ew w (na (by decide)) (na (by decide)) (na (by decide))) z_W.re (Nat.le_refl _) (fun _ _ => rfl)⟩
  obtain ⟨a1, a2, a3, a4, a5, a6, a7⟩ := t4 t ht
  have nca : ca t ∉ m_arr := (h1.2.1.2 69 (by decide) _ _ a2).2.2.1
  exact ⟨by rw [w.2.2.2.2.2.1]; exact a1, by rw [w.2.2.2.2.1]; exact a2, by rw [w.2.2.2.2.2.2.1]; exact a3, by rw [I _ _ (by omega)]; exact a4, by rw [I _ _ (by omega)]; exact a5, a6, fun i k hi hk => by rw [w.al (na nca)]; exact a7 i k hi hk⟩
/-- the law's own cell -/
theorem J.out (h : J n u g nT cols cnt cell ca len T) (x : Int64) : J n (g_setAL u 1237 0 x) g nT cols cnt cell ca len T := by
  obtain ⟨h1, h2, ⟨⟨t1, t2, t3, t4⟩, h4, h5⟩, ⟨⟨x1, x2, x3⟩, h6⟩, h7, h8, h9⟩ := h
  refine ⟨h1, h2, ⟨⟨t1, t2, t3, fun t ht => ?_⟩, h4, h5⟩, ⟨⟨x1, x2, x3⟩, h6⟩, h7, h8, h9.keep ⟨⟨fun a a1 a2 => ⟨fun _ _ _ _ _ => rfl, fun _ _ => rfl, fun _ => rfl⟩, fun _ _ _ => ⟨rfl, rfl⟩⟩, rfl, rfl, fun _ _ => rfl, fun i => by rw [x_AL_AL, if_neg (fun q => by have := q.1; omega)], fun _ => rfl, fun _ => rfl⟩ z_W.re (Nat.le_refl _) (fun _ _ => rfl)⟩
  obtain ⟨a1, a2, a3, a4, a5, a6, a7⟩ := t4 t ht
  have nca : ca t ≠ 1237 := (h1.2.1.2 69 (by decide) _ _ a2).2.2.2.1
  exact ⟨a1, a2, a3, a4, a5, a6, fun i k hi hk => by rw [x_AL_AL, if_neg (fun q => nca q.1)]; exact a7 i k hi hk⟩
/-- a throw -/
theorem J.thr (h : J n u g nT cols cnt cell ca len T) : J (n + 1) (g_bump u 8 512) g nT cols cnt cell ca len T := by
  obtain ⟨h1, h2, h3, h4, h5, h6, h7⟩ := h
  refine ⟨h1, h2, h3, h4, h5, ⟨?_, ?_⟩, h7.keep ⟨⟨fun a a1 a2 => ⟨fun _ _ _ _ _ => rfl, fun _ _ => rfl, fun _ => rfl⟩, fun _ _ _ => ⟨rfl, rfl⟩⟩, rfl, rfl, fun _ _ => rfl, fun _ => rfl, fun _ => rfl, fun _ => rfl⟩ z_W.re (Nat.le_refl _) (fun _ _ => rfl)⟩
  · show g_cn u + 8 + 15 * len ≤ _
    omega
  · show g_sn u + 512 + 450 * len ≤ _
    omega
/-- the reference says how a call ended -/
theorem J.m1 (h : J n u g nT cols cnt cell ca len T) (x : Int32) : J n u (g_setI g 1 1 x) nT cols cnt cell ca len T := by
  obtain ⟨h1, h2, ⟨h3, ⟨t1, t2, t3⟩, h5⟩, ⟨h6, ⟨x1, x2, x3⟩, h8⟩, h9, h10, h11⟩ := h
  have I : ∀ k, k ≠ 1 → g_I (g_setI g 1 1 x) k 1 = g_I g k 1 := fun k hk => by rw [x_I_I, if_neg (fun q => hk q.1)]
  exact ⟨h1, h2, ⟨h3, ⟨by rw [I _ (by decide)]; exact t1, t2, t3⟩, h5⟩, ⟨h6, ⟨by rw [I _ (by decide)]; exact x1, x2, x3⟩, h8⟩, by rw [I _ (by decide)]; exact h9, h10, h11.keep K_q.re (z_W.re.pI (by decide) x) (Nat.le_refl _) (fun _ _ => rfl)⟩
theorem J.rm (h : J n u g nT cols cnt cell ca len T) (hn : n < 512) : g_cn u + 6510 ≤ 601024 ∧ g_sn u + 195030 ≤ 7293034 := by
  have := h.2.2.2.2.2.1
  omega
theorem z_M.out (h : z_M u g) (x : Int64) : z_M (g_setAL u 1237 0 x) g := ⟨h.1, h.2.1, fun a ha => ⟨(h.2.2 a ha).1, (h.2.2 a ha).2.1, by
  rw [← (h.2.2 a ha).2.2]
  funext i
  rw [x_AL_AL, if_neg (fun q => by
    have e := q.1
    rw [e] at ha
    exact absurd ha (by decide))]⟩⟩
theorem z_M.bump (h : z_M u g) (c n : Nat) : z_M (g_bump u c n) g := h
end
/-- the reference's half of a call -/
theorem I_step {β : Type} {m : g_St → Option (β × g_St)} {wI wA : List Nat} (L : ∀ {t0 s0 : g_St} {o : β × g_St}, z_M t0 s0 → m_Fix s0 → m s0 = some o → ∃ o', m t0 = some o' ∧ o'.1 = o.1 ∧ z_M o'.2 o.2) (Wf : ∀ (s0 : g_St) {o : β × g_St}, m_Fix s0 → m s0 = some o → z_W wI wA s0 o.2) (hA : ∀ a ∈ wA, a ∈ m_arr) {n : Nat} {s g g' : g_St} {b : β} {nT : Nat} {cols cnt : Nat → Nat} {cell : Nat → Nat → Nat → Int64} {ca : Nat → Nat} {len : Nat} {T : Nat → Nat} (hz : z_M s g) (F : m_Fix g) (hm : m g = some (b, g')) (hJ : J n s g' nT cols cnt cell ca len T) : ∃ u2, m s = some (b, u2) ∧ g_I u2 1 1 = g_I g' 1 1 ∧ (g_ln u2 1237 = g_ln s 1237 ∧ g_AL u2 1237 = g_AL s 1237) ∧ Inv n u2 := by
  obtain ⟨o', l1, l2, l3⟩ := L hz F hm
  have w := Wf s (hz.fx F) l1
  have n1237 : 1237 ∉ wA := fun h => absurd (hA _ h) (by decide)
  refine ⟨o'.2, by rw [l1]; exact congrArg some (Prod.ext l2 rfl), l3.1 1 (by decide), ⟨by rw [w.2.2.2.2.2.2.1], w.al n1237⟩, g', nT, cols, cnt, cell, ca, len, T, l3, hJ.ew w hA⟩
