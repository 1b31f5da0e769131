/-! RUNNING (engine): a selection; its sources are bound -/
/-- the columns of a source -/
def r_V (Xs : Nat → r_Pt) (tw : Nat → Nat) : Nat ⊕ Nat → Nat → Prop
  | .inl q, j => j < (Xs q).1 ∨ (j = 3 ∧ r_tr (Xs q) = true)
  | .inr t, j => j < tw t
def r_ml (ms : List (Nat ⊕ Nat)) (k : Nat) : Nat ⊕ Nat := ms.getD k (.inl 0)
def r_gc (its : List r_It) : Nat := (its.filter fun i => decide (i.1 ≠ 0)).length
def X_src (w : g_St) (np nt r : Nat) (m : Nat ⊕ Nat) : Prop := r % 64 = 9 ∧ g_I w 393 r = z_ppE (some m) ∧ (∀ q, m = .inl q → q < np) ∧ ∀ t, m = .inr t → t < nt ∧ g_I w 457 r = Int32.ofNat t
theorem X_src.ag {v w : g_St} {np nt r : Nat} {m : Nat ⊕ Nat} (h : X_src v np nt r m) (f : E_ag v w) : X_src w np nt r m := by
  obtain ⟨h1, h2, h3, h4⟩ := h
  exact ⟨h1, by rw [f.I (by omega) (by omega) (by decide)]; exact h2, h3, fun t ht => ⟨(h4 t ht).1, by rw [f.I (by omega) (by omega) (by decide)]; exact (h4 t ht).2⟩⟩
def r_ucd (Xs : Nat → r_Pt) (tw : Nat → Nat) (ms : List (Nat ⊕ Nat)) (l : Nat) : r_Cd → Prop
  | .inl b => r_ucp (fun k j => k < l ∧ r_V Xs tw (r_ml ms k) j ∧ j ≤ 3) b
  | .inr z => ∀ b ∈ z.2, r_ucp (fun k j => ((k < l ∧ r_V Xs tw (r_ml ms k) j) ∨ (k = 3 ∧ r_V Xs tw z.1 j)) ∧ j ≤ 3) b
/-- a selection as it is prepared -/
def X_sel (w : g_St) (np nt : Nat) (Xs : Nat → r_Pt) (tw : Nat → Nat) (so : Nat → Option Nat) (S ow : Nat) (its : List r_It) (ms : List (Nat ⊕ Nat)) (cds : List r_Cd) (lv : Nat → Nat) (rk : Bool) : Prop := (S % 64 = 8 ∧ g_I w 456 S = Int32.ofNat ms.length ∧ ms.length ≤ 3 ∧ g_I w 584 S = Int32.ofNat cds.length ∧ cds.length ≤ 6 ∧ g_I w 712 S = z_g rk ∧ g_I w 8 S = Int32.ofNat ow ∧ ow ≤ 4 ∧ g_I w 328 S = Int32.ofNat (r_gc its)) ∧ (X_it w so S its ∧ r_uit (fun k j => k < ms.length ∧ r_V Xs tw (r_ml ms k) j ∧ j ≤ 3) its) ∧ (∃ A, g_R w 392 S = some A ∧ A % 64 = 27 ∧ g_ln w A = 3 ∧ ∀ k, k < ms.length → ∃ r, so k = some r ∧ g_AR w A k = some r ∧ X_src w np nt r (r_ml ms k)) ∧ (∀ k, ms.length ≤ k → so k = none) ∧ (∀ k k' r, so k = some r → so k' = some r → k = k') ∧ ∃ B, g_R w 520 S = some B ∧ B % 64 = 28 ∧ g_ln w B = 6 ∧ (∀ i, i < cds.length → ∃ co, g_AR w B i = some co ∧ X_cd w so co (cds.getD i r_cd0) ∧ g_I w 394 co = Int32.ofNat (lv i) ∧ lv i ≤ ms.length ∧ r_ucd Xs tw ms (lv i) (cds.getD i r_cd0) ∧ ∀ z, cds.getD i r_cd0 = .inr z → ∀ r, g_R w 202 co = some r → X_src w np nt r z.1) ∧ ∀ i i' co co' r, i < cds.length → i' < cds.length → g_AR w B i = some co → g_AR w B i' = some co' → g_R w 202 co = some r → g_R w 202 co' = some r → i = i'
/-- only what binds sources is changed -/
def X_bg (w w' : g_St) : Prop := (g_cnt w' = g_cnt w ∧ g_cn w' = g_cn w ∧ g_sn w' = g_sn w ∧ g_L w' = g_L w ∧ g_AR w' = g_AR w ∧ g_ln w' = g_ln w ∧ g_AL w' = g_AL w ∧ g_AI w' = g_AI w) ∧ (∀ k a, a % 64 ≠ 9 → g_R w' k a = g_R w k a ∧ g_I w' k a = g_I w k a) ∧ (∀ k a, k ≠ 521 → g_R w' k a = g_R w k a) ∧ ∀ k a, k ≠ 585 → k ≠ 649 → k ≠ 777 → g_I w' k a = g_I w k a
section
variable {u v w : g_St} {r : Nat}
theorem X_bg.re : X_bg w w := ⟨⟨rfl, rfl, rfl, rfl, rfl, rfl, rfl, rfl⟩, fun _ _ _ => ⟨rfl, rfl⟩, fun _ _ _ => rfl, fun _ _ _ _ _ => rfl⟩
theorem X_bg.trans (h : X_bg u v) (g : X_bg v w) : X_bg u w := by
  obtain ⟨⟨a1, a2, a3, a4, a5, a6, a7, a8⟩, a9, a10, a11⟩ := h
  obtain ⟨⟨b1, b2, b3, b4, b5, b6, b7, b8⟩, b9, b10, b11⟩ := g
  exact ⟨⟨b1.trans a1, b2.trans a2, b3.trans a3, b4.trans a4, b5.trans a5, b6.trans a6, b7.trans a7, b8.trans a8⟩, fun k a x => ⟨(b9 k a x).1.trans (a9 k a x).1, (b9 k a x).2.trans (a9 k a x).2⟩, fun k a x => (b10 k a x).trans (a10 k a x), fun k a x y z => (b11 k a x y z).trans (a11 k a x y z)⟩
theorem X_bf.bg (h : X_bf r v w) (hr : r % 64 = 9) : X_bg v w := ⟨h.1, fun k a x => ⟨h.2.1 k a (fun q => x (by rw [q.2]; exact hr)), h.2.2 k a (fun q => x (by rw [q.1]; exact hr))⟩, fun k a x => h.2.1 k a (fun q => x q.1), fun k a x y z => h.2.2 k a (fun q => by rcases q.2 with e | e | e; exact x e; exact y e; exact z e)⟩
theorem X_bg.rf (h : X_bg v w) : X_rf v w := ⟨⟨h.1.1, h.1.2.1, h.1.2.2.1, h.1.2.2.2.1, h.1.2.2.2.2.1, h.1.2.2.2.2.2.1⟩, fun k a x _ => by
  by_cases e : k = 521
  · exact (h.2.1 k a (fun q => x ⟨e, q⟩)).1
  · exact h.2.2.1 k a e, fun k a x _ _ => h.2.2.2 k a (fun q => x (by omega)) (fun q => x (by omega)) (fun q => x (by omega)), fun a i _ => by rw [h.1.2.2.2.2.2.2.1], fun a i _ => by rw [h.1.2.2.2.2.2.2.2]⟩
theorem X_rl.eq {p : Nat} {tr : Bool} {wd : Nat} {rows : List r_Row} (R : X_rl v p tr wd rows) (hw : wd ≤ 3) (h1 : g_I w 261 (64 * p + 5) = g_I v 261 (64 * p + 5)) (h2 : g_AL w (277 + 64 * p) = g_AL v (277 + 64 * p)) (h3 : g_AI w (276 + 128 * p) = g_AI v (276 + 128 * p)) (h4 : g_AI w (340 + 128 * p) = g_AI v (340 + 128 * p)) : X_rl w p tr wd rows := by
  obtain ⟨r1, r2, r3, r4⟩ := R
  refine ⟨by rw [h1]; exact r1, r2, fun i hi j hj => by rw [h2]; exact r3 i hi j hj, fun ht i hi => ?_⟩
  obtain ⟨c1, c2, c3⟩ := r4 ht i hi
  exact ⟨c1.fr (fun k j _ _ => by rw [h2]) (fun k _ => by rw [h3]) hw, by rw [h4]; exact c2, c3⟩
theorem X_dy.bg {np : Nat} {Xs : Nat → r_Pt} {pr : Nat → List r_Row} {st bf : Nat → Nat} {tot : Nat} (h : X_dy v np Xs pr st bf tot) (hw : ∀ q, q < np → (Xs q).1 ≤ 3) (f : X_bg v w) : X_dy w np Xs pr st bf tot := by
  obtain ⟨h1, h2, h3⟩ := h
  have I : ∀ k a, a % 64 ≠ 9 → g_I w k a = g_I v k a := fun k a ha => (f.2.1 k a ha).2
  refine ⟨fun q hq => ?_, by rw [I _ _ (by decide)]; exact h2, h3⟩
  obtain ⟨a1, a2, a3, a4⟩ := h1 q hq
  exact ⟨a1.eq (hw q hq) (I _ _ (by omega)) (by rw [f.1.2.2.2.2.2.2.1]) (by rw [f.1.2.2.2.2.2.2.2]) (by rw [f.1.2.2.2.2.2.2.2]), by rw [I _ _ (by omega)]; exact a2, by rw [I _ _ (by omega)]; exact a3, a4⟩
theorem X_bn.bf {r' : Nat} {m : Nat ⊕ Nat} {fr to : Nat} {mk : Bool} (h : X_bn v r m fr to mk) (f : X_bf r' v w) (ne : r ≠ r') : X_bn w r m fr to mk := ⟨by rw [f.2.1 _ _ (fun q => ne q.2)]; exact h.1, by rw [f.2.2 _ _ (fun q => ne q.1)]; exact h.2.1, by rw [f.2.2 _ _ (fun q => ne q.1)]; exact h.2.2.1, by rw [f.2.2 _ _ (fun q => ne q.1)]; exact h.2.2.2⟩
end
theorem X_sel.ag {v w : g_St} {np nt : Nat} {Xs : Nat → r_Pt} {tw : Nat → Nat} {so : Nat → Option Nat} {S ow : Nat} {its : List r_It} {ms : List (Nat ⊕ Nat)} {cds : List r_Cd} {lv : Nat → Nat} {rk : Bool} (h : X_sel v np nt Xs tw so S ow its ms cds lv rk) (f : E_ag v w) : X_sel w np nt Xs tw so S ow its ms cds lv rk := by
  obtain ⟨⟨a1, a2, a3, a4, a5, a6, a7, a8, a9⟩, ⟨b1, b2⟩, ⟨A, c1, c2, c3, c4⟩, d1, d2, B, e1, e2, e3, e4, e5⟩ := h
  have aA := f.2 A (by omega) (by omega)
  have aB := f.2 B (by omega) (by omega)
  refine ⟨⟨a1, by rw [f.I (by omega) (by omega) (by decide)]; exact a2, a3, by rw [f.I (by omega) (by omega) (by decide)]; exact a4, a5, by rw [f.I (by omega) (by omega) (by decide)]; exact a6, by rw [f.I (by omega) (by omega) (by decide)]; exact a7, a8, by rw [f.I (by omega) (by omega) (by decide)]; exact a9⟩, ⟨b1.ag f, b2⟩, ⟨A, by rw [f.R (by omega) (by omega) (by decide)]; exact c1, c2, by rw [aA.2]; exact c3, fun k hk => ?_⟩, d1, d2, B, by rw [f.R (by omega) (by omega) (by decide)]; exact e1, e2, by rw [aB.2]; exact e3, fun i hi => ?_, ?_⟩
  · obtain ⟨r, q1, q2, q3⟩ := c4 k hk
    exact ⟨r, q1, by rw [aA.1]; exact q2, q3.ag f⟩
  · obtain ⟨co, q1, q2, q3, q4, q5, q6⟩ := e4 i hi
    have c10 := q2.1
    exact ⟨co, by rw [aB.1]; exact q1, q2.ag f, by rw [f.I (by omega) (by omega) (by decide)]; exact q3, q4, q5, fun z hz r hr => by rw [f.R (by omega) (by omega) (by decide)] at hr; exact (q6 z hz r hr).ag f⟩
  · intro i i' co co' r hi hi' x1 x2 x3 x4
    rw [aB.1] at x1 x2
    obtain ⟨co1, q1, q2, -⟩ := e4 i hi
    obtain ⟨co2, t1, t2, -⟩ := e4 i' hi'
    rw [q1] at x1
    rw [t1] at x2
    cases x1
    cases x2
    have m1 := q2.1
    have m2 := t2.1
    rw [f.R (by omega) (by omega) (by decide)] at x3 x4
    exact e5 i i' co co' r hi hi' q1 t1 x3 x4
section
variable {w : g_St} {Q np nt : Nat} {P cp tw ca : Nat → Nat} {Xs : Nat → r_Pt} {ua : Nat → Bool} {tbl : Nat → List (Nat → Int64)} {pr : Nat → List r_Row} {st bf : Nat → Nat} {tot : Nat}
theorem x_nm1 {j : Nat} (h : j < 2 ^ 31) : ¬ Int32.ofNat j = -1 := fun e => by
  have : (0 : Int32) ≤ Int32.ofNat j := by rw [show (0 : Int32) = Int32.ofNat 0 from rfl, x_le (by omega) (by omega)]; omega
  rw [e] at this
  exact absurd this (by decide)
theorem z_dt_len {α : Type} {l : List α} {a b : Nat} (h : b ≤ l.length) (h2 : a ≤ b) : a + ((l.take b).drop a).length = b := by
  rw [List.length_drop, List.length_take, Nat.min_eq_left h]; omega
theorem z_dt_get {α : Type} {l : List α} {a b : Nat} {d : α} {j : Nat} (h : a + j < b) : ((l.take b).drop a).getD j d = l.getD (a + j) d := by
  rw [List.getD_eq_getElem?_getD, List.getElem?_drop, List.getElem?_take, if_pos h, ← List.getD_eq_getElem?_getD]
theorem X_dy.sz (Y : X_dy w np Xs pr st bf tot) (pc : Option Nat) {m : Nat ⊕ Nat} (h2 : ∀ q, m = .inl q → q < np) : r_frm cp ua bf pc m ≤ r_to cp pr tbl st pc m ∧ r_to cp pr tbl st pc m ≤ (r_rws pr tbl m).length := by
  cases m with
  | inl q =>
    obtain ⟨l1, l2, l3, l4, l5, l6⟩ := Y.1 q (h2 q rfl)
    rw [r_frm_l, r_to_l]
    show _ ∧ _ ≤ (pr q).length
    by_cases e : r_in cp pc (.inl q) = true
    · rw [if_pos e, if_pos e]
      refine ⟨?_, l5⟩
      by_cases g : ua q = true
      · rw [if_pos g]; exact l4
      · rw [if_neg g]; exact Nat.zero_le _
    · rw [if_neg e, if_neg e]
      exact ⟨Nat.zero_le _, Nat.le_refl _⟩
  | inr t => exact ⟨Nat.zero_le _, by show (tbl t).length ≤ ((tbl t).map _).length; rw [List.length_map]; exact Nat.le_refl _⟩
/-- the cells of what a source names -/
theorem X_sq.cells (H : X_sq w Q P np Xs cp ua nt tbl tw ca) (Y : X_dy w np Xs pr st bf tot) {m : Nat ⊕ Nat} (h2 : ∀ q, m = .inl q → q < np) (h3 : ∀ t, m = .inr t → t < nt) : ∃ cl, g_R w 69 (r_rel m) = some cl ∧ (277 ≤ cl ∧ (r_rws pr tbl m).length ≤ 48 ∧ ∀ p, p < 5 → cl = 277 + 64 * p → m = .inl p) ∧ 4 * (r_rws pr tbl m).length ≤ g_ln w cl ∧ ∀ j, j < (r_rws pr tbl m).length → ∀ i, r_V Xs tw m i → g_AL w cl (j * 4 + i) = r_hd ((r_rws pr tbl m).getD j []) i := by
  obtain ⟨⟨a1, a2, a3, a4, PA, a5, a6, a7, a8⟩, ⟨b1, b2, b3⟩, c1, c2, c3, c4⟩ := H
  cases m with
  | inl q =>
    have hq := h2 q rfl
    obtain ⟨l1, l2, l3, l4, l5, l6⟩ := Y.1 q hq
    have t48 := Y.2.2
    obtain ⟨f1, f2, f3, f4, f5, f6⟩ := (b3 q (by omega)).2
    refine ⟨277 + 64 * q, f1, ⟨by omega, by show (pr q).length ≤ 48; omega, fun p _ e => by rw [show q = p by omega]⟩, by show 4 * (pr q).length ≤ _; omega, fun j hj i hV => ?_⟩
    have hj' : j < (pr q).length := hj
    obtain ⟨k1, k2, k3, k4⟩ := l1
    show _ = r_hd ((pr q).getD j []) i
    rcases hV with hV | ⟨e3, ht⟩
    · exact k3 j hj' i hV
    · obtain ⟨x1, x2, x3⟩ := k4 ht j hj'
      cases hrow : (pr q).getD j [] with
      | nil =>
        rw [hrow] at x1
        have e : Int32.ofNat j = -1 := x1
        exact absurd e (x_nm1 (by omega))
      | cons c t =>
        rw [hrow] at x1
        obtain ⟨k, y1, y2, y3, y4⟩ := x1
        rw [x_eq (by omega) (by omega)] at y2
        rw [y2]
        exact y3 i (Or.inr e3)
  | inr t =>
    obtain ⟨d1, d2, d3, d4, d5, d6, d7, d8⟩ := c4 t (h3 t rfl)
    refine ⟨ca t, d2, ⟨by omega, by show ((tbl t).map _).length ≤ 48; rw [List.length_map]; omega, fun p hp e => by omega⟩, by show 4 * ((tbl t).map _).length ≤ _; rw [List.length_map]; omega, fun j hj i hV => ?_⟩
    have hj' : j < (tbl t).length := by
      have : j < ((tbl t).map fun c => ([c] : r_Row)).length := hj
      rw [List.length_map] at this; exact this
    rw [d8 j hj' i hV]
    show _ = r_hd (((tbl t).map fun c => ([c] : r_Row)).getD j []) i
    rw [List.getD_eq_getElem?_getD, List.getD_eq_getElem?_getD, List.getElem?_map, List.getElem?_eq_getElem hj']
    rfl
/-- a source that is bound has its rows -/
theorem X_ss.of (H : X_sq w Q P np Xs cp ua nt tbl tw ca) (Y : X_dy w np Xs pr st bf tot) {pc : Option Nat} {r : Nat} (hr : r % 64 = 9) {m : Nat ⊕ Nat} (h2 : ∀ q, m = .inl q → q < np) (h3 : ∀ t, m = .inr t → t < nt) (B : X_bn w r m (r_frm cp ua bf pc m) (r_to cp pr tbl st pc m) (r_mkd cp Xs pc m)) {p n0 : Nat} (hp : p < 5) (hn : p < np → n0 = (pr p).length) : X_ss w p n0 r (r_V Xs tw m) (((r_rws pr tbl m).take (r_to cp pr tbl st pc m)).drop (r_frm cp ua bf pc m)) (r_mkd cp Xs pc m) (r_frm cp ua bf pc m) := by
  obtain ⟨B1, B2, B3, B4⟩ := B
  obtain ⟨s1, s2⟩ := Y.sz (cp := cp) (ua := ua) (tbl := tbl) pc h2
  obtain ⟨cl, q1, ⟨q2, q3, q4⟩, q5, q6⟩ := H.cells Y h2 h3
  have ln := z_dt_len s2 s1
  refine ⟨hr, r_rel m, cl, B1, q1, B2, by rw [ln]; exact B3, ⟨by omega, q2, fun e => ?_⟩, by omega, fun j hj i _ hV => ?_, B4, fun e => ?_⟩
  · have em := q4 p hp e
    rw [em] at s2 ⊢
    have := h2 p em
    rw [hn this]
    rw [em] at ln
    have : r_to cp pr tbl st pc (.inl p) ≤ (pr p).length := s2
    omega
  · have lt : r_frm cp ua bf pc m + j < r_to cp pr tbl st pc m := by omega
    rw [q6 _ (by omega) i hV, z_dt_get lt]
  · cases m with
    | inl q =>
      rw [r_mkd_l, Bool.and_eq_true] at e
      refine Or.inr ⟨rfl, ?_⟩
      unfold r_tr
      rw [e.2, Bool.or_true]
    | inr t => cases e
end
