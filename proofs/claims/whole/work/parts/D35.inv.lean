/-! RUNNING: what stands in all rounds (pure) -/
/-- a selection of part q as it may be -/
def r_wsl (np nt : Nat) (Xs : Nat → r_Pt) (cp tw : Nat → Nat) (pc : Option Nat) (y : r_Sel) : Prop := 1 ≤ y.1.length ∧ y.2.1.length ≤ 3 ∧ (∀ k, k < y.2.1.length → (∀ q, r_ml y.2.1 k = .inl q → q < np) ∧ ∀ t, r_ml y.2.1 k = .inr t → t < nt) ∧ r_uit (fun k j => k < y.2.1.length ∧ r_V Xs tw (r_ml y.2.1 k) j ∧ j ≤ 3) y.1 ∧ (y.2.2.2.2 = false → ∀ m, m < y.1.length → (y.1.getD m r_it0).1 = 0 → ∃ o, (y.1.getD m r_it0).2 = [o] ∧ o.1 = false ∧ ∀ v, o.2 = .inl v → r_oor v = false) ∧ (∀ i z, i < y.2.2.1.length → y.2.2.1.getD i r_cd0 = .inr z → r_in cp pc z.1 = false)
theorem r_val_one (env : Nat → Nat → Int64) {o : r_Op} (h : o.1 = false) : r_val env [o] = r_op env o := by
  unfold r_val
  rw [r_go, r_go]
  by_cases c : r_op env o = r_N
  · rw [if_pos c, c]
  · rw [if_neg c, if_neg (by rw [h]; decide), Int64.zero_add]
/-- all cells are in range -/
def r_okc (np : Nat) (Xs : Nat → r_Pt) (tw : Nat → Nat) (pr : Nat → List r_Row) : Prop := ∀ q, q < np → ∀ x ∈ pr q, ∀ j, r_V Xs tw (.inl q) j → r_oor (r_hd x j) = false
theorem r_rs_mem {cp : Nat → Nat} {ua : Nat → Bool} {pr : Nat → List r_Row} {tbl : Nat → List (Nat → Int64)} {st bf : Nat → Nat} {pc : Option Nat} {m : Nat ⊕ Nat} {x : r_Row} (h : x ∈ r_rs cp ua pr tbl st bf pc m) : x ∈ r_rws pr tbl m := List.mem_of_mem_take (List.mem_of_mem_drop h)
theorem r_ok_nr {np nt : Nat} {Xs : Nat → r_Pt} {cp tw : Nat → Nat} {ua : Nat → Bool} {pr : Nat → List r_Row} {tbl : Nat → List (Nat → Int64)} {st bf : Nat → Nat} {pc : Option Nat} {y : r_Sel} (W : r_wsl np nt Xs cp tw pc y) (A : r_okc np Xs tw pr) (T : ∀ t, t < nt → ∀ c ∈ tbl t, ∀ j, j < tw t → r_oor (c j) = false) : y.2.2.2.2 = false → ∀ ch, (∀ k, k < y.2.1.length → ch k ∈ r_rs cp ua pr tbl st bf pc (r_ml y.2.1 k)) → ¬ r_bad y.1 (r_en ch) := by
  obtain ⟨w1, w2, w3, w4, w5, w6⟩ := W
  rintro hr ch hc ⟨i, i1, i2, i3⟩
  obtain ⟨o, o1, o2, o3⟩ := w5 hr i i1 i2
  have u := w4 i i1 (by omega)
  rw [o1] at u
  rw [o1, r_val_one _ o2] at i3
  unfold r_op at i3
  cases ho : o.2 with
  | inl v => rw [ho] at i3; rw [o3 v ho] at i3; cases i3
  | inr p =>
    rw [ho] at i3
    obtain ⟨k1, k2, k3⟩ := u o (List.mem_singleton.mpr rfl) p.1 p.2 ho
    have hm := r_rs_mem (hc p.1 k1)
    have i3' : r_oor (r_hd (ch p.1) p.2) = true := i3
    cases hq : r_ml y.2.1 p.1 with
    | inl q =>
      rw [hq] at hm k2
      rw [A q ((w3 p.1 k1).1 q hq) _ hm _ k2] at i3'
      cases i3'
    | inr t =>
      rw [hq] at hm k2
      have hm' : ch p.1 ∈ (tbl t).map fun c => ([c] : r_Row) := hm
      obtain ⟨c, c1, c2⟩ := List.mem_map.mp hm'
      rw [← c2] at i3'
      have : r_oor (c p.2) = false := T t ((w3 p.1 k1).2 t hq) c c1 _ k2
      rw [show r_hd [c] = c from rfl, this] at i3'
      cases i3'
def r_J (np : Nat) (Xs : Nat → r_Pt) (cp tw : Nat → Nat) (i rd : Nat) (st _bf : Nat → Nat) (s : r_Rs) : Prop := r_okc np Xs tw s.1 ∧ (∀ q, q < np → (s.1 q).length ≤ s.2) ∧ s.2 ≤ 48 ∧ (∀ q, q < np → cp q = i → (∀ x ∈ s.1 q, x.length ≤ rd) ∧ st q ≤ (s.1 q).length ∧ ∀ n, n < st q → ((s.1 q).getD n []).length + 1 ≤ max rd 1) ∧ ∀ q, q < np → i < cp q → s.1 q = [] ∧ st q = 0
def r_JJ (np : Nat) (Xs : Nat → r_Pt) (cp tw : Nat → Nat) (i : Nat) (st _bf : Nat → Nat) (s : r_Rs) : Prop := r_okc np Xs tw s.1 ∧ (∀ q, q < np → (s.1 q).length ≤ s.2) ∧ s.2 ≤ 48 ∧ ∀ q, q < np → i ≤ cp q → s.1 q = [] ∧ st q = 0
section
variable {np nt : Nat} {Xs : Nat → r_Pt} {cp tw : Nat → Nat} {ua : Nat → Bool} {tbl : Nat → List (Nat → Int64)} {al mr : Nat}
theorem r_J_S {i : Nat} {st bf : Nat → Nat} {s : r_Rs} (h : r_JJ np Xs cp tw i st bf s) : r_J np Xs cp tw i 0 st bf s := by
  obtain ⟨h1, h2, h3, h4⟩ := h
  refine ⟨h1, h2, h3, fun q hq c => ?_, fun q hq c => h4 q hq (by omega)⟩
  obtain ⟨e1, e2⟩ := h4 q hq (by omega)
  rw [e1, e2]
  exact ⟨fun x hx => (by cases hx), Nat.zero_le _, fun n hn => by omega⟩
theorem r_J_E {i rd : Nat} {st bf : Nat → Nat} {s : r_Rs} (h : r_J np Xs cp tw i rd st bf s) : r_JJ np Xs cp tw (i + 1) st bf s := ⟨h.1, h.2.1, h.2.2.1, fun q hq c => h.2.2.2.2 q hq (by omega)⟩
theorem r_J_N {i rd : Nat} {st bf : Nat → Nat} {s : r_Rs} (h : r_J np Xs cp tw i rd st bf s) : r_J np Xs cp tw i (rd + 1) (r_nst cp i s.1 st) (r_nbf cp i st bf) s := by
  obtain ⟨h1, h2, h3, h4, h5⟩ := h
  refine ⟨h1, h2, h3, fun q hq c => ?_, fun q hq c => ?_⟩
  · obtain ⟨g1, g2, g3⟩ := h4 q hq c
    unfold r_nst
    rw [if_pos c]
    refine ⟨fun x hx => by have := g1 x hx; omega, Nat.le_refl _, fun n hn => ?_⟩
    have := g1 ((s.1 q).getD n []) (by rw [List.getD_eq_getElem?_getD, List.getElem?_eq_getElem hn]; exact List.getElem_mem hn)
    omega
  · obtain ⟨e1, e2⟩ := h5 q hq c
    unfold r_nst
    rw [if_neg (by omega)]
    exact ⟨e1, e2⟩
theorem r_J_M (hmr : mr ≤ 30) {i rd : Nat} {st bf : Nat → Nat} {s : r_Rs} (hrd : rd ≤ mr) (h : r_J np Xs cp tw i rd st bf s) {q : Nat} (hq : q < np) (hc : cp q = i) {y : r_Sel} (W : r_wsl np nt Xs cp tw (some q) y) (hwd : y.1.length = (Xs q).1) (hgn : r_gc y.1 ≠ 0 → r_tr (Xs q) = true → ∀ k, k < y.2.1.length → r_ml y.2.1 k ≠ .inl q) (T : ∀ t, t < nt → ∀ c ∈ tbl t, ∀ j, j < tw t → r_oor (c j) = false) : r_may np Xs cp ua tbl st bf y q s := by
  obtain ⟨h1, h2, h3, h4, h5⟩ := h
  obtain ⟨g1, g2, g3⟩ := h4 q hq hc
  refine ⟨W.1, hwd, fun n hn => by have := g3 n hn; omega, W.2.2.2.2.2, r_ok_nr W h1 T, hgn⟩
end
