/-! RUNNING (reference): candidates and their rows; what growing keeps -/
def M_cr (P : M_Pl) (tbl : Nat → List (Nat → Int64)) (ms : List (Nat ⊕ Nat)) (C : Nat → List Nat) (rs : Nat → List r_Row) : Prop := ∀ k, k < ms.length → (C k).length = (rs k).length ∧ ∀ i, i < (rs k).length → ∃ i0, (C k).getD i 0 = M_xc (r_ml ms k) i0 ∧ M_at P tbl (r_ml ms k) i0 = some ((rs k).getD i [])
theorem M_at_app {P Q : M_Pl} {tbl : Nat → List (Nat → Int64)} {m : Nat ⊕ Nat} {i : Nat} {r : r_Row} (h : M_at P tbl m i = some r) : M_at (P ++ Q) tbl m i = some r := by
  cases m with
  | inl q =>
    have h' : (P[i]?.bind fun x => if x.1 = q then some x.2 else none) = some r := h
    show ((P ++ Q)[i]?.bind fun x => if x.1 = q then some x.2 else none) = some r
    cases hp : P[i]? with
    | none => rw [hp] at h'; cases h'
    | some x =>
      have il : i < P.length := by
        by_cases g : i < P.length
        · exact g
        · rw [List.getElem?_eq_none (by omega)] at hp; cases hp
      rw [List.getElem?_append_left il]
      exact h'
  | inr t => exact h
theorem M_cr.app {P : M_Pl} (Q : M_Pl) {tbl : Nat → List (Nat → Int64)} {ms : List (Nat ⊕ Nat)} {C : Nat → List Nat} {rs : Nat → List r_Row} (h : M_cr P tbl ms C rs) : M_cr (P ++ Q) tbl ms C rs := fun k hk => ⟨(h k hk).1, fun i hi => by
  obtain ⟨i0, a, b⟩ := (h k hk).2 i hi
  exact ⟨i0, a, M_at_app b⟩⟩
theorem M_cr.cst {w : g_St} {np nt : Nat} {Xs : Nat → r_Pt} {tw : Nat → Nat} {tbl : Nat → List (Nat → Int64)} {P : M_Pl} (S : M_st w np nt Xs tw tbl P) {ms : List (Nat ⊕ Nat)} {C : Nat → List Nat} {rs : Nat → List r_Row} (hms : ∀ k, k < ms.length → M_ok np nt (r_ml ms k)) (hc : M_cand w ms.length C) (h : M_cr P tbl ms C rs) : M_cst w Xs tw ms C rs := by
  refine ⟨hc, fun k hk => ⟨(h k hk).1, fun i hi j hj => ?_⟩⟩
  obtain ⟨i0, a, b⟩ := (h k hk).2 i hi
  rw [a]
  exact S.cl (hms k hk) b hj
/-- a part's candidate is a row that came -/
theorem M_at_inl {P : M_Pl} {tbl : Nat → List (Nat → Int64)} {q i : Nat} {r : r_Row} (h : M_at P tbl (.inl q) i = some r) : P[i]? = some (q, r) := by
  have h' : (P[i]?.bind fun x => if x.1 = q then some x.2 else none) = some r := h
  cases hp : P[i]? with
  | none => rw [hp] at h'; cases h'
  | some x =>
    rw [hp] at h'
    have h2 : (if x.1 = q then some x.2 else none) = some r := h'
    by_cases e : x.1 = q
    · rw [if_pos e] at h2
      have := Option.some.inj h2
      rw [← e, ← this]
    · rw [if_neg e] at h2; cases h2
theorem M_xc_lt {np nt : Nat} {P : M_Pl} {tbl : Nat → List (Nat → Int64)} (n5 : nt ≤ 5) (ht : ∀ t, t < nt → (tbl t).length ≤ 16) {m : Nat ⊕ Nat} (hm : M_ok np nt m) {i : Nat} {r : r_Row} (h : M_at P tbl m i = some r) : M_xc m i < 80 ∨ (100 ≤ M_xc m i ∧ M_xc m i < 100 + P.length) := by
  cases m with
  | inl q =>
    have := M_at_inl h
    have il : i < P.length := by
      by_cases g : i < P.length
      · exact g
      · rw [List.getElem?_eq_none (by omega)] at this; cases this
    exact Or.inr ⟨by show 100 ≤ 100 + i; omega, by show 100 + i < 100 + P.length; omega⟩
  | inr t =>
    have h' : (tbl t)[i]?.map (fun c => ([c] : r_Row)) = some r := h
    have tl : t < nt := hm
    have := ht t tl
    have il : i < (tbl t).length := by
      by_cases g : i < (tbl t).length
      · exact g
      · rw [List.getElem?_eq_none (by omega)] at h'; cases h'
    exact Or.inl (by show 16 * t + i < 80; omega)
theorem M_blw.le {n m : Nat} {u w : g_St} (h : M_blw n u w) (hm : m ≤ n) : M_blw m u w := ⟨fun j hj => h.1 j (by omega), fun j hj => h.2.1 j (by omega), fun j hj => h.2.2 j (by omega)⟩
theorem M_blw.ofW {n : Nat} {u w : g_St} {wI wA : List Nat} (h : z_W wI wA u w) (hA : ∀ a ∈ [789, 853, 917, 4116, 4180, 4244], a ∉ wA) : M_blw n u w := ⟨fun j _ => by rw [h.al (hA 789 (by decide))], fun j _ => by rw [h.al (hA 853 (by decide)), h.al (hA 917 (by decide))]; exact ⟨rfl, rfl⟩, fun j _ => by rw [h.ai (hA 4116 (by decide)), h.ai (hA 4180 (by decide)), h.ai (hA 4244 (by decide))]; exact ⟨rfl, rfl, rfl⟩⟩
/-- slots keep their rows while rows come above -/
theorem M_vb.lo {u w : g_St} {n : Nat} (b : M_blw n u w) (h597 : g_AL w 597 = g_AL u 597) {mc : Nat → Nat → Nat} {env : Nat → Nat → Int64} {k j : Nat} (hk : g_AI w 4756 k = g_AI u 4756 k) {x : Nat} (hx : g_AI u 4756 k = Int32.ofNat x) (hx2 : x < 80 ∨ (100 ≤ x ∧ x < 100 + n)) (n48 : n ≤ 48) (q : M_vb u mc env k j) : M_vb w mc env k j := by
  obtain ⟨y, q1, q2, q3⟩ := q
  have e : y = x := by
    rw [q1] at hx
    have y150 : y < 150 := by rcases q2 with q | q <;> omega
    rw [x_eq (by omega) (by omega)] at hx
    exact hx
  refine ⟨y, hk.trans q1, q2, ?_⟩
  unfold M_cl at q3 ⊢
  rw [h597]
  rw [e] at q2 q3 ⊢
  by_cases g : x < 100
  · rw [if_pos g] at q3 ⊢
    exact q3
  · rw [if_neg g] at q3 ⊢
    rw [b.1 _ (by rcases q2 with q | q <;> omega)]
    exact q3
theorem M_pr_own (l : List r_Row) (p q : Nat) : M_pr (l.map fun r => (p, r)) q = if q = p then l else [] := by
  unfold M_pr
  rw [List.filterMap_map]
  by_cases e : q = p
  · rw [if_pos e]
    have ef : ((fun x : Nat × r_Row => if x.1 = q then some x.2 else none) ∘ fun r => (p, r)) = some := funext fun r => by
      show (if p = q then some r else none) = some r
      rw [if_pos e.symm]
    rw [ef, List.filterMap_some]
  · rw [if_neg e]
    have ef : ((fun x : Nat × r_Row => if x.1 = q then some x.2 else none) ∘ fun r => (p, r)) = fun _ => none := funext fun r => by
      show (if p = q then some r else none) = none
      rw [if_neg (fun h => e h.symm)]
    rw [ef]
    exact List.filterMap_eq_nil_iff.mpr (fun _ _ => rfl)
theorem r_cda_cg {tb tb' : (Nat ⊕ Nat) → List (Nat → Int64)} {cds : List r_Cd} (h : ∀ i z, i < cds.length → cds.getD i r_cd0 = .inr z → tb z.1 = tb' z.1) (env : Nat → Nat → Int64) : r_cda tb cds env = r_cda tb' cds env := by
  unfold r_cda
  rw [Bool.eq_iff_iff, List.all_eq_true, List.all_eq_true]
  have e : ∀ i, i < cds.length → r_cd tb env (cds.getD i r_cd0) = r_cd tb' env (cds.getD i r_cd0) := fun i hi => by
    cases hc : cds.getD i r_cd0 with
    | inl b => rfl
    | inr z =>
      show (!((tb z.1).any fun row => z.2.all (r_cp (r_up env 3 row)))) = (!((tb' z.1).any fun row => z.2.all (r_cp (r_up env 3 row))))
      rw [h i z hi hc]
  exact ⟨fun q i hi => by rw [← e i (List.mem_range.mp hi)]; exact q i hi, fun q i hi => by rw [e i (List.mem_range.mp hi)]; exact q i hi⟩
theorem r_tb_grow (P : M_Pl) (l : List r_Row) (p : Nat) (tbl : Nat → List (Nat → Int64)) {m : Nat ⊕ Nat} (h : m ≠ .inl p) : r_tb (M_pr (P ++ l.map fun r => (p, r))) tbl m = r_tb (M_pr P) tbl m := by
  cases m with
  | inl q =>
    show (M_pr (P ++ l.map fun r => (p, r)) q).map r_hd = (M_pr P q).map r_hd
    rw [M_pr_app, M_pr_own, if_neg (fun e => h (by rw [e])), List.append_nil]
  | inr t => rfl
