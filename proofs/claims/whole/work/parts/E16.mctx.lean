/-! RUNNING (reference): a selection's combinations -/
def M_mm (Xs : Nat → r_Pt) (ms : List (Nat ⊕ Nat)) : Nat → Nat → Nat := fun k j => M_col Xs (r_ml ms k) j
def M_dd (Xs : Nat → r_Pt) (tw : Nat → Nat) (ms : List (Nat ⊕ Nat)) : Nat → Nat → Prop := fun k j => k < ms.length ∧ r_W Xs tw (r_ml ms k) j
/-- the selection -/
def M_sl (w : g_St) (np nt : Nat) (Xs : Nat → r_Pt) (tw : Nat → Nat) (s : Nat) (its : List r_It) (ms : List (Nat ⊕ Nat)) (cds : List r_Cd) : Prop := s < 17 ∧ ms.length ≤ 3 ∧ g_AI w 2324 s = Int32.ofNat ms.length ∧ g_AI w 2196 s = Int32.ofNat its.length ∧ M_cds w Xs (M_mm Xs ms) s cds ∧ (∀ i, i < cds.length → r_ux np nt Xs tw (M_dd Xs tw ms) (cds.getD i r_cd0)) ∧ M_vit w (M_mm Xs ms) s its ∧ r_uit (M_dd Xs tw ms) its
theorem M_sl.mv {u w : g_St} (h : M_K u w) {np nt : Nat} {Xs : Nat → r_Pt} {tw : Nat → Nat} {s : Nat} {its : List r_It} {ms : List (Nat ⊕ Nat)} {cds : List r_Cd} (q : M_sl u np nt Xs tw s its ms cds) : M_sl w np nt Xs tw s its ms cds := by
  obtain ⟨q1, q2, q3, q4, q5, q6, q7, q8⟩ := q
  exact ⟨q1, q2, by rw [h.ai (a := 2324) (by decide)]; exact q3, by rw [h.ai (a := 2196) (by decide)]; exact q4, q5.mv h, q6, q7.mv h, q8⟩
/-- the candidates of its sources -/
def M_cst (w : g_St) (Xs : Nat → r_Pt) (tw : Nat → Nat) (ms : List (Nat ⊕ Nat)) (C : Nat → List Nat) (rs : Nat → List r_Row) : Prop := M_cand w ms.length C ∧ ∀ k, k < ms.length → (C k).length = (rs k).length ∧ ∀ i, i < (rs k).length → ∀ j, r_W Xs tw (r_ml ms k) j → M_xo ((C k).getD i 0) (M_mm Xs ms k j) ∧ M_cl w ((C k).getD i 0) (M_mm Xs ms k j) = r_hd ((rs k).getD i []) j
theorem M_cst.mv {u w : g_St} {wI wA : List Nat} (h : z_W wI wA u w) (hA : ∀ a ∈ [597, 789, 4564, 4628], a ∉ wA) {Xs : Nat → r_Pt} {tw : Nat → Nat} {ms : List (Nat ⊕ Nat)} {C : Nat → List Nat} {rs : Nat → List r_Row} (q : M_cst u Xs tw ms C rs) : M_cst w Xs tw ms C rs := by
  refine ⟨q.1.mv h (hA 4564 (by decide)) (hA 4628 (by decide)), ?_⟩
  have q2 := q.2
  unfold M_cl at q2 ⊢
  rw [h.al (hA 597 (by decide)), h.al (hA 789 (by decide))]
  exact q2
theorem M_cst.cg {w : g_St} {Xs : Nat → r_Pt} {tw : Nat → Nat} {ms : List (Nat ⊕ Nat)} {C : Nat → List Nat} {rs : Nat → List r_Row} (q : M_cst w Xs tw ms C rs) (n : Nat) (hn : n ≤ ms.length) (p : Nat → Nat) : r_nx (fun k => (C k).length) n p = r_nx (fun k => (rs k).length) n p := by
  induction n generalizing p with
  | zero => rfl
  | succ n ih =>
    unfold r_nx
    rw [(q.2 n (by omega)).1]
    by_cases e : p n = (rs n).length - 1
    · rw [if_pos e, if_pos e]
      exact ih (by omega) _
    · rw [if_neg e, if_neg e]
section
variable {w : g_St} {np nt : Nat} {Xs : Nat → r_Pt} {tw : Nat → Nat} {tbl : Nat → List (Nat → Int64)} {P : M_Pl} {s : Nat} {its : List r_It} {ms : List (Nat ⊕ Nat)} {cds : List r_Cd} {C : Nat → List Nat} {rs : Nat → List r_Row}
/-- a pick is chosen, and tested -/
theorem m_pick (S : M_st w np nt Xs tw tbl P) (L : M_sl w np nt Xs tw s its ms cds) (G : M_cst w Xs tw ms C rs) {p : Nat → Nat} (hp : M_pk w ms.length p) (hb : ∀ k, k < ms.length → p k < (rs k).length) : ∃ w', f_M_matches (some 1) (Int32.ofNat s) w = some (z_g (r_cda (r_tb (M_pr P) tbl) cds (r_en (r_pc rs ms.length p))), w') ∧ z_W [] [4756] w w' ∧ (∀ k, k < ms.length → g_AI w' 4756 k = Int32.ofNat ((C k).getD (p k) 0)) ∧ ∀ k j, M_dd Xs tw ms k j → M_vb w' (M_mm Xs ms) (r_en (r_pc rs ms.length p)) k j := by
  obtain ⟨l1, l2, l3, l4, l5, l6, l7, l8⟩ := L
  have hd : ∀ k j, M_dd Xs tw ms k j → M_xo ((C k).getD (p k) 0) (M_mm Xs ms k j) ∧ M_cl w ((C k).getD (p k) 0) (M_mm Xs ms k j) = r_en (r_pc rs ms.length p) k j := fun k j q => by
    obtain ⟨y1, y2⟩ := (G.2 k q.1).2 (p k) (hb k q.1) j q.2
    refine ⟨y1, y2.trans ?_⟩
    unfold r_en r_pc
    rw [if_pos q.1]
  obtain ⟨w', m1, m2, m3⟩ := m_match S l2 l3 G.1 hp (fun k hk => by rw [(G.2 k hk).1]; exact hb k hk) l5 l6 (fun k j q => q.1) hd
  refine ⟨w', m1, m2, m3, fun k j q => ?_⟩
  obtain ⟨y1, y2⟩ := hd k j q
  refine ⟨_, m3 k q.1, y1, ?_⟩
  unfold M_cl at y2 ⊢
  rw [m2.al (a := 597) (by decide), m2.al (a := 789) (by decide)]
  exact y2
/-- the next pick -/
theorem m_step (F : m_Fix w) (L : M_sl w np nt Xs tw s its ms cds) (G : M_cst w Xs tw ms C rs) {p : Nat → Nat} (hp : M_pk w ms.length p) (hb : ∀ k, k < ms.length → p k < (rs k).length) : ∃ w', f_M_next (some 1) (Int32.ofNat s) w = some (z_g (!(r_rest (fun k => (rs k).length) ms.length 0 p).isEmpty), w') ∧ z_W [] [4692] w w' ∧ ∀ p' R, r_rest (fun k => (rs k).length) ms.length 0 p = p' :: R → M_pk w' ms.length p' ∧ R = r_rest (fun k => (rs k).length) ms.length 0 p' ∧ ∀ k, k < ms.length → p' k < (rs k).length := by
  obtain ⟨l1, l2, l3, -⟩ := L
  obtain ⟨w', m1, m2, m3⟩ := m_next F l1 l2 l3 G.1 hp (fun k hk => by rw [(G.2 k hk).1]; exact hb k hk)
  rw [G.cg ms.length (Nat.le_refl _) p] at m1 m3
  have e := r_nx_rest (fun k => (rs k).length) ms.length 0 p (fun k _ h => hb k (by omega))
  rw [Nat.zero_add] at e
  rcases e with ⟨e1, e2⟩ | ⟨p', e1, e2, e3, e4⟩
  · have e2' : r_nx (fun k => (rs k).length) ms.length p = none := e2
    rw [e2'] at m1
    refine ⟨w', ?_, m2, fun p' R q => ?_⟩
    · rw [e1]; exact m1
    · rw [e1] at q; cases q
  · rw [e2] at m1
    refine ⟨w', ?_, m2, fun p'' R q => ?_⟩
    · rw [e1]; exact m1
    · rw [e1] at q
      injection q with q1 q2
      rw [← q1]
      exact ⟨m3 p' e2, q2.symm, fun k hk => e4 k (Nat.zero_le _) hk⟩
theorem r_all_nil (cs : Nat → Nat) : ∀ (d l : Nat) (p : Nat → Nat) (k : Nat), l ≤ k → k < l + d → cs k = 0 → r_all cs d l p = [] := by
  intro d
  induction d with
  | zero => intro l p k h1 h2 _; omega
  | succ d ih =>
    intro l p k h1 h2 h3
    rw [r_all]
    by_cases e : k = l
    · rw [e] at h3
      rw [h3]
      rfl
    · rw [List.flatMap_eq_nil_iff]
      intro a _
      exact ih (l + 1) _ k (by omega) (by omega) h3
/-- the first pick -/
theorem m_start (F : m_Fix w) (L : M_sl w np nt Xs tw s its ms cds) (G : M_cst w Xs tw ms C rs) : ∃ w', f_M_first (some 1) (Int32.ofNat s) w = some (z_g (!(r_all (fun k => (rs k).length) ms.length 0 (fun _ => 0)).isEmpty), w') ∧ z_W [] [4692] w w' ∧ ∀ p' R, r_all (fun k => (rs k).length) ms.length 0 (fun _ => 0) = p' :: R → M_pk w' ms.length p' ∧ R = r_rest (fun k => (rs k).length) ms.length 0 p' ∧ ∀ k, k < ms.length → p' k < (rs k).length := by
  obtain ⟨l1, l2, l3, -⟩ := L
  obtain ⟨w', m1, m2, m3⟩ := m_first F l1 l2 l3 G.1
  by_cases e : ∀ k, k < ms.length → 0 < (rs k).length
  · have ea : ((List.range ms.length).all fun k => decide (0 < (C k).length)) = true := by
      rw [List.all_eq_true]
      intro k hk
      have hk' := List.mem_range.mp hk
      rw [(G.2 k hk').1]
      exact decide_eq_true (e k hk')
    have eh := r_all_hd (fun k => (rs k).length) ms.length 0 (fun _ => 0) (fun k _ h => e k (by omega))
    have ez : r_pz 0 ms.length (fun _ => 0) = fun _ => 0 := funext fun k => by
      unfold r_pz
      exact ite_self _
    rw [ez] at eh
    rw [ea] at m1
    refine ⟨w', ?_, m2, fun p' R q => ?_⟩
    · rw [eh]; exact m1
    · rw [eh] at q
      injection q with q1 q2
      rw [← q1]
      exact ⟨m3, q2.symm, fun k hk => e k hk⟩
  · have ⟨k, hk⟩ := Classical.not_forall.mp e
    have ⟨hk1, hk2⟩ := Classical.not_imp.mp hk
    have hk3 : (rs k).length = 0 := by omega
    have en := r_all_nil (fun k => (rs k).length) ms.length 0 (fun _ => 0) k (Nat.zero_le _) (by omega) hk3
    have ea : ((List.range ms.length).all fun k => decide (0 < (C k).length)) = false := by
      rw [List.all_eq_false]
      refine ⟨k, List.mem_range.mpr hk1, ?_⟩
      rw [(G.2 k hk1).1, hk3]
      decide
    rw [ea] at m1
    refine ⟨w', ?_, m2, fun p' R q => ?_⟩
    · rw [en]; exact m1
    · rw [en] at q; cases q
end
