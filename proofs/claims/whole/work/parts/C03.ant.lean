/-! THE CHECK: all that the reference's resolving notes, as a set -/
section
variable (nw pl : Nat → Nat) (x : z_Qu) (tc : Nat) (cols : Nat → Nat)
def q_pn3 (X : z_Pa) (y : Nat × Nat) : Prop := ∃ s, X.2.2.2.2.1 = some s ∧ (((z_own1 nw X (s.2 + 3)).isNone = true ∧ y = (2, pl (s.2 + 3))) ∨ (z_frs nw X (s.2 + 5) X.2.1.length false = true ∧ y = (2, pl (s.2 + 5))))
def q_pn4 (X : z_Pa) (y : Nat × Nat) : Prop := ∃ s, X.2.2.2.2.2 = some s ∧ (((z_own1 nw X s).isNone = true ∧ y = (2, pl s)) ∨ (z_frs nw X (s + 2) X.2.1.length true = true ∧ y = (2, pl (s + 2))))
def q_pnt (ps : List z_Pa) (k : Nat) (y : Nat × Nat) : Prop := (((∃ q, 0 ≤ q ∧ q < 0 + k ∧ decide (nw (ps.getD q z_pa0).1 = nw (ps.getD k z_pa0).1) = true ∧ y = (2, pl (ps.getD k z_pa0).1)) ∨ ∃ i, 1 ≤ i ∧ i < 1 + ((ps.getD k z_pa0).2.1.length - 1) ∧ z_frs nw (ps.getD k z_pa0) ((ps.getD k z_pa0).2.1.getD i 0) i false = true ∧ y = (2, pl ((ps.getD k z_pa0).2.1.getD i 0))) ∨ q_pn3 nw pl (ps.getD k z_pa0) y) ∨ q_pn4 nw pl (ps.getD k z_pa0) y
theorem q_a_pn3 (X : z_Pa) : q_add (fun a => z_pn3 nw pl X a) (q_pn3 nw pl X) := by
  unfold z_pn3 q_pn3
  cases X.2.2.2.2.1 with
  | none => exact q_add.id.iff (fun y => ⟨fun h => h.elim, fun ⟨o, h, _⟩ => by cases h⟩)
  | some s => exact ((q_add.nti2 (z_own1 nw X (s.2 + 3)).isNone (pl (s.2 + 3))).comp (q_add.nti2 (z_frs nw X (s.2 + 5) X.2.1.length false) (pl (s.2 + 5)))).iff (fun y => ⟨fun h => ⟨s, rfl, h⟩, fun ⟨o', h, g⟩ => by cases h; exact g⟩)
theorem q_a_pn4 (X : z_Pa) : q_add (fun a => z_pn4 nw pl X a) (q_pn4 nw pl X) := by
  unfold z_pn4 q_pn4
  cases X.2.2.2.2.2 with
  | none => exact q_add.id.iff (fun y => ⟨fun h => h.elim, fun ⟨o, h, _⟩ => by cases h⟩)
  | some s => exact ((q_add.nti2 (z_own1 nw X s).isNone (pl s)).comp (q_add.nti2 (z_frs nw X (s + 2) X.2.1.length true) (pl (s + 2)))).iff (fun y => ⟨fun h => ⟨s, rfl, h⟩, fun ⟨o', h, g⟩ => by cases h; exact g⟩)
theorem q_a_pnt (ps : List z_Pa) (k : Nat) : q_add (fun a => z_pnt nw pl ps k a) (q_pnt nw pl ps k) :=
  (((q_add.lp (g := fun a q => z_nti2 (decide (nw (ps.getD q z_pa0).1 = nw (ps.getD k z_pa0).1)) a (pl (ps.getD k z_pa0).1)) (fun q => q_add.nti2 _ _) k 0).comp (q_add.lp (g := fun a i => z_nti2 (z_frs nw (ps.getD k z_pa0) ((ps.getD k z_pa0).2.1.getD i 0) i false) a (pl ((ps.getD k z_pa0).2.1.getD i 0))) (fun i => q_add.nti2 _ _) ((ps.getD k z_pa0).2.1.length - 1) 1)).comp (q_a_pn3 nw pl (ps.getD k z_pa0))).comp (q_a_pn4 nw pl (ps.getD k z_pa0))
/-- the set of all notes of number 2 -/
def q_ant (y : Nat × Nat) : Prop := ((∃ k, 0 ≤ k ∧ k < 0 + x.2.1.length ∧ q_pnt nw pl x.2.1 k y) ∨ ∃ v ∈ z_sels x, q_snt nw pl x tc cols v.1 v.2 y) ∨ q_ont nw pl x tc cols y
theorem q_ant1 : q_add (fun a => (z_sels x).foldl (fun a v => z_snt nw pl x tc cols v.1 a v.2) a) (fun y => ∃ v ∈ z_sels x, q_snt nw pl x tc cols v.1 v.2 y) := by
  have h : ∀ t ∈ z_sels x, q_add (fun a => (fun (a : Option (Nat × Nat)) (v : Nat × z_Se) => z_snt nw pl x tc cols v.1 a v.2) a t) ((fun v : Nat × z_Se => q_snt nw pl x tc cols v.1 v.2) t) := by
    intro t _
    show q_add (fun a => z_snt nw pl x tc cols t.1 a t.2) (q_snt nw pl x tc cols t.1 t.2)
    exact q_a_snt nw pl x tc cols t.1 t.2
  exact q_add.fold (z_sels x) h
theorem q_ant2 : q_add (fun a => z_lp (fun a k => z_pnt nw pl x.2.1 k a) x.2.1.length 0 a) (fun y => ∃ k, 0 ≤ k ∧ k < 0 + x.2.1.length ∧ q_pnt nw pl x.2.1 k y) := by
  have h : ∀ k, q_add (fun a => (fun (a : Option (Nat × Nat)) k => z_pnt nw pl x.2.1 k a) a k) (q_pnt nw pl x.2.1 k) := by
    intro k
    show q_add (fun a => z_pnt nw pl x.2.1 k a) _
    exact q_a_pnt nw pl x.2.1 k
  exact q_add.lp h x.2.1.length 0
theorem q_mn_no : q_mn none (fun _ => False) := fun _ h => h
theorem q_ant_mn : q_mn (z_ant nw pl x tc cols) (q_ant nw pl x tc cols) := by
  have h1 := q_ant2 nw pl x none (fun _ => False) q_mn_no
  have h2 := q_ant1 nw pl x tc cols _ _ h1
  have h3 := q_a_ont nw pl x tc cols _ _ h2
  exact q_mn.iff h3 (fun y => ⟨fun q => q.elim (fun q => q.elim (fun q => Or.inl (Or.inl (q.elim (fun q => q.elim) (fun q => q)))) (fun q => Or.inl (Or.inr q))) Or.inr, fun q => q.elim (fun q => q.elim (fun q => Or.inl (Or.inl (Or.inr q))) (fun q => Or.inl (Or.inr q))) Or.inr⟩)
end
