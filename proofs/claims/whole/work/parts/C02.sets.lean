/-! THE CHECK: what the reference's resolving notes, as sets -/
section
variable (nw pl : Nat → Nat) (x : z_Qu) (tc : Nat) (cols : Nat → Nat)
def q_son (ow : Nat) (srs : List Nat) (t : Nat) (y : Nat × Nat) : Prop := (z_sbad x.1 ow (z_mng nw x.2.1 tc t) = true ∧ y = (2, pl t)) ∨ (z_dup nw srs t = true ∧ y = (2, pl (t + 1)))
def q_bs (bad : Nat → Bool) (b : z_Bs) (y : Nat × Nat) : Prop := ∃ e ∈ b.1 ++ b.2.2, e.2.1 = 2 ∧ bad e.2.2 = true ∧ y = (2, pl e.2.2)
def q_nnt (srs : List Nat) (ow : Nat) (z : Nat × List z_Bs) (y : Nat × Nat) : Prop := ((z_sbad x.1 ow (z_mng nw x.2.1 tc z.1) = true ∧ y = (2, pl z.1)) ∨ ((z_slt nw srs (z.1 + 1) none).isSome = true ∧ y = (2, pl (z.1 + 1)))) ∨ ∃ b ∈ z.2, q_bs pl (fun t => z_tbad false (z_tcl nw x.2.1 tc cols srs (some z.1) t)) b y
def q_con (ow : Nat) (srs : List Nat) (c : z_Co) (y : Nat × Nat) : Prop := match c with
  | .inl b => q_bs pl (z_bd0 nw x tc cols srs) b y
  | .inr z => q_nnt nw pl x tc cols srs ow z y
def q_snt (ow : Nat) (s : z_Se) (y : Nat × Nat) : Prop := ((∃ t ∈ s.2.2.1, q_son nw pl x tc ow s.2.2.1 t y) ∨ ∃ i ∈ s.2.1, ∃ e ∈ i.2, e.2.1 = 2 ∧ z_bd0 nw x tc cols s.2.2.1 e.2.2 = true ∧ y = (2, pl e.2.2)) ∨ ∃ c ∈ s.2.2.2, q_con nw pl x tc cols ow s.2.2.1 c y
def q_ont (y : Nat × Nat) : Prop := ∃ o, x.2.2.2 = some o ∧ (((x.2.2.1.2.1.any fun i => decide (i.1 ≠ 0)) = true ∧ y = (2, pl o.1)) ∨ ∃ t ∈ o.2, z_bd1 nw x tc cols x.2.2.1.2.2.1 t = true ∧ y = (2, pl t))
theorem q_a_nnt (srs : List Nat) (ow : Nat) (z : Nat × List z_Bs) : q_add (fun a => z_nnt nw pl x tc cols srs ow a z) (q_nnt nw pl x tc cols srs ow z) :=
  ((q_add.nti2 (z_sbad x.1 ow (z_mng nw x.2.1 tc z.1)) (pl z.1)).comp (q_add.nti2 (z_slt nw srs (z.1 + 1) none).isSome (pl (z.1 + 1)))).comp (q_add.fold z.2 (fun b _ => q_add.bnt (fun t => z_tbad false (z_tcl nw x.2.1 tc cols srs (some z.1) t)) pl b))
theorem q_a_con (ow : Nat) (srs : List Nat) (c : z_Co) : q_add (fun a => z_con2 nw pl x tc cols ow srs a c) (q_con nw pl x tc cols ow srs c) := by
  cases c with
  | inl b => exact q_add.bnt (z_bd0 nw x tc cols srs) pl b
  | inr z => exact q_a_nnt nw pl x tc cols srs ow z
theorem q_a_snt (ow : Nat) (s : z_Se) : q_add (fun a => z_snt nw pl x tc cols ow a s) (q_snt nw pl x tc cols ow s) :=
  ((q_add.fold s.2.2.1 (fun t _ => (q_add.nti2 (z_sbad x.1 ow (z_mng nw x.2.1 tc t)) (pl t)).comp (q_add.nti2 (z_dup nw s.2.2.1 t) (pl (t + 1))))).comp (q_add.fold s.2.1 (fun i _ => q_add.xnt (z_bd0 nw x tc cols s.2.2.1) pl i.2))).comp (q_add.fold s.2.2.2 (fun c _ => q_a_con nw pl x tc cols ow s.2.2.1 c))
theorem q_a_ont : q_add (fun a => z_ont nw pl x tc cols a) (q_ont nw pl x tc cols) := by
  unfold z_ont q_ont
  cases x.2.2.2 with
  | none => exact q_add.id.iff (fun y => ⟨fun h => h.elim, fun ⟨o, h, _⟩ => by cases h⟩)
  | some o => exact ((q_add.nti2 (x.2.2.1.2.1.any fun i => decide (i.1 ≠ 0)) (pl o.1)).comp (q_add.fold o.2 (fun t _ => q_add.nti2 (z_bd1 nw x tc cols x.2.2.1.2.2.1 t) (pl t)))).iff (fun y => ⟨fun h => ⟨o, rfl, h⟩, fun ⟨o', h, g⟩ => by cases h; exact g⟩)
end
