/-! THE MODEL: what the methods do, as functions of a plain state. Objects are numbers: 64 * (which of its kind) + (its kind); kind 63: any. -/
/-- a value: an int, a long, a reference of a kind -/
abbrev g_V : Type := Int32 ⊕ Int64 ⊕ (Nat × Option Nat)
abbrev g_i (x : Int32) : g_V := Sum.inl x
abbrev g_l (x : Int64) : g_V := Sum.inr (Sum.inl x)
abbrev g_r (t : Nat) (r : Option Nat) : g_V := Sum.inr (Sum.inr (t, r))
/-- its value on the machine, objects lying at ad -/
def g_v (ad : Nat → Nat) (v : g_V) : Value := match v with
  | .inl x => .int x
  | .inr (.inl x) => .long x
  | .inr (.inr q) => va_rf (q.2.map ad)
/-- how many objects of each kind; cells and slots made; int, long, reference fields by key and object; elements by object and place; lengths -/
abbrev g_St : Type := (Nat → Nat) × (Nat × Nat) × (Nat → Nat → Int32) × (Nat → Nat → Int64) × (Nat → Nat → Option Nat) × (Nat → Nat → Int32) × (Nat → Nat → Int64) × (Nat → Nat → Option Nat) × (Nat → Nat)
def g_cnt (u : g_St) : Nat → Nat := u.1
def g_cn (u : g_St) : Nat := u.2.1.1
def g_sn (u : g_St) : Nat := u.2.1.2
def g_I (u : g_St) : Nat → Nat → Int32 := u.2.2.1
def g_L (u : g_St) : Nat → Nat → Int64 := u.2.2.2.1
def g_R (u : g_St) : Nat → Nat → Option Nat := u.2.2.2.2.1
def g_AI (u : g_St) : Nat → Nat → Int32 := u.2.2.2.2.2.1
def g_AL (u : g_St) : Nat → Nat → Int64 := u.2.2.2.2.2.2.1
def g_AR (u : g_St) : Nat → Nat → Option Nat := u.2.2.2.2.2.2.2.1
def g_ln (u : g_St) : Nat → Nat := u.2.2.2.2.2.2.2.2
def g_u2 {α : Type} (f : Nat → Nat → α) (k a : Nat) (v : α) : Nat → Nat → α := fun k' a' => if k' = k ∧ a' = a then v else f k' a'
def g_u1 {α : Type} (f : Nat → α) (a : Nat) (v : α) : Nat → α := fun a' => if a' = a then v else f a'
def g_setI (u : g_St) (k a : Nat) (v : Int32) : g_St := (u.1, u.2.1, g_u2 u.2.2.1 k a v, u.2.2.2)
def g_setL (u : g_St) (k a : Nat) (v : Int64) : g_St := (u.1, u.2.1, u.2.2.1, g_u2 u.2.2.2.1 k a v, u.2.2.2.2)
def g_setR (u : g_St) (k a : Nat) (v : Option Nat) : g_St := (u.1, u.2.1, u.2.2.1, u.2.2.2.1, g_u2 u.2.2.2.2.1 k a v, u.2.2.2.2.2)
def g_setAI (u : g_St) (a i : Nat) (v : Int32) : g_St := (u.1, u.2.1, u.2.2.1, u.2.2.2.1, u.2.2.2.2.1, g_u2 u.2.2.2.2.2.1 a i v, u.2.2.2.2.2.2)
def g_setAL (u : g_St) (a i : Nat) (v : Int64) : g_St := (u.1, u.2.1, u.2.2.1, u.2.2.2.1, u.2.2.2.2.1, u.2.2.2.2.2.1, g_u2 u.2.2.2.2.2.2.1 a i v, u.2.2.2.2.2.2.2)
def g_setAR (u : g_St) (a i : Nat) (v : Option Nat) : g_St := (u.1, u.2.1, u.2.2.1, u.2.2.2.1, u.2.2.2.2.1, u.2.2.2.2.2.1, u.2.2.2.2.2.2.1, g_u2 u.2.2.2.2.2.2.2.1 a i v, u.2.2.2.2.2.2.2.2)
/-- an object comes: of kind t, n slots, length m -/
def g_mk (u : g_St) (t n m : Nat) : g_St :=
  (g_u1 u.1 t (u.1 t + 1), (u.2.1.1 + 1, u.2.1.2 + n), (fun k a => if a = u.1 t * 64 + t then 0 else u.2.2.1 k a), (fun k a => if a = u.1 t * 64 + t then 0 else u.2.2.2.1 k a), (fun k a => if a = u.1 t * 64 + t then none else u.2.2.2.2.1 k a),
    (fun a i => if a = u.1 t * 64 + t then 0 else u.2.2.2.2.2.1 a i), (fun a i => if a = u.1 t * 64 + t then 0 else u.2.2.2.2.2.2.1 a i), (fun a i => if a = u.1 t * 64 + t then none else u.2.2.2.2.2.2.2.1 a i), g_u1 u.2.2.2.2.2.2.2.2 (u.1 t * 64 + t) m)
/-- cells and slots that are made and forgotten -/
def g_bump (u : g_St) (c n : Nat) : g_St := (u.1, (u.2.1.1 + c, u.2.1.2 + n), u.2.2)
def g_LC : Nat := room_1.cells
def g_LS : Nat := room_1.slots
def g_gI {α : Type} (u : g_St) (k : Nat) (r : Option Nat) (F : Int32 → Option α) : Option α := match r with
  | none => none
  | some a => F (g_I u k a)
def g_gL {α : Type} (u : g_St) (k : Nat) (r : Option Nat) (F : Int64 → Option α) : Option α := match r with
  | none => none
  | some a => F (g_L u k a)
def g_gR {α : Type} (u : g_St) (k : Nat) (r : Option Nat) (F : Option Nat → Option α) : Option α := match r with
  | none => none
  | some a => F (g_R u k a)
def g_pI {α : Type} (u : g_St) (k : Nat) (r : Option Nat) (v : Int32) (F : g_St → Option α) : Option α := match r with
  | none => none
  | some a => F (g_setI u k a v)
def g_pL {α : Type} (u : g_St) (k : Nat) (r : Option Nat) (v : Int64) (F : g_St → Option α) : Option α := match r with
  | none => none
  | some a => F (g_setL u k a v)
def g_pR {α : Type} (u : g_St) (k : Nat) (r : Option Nat) (v : Option Nat) (F : g_St → Option α) : Option α := match r with
  | none => none
  | some a => F (g_setR u k a v)
def g_out (u : g_St) (a : Nat) (i : Int32) : Prop := i < 0 ∨ g_ln u a ≤ i.toNatClampNeg
def g_aI {α : Type} (u : g_St) (r : Option Nat) (i : Int32) (F : Int32 → Option α) : Option α := match r with
  | none => none
  | some a => if i < 0 ∨ g_ln u a ≤ i.toNatClampNeg then none else F (g_AI u a i.toNatClampNeg)
def g_aL {α : Type} (u : g_St) (r : Option Nat) (i : Int32) (F : Int64 → Option α) : Option α := match r with
  | none => none
  | some a => if i < 0 ∨ g_ln u a ≤ i.toNatClampNeg then none else F (g_AL u a i.toNatClampNeg)
def g_aR {α : Type} (u : g_St) (r : Option Nat) (i : Int32) (F : Option Nat → Option α) : Option α := match r with
  | none => none
  | some a => if i < 0 ∨ g_ln u a ≤ i.toNatClampNeg then none else F (g_AR u a i.toNatClampNeg)
/-- how many objects of a kind lie there from the start (they are never written) -/
def g_old (t : Nat) : Nat := (g_olds.find? (fun q => q.1 == t)).elim 0 (fun q => q.2)
def g_sI {α : Type} (u : g_St) (r : Option Nat) (i : Int32) (v : Int32) (F : g_St → Option α) : Option α := match r with
  | none => none
  | some a => if i < 0 ∨ g_ln u a ≤ i.toNatClampNeg then none else F (g_setAI u a i.toNatClampNeg v)
def g_sL {α : Type} (u : g_St) (r : Option Nat) (i : Int32) (v : Int64) (F : g_St → Option α) : Option α := match r with
  | none => none
  | some a => if i < 0 ∨ g_ln u a ≤ i.toNatClampNeg then none else F (g_setAL u a i.toNatClampNeg v)
def g_sR {α : Type} (u : g_St) (r : Option Nat) (i : Int32) (v : Option Nat) (F : g_St → Option α) : Option α := match r with
  | none => none
  | some a => if i < 0 ∨ g_ln u a ≤ i.toNatClampNeg then none else F (g_setAR u a i.toNatClampNeg v)
def g_len {α : Type} (u : g_St) (r : Option Nat) (F : Int32 → Option α) : Option α := match r with
  | none => none
  | some a => F (Int32.ofNat (g_ln u a))
def g_new {α : Type} (u : g_St) (t n : Nat) (F : Option Nat → g_St → Option α) : Option α :=
  if g_cn u + 1 ≤ g_LC ∧ g_sn u + n ≤ g_LS then F (some (g_cnt u t * 64 + t)) (g_mk u t n 0) else none
def g_newA {α : Type} (u : g_St) (t : Nat) (n : Int32) (F : Option Nat → g_St → Option α) : Option α :=
  if (¬ n < 0 ∧ n.toNatClampNeg ≤ 65536) ∧ g_cn u + 1 ≤ g_LC ∧ g_sn u + n.toNatClampNeg ≤ g_LS then F (some (g_cnt u t * 64 + t)) (g_mk u t n.toNatClampNeg n.toNatClampNeg) else none
def g_cast {α : Type} (t : Nat) (r : Option Nat) (F : Option α) : Option α := match r with
  | none => F
  | some a => if a % 64 = t then F else none
def g_c {α β : Type} (x : Option (α × g_St)) (F : α → g_St → Option β) : Option β := match x with
  | none => none
  | some q => F q.1 q.2
def g_cT {α β : Type} (x : Option ((α ⊕ Nat) × g_St)) (F : α → g_St → Option ((β ⊕ Nat) × g_St)) : Option ((β ⊕ Nat) × g_St) := match x with
  | none => none
  | some q => match q.1 with
    | .inl v => F v q.2
    | .inr e => some (.inr e, q.2)
def g_thr {α : Type} (u : g_St) (e : Nat) : Option ((α ⊕ Nat) × g_St) :=
  if g_cn u + 8 ≤ g_LC ∧ g_sn u + 512 ≤ g_LS then some (.inr e, g_bump u 8 512) else none
/-- what a method gives: nothing, a value; or what it throws -/
abbrev g_Out : Type := (Option g_V ⊕ Nat) × g_St
def g_jI (o : Int32 × g_St) : g_Out := (.inl (some (g_i o.1)), o.2)
def g_jL (o : Int64 × g_St) : g_Out := (.inl (some (g_l o.1)), o.2)
def g_jR (t : Nat) (o : Option Nat × g_St) : g_Out := (.inl (some (g_r t o.1)), o.2)
def g_jV (o : Unit × g_St) : g_Out := (.inl none, o.2)
def g_jTI (o : (Int32 ⊕ Nat) × g_St) : g_Out := (match o.1 with | .inl x => .inl (some (g_i x)) | .inr e => .inr e, o.2)
def g_jTL (o : (Int64 ⊕ Nat) × g_St) : g_Out := (match o.1 with | .inl x => .inl (some (g_l x)) | .inr e => .inr e, o.2)
def g_jTR (t : Nat) (o : (Option Nat ⊕ Nat) × g_St) : g_Out := (match o.1 with | .inl x => .inl (some (g_r t x)) | .inr e => .inr e, o.2)
def g_jTV (o : (Unit ⊕ Nat) × g_St) : g_Out := (match o.1 with | .inl _ => .inl none | .inr e => .inr e, o.2)
