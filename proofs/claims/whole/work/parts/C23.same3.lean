/-! ENGINE AND REFERENCE FIND THE SAME FAULTS: numbers 3 to 8; the fault -/
section
variable (nw pl : Nat → Nat) (x : z_Qu) (tc : Nat) (r : Nat → Nat)
def q_bar (mask : Nat) (y : z_Se) (z : Nat × Nat) : Prop := ((y.2.1.any fun i => decide (i.1 ≠ 0)) = true ∧ ∃ t ∈ y.2.2.1, z_inm nw x.2.1 tc mask t = true ∧ z = (5, pl t)) ∨ ∃ c ∈ y.2.2.2, ∃ t, z_ci c = some t ∧ z_inm nw x.2.1 tc mask t = true ∧ z = (5, pl t)
theorem q_a_bar (mask : Nat) (y : z_Se) : q_add (fun a => z_bar nw pl x.2.1 tc mask y a) (q_bar nw pl x tc mask y) := by
  have h1 : q_add (fun a => y.2.2.2.foldl (fun a c => match z_ci c with | none => a | some t => z_ntb 5 (z_inm nw x.2.1 tc mask t) a (pl t)) a) (fun z => ∃ c ∈ y.2.2.2, ∃ t, z_ci c = some t ∧ z_inm nw x.2.1 tc mask t = true ∧ z = (5, pl t)) := by
    refine q_add.fold y.2.2.2 (g := fun a c => match z_ci c with | none => a | some t => z_ntb 5 (z_inm nw x.2.1 tc mask t) a (pl t)) (fun c _ => ?_)
    cases hc : z_ci c with
    | none => exact q_add.id.iff (fun z => ⟨fun h => h.elim, fun ⟨t, h, _⟩ => by cases h⟩)
    | some t => exact (q_add.ntb 5 (z_inm nw x.2.1 tc mask t) (pl t)).iff (fun z => ⟨fun h => ⟨t, rfl, h.1, h.2⟩, fun ⟨t', h, g1, g2⟩ => by cases h; exact ⟨g1, g2⟩⟩)
  have h2 : q_add (fun a => if (y.2.1.any fun i => decide (i.1 ≠ 0)) = true then y.2.2.1.foldl (fun a t => z_ntb 5 (z_inm nw x.2.1 tc mask t) a (pl t)) a else a) (fun z => (y.2.1.any fun i => decide (i.1 ≠ 0)) = true ∧ ∃ t ∈ y.2.2.1, z_inm nw x.2.1 tc mask t = true ∧ z = (5, pl t)) := by
    cases hf : (y.2.1.any fun i => decide (i.1 ≠ 0)) with
    | false => exact q_add.id.iff (fun z => ⟨fun h => h.elim, fun h => by cases h.1⟩)
    | true => exact (q_add.fold y.2.2.1 (g := fun a t => z_ntb 5 (z_inm nw x.2.1 tc mask t) a (pl t)) (fun t _ => q_add.ntb 5 (z_inm nw x.2.1 tc mask t) (pl t))).iff (fun z => ⟨fun h => ⟨rfl, h⟩, fun h => h.2⟩)
  exact h2.comp h1
def z_shg (k : Nat) (a : Option (Nat × Nat)) (y : z_Se) : Option (Nat × Nat) := if (r k).testBit k = true then z_bar nw pl x.2.1 tc (z_tog x.2.1.length r k) y (z_ntb 3 (decide (¬ y.2.1.length = (x.2.1.getD k z_pa0).2.1.length)) a (pl y.1)) else z_ntb 3 (decide (¬ y.2.1.length = (x.2.1.getD k z_pa0).2.1.length)) a (pl y.1)
def q_shg (k : Nat) (y : z_Se) (z : Nat × Nat) : Prop := (y.2.1.length ≠ (x.2.1.getD k z_pa0).2.1.length ∧ z = (3, pl y.1)) ∨ ((r k).testBit k = true ∧ q_bar nw pl x tc (z_tog x.2.1.length r k) y z)
theorem q_a_shg (k : Nat) (y : z_Se) : q_add (fun a => z_shg nw pl x tc r k a y) (q_shg nw pl x tc r k y) := by
  have h3 := q_add.ntb 3 (decide (¬ y.2.1.length = (x.2.1.getD k z_pa0).2.1.length)) (pl y.1)
  unfold z_shg q_shg
  cases hb : (r k).testBit k with
  | false => exact h3.iff (fun z => ⟨fun h => Or.inl ⟨of_decide_eq_true h.1, h.2⟩, fun h => h.elim (fun h => ⟨decide_eq_true h.1, h.2⟩) (fun h => by cases h.1)⟩)
  | true =>
    have h4 := h3.comp (q_a_bar nw pl x tc (z_tog x.2.1.length r k) y)
    exact h4.iff (fun z => ⟨fun h => h.elim (fun h => Or.inl ⟨of_decide_eq_true h.1, h.2⟩) (fun h => Or.inr ⟨rfl, h⟩), fun h => h.elim (fun h => Or.inl ⟨decide_eq_true h.1, h.2⟩) (fun h => Or.inr h.2)⟩)
theorem z_sh1_f (k : Nat) : ∀ (l : List z_Se) (a : Option (Nat × Nat)) (b : Bool), l.foldl (z_sh1 nw pl x tc r k) (a, b) = (l.foldl (z_shg nw pl x tc r k) a, b && l.all fun y => decide (z_tnm nw x.2.1 tc k y ≤ 1)) := by
  intro l
  induction l with
  | nil => intro a b; rw [List.foldl_nil, List.foldl_nil, List.all_nil, Bool.and_true]
  | cons y l ih =>
    intro a b
    rw [List.foldl_cons, List.foldl_cons, List.all_cons, ← Bool.and_assoc]
    exact ih _ _
def z_aln (k : Nat) : Bool := decide (z_tog x.2.1.length r k = 2 ^ k) && (x.2.1.getD k z_pa0).2.2.1.all fun y => decide (z_tnm nw x.2.1 tc k y ≤ 1)
def q_shp (k : Nat) (z : Nat × Nat) : Prop := ((((∃ y ∈ (x.2.1.getD k z_pa0).2.2.1, q_shg nw pl x tc r k y z) ∨ ((((x.2.1.getD k z_pa0).2.2.2.1.any fun b => !b) && (x.2.1.getD k z_pa0).2.2.2.1.any id) = true ∧ z = (4, pl (x.2.1.getD k z_pa0).1))) ∨ (((r k).testBit k && decide (¬ z_nmd nw x.2.1 tc ((x.2.1.getD k z_pa0).2.2.1.getD 0 z_se0) &&& z_tog x.2.1.length r k = 0)) = true ∧ z = (6, pl (x.2.1.getD k z_pa0).1))) ∨ (((r k).testBit k && (!(z_aln nw x tc r k) && ((x.2.1.getD k z_pa0).2.2.2.1.any id || z_trd (x.2.1.getD k z_pa0)))) = true ∧ z = (7, pl (x.2.1.getD k z_pa0).1))) ∨ ((!(r k).testBit k && z_trd (x.2.1.getD k z_pa0)) = true ∧ z = (8, pl (x.2.1.getD k z_pa0).1))
theorem q_a_shp (k : Nat) : q_add (fun a => z_shp nw pl x tc r a k) (q_shp nw pl x tc r k) := by
  have e : (fun a => z_shp nw pl x tc r a k) = fun a => z_ntb 8 (!(r k).testBit k && z_trd (x.2.1.getD k z_pa0)) (z_ntb 7 ((r k).testBit k && (!(z_aln nw x tc r k) && ((x.2.1.getD k z_pa0).2.2.2.1.any id || z_trd (x.2.1.getD k z_pa0)))) (z_ntb 6 ((r k).testBit k && decide (¬ z_nmd nw x.2.1 tc ((x.2.1.getD k z_pa0).2.2.1.getD 0 z_se0) &&& z_tog x.2.1.length r k = 0)) (z_ntb 4 (((x.2.1.getD k z_pa0).2.2.2.1.any fun b => !b) && (x.2.1.getD k z_pa0).2.2.2.1.any id) ((x.2.1.getD k z_pa0).2.2.1.foldl (z_shg nw pl x tc r k) a) (pl (x.2.1.getD k z_pa0).1)) (pl (x.2.1.getD k z_pa0).1)) (pl (x.2.1.getD k z_pa0).1)) (pl (x.2.1.getD k z_pa0).1) := by
    funext a
    unfold z_shp
    rw [z_sh1_f]
    rfl
  rw [e]
  have h0 := q_add.fold (x.2.1.getD k z_pa0).2.2.1 (g := z_shg nw pl x tc r k) (fun y _ => q_a_shg nw pl x tc r k y)
  have h4 := h0.comp (q_add.ntb 4 (((x.2.1.getD k z_pa0).2.2.2.1.any fun b => !b) && (x.2.1.getD k z_pa0).2.2.2.1.any id) (pl (x.2.1.getD k z_pa0).1))
  have h6 := h4.comp (q_add.ntb 6 ((r k).testBit k && decide (¬ z_nmd nw x.2.1 tc ((x.2.1.getD k z_pa0).2.2.1.getD 0 z_se0) &&& z_tog x.2.1.length r k = 0)) (pl (x.2.1.getD k z_pa0).1))
  have h7 := h6.comp (q_add.ntb 7 ((r k).testBit k && (!(z_aln nw x tc r k) && ((x.2.1.getD k z_pa0).2.2.2.1.any id || z_trd (x.2.1.getD k z_pa0)))) (pl (x.2.1.getD k z_pa0).1))
  exact h7.comp (q_add.ntb 8 (!(r k).testBit k && z_trd (x.2.1.getD k z_pa0)) (pl (x.2.1.getD k z_pa0).1))
theorem q_sht_mn : q_mn (z_sht nw pl x tc none) (fun z => ∃ k ∈ List.range x.2.1.length, q_shp nw pl x tc (z_rch nw x tc) k z) := by
  have h := q_add.fold (List.range x.2.1.length) (g := z_shp nw pl x tc (z_rch nw x tc)) (fun k _ => q_a_shp nw pl x tc (z_rch nw x tc) k)
  have g := h none (fun _ => False) q_mn_no
  unfold z_sht
  exact q_mn.iff g (fun z => ⟨fun h => h.elim (fun h => h.elim) (fun h => h), Or.inr⟩)
end
section
variable {n q : Nat} {kd pl nw nv : Nat → Nat} {x : z_Qu} {tc : Nat} {cols : Nat → Nat}
theorem z_and2 {j m : Nat} : ¬ (2 ^ j &&& m = 0) ↔ m.testBit j = true := by
  constructor
  · intro h
    cases hb : m.testBit j with
    | true => rfl
    | false =>
      refine absurd (Nat.eq_of_testBit_eq (fun i => ?_)) h
      rw [Nat.testBit_and, Nat.testBit_two_pow, Nat.zero_testBit]
      by_cases e : j = i
      · rw [← e, hb, Bool.and_false]
      · rw [decide_eq_false e, Bool.false_and]
  · intro h e
    have := congrArg (fun v => v.testBit j) e
    simp only [Nat.testBit_and, Nat.testBit_two_pow, Nat.zero_testBit, h, decide_true, Bool.and_self] at this
    cases this
theorem z_inm_iff {mask t : Nat} : z_inm nw x.2.1 tc mask t = true ↔ ∃ j, z_mng nw x.2.1 tc t = some (.inl j) ∧ mask.testBit j = true := by
  unfold z_inm
  rw [decide_eq_true_eq]
  cases hM : z_mng nw x.2.1 tc t with
  | none =>
    refine ⟨fun h => absurd (Nat.zero_and _) h, fun ⟨j, h, _⟩ => by cases h⟩
  | some mm =>
    cases mm with
    | inr k => exact ⟨fun h => absurd (Nat.zero_and _) h, fun ⟨j, h, _⟩ => by cases h⟩
    | inl k =>
      show ¬ (2 ^ k &&& mask = 0) ↔ _
      rw [z_and2]
      exact ⟨fun h => ⟨k, rfl, h⟩, fun ⟨j, h, g⟩ => by cases h; exact g⟩
theorem z_nown_iff {ow t : Nat} : z_nown nw x tc ow t = true ↔ ow < x.2.1.length ∧ (z_rch nw x tc ow).testBit ow = true ∧ z_inm nw x.2.1 tc (z_tog x.2.1.length (z_rch nw x tc) ow) t = true := by
  rw [z_inm_iff]
  unfold z_nown
  cases z_mng nw x.2.1 tc t with
  | none => exact ⟨fun h => (by cases h), fun ⟨_, _, j, h, _⟩ => by cases h⟩
  | some mm =>
    cases mm with
    | inr k => exact ⟨fun h => (by cases h), fun ⟨_, _, j, h, _⟩ => by cases h⟩
    | inl k =>
      show (decide (ow < x.2.1.length) && ((z_rch nw x tc ow).testBit ow && (z_tog x.2.1.length (z_rch nw x tc) ow).testBit k)) = true ↔ _
      rw [Bool.and_eq_true, Bool.and_eq_true, decide_eq_true_eq]
      exact ⟨fun ⟨a, b, c⟩ => ⟨a, b, k, rfl, c⟩, fun ⟨a, b, j, h, c⟩ => by cases h; exact ⟨a, b, c⟩⟩
theorem z_and_ex {a m : Nat} : ¬ (a &&& m = 0) ↔ ∃ j, a.testBit j = true ∧ m.testBit j = true := by
  constructor
  · intro h
    refine Classical.byContradiction (fun no => h (Nat.eq_of_testBit_eq (fun i => ?_)))
    rw [Nat.testBit_and, Nat.zero_testBit]
    cases h1 : a.testBit i with
    | false => rfl
    | true =>
      cases h2 : m.testBit i with
      | false => rfl
      | true => exact absurd ⟨i, h1, h2⟩ no
  · rintro ⟨j, h1, h2⟩ e
    have := congrArg (fun v => v.testBit j) e
    simp only [Nat.testBit_and, Nat.zero_testBit, h1, h2, Bool.and_self] at this
    cases this
theorem z_cnt2 {P : Nat → Bool} : ∀ (l : List Nat) (a : Nat), (l.foldl (fun a t => if P t = true then a + 1 else a) a = a + l.foldl (fun a t => if P t = true then a + 1 else a) 0) := by
  intro l
  induction l with
  | nil => intro a; rfl
  | cons t l ih =>
    intro a
    rw [List.foldl_cons, List.foldl_cons, ih, ih (if P t = true then 0 + 1 else 0)]
    by_cases w : P t = true
    · rw [if_pos w, if_pos w]; omega
    · rw [if_neg w, if_neg w]; omega
theorem z_cnt_1 {P : Nat → Bool} : ∀ l : List Nat, 0 < l.foldl (fun a t => if P t = true then a + 1 else a) 0 ↔ ∃ j, j < l.length ∧ P (l.getD j 0) = true := by
  intro l
  induction l with
  | nil => exact ⟨fun h => absurd h (Nat.lt_irrefl 0), fun ⟨j, h, _⟩ => by cases h⟩
  | cons t l ih =>
    rw [List.foldl_cons, z_cnt2]
    by_cases w : P t = true
    · rw [if_pos w]
      exact ⟨fun _ => ⟨0, Nat.zero_lt_succ _, w⟩, fun _ => by omega⟩
    · rw [if_neg w, Nat.zero_add, ih]
      constructor
      · rintro ⟨j, h1, h2⟩
        exact ⟨j + 1, Nat.succ_lt_succ h1, h2⟩
      · rintro ⟨j, h1, h2⟩
        cases j with
        | zero => exact absurd h2 w
        | succ j => exact ⟨j, Nat.lt_of_succ_lt_succ h1, h2⟩
theorem z_cnt_2 {P : Nat → Bool} : ∀ l : List Nat, 1 < l.foldl (fun a t => if P t = true then a + 1 else a) 0 ↔ ∃ i j, i < j ∧ j < l.length ∧ P (l.getD i 0) = true ∧ P (l.getD j 0) = true := by
  intro l
  induction l with
  | nil => exact ⟨fun h => absurd h (Nat.not_lt_zero 1), fun ⟨i, j, _, h, _⟩ => by cases h⟩
  | cons t l ih =>
    rw [List.foldl_cons, z_cnt2]
    have c1 := z_cnt_1 (P := P) l
    by_cases w : P t = true
    · rw [if_pos w]
      constructor
      · intro h
        obtain ⟨j, h1, h2⟩ := c1.mp (by omega)
        exact ⟨0, j + 1, by omega, Nat.succ_lt_succ h1, w, h2⟩
      · rintro ⟨i, j, h1, h2, h3, h4⟩
        cases j with
        | zero => omega
        | succ j =>
          have := c1.mpr ⟨j, Nat.lt_of_succ_lt_succ h2, h4⟩
          omega
    · rw [if_neg w, Nat.zero_add, ih]
      constructor
      · rintro ⟨i, j, h1, h2, h3, h4⟩
        exact ⟨i + 1, j + 1, by omega, Nat.succ_lt_succ h2, h3, h4⟩
      · rintro ⟨i, j, h1, h2, h3, h4⟩
        cases i with
        | zero => exact absurd h3 w
        | succ i =>
          cases j with
          | zero => omega
          | succ j => exact ⟨i, j, by omega, Nat.lt_of_succ_lt_succ h2, h3, h4⟩
/-- what a part names, and whom it stands with -/
theorem z_same_k {k : Nat} (h4 : x.2.1.length ≤ 4) (hk : k < x.2.1.length) (num y : Nat) : q_shp nw pl x tc (z_rch nw x tc) k (num, y) ↔ (num = 3 ∧ z_f3 pl (x.2.1.getD k z_pa0) y) ∨ (num = 5 ∧ ∃ s sl t, s < (z_sels x).length ∧ (z_sv x s).1 = k ∧ q_so (z_sv x s).2 sl t ∧ (sl = none ∨ 0 < z_gc (z_sv x s).2.2.1) ∧ z_nown nw x tc (z_sv x s).1 t = true ∧ y = pl t) ∨ (z_wr nw x tc k num ∧ y = pl (x.2.1.getD k z_pa0).1) := by
  have pr : ∀ a b : Nat, ((num, y) = (a, b)) ↔ (num = a ∧ y = b) := fun a b => ⟨fun h => Prod.mk.inj h, fun h => by rw [h.1, h.2]⟩
  have b5 : (∃ s sl t, s < (z_sels x).length ∧ (z_sv x s).1 = k ∧ q_so (z_sv x s).2 sl t ∧ (sl = none ∨ 0 < z_gc (z_sv x s).2.2.1) ∧ z_nown nw x tc (z_sv x s).1 t = true ∧ y = pl t) ↔ ∃ v ∈ (x.2.1.getD k z_pa0).2.2.1, ∃ sl t, q_so v sl t ∧ (sl = none ∨ 0 < z_gc v.2.1) ∧ z_nown nw x tc k t = true ∧ y = pl t := by
    rw [← z_sv_pt h4 hk (P := fun v => ∃ sl t, q_so v sl t ∧ (sl = none ∨ 0 < z_gc v.2.1) ∧ z_nown nw x tc k t = true ∧ y = pl t)]
    constructor
    · rintro ⟨s, sl, t, a1, a2, a3, a4, a5, a6⟩
      rw [a2] at a5
      exact ⟨s, a1, a2, sl, t, a3, a4, a5, a6⟩
    · rintro ⟨s, a1, a2, sl, t, a3, a4, a5, a6⟩
      rw [← a2] at a5
      exact ⟨s, sl, t, a1, a2, a3, a4, by rw [a2] at a5 ⊢; exact a5, a6⟩
  have tw : z_tog x.2.1.length (z_rch nw x tc) k = 2 ^ k → (z_rch nw x tc k).testBit k = true → ∀ v, (1 < z_tnm nw x.2.1 tc k v ↔ z_two nw x tc k v) := by
    intro e1 e2 v
    unfold z_tnm z_two
    rw [z_cnt_2]
    have own : ∀ t, z_isp nw x.2.1 tc k t = true ↔ z_nown nw x tc k t = true := fun t => by
      rw [z_nown_iff, z_inm_iff, e1]
      unfold z_isp
      rw [decide_eq_true_eq]
      constructor
      · intro h
        exact ⟨hk, e2, k, h, by rw [Nat.testBit_two_pow]; exact decide_eq_true rfl⟩
      · rintro ⟨-, -, j, h, g⟩
        rw [Nat.testBit_two_pow, decide_eq_true_eq] at g
        rw [h, g]
    constructor
    · rintro ⟨i, j, a1, a2, a3, a4⟩
      exact ⟨i, j, a1, a2, (own _).mp a3, (own _).mp a4⟩
    · rintro ⟨i, j, a1, a2, a3, a4⟩
      exact ⟨i, j, a1, a2, (own _).mpr a3, (own _).mpr a4⟩
  have al : (z_rch nw x tc k).testBit k = true → ((!(z_aln nw x tc (z_rch nw x tc) k)) = true ↔ (z_tog x.2.1.length (z_rch nw x tc) k ≠ 2 ^ k ∨ ∃ j, j < (x.2.1.getD k z_pa0).2.2.1.length ∧ z_two nw x tc k ((x.2.1.getD k z_pa0).2.2.1.getD j z_se0))) := by
    intro e2
    unfold z_aln
    by_cases e1 : z_tog x.2.1.length (z_rch nw x tc) k = 2 ^ k
    · rw [decide_eq_true e1, Bool.true_and]
      have h := tw e1 e2
      constructor
      · intro g
        right
        have g' : ((x.2.1.getD k z_pa0).2.2.1.all fun y => decide (z_tnm nw x.2.1 tc k y ≤ 1)) = false := by
          cases hh : ((x.2.1.getD k z_pa0).2.2.1.all fun y => decide (z_tnm nw x.2.1 tc k y ≤ 1)) with
          | true => rw [hh] at g; cases g
          | false => rfl
        rw [List.all_eq_false] at g'
        obtain ⟨v, v1, v2⟩ := g'
        obtain ⟨j, j1, j2⟩ := z_mgd z_se0 v1
        refine ⟨j, j1, ?_⟩
        rw [j2]
        refine (h v).mp ?_
        rw [decide_eq_true_eq] at v2
        omega
      · rintro (g | ⟨j, j1, j2⟩)
        · exact absurd e1 g
        · have : ((x.2.1.getD k z_pa0).2.2.1.all fun y => decide (z_tnm nw x.2.1 tc k y ≤ 1)) = false := by
            rw [List.all_eq_false]
            refine ⟨_, z_getD_m (d := z_se0) j1, ?_⟩
            rw [decide_eq_true_eq]
            have := (h _).mpr j2
            omega
          rw [this]
          rfl
    · rw [decide_eq_false e1, Bool.false_and]
      exact ⟨fun _ => Or.inl e1, fun _ => rfl⟩
  have n6 : (z_rch nw x tc k).testBit k = true → ((¬ z_nmd nw x.2.1 tc ((x.2.1.getD k z_pa0).2.2.1.getD 0 z_se0) &&& z_tog x.2.1.length (z_rch nw x tc) k = 0) ↔ z_onc nw x tc k ((x.2.1.getD k z_pa0).2.2.1.getD 0 z_se0)) := by
    intro e2
    rw [z_and_ex]
    unfold z_onc
    constructor
    · rintro ⟨j, a1, a2⟩
      obtain ⟨t, t1, t2⟩ := z_nmd_bit.mp a1
      exact ⟨t, t1, z_nown_iff.mpr ⟨hk, e2, z_inm_iff.mpr ⟨j, t2, a2⟩⟩⟩
    · rintro ⟨t, t1, t2⟩
      obtain ⟨-, -, g⟩ := z_nown_iff.mp t2
      obtain ⟨j, j1, j2⟩ := z_inm_iff.mp g
      exact ⟨j, z_nmd_bit.mpr ⟨t, t1, j1⟩, j2⟩
  unfold q_shp q_shg q_bar
  rw [b5]
  constructor
  · rintro ((((⟨v, v1, ⟨v2, v3⟩ | ⟨v2, ⟨v3, t, v4, v5, v6⟩ | ⟨cc, c1, t, c2, c3, c4⟩⟩⟩ | ⟨h1, h2⟩) | ⟨h1, h2⟩) | ⟨h1, h2⟩) | ⟨h1, h2⟩)
    · obtain ⟨g1, g2⟩ := (pr _ _).mp v3
      obtain ⟨j, j1, j2⟩ := z_mgd z_se0 v1
      exact Or.inl ⟨g1, j, j1, by rw [j2]; exact v2, by rw [j2]; exact g2⟩
    · obtain ⟨g1, g2⟩ := (pr _ _).mp v6
      obtain ⟨m, m1, m2⟩ := z_mgd 0 v4
      exact Or.inr (Or.inl ⟨g1, v, v1, some m, t, ⟨m1, m2⟩, Or.inr ((z_gc_pos _).mp v3), z_nown_iff.mpr ⟨hk, v2, v5⟩, g2⟩)
    · obtain ⟨g1, g2⟩ := (pr _ _).mp c4
      exact Or.inr (Or.inl ⟨g1, v, v1, none, t, ⟨cc, c1, c2⟩, Or.inl rfl, z_nown_iff.mpr ⟨hk, v2, c3⟩, g2⟩)
    · obtain ⟨g1, g2⟩ := (pr _ _).mp h2
      rw [Bool.and_eq_true] at h1
      exact Or.inr (Or.inr ⟨Or.inl ⟨g1, h1.1, h1.2⟩, g2⟩)
    · obtain ⟨g1, g2⟩ := (pr _ _).mp h2
      rw [Bool.and_eq_true, decide_eq_true_eq] at h1
      exact Or.inr (Or.inr ⟨Or.inr (Or.inl ⟨g1, (n6 h1.1).mp h1.2⟩), g2⟩)
    · obtain ⟨g1, g2⟩ := (pr _ _).mp h2
      rw [Bool.and_eq_true, Bool.and_eq_true, Bool.or_eq_true] at h1
      exact Or.inr (Or.inr ⟨Or.inr (Or.inr (Or.inl ⟨g1, h1.1, h1.2.2, (al h1.1).mp h1.2.1⟩)), g2⟩)
    · obtain ⟨g1, g2⟩ := (pr _ _).mp h2
      rw [Bool.and_eq_true] at h1
      refine Or.inr (Or.inr ⟨Or.inr (Or.inr (Or.inr ⟨g1, h1.2, ?_⟩)), g2⟩)
      cases hb : (z_rch nw x tc k).testBit k with
      | true => rw [hb] at h1; cases h1.1
      | false => rfl
  · rintro (⟨g1, j, j1, j2, j3⟩ | ⟨g1, v, v1, sl, t, v2, v3, v4, v5⟩ | ⟨⟨g1, g2, g3⟩ | ⟨g1, g2⟩ | ⟨g1, g2, g3, g4⟩ | ⟨g1, g2, g3⟩, h2⟩)
    · exact Or.inl (Or.inl (Or.inl (Or.inl ⟨_, z_getD_m j1, Or.inl ⟨j2, (pr _ _).mpr ⟨g1, j3⟩⟩⟩)))
    · obtain ⟨-, f2, f3⟩ := z_nown_iff.mp v4
      refine Or.inl (Or.inl (Or.inl (Or.inl ⟨v, v1, Or.inr ⟨f2, ?_⟩⟩)))
      cases sl with
      | none =>
        obtain ⟨cc, c1, c2⟩ := v2
        exact Or.inr ⟨cc, c1, t, c2, f3, (pr _ _).mpr ⟨g1, v5⟩⟩
      | some m =>
        obtain ⟨m1, m2⟩ := v2
        rcases v3 with v3 | v3
        · cases v3
        · exact Or.inl ⟨(z_gc_pos _).mpr v3, t, by rw [← m2]; exact z_getD_m m1, f3, (pr _ _).mpr ⟨g1, v5⟩⟩
    · exact Or.inl (Or.inl (Or.inl (Or.inr ⟨by rw [g2, g3]; rfl, (pr _ _).mpr ⟨g1, h2⟩⟩)))
    · have e2 : (z_rch nw x tc k).testBit k = true := by
        obtain ⟨t, t1, t2⟩ := g2
        exact (z_nown_iff.mp t2).2.1
      exact Or.inl (Or.inl (Or.inr ⟨by rw [e2, decide_eq_true ((n6 e2).mpr g2)]; rfl, (pr _ _).mpr ⟨g1, h2⟩⟩))
    · refine Or.inl (Or.inr ⟨?_, (pr _ _).mpr ⟨g1, h2⟩⟩)
      rw [Bool.and_eq_true, Bool.and_eq_true, Bool.or_eq_true]
      exact ⟨g2, (al g2).mpr g4, g3⟩
    · refine Or.inr ⟨?_, (pr _ _).mpr ⟨g1, h2⟩⟩
      rw [g2, g3]
      rfl
theorem q_ant_2 {z : Nat × Nat} (h : q_ant nw pl x tc cols z) : z.1 = 2 := by
  unfold q_ant q_pnt q_pn3 q_pn4 q_snt q_son q_ont at h
  rcases h with (⟨k, -, -, h⟩ | ⟨v, -, h⟩) | ⟨o, -, h⟩
  · rcases h with ((⟨_, -, -, -, h⟩ | ⟨_, -, -, -, h⟩) | ⟨s, -, ⟨-, h⟩ | ⟨-, h⟩⟩) | ⟨s, -, ⟨-, h⟩ | ⟨-, h⟩⟩ <;> rw [h]
  · rcases h with (⟨t, -, ⟨-, h⟩ | ⟨-, h⟩⟩ | ⟨i, -, e, -, -, -, h⟩) | ⟨cc, -, h⟩
    · rw [h]
    · rw [h]
    · rw [h]
    · cases cc with
      | inl bb => obtain ⟨e, -, -, -, h⟩ := h; rw [h]
      | inr z' =>
        rcases h with (⟨-, h⟩ | ⟨-, h⟩) | ⟨bb, -, e, -, -, -, h⟩ <;> rw [h]
  · rcases h with ⟨-, h⟩ | ⟨t, -, -, h⟩ <;> rw [h]
/-- the fault that the reference finds is the least of the engine's -/
theorem z_flt_mn (hmo : ∀ i j, i ≤ j → j ≤ n → pl i ≤ pl j) (W : z_wqu kd q x) (hq : q ≤ n) (h3 : ∀ m, m < x.2.1.length → (x.2.1.getD m z_pa0).2.1.length ≤ 3) (h4 : x.2.1.length ≤ 4) : q_mn (z_flt nw pl x tc cols) (fun z => (2 ≤ z.1 ∧ z.1 ≤ 8) ∧ z_fl nw pl x tc cols z.1 z.2) := by
  have s2 := z_same2 (nw := nw) (tc := tc) (cols := cols) hmo W hq h3
  have ma := q_ant_mn nw pl x tc cols
  have ms := q_sht_mn nw pl x tc
  have k3 : ∀ num y, num ≠ 2 → (z_fl nw pl x tc cols num y ↔ ∃ k ∈ List.range x.2.1.length, q_shp nw pl x tc (z_rch nw x tc) k (num, y)) := by
    intro num y ne
    unfold z_fl
    constructor
    · rintro (⟨h, -⟩ | ⟨h, s, sl, t, a1, a2, a3, a4, a5⟩ | ⟨h, m, m1, m2⟩ | ⟨m, m1, m2⟩)
      · exact absurd h ne
      · have ow := (z_nown_iff.mp a4).1
        exact ⟨(z_sv x s).1, List.mem_range.mpr ow, (z_same_k h4 ow num y).mpr (Or.inr (Or.inl ⟨h, s, sl, t, a1, rfl, a2, a3, a4, a5⟩))⟩
      · exact ⟨m, List.mem_range.mpr m1, (z_same_k h4 m1 num y).mpr (Or.inl ⟨h, m2⟩)⟩
      · exact ⟨m, List.mem_range.mpr m1, (z_same_k h4 m1 num y).mpr (Or.inr (Or.inr m2))⟩
    · rintro ⟨k, k1, k2⟩
      have hk := List.mem_range.mp k1
      rcases (z_same_k h4 hk num y).mp k2 with ⟨h, g⟩ | ⟨h, s, sl, t, a1, a2, a3, a4, a5, a6⟩ | g
      · exact Or.inr (Or.inr (Or.inl ⟨h, k, hk, g⟩))
      · exact Or.inr (Or.inl ⟨h, s, sl, t, a1, a3, a4, a5, a6⟩)
      · exact Or.inr (Or.inr (Or.inr ⟨k, hk, g⟩))
  have num3 : ∀ k z, k < x.2.1.length → q_shp nw pl x tc (z_rch nw x tc) k z → 3 ≤ z.1 ∧ z.1 ≤ 8 := by
    intro k z hk h
    rcases (z_same_k h4 hk z.1 z.2).mp h with ⟨h, -⟩ | ⟨h, -⟩ | ⟨h, -⟩
    · omega
    · omega
    · unfold z_wr at h
      rcases h with ⟨h, -⟩ | ⟨h, -⟩ | ⟨h, -⟩ | ⟨h, -⟩ <;> omega
  unfold z_flt
  cases hA : z_ant nw pl x tc cols with
  | some y =>
    rw [hA] at ma
    have y2 := q_ant_2 ma.1
    refine ⟨⟨by omega, ?_⟩, fun z hz => ?_⟩
    · rw [y2]
      refine (s2 y.2).mpr ?_
      rw [← y2]
      exact ma.1
    · by_cases e : z.1 = 2
      · have h := hz.2
        rw [e] at h
        have := ma.2 _ ((s2 z.2).mp h)
        rw [y2] at this ⊢
        rw [e]
        exact this
      · left
        have := hz.1.1
        omega
  | none =>
    rw [hA] at ma
    refine ms.iff (fun z => ?_)
    constructor
    · rintro ⟨k, k1, k2⟩
      have hk := List.mem_range.mp k1
      have := num3 k z hk k2
      exact ⟨by omega, (k3 z.1 z.2 (by omega)).mpr ⟨k, k1, k2⟩⟩
    · rintro ⟨h1, h2⟩
      by_cases e : z.1 = 2
      · rw [e] at h2
        exact absurd ((s2 z.2).mp h2) (ma _)
      · exact (k3 z.1 z.2 e).mp h2
end
