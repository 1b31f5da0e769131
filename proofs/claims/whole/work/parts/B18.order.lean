/-! THE CHECK: the order of the components -/
theorem z_tog_bit {m : Nat} {r : Nat → Nat} {p k : Nat} : (z_tog m r p).testBit k = true ↔ k = p ∨ (k < m ∧ z_Pb r p k ∧ z_Pb r k p) := by
  have key : ∀ (l : List Nat) (a : Nat), (l.foldl (fun a k => if ((r p).testBit k && (r k).testBit p) = true then a ||| 2 ^ k else a) a).testBit k = true ↔ a.testBit k = true ∨ (k ∈ l ∧ z_Pb r p k ∧ z_Pb r k p) := by
    intro l
    induction l with
    | nil => intro a; exact ⟨Or.inl, fun h => h.elim id (fun h => by cases h.1)⟩
    | cons x l ih =>
      intro a
      rw [List.foldl_cons, ih]
      by_cases w : ((r p).testBit x && (r x).testBit p) = true
      · rw [if_pos w, Nat.testBit_or, Bool.or_eq_true, Nat.testBit_two_pow, decide_eq_true_eq]
        have w' := (Bool.and_eq_true _ _).mp w
        constructor
        · rintro ((h | h) | h)
          · exact Or.inl h
          · rw [← h]; exact Or.inr ⟨List.mem_cons_self .., w'.1, w'.2⟩
          · exact Or.inr ⟨List.mem_cons_of_mem _ h.1, h.2⟩
        · rintro (h | ⟨h1, h2⟩)
          · exact Or.inl (Or.inl h)
          · rcases List.mem_cons.mp h1 with e | e
            · exact Or.inl (Or.inr e.symm)
            · exact Or.inr ⟨e, h2⟩
      · rw [if_neg w]
        constructor
        · rintro (h | h)
          · exact Or.inl h
          · exact Or.inr ⟨List.mem_cons_of_mem _ h.1, h.2⟩
        · rintro (h | ⟨h1, h2⟩)
          · exact Or.inl h
          · rcases List.mem_cons.mp h1 with e | e
            · exfalso
              rw [e] at h2
              exact w ((Bool.and_eq_true _ _).mpr h2)
            · exact Or.inr ⟨e, h2⟩
  unfold z_tog
  rw [key, Nat.testBit_two_pow, decide_eq_true_eq, List.mem_range]
  exact ⟨fun h => h.elim (fun h => Or.inl h.symm) Or.inr, fun h => h.elim (fun h => Or.inl h.symm) Or.inr⟩
def z_rdy (m : Nat) (r : Nat → Nat) (come i : Nat) : Bool := !(come.testBit i) && decide (r i &&& (come ||| z_tog m r i) = r i)
def z_nxt (m : Nat) (r : Nat → Nat) (come : Nat) : Option Nat := z_ff (z_rdy m r come) m 0
/-- which component each part is in, and how many there are -/
def z_ord (m : Nat) (r : Nat → Nat) : Nat → Nat → Nat → (Nat → Nat) → (Nat → Nat) × Nat
  | 0, _, num, cp => (cp, num)
  | f + 1, come, num, cp => match z_nxt m r come with
    | none => (cp, num)
    | some p => z_ord m r f (come ||| z_tog m r p) (num + 1) (fun k => if (z_tog m r p).testBit k = true then num else cp k)
theorem z_rdy_ex {m : Nat} {r : Nat → Nat} (tr : z_cb m m r) (bd : ∀ i j, i < m → z_Pb r i j → j < m) {come : Nat} : ∀ v i, r i ||| 2 ^ i = v → i < m → come.testBit i = false → ∃ p, p < m ∧ z_rdy m r come p = true := by
  intro v
  induction v using Nat.strongRecOn with
  | _ v ih =>
    intro i hv hi hc
    by_cases w : r i &&& (come ||| z_tog m r i) = r i
    · exact ⟨i, hi, by unfold z_rdy; rw [hc, decide_eq_true w]; rfl⟩
    · have ex : ∃ j, z_Pb r i j ∧ (come ||| z_tog m r i).testBit j = false := by
        refine Classical.byContradiction (fun q => w (Nat.eq_of_testBit_eq (fun j => ?_)))
        rw [Nat.testBit_and]
        cases h1 : (r i).testBit j with
        | false => rfl
        | true =>
          cases h2 : (come ||| z_tog m r i).testBit j with
          | true => rfl
          | false => exact absurd ⟨j, h1, h2⟩ q
      obtain ⟨j, j1, j2⟩ := ex
      rw [Nat.testBit_or, Bool.or_eq_false_iff] at j2
      have hj := bd i j hi j1
      have nt : ¬ (z_tog m r i).testBit j = true := by rw [j2.2]; decide
      rw [z_tog_bit] at nt
      have ne : ¬ j = i := fun e => nt (Or.inl e)
      have nb : ¬ z_Pb r j i := fun e => nt (Or.inr ⟨hj, j1, e⟩)
      have sub : (r j ||| 2 ^ j) &&& (r i ||| 2 ^ i) = r j ||| 2 ^ j := Nat.eq_of_testBit_eq (fun b => by
        rw [Nat.testBit_and]
        cases h1 : (r j ||| 2 ^ j).testBit b with
        | false => rfl
        | true =>
          rw [Nat.testBit_or, Bool.or_eq_true] at h1
          have : z_Pb r i b := by
            rcases h1 with h1 | h1
            · exact tr j i b hj hi j1 h1
            · rw [Nat.testBit_two_pow, decide_eq_true_eq] at h1
              rw [← h1]; exact j1
          rw [Nat.testBit_or, show (r i).testBit b = true from this]; rfl)
      have le : r j ||| 2 ^ j ≤ r i ||| 2 ^ i := by rw [← sub]; exact Nat.and_le_right
      have nq : r j ||| 2 ^ j ≠ r i ||| 2 ^ i := fun e => by
        have h1 : (r i ||| 2 ^ i).testBit i = true := by rw [Nat.testBit_or, Nat.testBit_two_pow, decide_eq_true rfl, Bool.or_true]
        rw [← e, Nat.testBit_or, Bool.or_eq_true, Nat.testBit_two_pow, decide_eq_true_eq] at h1
        exact h1.elim nb ne
      exact ih _ (by omega) j rfl hj j2.1
theorem z_nxt_ex {m : Nat} {r : Nat → Nat} (tr : z_cb m m r) (bd : ∀ i j, i < m → z_Pb r i j → j < m) {come i : Nat} (hi : i < m) (hc : come.testBit i = false) : ∃ p, z_nxt m r come = some p ∧ p < m ∧ come.testBit p = false := by
  obtain ⟨p, p1, p2⟩ := z_rdy_ex tr bd _ i rfl hi hc
  unfold z_nxt
  cases hz : z_ff (z_rdy m r come) m 0 with
  | none =>
    have := z_ff_none hz p (Nat.zero_le _) (by omega)
    rw [this] at p2; cases p2
  | some q =>
    obtain ⟨c1, c2, c3, c4⟩ := z_ff_some hz
    unfold z_rdy at c3
    have := ((Bool.and_eq_true _ _).mp c3).1
    exact ⟨q, rfl, by omega, by cases h : come.testBit q with | false => rfl | true => rw [h] at this; cases this⟩
theorem z_ff_snoc {P : Nat → Bool} : ∀ d i, z_ff P (d + 1) i = match z_ff P d i with | some j => some j | none => if P (i + d) = true then some (i + d) else none := by
  intro d
  induction d with
  | zero => intro i; rfl
  | succ d ih =>
    intro i
    rw [z_ff, ih (i + 1), z_ff]
    by_cases w : P i = true
    · rw [if_pos w, if_pos w]
    · rw [if_neg w, if_neg w, show i + 1 + d = i + (d + 1) from (by omega)]
theorem z_sub16 : ∀ a c t : Fin 16, decide (((Int32.ofNat a.1 &&& (Int32.ofNat c.1 ^^^ (-1))) &&& (Int32.ofNat t.1 ^^^ (-1))) = 0) = decide (a.1 &&& (c.1 ||| t.1) = a.1) := by decide +kernel
/-- where the reference writes the components -/
def M_cp (u : g_St) (m come num : Nat) (cp : Nat → Nat) : Prop := (∀ k, k < m → g_AI u 4052 k = if come.testBit k = true then Int32.ofNat (cp k) else -1) ∧ (∀ k, cp k < 10) ∧ g_I u 4865 1 = Int32.ofNat num ∧ num < 10
section
variable {m : Nat}
theorem b_nxt (k163 : Option Nat → Int32 → g_St → Option (Unit × g_St)) {u : g_St} (N : M_np u m) {r : Nat → Nat} (R : M_rh u m r) {come num : Nat} {cp : Nat → Nat} (hc : come < 16) (P : M_cp u m come num cp) : ∀ d f x2, d ≤ m → d < f → f_M_findComponents_184 k163 f (some 1) (Int32.ofNat come) x2 (Int32.ofNat d - 1) u = f_M_findComponents_229 k163 200000 (some 1) (Int32.ofNat come) (match z_ff (z_rdy m r come) d 0 with | some j => Int32.ofNat j | none => x2) 0 u := by
  have hm := N.1
  have m4 := N.2.2
  intro d
  induction d with
  | zero =>
    intro f x2 h1 h2
    obtain ⟨f, rfl⟩ : ∃ m, f = m + 1 := ⟨f - 1, by omega⟩
    rw [f_M_findComponents_184, if_pos (by decide)]
    rfl
  | succ d ih =>
    intro f x2 h1 h2
    obtain ⟨f, rfl⟩ : ∃ m, f = m + 1 := ⟨f - 1, by omega⟩
    have e1 : Int32.ofNat (d + 1) - 1 = Int32.ofNat d := by rw [Int32.ofNat_add]; exact Int32.add_sub_cancel _ _
    have e2 : Int32.ofNat d + (-1) = Int32.ofNat d - 1 := (Int32.sub_eq_add_neg _ _).symm
    have tg := b_tog N R (p := d) (by omega)
    have tl := z_tog_lt (m := m) (r := r) (p := d) (by omega) m4
    have s16 := z_sub16 ⟨r d, (R d (by omega)).2⟩ ⟨come, hc⟩ ⟨z_tog m r d, tl⟩
    have st : f_M_findComponents_184 k163 (f + 1) (some 1) (Int32.ofNat come) x2 (Int32.ofNat (d + 1) - 1) u = (if g_AI u 4052 d = -1 then if ((Int32.ofNat (r d) &&& (Int32.ofNat come ^^^ (-1))) &&& (Int32.ofNat (z_tog m r d) ^^^ (-1))) = 0 then f_M_findComponents_184 k163 f (some 1) (Int32.ofNat come) (Int32.ofNat d) (Int32.ofNat d - 1) u else f_M_findComponents_184 k163 f (some 1) (Int32.ofNat come) x2 (Int32.ofNat d - 1) u else f_M_findComponents_184 k163 f (some 1) (Int32.ofNat come) x2 (Int32.ofNat d - 1) u) := by
      rw [e1, f_M_findComponents_184, if_neg (show ¬ Int32.ofNat d < 0 from (by rw [show (0 : Int32) = Int32.ofNat 0 from rfl, x_lt (by omega) (by omega)]; omega)), x_gR, (m_at hm m_k4801).1, x_aI (by omega) (by rw [(m_at hm m_k4801).2]; omega), x_gR, (m_at hm m_k4737).1, x_aI (by omega) (by rw [(m_at hm m_k4737).2]; omega), (R d (by omega)).1, x_nn, tg, x_c, e2]
    rw [st, z_ff_snoc, Nat.zero_add, P.1 d (by omega)]
    have fin : ∀ x3 : Int32, (f_M_findComponents_184 k163 f (some 1) (Int32.ofNat come) x3 (Int32.ofNat d - 1) u = f_M_findComponents_229 k163 200000 (some 1) (Int32.ofNat come) (match z_ff (z_rdy m r come) d 0 with | some j => Int32.ofNat j | none => x3) 0 u) := fun x3 => ih f x3 (by omega) (by omega)
    cases hb : come.testBit d with
    | true =>
      have rd : z_rdy m r come d = false := by unfold z_rdy; rw [hb]; rfl
      rw [if_pos rfl, if_neg (z_oc_n (by have := P.2.1 d; omega)), fin, rd]
      cases z_ff (z_rdy m r come) d 0 with
      | some j => rfl
      | none => rfl
    | false =>
      rw [show (if false = true then Int32.ofNat (cp d) else -1) = (-1 : Int32) from rfl, if_pos rfl]
      by_cases w : r d &&& (come ||| z_tog m r d) = r d
      · have rd : z_rdy m r come d = true := by unfold z_rdy; rw [hb, decide_eq_true w]; rfl
        rw [if_pos (of_decide_eq_true (s16.trans (decide_eq_true w))), fin, rd]
        cases z_ff (z_rdy m r come) d 0 with
        | some j => rfl
        | none => rfl
      · have rd : z_rdy m r come d = false := by unfold z_rdy; rw [hb, decide_eq_false w]; rfl
        rw [if_neg (of_decide_eq_false (s16.trans (decide_eq_false w))), fin, rd]
        cases z_ff (z_rdy m r come) d 0 with
        | some j => rfl
        | none => rfl
theorem b_set (k163 : Option Nat → Int32 → g_St → Option (Unit × g_St)) {u : g_St} (N : M_np u m) {r : Nat → Nat} (R : M_rh u m r) {come num p : Nat} (hc : come < 16) (hp : p < m) (hn : g_I u 4865 1 = Int32.ofNat num) : ∀ d k f v, k + d = m → d < f → z_W [] [4052] u v → (∀ j, j < k → g_AI v 4052 j = if (z_tog m r p).testBit j = true then Int32.ofNat num else g_AI u 4052 j) → (∀ j, k ≤ j → g_AI v 4052 j = g_AI u 4052 j) → ∃ v', f_M_findComponents_229 k163 f (some 1) (Int32.ofNat come) (Int32.ofNat p) (Int32.ofNat k) v = k163 (some 1) (Int32.ofNat (come ||| z_tog m r p)) (g_setI v' 4865 1 (Int32.ofNat (num + 1))) ∧ z_W [] [4052] u v' ∧ ∀ j, j < m → g_AI v' 4052 j = if (z_tog m r p).testBit j = true then Int32.ofNat num else g_AI u 4052 j := by
  have m4 := N.2.2
  have tl := z_tog_lt (m := m) (r := r) (p := p) (by omega) m4
  intro d
  induction d with
  | zero =>
    intro k f v h1 h2 h3 h4 h5
    obtain ⟨f, rfl⟩ : ∃ m, f = m + 1 := ⟨f - 1, by omega⟩
    have Nv := N.W h3 (by decide)
    have Rv : M_rh v m r := fun k hk => by rw [(h3.2.2.2.2.2.2.2.2 3988 (by decide)).1]; exact R k hk
    have tg := b_tog Nv Rv hp
    rw [f_M_findComponents_229, x_gI, Nv.2.1, if_pos (by rw [x_le (by omega) (by omega)]; omega), x_nn, tg, x_c, x_gI, h3.2.2.2.2.2.2.2.1 4865 1 (by decide), hn, x_p1, x_pI, (z_or16' hc tl).1]
    exact ⟨v, rfl, h3, fun j hj => h4 j (by omega)⟩
  | succ d ih =>
    intro k f v h1 h2 h3 h4 h5
    obtain ⟨f, rfl⟩ : ∃ m, f = m + 1 := ⟨f - 1, by omega⟩
    have Nv := N.W h3 (by decide)
    have hm := Nv.1
    have Rv : M_rh v m r := fun k hk => by rw [(h3.2.2.2.2.2.2.2.2 3988 (by decide)).1]; exact R k hk
    have tg := b_tog Nv Rv hp
    have bt := z_bit16' tl (show k < 4 by omega)
    rw [f_M_findComponents_229, x_gI, Nv.2.1, if_neg (by rw [x_le (by omega) (by omega)]; omega), x_nn, tg, x_c, x_gR, (m_at hm m_k4801).1, x_gI, h3.2.2.2.2.2.2.2.1 4865 1 (by decide), hn, x_sI (by omega) (by rw [(m_at hm m_k4801).2]; omega), x_p1]
    by_cases w : (z_tog m r p).testBit k = true
    · rw [if_pos (by rw [bt]; exact w)]
      refine ih (k + 1) f _ (by omega) (by omega) (h3.sI (by decide) _ _) (fun j hj => ?_) (fun j hj => ?_)
      · by_cases e : j = k
        · rw [e, x_AI_AI, if_pos ⟨rfl, rfl⟩, if_pos w]
        · rw [x_AI_AI, if_neg (fun q => e q.2)]; exact h4 j (by omega)
      · rw [x_AI_AI, if_neg (fun q => by have := q.2; omega)]; exact h5 j (by omega)
    · rw [if_neg (by rw [bt]; exact w)]
      refine ih (k + 1) f v (by omega) (by omega) h3 (fun j hj => ?_) (fun j hj => h5 j (by omega))
      by_cases e : j = k
      · rw [e, if_neg w]; exact h5 k (Nat.le_refl _)
      · exact h4 j (by omega)
def z_uc : Nat → Nat → Nat
  | 0, _ => 0
  | m + 1, c => z_uc m c + (if c.testBit m = true then 0 else 1)
theorem z_uc_le (c : Nat) : ∀ m, z_uc m c ≤ m := by
  intro m
  induction m with
  | zero => exact Nat.le_refl _
  | succ m ih => rw [z_uc]; split <;> omega
theorem z_uc_0 {c : Nat} : ∀ {m}, z_uc m c = 0 → ∀ i, i < m → c.testBit i = true := by
  intro m
  induction m with
  | zero => intro _ i hi; omega
  | succ m ih =>
    intro h i hi
    rw [z_uc] at h
    by_cases w : c.testBit m = true
    · by_cases e : i = m
      · rw [e]; exact w
      · exact ih (by omega) i (by omega)
    · rw [if_neg w] at h; omega
theorem z_uc_mono {c c' : Nat} (h : ∀ i, c.testBit i = true → c'.testBit i = true) : ∀ m, z_uc m c' ≤ z_uc m c := by
  intro m
  induction m with
  | zero => exact Nat.le_refl _
  | succ m ih =>
    rw [z_uc, z_uc]
    by_cases w : c.testBit m = true
    · rw [if_pos w, if_pos (h m w)]; exact ih
    · rw [if_neg w]; split <;> omega
theorem z_uc_lt {c c' p : Nat} (h : ∀ i, c.testBit i = true → c'.testBit i = true) (h1 : c.testBit p = false) (h2 : c'.testBit p = true) : ∀ m, p < m → z_uc m c' < z_uc m c := by
  intro m
  induction m with
  | zero => intro hp; omega
  | succ m ih =>
    intro hp
    rw [z_uc, z_uc]
    by_cases e : p = m
    · rw [← e, if_pos h2, h1, if_neg (by decide)]
      have := z_uc_mono h p
      omega
    · have := ih (by omega)
      by_cases w : c.testBit m = true
      · rw [if_pos w, if_pos (h m w)]; omega
      · rw [if_neg w]; split <;> omega
theorem z_full {m come : Nat} (h : come < 2 ^ m) (g : ∀ i, i < m → come.testBit i = true) : come = 2 ^ m - 1 := Nat.eq_of_testBit_eq (fun j => by
  rw [Nat.testBit_two_pow_sub_one]
  by_cases w : j < m
  · rw [g j w, decide_eq_true w]
  · rw [decide_eq_false w]
    exact Nat.testBit_lt_two_pow (Nat.lt_of_lt_of_le h (Nat.pow_le_pow_right (by decide) (by omega))))
theorem z_shm : ∀ m : Fin 5, (1 : Int32) <<< (Int32.ofNat m.1 &&& 31) - 1 = Int32.ofNat (2 ^ m.1 - 1) := by decide +kernel
theorem b_ord {u0 : g_St} (N0 : M_np u0 m) {r : Nat → Nat} (R0 : M_rh u0 m r) (tr : z_cb m m r) (bd : ∀ i j, i < m → z_Pb r i j → j < m) : ∀ g come num cp f u, z_uc m come ≤ g → g < f → come < 2 ^ m → num + g ≤ 9 → z_W [4865] [4052] u0 u → M_cp u m come num cp → ∃ u', f_M_findComponents_163 f (some 1) (Int32.ofNat come) u = some ((), u') ∧ z_W [4865] [4052] u0 u' ∧ M_cp u' m (2 ^ m - 1) (z_ord m r g come num cp).2 (z_ord m r g come num cp).1 := by
  have m4 := N0.2.2
  have pm : 2 ^ m ≤ 16 := by have := Nat.pow_le_pow_right (n := 2) (by decide) m4; omega
  have stop : ∀ f u, z_W [4865] [4052] u0 u → f_M_findComponents_163 (f + 1) (some 1) (Int32.ofNat (2 ^ m - 1)) u = some ((), u) := fun f u h => by
    have N := N0.W h (by decide)
    rw [f_M_findComponents_163, x_gI, N.2.1, z_shm ⟨m, by omega⟩, if_pos rfl]
  intro g
  induction g with
  | zero =>
    intro come num cp f u h1 h2 h3 h4 h5 h6
    obtain ⟨f, rfl⟩ : ∃ m, f = m + 1 := ⟨f - 1, by omega⟩
    have e := z_full h3 (z_uc_0 (by omega))
    rw [e] at h6 ⊢
    exact ⟨u, stop f u h5, h5, h6⟩
  | succ g ih =>
    intro come num cp f u h1 h2 h3 h4 h5 h6
    obtain ⟨f, rfl⟩ : ∃ m, f = m + 1 := ⟨f - 1, by omega⟩
    by_cases w : z_uc m come = 0
    · have e := z_full h3 (z_uc_0 w)
      have nn : z_nxt m r come = none := by
        unfold z_nxt
        cases hz : z_ff (z_rdy m r come) m 0 with
        | none => rfl
        | some q =>
          obtain ⟨c1, c2, c3, c4⟩ := z_ff_some hz
          have := z_uc_0 w q (by omega)
          unfold z_rdy at c3
          rw [this] at c3
          cases c3
      rw [z_ord, nn]
      rw [e] at h6 ⊢
      exact ⟨u, stop f u h5, h5, h6⟩
    · have ex : ∃ i, i < m ∧ come.testBit i = false := by
        refine Classical.byContradiction (fun q => w ?_)
        have all : ∀ i, i < m → come.testBit i = true := fun i hi => by
          cases hb : come.testBit i with
          | true => rfl
          | false => exact absurd ⟨i, hi, hb⟩ q
        have : ∀ k, k ≤ m → z_uc k come = 0 := by
          intro k
          induction k with
          | zero => intro _; rfl
          | succ k ih => intro hk; rw [z_uc, ih (by omega), if_pos (all k (by omega))]
        exact this m (Nat.le_refl _)
      obtain ⟨i, hi, hc⟩ := ex
      obtain ⟨p, p1, p2, p3⟩ := z_nxt_ex tr bd hi hc
      have N := N0.W h5 (by decide)
      have R : M_rh u m r := fun k hk => by rw [(h5.2.2.2.2.2.2.2.2 3988 (by decide)).1]; exact R0 k hk
      have c16 : come < 16 := by omega
      have nx := b_nxt (f_M_findComponents_163 f) N R c16 h6 m 200000 (-1) (Nat.le_refl _) (by omega)
      have p1' : z_ff (z_rdy m r come) m 0 = some p := p1
      rw [p1'] at nx
      obtain ⟨v, s1, s2, s3⟩ := b_set (f_M_findComponents_163 f) N R c16 p2 h6.2.2.1 m 0 200000 u (by omega) (by omega) z_W.re (fun j hj => by omega) (fun _ _ => rfl)
      have s1' : f_M_findComponents_229 (f_M_findComponents_163 f) 200000 (some 1) (Int32.ofNat come) (Int32.ofNat p) 0 u = f_M_findComponents_163 f (some 1) (Int32.ofNat (come ||| z_tog m r p)) (g_setI v 4865 1 (Int32.ofNat (num + 1))) := s1
      have tb : ∀ k, (z_tog m r p).testBit k = true → k < m := fun k hk => by
        rcases z_tog_bit.mp hk with e | e
        · omega
        · exact e.1
      have tlt : z_tog m r p < 2 ^ m := Nat.lt_pow_two_of_testBit _ (fun k hk => by
        cases hb : (z_tog m r p).testBit k with
        | false => rfl
        | true => have := tb k hb; omega)
      have pt : (z_tog m r p).testBit p = true := z_tog_bit.mpr (Or.inl rfl)
      have un := z_uc_lt (c := come) (c' := come ||| z_tog m r p) (p := p) (fun i h => by rw [Nat.testBit_or, h]; rfl) p3 (by rw [Nat.testBit_or, pt, Bool.or_true]) m p2
      have ne : ¬ Int32.ofNat come = Int32.ofNat (2 ^ m - 1) := by
        rw [x_eq (by omega) (by omega)]
        intro e
        rw [e, Nat.testBit_two_pow_sub_one, decide_eq_true hi] at hc
        cases hc
      have st : f_M_findComponents_163 (f + 1) (some 1) (Int32.ofNat come) u = f_M_findComponents_163 f (some 1) (Int32.ofNat (come ||| z_tog m r p)) (g_setI v 4865 1 (Int32.ofNat (num + 1))) := by
        rw [f_M_findComponents_163, x_gI, N.2.1, z_shm ⟨m, by omega⟩, if_neg ne, x_gI, N.2.1, nx]
        exact s1'
      rw [st, z_ord, p1]
      have W2 : z_W [4865] [4052] u0 (g_setI v 4865 1 (Int32.ofNat (num + 1))) := (h5.trans (s2.mono (fun _ h => by cases h) (fun _ h => h))).pI (by decide) _
      refine ih (come ||| z_tog m r p) (num + 1) _ f _ (by omega) (by omega) (Nat.or_lt_two_pow h3 tlt) (by omega) W2 ⟨fun k hk => ?_, fun k => ?_, ?_, by omega⟩
      · show g_AI v 4052 k = _
        rw [s3 k hk, h6.1 k hk, Nat.testBit_or]
        cases h7 : (z_tog m r p).testBit k with
        | true => rw [if_pos rfl, Bool.or_true, if_pos rfl]; show _ = Int32.ofNat (if (z_tog m r p).testBit k = true then num else cp k); rw [if_pos h7]
        | false =>
          rw [if_neg (by decide), Bool.or_false]
          cases come.testBit k with
          | true => rw [if_pos rfl, if_pos rfl]; show _ = Int32.ofNat (if (z_tog m r p).testBit k = true then num else cp k); rw [if_neg (by rw [h7]; decide)]
          | false => rw [if_neg (by decide), if_neg (by decide)]
      · have := h6.2.1 k
        show (if _ then _ else _) < 10
        split <;> omega
      · rw [x_I_I, if_pos ⟨rfl, rfl⟩]
end
