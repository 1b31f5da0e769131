/-! THE CHECK: two ways of closing a relation agree -/
def z_Pb (r : Nat → Nat) (i j : Nat) : Prop := (r i).testBit j = true
def z_v1 (k : Nat) : Nat → Nat → (Nat → Nat) → Nat → Nat
  | 0, _, r => r
  | d + 1, i, r => z_v1 k d (i + 1) (if (r i).testBit k = true then z_ud r i (r i ||| r k) else r)
def z_v2 (m : Nat) : Nat → Nat → (Nat → Nat) → Nat → Nat
  | 0, _, r => r
  | d + 1, k, r => z_v2 m d (k + 1) (z_v1 k m 0 r)
theorem z_Pb_ud {r : Nat → Nat} {i k a j : Nat} : z_Pb (z_ud r i (r i ||| r k)) a j ↔ if a = i then z_Pb r i j ∨ z_Pb r k j else z_Pb r a j := by
  unfold z_Pb z_ud
  by_cases w : a = i
  · rw [if_pos w, if_pos w, Nat.testBit_or, Bool.or_eq_true]
  · rw [if_neg w, if_neg w]
theorem z_v1_sp {m k : Nat} (hk : k < m) {r0 : Nat → Nat} : ∀ d i r, i + d = m → (∀ a j, a < i → (z_Pb r a j ↔ z_Pb r0 a j ∨ (z_Pb r0 a k ∧ z_Pb r0 k j))) → (∀ a j, i ≤ a → (z_Pb r a j ↔ z_Pb r0 a j)) → ∀ a j, a < m → (z_Pb (z_v1 k d i r) a j ↔ z_Pb r0 a j ∨ (z_Pb r0 a k ∧ z_Pb r0 k j)) := by
  intro d
  induction d with
  | zero => intro i r h1 h2 h3 a j ha; exact h2 a j (by omega)
  | succ d ih =>
    intro i r h1 h2 h3 a j ha
    have rk : ∀ j, z_Pb r k j ↔ z_Pb r0 k j := fun j => by
      by_cases w : k < i
      · rw [h2 k j w]; exact ⟨fun h => h.elim id (fun h => h.2), Or.inl⟩
      · exact h3 k j (by omega)
    rw [z_v1]
    refine ih (i + 1) _ (by omega) (fun a j h => ?_) (fun a j h => ?_) a j ha
    · by_cases w : (r i).testBit k = true
      · rw [if_pos w, z_Pb_ud]
        by_cases e : a = i
        · rw [if_pos e, e, h3 i j (Nat.le_refl _), rk j]
          have w0 : z_Pb r0 i k := (h3 i k (Nat.le_refl _)).mp w
          exact ⟨fun h => h.elim Or.inl (fun h => Or.inr ⟨w0, h⟩), fun h => h.elim Or.inl (fun h => Or.inr h.2)⟩
        · rw [if_neg e]; exact h2 a j (by omega)
      · rw [if_neg w]
        by_cases e : a = i
        · rw [e, h3 i j (Nat.le_refl _)]
          have w0 : ¬ z_Pb r0 i k := fun q => w ((h3 i k (Nat.le_refl _)).mpr q)
          exact ⟨Or.inl, fun h => h.elim id (fun h => absurd h.1 w0)⟩
        · exact h2 a j (by omega)
    · by_cases w : (r i).testBit k = true
      · rw [if_pos w, z_Pb_ud, if_neg (by omega)]; exact h3 a j (by omega)
      · rw [if_neg w]; exact h3 a j (by omega)
theorem z_v1_B {m k : Nat} (hk : k < m) {r : Nat → Nat} {a j : Nat} (ha : a < m) : z_Pb (z_v1 k m 0 r) a j ↔ z_Pb r a j ∨ (z_Pb r a k ∧ z_Pb r k j) :=
  z_v1_sp hk m 0 r (by omega) (fun a j h => by omega) (fun _ _ _ => Iff.rfl) a j ha
/-- closed under the steps before k -/
def z_cb (m k : Nat) (r : Nat → Nat) : Prop := ∀ p i j, p < k → i < m → z_Pb r i p → z_Pb r p j → z_Pb r i j
theorem z_v2_cl {m : Nat} : ∀ d k r, k + d = m → z_cb m k r → z_cb m m (z_v2 m d k r) ∧ ∀ i j, i < m → z_Pb r i j → z_Pb (z_v2 m d k r) i j := by
  intro d
  induction d with
  | zero =>
    intro k r h1 h2
    have e : k = m := by omega
    rw [e] at h2
    exact ⟨h2, fun _ _ _ h => h⟩
  | succ d ih =>
    intro k r h1 h2
    have hk : k < m := by omega
    have B : ∀ {a j : Nat}, a < m → (z_Pb (z_v1 k m 0 r) a j ↔ z_Pb r a j ∨ (z_Pb r a k ∧ z_Pb r k j)) := fun h => z_v1_B hk h
    have c : z_cb m (k + 1) (z_v1 k m 0 r) := fun p i j hp hi g1 g2 => by
      have g1' := (B hi).mp g1
      have g2' := (B (show p < m by omega)).mp g2
      refine (B hi).mpr ?_
      by_cases e : p = k
      · rw [e] at g1' g2'
        have a1 : z_Pb r i k := g1'.elim id (fun h => h.1)
        have a2 : z_Pb r k j := g2'.elim id (fun h => h.2)
        exact Or.inr ⟨a1, a2⟩
      · have hp' : p < k := by omega
        rcases g1' with a | ⟨a, b⟩
        · rcases g2' with c | ⟨c, d⟩
          · exact Or.inl (h2 p i j hp' hi a c)
          · exact Or.inr ⟨h2 p i k hp' hi a c, d⟩
        · rcases g2' with c | ⟨c, d⟩
          · exact Or.inr ⟨a, h2 p k j hp' hk b c⟩
          · exact Or.inr ⟨a, d⟩
    obtain ⟨a1, a2⟩ := ih (k + 1) _ (by omega) c
    rw [z_v2]
    exact ⟨a1, fun i j hi h => a2 i j hi ((B hi).mpr (Or.inl h))⟩
theorem z_c1_sub {m : Nat} {S : Nat → Nat → Prop} (tr : ∀ p i j, p < m → i < m → S i p → S p j → S i j) {i : Nat} (hi : i < m) : ∀ d k r, k + d = m → (∀ a j, a < m → z_Pb r a j → S a j) → ∀ a j, a < m → z_Pb (z_c1 i d k r) a j → S a j := by
  intro d
  induction d with
  | zero => intro k r h1 h2; exact h2
  | succ d ih =>
    intro k r h1 h2
    rw [z_c1]
    refine ih (k + 1) _ (by omega) (fun a j ha h => ?_)
    by_cases w : (r i).testBit k = true
    · rw [if_pos w, z_Pb_ud] at h
      by_cases e : a = i
      · rw [if_pos e] at h
        rw [e]
        rcases h with h | h
        · exact h2 i j hi h
        · exact tr k i j (by omega) hi (h2 i k hi w) (h2 k j (by omega) h)
      · rw [if_neg e] at h
        exact h2 a j ha h
    · rw [if_neg w] at h
      exact h2 a j ha h
theorem z_c2_sub {m : Nat} {S : Nat → Nat → Prop} (tr : ∀ p i j, p < m → i < m → S i p → S p j → S i j) : ∀ d i r, i + d = m → (∀ a j, a < m → z_Pb r a j → S a j) → ∀ a j, a < m → z_Pb (z_c2 m d i r) a j → S a j := by
  intro d
  induction d with
  | zero => intro i r h1 h2; exact h2
  | succ d ih =>
    intro i r h1 h2
    rw [z_c2]
    exact ih (i + 1) _ (by omega) (z_c1_sub tr (by omega) m 0 r (by omega) h2)
theorem z_c4_sub {m : Nat} {S : Nat → Nat → Prop} (tr : ∀ p i j, p < m → i < m → S i p → S p j → S i j) : ∀ d r, (∀ a j, a < m → z_Pb r a j → S a j) → ∀ a j, a < m → z_Pb (z_c4 m d r) a j → S a j := by
  intro d
  induction d with
  | zero => intro r h2; exact h2
  | succ d ih =>
    intro r h2
    rw [z_c4]
    exact ih _ (z_c2_sub tr m 0 r (by omega) h2)
/-- one row is worked on -/
theorem z_c1_sup {m i : Nat} : ∀ d k r, k + d = m → (∀ a j, z_Pb r a j → z_Pb (z_c1 i d k r) a j) ∧ ∀ c j, k ≤ c → c < m → z_Pb r i c → z_Pb r c j → z_Pb (z_c1 i d k r) i j := by
  intro d
  induction d with
  | zero => intro k r h1; exact ⟨fun _ _ h => h, fun c j h2 h3 => by omega⟩
  | succ d ih =>
    intro k r h1
    rw [z_c1]
    have mono : ∀ a j, z_Pb r a j → z_Pb (if (r i).testBit k = true then z_ud r i (r i ||| r k) else r) a j := fun a j h => by
      by_cases w : (r i).testBit k = true
      · rw [if_pos w, z_Pb_ud]
        by_cases e : a = i
        · rw [if_pos e]; rw [e] at h; exact Or.inl h
        · rw [if_neg e]; exact h
      · rw [if_neg w]; exact h
    obtain ⟨a1, a2⟩ := ih (k + 1) (if (r i).testBit k = true then z_ud r i (r i ||| r k) else r) (by omega)
    refine ⟨fun a j h => a1 a j (mono a j h), fun c j h2 h3 h4 h5 => ?_⟩
    by_cases e : c = k
    · rw [e] at h4 h5
      refine a1 i j ?_
      rw [if_pos (show (r i).testBit k = true from h4), z_Pb_ud, if_pos rfl]
      exact Or.inr h5
    · exact a2 c j (by omega) h3 (mono _ _ h4) (mono _ _ h5)
theorem z_c2_sup {m : Nat} : ∀ d i r, i + d = m → (∀ a j, z_Pb r a j → z_Pb (z_c2 m d i r) a j) ∧ ∀ a c j, i ≤ a → a < m → c < m → z_Pb r a c → z_Pb r c j → z_Pb (z_c2 m d i r) a j := by
  intro d
  induction d with
  | zero => intro i r h1; exact ⟨fun _ _ h => h, fun a c j h2 h3 => by omega⟩
  | succ d ih =>
    intro i r h1
    rw [z_c2]
    obtain ⟨b1, b2⟩ := z_c1_sup (m := m) (i := i) m 0 r (by omega)
    obtain ⟨a1, a2⟩ := ih (i + 1) (z_c1 i m 0 r) (by omega)
    refine ⟨fun a j h => a1 a j (b1 a j h), fun a c j h2 h3 h4 h5 h6 => ?_⟩
    by_cases e : a = i
    · rw [e] at h5 ⊢
      exact a1 i j (b2 c j (Nat.zero_le _) h4 h5 h6)
    · exact a2 a c j (by omega) h3 h4 (b1 _ _ h5) (b1 _ _ h6)
theorem z_c4_sup {m : Nat} : ∀ d k r w, k + d = m → (∀ a j, a < m → z_Pb w a j → z_Pb r a j) → ∀ d', d ≤ d' → ∀ a j, a < m → z_Pb (z_v2 m d k w) a j → z_Pb (z_c4 m d' r) a j := by
  have mono : ∀ d' r a j, z_Pb r a j → z_Pb (z_c4 m d' r) a j := by
    intro d'
    induction d' with
    | zero => intro r a j h; exact h
    | succ d' ih => intro r a j h; rw [z_c4]; exact ih _ a j ((z_c2_sup m 0 r (by omega)).1 a j h)
  intro d
  induction d with
  | zero => intro k r w h1 h2 d' h3 a j ha h; exact mono d' r a j (h2 a j ha h)
  | succ d ih =>
    intro k r w h1 h2 d' h3 a j ha h
    obtain ⟨d', rfl⟩ : ∃ x, d' = x + 1 := ⟨d' - 1, by omega⟩
    rw [z_c4]
    rw [z_v2] at h
    refine ih (k + 1) _ _ (by omega) (fun a j ha h => ?_) d' (by omega) a j ha h
    obtain ⟨b1, b2⟩ := z_c2_sup (m := m) m 0 r (by omega)
    rcases (z_v1_B (show k < m by omega) ha).mp h with g | ⟨g, g2⟩
    · exact b1 a j (h2 a j ha g)
    · exact b2 a k j (Nat.zero_le _) ha (by omega) (h2 a k ha g) (h2 k j (by omega) g2)
/-- both ways close alike -/
theorem z_close {m : Nat} (hm : m ≤ 4) (e : Nat → Nat) {i : Nat} (hi : i < m) : z_c4 m 4 e i = z_v2 m m 0 e i := by
  obtain ⟨c1, c2⟩ := z_v2_cl (m := m) m 0 e (by omega) (fun p i j hp => by omega)
  refine Nat.eq_of_testBit_eq (fun j => ?_)
  have h1 : z_Pb (z_c4 m 4 e) i j → z_Pb (z_v2 m m 0 e) i j := z_c4_sub (S := z_Pb (z_v2 m m 0 e)) (fun p i j hp hi h g => c1 p i j hp hi h g) 4 e c2 i j hi
  have h2 : z_Pb (z_v2 m m 0 e) i j → z_Pb (z_c4 m 4 e) i j := z_c4_sup m 0 e e (by omega) (fun _ _ _ h => h) 4 hm i j hi
  unfold z_Pb at h1 h2
  cases w : (z_c4 m 4 e i).testBit j with
  | true => exact (h1 w).symm
  | false =>
    cases w2 : (z_v2 m m 0 e i).testBit j with
    | false => rfl
    | true => rw [h2 w2] at w; cases w
theorem z_c4_tr {m : Nat} (hm : m ≤ 4) (e : Nat → Nat) : z_cb m m (z_c4 m 4 e) := fun p i j hp hi h g => by
  obtain ⟨c1, -⟩ := z_v2_cl (m := m) m 0 e (by omega) (fun p i j hp => by omega)
  unfold z_Pb at h g ⊢
  rw [z_close hm e hi] at h ⊢
  rw [z_close hm e hp] at g
  exact c1 p i j hp hi h g
