/-! THE START: who has arrays -/
/-- only what is made has fields, and of kinds 0 to 5 -/
def N_r (u : g_St) : Prop := ∀ k c, g_R u k c ≠ none → g_al u c ∧ c % 64 ≤ 5
def N_q (s0 s : g_St) : Prop := N_r s ∧ ∀ t, g_cnt s0 t ≤ g_cnt s t
section
variable {s0 s s1 : g_St} {α : Type} {o : α} {k a t : Nat}
theorem N_q.al (q : N_q s0 s) (h : g_al s0 a) : g_al s a := Nat.lt_of_lt_of_le h (q.2 _)
theorem N_q.trans (q : N_q s0 s) (p : N_q s s1) : N_q s0 s1 := ⟨p.1, fun t => Nat.le_trans (q.2 t) (p.2 t)⟩
theorem N_q.mk (q : N_q s0 s) (t n m : Nat) (ht : t < 64) : N_q s0 (g_mk s t n m) ∧ g_al (g_mk s t n m) (g_cnt s t * 64 + t) ∧ (g_cnt s t * 64 + t) % 64 = t := by
  have le : ∀ t', g_cnt s t' ≤ g_cnt (g_mk s t n m) t' := fun t' => by
    rw [x_cnt_mk]
    by_cases e : t' = t
    · rw [if_pos e, e]; omega
    · rw [if_neg e]; exact Nat.le_refl _
  refine ⟨⟨fun k c h => ?_, fun t' => Nat.le_trans (q.2 t') (le t')⟩, ?_, by omega⟩
  · rw [x_R_mk] at h
    by_cases e : c = g_cnt s t * 64 + t
    · rw [if_pos e] at h; exact absurd rfl h
    · rw [if_neg e] at h
      obtain ⟨h1, h2⟩ := q.1 k c h
      exact ⟨Nat.lt_of_lt_of_le h1 (le _), h2⟩
  · show (g_cnt s t * 64 + t) / 64 < g_cnt (g_mk s t n m) ((g_cnt s t * 64 + t) % 64)
    rw [show (g_cnt s t * 64 + t) % 64 = t by omega, show (g_cnt s t * 64 + t) / 64 = g_cnt s t by omega, x_cnt_mk, if_pos rfl]
    omega
theorem N_q.pR (q : N_q s0 s) (al : g_al s0 a) (ha : a % 64 ≤ 5) (k : Nat) (v : Option Nat) : N_q s0 (g_setR s k a v) := by
  refine ⟨fun k' c h => ?_, q.2⟩
  rw [x_R_R] at h
  by_cases e : k' = k ∧ c = a
  · rw [e.2]; exact ⟨q.al al, ha⟩
  · rw [if_neg e] at h; exact q.1 k' c h
theorem n_A {n : Int32} {F : Option Nat → g_St → Option α} (q : N_q s0 s) (ht : t < 64) (h : g_newA s t n F = some o) : ∃ x s', N_q s0 s' ∧ g_al s' x ∧ x % 64 = t ∧ F (some x) s' = some o := by
  unfold g_newA at h
  split at h
  · obtain ⟨a1, a2, a3⟩ := q.mk t n.toNatClampNeg n.toNatClampNeg ht
    exact ⟨_, _, a1, a2, a3, h⟩
  · cases h
theorem n_N {n : Nat} {F : Option Nat → g_St → Option α} (q : N_q s0 s) (ht : t < 64) (h : g_new s t n F = some o) : ∃ x s', N_q s0 s' ∧ g_al s' x ∧ x % 64 = t ∧ F (some x) s' = some o := by
  unfold g_new at h
  split at h
  · obtain ⟨a1, a2, a3⟩ := q.mk t n 0 ht
    exact ⟨_, _, a1, a2, a3, h⟩
  · cases h
theorem n_P {v : Option Nat} {F : g_St → Option α} (q : N_q s0 s) (al : g_al s0 a) (ha : a % 64 ≤ 5) (h : g_pR s k (some a) v F = some o) : ∃ s', N_q s0 s' ∧ F s' = some o := ⟨_, q.pR al ha k v, h⟩
theorem n_I {v : Int32} {F : g_St → Option α} (q : N_q s0 s) (h : g_pI s k (some a) v F = some o) : ∃ s', N_q s0 s' ∧ F s' = some o := ⟨g_setI s k a v, ⟨q.1, q.2⟩, h⟩
theorem n_Z {v : Int32} {F : g_St → Option α} (q : N_q s0 s) (h : g_pZ s k (some a) v F = some o) : ∃ s', N_q s0 s' ∧ F s' = some o := by
  have h : (if v = 0 ∨ v = 1 then F (g_setI s k a v) else none) = some o := h
  split at h
  · exact ⟨g_setI s k a v, ⟨q.1, q.2⟩, h⟩
  · cases h
theorem n_S {r : Option Nat} {i : Int32} {v : Option Nat} {F : g_St → Option α} (q : N_q s0 s) (h : g_sR s r i v F = some o) : ∃ s', N_q s0 s' ∧ F s' = some o := by
  unfold g_sR at h
  split at h
  · cases h
  · split at h
    · cases h
    · refine ⟨_, ?_, h⟩
      exact ⟨q.1, q.2⟩
theorem n_L {r : Option Nat} {i : Int32} {v : Int64} {F : g_St → Option α} (q : N_q s0 s) (h : g_sL s r i v F = some o) : ∃ s', N_q s0 s' ∧ F s' = some o := by
  unfold g_sL at h
  split at h
  · cases h
  · split at h
    · cases h
    · refine ⟨_, ?_, h⟩
      exact ⟨q.1, q.2⟩
theorem n_c {β : Type} {X : Option (β × g_St)} {F : β → g_St → Option α} (h : g_c X F = some o) : ∃ v s, X = some (v, s) ∧ F v s = some o := fr_c h (fun v s h1 h2 => ⟨v, s, h1, h2⟩)
end
theorem n_Rl {s : g_St} {a : Nat} {x1 x2 : Int32} {o : Unit × g_St} (N : N_r s) (al : g_al s a) (ha : a % 64 ≤ 5) (h : f_Rl_init (some a) x1 x2 s = some o) : N_q s o.2 := by
  have q : N_q s s := ⟨N, fun _ => Nat.le_refl _⟩
  unfold f_Rl_init at h
  have h := er_nn h
  obtain ⟨s1, q, h⟩ := n_I q h
  obtain ⟨_, s2, q, -, -, h⟩ := n_A q (by decide) h
  obtain ⟨s3, q, h⟩ := n_P q al ha h
  obtain ⟨_, s4, q, -, -, h⟩ := n_A q (by decide) h
  obtain ⟨s5, q, h⟩ := n_P q al ha h
  obtain ⟨_, s6, q, -, -, h⟩ := n_A q (by decide) h
  obtain ⟨s7, q, h⟩ := n_P q al ha h
  cases h
  exact q
theorem n_Re {s : g_St} {a : Nat} {o : Unit × g_St} (N : N_r s) (al : g_al s a) (ha : a % 64 ≤ 5) (h : f_Re_init (some a) s = some o) : N_q s o.2 := by
  have q : N_q s s := ⟨N, fun _ => Nat.le_refl _⟩
  unfold f_Re_init at h
  have h := er_nn h
  obtain ⟨_, s2, q, -, -, h⟩ := n_A q (by decide) h
  obtain ⟨s3, q, h⟩ := n_P q al ha h
  obtain ⟨_, s4, q, -, -, h⟩ := n_A q (by decide) h
  obtain ⟨s5, q, h⟩ := n_P q al ha h
  obtain ⟨_, s6, q, -, -, h⟩ := n_A q (by decide) h
  obtain ⟨s7, q, h⟩ := n_P q al ha h
  obtain ⟨_, s8, q, -, -, h⟩ := n_A q (by decide) h
  obtain ⟨s9, q, h⟩ := n_P q al ha h
  cases h
  exact q
theorem n_Ru63 {s0 : g_St} {a : Nat} : ∀ (n : Nat) (x1 : Int32) (s : g_St) {o : Unit × g_St}, N_q s0 s → f_Ru_init_63 n (some a) x1 s = some o → N_q s0 o.2 := by
  intro n
  induction n with
  | zero => intro x1 s o q h; rw [f_Ru_init_63] at h; cases h
  | succ n ih =>
    intro x1 s o q h
    rw [f_Ru_init_63] at h
    split at h
    · cases h; exact q
    · have h : (g_new s 5 7 fun p2 s3 => g_c (g_nn p2 (f_Rl_init p2 48 4 s3)) fun _ s5 => g_sR s5 (g_R s 4 a) x1 p2 fun s6 => f_Ru_init_63 n (some a) (x1 + 1) s6) = some o := h
      obtain ⟨x, s2, q2, x1', x2', h⟩ := n_N q (by decide) h
      obtain ⟨v, s3, h1, h⟩ := n_c h
      have q3 := q2.trans (n_Rl q2.1 x1' (by omega) (er_nn h1))
      obtain ⟨s4, q4, h⟩ := n_S q3 h
      exact ih _ _ q4 h
theorem n_Ru {s : g_St} {a : Nat} {o : Unit × g_St} (N : N_r s) (al : g_al s a) (ha : a % 64 ≤ 5) (h : f_Ru_init (some a) s = some o) : N_q s o.2 := by
  have q : N_q s s := ⟨N, fun _ => Nat.le_refl _⟩
  unfold f_Ru_init at h
  have h := er_nn h
  obtain ⟨_, s2, q, -, -, h⟩ := n_A q (by decide) h
  obtain ⟨s3, q, h⟩ := n_P q al ha h
  obtain ⟨_, s4, q, -, -, h⟩ := n_A q (by decide) h
  obtain ⟨s5, q, h⟩ := n_P q al ha h
  obtain ⟨_, s6, q, -, -, h⟩ := n_A q (by decide) h
  obtain ⟨s7, q, h⟩ := n_P q al ha h
  obtain ⟨_, s8, q, -, -, h⟩ := n_A q (by decide) h
  obtain ⟨s9, q, h⟩ := n_P q al ha h
  obtain ⟨_, s10, q, -, -, h⟩ := n_A q (by decide) h
  obtain ⟨s11, q, h⟩ := n_P q al ha h
  obtain ⟨_, s12, q, -, -, h⟩ := n_A q (by decide) h
  obtain ⟨s13, q, h⟩ := n_P q al ha h
  obtain ⟨_, s14, q, -, -, h⟩ := n_A q (by decide) h
  obtain ⟨s15, q, h⟩ := n_P q al ha h
  exact n_Ru63 _ _ _ q h
theorem n_E {s : g_St} {a : Nat} {o : Unit × g_St} (N : N_r s) (al : g_al s a) (ha : a % 64 ≤ 5) (h : f_E_init (some a) s = some o) : N_q s o.2 := by
  have q : N_q s s := ⟨N, fun _ => Nat.le_refl _⟩
  unfold f_E_init at h
  have h := er_nn h
  obtain ⟨_, s2, q, -, -, h⟩ := n_A q (by decide) h
  obtain ⟨s3, q, h⟩ := n_P q al ha h
  obtain ⟨x4, s4, q, y4, z4, h⟩ := n_N q (by decide) h
  obtain ⟨_, s5, h1, h⟩ := n_c h
  have q := q.trans (n_Re q.1 y4 (by omega) (er_nn h1))
  obtain ⟨s6, q, h⟩ := n_P q al ha h
  obtain ⟨x7, s7, q, y7, z7, h⟩ := n_N q (by decide) h
  obtain ⟨_, s8, h1, h⟩ := n_c h
  have e8 : s8 = s7 := by
    have h2 := er_nn h1
    unfold f_Ch_init at h2
    have h3 := er_nn h2
    cases h3
    rfl
  rw [e8] at h
  obtain ⟨s9, q, h⟩ := n_P q al ha h
  obtain ⟨x10, s10, q, y10, z10, h⟩ := n_N q (by decide) h
  obtain ⟨_, s11, h1, h⟩ := n_c h
  have q := q.trans (n_Ru q.1 y10 (by omega) (er_nn h1))
  obtain ⟨s12, q, h⟩ := n_P q al ha h
  obtain ⟨s13, q, h⟩ := n_I q h
  obtain ⟨s14, q, h⟩ := n_P q al ha h
  obtain ⟨s15, q, h⟩ := n_I q h
  obtain ⟨s16, q, h⟩ := n_Z q h
  cases h
  exact q
