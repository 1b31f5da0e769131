/-! THE CHECK: what a part reaches (reference) -/
def z_ud (r : Nat → Nat) (i v : Nat) : Nat → Nat := fun j => if j = i then v else r j
def z_c1 (i : Nat) : Nat → Nat → (Nat → Nat) → Nat → Nat
  | 0, _, r => r
  | d + 1, k, r => z_c1 i d (k + 1) (if (r i).testBit k = true then z_ud r i (r i ||| r k) else r)
def z_c2 (n : Nat) : Nat → Nat → (Nat → Nat) → Nat → Nat
  | 0, _, r => r
  | d + 1, i, r => z_c2 n d (i + 1) (z_c1 i n 0 r)
def z_c4 (n : Nat) : Nat → (Nat → Nat) → Nat → Nat
  | 0, r => r
  | d + 1, r => z_c4 n d (z_c2 n n 0 r)
/-- the parts that a part is together with -/
def z_tog (n : Nat) (r : Nat → Nat) (p : Nat) : Nat := (List.range n).foldl (fun a k => if ((r p).testBit k && (r k).testBit p) = true then a ||| 2 ^ k else a) (2 ^ p)
def M_rh (u : g_St) (n : Nat) (r : Nat → Nat) : Prop := ∀ k, k < n → g_AI u 3988 k = Int32.ofNat (r k) ∧ r k < 16
theorem z_bit16 : ∀ a : Fin 16, ∀ k : Fin 4, decide (((Int32.ofNat a.1 >>> (Int32.ofNat k.1 &&& 31)) &&& 1) = 1) = (a.1).testBit k.1 := by decide +kernel
theorem z_bit16' {a k : Nat} (ha : a < 16) (hk : k < 4) : (((Int32.ofNat a >>> (Int32.ofNat k &&& 31)) &&& 1) = 1) = (a.testBit k = true) := by
  have := z_bit16 ⟨a, ha⟩ ⟨k, hk⟩
  by_cases w : ((Int32.ofNat a >>> (Int32.ofNat k &&& 31)) &&& 1) = 1
  · rw [decide_eq_true w] at this
    exact propext ⟨fun _ => this.symm, fun _ => w⟩
  · rw [decide_eq_false w] at this
    exact propext ⟨fun h => absurd h w, fun h => by rw [← this] at h; cases h⟩
theorem z_shl : ∀ k : Fin 4, (1 : Int32) <<< (Int32.ofNat k.1 &&& 31) = Int32.ofNat (2 ^ k.1) := by decide +kernel
theorem z_p16 {k : Nat} (hk : k < 4) : 2 ^ k < 16 := Nat.pow_lt_pow_right (a := 2) (by decide) hk
theorem z_range_getD {n i : Nat} (h : i < n) : (List.range n).getD i 0 = i := by
  rw [List.getD_eq_getElem?_getD, List.getElem?_range h]; rfl
/-- how many parts there are, and where it is written -/
def M_np (u : g_St) (m : Nat) : Prop := m_Fix u ∧ g_I u 1153 1 = Int32.ofNat m ∧ m ≤ 4
theorem M_np.W {wI wA : List Nat} {u v : g_St} {m : Nat} (h : M_np u m) (w : z_W wI wA u v) (h1 : 1153 ∉ wI) : M_np v m := ⟨w.fx h.1, by rw [w.2.2.2.2.2.2.2.1 1153 1 (fun q => h1 q.2)]; exact h.2.1, h.2.2⟩
section
variable {m : Nat}
theorem b_cl1 (k91 : Option Nat → Int32 → Int32 → g_St → Option (Unit × g_St)) {u0 : g_St} (h0 : M_np u0 m) {i : Nat} (hi : i < m) (x1 : Int32) : ∀ d k f u r, k + d = m → d < f → z_W [] [3988] u0 u → M_rh u m r → ∃ u', f_M_findComponents_101 k91 f (some 1) x1 (Int32.ofNat i) (Int32.ofNat k) u = k91 (some 1) x1 (Int32.ofNat (i + 1)) u' ∧ z_W [] [3988] u0 u' ∧ M_rh u' m (z_c1 i d k r) := by
  have m4 := h0.2.2
  intro d
  induction d with
  | zero =>
    intro k f u r h1 h2 h3 h4
    obtain ⟨f, rfl⟩ : ∃ m, f = m + 1 := ⟨f - 1, by omega⟩
    have N := h0.W h3 (by decide)
    rw [f_M_findComponents_101, x_gI, N.2.1, if_pos (by rw [x_le (by omega) (by omega)]; omega), x_p1]
    exact ⟨u, rfl, h3, h4⟩
  | succ d ih =>
    intro k f u r h1 h2 h3 h4
    obtain ⟨f, rfl⟩ : ∃ m, f = m + 1 := ⟨f - 1, by omega⟩
    have N := h0.W h3 (by decide)
    have hm := N.1
    have bt := z_bit16' (h4 i hi).2 (show k < 4 by omega)
    have O := z_or16' (h4 i hi).2 (h4 k (by omega)).2
    have st : f_M_findComponents_101 k91 (f + 1) (some 1) x1 (Int32.ofNat i) (Int32.ofNat k) u = (if ((Int32.ofNat (r i) >>> (Int32.ofNat k &&& 31)) &&& 1) = 1 then f_M_findComponents_101 k91 f (some 1) x1 (Int32.ofNat i) (Int32.ofNat (k + 1)) (g_setAI u 3988 i (Int32.ofNat (r i ||| r k))) else f_M_findComponents_101 k91 f (some 1) x1 (Int32.ofNat i) (Int32.ofNat (k + 1)) u) := by
      rw [f_M_findComponents_101, x_gI, N.2.1, if_neg (by rw [x_le (by omega) (by omega)]; omega), x_gR, (m_at hm m_k4737).1, x_aI (by omega) (by rw [(m_at hm m_k4737).2]; omega), (h4 i hi).1, x_gR, (m_at hm m_k4737).1, x_aI (by omega) (by rw [(m_at hm m_k4737).2]; omega), (h4 i hi).1, x_gR, (m_at hm m_k4737).1, x_aI (by omega) (by rw [(m_at hm m_k4737).2]; omega), (h4 k (by omega)).1, O.1, x_sI (by omega) (by rw [(m_at hm m_k4737).2]; omega), x_p1]
    rw [st, z_c1]
    by_cases w : (r i).testBit k = true
    · rw [if_pos (by rw [bt]; exact w), if_pos w]
      refine ih (k + 1) f _ _ (by omega) (by omega) (h3.sI (by decide) _ _) (fun j hj => ?_)
      unfold z_ud
      by_cases e : j = i
      · rw [if_pos e, e, x_AI_AI, if_pos ⟨rfl, rfl⟩]
        exact ⟨rfl, O.2⟩
      · rw [if_neg e, x_AI_AI, if_neg (fun q => e q.2)]
        exact h4 j hj
    · rw [if_neg (by rw [bt]; exact w), if_neg w]
      exact ih (k + 1) f u r (by omega) (by omega) h3 h4
theorem b_cl2 (k84 : Option Nat → Int32 → g_St → Option (Unit × g_St)) {u0 : g_St} (h0 : M_np u0 m) (c : Nat) : ∀ d i f u r, i + d = m → d < f → z_W [] [3988] u0 u → M_rh u m r → ∃ u', f_M_findComponents_91 k84 f (some 1) (Int32.ofNat c) (Int32.ofNat i) u = k84 (some 1) (Int32.ofNat (c + 1)) u' ∧ z_W [] [3988] u0 u' ∧ M_rh u' m (z_c2 m d i r) := by
  have m4 := h0.2.2
  intro d
  induction d with
  | zero =>
    intro i f u r h1 h2 h3 h4
    obtain ⟨f, rfl⟩ : ∃ m, f = m + 1 := ⟨f - 1, by omega⟩
    have N := h0.W h3 (by decide)
    rw [f_M_findComponents_91, x_gI, N.2.1, if_pos (by rw [x_le (by omega) (by omega)]; omega), x_p1]
    exact ⟨u, rfl, h3, h4⟩
  | succ d ih =>
    intro i f u r h1 h2 h3 h4
    obtain ⟨f, rfl⟩ : ∃ m, f = m + 1 := ⟨f - 1, by omega⟩
    have N := h0.W h3 (by decide)
    obtain ⟨v, a1, a2, a3⟩ := b_cl1 (f_M_findComponents_91 k84 f) h0 (i := i) (by omega) (Int32.ofNat c) m 0 200000 u r (by omega) (by omega) h3 h4
    have a1' : f_M_findComponents_101 (f_M_findComponents_91 k84 f) 200000 (some 1) (Int32.ofNat c) (Int32.ofNat i) 0 u = f_M_findComponents_91 k84 f (some 1) (Int32.ofNat c) (Int32.ofNat (i + 1)) v := a1
    rw [f_M_findComponents_91, x_gI, N.2.1, if_neg (by rw [x_le (by omega) (by omega)]; omega), a1']
    exact ih (i + 1) f v _ (by omega) (by omega) a2 a3
theorem b_cl4 {u0 : g_St} (h0 : M_np u0 m) : ∀ d c f u r, c + d = 4 → d < f → z_W [] [3988] u0 u → M_rh u m r → ∃ u', f_M_findComponents_84 f (some 1) (Int32.ofNat c) u = f_M_findComponents_163 200000 (some 1) 0 (g_setI u' 4865 1 0) ∧ z_W [] [3988] u0 u' ∧ M_rh u' m (z_c4 m d r) := by
  intro d
  induction d with
  | zero =>
    intro c f u r h1 h2 h3 h4
    obtain ⟨f, rfl⟩ : ∃ m, f = m + 1 := ⟨f - 1, by omega⟩
    have e : c = 4 := by omega
    rw [e, f_M_findComponents_84, if_pos (by decide), x_pI]
    exact ⟨u, rfl, h3, h4⟩
  | succ d ih =>
    intro c f u r h1 h2 h3 h4
    obtain ⟨f, rfl⟩ : ∃ m, f = m + 1 := ⟨f - 1, by omega⟩
    obtain ⟨v, a1, a2, a3⟩ := b_cl2 (f_M_findComponents_84 f) h0 c m 0 200000 u r (by omega) (by have := h0.2.2; omega) h3 h4
    have a1' : f_M_findComponents_91 (f_M_findComponents_84 f) 200000 (some 1) (Int32.ofNat c) 0 u = f_M_findComponents_84 f (some 1) (Int32.ofNat (c + 1)) v := a1
    rw [f_M_findComponents_84, if_neg (show ¬ (4 : Int32) ≤ Int32.ofNat c from (by rw [show (4 : Int32) = Int32.ofNat 4 from rfl, x_le (by omega) (by omega)]; omega)), a1']
    exact ih (c + 1) f v _ (by omega) (by omega) a2 a3
theorem z_tog_lt {r : Nat → Nat} {p : Nat} (hp : p < 4) (m4 : m ≤ 4) : z_tog m r p < 16 := by
  unfold z_tog
  have : ∀ (l : List Nat) (a : Nat), (∀ k ∈ l, k < 4) → a < 16 → l.foldl (fun a k => if ((r p).testBit k && (r k).testBit p) = true then a ||| 2 ^ k else a) a < 16 := by
    intro l
    induction l with
    | nil => intro a _ h; exact h
    | cons k l ih =>
      intro a h1 h2
      rw [List.foldl_cons]
      refine ih _ (fun j hj => h1 j (List.mem_cons_of_mem _ hj)) ?_
      split
      · exact (z_or16' h2 (z_p16 (h1 k (List.mem_cons_self ..)))).2
      · exact h2
  exact this _ _ (fun k hk => by have := List.mem_range.mp hk; omega) (z_p16 hp)
theorem b_tog {u : g_St} (N : M_np u m) {r : Nat → Nat} (R : M_rh u m r) {p : Nat} (hp : p < m) : f_M_together (some 1) (Int32.ofNat p) u = some (Int32.ofNat (z_tog m r p), u) := by
  have hm := N.1
  have m4 := N.2.2
  obtain ⟨v, r1, r2, r3⟩ := z_fr (List.range m) 0 (fun f i v => f_M_together_6 f (some 1) (Int32.ofNat p) v (Int32.ofNat i) u) (fun v => some (v, u)) (fun v a => v = Int32.ofNat a ∧ a < 16) (fun a k => if ((r p).testBit k && (r k).testBit p) = true then a ||| 2 ^ k else a)
    (fun f v a _ => by
      show f_M_together_6 (f + 1) _ _ _ _ u = _
      rw [f_M_together_6, x_gI, N.2.1, List.length_range, if_pos (by rw [x_le (by omega) (by omega)]; exact Nat.le_refl _)])
    (fun f i v a hi hI => by
      rw [List.length_range] at hi
      rw [z_range_getD hi]
      have b1 := z_bit16' (R p hp).2 (show i < 4 by omega)
      have b2 := z_bit16' (R i hi).2 (show p < 4 by omega)
      have O := z_or16' hI.2 (z_p16 (show i < 4 by omega))
      have st : f_M_together_6 (f + 1) (some 1) (Int32.ofNat p) v (Int32.ofNat i) u = (if ((Int32.ofNat (r p) >>> (Int32.ofNat i &&& 31)) &&& 1) = 1 then if ((Int32.ofNat (r i) >>> (Int32.ofNat p &&& 31)) &&& 1) = 1 then f_M_together_6 f (some 1) (Int32.ofNat p) (Int32.ofNat (a ||| 2 ^ i)) (Int32.ofNat (i + 1)) u else f_M_together_6 f (some 1) (Int32.ofNat p) v (Int32.ofNat (i + 1)) u else f_M_together_6 f (some 1) (Int32.ofNat p) v (Int32.ofNat (i + 1)) u) := by
        rw [f_M_together_6, x_gI, N.2.1, if_neg (by rw [x_le (by omega) (by omega)]; omega), x_gR, (m_at hm m_k4737).1, x_aI (by omega) (by rw [(m_at hm m_k4737).2]; omega), (R p hp).1, x_gR, (m_at hm m_k4737).1, x_aI (by omega) (by rw [(m_at hm m_k4737).2]; omega), (R i hi).1, z_shl ⟨i, by omega⟩, hI.1, O.1, x_p1]
      by_cases w1 : (r p).testBit i = true
      · rw [if_pos (by rw [b1]; exact w1)] at st
        by_cases w2 : (r i).testBit p = true
        · rw [if_pos (by rw [b2]; exact w2)] at st
          refine ⟨_, st, ?_⟩
          rw [w1, w2, Bool.and_self, if_pos rfl]
          exact ⟨rfl, O.2⟩
        · rw [if_neg (by rw [b2]; exact w2)] at st
          refine ⟨_, st, ?_⟩
          rw [if_neg (fun q => w2 ((Bool.and_eq_true _ _).mp q).2)]
          exact hI
      · rw [if_neg (by rw [b1]; exact w1)] at st
        refine ⟨_, st, ?_⟩
        rw [if_neg (fun q => w1 ((Bool.and_eq_true _ _).mp q).1)]
        exact hI)
    (List.range m) 0 (Int32.ofNat (2 ^ p)) (2 ^ p) 200000 rfl (Nat.zero_le _) (by rw [List.length_range]; omega) ⟨rfl, z_p16 (by omega)⟩
  unfold f_M_together
  rw [z_shl ⟨p, by omega⟩]
  have r1' : f_M_together_6 200000 (some 1) (Int32.ofNat p) (Int32.ofNat (2 ^ p)) 0 u = some (v, u) := r1
  rw [r1', r2]
  rfl
theorem b_irc {u : g_St} (N : M_np u m) {r : Nat → Nat} (R : M_rh u m r) {p : Nat} (hp : p < m) : f_M_isRecursive (some 1) (Int32.ofNat p) u = some (z_g ((r p).testBit p), u) := by
  have hm := N.1
  have m4 := N.2.2
  have b1 := z_bit16' (R p hp).2 (show p < 4 by omega)
  unfold f_M_isRecursive
  rw [x_gR, (m_at hm m_k4737).1, x_aI (by omega) (by rw [(m_at hm m_k4737).2]; omega), (R p hp).1]
  by_cases w : (r p).testBit p = true
  · rw [if_pos (by rw [b1]; exact w), w]; rfl
  · rw [if_neg (by rw [b1]; exact w), Bool.eq_false_iff.mpr w]; rfl
end
