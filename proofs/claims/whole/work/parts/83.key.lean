/-! KEYWORDS: the reference's numbers of words -/
def z_zh : List Nat → Nat → Nat
  | [], v => v
  | c :: cs, v => z_zh cs (27 * v + (c - 64))
def z_dec : Nat → Nat → List Nat
  | 0, _ => []
  | f + 1, h => if h = 0 then [] else z_dec f (h / 27) ++ [h % 27 + 64]
theorem z_dec_zh : ∀ (cs : List Nat) (v f : Nat), (∀ c ∈ cs, 65 ≤ c ∧ c ≤ 90) → z_dec (f + cs.length) (z_zh cs v) = z_dec f v ++ cs := by
  intro cs
  induction cs with
  | nil => intro v f _; rw [List.append_nil]; rfl
  | cons c cs ih =>
    intro v f h
    have hc := h c (List.mem_cons_self ..)
    rw [z_zh, List.length_cons, show f + (cs.length + 1) = (f + 1) + cs.length by omega, ih _ _ (fun x hx => h x (List.mem_cons_of_mem _ hx)), z_dec, if_neg (by omega), show (27 * v + (c - 64)) / 27 = v by omega, show (27 * v + (c - 64)) % 27 + 64 = c by omega, List.append_assoc]
    rfl
theorem z_zh_lt : ∀ (cs : List Nat) (v m : Nat), (∀ c ∈ cs, 65 ≤ c ∧ c ≤ 90) → v < 27 ^ m → z_zh cs v < 27 ^ (m + cs.length) := by
  intro cs
  induction cs with
  | nil => intro v m _ h; exact h
  | cons c cs ih =>
    intro v m h hv
    have hc := h c (List.mem_cons_self ..)
    rw [z_zh, List.length_cons, show m + (cs.length + 1) = (m + 1) + cs.length by omega]
    refine ih _ _ (fun x hx => h x (List.mem_cons_of_mem _ hx)) ?_
    rw [Nat.pow_succ]
    omega
def z_kvs : List Nat := (z_wd.take 25).map fun w => z_zh w 0
theorem z_kv_eq {w : List Nat} (hw : ∀ c ∈ w, 65 ≤ c ∧ c ≤ 90) (hl : w.length < 10) {k : Nat} (hk : k < 25) : z_zh w 0 = z_kvs.getD k 0 ↔ z_wd.getD k [] = w := by
  have c1 : ((List.range 25).all fun k => decide (z_zh (z_wd.getD k []) 0 = z_kvs.getD k 0)) = true := by decide +kernel
  have c2 : ((List.range 25).all fun k => (List.range 10).all fun L => decide (z_zh (z_dec L (z_kvs.getD k 0)) 0 = z_kvs.getD k 0 → z_wd.getD k [] = z_dec L (z_kvs.getD k 0))) = true := by decide +kernel
  constructor
  · intro h
    have e := z_dec_zh w 0 0 hw
    rw [Nat.zero_add, h] at e
    have e2 : z_dec w.length (z_kvs.getD k 0) = w := e
    have := of_decide_eq_true (List.all_eq_true.mp (List.all_eq_true.mp c2 k (List.mem_range.mpr hk)) w.length (List.mem_range.mpr hl))
    rw [e2] at this
    exact this h
  · intro h
    rw [← h]
    exact of_decide_eq_true (List.all_eq_true.mp c1 k (List.mem_range.mpr hk))
/-- the reference's search, the last of 25 -/
def z_fm (P : Nat → Prop) (dp : ∀ k, Decidable (P k)) : Nat → Nat → Int32 → Int32
  | 0, _, v => v
  | d + 1, k, v => z_fm P dp d (k + 1) (if P k then Int32.ofNat k else v)
theorem z_fm_none {P : Nat → Prop} {dp : ∀ k, Decidable (P k)} : ∀ (d k : Nat) (v : Int32), (∀ j, k ≤ j → j < k + d → ¬ P j) → z_fm P dp d k v = v := by
  intro d
  induction d with
  | zero => intro k v _; rfl
  | succ d ih =>
    intro k v h
    rw [z_fm, if_neg (h k (Nat.le_refl _) (by omega))]
    exact ih (k + 1) v (fun j h1 h2 => h j (by omega) (by omega))
theorem z_fm_one {P : Nat → Prop} {dp : ∀ k, Decidable (P k)} : ∀ (d k m : Nat) (v : Int32), k ≤ m → m < k + d → P m → (∀ j, k ≤ j → j < k + d → P j → j = m) → z_fm P dp d k v = Int32.ofNat m := by
  intro d
  induction d with
  | zero => intro k m v h1 h2; omega
  | succ d ih =>
    intro k m v h1 h2 hp hu
    rw [z_fm]
    by_cases e : k = m
    · subst e
      rw [if_pos hp]
      exact z_fm_none d (k + 1) _ (fun j q1 q2 w => by have := hu j (by omega) (by omega) w; omega)
    · rw [if_neg (fun w => e (hu k (Nat.le_refl _) (by omega) w))]
      exact ih (k + 1) m v (by omega) (by omega) hp (fun j q1 q2 w => hu j (by omega) (by omega) w)
theorem z_fk_none (w : List Nat) : ∀ d k, (∀ j, k ≤ j → j < k + d → z_wd.getD j [] ≠ w) → z_fk w d k = 39 := by
  intro d
  induction d with
  | zero => intro k _; rfl
  | succ d ih =>
    intro k h
    rw [z_fk, if_neg (h k (Nat.le_refl _) (by omega))]
    exact ih (k + 1) (fun j h1 h2 => h j (by omega) (by omega))
theorem z_fk_one (w : List Nat) : ∀ d k m, k ≤ m → m < k + d → z_wd.getD m [] = w → (∀ j, k ≤ j → j < m → z_wd.getD j [] ≠ w) → z_fk w d k = m := by
  intro d
  induction d with
  | zero => intro k m h1 h2; omega
  | succ d ih =>
    intro k m h1 h2 hp hu
    rw [z_fk]
    by_cases e : k = m
    · subst e
      rw [if_pos hp]
    · rw [if_neg (hu k (Nat.le_refl _) (by omega))]
      exact ih (k + 1) m (by omega) (by omega) hp (fun j q1 q2 => hu j (by omega) q2)
theorem z_wd_inj : ∀ a, a < 36 → ∀ b, b < 36 → z_wd.getD a [] = z_wd.getD b [] → a = b := by
  have c : ((List.range 36).all fun a => (List.range 36).all fun b => decide (z_wd.getD a [] = z_wd.getD b [] → a = b)) = true := by decide +kernel
  intro a ha b hb
  exact of_decide_eq_true (List.all_eq_true.mp (List.all_eq_true.mp c a (List.mem_range.mpr ha)) b (List.mem_range.mpr hb))
theorem z_wd_cap : ∀ a, 25 ≤ a → a < 36 → ∃ c cs, z_wd.getD a [] = c :: cs ∧ ¬ (65 ≤ c ∧ c ≤ 90) := by
  have c : ((List.range 36).all fun a => decide (25 ≤ a → ((z_wd.getD a []).head?.any fun c => decide (¬ (65 ≤ c ∧ c ≤ 90))) = true)) = true := by decide +kernel
  intro a h1 h2
  have := of_decide_eq_true (List.all_eq_true.mp c a (List.mem_range.mpr h2)) h1
  cases e : z_wd.getD a [] with
  | nil => rw [e] at this; cases this
  | cons x xs =>
    rw [e] at this
    exact ⟨x, xs, rfl, of_decide_eq_true this⟩
theorem z_wd_l : ∀ a, a < 36 → (z_wd.getD a []).length < 10 := by
  have c : ((List.range 36).all fun a => decide ((z_wd.getD a []).length < 10)) = true := by decide +kernel
  intro a ha
  exact of_decide_eq_true (List.all_eq_true.mp c a (List.mem_range.mpr ha))
/-- a word of capitals: both find the same -/
theorem z_key {w : List Nat} (hw : ∀ c ∈ w, 65 ≤ c ∧ c ≤ 90) (hne : w ≠ []) {P : Nat → Prop} {dp : ∀ k, Decidable (P k)} (hP : ∀ k, 1 ≤ k → k < 26 → (P k ↔ (z_zh w 0 = z_kvs.getD (k - 1) 0 ∧ w.length < 10))) : z_fm P dp 25 1 0 = z_km (z_fk w 36 0) := by
  have hP2 : ∀ k, 1 ≤ k → k < 26 → (P k ↔ z_wd.getD (k - 1) [] = w) := fun k h1 h2 => by
    rw [hP k h1 h2]
    constructor
    · intro ⟨a, b⟩
      exact (z_kv_eq hw b (by omega)).mp a
    · intro a
      have b : w.length < 10 := by rw [← a]; exact z_wd_l _ (by omega)
      exact ⟨(z_kv_eq hw b (by omega)).mpr a, b⟩
  by_cases h : ∃ k, k < 25 ∧ z_wd.getD k [] = w
  · obtain ⟨k, hk, e⟩ := h
    have kk : z_km k = Int32.ofNat (k + 1) := by
      have c : ((List.range 25).all fun k => decide (z_km k = Int32.ofNat (k + 1))) = true := by decide +kernel
      exact of_decide_eq_true (List.all_eq_true.mp c k (List.mem_range.mpr hk))
    rw [z_fk_one w 36 0 k (Nat.zero_le _) (by omega) e (fun j _ h2 q => by have := z_wd_inj j (by omega) k (by omega) (q.trans e.symm); omega), kk]
    exact z_fm_one 25 1 (k + 1) 0 (by omega) (by omega) ((hP2 (k + 1) (by omega) (by omega)).mpr (by rw [show k + 1 - 1 = k by omega]; exact e)) (fun j h1 h2 q => by
      have := z_wd_inj (j - 1) (by omega) k (by omega) (((hP2 j h1 (by omega)).mp q).trans e.symm)
      omega)
  · rw [z_fk_none w 36 0 (fun j _ h2 q => by
      by_cases g : j < 25
      · exact h ⟨j, g, q⟩
      · obtain ⟨c, cs, e, hc⟩ := z_wd_cap j (by omega) (by omega)
        rw [q] at e
        exact hc (hw c (by rw [e]; exact List.mem_cons_self ..)))]
    exact z_fm_none 25 1 0 (fun j h1 h2 q => h ⟨j - 1, by omega, (hP2 j h1 (by omega)).mp q⟩)
