/-! THE ENGINE'S READER: what stays as it was -/
def E_sm (u v : g_St) (a : Nat) : Prop := (∀ k, g_I v k a = g_I u k a ∧ g_L v k a = g_L u k a ∧ g_R v k a = g_R u k a) ∧ g_AI v a = g_AI u a ∧ g_AL v a = g_AL u a ∧ g_AR v a = g_AR u a ∧ g_ln v a = g_ln u a
theorem E_sm.re {u : g_St} {a : Nat} : E_sm u u a := ⟨fun _ => ⟨rfl, rfl, rfl⟩, rfl, rfl, rfl, rfl⟩
theorem E_sm.trans {u v w : g_St} {a : Nat} (h : E_sm u v a) (g : E_sm v w a) : E_sm u w a :=
  ⟨fun k => ⟨(g.1 k).1.trans (h.1 k).1, (g.1 k).2.1.trans (h.1 k).2.1, (g.1 k).2.2.trans (h.1 k).2.2⟩, g.2.1.trans h.2.1, g.2.2.1.trans h.2.2.1, g.2.2.2.1.trans h.2.2.2.1, g.2.2.2.2.trans h.2.2.2.2⟩
theorem E_sm.pI {u v : g_St} {b : Nat} (h : E_sm u v b) (k : Nat) {a : Nat} (x : Int32) (ne : b ≠ a) : E_sm u (g_setI v k a x) b := ⟨fun k' => ⟨by rw [x_I_I, if_neg (fun q => ne q.2)]; exact (h.1 k').1, (h.1 k').2⟩, h.2⟩
theorem E_sm.pL {u v : g_St} {b : Nat} (h : E_sm u v b) (k : Nat) {a : Nat} (x : Int64) (ne : b ≠ a) : E_sm u (g_setL v k a x) b := ⟨fun k' => ⟨(h.1 k').1, by rw [x_L_L, if_neg (fun q => ne q.2)]; exact (h.1 k').2.1, (h.1 k').2.2⟩, h.2⟩
theorem E_sm.pR {u v : g_St} {b : Nat} (h : E_sm u v b) (k : Nat) {a : Nat} (x : Option Nat) (ne : b ≠ a) : E_sm u (g_setR v k a x) b := ⟨fun k' => ⟨(h.1 k').1, (h.1 k').2.1, by rw [x_R_R, if_neg (fun q => ne q.2)]; exact (h.1 k').2.2⟩, h.2⟩
theorem E_sm.sI {u v : g_St} {b : Nat} (h : E_sm u v b) {a : Nat} (j : Nat) (x : Int32) (ne : b ≠ a) : E_sm u (g_setAI v a j x) b := ⟨h.1, by rw [show g_AI (g_setAI v a j x) b = g_AI v b from funext fun i => by rw [x_AI_AI, if_neg (fun q => ne q.1)]]; exact h.2.1, h.2.2⟩
theorem E_sm.sL {u v : g_St} {b : Nat} (h : E_sm u v b) {a : Nat} (j : Nat) (x : Int64) (ne : b ≠ a) : E_sm u (g_setAL v a j x) b := ⟨h.1, h.2.1, by rw [show g_AL (g_setAL v a j x) b = g_AL v b from funext fun i => by rw [x_AL_AL, if_neg (fun q => ne q.1)]]; exact h.2.2.1, h.2.2.2⟩
theorem E_sm.sR {u v : g_St} {b : Nat} (h : E_sm u v b) {a : Nat} (j : Nat) (x : Option Nat) (ne : b ≠ a) : E_sm u (g_setAR v a j x) b := ⟨h.1, h.2.1, h.2.2.1, by rw [show g_AR (g_setAR v a j x) b = g_AR v b from funext fun i => by rw [x_AR_AR, if_neg (fun q => ne q.1)]]; exact h.2.2.2.1, h.2.2.2.2⟩
theorem E_sm.mk {u v : g_St} {b : Nat} (h : E_sm u v b) (t n m : Nat) (ne : b ≠ g_cnt v t * 64 + t) : E_sm u (g_mk v t n m) b :=
  ⟨fun k' => ⟨by rw [x_I_mk, if_neg ne]; exact (h.1 k').1, by rw [x_L_mk, if_neg ne]; exact (h.1 k').2.1, by rw [x_R_mk, if_neg ne]; exact (h.1 k').2.2⟩, by rw [show g_AI (g_mk v t n m) b = g_AI v b from funext fun i => by rw [x_AI_mk, if_neg ne]]; exact h.2.1, by rw [show g_AL (g_mk v t n m) b = g_AL v b from funext fun i => by rw [x_AL_mk, if_neg ne]]; exact h.2.2.1, by rw [show g_AR (g_mk v t n m) b = g_AR v b from funext fun i => by rw [x_AR_mk, if_neg ne]]; exact h.2.2.2.1, by rw [x_ln_mk, if_neg ne]; exact h.2.2.2.2⟩
/-- the number of an object of a kind -/
theorem E_num {c t : Nat} (ht : t < 64) : (c * 64 + t) / 64 = c ∧ (c * 64 + t) % 64 = t := ⟨by omega, by omega⟩
theorem E_nal {u : g_St} {t : Nat} (ht : t < 64) : ¬ g_al u (g_cnt u t * 64 + t) := fun h => by
  unfold g_al at h
  rw [(E_num ht).1, (E_num ht).2] at h
  exact absurd h (Nat.lt_irrefl _)
theorem E_alm {u v : g_St} (h : ∀ t, g_cnt u t ≤ g_cnt v t) {a : Nat} (ha : g_al u a) : g_al v a := Nat.lt_of_lt_of_le ha (h _)
theorem E_alc {u : g_St} {c t : Nat} (ht : t < 64) : g_al u (c * 64 + t) = (c < g_cnt u t) := by unfold g_al; rw [(E_num ht).1, (E_num ht).2]
/-- all that was there stays, but the objects of X, lists, their arrays, and the reader's place -/
def E_kp (X : List Nat) (u v : g_St) : Prop := (∀ t, g_cnt u t ≤ g_cnt v t) ∧ (∀ a, g_al u a → a % 64 ≠ 12 → a % 64 ≠ 30 → a ≠ 2 → a ∉ X → E_sm u v a) ∧ (∀ k, k ≠ 322 → k ≠ 386 → g_I v k 2 = g_I u k 2) ∧ ∀ k, k ≠ 514 → k ≠ 578 → g_R v k 2 = g_R u k 2
def E_ok (X : List Nat) (u : g_St) (a : Nat) : Prop := a ≠ 2 ∧ (a ∈ X ∨ a % 64 = 12 ∨ a % 64 = 30 ∨ ¬ g_al u a)
theorem E_ok.ne {X : List Nat} {u : g_St} {a b : Nat} (h : E_ok X u a) (h1 : g_al u b) (h2 : b % 64 ≠ 12) (h3 : b % 64 ≠ 30) (h4 : b ∉ X) : b ≠ a := fun e => by
  rw [← e] at h
  rcases h.2 with q | q | q | q
  · exact h4 q
  · exact h2 q
  · exact h3 q
  · exact q h1
theorem E_ok.new {X : List Nat} {u v : g_St} {t : Nat} (h : E_kp X u v) (ht : t < 64) (h2 : t ≠ 2) : E_ok X u (g_cnt v t * 64 + t) := ⟨by omega, Or.inr (Or.inr (Or.inr (fun q => E_nal ht (E_alm h.1 q))))⟩
theorem E_kp.re {X : List Nat} {u : g_St} : E_kp X u u := ⟨fun _ => Nat.le_refl _, fun _ _ _ _ _ _ => E_sm.re, fun _ _ _ => rfl, fun _ _ _ => rfl⟩
theorem E_kp.trans {X Y : List Nat} {u v w : g_St} (h : E_kp X u v) (g : E_kp Y v w) (s : ∀ a ∈ Y, a ∈ X ∨ ¬ g_al u a) : E_kp X u w :=
  ⟨fun t => Nat.le_trans (h.1 t) (g.1 t), fun a h1 h2 h3 h4 h5 => (h.2.1 a h1 h2 h3 h4 h5).trans (g.2.1 a (E_alm h.1 h1) h2 h3 h4 (fun q => (s a q).elim h5 (fun r => r h1))), fun k a b => (g.2.2.1 k a b).trans (h.2.2.1 k a b), fun k a b => (g.2.2.2 k a b).trans (h.2.2.2 k a b)⟩
theorem E_kp.mono {X Y : List Nat} {u v : g_St} (h : E_kp X u v) (s : ∀ a ∈ X, a ∈ Y ∨ ¬ g_al u a) : E_kp Y u v := E_kp.re.trans h s
theorem E_kp.pI {X : List Nat} {u v : g_St} (h : E_kp X u v) {a : Nat} (ok : E_ok X u a) (k : Nat) (x : Int32) : E_kp X u (g_setI v k a x) :=
  ⟨h.1, fun b h1 h2 h3 h4 h5 => (h.2.1 b h1 h2 h3 h4 h5).pI k x (ok.ne h1 h2 h3 h5), fun k' p q => by rw [x_I_I, if_neg (fun w => ok.1 w.2.symm)]; exact h.2.2.1 k' p q, h.2.2.2⟩
theorem E_kp.pL {X : List Nat} {u v : g_St} (h : E_kp X u v) {a : Nat} (ok : E_ok X u a) (k : Nat) (x : Int64) : E_kp X u (g_setL v k a x) :=
  ⟨h.1, fun b h1 h2 h3 h4 h5 => (h.2.1 b h1 h2 h3 h4 h5).pL k x (ok.ne h1 h2 h3 h5), h.2.2.1, h.2.2.2⟩
theorem E_kp.pR {X : List Nat} {u v : g_St} (h : E_kp X u v) {a : Nat} (ok : E_ok X u a) (k : Nat) (x : Option Nat) : E_kp X u (g_setR v k a x) :=
  ⟨h.1, fun b h1 h2 h3 h4 h5 => (h.2.1 b h1 h2 h3 h4 h5).pR k x (ok.ne h1 h2 h3 h5), h.2.2.1, fun k' p q => by rw [x_R_R, if_neg (fun w => ok.1 w.2.symm)]; exact h.2.2.2 k' p q⟩
theorem E_kp.sI {X : List Nat} {u v : g_St} (h : E_kp X u v) {a : Nat} (ok : E_ok X u a) (j : Nat) (x : Int32) : E_kp X u (g_setAI v a j x) :=
  ⟨h.1, fun b h1 h2 h3 h4 h5 => (h.2.1 b h1 h2 h3 h4 h5).sI j x (ok.ne h1 h2 h3 h5), h.2.2.1, h.2.2.2⟩
theorem E_kp.sL {X : List Nat} {u v : g_St} (h : E_kp X u v) {a : Nat} (ok : E_ok X u a) (j : Nat) (x : Int64) : E_kp X u (g_setAL v a j x) :=
  ⟨h.1, fun b h1 h2 h3 h4 h5 => (h.2.1 b h1 h2 h3 h4 h5).sL j x (ok.ne h1 h2 h3 h5), h.2.2.1, h.2.2.2⟩
theorem E_kp.sR {X : List Nat} {u v : g_St} (h : E_kp X u v) {a : Nat} (ok : E_ok X u a) (j : Nat) (x : Option Nat) : E_kp X u (g_setAR v a j x) :=
  ⟨h.1, fun b h1 h2 h3 h4 h5 => (h.2.1 b h1 h2 h3 h4 h5).sR j x (ok.ne h1 h2 h3 h5), h.2.2.1, h.2.2.2⟩
theorem E_kp.p2I {X : List Nat} {u v : g_St} (h : E_kp X u v) {k : Nat} (hk : k = 322 ∨ k = 386) (x : Int32) : E_kp X u (g_setI v k 2 x) :=
  ⟨h.1, fun b h1 h2 h3 h4 h5 => (h.2.1 b h1 h2 h3 h4 h5).pI k x h4, fun k' p q => by rw [x_I_I, if_neg (fun w => by have := w.1; omega)]; exact h.2.2.1 k' p q, h.2.2.2⟩
theorem E_kp.p2R {X : List Nat} {u v : g_St} (h : E_kp X u v) {k : Nat} (hk : k = 514 ∨ k = 578) (x : Option Nat) : E_kp X u (g_setR v k 2 x) :=
  ⟨h.1, fun b h1 h2 h3 h4 h5 => (h.2.1 b h1 h2 h3 h4 h5).pR k x h4, h.2.2.1, fun k' p q => by rw [x_R_R, if_neg (fun w => by have := w.1; omega)]; exact h.2.2.2 k' p q⟩
theorem E_kp.mk {X : List Nat} {u v : g_St} (h : E_kp X u v) {t : Nat} (ht : t < 64) (h2 : t ≠ 2) (n m : Nat) : E_kp X u (g_mk v t n m) := by
  have ne2 : (2 : Nat) ≠ g_cnt v t * 64 + t := by omega
  refine ⟨fun t' => ?_, fun b h1 h2 h3 h4 h5 => (h.2.1 b h1 h2 h3 h4 h5).mk t n m (fun e => E_nal ht (e ▸ E_alm h.1 h1)), fun k p q => ?_, fun k p q => ?_⟩
  · rw [x_cnt_mk]
    by_cases w : t' = t
    · rw [if_pos w, w]; exact Nat.le_succ_of_le (h.1 t)
    · rw [if_neg w]; exact h.1 t'
  · rw [x_I_mk, if_neg ne2]; exact h.2.2.1 k p q
  · rw [x_R_mk, if_neg ne2]; exact h.2.2.2 k p q
theorem E_kp.at {X : List Nat} {u v : g_St} (h : E_kp X u v) {a : Nat} (h1 : g_al u a) (h2 : a % 64 ≠ 12 ∧ a % 64 ≠ 30 ∧ a % 64 ≠ 2) (h5 : a ∉ X) : E_sm u v a := h.2.1 a h1 h2.1 h2.2.1 (fun e => h2.2.2 (by rw [e])) h5
