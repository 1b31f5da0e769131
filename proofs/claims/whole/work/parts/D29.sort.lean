/-! RUNNING (engine): the answer is sorted -/
def r_pos (lt : Nat → Bool) (l : List Nat) : Nat → Nat
  | 0 => 0
  | t + 1 => if lt (l.getD t 0) = true then r_pos lt l t else t + 1
def r_insl (lt : Nat → Bool) (r : Nat) (l : List Nat) (t : Nat) : List Nat := l.take (r_pos lt l t) ++ r :: l.drop (r_pos lt l t)
/-- the places of n rows, sorted -/
def r_srt (lt : Nat → Nat → Bool) : Nat → List Nat
  | 0 => []
  | n + 1 => r_insl (lt n) n (r_srt lt n) n
theorem r_pos_le (lt : Nat → Bool) (l : List Nat) (t : Nat) : r_pos lt l t ≤ t := by
  induction t with
  | zero => exact Nat.le_refl _
  | succ t ih =>
    unfold r_pos
    split
    · omega
    · exact Nat.le_refl _
theorem z_insg {l : List Nat} {p r i : Nat} (hp : p ≤ l.length) : (l.take p ++ r :: l.drop p).getD i 0 = if i < p then l.getD i 0 else if i = p then r else l.getD (i - 1) 0 := by
  have lt : (l.take p).length = p := by rw [List.length_take, Nat.min_eq_left hp]
  rw [List.getD_eq_getElem?_getD]
  by_cases h : i < p
  · rw [if_pos h, List.getElem?_append_left (by omega), List.getElem?_take, if_pos h, ← List.getD_eq_getElem?_getD]
  · rw [if_neg h, List.getElem?_append_right (by omega), lt]
    by_cases e : i = p
    · rw [if_pos e, e, Nat.sub_self]; rfl
    · rw [if_neg e]
      obtain ⟨d, hd⟩ : ∃ d, i - p = d + 1 := ⟨i - p - 1, by omega⟩
      rw [hd, List.getElem?_cons_succ, List.getElem?_drop, ← List.getD_eq_getElem?_getD, show p + d = i - 1 by omega]
theorem r_srt_ok (lt : Nat → Nat → Bool) (n : Nat) : (r_srt lt n).length = n ∧ ∀ i, i < n → (r_srt lt n).getD i 0 < n := by
  induction n with
  | zero => exact ⟨rfl, fun i hi => by omega⟩
  | succ n ih =>
    obtain ⟨h1, h2⟩ := ih
    have hp := r_pos_le (lt n) (r_srt lt n) n
    refine ⟨?_, fun i hi => ?_⟩
    · unfold r_srt r_insl
      rw [List.length_append, List.length_cons, List.length_take, List.length_drop, h1, Nat.min_eq_left hp]; omega
    · unfold r_srt r_insl
      rw [z_insg (by omega)]
      by_cases a : i < r_pos (lt n) (r_srt lt n) n
      · rw [if_pos a]; have := h2 i (by omega); omega
      · rw [if_neg a]
        by_cases e : i = r_pos (lt n) (r_srt lt n) n
        · rw [if_pos e]; omega
        · rw [if_neg e]; have := h2 (i - 1) (by omega); omega
/-- only the places are changed -/
def X_pf (w w' : g_St) : Prop := (g_cnt w' = g_cnt w ∧ g_cn w' = g_cn w ∧ g_sn w' = g_sn w ∧ g_R w' = g_R w ∧ g_L w' = g_L w ∧ g_AR w' = g_AR w ∧ g_ln w' = g_ln w ∧ g_I w' = g_I w ∧ g_AL w' = g_AL w) ∧ ∀ a, a ≠ 148 → g_AI w' a = g_AI w a
theorem X_pf.re {w : g_St} : X_pf w w := ⟨⟨rfl, rfl, rfl, rfl, rfl, rfl, rfl, rfl, rfl⟩, fun _ _ => rfl⟩
theorem X_pf.sI {v w : g_St} (h : X_pf v w) (i : Nat) (x : Int32) : X_pf v (g_setAI w 148 i x) := ⟨h.1, fun a ha => by
  have : g_AI (g_setAI w 148 i x) a = g_AI w a := funext fun j => by rw [x_AI_AI, if_neg (fun q => ha q.1)]
  rw [this]; exact h.2 a ha⟩
section
variable {w0 : g_St} {n : Nat} {c : Nat → Nat → Int32}
theorem y_ins (h1 : g_R w0 132 4 = some 148) (h2 : g_ln w0 148 = 49) (hcmp : ∀ s x y, X_pf w0 s → x < n → y < n → f_Ru_compareRows (some 4) (Int32.ofNat x) (Int32.ofNat y) s = some (c x y, s)) (hn : n ≤ 48) (k9 : Option Nat → Option Nat → Int32 → g_St → Option (Unit × g_St)) (r1 : Option Nat) {r : Nat} (hr : r < n) {l : List Nat} (hl : l.length = r) (hm : ∀ i, i < r → l.getD i 0 < r) : ∀ (t f : Nat) (s : g_St), t ≤ r → t < f → X_pf w0 s → (∀ i, i < t → g_AI s 148 i = Int32.ofNat (l.getD i 0)) → (∀ i, t < i → i ≤ r → g_AI s 148 i = Int32.ofNat (l.getD (i - 1) 0)) → ∃ s', f_Ru_sort_19 k9 f (some 4) r1 (Int32.ofNat r) (Int32.ofNat t) s = k9 (some 4) r1 (Int32.ofNat (r + 1)) s' ∧ X_pf w0 s' ∧ ∀ i, i < r + 1 → g_AI s' 148 i = Int32.ofNat ((r_insl (fun s => decide (c r s < 0)) r l t).getD i 0) := by
  intro t
  induction t with
  | zero =>
    intro f s e1 e2 F a1 a2
    obtain ⟨f, rfl⟩ : ∃ m, f = m + 1 := ⟨f - 1, by omega⟩
    refine ⟨g_setAI s 148 0 (Int32.ofNat r), ?_, F.sI _ _, fun i hi => ?_⟩
    · rw [f_Ru_sort_19, if_pos (show Int32.ofNat 0 ≤ 0 from by decide), x_gR, F.1.2.2.2.1, h1, x_sI (by omega) (by rw [F.1.2.2.2.2.2.2.1]; omega), x_p1]
    · unfold r_insl
      rw [z_insg (by rw [show r_pos (fun s => decide (c r s < 0)) l 0 = 0 from rfl]; exact Nat.zero_le _), x_AI_AI, show r_pos (fun s => decide (c r s < 0)) l 0 = 0 from rfl, if_neg (show ¬ i < 0 from Nat.not_lt_zero _)]
      by_cases e : i = 0
      · rw [if_pos ⟨rfl, e⟩, if_pos e]
      · rw [if_neg (fun q => e q.2), if_neg e]
        exact a2 i (by omega) (by omega)
  | succ t ih =>
    intro f s e1 e2 F a1 a2
    obtain ⟨f, rfl⟩ : ∃ m, f = m + 1 := ⟨f - 1, by omega⟩
    have hlt := hm t (by omega)
    rw [f_Ru_sort_19, if_neg (show ¬ Int32.ofNat (t + 1) ≤ 0 from by rw [show (0 : Int32) = Int32.ofNat 0 from rfl, x_le (by omega) (by omega)]; omega), x_gR, F.1.2.2.2.1, h1, x_m1, x_aI (by omega) (by rw [F.1.2.2.2.2.2.2.1]; omega), a1 t (by omega), x_nn, hcmp s r (l.getD t 0) F hr (by omega), x_c]
    by_cases q : c r (l.getD t 0) < 0
    · rw [if_neg (show ¬ (0 : Int32) ≤ c r (l.getD t 0) from by rw [Int32.not_le]; exact q), x_gR, F.1.2.2.2.1, h1, x_gR, F.1.2.2.2.1, h1, x_aI (by omega) (by rw [F.1.2.2.2.2.2.2.1]; omega), a1 t (by omega), x_sI (by omega) (by rw [F.1.2.2.2.2.2.2.1]; omega), show Int32.ofNat (t + 1) + (-1) = Int32.ofNat t from (by rw [← x_m1 t]; exact (Int32.sub_eq_add_neg _ _).symm)]
      obtain ⟨s', g1, g2, g3⟩ := ih f (g_setAI s 148 (t + 1) (Int32.ofNat (l.getD t 0))) (by omega) (by omega) (F.sI _ _) (fun i hi => by rw [x_AI_AI, if_neg (fun z => by have := z.2; omega)]; exact a1 i (by omega)) (fun i hi hi2 => by
        rw [x_AI_AI]
        by_cases e : i = t + 1
        · rw [if_pos ⟨rfl, e⟩, e]; rfl
        · rw [if_neg (fun z => e z.2)]; exact a2 i (by omega) hi2)
      refine ⟨s', g1, g2, fun i hi => ?_⟩
      rw [g3 i hi]
      unfold r_insl
      rw [show r_pos (fun s => decide (c r s < 0)) l (t + 1) = r_pos (fun s => decide (c r s < 0)) l t from by
        rw [r_pos, if_pos (decide_eq_true q)]]
    · rw [if_pos (show (0 : Int32) ≤ c r (l.getD t 0) from by rw [← Int32.not_lt]; exact q), x_gR, F.1.2.2.2.1, h1, x_sI (by omega) (by rw [F.1.2.2.2.2.2.2.1]; omega), x_p1]
      refine ⟨_, rfl, F.sI _ _, fun i hi => ?_⟩
      have ep : r_pos (fun s => decide (c r s < 0)) l (t + 1) = t + 1 := by
        rw [r_pos, if_neg (fun z => q (of_decide_eq_true z))]
      unfold r_insl
      rw [ep, z_insg (by omega), x_AI_AI]
      by_cases e : i = t + 1
      · rw [if_pos ⟨rfl, e⟩, if_neg (by omega), if_pos e]
      · rw [if_neg (fun z => e z.2)]
        by_cases g : i < t + 1
        · rw [if_pos g]; exact a1 i g
        · rw [if_neg g, if_neg e]; exact a2 i (by omega) (by omega)
theorem y_sort (h4 : g_R w0 4 4 = some 93) (h5 : g_ln w0 93 = 5) (h6 : g_AR w0 93 4 = some 261) (h261 : g_I w0 261 261 = Int32.ofNat n) (h1 : g_R w0 132 4 = some 148) (h2 : g_ln w0 148 = 49) (hcmp : ∀ s x y, X_pf w0 s → x < n → y < n → f_Ru_compareRows (some 4) (Int32.ofNat x) (Int32.ofNat y) s = some (c x y, s)) (hn : n ≤ 48) : ∃ w', f_Ru_sort (some 4) w0 = some ((), w') ∧ X_pf w0 w' ∧ ∀ i, i < n → g_AI w' 148 i = Int32.ofNat ((r_srt (fun x y => decide (c x y < 0)) n).getD i 0) := by
  unfold f_Ru_sort
  rw [x_gR, h4, show (4 : Int32) = Int32.ofNat 4 from rfl, x_aR (by omega) (by omega), h6]
  refine z_cl n (fun f r s => f_Ru_sort_9 f (some 4) (some 261) (Int32.ofNat r) s) (fun s => some ((), s)) (fun r s => X_pf w0 s ∧ ∀ i, i < r → g_AI s 148 i = Int32.ofNat ((r_srt (fun x y => decide (c x y < 0)) r).getD i 0)) (fun w' => X_pf w0 w' ∧ ∀ i, i < n → g_AI w' 148 i = Int32.ofNat ((r_srt (fun x y => decide (c x y < 0)) n).getD i 0)) ?_ ?_ n 0 w0 200000 (by omega) (by omega) ⟨X_pf.re, fun i hi => by omega⟩
  · rintro f s ⟨F, h⟩
    refine ⟨s, ?_, F, h⟩
    show f_Ru_sort_9 (f + 1) (some 4) (some 261) (Int32.ofNat n) s = _
    rw [f_Ru_sort_9, x_gI, F.1.2.2.2.2.2.2.2.1, h261, if_pos (by rw [x_le (by omega) (by omega)]; exact Nat.le_refl _)]
  · rintro f r s hr ⟨F, h⟩
    obtain ⟨o1, o2⟩ := r_srt_ok (fun x y => decide (c x y < 0)) r
    obtain ⟨s', g1, g2, g3⟩ := y_ins h1 h2 hcmp hn (f_Ru_sort_9 f) (some 261) hr o1 o2 r 200000 s (Nat.le_refl _) (by omega) F h (fun i x1 x2 => by omega)
    refine ⟨s', ?_, g2, g3⟩
    show f_Ru_sort_9 (f + 1) (some 4) (some 261) (Int32.ofNat r) s = f_Ru_sort_9 f (some 4) (some 261) (Int32.ofNat (r + 1)) s'
    rw [f_Ru_sort_9, x_gI, F.1.2.2.2.2.2.2.2.1, h261, if_neg (by rw [x_le (by omega) (by omega)]; omega), g1]
end
