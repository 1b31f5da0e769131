/-! RUNNING (reference): cells are compared, the answer is sorted -/
theorem r_oor_in {a : Int64} (h : r_oor a = false) (h1 : a ≠ r_N) : ¬ a ≤ -2147483649 := by
  unfold r_oor at h
  rw [decide_eq_false h1] at h
  intro q
  have l : a < -2147483648 := by
    rw [Int64.le_iff_toInt_le, show (-2147483649 : Int64).toInt = -2147483649 from rfl] at q
    rw [Int64.lt_iff_toInt_lt, show (-2147483648 : Int64).toInt = -2147483648 from rfl]
    omega
  rw [decide_eq_true l] at h
  simp at h
theorem m_ck {x y : Int64} (hx : r_oor x = false) (hy : r_oor y = false) (w : g_St) : f_M_compare x y w = some (r_ck x y, w) := by
  unfold f_M_compare r_ck r_c64
  by_cases e : x = y
  · rw [if_pos e, e]
    have : ∀ z : Int64, z ≤ z := fun z => Int64.le_refl z
    rw [if_pos (this _), if_pos rfl]
  · rw [if_neg e]
    by_cases a : x = r_N
    · have b : y ≠ r_N := fun q => e (a.trans q.symm)
      rw [if_pos a, if_pos a, if_neg b, if_neg (r_oor_in hy b)]
    · rw [if_neg a, if_neg a]
      by_cases b : y = r_N
      · have ne := r_oor_in hx a
        have le : (-2147483649 : Int64) ≤ x := by
          rw [Int64.le_iff_toInt_le] at ne ⊢
          omega
        rw [if_pos b, if_pos b, if_pos le, if_neg (fun q => ne (by rw [q]; exact Int64.le_refl _))]
      · rw [if_neg b, if_neg b]
        by_cases c : y ≤ x
        · rw [if_pos c, if_pos c, if_neg e]
        · rw [if_neg c, if_neg c]
/-- only the places are changed -/
def M_pf (w w' : g_St) : Prop := (g_cnt w' = g_cnt w ∧ g_cn w' = g_cn w ∧ g_sn w' = g_sn w ∧ g_R w' = g_R w ∧ g_L w' = g_L w ∧ g_AR w' = g_AR w ∧ g_ln w' = g_ln w ∧ g_I w' = g_I w ∧ g_AL w' = g_AL w) ∧ ∀ a, a ≠ 4308 → g_AI w' a = g_AI w a
theorem M_pf.re {w : g_St} : M_pf w w := ⟨⟨rfl, rfl, rfl, rfl, rfl, rfl, rfl, rfl, rfl⟩, fun _ _ => rfl⟩
theorem M_pf.sI {v w : g_St} (h : M_pf v w) (i : Nat) (x : Int32) : M_pf v (g_setAI w 4308 i x) := ⟨h.1, fun a ha => by
  have : g_AI (g_setAI w 4308 i x) a = g_AI w a := funext fun j => by rw [x_AI_AI, if_neg (fun q => ha q.1)]
  rw [this]; exact h.2 a ha⟩
section
variable {w0 : g_St} {n : Nat} {c : Nat → Nat → Int32}
theorem m_ins (h1 : g_R w0 5697 1 = some 4308) (h2 : g_ln w0 4308 = 50) (hcmp : ∀ s x y, M_pf w0 s → x < n → y < n → f_M_compareAnswers (some 1) (Int32.ofNat x) (Int32.ofNat y) s = some (c x y, s)) (hn : n ≤ 49) (k2 : Option Nat → Int32 → g_St → Option (Unit × g_St)) {r : Nat} (hr : r < n) {l : List Nat} (hl : l.length = r) (hm : ∀ i, i < r → l.getD i 0 < r) : ∀ (t f : Nat) (s : g_St), t ≤ r → t < f → M_pf w0 s → (∀ i, i < t → g_AI s 4308 i = Int32.ofNat (l.getD i 0)) → (∀ i, t < i → i ≤ r → g_AI s 4308 i = Int32.ofNat (l.getD (i - 1) 0)) → ∃ s', f_M_sort_12 k2 f (some 1) (Int32.ofNat r) (Int32.ofNat t) s = k2 (some 1) (Int32.ofNat (r + 1)) s' ∧ M_pf w0 s' ∧ ∀ i, i < r + 1 → g_AI s' 4308 i = Int32.ofNat ((r_insl (fun s => decide (0 < c s r)) r l t).getD i 0) := by
  intro t
  induction t with
  | zero =>
    intro f s e1 e2 F a1 a2
    obtain ⟨f, rfl⟩ : ∃ m, f = m + 1 := ⟨f - 1, by omega⟩
    refine ⟨g_setAI s 4308 0 (Int32.ofNat r), ?_, F.sI _ _, fun i hi => ?_⟩
    · rw [f_M_sort_12, if_pos (show Int32.ofNat 0 ≤ 0 from by decide), x_gR, F.1.2.2.2.1, h1, x_sI (by omega) (by rw [F.1.2.2.2.2.2.2.1]; omega), x_p1]
    · unfold r_insl
      rw [z_insg (by rw [show r_pos (fun s => decide (0 < c s r)) l 0 = 0 from rfl]; exact Nat.zero_le _), x_AI_AI, show r_pos (fun s => decide (0 < c s r)) l 0 = 0 from rfl, if_neg (show ¬ i < 0 from Nat.not_lt_zero _)]
      by_cases e : i = 0
      · rw [if_pos ⟨rfl, e⟩, if_pos e]
      · rw [if_neg (fun q => e q.2), if_neg e]
        exact a2 i (by omega) (by omega)
  | succ t ih =>
    intro f s e1 e2 F a1 a2
    obtain ⟨f, rfl⟩ : ∃ m, f = m + 1 := ⟨f - 1, by omega⟩
    have hlt := hm t (by omega)
    rw [f_M_sort_12, if_neg (show ¬ Int32.ofNat (t + 1) ≤ 0 from by rw [show (0 : Int32) = Int32.ofNat 0 from rfl, x_le (by omega) (by omega)]; omega), x_gR, F.1.2.2.2.1, h1, x_m1, x_aI (by omega) (by rw [F.1.2.2.2.2.2.2.1]; omega), a1 t (by omega), x_nn, hcmp s (l.getD t 0) r F (by omega) hr, x_c]
    by_cases q : 0 < c (l.getD t 0) r
    · rw [if_neg (show ¬ c (l.getD t 0) r ≤ 0 from by rw [Int32.not_le]; exact q), x_gR, F.1.2.2.2.1, h1, x_gR, F.1.2.2.2.1, h1, x_aI (by omega) (by rw [F.1.2.2.2.2.2.2.1]; omega), a1 t (by omega), x_sI (by omega) (by rw [F.1.2.2.2.2.2.2.1]; omega), show Int32.ofNat (t + 1) + (-1) = Int32.ofNat t from (by rw [← x_m1 t]; exact (Int32.sub_eq_add_neg _ _).symm)]
      obtain ⟨s', g1, g2, g3⟩ := ih f (g_setAI s 4308 (t + 1) (Int32.ofNat (l.getD t 0))) (by omega) (by omega) (F.sI _ _) (fun i hi => by rw [x_AI_AI, if_neg (fun z => by have := z.2; omega)]; exact a1 i (by omega)) (fun i hi hi2 => by
        rw [x_AI_AI]
        by_cases e : i = t + 1
        · rw [if_pos ⟨rfl, e⟩, e]; rfl
        · rw [if_neg (fun z => e z.2)]; exact a2 i (by omega) hi2)
      refine ⟨s', g1, g2, fun i hi => ?_⟩
      rw [g3 i hi]
      unfold r_insl
      rw [show r_pos (fun s => decide (0 < c s r)) l (t + 1) = r_pos (fun s => decide (0 < c s r)) l t from by
        rw [r_pos, if_pos (decide_eq_true q)]]
    · rw [if_pos (show c (l.getD t 0) r ≤ 0 from by rw [← Int32.not_lt]; exact q), x_gR, F.1.2.2.2.1, h1, x_sI (by omega) (by rw [F.1.2.2.2.2.2.2.1]; omega), x_p1]
      refine ⟨_, rfl, F.sI _ _, fun i hi => ?_⟩
      have ep : r_pos (fun s => decide (0 < c s r)) l (t + 1) = t + 1 := by
        rw [r_pos, if_neg (fun z => q (of_decide_eq_true z))]
      unfold r_insl
      rw [ep, z_insg (by omega), x_AI_AI]
      by_cases e : i = t + 1
      · rw [if_pos ⟨rfl, e⟩, if_neg (by omega), if_pos e]
      · rw [if_neg (fun z => e z.2)]
        by_cases g : i < t + 1
        · rw [if_pos g]; exact a1 i g
        · rw [if_neg g, if_neg e]; exact a2 i (by omega) (by omega)
theorem m_sort (h5377 : g_I w0 5377 1 = Int32.ofNat n) (h1 : g_R w0 5697 1 = some 4308) (h2 : g_ln w0 4308 = 50) (hcmp : ∀ s x y, M_pf w0 s → x < n → y < n → f_M_compareAnswers (some 1) (Int32.ofNat x) (Int32.ofNat y) s = some (c x y, s)) (hn : n ≤ 49) : ∃ w', f_M_sort (some 1) w0 = some ((), w') ∧ M_pf w0 w' ∧ ∀ i, i < n → g_AI w' 4308 i = Int32.ofNat ((r_srt (fun x y => decide (0 < c y x)) n).getD i 0) := by
  unfold f_M_sort
  refine z_cl n (fun f r s => f_M_sort_2 f (some 1) (Int32.ofNat r) s) (fun s => some ((), s)) (fun r s => M_pf w0 s ∧ ∀ i, i < r → g_AI s 4308 i = Int32.ofNat ((r_srt (fun x y => decide (0 < c y x)) r).getD i 0)) (fun w' => M_pf w0 w' ∧ ∀ i, i < n → g_AI w' 4308 i = Int32.ofNat ((r_srt (fun x y => decide (0 < c y x)) n).getD i 0)) ?_ ?_ n 0 w0 200000 (by omega) (by omega) ⟨M_pf.re, fun i hi => by omega⟩
  · rintro f s ⟨F, h⟩
    refine ⟨s, ?_, F, h⟩
    show f_M_sort_2 (f + 1) (some 1) (Int32.ofNat n) s = _
    rw [f_M_sort_2, x_gI, F.1.2.2.2.2.2.2.2.1, h5377, if_pos (by rw [x_le (by omega) (by omega)]; exact Nat.le_refl _)]
  · rintro f r s hr ⟨F, h⟩
    obtain ⟨o1, o2⟩ := r_srt_ok (fun x y => decide (0 < c y x)) r
    obtain ⟨s', g1, g2, g3⟩ := m_ins h1 h2 hcmp hn (f_M_sort_2 f) hr o1 o2 r 200000 s (Nat.le_refl _) (by omega) F h (fun i x1 x2 => by omega)
    refine ⟨s', ?_, g2, g3⟩
    show f_M_sort_2 (f + 1) (some 1) (Int32.ofNat r) s = f_M_sort_2 f (some 1) (Int32.ofNat (r + 1)) s'
    rw [f_M_sort_2, x_gI, F.1.2.2.2.2.2.2.2.1, h5377, if_neg (by rw [x_le (by omega) (by omega)]; omega), g1]
end
