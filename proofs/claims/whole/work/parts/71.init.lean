/-! THE START OF THE LAW: the two objects are made -/
/-- the fields of the reference that hold arrays: key, array, length -/
def m_tab : List (Nat × Nat × Nat) := [(129, 916, 5), (193, 980, 5), (257, 597, 240), (385, 1044, 400), (449, 661, 26), (641, 1108, 402), (705, 1172, 402), (769, 725, 402), (1217, 1236, 4), (1281, 1300, 4), (1345, 1364, 12), (1409, 1428, 4), (1473, 1492, 4), (1537, 1556, 4), (1601, 1620, 4), (1665, 1684, 4), (1729, 1748, 4), (1793, 1812, 4), (1857, 31, 4), (1921, 95, 4), (1985, 1876, 5), (2049, 1940, 4), (2241, 2004, 17), (2305, 2068, 17), (2369, 2132, 17), (2433, 2196, 17), (2497, 2260, 17), (2561, 2324, 17), (2625, 2388, 17), (2689, 2452, 102), (2753, 159, 17), (2881, 2516, 68), (2945, 2580, 68), (3137, 2644, 210), (3201, 2708, 210), (3265, 2772, 210), (3329, 2836, 210), (3393, 2900, 210), (3457, 2964, 210), (3521, 3028, 210), (3649, 3092, 100), (3713, 3156, 100), (3777, 3220, 100), (3905, 3284, 120), (3969, 3348, 120), (4033, 3412, 120), (4097, 3476, 120), (4161, 3540, 120), (4225, 3604, 120), (4289, 3668, 360), (4481, 3732, 2), (4545, 3796, 2), (4609, 3860, 2), (4673, 3924, 4), (4737, 3988, 4), (4801, 4052, 4), (4993, 4116, 50), (5057, 789, 200), (5121, 4180, 50), (5185, 853, 1600), (5249, 4244, 50), (5313, 917, 1600), (5505, 981, 200), (5569, 1045, 100), (5697, 4308, 50), (5761, 4372, 4), (5825, 4436, 128), (5953, 4500, 4), (6081, 4564, 192), (6145, 4628, 3), (6209, 4692, 3), (6273, 4756, 4), (6401, 1109, 200), (6465, 1173, 200)]
/-- those of the engine, of what is made once: key, object, array, length -/
def e_tab : List (Nat × Nat × Nat × Nat) := [(0, 0, 29, 5), (2, 2, 22, 400), (130, 2, 23, 401), (194, 2, 20, 401), (258, 2, 21, 401), (4, 4, 93, 5), (68, 4, 84, 124), (132, 4, 148, 49), (196, 4, 85, 98), (260, 4, 149, 4), (324, 4, 213, 192), (388, 4, 212, 192), (69, 5, 277, 196), (133, 5, 276, 49), (197, 5, 340, 49), (69, 69, 341, 196), (133, 69, 404, 49), (197, 69, 468, 49), (69, 133, 405, 196), (133, 133, 532, 49), (197, 133, 596, 49), (69, 197, 469, 196), (133, 197, 660, 49), (197, 197, 724, 49), (69, 261, 533, 196), (133, 261, 788, 49), (197, 261, 852, 49)]
def m_kw : List (Nat × Int64) := [(1, 459818), (2, 5137506958262), (3, 46), (4, 275526380), (5, 131638), (6, 12384743), (7, 1111), (8, 10631), (9, 84690676), (10, 262), (11, 291207), (12, 11442803), (13, 1065), (14, 275319332), (15, 2236391), (16, 1035801656), (17, 3379448), (18, 79), (19, 14006), (20, 2088914), (21, 1905275), (22, 14431), (23, 9734), (24, 9528), (25, 8328978)]
def z_init : Option ((Option Nat × Option Nat × Option Nat) × g_St) :=
  g_new g_u0 0 8 fun p1 s2 =>
  g_c (g_nn p1 (f_E_init p1 s2)) fun _ s4 =>
  g_new s4 1 102 fun p5 s6 =>
  g_c (g_nn p5 (f_M_init p5 s6)) fun _ s8 =>
  g_newA s8 21 1 fun p9 s10 => some ((p1, p5, p9), s10)
theorem z_new_c {α β : Type} (u : g_St) (t n : Nat) (F : Option Nat → g_St → Option (α × g_St)) (K : α → g_St → Option β) : g_c (g_new u t n F) K = g_new u t n fun p s => g_c (F p s) K := by
  unfold g_new
  split
  · rfl
  · rfl
theorem z_newA_c {α β : Type} (u : g_St) (t : Nat) (n : Int32) (F : Option Nat → g_St → Option (α × g_St)) (K : α → g_St → Option β) : g_c (g_newA u t n F) K = g_newA u t n fun p s => g_c (F p s) K := by
  unfold g_newA
  split
  · rfl
  · rfl
theorem z_c_c {α β γ : Type} (X : Option (α × g_St)) (F : α → g_St → Option (β × g_St)) (K : β → g_St → Option γ) : g_c (g_c X F) K = g_c X fun v s => g_c (F v s) K := by
  cases X with
  | none => rfl
  | some q => rfl
theorem z_init_K {β : Type} (K : Option Nat → Option Nat → Option Nat → g_St → Option β) : (g_new g_u0 0 8 fun p1 s2 => g_c (g_nn p1 (f_E_init p1 s2)) fun _ s4 => g_new s4 1 102 fun p5 s6 => g_c (g_nn p5 (f_M_init p5 s6)) fun _ s8 => g_newA s8 21 1 fun p9 s10 => K p1 p5 p9 s10) = g_c z_init fun p u => K p.1 p.2.1 p.2.2 u := by
  unfold z_init
  rw [z_new_c]
  congr 1
  funext p1 s2
  rw [z_c_c]
  congr 1
  funext _ s4
  rw [z_new_c]
  congr 1
  funext p5 s6
  rw [z_c_c]
  congr 1
  funext _ s8
  rw [z_newA_c]
  congr 1
theorem z_init_law (sc : Nat × (Nat → Int32)) (r0 : Option Nat) : f_Lw_law sc r0 g_u0 = g_c z_init fun p u => f_Lw_law_23 sc 200000 r0 p.1 p.2.1 p.2.2 0 u := by
  have h := z_init_K (fun p q r u => f_Lw_law_23 sc 200000 r0 p q r 0 u)
  unfold f_Lw_law
  exact h
def m_Fix (u : g_St) : Prop := ∀ q ∈ m_tab, g_R u q.1 1 = some q.2.1 ∧ g_ln u q.2.1 = q.2.2
def e_Fix (u : g_St) : Prop := (∀ q ∈ e_tab, g_R u q.1 q.2.1 = some q.2.2.1 ∧ g_ln u q.2.2.1 = q.2.2.2) ∧ g_R u 128 0 = some 2 ∧ g_R u 192 0 = some 3 ∧ g_R u 256 0 = some 4 ∧ (∀ i, i < 5 → g_AR u 93 i = some (64 * i + 5)) ∧ g_ln u 1237 = 1
/-- of the start itself -/
def z_First (u : g_St) : Prop := m_Fix u ∧ e_Fix u ∧ g_R u 320 0 = none ∧ (∀ k ∈ [64, 384, 448], g_I u k 0 = 0) ∧ g_I u 66 2 = 0 ∧ (∀ k ∈ [1, 65, 321, 961, 1025, 1089], g_I u k 1 = 0) ∧ (∀ q ∈ m_kw, g_AL u 661 q.1 = q.2) ∧ g_AL u 661 0 = 0 ∧
  (∀ q ∈ [(0, 1), (1, 1), (2, 1), (3, 1), (4, 1), (5, 5), (6, 0), (7, 0), (8, 0), (9, 0), (10, 0), (11, 0), (12, 0), (20, 75), (21, 20), (22, 1), (23, 1), (24, 0), (25, 0), (26, 0), (27, 0), (28, 0), (29, 2), (30, 1), (31, 3)], g_cnt u q.1 = q.2) ∧ g_cn u ≤ 200 ∧ g_sn u ≤ 20000
set_option maxRecDepth 100000 in
theorem z_first : z_init.any (fun o => decide (o.1 = (some 0, some 1, some 1237)) && (m_tab.all (fun q => decide (g_R o.2 q.1 1 = some q.2.1 ∧ g_ln o.2 q.2.1 = q.2.2)) && (e_tab.all (fun q => decide (g_R o.2 q.1 q.2.1 = some q.2.2.1 ∧ g_ln o.2 q.2.2.1 = q.2.2.2)) && (decide (g_R o.2 128 0 = some 2 ∧ g_R o.2 192 0 = some 3 ∧ g_R o.2 256 0 = some 4 ∧ g_ln o.2 1237 = 1 ∧ g_R o.2 320 0 = none) && ((List.range 5).all (fun i => decide (g_AR o.2 93 i = some (64 * i + 5))) && ([64, 384, 448].all (fun k => decide (g_I o.2 k 0 = 0)) && (decide (g_I o.2 66 2 = 0) && ([1, 65, 321, 961, 1025, 1089].all (fun k => decide (g_I o.2 k 1 = 0)) && (m_kw.all (fun q => decide (g_AL o.2 661 q.1 = q.2)) && (decide (g_AL o.2 661 0 = 0) && ([(0, 1), (1, 1), (2, 1), (3, 1), (4, 1), (5, 5), (6, 0), (7, 0), (8, 0), (9, 0), (10, 0), (11, 0), (12, 0), (20, 75), (21, 20), (22, 1), (23, 1), (24, 0), (25, 0), (26, 0), (27, 0), (28, 0), (29, 2), (30, 1), (31, 3)].all (fun q => decide (g_cnt o.2 q.1 = q.2)) && decide (g_cn o.2 ≤ 200 ∧ g_sn o.2 ≤ 20000)))))))))))) = true := by decide +kernel
theorem z_begin : ∃ u, (∀ sc r0, f_Lw_law sc r0 g_u0 = f_Lw_law_23 sc 200000 r0 (some 0) (some 1) (some 1237) 0 u) ∧ z_First u := by
  have h := z_first
  cases e : z_init with
  | none => rw [e] at h; exact absurd h (by decide)
  | some o =>
    rw [e] at h
    simp only [Option.any_some, Bool.and_eq_true, decide_eq_true_eq, List.all_eq_true, List.mem_range] at h
    obtain ⟨h1, h2, h3, h4, h5, h6, h7, h8, h9, h10, h11, h12⟩ := h
    refine ⟨o.2, fun sc r0 => ?_, h2, ⟨h3, h4.1, h4.2.1, h4.2.2.1, h5, h4.2.2.2.1⟩, h4.2.2.2.2, h6, h7, h8, h9, h10, h11, h12.1, h12.2⟩
    rw [z_init_law, e]
    show f_Lw_law_23 sc 200000 r0 o.1.1 o.1.2.1 o.1.2.2 0 o.2 = _
    rw [h1]
