/-! FRAMES: what each function of the reference may write -/
theorem m_k129 : (129, 916, 5) ∈ m_tab := List.mem_of_getElem? (i := 0) rfl
theorem m_k193 : (193, 980, 5) ∈ m_tab := List.mem_of_getElem? (i := 1) rfl
theorem m_k257 : (257, 597, 240) ∈ m_tab := List.mem_of_getElem? (i := 2) rfl
theorem m_k385 : (385, 1044, 400) ∈ m_tab := List.mem_of_getElem? (i := 3) rfl
theorem m_k449 : (449, 661, 26) ∈ m_tab := List.mem_of_getElem? (i := 4) rfl
theorem m_k641 : (641, 1108, 402) ∈ m_tab := List.mem_of_getElem? (i := 5) rfl
theorem m_k705 : (705, 1172, 402) ∈ m_tab := List.mem_of_getElem? (i := 6) rfl
theorem m_k769 : (769, 725, 402) ∈ m_tab := List.mem_of_getElem? (i := 7) rfl
theorem m_k1217 : (1217, 1236, 4) ∈ m_tab := List.mem_of_getElem? (i := 8) rfl
theorem m_k1281 : (1281, 1300, 4) ∈ m_tab := List.mem_of_getElem? (i := 9) rfl
theorem m_k1345 : (1345, 1364, 12) ∈ m_tab := List.mem_of_getElem? (i := 10) rfl
theorem m_k1409 : (1409, 1428, 4) ∈ m_tab := List.mem_of_getElem? (i := 11) rfl
theorem m_k1473 : (1473, 1492, 4) ∈ m_tab := List.mem_of_getElem? (i := 12) rfl
theorem m_k1537 : (1537, 1556, 4) ∈ m_tab := List.mem_of_getElem? (i := 13) rfl
theorem m_k1601 : (1601, 1620, 4) ∈ m_tab := List.mem_of_getElem? (i := 14) rfl
theorem m_k1665 : (1665, 1684, 4) ∈ m_tab := List.mem_of_getElem? (i := 15) rfl
theorem m_k1729 : (1729, 1748, 4) ∈ m_tab := List.mem_of_getElem? (i := 16) rfl
theorem m_k1793 : (1793, 1812, 4) ∈ m_tab := List.mem_of_getElem? (i := 17) rfl
theorem m_k1857 : (1857, 31, 4) ∈ m_tab := List.mem_of_getElem? (i := 18) rfl
theorem m_k1921 : (1921, 95, 4) ∈ m_tab := List.mem_of_getElem? (i := 19) rfl
theorem m_k1985 : (1985, 1876, 5) ∈ m_tab := List.mem_of_getElem? (i := 20) rfl
theorem m_k2049 : (2049, 1940, 4) ∈ m_tab := List.mem_of_getElem? (i := 21) rfl
theorem m_k2241 : (2241, 2004, 17) ∈ m_tab := List.mem_of_getElem? (i := 22) rfl
theorem m_k2305 : (2305, 2068, 17) ∈ m_tab := List.mem_of_getElem? (i := 23) rfl
theorem m_k2369 : (2369, 2132, 17) ∈ m_tab := List.mem_of_getElem? (i := 24) rfl
theorem m_k2433 : (2433, 2196, 17) ∈ m_tab := List.mem_of_getElem? (i := 25) rfl
theorem m_k2497 : (2497, 2260, 17) ∈ m_tab := List.mem_of_getElem? (i := 26) rfl
theorem m_k2561 : (2561, 2324, 17) ∈ m_tab := List.mem_of_getElem? (i := 27) rfl
theorem m_k2625 : (2625, 2388, 17) ∈ m_tab := List.mem_of_getElem? (i := 28) rfl
theorem m_k2689 : (2689, 2452, 102) ∈ m_tab := List.mem_of_getElem? (i := 29) rfl
theorem m_k2753 : (2753, 159, 17) ∈ m_tab := List.mem_of_getElem? (i := 30) rfl
theorem m_k2881 : (2881, 2516, 68) ∈ m_tab := List.mem_of_getElem? (i := 31) rfl
theorem m_k2945 : (2945, 2580, 68) ∈ m_tab := List.mem_of_getElem? (i := 32) rfl
theorem m_k3137 : (3137, 2644, 210) ∈ m_tab := List.mem_of_getElem? (i := 33) rfl
theorem m_k3201 : (3201, 2708, 210) ∈ m_tab := List.mem_of_getElem? (i := 34) rfl
theorem m_k3265 : (3265, 2772, 210) ∈ m_tab := List.mem_of_getElem? (i := 35) rfl
theorem m_k3329 : (3329, 2836, 210) ∈ m_tab := List.mem_of_getElem? (i := 36) rfl
theorem m_k3393 : (3393, 2900, 210) ∈ m_tab := List.mem_of_getElem? (i := 37) rfl
theorem m_k3457 : (3457, 2964, 210) ∈ m_tab := List.mem_of_getElem? (i := 38) rfl
theorem m_k3521 : (3521, 3028, 210) ∈ m_tab := List.mem_of_getElem? (i := 39) rfl
theorem m_k3649 : (3649, 3092, 100) ∈ m_tab := List.mem_of_getElem? (i := 40) rfl
theorem m_k3713 : (3713, 3156, 100) ∈ m_tab := List.mem_of_getElem? (i := 41) rfl
theorem m_k3777 : (3777, 3220, 100) ∈ m_tab := List.mem_of_getElem? (i := 42) rfl
theorem m_k3905 : (3905, 3284, 120) ∈ m_tab := List.mem_of_getElem? (i := 43) rfl
theorem m_k3969 : (3969, 3348, 120) ∈ m_tab := List.mem_of_getElem? (i := 44) rfl
theorem m_k4033 : (4033, 3412, 120) ∈ m_tab := List.mem_of_getElem? (i := 45) rfl
theorem m_k4097 : (4097, 3476, 120) ∈ m_tab := List.mem_of_getElem? (i := 46) rfl
theorem m_k4161 : (4161, 3540, 120) ∈ m_tab := List.mem_of_getElem? (i := 47) rfl
theorem m_k4225 : (4225, 3604, 120) ∈ m_tab := List.mem_of_getElem? (i := 48) rfl
theorem m_k4289 : (4289, 3668, 360) ∈ m_tab := List.mem_of_getElem? (i := 49) rfl
theorem m_k4481 : (4481, 3732, 2) ∈ m_tab := List.mem_of_getElem? (i := 50) rfl
theorem m_k4545 : (4545, 3796, 2) ∈ m_tab := List.mem_of_getElem? (i := 51) rfl
theorem m_k4609 : (4609, 3860, 2) ∈ m_tab := List.mem_of_getElem? (i := 52) rfl
theorem m_k4673 : (4673, 3924, 4) ∈ m_tab := List.mem_of_getElem? (i := 53) rfl
theorem m_k4737 : (4737, 3988, 4) ∈ m_tab := List.mem_of_getElem? (i := 54) rfl
theorem m_k4801 : (4801, 4052, 4) ∈ m_tab := List.mem_of_getElem? (i := 55) rfl
theorem m_k4993 : (4993, 4116, 50) ∈ m_tab := List.mem_of_getElem? (i := 56) rfl
theorem m_k5057 : (5057, 789, 200) ∈ m_tab := List.mem_of_getElem? (i := 57) rfl
theorem m_k5121 : (5121, 4180, 50) ∈ m_tab := List.mem_of_getElem? (i := 58) rfl
theorem m_k5185 : (5185, 853, 1600) ∈ m_tab := List.mem_of_getElem? (i := 59) rfl
theorem m_k5249 : (5249, 4244, 50) ∈ m_tab := List.mem_of_getElem? (i := 60) rfl
theorem m_k5313 : (5313, 917, 1600) ∈ m_tab := List.mem_of_getElem? (i := 61) rfl
theorem m_k5505 : (5505, 981, 200) ∈ m_tab := List.mem_of_getElem? (i := 62) rfl
theorem m_k5569 : (5569, 1045, 100) ∈ m_tab := List.mem_of_getElem? (i := 63) rfl
theorem m_k5697 : (5697, 4308, 50) ∈ m_tab := List.mem_of_getElem? (i := 64) rfl
theorem m_k5761 : (5761, 4372, 4) ∈ m_tab := List.mem_of_getElem? (i := 65) rfl
theorem m_k5825 : (5825, 4436, 128) ∈ m_tab := List.mem_of_getElem? (i := 66) rfl
theorem m_k5953 : (5953, 4500, 4) ∈ m_tab := List.mem_of_getElem? (i := 67) rfl
theorem m_k6081 : (6081, 4564, 192) ∈ m_tab := List.mem_of_getElem? (i := 68) rfl
theorem m_k6145 : (6145, 4628, 3) ∈ m_tab := List.mem_of_getElem? (i := 69) rfl
theorem m_k6209 : (6209, 4692, 3) ∈ m_tab := List.mem_of_getElem? (i := 70) rfl
theorem m_k6273 : (6273, 4756, 4) ∈ m_tab := List.mem_of_getElem? (i := 71) rfl
theorem m_k6401 : (6401, 1109, 200) ∈ m_tab := List.mem_of_getElem? (i := 72) rfl
theorem m_k6465 : (6465, 1173, 200) ∈ m_tab := List.mem_of_getElem? (i := 73) rfl
/-- only these ints of the reference, and these arrays, are written -/
def z_W (wI wA : List Nat) (u u' : g_St) : Prop := g_cnt u' = g_cnt u ∧ g_cn u' = g_cn u ∧ g_sn u' = g_sn u ∧ g_L u' = g_L u ∧ g_R u' = g_R u ∧ g_AR u' = g_AR u ∧ g_ln u' = g_ln u ∧ (∀ k a, ¬ (a = 1 ∧ k ∈ wI) → g_I u' k a = g_I u k a) ∧ ∀ a, a ∉ wA → g_AI u' a = g_AI u a ∧ g_AL u' a = g_AL u a
theorem z_W.re {wI wA : List Nat} {u : g_St} : z_W wI wA u u := ⟨Eq.refl _, Eq.refl _, Eq.refl _, Eq.refl _, Eq.refl _, Eq.refl _, Eq.refl _, fun _ _ _ => Eq.refl _, fun _ _ => ⟨Eq.refl _, Eq.refl _⟩⟩
theorem z_W.trans {wI wA : List Nat} {u v w : g_St} (h : z_W wI wA u v) (g : z_W wI wA v w) : z_W wI wA u w :=
  ⟨g.1.trans h.1, g.2.1.trans h.2.1, g.2.2.1.trans h.2.2.1, g.2.2.2.1.trans h.2.2.2.1, g.2.2.2.2.1.trans h.2.2.2.2.1, g.2.2.2.2.2.1.trans h.2.2.2.2.2.1, g.2.2.2.2.2.2.1.trans h.2.2.2.2.2.2.1, fun k a q => (g.2.2.2.2.2.2.2.1 k a q).trans (h.2.2.2.2.2.2.2.1 k a q), fun a q => ⟨((g.2.2.2.2.2.2.2.2 a q).1).trans (h.2.2.2.2.2.2.2.2 a q).1, ((g.2.2.2.2.2.2.2.2 a q).2).trans (h.2.2.2.2.2.2.2.2 a q).2⟩⟩
theorem z_W.mono {wI wA vI vA : List Nat} {u v : g_St} (h : z_W wI wA u v) (a : ∀ x ∈ wI, x ∈ vI) (b : ∀ x ∈ wA, x ∈ vA) : z_W vI vA u v :=
  ⟨h.1, h.2.1, h.2.2.1, h.2.2.2.1, h.2.2.2.2.1, h.2.2.2.2.2.1, h.2.2.2.2.2.2.1, fun k c q => h.2.2.2.2.2.2.2.1 k c (fun w => q ⟨w.1, a k w.2⟩), fun c q => h.2.2.2.2.2.2.2.2 c (fun w => q (b c w))⟩
theorem z_W.fx {wI wA : List Nat} {u v : g_St} (h : z_W wI wA u v) (m : m_Fix u) : m_Fix v := fun q hq => by rw [h.2.2.2.2.1, h.2.2.2.2.2.2.1]; exact m q hq
theorem z_W.pI {wI wA : List Nat} {u v : g_St} (h : z_W wI wA u v) {k : Nat} (hk : k ∈ wI) (x : Int32) : z_W wI wA u (g_setI v k 1 x) :=
  ⟨h.1, h.2.1, h.2.2.1, h.2.2.2.1, h.2.2.2.2.1, h.2.2.2.2.2.1, h.2.2.2.2.2.2.1, fun k' a q => by rw [x_I_I, if_neg (fun w => q ⟨w.2, by rw [w.1]; exact hk⟩)]; exact h.2.2.2.2.2.2.2.1 k' a q, h.2.2.2.2.2.2.2.2⟩
theorem z_W.sI {wI wA : List Nat} {u v : g_St} (h : z_W wI wA u v) {a : Nat} (ha : a ∈ wA) (j : Nat) (x : Int32) : z_W wI wA u (g_setAI v a j x) :=
  ⟨h.1, h.2.1, h.2.2.1, h.2.2.2.1, h.2.2.2.2.1, h.2.2.2.2.2.1, h.2.2.2.2.2.2.1, h.2.2.2.2.2.2.2.1, fun c q => ⟨by
    funext i
    rw [x_AI_AI, if_neg (fun w => q (by rw [w.1]; exact ha)), (h.2.2.2.2.2.2.2.2 c q).1], (h.2.2.2.2.2.2.2.2 c q).2⟩⟩
theorem z_W.sL {wI wA : List Nat} {u v : g_St} (h : z_W wI wA u v) {a : Nat} (ha : a ∈ wA) (j : Nat) (x : Int64) : z_W wI wA u (g_setAL v a j x) :=
  ⟨h.1, h.2.1, h.2.2.1, h.2.2.2.1, h.2.2.2.2.1, h.2.2.2.2.2.1, h.2.2.2.2.2.2.1, h.2.2.2.2.2.2.2.1, fun c q => ⟨(h.2.2.2.2.2.2.2.2 c q).1, by
    funext i
    rw [x_AL_AL, if_neg (fun w => q (by rw [w.1]; exact ha)), (h.2.2.2.2.2.2.2.2 c q).2]⟩⟩
/-- what writes nothing -/
theorem z_W.eq {u v : g_St} (h : z_W [] [] u v) : v = u := by
  obtain ⟨h1, h2, h3, h4, h5, h6, h7, h8, h9⟩ := h
  have e1 : g_I v = g_I u := funext fun k => funext fun a => h8 k a (fun w => by cases w.2)
  have e2 : g_AI v = g_AI u := funext fun a => (h9 a (fun w => by cases w)).1
  have e3 : g_AL v = g_AL u := funext fun a => (h9 a (fun w => by cases w)).2
  exact Prod.ext h1 (Prod.ext (Prod.ext h2 h3) (Prod.ext e1 (Prod.ext h4 (Prod.ext h5 (Prod.ext e2 (Prod.ext e3 (Prod.ext h6 h7)))))))
theorem fr_gI {α : Type} {s : g_St} {k : Nat} {r : Option Nat} {F : Int32 → Option α} {o : α} {C : Prop} (h : g_gI s k r F = some o) (kk : ∀ x, F x = some o → C) : C := by
  cases r with
  | none => cases h
  | some a => exact kk _ h
theorem fr_gR {α : Type} {s : g_St} {k b : Nat} {F : Option Nat → Option α} {o : α} {C : Prop} (e : g_R s k 1 = some b) (h : g_gR s k (some 1) F = some o) (kk : F (some b) = some o → C) : C := kk (by rw [x_gR, e] at h; exact h)
theorem fr_aI {α : Type} {s : g_St} {r : Option Nat} {i : Int32} {F : Int32 → Option α} {o : α} {C : Prop} (h : g_aI s r i F = some o) (kk : ∀ x, F x = some o → C) : C := by
  cases r with
  | none => cases h
  | some a =>
    unfold g_aI at h
    simp only [] at h
    split at h
    · cases h
    · exact kk _ h
theorem fr_aL {α : Type} {s : g_St} {r : Option Nat} {i : Int32} {F : Int64 → Option α} {o : α} {C : Prop} (h : g_aL s r i F = some o) (kk : ∀ x, F x = some o → C) : C := by
  cases r with
  | none => cases h
  | some a =>
    unfold g_aL at h
    simp only [] at h
    split at h
    · cases h
    · exact kk _ h
theorem fr_sI {α : Type} {s : g_St} {a : Nat} {i v : Int32} {F : g_St → Option α} {o : α} {C : Prop} (h : g_sI s (some a) i v F = some o) (kk : ∀ j, F (g_setAI s a j v) = some o → C) : C := by
  unfold g_sI at h
  simp only [] at h
  split at h
  · cases h
  · exact kk _ h
theorem fr_sZ {α : Type} {s : g_St} {a : Nat} {i v : Int32} {F : g_St → Option α} {o : α} {C : Prop} (h : g_sZ s (some a) i v F = some o) (kk : ∀ j, F (g_setAI s a j v) = some o → C) : C := by
  unfold g_sZ at h
  simp only [] at h
  split at h
  · cases h
  · exact kk _ h
theorem fr_sL {α : Type} {s : g_St} {a : Nat} {i : Int32} {v : Int64} {F : g_St → Option α} {o : α} {C : Prop} (h : g_sL s (some a) i v F = some o) (kk : ∀ j, F (g_setAL s a j v) = some o → C) : C := by
  unfold g_sL at h
  simp only [] at h
  split at h
  · cases h
  · exact kk _ h
theorem fr_pI {α : Type} {s : g_St} {k : Nat} {v : Int32} {F : g_St → Option α} {o : α} {C : Prop} (h : g_pI s k (some 1) v F = some o) (kk : F (g_setI s k 1 v) = some o → C) : C := kk h
theorem fr_pZ {α : Type} {s : g_St} {k : Nat} {v : Int32} {F : g_St → Option α} {o : α} {C : Prop} (h : g_pZ s k (some 1) v F = some o) (kk : F (g_setI s k 1 v) = some o → C) : C := by
  unfold g_pZ at h
  simp only [] at h
  split at h
  · exact kk h
  · cases h
theorem fr_c {α β : Type} {X : Option (α × g_St)} {F : α → g_St → Option β} {o : β} {C : Prop} (h : g_c X F = some o) (kk : ∀ v s, X = some (v, s) → F v s = some o → C) : C := by
  cases X with
  | none => cases h
  | some q => exact kk q.1 q.2 rfl h
theorem er_nn {α : Type} {r : Option Nat} {X : Option α} {o : α} (h : g_nn r X = some o) : X = some o := by
  cases r with
  | none => cases h
  | some a => exact h
theorem fr_if {α : Type} {c : Prop} {d : Decidable c} {A B : Option α} {o : α} {C : Prop} (h : (@ite _ c d A B) = some o) (k1 : A = some o → C) (k2 : B = some o → C) : C := by
  split at h
  · exact k1 h
  · exact k2 h
theorem fr_some {α : Type} {v : α} {s u : g_St} {o : α × g_St} {wI wA : List Nat} (h : some (v, s) = some o) (hs : z_W wI wA u s) : z_W wI wA u o.2 := by
  cases h
  exact hs
theorem fr_rZ {α : Type} {x : Int32} {F : Option α} {o : α} {C : Prop} (h : g_rZ x F = some o) (kk : F = some o → C) : C := by
  unfold g_rZ at h
  split at h
  · exact kk h
  · cases h
theorem fr_nz {α : Type} {x : Int32} {F : Option α} {o : α} {C : Prop} (h : g_nz x F = some o) (kk : F = some o → C) : C := by
  unfold g_nz at h
  split at h
  · first
    | exact kk h
    | cases h
  · first
    | exact kk h
    | cases h
