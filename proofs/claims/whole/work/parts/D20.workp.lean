/-! RUNNING (engine): a selection is worked for a part -/
def X_ra (w : g_St) (al mr : Nat) : Prop := (g_R w 260 4 = some 149 ∧ g_ln w 149 = 4 ∧ g_R w 324 4 = some 213 ∧ g_ln w 213 = 192 ∧ g_R w 388 4 = some 212 ∧ g_ln w 212 = 192) ∧ (g_R w 196 4 = some 85 ∧ g_ln w 85 = 98 ∧ g_R w 68 4 = some 84 ∧ g_ln w 84 = 124 ∧ g_R w 132 4 = some 148 ∧ g_ln w 148 = 49) ∧ g_I w 644 4 = Int32.ofNat al ∧ al ≤ 48 ∧ g_I w 580 4 = Int32.ofNat mr ∧ mr ≤ 30 ∧ g_cn w + 8 ≤ 601024 ∧ g_sn w + 512 ≤ 7293034
theorem X_ra.rf {v w : g_St} {al mr : Nat} (h : X_ra v al mr) (f : X_rf v w) : X_ra w al mr := by
  have R : ∀ k, k ≠ 521 → ¬ (k = 772 ∨ k = 836 ∨ k = 900) → g_R w k 4 = g_R v k 4 := fun k h1 h2 => f.2.1 k 4 (fun q => h1 q.1) (fun q => h2 q.2)
  have I : ∀ k, ¬ (k = 585 ∨ k = 649 ∨ k = 713 ∨ k = 777) → ¬ (k = 708 ∨ k = 1092 ∨ k = 964 ∨ k = 1028) → g_I w k 4 = g_I v k 4 := fun k h1 h2 => f.2.2.1 k 4 h1 (fun q => h2 q.2) (fun q => by have := q.1; omega)
  unfold X_ra at *
  rw [R 260 (by decide) (by decide), R 324 (by decide) (by decide), R 388 (by decide) (by decide), R 196 (by decide) (by decide), R 68 (by decide) (by decide), R 132 (by decide) (by decide), I 644 (by decide) (by decide), I 580 (by decide) (by decide), f.1.2.2.2.2.2, f.1.2.1, f.1.2.2.1]
  exact h
/-- what a selection's start changes -/
def X_ws (w w' : g_St) : Prop := X_rf w w' ∧ (∀ k a, ¬ (a = 4 ∧ (k = 1092 ∨ k = 964 ∨ k = 1028)) → g_I w' k a = g_I w k a) ∧ (∀ a, a ≠ 213 → g_AL w' a = g_AL w a) ∧ ∀ a, a ≠ 212 → g_AI w' a = g_AI w a
theorem X_dy.ws {v w : g_St} {np : Nat} {Xs : Nat → r_Pt} {pr : Nat → List r_Row} {st bf : Nat → Nat} {tot : Nat} (h : X_dy v np Xs pr st bf tot) (hw : ∀ q, q < np → (Xs q).1 ≤ 3) (f : X_ws v w) : X_dy w np Xs pr st bf tot := by
  obtain ⟨h1, h2, h3⟩ := h
  refine ⟨fun q hq => ?_, by rw [f.2.1 _ _ (by decide)]; exact h2, h3⟩
  obtain ⟨a1, a2, a3, a4⟩ := h1 q hq
  exact ⟨a1.eq (hw q hq) (f.2.1 _ _ (fun q => by have := q.1; omega)) (f.2.2.1 _ (by omega)) (f.2.2.2 _ (by omega)) (f.2.2.2 _ (by omega)), by rw [f.2.1 _ _ (fun q => by have := q.1; omega)]; exact a2, by rw [f.2.1 _ _ (fun q => by have := q.1; omega)]; exact a3, a4⟩
section
variable {w : g_St} {Q np nt : Nat} {P cp tw ca : Nat → Nat} {Xs : Nat → r_Pt} {ua : Nat → Bool} {tbl : Nat → List (Nat → Int64)} {pr : Nat → List r_Row} {st bf : Nat → Nat} {tot : Nat} {so : Nat → Option Nat} {S ow : Nat} {its : List r_It} {ms : List (Nat ⊕ Nat)} {cds : List r_Cd} {lv : Nat → Nat} {rk : Bool} {al mr : Nat}
theorem y_wstart (H : X_sq w Q P np Xs cp ua nt tbl tw ca) (Ra : X_ra w al mr) (Z : X_sel w np nt Xs tw so S ow its ms cds lv rk) (hi1 : 1 ≤ its.length) {p : Nat} {pc : Option Nat} (hp : (p < np ∧ pc = some p) ∨ (p = 4 ∧ pc = none)) : ∃ w1, f_Ru_work (some 4) (some S) (Int32.ofNat p) w = f_Ru_work_75 200000 (some 4) (some S) 0 w1 ∧ X_ws w w1 ∧ g_R w1 772 4 = some S ∧ g_R w1 836 4 = pc.map P ∧ g_R w1 900 4 = some (64 * p + 5) ∧ g_I w1 1028 4 = z_g false ∧ g_I w1 1092 4 = z_g false ∧ X_gr w1 its.length 0 (r_gs0 its) := by
  have H' := H
  obtain ⟨⟨a1, a2, a3, a4, PA, a5, a6, a7, a8⟩, ⟨b1, b2, b3⟩, -⟩ := H
  have p5 : p < 5 := by omega
  have hit := Z.2.1.1
  have S8 := Z.1.1
  have l4 := hit.2.2.1
  have h264 := hit.2.1
  have h328 := Z.1.2.2.2.2.2.2.2.2
  have gcl : r_gc its ≤ its.length := List.length_filter_le _ _
  obtain ⟨s1, e1⟩ : ∃ s1, s1 = g_setR w 772 4 (some S) := ⟨_, rfl⟩
  -- the second piece
  have e30 : ∀ (part : Option Nat), ∃ w1, f_Ru_work_30 (some 4) (some S) (Int32.ofNat p) (some 4) part s1 = f_Ru_work_75 200000 (some 4) (some S) 0 w1 ∧ X_ws w w1 ∧ g_R w1 772 4 = some S ∧ g_R w1 836 4 = part ∧ g_R w1 900 4 = some (64 * p + 5) ∧ g_I w1 1028 4 = z_g false ∧ g_I w1 1092 4 = z_g false ∧ X_gr w1 its.length 0 (r_gs0 its) := by
    intro part
    obtain ⟨s7, e7⟩ : ∃ s7, s7 = g_setI (g_setI (g_setI (g_setR (g_setR s1 836 4 part) 900 4 (some (64 * p + 5))) 1028 4 (z_g false)) 1092 4 (z_g false)) 964 4 0 := ⟨_, rfl⟩
    have W7 : X_ws w s7 := by
      rw [e7, e1]
      refine ⟨((((((X_rf.re.pR (Or.inr ⟨rfl, Or.inl rfl⟩) _).pR (Or.inr ⟨rfl, Or.inr (Or.inl rfl)⟩) _).pR (Or.inr ⟨rfl, Or.inr (Or.inr rfl)⟩) _).pI (Or.inr (Or.inl ⟨rfl, Or.inr (Or.inr (Or.inr rfl))⟩)) _).pI (Or.inr (Or.inl ⟨rfl, Or.inr (Or.inl rfl)⟩)) _).pI (Or.inr (Or.inl ⟨rfl, Or.inr (Or.inr (Or.inl rfl))⟩)) _), fun k a h => ?_, fun _ _ => rfl, fun _ _ => rfl⟩
      rw [x_I_I, if_neg (fun q => h ⟨q.2, Or.inr (Or.inl q.1)⟩), x_I_I, if_neg (fun q => h ⟨q.2, Or.inl q.1⟩), x_I_I, if_neg (fun q => h ⟨q.2, Or.inr (Or.inr q.1)⟩)]
      rfl
    have r7 : g_R s7 772 4 = some S ∧ g_R s7 836 4 = part ∧ g_R s7 900 4 = some (64 * p + 5) := by
      rw [e7, e1]
      refine ⟨rfl, ?_, rfl⟩
      show g_R (g_setR (g_setR (g_setR w 772 4 (some S)) 836 4 part) 900 4 (some (64 * p + 5))) 836 4 = part
      rw [x_R_R, if_neg (by decide), x_Rss]
    have i7 : g_I s7 964 4 = Int32.ofNat 0 ∧ g_I s7 1028 4 = z_g false ∧ g_I s7 1092 4 = z_g false := by
      rw [e7]
      refine ⟨x_Iss _ _ _ _, ?_, ?_⟩
      · rw [x_Ik (by decide), x_Ik (by decide), x_Iss]
      · rw [x_Ik (by decide), x_Iss]
    have f7 : X_rf w s7 := W7.1
    have I7 : ∀ k, k ≠ 585 ∧ k ≠ 649 ∧ k ≠ 713 ∧ k ≠ 777 → g_I s7 k S = g_I w k S := fun k hk => f7.ag.I (by omega) (by omega) hk
    have stp : f_Ru_work_30 (some 4) (some S) (Int32.ofNat p) (some 4) part s1 = if Int32.ofNat (r_gc its) = Int32.ofNat its.length then g_c (g_nn (some 4) (f_Ru_addGroup (some 4) s7)) fun _ s11 => f_Ru_work_75 200000 (some 4) (some S) 0 s11 else f_Ru_work_75 200000 (some 4) (some S) 0 s7 := by
      unfold f_Ru_work_30
      rw [x_pR, x_gR, show g_R (g_setR s1 836 4 part) 4 4 = some 93 from (by rw [x_R_R, if_neg (by decide), e1, x_R_R, if_neg (by decide)]; exact b1), x_aR (by omega) (by show p < g_ln (g_setR s1 836 4 part) 93; rw [e1]; show p < g_ln w 93; omega), show g_AR (g_setR s1 836 4 part) 93 p = some (64 * p + 5) from (by rw [e1]; exact (b3 p p5).1), x_pR, show ∀ (F : g_St → Option ((Unit ⊕ Nat) × g_St)), g_pZ (g_setR (g_setR s1 836 4 part) 900 4 (some (64 * p + 5))) 1028 (some 4) 0 F = g_pZ (g_setR (g_setR s1 836 4 part) 900 4 (some (64 * p + 5))) 1028 (some 4) (z_g false) F from fun _ => rfl, x_pZ, show ∀ (s : g_St) (F : g_St → Option ((Unit ⊕ Nat) × g_St)), g_pZ s 1092 (some 4) 0 F = g_pZ s 1092 (some 4) (z_g false) F from fun _ _ => rfl, x_pZ, x_pI, ← e7, x_gI, x_gI, I7 _ (by decide), I7 _ (by decide), h328, h264]
    rw [stp]
    have g0 : X_gr s7 its.length 0 [] := ⟨i7.1, by decide, fun g hg => by cases hg⟩
    unfold r_gs0
    by_cases e : r_gc its = its.length
    · rw [if_pos (by rw [e]), if_pos e]
      have rn : X_rn s7 S := by
        obtain ⟨⟨q1, q2, q3, q4, q5, q6⟩, -⟩ := Ra.rf f7
        exact ⟨r7.1, q1, q2, q3, q4, q5, q6⟩
      obtain ⟨w1, k1, k2, k3, k4⟩ := y_addg rn (hit.ag f7.ag) g0 (by decide) (iv := r_c0) (fun i hi hz => by
        exfalso
        have hm : its.getD i r_it0 ∈ its := by
          rw [List.getD_eq_getElem?_getD, List.getElem?_eq_getElem hi]; exact List.getElem_mem hi
        have hall := List.length_filter_eq_length_iff.mp e _ hm
        rw [decide_eq_true_eq] at hall
        exact hall hz)
      rw [x_nn, k1, x_c]
      refine ⟨w1, rfl, ⟨f7.trans k2.rf, fun k a h => (k2.2.1 k a (fun q => h ⟨q.1, by have := q.2; omega⟩)).trans (W7.2.1 k a h), fun a h => (funext fun i => k2.2.2.1 a i h).trans (W7.2.2.1 a h), fun a h => (funext fun i => k2.2.2.2 a i h).trans (W7.2.2.2 a h)⟩, by rw [k2.1.2.2.2.1]; exact r7.1, by rw [k2.1.2.2.2.1]; exact r7.2.1, by rw [k2.1.2.2.2.1]; exact r7.2.2, by rw [k3]; exact i7.2.1, by rw [k2.2.1 _ _ (by decide)]; exact i7.2.2, k4⟩
    · rw [if_neg (by rw [x_eq (by omega) (by omega)]; exact e), if_neg e]
      exact ⟨s7, rfl, W7, r7.1, r7.2.1, r7.2.2, i7.2.1, i7.2.2, g0⟩
  have R1 : ∀ k a, k ≠ 772 → g_R s1 k a = g_R w k a := fun k a h => by rw [e1, x_R_R, if_neg (fun q => h q.1)]
  unfold f_Ru_work
  rw [x_pR, ← e1, x_gR, R1 _ _ (by decide), a1, x_gI, show g_I s1 70 Q = Int32.ofNat np from (by rw [e1]; exact a3)]
  rcases hp with ⟨h1, h2⟩ | ⟨h1, h2⟩
  · rw [if_neg (by rw [x_le (by omega) (by omega)]; omega), x_gR, R1 _ _ (by decide), a1, x_gR, R1 _ _ (by decide), a5, x_aR (by omega) (by rw [e1]; show p < g_ln w PA; omega), show g_AR s1 PA p = some (P p) from (by rw [e1]; exact (a8 p h1).1)]
    obtain ⟨w1, k1, k2, k3, k4, k5⟩ := e30 (some (P p))
    exact ⟨w1, k1, k2, k3, by rw [k4, h2]; rfl, k5⟩
  · rw [if_pos (by rw [x_le (by omega) (by omega)]; omega)]
    obtain ⟨w1, k1, k2, k3, k4, k5⟩ := e30 none
    exact ⟨w1, k1, k2, k3, by rw [k4, h2]; rfl, k5⟩
end
