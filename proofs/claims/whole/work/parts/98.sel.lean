/-! THE REFERENCE READS A SELECTION -/
abbrev z_Se : Type := Nat × List z_It × List Nat × List z_Co
def z_con (kd : Nat → Nat) (vl : Nat → Int64) (p : Nat) : z_Co × z_P := if kd p = 7 then (.inr (z_ner kd vl p).1, (z_ner kd vl p).2) else (.inl (z_cor kd (.inr p)).1, (z_cor kd (.inr p)).2)
def z_sos (kd : Nat → Nat) (p : Nat) : Nat × z_P := (p, z_sor kd (.inr p))
def z_s1 (kd : Nat → Nat) (p : Nat) : List z_It × z_P := z_go (z_ndr kd 3 (.inr p)) (z_lst kd 25 (z_itr kd) 3)
def z_s2 (kd : Nat → Nat) (p : Nat) : List Nat × z_P := z_opt (z_skr kd 4 (z_s1 kd p).2) (z_lst kd 25 (z_sos kd) 2)
def z_s3 (kd : Nat → Nat) (vl : Nat → Int64) (p : Nat) : List z_Co × z_P := z_opt (z_skr kd 5 (z_s2 kd p).2) (z_lst kd 6 (z_con kd vl) 5)
def z_ser (kd : Nat → Nat) (vl : Nat → Int64) (p : Nat) : z_Se × z_P := ((p, (z_s1 kd p).1, (z_s2 kd p).1, (z_s3 kd vl p).1), (z_s3 kd vl p).2)
def M_its (u : g_St) (C : Nat → Nat) (i0 : Nat) (l : List z_It) : Prop := i0 + l.length ≤ C 2817 ∧ ∀ j, j < l.length → M_it u (C 3073) (C 3009) (i0 + j) (l.getD j (0, []))
def M_sos (u : g_St) (C : Nat → Nat) (k0 : Nat) (l : List Nat) : Prop := k0 + l.length ≤ C 3585 ∧ ∀ j, j < l.length → M_so u (k0 + j) (l.getD j 0)
def M_cos (u : g_St) (C : Nat → Nat) (s : Nat) (l : List z_Co) : Prop := ∀ j, j < l.length → ∃ c, g_AI u 2452 (6 * s + j) = Int32.ofNat c ∧ M_co u C c (l.getD j (.inr (0, [])))
def z_fol (l : List z_It) : Int32 := if l.any (fun x => decide (x.1 ≠ 0)) then 1 else 0
theorem M_low.it {u v : g_St} {C C' : Nat → Nat} (h : M_low u v C) (l : z_le C C') {it : Nat} (hi : it < C 2817) {x : z_It} (m : M_it u (C 3073) (C 3009) it x) : M_it v (C' 3073) (C' 3009) it x := by
  have q1 : g_AI v 2516 it = g_AI u 2516 it := h.at (f := 2817) (k := 1) (by decide) (by omega)
  have q2 : g_AI v 2580 it = g_AI u 2580 it := h.at (f := 2817) (k := 1) (by decide) (by omega)
  have l1 := l 3073
  have l2 := l 3009
  rcases m with ⟨a, b, e, c1, c2, c3⟩ | ⟨a, b, c⟩ | ⟨a, b, c, e, d1, d2, d3⟩
  · exact Or.inl ⟨a, by rw [q1]; exact b, e, by omega, by rw [q2]; exact c2, (c3.lo c1 h.lo).more l1⟩
  · exact Or.inr (Or.inl ⟨a, by rw [q1]; exact b, by rw [q2]; exact c⟩)
  · exact Or.inr (Or.inr ⟨a, b, by rw [q1]; exact c, e, by omega, by rw [q2]; exact d2, (d3.lo d1 h.lo).more l1⟩)
theorem M_its.low {u v : g_St} {C C' : Nat → Nat} {i0 : Nat} {l : List z_It} (m : M_its u C i0 l) (h : M_low u v C) (le : z_le C C') : M_its v C' i0 l :=
  ⟨Nat.le_trans m.1 (le _), fun j hj => h.it le (by have := m.1; omega) (m.2 j hj)⟩
theorem M_sos.low {u v : g_St} {C C' : Nat → Nat} {i0 : Nat} {l : List Nat} (m : M_sos u C i0 l) (h : M_low u v C) (le : z_le C C') : M_sos v C' i0 l :=
  ⟨Nat.le_trans m.1 (le _), fun j hj => h.so (by have := m.1; omega) (m.2 j hj)⟩
/-- a list's next -/
theorem z_getD_l {α : Type} {l : List α} {x d : α} {j : Nat} (h : j < l.length) : (l ++ [x]).getD j d = l.getD j d := by
  rw [List.getD_eq_getElem?_getD, List.getD_eq_getElem?_getD, List.getElem?_append_left h]
theorem z_getD_e {α : Type} {l : List α} {x d : α} : (l ++ [x]).getD l.length d = x := by
  rw [List.getD_eq_getElem?_getD, List.getElem?_append_right (Nat.le_refl _), Nat.sub_self]; rfl
section
variable {n : Nat} {kd pl : Nat → Nat} {vl : Nat → Int64}
/-- an item -/
theorem b_it (H : z_H n kd) {u : g_St} {p : Nat} (h : M_b n kd pl vl u (.inr p)) {C : Nat → Nat} (hc : M_c u C) (hb : z_bg 0 p C) {s ic : Nat} (hs : s < 17) (hs2 : C 2177 = s) (hit : C 2817 < 68) (h2 : g_AI u 2196 s = Int32.ofNat ic) : ∃ u', f_M_readItem (some 1) (Int32.ofNat s) u = some ((), u') ∧ M_b n kd pl vl u' (z_itr kd p).2 ∧ z_W [577, 833, 897, 2817, 3009, 3073] [159, 2196, 2516, 2580, 2644, 2708, 2772, 2836, 2900] u u' ∧ M_low u u' C ∧ g_AI u' 2196 s = Int32.ofNat (ic + 1) ∧ g_AI u' 159 s = (if (z_itr kd p).1.1 = 0 then g_AI u 159 s else 1) ∧ ∃ C', M_c u' C' ∧ z_le C C' ∧ (∀ f, f ≠ 3009 → f ≠ 3073 → f ≠ 2817 → C' f = C f) ∧ C' 2817 = C 2817 + 1 ∧ ∀ q, (z_itr kd p).2 = .inr q → z_bg 1 q C' ∧ M_it u' (C' 3073) (C' 3009) (C 2817) (z_itr kd p).1 ∧ p + 1 ≤ q := by
  have hp := h.le
  have hn := H.2.1
  obtain ⟨b1, b2, b3⟩ := hb
  obtain ⟨u', a1, a2, a3, a4, a5, a6, a7, a8, e', m, a9, a10, a11, a12, a13, a14, a15⟩ := m_item H.1 H.2.1 H.2.2 h.1 h.2.1 h.2.2 (e := C 3009) (o := C 3073) (it := C 2817) (by omega) (by omega) hs hit (hc _ (by decide)) (hc _ (by decide)) (hc _ (by decide)) h2
  have w := w_M_readItem _ _ h.1 a1
  obtain ⟨k1, k2, k3⟩ := a5
  refine ⟨u', a1, ⟨a2, a3, a4⟩, w, M_low.W w (fun a ha => ?_), a7, a8, [(3009, e'), (3073, C 3073 + m), (2817, C 2817 + 1)].foldl (fun C q => z_up C q.1 q.2) C, M_c.ex hc _ (fun q hq => ?_) (fun f hf hq => ?_), ?_, fun f q1 q2 q3 => ?_, rfl, fun q hq => ?_⟩
  · simp only [List.mem_cons, List.not_mem_nil, or_false] at ha
    rcases ha with rfl | rfl | rfl | rfl | rfl | rfl | rfl | rfl | rfl
    · exact M_low.of (f := 2177) (k := 1) (by decide) (fun j hj => (k2 j (by omega)).2)
    · exact M_low.of (f := 2177) (k := 1) (by decide) (fun j hj => (k2 j (by omega)).1)
    · exact M_low.of (f := 2817) (k := 1) (by decide) (fun j hj => (k3 j (by omega)).1)
    · exact M_low.of (f := 2817) (k := 1) (by decide) (fun j hj => (k3 j (by omega)).2)
    · exact M_low.of (f := 3009) (k := 1) (by decide) (fun j hj => (k1.2 j (by omega)).2)
    · exact M_low.of (f := 3009) (k := 1) (by decide) (fun j hj => (k1.2 j (by omega)).1)
    · exact M_low.of (f := 3073) (k := 1) (by decide) (fun j hj => (k1.1 j (by omega)).2.1)
    · exact M_low.of (f := 3073) (k := 1) (by decide) (fun j hj => (k1.1 j (by omega)).1)
    · exact M_low.of (f := 3073) (k := 1) (by decide) (fun j hj => (k1.1 j (by omega)).2.2)
  · simp only [List.mem_cons, List.not_mem_nil, or_false] at hq
    rcases hq with rfl | rfl | rfl
    · exact a9
    · exact a12
    · exact a6
  · refine w.2.2.2.2.2.2.2.1 f 1 (fun q => ?_)
    have q2 := q.2
    simp only [List.mem_cons, List.not_mem_nil, or_false] at q2
    rcases q2 with rfl | rfl | rfl | rfl | rfl | rfl
    · revert hf; decide
    · revert hf; decide
    · revert hf; decide
    · exact hq (2817, C 2817 + 1) (by simp) rfl
    · exact hq (3009, e') (by simp) rfl
    · exact hq (3073, C 3073 + m) (by simp) rfl
  · show z_le C (z_up (z_up (z_up C 3009 e') 3073 (C 3073 + m)) 2817 (C 2817 + 1))
    exact ((z_le.re.up (by omega)).up (by omega)).up (by omega)
  · show z_up (z_up (z_up C 3009 e') 3073 (C 3073 + m)) 2817 (C 2817 + 1) f = C f
    rw [z_up_n _ _ q3, z_up_n _ _ q2, z_up_n _ _ q1]
  · have pr := a14.2 p rfl
    rw [hq] at pr
    have pr' : p + 2 * m ≤ q + 1 ∧ p + 1 ≤ q ∧ e' - C 3009 ≤ m := pr
    refine ⟨⟨?_, ?_, ?_⟩, a15 q hq, pr'.2.1⟩
    · show 2 * (C 3073 + m) ≤ q + 1
      omega
    · show e' ≤ C 3073 + m
      omega
    · show 4 * C 3841 ≤ q + 1
      omega
/-- the items of a selection -/
def M_j1 (u0 : g_St) (C0 : Nat → Nat) (s p0 d p : Nat) (l : List z_It) (u : g_St) (C : Nat → Nat) : Prop := M_c u C ∧ z_le C0 C ∧ M_low u0 u C0 ∧ z_bg d p C ∧ (∀ f, f ≠ 3009 → f ≠ 3073 → f ≠ 2817 → C f = C0 f) ∧ C 2817 = C0 2817 + l.length ∧ g_AI u 2196 s = Int32.ofNat l.length ∧ g_AI u 159 s = z_fol l ∧ (∀ a, a = 2004 ∨ a = 2068 ∨ a = 2132 → g_AI u a = g_AI u0 a) ∧ M_its u C (C0 2817) l ∧ p0 ≤ p
def M_J1 (u0 : g_St) (C0 : Nat → Nat) (s p0 d p : Nat) (l : List z_It) (u : g_St) : Prop := ∃ C, M_j1 u0 C0 s p0 d p l u C
theorem M_J1.as {u0 s s' : g_St} {C0 : Nat → Nat} {i p0 q : Nat} {l : List z_It} (h : M_J1 u0 C0 i p0 1 q l s) (g : M_as s s') : M_J1 u0 C0 i p0 0 (q + 1) l s' ∧ M_J1 u0 C0 i p0 1 q l s' := by
  obtain ⟨C, h1, h2, h3, h4, h5, h6, h7, h8, h9, h10, h11⟩ := h
  have t1 := h1.as g
  have t3 : M_low u0 s' C0 := h3.trans (M_low.as g) z_le.re
  have t7 : g_AI s' 2196 i = Int32.ofNat l.length := by rw [g.1]; exact h7
  have t8 : g_AI s' 159 i = z_fol l := by rw [g.1]; exact h8
  have t9 : ∀ a, a = 2004 ∨ a = 2068 ∨ a = 2132 → g_AI s' a = g_AI u0 a := fun a w => by rw [g.1]; exact h9 a w
  have t10 := h10.low (M_low.as g) z_le.re
  exact ⟨⟨C, t1, h2, t3, h4, h5, h6, t7, t8, t9, t10, by omega⟩, ⟨C, t1, h2, t3, h4, h5, h6, t7, t8, t9, t10, h11⟩⟩
theorem b_its (H : z_H n kd) {u0 : g_St} {p : Nat} (h : M_b n kd pl vl u0 (.inr p)) {C0 : Nat → Nat} (hc : M_c u0 C0) (hb : z_bg 0 p C0) {s : Nat} (hs : s < 17) (hs2 : C0 2177 = s) (hit : C0 2817 ≤ 4 * s) (h2 : g_AI u0 2196 s = 0) (h3 : g_AI u0 159 s = 0) : ∃ u', f_M_readSelection_67 200000 (some 1) (Int32.ofNat s) 1 u0 = f_M_readSelection_111 (some 1) (Int32.ofNat s) u' ∧ M_b n kd pl vl u' (z_lst kd 25 (z_itr kd) 3 p).2 ∧ (z_lst kd 25 (z_itr kd) 3 p).1.length ≤ 4 ∧ ∀ q, (z_lst kd 25 (z_itr kd) 3 p).2 = .inr q → M_J1 u0 C0 s p 1 q (z_lst kd 25 (z_itr kd) 3 p).1 u' := by
  refine b_loop (fun f x u => f_M_readSelection_67 f (some 1) (Int32.ofNat s) x u) (f_M_readSelection_111 (some 1) (Int32.ofNat s)) (f_M_skipSign (some 1) 44) 25 (z_itr kd) 3 (M_J1 u0 C0 s p 1) (M_J1 u0 C0 s p 0) (fun s r hr => b_skS H hr (by decide) rfl) (fun f s => ?_) (fun p1 l u f hl hu hJ => ?_) (fun q l s s' hq ha => hq.as ha) 3 p [] u0 200000 rfl (by omega) h ⟨C0, hc, z_le.re, M_low.re, hb, fun _ _ _ _ => rfl, rfl, h2, h3, fun _ _ => rfl, ⟨Nat.le_refl _, fun j hj => by cases hj⟩, Nat.le_refl _⟩
  · show f_M_readSelection_67 (f + 1) (some 1) (Int32.ofNat _) 0 s = _
    rw [f_M_readSelection_67, if_pos rfl]
  · obtain ⟨C, c1, c2, c3, c4, c5, c6, c7, c8, c9, c10, c11⟩ := hJ
    obtain ⟨u', a1, a2, a3, a4, a5, a6, C', d1, d2, d3, d4, d5⟩ := b_it H hu c1 c4 hs (by rw [c5 _ (by decide) (by decide) (by decide)]; exact hs2) (by omega) c7
    refine ⟨u', a2, ?_, fun q hq => ?_⟩
    · show f_M_readSelection_67 (f + 1) (some 1) (Int32.ofNat s) 1 u = _
      rw [f_M_readSelection_67, if_neg (by decide), x_nn, b_bad hu, x_c, if_pos rfl, x_nn, a1, x_c, x_gR, (a2.1 _ m_k2433).1, x_aI (by omega) (by rw [(a2.1 _ m_k2433).2]; exact hs), a5]
      have e4 : (4 ≤ Int32.ofNat (l.length + 1)) = (4 ≤ l.length + 1) := x_le (a := 4) (by decide) (by omega)
      by_cases w : 3 ≤ l.length
      · rw [if_pos w, if_pos (by rw [e4]; omega)]
      · rw [if_neg w, if_neg (by rw [e4]; omega)]; rfl
    · obtain ⟨e1, e2, e3⟩ := d5 q hq
      have len : (l ++ [(z_itr kd p1).1]).length = l.length + 1 := by rw [List.length_append, List.length_singleton]
      refine ⟨C', d1, c2.trans d2, c3.trans a4 c2, e1, fun f q1 q2 q3 => by rw [d3 f q1 q2 q3, c5 f q1 q2 q3], by rw [len]; omega, by rw [len]; exact a5, ?_, fun a w => ?_, ⟨by rw [len]; omega, fun j hj => ?_⟩, by omega⟩
      · rw [a6, c8]
        unfold z_fol
        rw [List.any_append]
        by_cases w : (z_itr kd p1).1.1 = 0
        · have e : ([(z_itr kd p1).1].any fun x => decide (x.1 ≠ 0)) = false := by
            show (decide _ || false) = false
            rw [decide_eq_false (fun h => h w)]; rfl
          rw [if_pos w, e, Bool.or_false]
        · rw [if_neg w]
          simp [w]
      · rw [(a3.2.2.2.2.2.2.2.2 a (by rcases w with w | w | w <;> subst w <;> decide)).1]; exact c9 a w
      · rw [len] at hj
        by_cases w : j < l.length
        · rw [z_getD_l w]
          exact (c10.low a4 d2).2 j w
        · have ej : j = l.length := by omega
          rw [ej, z_getD_e, ← c6]
          exact e2
end
