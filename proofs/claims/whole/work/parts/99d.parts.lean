/-! THE REFERENCE READS A QUERY -/
abbrev z_Qu : Type := Bool × List z_Pa × z_Se × Option (Nat × List Nat)
def z_pa0 : z_Pa := (0, [], [], [], none, none)
def z_tot (l : List z_Pa) : Nat := (l.map fun x => x.2.2.1.length).sum
def z_w1 (kd : Nat → Nat) (vl : Nat → Int64) : List z_Pa × z_P := if kd 0 = 0 then z_lst kd 25 (z_par kd vl) 3 (if kd 1 = 1 then 2 else 1) else ([], .inr 0)
def z_w2 (kd : Nat → Nat) (vl : Nat → Int64) (r : z_P) : z_Se × z_P := match r with
  | .inr q => z_ser kd vl q
  | .inl q => (z_se0, .inl q)
def z_w3 (kd : Nat → Nat) (r : z_P) : Option (Nat × List Nat) × z_P := match r with
  | .inr q => if kd q = 24 then (some (q, (z_ors kd q).1), (z_ors kd q).2) else (none, .inr q)
  | .inl q => (none, .inl q)
def z_w4 (kd : Nat → Nat) (r : z_P) : Option Nat := match r with
  | .inr q => if kd q = 38 then none else some q
  | .inl q => some q
def z_qry (kd : Nat → Nat) (vl : Nat → Int64) : z_Qu := (decide (kd 0 = 0 ∧ kd 1 = 1), (z_w1 kd vl).1, (z_w2 kd vl (z_w1 kd vl).2).1, (z_w3 kd (z_w2 kd vl (z_w1 kd vl).2).2).1)
def z_qed (kd : Nat → Nat) (vl : Nat → Int64) : Option Nat := z_w4 kd (z_w3 kd (z_w2 kd vl (z_w1 kd vl).2).2).2
def M_pas (pl : Nat → Nat) (u : g_St) (C : Nat → Nat) (l : List z_Pa) : Prop := ∀ j, j < l.length → M_pa pl u C j (z_tot (l.take j)) (l.getD j z_pa0)
theorem M_pas.low {pl : Nat → Nat} {u v : g_St} {C C' : Nat → Nat} {l : List z_Pa} (m : M_pas pl u C l) (h : M_low u v C) (le : z_le C C') : M_pas pl v C' l := fun j hj => (m j hj).low h le
def M_or (u : g_St) (x : Option (Nat × List Nat)) : Prop := match x with
  | none => g_I u 4353 1 = 0
  | some y => g_I u 4417 1 = Int32.ofNat y.1 ∧ g_I u 4353 1 = Int32.ofNat y.2.length ∧ y.2.length ≤ 2 ∧ ∀ j, j < y.2.length → g_AI u 3732 j = Int32.ofNat (y.2.getD j 0)
/-- what the reference has read -/
def z_lim (C : Nat → Nat) : Prop := C 2177 ≤ 17 ∧ C 2817 ≤ 68 ∧ C 3009 ≤ 205 ∧ C 3073 ≤ 205 ∧ C 3585 ≤ 95 ∧ C 3841 ≤ 105
def M_qu (pl : Nat → Nat) (u : g_St) (C : Nat → Nat) (x : z_Qu) : Prop := M_c u C ∧ g_I u 2113 1 = z_g x.1 ∧ C 1153 = x.2.1.length ∧ x.2.1.length ≤ 4 ∧ M_pas pl u C x.2.1 ∧ g_AI u 1876 4 = Int32.ofNat (z_tot x.2.1) ∧ M_se pl u C (z_tot x.2.1) 4 x.2.2.1 ∧ C 2177 = z_tot x.2.1 + 1 ∧ z_tot x.2.1 ≤ 4 * x.2.1.length ∧ M_or u x.2.2.2 ∧ z_lim C
def M_jq (pl : Nat → Nat) (u0 : g_St) (q : Nat) (l : List z_Pa) (u : g_St) (C : Nat → Nat) : Prop := M_c u C ∧ z_bs 0 q C ∧ C 1153 = l.length ∧ C 2177 = z_tot l ∧ z_tot l ≤ 4 * l.length ∧ g_I u 2113 1 = g_I u0 2113 1 ∧ g_I u 4353 1 = g_I u0 4353 1 ∧ M_pas pl u C l
section
variable {n : Nat} {kd pl : Nat → Nat} {vl : Nat → Int64}
/-- as b_loop, but a turn that is stuck ends by itself -/
theorem b_lop {α β : Type} (K : Nat → Int32 → g_St → Option β) (E : g_St → Option β) (sk : g_St → Option (Int32 × g_St)) (sep : Nat) (g : Nat → α × z_P) (D : Nat) (J J' : Nat → List α → g_St → Prop)
    (hs : ∀ s r, M_b n kd pl vl s r → ∃ s', sk s = some (z_g (z_skr kd sep r).1, s') ∧ M_b n kd pl vl s' (z_skr kd sep r).2 ∧ M_as s s')
    (hE : ∀ f s, K (f + 1) 0 s = E s)
    (turn : ∀ p l u f, l.length ≤ D → M_b n kd pl vl u (.inr p) → J' p l u → ∃ s, M_b n kd pl vl s (g p).2 ∧ (∀ q, (g p).2 = .inl q → K (f + 1) 1 u = K f 0 s) ∧ ∀ q, (g p).2 = .inr q → K (f + 1) 1 u = (if D ≤ l.length then K f 0 s else g_c (sk s) fun i t => if i = 0 then K f 0 t else K f 1 t) ∧ J q (l ++ [(g p).1]) s)
    (hJ : ∀ q l s s', J q l s → M_as s s' → J' (q + 1) l s' ∧ J q l s') :
    ∀ d p l u f, l.length + d = D → d + 1 < f → M_b n kd pl vl u (.inr p) → J' p l u → ∃ u', K f 1 u = E u' ∧ M_b n kd pl vl u' (z_lst kd sep g d p).2 ∧ (z_lst kd sep g d p).1.length ≤ d + 1 ∧ ∀ q, (z_lst kd sep g d p).2 = .inr q → J q (l ++ (z_lst kd sep g d p).1) u' := by
  intro d
  induction d with
  | zero =>
    intro p l u f h1 h2 h3 h4
    obtain ⟨f, rfl⟩ : ∃ m, f = m + 2 := ⟨f - 2, by omega⟩
    obtain ⟨s, a1, a2, a3⟩ := turn p l u (f + 1) (by omega) h3 h4
    refine ⟨s, ?_, a1, Nat.le_refl _, fun q hq => (a3 q hq).2⟩
    cases hz : (g p).2 with
    | inl q => rw [a2 q hz, hE]
    | inr q => rw [(a3 q hz).1, if_pos (by omega), hE]
  | succ d ih =>
    intro p l u f h1 h2 h3 h4
    obtain ⟨f, rfl⟩ : ∃ m, f = m + 2 := ⟨f - 2, by omega⟩
    obtain ⟨s, a1, a2, a3⟩ := turn p l u (f + 1) (by omega) h3 h4
    cases hz : (g p).2 with
    | inl q =>
      have e : z_lst kd sep g (d + 1) p = ([(g p).1], .inl q) := by rw [z_lst, hz]
      rw [e]
      rw [hz] at a1
      exact ⟨s, by rw [a2 q hz, hE], a1, by show 1 ≤ _; omega, fun q' w => by cases w⟩
    | inr q =>
      obtain ⟨a4, a5⟩ := a3 q hz
      obtain ⟨t, b1, b2, b3⟩ := hs s _ a1
      rw [if_neg (by omega), b1, x_c] at a4
      by_cases w : kd q = sep
      · have e : z_lst kd sep g (d + 1) p = ((g p).1 :: (z_lst kd sep g d (q + 1)).1, (z_lst kd sep g d (q + 1)).2) := by rw [z_lst, hz]; simp only []; rw [if_pos w]
        rw [hz, z_skr_t w] at b2 a4
        rw [if_neg (show ¬ z_g (true, (.inr (q + 1) : z_P)).1 = 0 from (show ¬ z_g true = 0 by decide))] at a4
        obtain ⟨u', c1, c2, c3, c4⟩ := ih (q + 1) (l ++ [(g p).1]) t (f + 1) (by rw [List.length_append, List.length_singleton]; omega) (by omega) b2 (hJ q _ s t a5 b3).1
        rw [e]
        refine ⟨u', a4.trans c1, c2, by show (z_lst kd sep g d (q + 1)).1.length + 1 ≤ _; omega, fun q' w' => ?_⟩
        have := c4 q' w'
        rw [List.append_assoc] at this
        exact this
      · have e : z_lst kd sep g (d + 1) p = ([(g p).1], .inr q) := by rw [z_lst, hz]; simp only []; rw [if_neg w]
        rw [hz, z_skr_f w] at b2 a4
        rw [if_pos (show z_g (false, (.inr q : z_P)).1 = 0 from rfl), hE] at a4
        rw [e]
        refine ⟨t, a4, b2, by show 1 ≤ _; omega, fun q' w' => ?_⟩
        cases w'
        exact (hJ q _ s t a5 b3).2
theorem M_jq.as {u0 s s' : g_St} {C : Nat → Nat} {q q' : Nat} {l : List z_Pa} (h : M_jq pl u0 q l s C) (g : M_as s s') (hq : q ≤ q') : M_jq pl u0 q' l s' C := by
  obtain ⟨h1, h2, h3, h4, h5, h6, h7, h8⟩ := h
  exact ⟨h1.as g, h2.on0 hq, h3, h4, h5, (g.2 _ (by decide) (by decide) (by decide)).trans h6, (g.2 _ (by decide) (by decide) (by decide)).trans h7, h8.low (M_low.as g) z_le.re⟩
theorem z_tot_app (l : List z_Pa) (x : z_Pa) : z_tot (l ++ [x]) = z_tot l + x.2.2.1.length := by
  unfold z_tot
  rw [List.map_append, List.sum_append, List.map_singleton, List.sum_singleton]
theorem b_pts (H : z_H n kd) {u0 : g_St} {q : Nat} (h : M_b n kd pl vl u0 (.inr q)) {C0 : Nat → Nat} (hj : M_jq pl u0 q [] u0 C0) : ∃ u', f_M_readQuery_24 200000 (some 1) 1 u0 = f_M_readQuery_65 (some 1) u' ∧ M_b n kd pl vl u' (z_lst kd 25 (z_par kd vl) 3 q).2 ∧ (z_lst kd 25 (z_par kd vl) 3 q).1.length ≤ 4 ∧ ∀ q', (z_lst kd 25 (z_par kd vl) 3 q).2 = .inr q' → ∃ C, M_jq pl u0 q' (z_lst kd 25 (z_par kd vl) 3 q).1 u' C := by
  refine b_lop (fun f x u => f_M_readQuery_24 f (some 1) x u) (f_M_readQuery_65 (some 1)) (f_M_skipSign (some 1) 44) 25 (z_par kd vl) 3 (fun q l u => ∃ C, M_jq pl u0 q l u C) (fun q l u => ∃ C, M_jq pl u0 q l u C) (fun s r hr => b_skS H hr (by decide) rfl) (fun f s => ?_) (fun q1 l u f hl hu hJ => ?_) (fun q1 l s s' hq ha => ?_) 3 q [] u0 200000 rfl (by omega) h ⟨C0, hj⟩
  · show f_M_readQuery_24 (f + 1) (some 1) 0 s = _
    rw [f_M_readQuery_24, if_pos rfl]
  · obtain ⟨C, c1, c2, c3, c4, c5, c6, c7, c8⟩ := hJ
    obtain ⟨s, a1, a2, a3⟩ := b_part H hu c1 c2 c3 (by omega) (by omega)
    have W := w_M_readPart u hu.1 a1
    have st : f_M_readQuery_24 (f + 1) (some 1) 1 u = (if 4 ≤ g_I s 1153 1 then f_M_readQuery_24 f (some 1) 0 s else g_c (f_M_skipSign (some 1) 44 s) fun i t => if i = 0 then f_M_readQuery_24 f (some 1) 0 t else f_M_readQuery_24 f (some 1) 1 t) := by
      rw [f_M_readQuery_24, if_neg (by decide), x_nn, b_bad hu, x_c, if_pos rfl, x_nn, a1, x_c, x_gI]; rfl
    cases hz : (z_par kd vl q1).2 with
    | inl x =>
      rw [hz] at a2
      by_cases w : 4 ≤ g_I s 1153 1
      · rw [if_pos w] at st
        exact ⟨s, a2, fun _ _ => st, fun q w => by cases w⟩
      · obtain ⟨t, b1, b2, b3⟩ := b_skS H a2 (k := 25) (by decide) (c := 44) rfl
        rw [if_neg w, b1, x_c, if_pos (show z_g (z_skr kd 25 (.inl x)).1 = 0 from rfl)] at st
        exact ⟨t, b2, fun _ _ => st, fun q w => by cases w⟩
    | inr x =>
      obtain ⟨d1, C', d2, d3, d4, d5, d6, d7, d8⟩ := a3 x hz
      rw [hz] at a2
      refine ⟨s, a2, (fun q w => by cases w), fun q' hq => ?_⟩
      cases hq
      have ln : (l ++ [(z_par kd vl q1).1]).length = l.length + 1 := by rw [List.length_append, List.length_singleton]
      refine ⟨?_, C', d2, d7, by rw [ln]; exact d4, by rw [z_tot_app, d5, c4], by rw [z_tot_app, ln, ← c4, ← d5]; exact d6, by rw [W.2.2.2.2.2.2.2.1 2113 1 (fun w => absurd w.2 (by decide))]; exact c6, by rw [W.2.2.2.2.2.2.2.1 4353 1 (fun w => absurd w.2 (by decide))]; exact c7, fun j hj => ?_⟩
      · show f_M_readQuery_24 (f + 1) (some 1) 1 u = _
        have e4 : (4 ≤ Int32.ofNat (l.length + 1)) = (4 ≤ l.length + 1) := x_le (a := 4) (by decide) (by omega)
        rw [st, d2 _ (by decide), d4]
        by_cases w : 3 ≤ l.length
        · rw [if_pos w, if_pos (by rw [e4]; omega)]
        · rw [if_neg w, if_neg (by rw [e4]; omega)]
      · rw [ln] at hj
        by_cases w : j < l.length
        · rw [z_getD_l w, List.take_append_of_le_length (by omega)]
          exact (c8 j w).low d1 d3
        · have ej : j = l.length := by omega
          rw [ej, z_getD_e, List.take_append_of_le_length (by omega), List.take_length, ← c4]
          exact d8
  · obtain ⟨C, hq⟩ := hq
    exact ⟨⟨C, hq.as ha (by omega)⟩, C, hq.as ha (by omega)⟩
end
