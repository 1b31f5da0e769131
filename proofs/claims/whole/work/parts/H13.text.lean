/-! CALLS: text -/
theorem z_app_lt : ∀ (bs : List Nat) (n : Nat) (T : Nat → Nat), (∀ b ∈ bs, b < 256) → (∀ j, j < n → T j < 256) → ∀ j, j < (z_app bs n T).1 → (z_app bs n T).2 j < 256 := by
  intro bs
  induction bs with
  | nil => intro n T _ h j hj; exact h j hj
  | cons b bs ih =>
    intro n T hb h
    rw [z_app]
    by_cases e : b = 0
    · rw [if_pos e]
      exact ih n T (fun b' hb' => hb b' (List.mem_cons_of_mem _ hb')) h
    · rw [if_neg e]
      refine ih (n + 1) _ (fun b' hb' => hb b' (List.mem_cons_of_mem _ hb')) (fun j hj => ?_)
      by_cases e2 : j = n
      · rw [if_pos e2]; exact hb b (List.mem_cons_self ..)
      · rw [if_neg e2]; exact h j (by omega)
theorem z_many_20 (x1 x2 x3 x4 x5 : Int32) : z_many (z_bs20 x1 x2 x3 x4 x5) ≤ 20 := by
  unfold z_many
  have := List.length_filter_le (fun b => b != 0) (z_bs20 x1 x2 x3 x4 x5)
  have e : (z_bs20 x1 x2 x3 x4 x5).length = 20 := rfl
  omega
theorem op_text (x1 x2 x3 x4 x5 : Int32) : z_opB 512 Inv (f_E_text (some 0) x1 x2 x3 x4 x5) (f_M_text (some 1) x1 x2 x3 x4 x5) := by
  rintro n u hn ⟨g, nT, cols, cnt, cell, ca, len, T, hz, hJ⟩
  obtain ⟨E, ⟨F, KW⟩, ⟨TE, TM, tc1, tc2⟩, ⟨X1, X2, X3⟩, fl, room, iq⟩ := hJ
  have r2 : g_R u 2 2 = some 22 ∧ g_ln u 22 = 400 := E.1.1 (2, 2, 22, 400) (by decide)
  obtain ⟨u', tf, cE⟩ := z_textE x1 x2 x3 x4 x5 X1 r2.1 E.1.2.1 r2.2
  obtain ⟨g', cM⟩ := z_textM x1 x2 x3 x4 x5 X2 F
  have key : ∀ (b : Int32) (len' : Nat) (T' : Nat → Nat), f_E_text (some 0) x1 x2 x3 x4 x5 u = some (b, u') → f_M_text (some 1) x1 x2 x3 x4 x5 g = some (b, g') → z_XE u' len' T' → z_XM g' len' T' → (∀ j, j < len' → T' j < 256) → len' ≤ len + 20 → ∃ b u1 u2, f_E_text (some 0) x1 x2 x3 x4 x5 u = some (b, u1) ∧ f_M_text (some 1) x1 x2 x3 x4 x5 u1 = some (b, u2) ∧ Inv (n + 1) u2 := by
    intro b len' T' h1 h2 Y1 Y2 Y3 hl
    have V : z_V true [66] [2] none u u' := v_E_text (u := u) (some 0) x1 x2 x3 x4 x5 u z_V.re h1
    have wM : z_W [1, 321] [1044] g g' := w_M_text x1 x2 x3 x4 x5 g F h2
    have E' : E_0 u' := E.ev V (by decide) (by decide) ⟨by decide, by decide, by decide⟩ (by decide)
    obtain ⟨f1, f2, f3, f4, f5, f6, f7, f8, f9, f10⟩ := tf
    have kq : K_q u u' := ⟨⟨fun a a1 a2 => ⟨fun k _ _ _ _ => f9 k a (fun h => by omega), fun k _ => by rw [f5], fun k => by rw [f4]⟩, fun a a1 a2 => ⟨by rw [f7], by rw [f8]⟩⟩, by rw [f5], f9 _ _ (by decide), fun q hq => f9 _ _ (fun h => by have := h.1; omega), fun i => by rw [f6], fun i => by rw [f10 148 (by decide)], fun i => by rw [f10 84 (by decide)]⟩
    have J' : J (n + 1) u' g' nT cols cnt cell ca len' T' := by
      refine ⟨E', ⟨wM.fx F, KW.w wM (by decide)⟩, ⟨⟨by rw [f9 _ _ (by decide)]; exact TE.1, TE.2.1, by rw [f1]; exact TE.2.2.1, fun t ht => ?_⟩, ⟨by rw [wM.fi (by decide)]; exact TM.1, TM.2.1, fun t ht => ?_⟩, tc1, tc2⟩, ⟨Y1, Y2, Y3⟩, by rw [f9 _ _ (by decide), wM.fi (by decide)]; exact fl, ⟨by rw [f2]; omega, by rw [f3]; omega⟩, iq.keep kq (wM.mono (by decide) (by decide)) (Nat.le_refl _) (fun _ _ => rfl)⟩
      · obtain ⟨d1, d2, d3, d4, d5, d6, d7⟩ := TE.2.2.2 t ht
        exact ⟨by rw [f7]; exact d1, by rw [f5]; exact d2, by rw [f8]; exact d3, by rw [f9 _ _ (fun h => by have := h.1; omega)]; exact d4, by rw [f9 _ _ (fun h => by have := h.1; omega)]; exact d5, d6, by rw [f6]; exact d7⟩
      · rw [wM.ai (show 916 ∉ [1044] by decide), wM.ai (show 980 ∉ [1044] by decide), wM.al (show 597 ∉ [1044] by decide)]
        exact TM.2.2 t ht
    obtain ⟨u2, a1, a2, -, a5⟩ := I_step (m := f_M_text (some 1) x1 x2 x3 x4 x5) (fun a b c => l_M_text x1 x2 x3 x4 x5 a b c) (fun s o a b => w_M_text x1 x2 x3 x4 x5 s a b) (by decide) ((V.toM E.2.1 E.2.2.2.2 (by decide) (by decide)).trans hz) F h2 J'
    exact ⟨b, u', u2, h1, a1, a5⟩
  have l1 := z_app_1 (z_bs20 x1 x2 x3 x4 x5) len T
  have l20 := z_many_20 x1 x2 x3 x4 x5
  rcases cE with ⟨o1, o2, o3⟩ | ⟨o1, o2, o3⟩
  · rcases cM with ⟨p1, p2, p3⟩ | ⟨p1, p2, p3⟩
    · exact key 1 _ _ o2 p2 o3 p3 (z_app_lt _ _ _ (z_bs20_lt x1 x2 x3 x4 x5) X3) (by omega)
    · exact absurd o1 p1
  · rcases cM with ⟨p1, p2, p3⟩ | ⟨p1, p2, p3⟩
    · exact absurd p1 o1
    · exact key 0 _ _ o2 p2 o3 p3 X3 (by omega)
