/-! RUNNING (reference): a component, whole -/
section
variable {w0 : g_St} {np nt : Nat} {Xs : Nat → r_Pt} {tw cp ns fs : Nat → Nat} {ua rec : Nat → Bool} {nm names : Nat → Nat → Bool} {sl : Nat → Nat → r_Sel} {tbl : Nat → List (Nat → Int64)} {al mr c : Nat} {rc alls : Bool}
theorem m_c107 (F0 : m_Fix w0) (H : M_stc w0 np nt Xs tw cp ns fs ua rec names sl) (hal : g_I w0 5441 1 = Int32.ofNat al) (al1 : 1 ≤ al) (al48 : al ≤ 48) (mr30 : mr ≤ 30) (c3 : c ≤ 3) (Q : r_qok np Xs cp ns nm names rec ua sl) (Z : r_stl np nt Xs cp tw ns sl) (hA1 : alls = true → ∀ q, q < np → cp q = c → ua q = true) (hA2 : alls = false → rc = true → ∀ q, q < np → cp q = c → ua q = false) (hX6 : rc = true → ∀ q, q < np → cp q = c → (rec q && ua q) = false → (Xs q).2.2.2 = true) (w3 : ∀ q, q < np → (Xs q).1 ≤ 3) (T16 : ∀ t, t < nt → (tbl t).length ≤ 48) : ∀ (f e F : Nat) (w : g_St) (P : M_Pl) (st bf : Nat → Nat) (tl : List Nat) (low : Nat), e + (f + 1) = mr → tl.length = e → f + 1 < F → M_rst w0 np nt Xs tw tbl al w P → r_J np Xs cp tw c e st bf (M_pr P, P.length) → low ≤ P.length → (∀ q, q < np → cp q = c → st q = (M_pr (P.take low) q).length) → (e = 0 → ∀ q, q < np → cp q = c → M_pr P q = [] ∧ st q = 0) → (0 < e → rc = true ∧ r_all_clo np Xs cp ns nm rec ua tbl al sl c (M_pr P, P.length)) → M_tl w c tl → ∃ w', f_M_workComponent_107 F (some 1) (Int32.ofNat c) (Int32.ofNat mr) (z_g rc) (z_g alls) (Int32.ofNat e) (Int32.ofNat low) 1 w = some ((), w') ∧ M_cres w0 np nt Xs cp tw tbl al mr c w w' (r_comp (fun st bf j => r_one Xs cp ua tbl al st bf (sl j.1 j.2) j.1) cp ns nm np c rc (f + 1) (e + 1) (M_pr P, P.length) st bf tl) := by
  -- the end of the rounds
  have fin : ∀ (F e n : Nat) (x7 : Int32) (s : g_St), M_K w0 s → (x7 = 0 ∨ g_I s 1 1 ≠ 0) → f_M_workComponent_107 (F + 1) (some 1) (Int32.ofNat c) (Int32.ofNat mr) (z_g rc) (z_g alls) (Int32.ofNat e) (Int32.ofNat n) x7 s = some ((), g_setAI s 4372 c (Int32.ofNat e)) := fun F e n x7 s Ks h7 => by
    have g1 : g_R s 5761 1 = some 4372 ∧ g_ln s 4372 = 4 := Ks.fx F0 (5761, 4372, 4) (by decide)
    rw [f_M_workComponent_107, x_gR, g1.1, x_sI (by omega) (by omega)]
    rcases h7 with h | h
    · rw [if_pos h]
    · rw [x_gI, if_neg h, ite_self]
  -- a round that ends with an error
  have bad : ∀ (F e n : Nat) (s5 : g_St) (er : Nat), M_K w0 s5 → g_I s5 1 1 = Int32.ofNat (er + 1) → er < 100 → ∃ w', M_crt rc alls c mr e n (F + 1) s5 = some ((), w') ∧ M_K w0 w' ∧ g_I w' 1 1 = Int32.ofNat (er + 1) := fun F e n s5 er Ks hc her => by
    have ne : g_I s5 1 1 ≠ 0 := by
      rw [hc, show (0 : Int32) = Int32.ofNat 0 from rfl]
      intro z
      rw [x_eq (by omega) (by omega)] at z
      omega
    refine ⟨g_setAI s5 4372 c (Int32.ofNat (e + 1)), ?_, Ks.sI (by decide) _ _, hc⟩
    have e197 : ∀ x : Int32, f_M_workComponent_197 (f_M_workComponent_107 (F + 1)) (some 1) (Int32.ofNat c) (Int32.ofNat mr) (z_g rc) (z_g alls) (Int32.ofNat (e + 1)) (Int32.ofNat n) x s5 = some ((), g_setAI s5 4372 c (Int32.ofNat (e + 1))) := fun x => by
      unfold f_M_workComponent_197
      rw [fin F (e + 1) n x s5 Ks (Or.inr ne), x_gI, if_neg ne, ite_self]
    unfold M_crt
    rw [x_gI, e197, e197, ite_self, ite_self]
  intro f
  induction f with
  | zero =>
    intro e F w P st bf tl low e1 e2 e3 hr hj hlo hst h0 hcl htl
    obtain ⟨F, rfl⟩ : ∃ m, F = m + 2 := ⟨F - 2, by omega⟩
    obtain ⟨s5, m1, m2⟩ := m_crd (F := F + 1) F0 H hal al1 al48 mr30 c3 Q Z hA1 hA2 hX6 w3 T16 (show e < mr by omega) hr hj hlo hst h0 hcl
    rw [m1, r_comp]
    generalize r_seq (fun j => r_one Xs cp ua tbl al (r_nst cp c (M_pr P) st) (r_nbf cp c st bf) (sl j.1 j.2) j.1) (r_jobs cp ns nm c (decide (e + 1 = 1)) (List.range np)) (M_pr P, P.length) = R at m2 ⊢
    cases R with
    | inr er =>
      obtain ⟨n1, n2, n3⟩ := m2
      obtain ⟨w', b1, b2, b3⟩ := bad F e P.length s5 er n1 n2 n3
      exact ⟨w', b1, b2, b3, n3⟩
    | inl s' =>
      obtain ⟨D, D1, D2, D3, D4, D5, D6, D7⟩ := m2
      have len : (P ++ D).length = P.length + D.length := List.length_append
      have p48 := D2.2.1.2.2.1.2.1
      have pl := D2.2.1.2.2.1.1
      have es : s'.2 = P.length + D.length := by rw [D1]; exact len
      have stop : ∃ w', some ((), g_setAI s5 4372 c (Int32.ofNat (e + 1))) = some ((), w') ∧ M_cres w0 np nt Xs cp tw tbl al mr c w w' (.inl (s', r_nst cp c (M_pr P) st, r_nbf cp c st bf, tl ++ [s'.2 - P.length])) := by
        have W6 : z_W [] [4372] s5 (g_setAI s5 4372 c (Int32.ofNat (e + 1))) := z_W.re.sI (by decide) _ _
        have l1 : (tl ++ [s'.2 - P.length]).length = e + 1 := by rw [List.length_append, e2]; rfl
        refine ⟨_, rfl, P ++ D, D1, ⟨D2.1.trans (W6.mono (by decide) (by decide)), D2.2.1.mv W6 (by decide) (by decide), D2.2.2.1, by rw [W6.fi (by decide)]; exact D2.2.2.2.1, by rw [W6.fi (by decide)]; exact D2.2.2.2.2.1, D2.2.2.2.2.2⟩, ?_, ?_, ?_, ?_, fun j hj => ?_, fun j hj => ?_⟩
        · show r_J np Xs cp tw c (tl ++ [s'.2 - P.length]).length _ _ _
          rw [l1]; exact D3
        · intro i hi
          have hi' : i < (tl ++ [s'.2 - P.length]).length := hi
          rw [l1] at hi'
          show g_AI (g_setAI s5 4372 c (Int32.ofNat (e + 1))) 4436 (32 * c + i) = Int32.ofNat ((tl ++ [s'.2 - P.length]).getD i 0)
          rw [W6.ai (a := 4436) (by decide)]
          by_cases g : i = e
          · rw [g, D5, ← e2, z_gd_e, es, show P.length + D.length - P.length = D.length by omega]
          · rw [D6 _ (by omega), z_gd_l (by omega)]
            exact htl i (by omega)
        · show 1 ≤ (tl ++ [s'.2 - P.length]).length ∧ (tl ++ [s'.2 - P.length]).length ≤ mr
          rw [l1]; omega
        · show g_AI (g_setAI s5 4372 c (Int32.ofNat (e + 1))) 4372 c = Int32.ofNat (tl ++ [s'.2 - P.length]).length
          rw [x_AI_AI, if_pos ⟨rfl, rfl⟩, l1]
        · rw [W6.ai (a := 4436) (by decide)]; exact D6 j (by omega)
        · rw [x_AI_AI, if_neg (fun z => hj z.2), D7]
      have s197 : f_M_workComponent_197 (f_M_workComponent_107 (F + 1)) (some 1) (Int32.ofNat c) (Int32.ofNat mr) (z_g rc) (z_g alls) (Int32.ofNat (e + 1)) (Int32.ofNat P.length) 0 s5 = some ((), g_setAI s5 4372 c (Int32.ofNat (e + 1))) := by
        unfold f_M_workComponent_197
        rw [if_pos rfl]
        exact fin F (e + 1) P.length 0 s5 D2.1 (Or.inl rfl)
      show ∃ w', M_crt rc alls c mr e P.length (F + 1) s5 = some ((), w') ∧ M_cres w0 np nt Xs cp tw tbl al mr c w w' (if rc = false ∨ s'.2 = P.length then _ else _)
      unfold M_crt
      cases hrc : rc with
      | false =>
        rw [if_pos (show z_g false = 0 from rfl), if_pos (Or.inl rfl)]
        rw [hrc] at s197
        rw [s197]
        exact stop
      | true =>
        rw [if_neg (show ¬ z_g true = 0 from by decide), x_gI, pl, len]
        rw [hrc] at s197
        by_cases g : D.length = 0
        · rw [if_pos (by rw [x_le (by omega) (by omega)]; omega), if_pos (Or.inr (by omega)), s197]
          exact stop
        · rw [if_neg (by rw [x_le (by omega) (by omega)]; omega), if_neg (by rintro (q | q) <;> first | cases q | omega), r_comp]
          have W6 : z_W [1] [] s5 (g_setI s5 1 1 4) := z_W.re.pI (by decide) _
          have c6 : g_I (g_setI s5 1 1 4) 1 1 = 4 := by rw [x_I_I, if_pos ⟨rfl, rfl⟩]
          have K6 : M_K w0 (g_setI s5 1 1 4) := D2.1.trans (W6.mono (by decide) (by decide))
          have ff := fin F (e + 1) P.length 1 (g_setI s5 1 1 4) K6 (Or.inr (by rw [c6]; decide))
          rw [hrc] at ff
          refine ⟨g_setAI (g_setI s5 1 1 4) 4372 c (Int32.ofNat (e + 1)), ?_, K6.sI (by decide) _ _, c6, by decide⟩
          unfold f_M_workComponent_197
          rw [if_neg (by decide), x_gI, D2.2.2.2.1, if_pos rfl, if_pos (by rw [show e + 1 = mr by omega]), x_pI]
          exact ff
  | succ f ih =>
    intro e F w P st bf tl low e1 e2 e3 hr hj hlo hst h0 hcl htl
    obtain ⟨F, rfl⟩ : ∃ m, F = m + 2 := ⟨F - 2, by omega⟩
    obtain ⟨s5, m1, m2⟩ := m_crd (F := F + 1) F0 H hal al1 al48 mr30 c3 Q Z hA1 hA2 hX6 w3 T16 (show e < mr by omega) hr hj hlo hst h0 hcl
    rw [m1, r_comp]
    generalize hR : r_seq (fun j => r_one Xs cp ua tbl al (r_nst cp c (M_pr P) st) (r_nbf cp c st bf) (sl j.1 j.2) j.1) (r_jobs cp ns nm c (decide (e + 1 = 1)) (List.range np)) (M_pr P, P.length) = R at m2 ⊢
    cases R with
    | inr er =>
      obtain ⟨n1, n2, n3⟩ := m2
      obtain ⟨w', b1, b2, b3⟩ := bad F e P.length s5 er n1 n2 n3
      exact ⟨w', b1, b2, b3, n3⟩
    | inl s' =>
      obtain ⟨D, D1, D2, D3, D4, D5, D6, D7⟩ := m2
      have len : (P ++ D).length = P.length + D.length := List.length_append
      have p48 := D2.2.1.2.2.1.2.1
      have pl := D2.2.1.2.2.1.1
      have es : s'.2 = P.length + D.length := by rw [D1]; exact len
      have l1 : (tl ++ [s'.2 - P.length]).length = e + 1 := by rw [List.length_append, e2]; rfl
      have tl5 : M_tl s5 c (tl ++ [s'.2 - P.length]) := by
        intro i hi
        rw [l1] at hi
        by_cases g : i = e
        · rw [g, D5, ← e2, z_gd_e, es, show P.length + D.length - P.length = D.length by omega]
        · rw [D6 _ (by omega), z_gd_l (by omega)]
          exact htl i (by omega)
      have stop : ∃ w', some ((), g_setAI s5 4372 c (Int32.ofNat (e + 1))) = some ((), w') ∧ M_cres w0 np nt Xs cp tw tbl al mr c w w' (.inl (s', r_nst cp c (M_pr P) st, r_nbf cp c st bf, tl ++ [s'.2 - P.length])) := by
        have W6 : z_W [] [4372] s5 (g_setAI s5 4372 c (Int32.ofNat (e + 1))) := z_W.re.sI (by decide) _ _
        refine ⟨_, rfl, P ++ D, D1, ⟨D2.1.trans (W6.mono (by decide) (by decide)), D2.2.1.mv W6 (by decide) (by decide), D2.2.2.1, by rw [W6.fi (by decide)]; exact D2.2.2.2.1, by rw [W6.fi (by decide)]; exact D2.2.2.2.2.1, D2.2.2.2.2.2⟩, ?_, ?_, ?_, ?_, fun j hj => ?_, fun j hj => ?_⟩
        · show r_J np Xs cp tw c (tl ++ [s'.2 - P.length]).length _ _ _
          rw [l1]; exact D3
        · intro i hi
          show g_AI (g_setAI s5 4372 c (Int32.ofNat (e + 1))) 4436 (32 * c + i) = _
          rw [W6.ai (a := 4436) (by decide)]
          exact tl5 i hi
        · show 1 ≤ (tl ++ [s'.2 - P.length]).length ∧ (tl ++ [s'.2 - P.length]).length ≤ mr
          rw [l1]; omega
        · show g_AI (g_setAI s5 4372 c (Int32.ofNat (e + 1))) 4372 c = Int32.ofNat (tl ++ [s'.2 - P.length]).length
          rw [x_AI_AI, if_pos ⟨rfl, rfl⟩, l1]
        · rw [W6.ai (a := 4436) (by decide)]; exact D6 j (by omega)
        · rw [x_AI_AI, if_neg (fun z => hj z.2), D7]
      have s197 : f_M_workComponent_197 (f_M_workComponent_107 (F + 1)) (some 1) (Int32.ofNat c) (Int32.ofNat mr) (z_g rc) (z_g alls) (Int32.ofNat (e + 1)) (Int32.ofNat P.length) 0 s5 = some ((), g_setAI s5 4372 c (Int32.ofNat (e + 1))) := by
        unfold f_M_workComponent_197
        rw [if_pos rfl]
        exact fin F (e + 1) P.length 0 s5 D2.1 (Or.inl rfl)
      show ∃ w', M_crt rc alls c mr e P.length (F + 1) s5 = some ((), w') ∧ M_cres w0 np nt Xs cp tw tbl al mr c w w' (if rc = false ∨ s'.2 = P.length then .inl (s', r_nst cp c (M_pr P) st, r_nbf cp c st bf, tl ++ [s'.2 - P.length]) else r_comp (fun st bf j => r_one Xs cp ua tbl al st bf (sl j.1 j.2) j.1) cp ns nm np c rc (f + 1) (e + 1 + 1) s' (r_nst cp c (M_pr P) st) (r_nbf cp c st bf) (tl ++ [s'.2 - P.length]))
      by_cases hgo : rc = true ∧ D.length ≠ 0
      · obtain ⟨hrc, g⟩ := hgo
        have tk : (P ++ D).take P.length = P := by rw [List.take_append_of_le_length (Nat.le_refl _), List.take_length]
        obtain ⟨w', i1, i2⟩ := ih (e + 1) (F + 1) s5 (P ++ D) (r_nst cp c (M_pr P) st) (r_nbf cp c st bf) (tl ++ [s'.2 - P.length]) P.length (by omega) l1 (by omega) D2 (by rw [← D1]; exact D3) (by omega) (fun q hq hc => by rw [tk]; unfold r_nst; rw [if_pos hc]) (fun z => by omega) (fun _ => ⟨hrc, by rw [← D1]; exact D4 hrc⟩) tl5
        rw [← D1] at i2
        refine ⟨w', ?_, ?_⟩
        · unfold M_crt
          rw [if_neg (by rw [hrc]; decide), x_gI, pl, len, if_neg (by rw [x_le (by omega) (by omega)]; omega)]
          unfold f_M_workComponent_197
          rw [if_neg (by decide), x_gI, D2.2.2.2.1, if_pos rfl, if_neg (by rw [x_eq (by omega) (by omega)]; omega)]
          exact i1
        · rw [if_neg (by rintro (q | q) <;> first | (rw [hrc] at q; cases q) | omega)]
          generalize r_comp (fun st bf j => r_one Xs cp ua tbl al st bf (sl j.1 j.2) j.1) cp ns nm np c rc (f + 1) (e + 1 + 1) s' (r_nst cp c (M_pr P) st) (r_nbf cp c st bf) (tl ++ [s'.2 - P.length]) = RR at i2 ⊢
          cases RR with
          | inr er => exact i2
          | inl x =>
            obtain ⟨P', p1, p2, p3, p4, p5, p6, p7, p8⟩ := i2
            exact ⟨P', p1, p2, p3, p4, p5, p6, fun j hj => by rw [p7 j hj]; exact D6 j (by omega), fun j hj => by rw [p8 j hj, D7]⟩
      · have c2 : rc = false ∨ s'.2 = P.length := by
          cases hrc : rc with
          | false => exact Or.inl rfl
          | true => exact Or.inr (by
              by_cases g : D.length = 0
              · omega
              · exact absurd ⟨hrc, g⟩ hgo)
        rw [if_pos c2]
        unfold M_crt
        cases hrc : rc with
        | false =>
          rw [if_pos (show z_g false = 0 from rfl)]
          rw [hrc] at s197
          rw [s197]
          exact stop
        | true =>
          rw [hrc] at c2 s197
          rw [if_neg (show ¬ z_g true = 0 from by decide), x_gI, pl, len, if_pos (by
            rcases c2 with q | q
            · cases q
            · rw [x_le (by omega) (by omega)]; omega), s197]
          exact stop
end
