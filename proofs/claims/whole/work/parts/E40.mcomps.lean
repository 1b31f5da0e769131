/-! RUNNING (reference): all components -/
def r_rcc (np : Nat) (cp : Nat → Nat) (rec : Nat → Bool) (c : Nat) : Bool := (List.range np).any fun q => decide (cp q = c) && rec q
def r_rca (np : Nat) (cp : Nat → Nat) (rec ua : Nat → Bool) (c : Nat) : Bool := (List.range np).any fun q => decide (cp q = c) && (rec q && ua q)
/-- what is known of the components -/
def r_cok (np : Nat) (Xs : Nat → r_Pt) (cp : Nat → Nat) (rec ua : Nat → Bool) (c : Nat) : Prop := (r_rca np cp rec ua c = true → ∀ q, q < np → cp q = c → ua q = true) ∧ (r_rca np cp rec ua c = false → r_rcc np cp rec c = true → ∀ q, q < np → cp q = c → ua q = false) ∧ (r_rcc np cp rec c = true → ∀ q, q < np → cp q = c → (rec q && ua q) = false → (Xs q).2.2.2 = true)
section
variable {w0 : g_St} {np nt : Nat} {Xs : Nat → r_Pt} {tw cp ns fs : Nat → Nat} {ua rec : Nat → Bool} {nm names : Nat → Nat → Bool} {sl : Nat → Nat → r_Sel} {tbl : Nat → List (Nat → Int64)} {al mr : Nat}
theorem m_c8 {c : Nat} (F0 : m_Fix w0) (H : M_stc w0 np nt Xs tw cp ns fs ua rec names sl) (c3 : c ≤ 3) {x2 : Int32} {w : g_St} {n : Nat} (K : M_K w0 w) (hn : g_I w 4929 1 = Int32.ofNat n) : ∀ (d q f : Nat) (a b : Bool), q + d = np → d < f → f_M_workComponent_8 f (some 1) (Int32.ofNat c) x2 (z_g a) (z_g b) (Int32.ofNat q) w = f_M_workComponent_107 200000 (some 1) (Int32.ofNat c) x2 (z_g (a || (List.range' q d).any fun q => decide (cp q = c) && rec q)) (z_g (b || (List.range' q d).any fun q => decide (cp q = c) && (rec q && ua q))) 0 (Int32.ofNat n) 1 w := by
  have H' := H.mv K
  have F := K.fx F0
  have np4 := H'.2.1
  intro d
  induction d with
  | zero =>
    intro q f a b e1 e2
    obtain ⟨f, rfl⟩ : ∃ m, f = m + 1 := ⟨f - 1, by omega⟩
    rw [f_M_workComponent_8, x_gI, H'.1, if_pos (by rw [x_le (by omega) (by omega)]; omega), x_gI, hn]
    show _ = f_M_workComponent_107 200000 (some 1) (Int32.ofNat c) x2 (z_g (a || false)) (z_g (b || false)) 0 (Int32.ofNat n) 1 w
    rw [Bool.or_false, Bool.or_false]
  | succ d ih =>
    intro q f a b e1 e2
    obtain ⟨f, rfl⟩ : ∃ m, f = m + 1 := ⟨f - 1, by omega⟩
    obtain ⟨⟨a1, a2, a3, -⟩, hu, ⟨r, r1, r2, r3⟩, -⟩ := H'.2.2 q (by omega)
    have f1 : g_R w 4801 1 = some 4052 ∧ g_ln w 4052 = 4 := F (4801, 4052, 4) (by decide)
    have f2 : g_R w 1921 1 = some 95 ∧ g_ln w 95 = 4 := F (1921, 95, 4) (by decide)
    have isr := m_isr F (show q < 4 by omega) r1 r2 r3
    -- the second flag
    have e46 : ∀ a' : Bool, f_M_workComponent_46 (f_M_workComponent_8 f) (some 1) (Int32.ofNat c) x2 (z_g b) (Int32.ofNat q) (z_g a') w = f_M_workComponent_107 200000 (some 1) (Int32.ofNat c) x2 (z_g (a' || (List.range' (q + 1) d).any fun q => decide (cp q = c) && rec q)) (z_g ((b || (decide (cp q = c) && (rec q && ua q))) || (List.range' (q + 1) d).any fun q => decide (cp q = c) && (rec q && ua q))) 0 (Int32.ofNat n) 1 w := fun a' => by
      have go := fun b' => ih (q + 1) f a' b' (by omega) (by omega)
      unfold f_M_workComponent_46
      cases b with
      | true =>
        rw [if_neg (show ¬ z_g true = 0 from by decide), x_p1, Bool.true_or]
        exact go true
      | false =>
        rw [if_pos (show z_g false = 0 from rfl), x_gR, f1.1, x_aI (by omega) (by omega), a2, Bool.false_or]
        by_cases hc : cp q = c
        · rw [if_pos (by rw [hc]), x_nn, isr, x_c, decide_eq_true hc, Bool.true_and, x_p1]
          cases hr : rec q with
          | false =>
            rw [if_pos (show z_g false = 0 from rfl), Bool.false_and]
            exact go false
          | true =>
            rw [if_neg (show ¬ z_g true = 0 from by decide), x_gR, f2.1, x_aI (by omega) (by omega), hu, Bool.true_and]
            cases hq : ua q with
            | false => rw [if_pos (show z_g false = 0 from rfl)]; exact go false
            | true => rw [if_neg (show ¬ z_g true = 0 from by decide)]; exact go true
        · rw [if_neg (by rw [x_eq (by omega) (by omega)]; exact hc), decide_eq_false hc, Bool.false_and, x_p1]
          exact go false
    rw [f_M_workComponent_8, x_gI, H'.1, if_neg (by rw [x_le (by omega) (by omega)]; omega), List.range'_succ, List.any_cons, List.any_cons, ← Bool.or_assoc, ← Bool.or_assoc]
    cases a with
    | true =>
      rw [if_neg (show ¬ z_g true = 0 from by decide), Bool.true_or]
      exact e46 true
    | false =>
      rw [if_pos (show z_g false = 0 from rfl), x_gR, f1.1, x_aI (by omega) (by omega), a2, Bool.false_or]
      by_cases hc : cp q = c
      · rw [if_pos (by rw [hc]), x_nn, isr, x_c]
        have hd : (decide (cp q = c) && rec q) = rec q := by rw [decide_eq_true hc, Bool.true_and]
        rw [hd]
        cases hr : rec q with
        | false => rw [if_pos (show z_g false = 0 from rfl)]; rw [hr] at e46; exact e46 false
        | true => rw [if_neg (show ¬ z_g true = 0 from by decide)]; rw [hr] at e46; exact e46 true
      · have hd : (decide (cp q = c) && rec q) = false := by rw [decide_eq_false hc, Bool.false_and]
        rw [if_neg (by rw [x_eq (by omega) (by omega)]; exact hc), hd]
        exact e46 false
theorem m_comp {c : Nat} (F0 : m_Fix w0) (H : M_stc w0 np nt Xs tw cp ns fs ua rec names sl) (hal : g_I w0 5441 1 = Int32.ofNat al) (al1 : 1 ≤ al) (al48 : al ≤ 48) (mr1 : 1 ≤ mr) (mr30 : mr ≤ 30) (c3 : c ≤ 3) (Q : r_qok np Xs cp ns nm names rec ua sl) (Z : r_stl np nt Xs cp tw ns sl) (hA : r_cok np Xs cp rec ua c) (w3 : ∀ q, q < np → (Xs q).1 ≤ 3) (T16 : ∀ t, t < nt → (tbl t).length ≤ 48) {w : g_St} {P : M_Pl} {st bf : Nat → Nat} (hr : M_rst w0 np nt Xs tw tbl al w P) (hj : r_JJ np Xs cp tw c st bf (M_pr P, P.length)) : ∃ w', f_M_workComponent (some 1) (Int32.ofNat c) (Int32.ofNat mr) w = some ((), w') ∧ M_cres w0 np nt Xs cp tw tbl al mr c w w' (r_comp (fun st bf j => r_one Xs cp ua tbl al st bf (sl j.1 j.2) j.1) cp ns nm np c (r_rcc np cp rec c) mr 1 (M_pr P, P.length) st bf []) := by
  have np4 := H.2.1
  obtain ⟨f, rfl⟩ : ∃ m, mr = m + 1 := ⟨mr - 1, by omega⟩
  have em : ∀ q, q < np → cp q = c → M_pr P q = [] ∧ st q = 0 := fun q hq hc => hj.2.2.2 q hq (by omega)
  obtain ⟨w', m1, m2⟩ := m_c107 (rc := r_rcc np cp rec c) (alls := r_rca np cp rec ua c) F0 H hal al1 al48 mr30 c3 Q Z hA.1 hA.2.1 hA.2.2 w3 T16 f 0 200000 w P st bf [] P.length (by omega) rfl (by omega) hr (r_J_S hj) (Nat.le_refl _) (fun q hq hc => by rw [List.take_length, (em q hq hc).1, (em q hq hc).2]; rfl) (fun _ => em) (fun z => by omega) (fun i hi => by cases hi)
  refine ⟨w', ?_, m2⟩
  unfold f_M_workComponent
  have e8 := m_c8 (x2 := Int32.ofNat (f + 1)) F0 H c3 hr.1 hr.2.1.2.2.1.1 np 0 200000 false false (by omega) (by omega)
  rw [Bool.false_or, Bool.false_or, ← List.range_eq_range'] at e8
  exact e8.trans m1
/-- what all components leave -/
def M_csr (w0 : g_St) (np nt : Nat) (Xs : Nat → r_Pt) (cp tw : Nat → Nat) (tbl : Nat → List (Nat → Int64)) (al mr nc : Nat) (w' : g_St) : (r_Rs × (Nat → Nat) × (Nat → Nat) × List (List Nat)) ⊕ Nat → Prop
  | .inl x => ∃ P : M_Pl, x.1 = (M_pr P, P.length) ∧ M_rst w0 np nt Xs tw tbl al w' P ∧ r_JJ np Xs cp tw nc x.2.1 x.2.2.1 x.1 ∧ x.2.2.2.length = nc ∧ ∀ n, n < nc → M_tl w' n (x.2.2.2.getD n []) ∧ g_AI w' 4372 n = Int32.ofNat (x.2.2.2.getD n []).length ∧ (1 ≤ (x.2.2.2.getD n []).length ∧ (x.2.2.2.getD n []).length ≤ mr)
  | .inr e => M_K w0 w' ∧ g_I w' 1 1 = Int32.ofNat (e + 1) ∧ e < 100
theorem m_comps {nc : Nat} (F0 : m_Fix w0) (H : M_stc w0 np nt Xs tw cp ns fs ua rec names sl) (hal : g_I w0 5441 1 = Int32.ofNat al) (hnc : g_I w0 4865 1 = Int32.ofNat nc) (nc4 : nc ≤ 4) (al1 : 1 ≤ al) (al48 : al ≤ 48) (mr1 : 1 ≤ mr) (mr30 : mr ≤ 30) (Q : r_qok np Xs cp ns nm names rec ua sl) (Z : r_stl np nt Xs cp tw ns sl) (hA : ∀ c, c < nc → r_cok np Xs cp rec ua c) (w3 : ∀ q, q < np → (Xs q).1 ≤ 3) (T16 : ∀ t, t < nt → (tbl t).length ≤ 48) : ∀ (d i F : Nat) (w : g_St) (P : M_Pl) (st bf : Nat → Nat) (tls : List (List Nat)), i + d = nc → tls.length = i → d < F → M_rst w0 np nt Xs tw tbl al w P → r_JJ np Xs cp tw i st bf (M_pr P, P.length) → (∀ n, n < i → M_tl w n (tls.getD n []) ∧ g_AI w 4372 n = Int32.ofNat (tls.getD n []).length ∧ (1 ≤ (tls.getD n []).length ∧ (tls.getD n []).length ≤ mr)) → ∃ w', f_M_run_73 F (some 1) (Int32.ofNat mr) (Int32.ofNat i) w = f_M_run_100 (some 1) w' ∧ M_csr w0 np nt Xs cp tw tbl al mr nc w' (r_comps (fun i s st bf => r_comp (fun st bf j => r_one Xs cp ua tbl al st bf (sl j.1 j.2) j.1) cp ns nm np i (r_rcc np cp rec i) mr 1 s st bf []) d i (M_pr P, P.length) st bf tls) := by
  intro d
  induction d with
  | zero =>
    intro i F w P st bf tls e1 e2 e3 hr hj ht
    obtain ⟨F, rfl⟩ : ∃ m, F = m + 1 := ⟨F - 1, by omega⟩
    rw [f_M_run_73, x_gI, hr.1.fi (by decide), hnc, if_pos (by rw [x_le (by omega) (by omega)]; omega)]
    exact ⟨w, rfl, P, rfl, hr, by rw [show nc = i by omega]; exact hj, by show tls.length = nc; omega, fun n hn => ht n (by omega)⟩
  | succ d ih =>
    intro i F w P st bf tls e1 e2 e3 hr hj ht
    obtain ⟨F, rfl⟩ : ∃ m, F = m + 1 := ⟨F - 1, by omega⟩
    obtain ⟨w1, m1, m2⟩ := m_comp (c := i) F0 H hal al1 al48 mr1 mr30 (by omega) Q Z (hA i (by omega)) w3 T16 hr hj
    rw [f_M_run_73, x_gI, hr.1.fi (by decide), hnc, if_neg (by rw [x_le (by omega) (by omega)]; omega), x_gI, hr.2.2.2.1, if_pos rfl, x_nn, m1, x_c, x_p1, r_comps]
    generalize r_comp (fun st bf j => r_one Xs cp ua tbl al st bf (sl j.1 j.2) j.1) cp ns nm np i (r_rcc np cp rec i) mr 1 (M_pr P, P.length) st bf [] = R at m2 ⊢
    cases R with
    | inr e =>
      obtain ⟨n1, n2, n3⟩ := m2
      obtain ⟨F, rfl⟩ : ∃ m, F = m + 1 := ⟨F - 1, by omega⟩
      refine ⟨w1, ?_, n1, n2, n3⟩
      rw [f_M_run_73, x_gI, n1.fi (by decide), hnc, x_gI, n2, if_neg (show ¬ Int32.ofNat (e + 1) = 0 from by
        rw [show (0 : Int32) = Int32.ofNat 0 from rfl]
        intro z
        rw [x_eq (by omega) (by omega)] at z
        omega), ite_self]
    | inl x =>
      obtain ⟨P', p1, p2, p3, p4, p5, p6, p7, p8⟩ := m2
      show ∃ w', _ ∧ M_csr w0 np nt Xs cp tw tbl al mr nc w' (r_comps (fun i s st bf => r_comp (fun st bf j => r_one Xs cp ua tbl al st bf (sl j.1 j.2) j.1) cp ns nm np i (r_rcc np cp rec i) mr 1 s st bf []) d (i + 1) x.1 x.2.1 x.2.2.1 (tls ++ [x.2.2.2]))
      rw [p1]
      rw [p1] at p3
      refine ih (i + 1) F w1 P' x.2.1 x.2.2.1 (tls ++ [x.2.2.2]) (by omega) (by rw [List.length_append, e2]; rfl) (by omega) p2 (r_J_E p3) (fun n hn => ?_)
      by_cases g : n = i
      · rw [g, ← e2, z_gd_e, e2]
        exact ⟨p4, p6, p5⟩
      · rw [z_gd_l (by omega)]
        obtain ⟨t1, t2, t3⟩ := ht n (by omega)
        exact ⟨fun k hk => by rw [p7 _ (by omega)]; exact t1 k hk, by rw [p8 n g]; exact t2, t3⟩
end
