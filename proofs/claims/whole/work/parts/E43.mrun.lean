/-! RUNNING (reference): a run, whole -/
/-- how many rows a part has in the end -/
theorem m_sizes {w0 : g_St} {np : Nat} {P : M_Pl} (F : m_Fix w0) (hp : g_I w0 4929 1 = Int32.ofNat P.length) (p48 : P.length ≤ 48) (hnp : g_I w0 1153 1 = Int32.ofNat np) (np4 : np ≤ 4) (hr : ∀ n q r, P[n]? = some (q, r) → q < np ∧ g_AI w0 4116 n = Int32.ofNat q) : ∃ w', f_M_run_174 200000 (some 1) 0 w0 = some (g_I w0 5377 1, w') ∧ z_W [] [4500] w0 w' ∧ ∀ q, q < np → g_AI w' 4500 q = Int32.ofNat (M_pr P q).length := by
  -- one part
  have inner : ∀ (k174 : Option Nat → Int32 → g_St → Option (Int32 × g_St)) (q : Nat), q < np → ∀ (d n f : Nat) (w : g_St), n + d = P.length → d < f → z_W [] [4500] w0 w → g_AI w 4500 q = Int32.ofNat (M_pr (P.take n) q).length → ∃ w', f_M_run_192 k174 f (some 1) (Int32.ofNat q) (Int32.ofNat n) w = k174 (some 1) (Int32.ofNat (q + 1)) w' ∧ z_W [] [4500] w0 w' ∧ g_AI w' 4500 q = Int32.ofNat (M_pr P q).length ∧ ∀ j, j ≠ q → g_AI w' 4500 j = g_AI w 4500 j := by
    intro k174 q hq d
    induction d with
    | zero =>
      intro n f w e1 e2 hw hc
      obtain ⟨f, rfl⟩ : ∃ m, f = m + 1 := ⟨f - 1, by omega⟩
      rw [f_M_run_192, x_gI, hw.fi (by decide), hp, if_pos (by rw [x_le (by omega) (by omega)]; omega), x_p1]
      refine ⟨w, rfl, hw, ?_, fun _ _ => rfl⟩
      rw [hc, List.take_of_length_le (by omega)]
    | succ d ih =>
      intro n f w e1 e2 hw hc
      obtain ⟨f, rfl⟩ : ∃ m, f = m + 1 := ⟨f - 1, by omega⟩
      have nl : n < P.length := by omega
      obtain ⟨x, hx⟩ : ∃ x, P[n]? = some x := ⟨_, List.getElem?_eq_getElem nl⟩
      obtain ⟨q', r'⟩ := x
      obtain ⟨h1, h2⟩ := hr n q' r' hx
      have F1 := hw.fx F
      have f1 : g_R w 5953 1 = some 4500 ∧ g_ln w 4500 = 4 := F1 (5953, 4500, 4) (by decide)
      have f2 : g_R w 4993 1 = some 4116 ∧ g_ln w 4116 = 50 := F1 (4993, 4116, 50) (by decide)
      have tk : P.take (n + 1) = P.take n ++ [(q', r')] := by
        rw [List.take_add_one, hx]
        rfl
      have mp : M_pr [(q', r')] q = if q' = q then [r'] else [] := by
        unfold M_pr
        rw [List.filterMap_cons]
        by_cases e : q' = q
        · rw [if_pos e, if_pos e]; rfl
        · rw [if_neg e, if_neg e]; rfl
      have len : (M_pr (P.take (n + 1)) q).length = (M_pr (P.take n) q).length + if q' = q then 1 else 0 := by
        rw [tk, M_pr_app, List.length_append, mp]
        by_cases e : q' = q
        · rw [if_pos e, if_pos e]; rfl
        · rw [if_neg e, if_neg e]; rfl
      have st : ∀ v, v = Int32.ofNat (M_pr (P.take (n + 1)) q).length → ∃ w', f_M_run_192 k174 f (some 1) (Int32.ofNat q) (Int32.ofNat (n + 1)) (g_setAI w 4500 q v) = k174 (some 1) (Int32.ofNat (q + 1)) w' ∧ z_W [] [4500] w0 w' ∧ g_AI w' 4500 q = Int32.ofNat (M_pr P q).length ∧ ∀ j, j ≠ q → g_AI w' 4500 j = g_AI w 4500 j := fun v hv => by
        obtain ⟨w', s1, s2, s3, s4⟩ := ih (n + 1) f (g_setAI w 4500 q v) (by omega) (by omega) (hw.sI (by decide) _ _) (by rw [x_AI_AI, if_pos ⟨rfl, rfl⟩]; exact hv)
        exact ⟨w', s1, s2, s3, fun j hj => by rw [s4 j hj, x_AI_AI, if_neg (fun z => hj z.2)]⟩
      rw [f_M_run_192, x_gI, hw.fi (by decide), hp, if_neg (by rw [x_le (by omega) (by omega)]; omega), x_gR, f1.1, x_aI (by omega) (by omega), hc, x_gR, f2.1, x_aI (by omega) (by omega), hw.ai (a := 4116) (by decide), h2, x_p1, x_p1]
      by_cases e : q' = q
      · rw [if_pos (by rw [e]), x_sI (by omega) (by omega)]
        exact st _ (by rw [len, if_pos e])
      · rw [if_neg (by rw [x_eq (by omega) (by omega)]; exact e), x_sI (by omega) (by omega)]
        exact st _ (by rw [len, if_neg e]; exact Int32.add_zero _)
  have outer : ∀ (d q f : Nat) (w : g_St), q + d = np → d < f → z_W [] [4500] w0 w → (∀ j, j < q → g_AI w 4500 j = Int32.ofNat (M_pr P j).length) → ∃ w', f_M_run_174 f (some 1) (Int32.ofNat q) w = some (g_I w0 5377 1, w') ∧ z_W [] [4500] w0 w' ∧ ∀ q, q < np → g_AI w' 4500 q = Int32.ofNat (M_pr P q).length := by
    intro d
    induction d with
    | zero =>
      intro q f w e1 e2 hw hj
      obtain ⟨f, rfl⟩ : ∃ m, f = m + 1 := ⟨f - 1, by omega⟩
      rw [f_M_run_174, x_gI, hw.fi (by decide), hnp, if_pos (by rw [x_le (by omega) (by omega)]; omega), x_gI, hw.fi (by decide)]
      exact ⟨w, rfl, hw, fun j hj' => hj j (by omega)⟩
    | succ d ih =>
      intro q f w e1 e2 hw hj
      obtain ⟨f, rfl⟩ : ∃ m, f = m + 1 := ⟨f - 1, by omega⟩
      have f1 : g_R w 5953 1 = some 4500 ∧ g_ln w 4500 = 4 := hw.fx F (5953, 4500, 4) (by decide)
      obtain ⟨w1, i1, i2, i3, i4⟩ := inner (f_M_run_174 f) q (by omega) P.length 0 200000 (g_setAI w 4500 q 0) (by omega) (by omega) (hw.sI (by decide) _ _) (by rw [x_AI_AI, if_pos ⟨rfl, rfl⟩, List.take_zero]; rfl)
      rw [f_M_run_174, x_gI, hw.fi (by decide), hnp, if_neg (by rw [x_le (by omega) (by omega)]; omega), x_gR, f1.1, x_sI (by omega) (by omega)]
      have i1' : f_M_run_192 (f_M_run_174 f) 200000 (some 1) (Int32.ofNat q) 0 (g_setAI w 4500 q 0) = f_M_run_174 f (some 1) (Int32.ofNat (q + 1)) w1 := i1
      rw [i1']
      refine ih (q + 1) f w1 (by omega) (by omega) i2 (fun j hj' => ?_)
      by_cases g : j = q
      · rw [g]; exact i3
      · rw [i4 j g, x_AI_AI, if_neg (fun z => g z.2)]
        exact hj j (by omega)
  exact outer np 0 200000 w0 (by omega) (by omega) z_W.re (fun j hj => by omega)
/-- what a run leaves -/
def M_fnr (w0 w' : g_St) (r : Int32) (mr wd n nc np : Nat) (XK : Nat → r_Pt) : (List r_An × List (List Nat) × (Nat → List r_Row)) ⊕ Nat → Prop
  | .inr c => r = 0 ∧ g_I w' 1 1 = Int32.ofNat (c + 1) ∧ c < 100 ∧ g_I w' 1089 1 = g_I w0 1089 1
  | .inl a => r = Int32.ofNat a.1.length ∧ g_I w' 1 1 = 0 ∧ g_I w' 1089 1 = 1 ∧ g_I w' 6017 1 = Int32.ofNat np ∧ g_I w' 5889 1 = Int32.ofNat nc ∧ g_I w' 5633 1 = Int32.ofNat wd ∧ g_I w' 5377 1 = Int32.ofNat a.1.length ∧ a.1.length ≤ 48 ∧ (∀ i, i < a.1.length → ∀ j, j < wd → g_AL w' 981 (4 * i + j) = (a.1.getD i r_an0).1 j) ∧ (∀ i, i < a.1.length → g_AI w' 4308 i = Int32.ofNat ((r_srt (fun x y => decide (r_car wd n XK (a.1.getD x r_an0) (a.1.getD y r_an0) < 0)) a.1.length).getD i 0)) ∧ a.2.1.length = nc ∧ (∀ n, n < nc → M_tl w' n (a.2.1.getD n []) ∧ g_AI w' 4372 n = Int32.ofNat (a.2.1.getD n []).length ∧ (1 ≤ (a.2.1.getD n []).length ∧ (a.2.1.getD n []).length ≤ mr)) ∧ ∀ q, q < np → g_AI w' 4500 q = Int32.ofNat (a.2.2 q).length
section
variable {w0 : g_St} {np nt : Nat} {Xs : Nat → r_Pt} {tw cp ns fs : Nat → Nat} {ua rec : Nat → Bool} {nm names : Nat → Nat → Bool} {sl : Nat → Nat → r_Sel} {tbl : Nat → List (Nat → Int64)} {al mr nc so : Nat} {ow : r_Sel} {ks : List (Nat × Nat)} {pp : Nat → Nat}
theorem m_run73 (H : M_stc w0 np nt Xs tw cp ns fs ua rec names sl) (hal : g_I w0 5441 1 = Int32.ofNat al) (hnc : g_I w0 4865 1 = Int32.ofNat nc) (nc4 : nc ≤ 4) (al1 : 1 ≤ al) (al48 : al ≤ 48) (mr1 : 1 ≤ mr) (mr30 : mr ≤ 30) (Q : r_qok np Xs cp ns nm names rec ua sl) (Z : r_stl np nt Xs cp tw ns sl) (hA : ∀ c, c < nc → r_cok np Xs cp rec ua c) (S0 : M_st w0 np nt Xs tw tbl []) (c0 : g_I w0 1 1 = 0) (c1 : g_I w0 5377 1 = 0) (T : ∀ t, t < nt → ∀ c ∈ tbl t, ∀ j, j < tw t → r_oor (c j) = false) (hso : g_I w0 2177 1 = Int32.ofNat (so + 1)) (Ho : M_osl w0 np nt Xs tw so ow.1 ow.2.1 ow.2.2.1 ks) (hfo : g_AI w0 159 so = z_g (!decide (r_gc ow.1 = 0))) (hcd : ∀ i, i < ow.2.2.1.length → ow.2.2.2.1 i ≤ ow.2.1.length ∧ r_ucd Xs tw ow.2.1 (ow.2.2.2.1 i) (ow.2.2.1.getD i r_cd0)) (Wo : r_wsl np nt Xs cp tw none ow) (hkk : r_kok Xs tw ow.2.1 ks pp) (hgk : r_gc ow.1 ≠ 0 → ks = []) (hpp : ∀ k, k < ks.length → (ks.getD k (0, 0)).2 = 4 → pp k < np ∧ (Xs (pp k)).2.1.isSome = true) : ∃ r w', f_M_run_73 200000 (some 1) (Int32.ofNat mr) 0 w0 = some (r, w') ∧ M_fnr w0 w' r mr ow.1.length ks.length nc np (fun k => Xs (pp k)) (r_run Xs cp ua tbl ns nm sl (r_rcc np cp rec) np nc ow ks mr al) := by
  have F0 := S0.1
  have np4 := H.2.1
  have w3 := S0.2.2.2.2
  have T16 : ∀ t, t < nt → (tbl t).length ≤ 48 := fun t ht => by have := (S0.2.1.2 t ht).2.1; omega
  obtain ⟨w1, m1, m2⟩ := m_comps (nm := nm) F0 H hal hnc nc4 al1 al48 mr1 mr30 Q Z hA w3 T16 nc 0 200000 w0 [] (fun _ => 0) (fun _ => 0) [] (by omega) rfl (by omega) ⟨z_W.re, S0, fun x hx => (by cases hx), c0, c1, Nat.zero_le _⟩ ⟨fun q _ x hx => (by cases hx), fun q _ => Nat.le_refl _, by decide, fun q _ _ => ⟨rfl, rfl⟩⟩ (fun n hn => by omega)
  have m1' : f_M_run_73 200000 (some 1) (Int32.ofNat mr) 0 w0 = f_M_run_100 (some 1) w1 := m1
  have hm0 : M_pr [] = fun _ => [] := rfl
  have m2' : M_csr w0 np nt Xs cp tw tbl al mr nc w1 (r_comps (fun i s st bf => r_comp (fun st bf j => r_one Xs cp ua tbl al st bf (sl j.1 j.2) j.1) cp ns nm np i (r_rcc np cp rec i) mr 1 s st bf []) nc 0 (fun _ => [], 0) (fun _ => 0) (fun _ => 0) []) := m2
  have KT := fun z h => r_run_KT (np := np) (nt := nt) (Xs := Xs) (cp := cp) (tw := tw) (ns := ns) (ua := ua) (tbl := tbl) (al := al) (mr := mr) (nm := nm) (sl := sl) (rc := r_rcc np cp rec) (nc := nc) al48 Z w3 T16 (z := z) h
  rw [m1']
  unfold r_run
  have K1 : M_K w0 w1 := by
    generalize r_comps (fun i s st bf => r_comp (fun st bf j => r_one Xs cp ua tbl al st bf (sl j.1 j.2) j.1) cp ns nm np i (r_rcc np cp rec i) mr 1 s st bf []) nc 0 (fun _ => [], 0) (fun _ => 0) (fun _ => 0) [] = R at m2'
    cases R with
    | inr e => exact m2'.1
    | inl z => obtain ⟨P, -, p2, -⟩ := m2'; exact p2.1
  have F1 := K1.fx F0
  have Ho1 := Ho.mv K1
  have so17 := Ho.1.1
  have f1 : g_R w1 2433 1 = some 2196 ∧ g_ln w1 2196 = 17 := F1 (2433, 2196, 17) (by decide)
  have hso1 : g_I w1 2177 1 = Int32.ofNat (so + 1) := by rw [K1.fi (by decide)]; exact hso
  obtain ⟨s4, hs4⟩ : ∃ s4, s4 = g_setI w1 5633 1 (Int32.ofNat ow.1.length) := ⟨_, rfl⟩
  have W4 : z_W [5633] [] w1 s4 := by rw [hs4]; exact z_W.re.pI (by decide) _
  have K4 : M_K w0 s4 := K1.trans (W4.mono (by decide) (by decide))
  have c4 : g_I s4 1 1 = g_I w1 1 1 := W4.fi (by decide)
  have e100 : f_M_run_100 (some 1) w1 = if g_I w1 1 1 = 0 then (g_gI s4 4929 (some 1) fun i7 => g_c (f_M_workOut (some 1) (Int32.ofNat so) 0 0 i7 s4) fun _ s9 => f_M_run_138 (some 1) s9) else f_M_run_138 (some 1) s4 := by
    unfold f_M_run_100
    rw [x_gR, f1.1, x_gI, hso1, x_m1, x_aI (by omega) (by omega), Ho1.1.2.2.2.1, x_pI, ← hs4, x_gI, c4, x_gI, show g_I s4 2177 1 = Int32.ofNat (so + 1) by rw [W4.fi (by decide)]; exact hso1, x_m1]
    rfl
  -- with an error the run ends
  have eend : ∀ (s : g_St) (e : Nat), g_I s 1 1 = Int32.ofNat (e + 1) → e < 100 → f_M_run_138 (some 1) s = some (0, s) := fun s e he h1 => by
    unfold f_M_run_138
    rw [x_gI, he, if_neg (by rw [show (0 : Int32) = Int32.ofNat 0 from rfl, x_le (by omega) (by omega)]; omega)]
  rw [e100]
  generalize hR : r_comps (fun i s st bf => r_comp (fun st bf j => r_one Xs cp ua tbl al st bf (sl j.1 j.2) j.1) cp ns nm np i (r_rcc np cp rec i) mr 1 s st bf []) nc 0 (fun _ => [], 0) (fun _ => 0) (fun _ => 0) [] = R at m2' KT ⊢
  cases R with
  | inr e =>
    obtain ⟨-, n2, n3⟩ := m2'
    rw [if_neg (by
      rw [n2, show (0 : Int32) = Int32.ofNat 0 from rfl]
      intro z
      rw [x_eq (by omega) (by omega)] at z
      omega), eend s4 e (by rw [c4]; exact n2) n3]
    exact ⟨0, s4, rfl, rfl, by rw [c4]; exact n2, n3, K4.fi (by decide)⟩
  | inl z =>
    obtain ⟨P, p1, p2, p3, p4, p5⟩ := m2'
    obtain ⟨kt1, kt2⟩ := KT z rfl
    have S4 : M_st s4 np nt Xs tw tbl P := p2.2.1.mv W4 (by decide) (by decide)
    have P48 := S4.2.2.1.2.1
    have Ho4 := Ho.mv K4
    have H4 := H.mv K4
    obtain ⟨w5, o1, o2⟩ := m_woa (cp := cp) (ua := ua) (st := z.2.1) (bf := z.2.2.1) (y := ow) (pp := pp) S4 Ho4 (by rw [K4.ai (a := 159) (by decide)]; exact hfo) (fun q hq => (H4.2.2 q hq).1.1) (by rw [K4.fi (by decide)]; exact hal) al1 al48 (by rw [c4]; exact p2.2.2.2.1) (by rw [W4.fi (by decide)]; exact p2.2.2.2.2.1) p2.2.2.2.2.2 hcd hkk hgk
    have W5 := w_M_workOut _ _ _ _ _ (K4.fx F0) o1
    have K5 : M_K w0 w5 := K4.trans (W5.mono (by decide) (by decide))
    rw [if_pos p2.2.2.2.1, x_gI, S4.2.2.1.1, o1, x_c]
    have AO := fun a h => r_ans_ok (np := np) (nt := nt) (Xs := Xs) (cp := cp) (tw := tw) (ua := ua) (tbl := tbl) (al := al) (y := ow) (ks := ks) (pp := pp) (st := z.2.1) (bf := z.2.2.1) (pr := M_pr P) (tot := P.length) (a := a) (n0 := P.length) Wo (by rw [p1] at kt1; exact kt1.1) (by rw [p1] at kt2; exact kt2) (fun q hq => by
      have : (M_pr P q).length ≤ P.length := List.length_filterMap_le _ _
      omega) T T16 hkk (fun q b c hq h => ((H.2.2 q hq).1.1.2.2.2.2.1 b c h).2.2) hgk h
    show ∃ r w', f_M_run_138 (some 1) w5 = some (r, w') ∧ M_fnr w0 w' r mr ow.1.length ks.length nc np (fun k => Xs (pp k)) (match r_work ow.1 al (fun ch v a => r_putA al a (v, ks.map (r_key ch))) (fun a => a.2.2) (r_cbs cp Xs ua z.1.1 tbl z.2.1 z.2.2.1 none ow.2.1 ow.2.2.1 ow.2.2.2.1) ([], z.1.2, false) with | .inr c => .inr c | .inl a => .inl (a.1, z.2.2.2, z.1.1))
    rw [p1]
    show ∃ r w', f_M_run_138 (some 1) w5 = some (r, w') ∧ M_fnr w0 w' r mr ow.1.length ks.length nc np (fun k => Xs (pp k)) (match r_work ow.1 al (fun ch v a => r_putA al a (v, ks.map (r_key ch))) (fun a => a.2.2) (r_cbs cp Xs ua (M_pr P) tbl z.2.1 z.2.2.1 none ow.2.1 ow.2.2.1 ow.2.2.2.1) ([], P.length, false) with | .inr c => .inr c | .inl a => .inl (a.1, z.2.2.2, M_pr P))
    have hE : ∀ e, r_work ow.1 al (fun ch v a => r_putA al a (v, ks.map (r_key ch))) (fun a => a.2.2) (r_cbs cp Xs ua (M_pr P) tbl z.2.1 z.2.2.1 none ow.2.1 ow.2.2.1 ow.2.2.2.1) ([], P.length, false) = .inr e → e < 100 := fun e h => by
      unfold r_work at h
      split at h
      · rw [← Sum.inr.inj h]; decide
      · split at h
        · split at h
          · rw [← Sum.inr.inj h]; decide
          · cases h
        · split at h
          · rw [← Sum.inr.inj h]; decide
          · split at h
            · rw [← Sum.inr.inj h]; decide
            · split at h
              · rw [← Sum.inr.inj h]; decide
              · cases h
    generalize r_work ow.1 al (fun ch v a => r_putA al a (v, ks.map (r_key ch))) (fun a => a.2.2) (r_cbs cp Xs ua (M_pr P) tbl z.2.1 z.2.2.1 none ow.2.1 ow.2.2.1 ow.2.2.2.1) ([], P.length, false) = RR at o2 AO hE ⊢
    cases RR with
    | inr e =>
      have o3 : g_I w5 1 1 = Int32.ofNat (e + 1) := o2
      have e100' := hE e rfl
      rw [eend w5 e o3 e100']
      exact ⟨0, w5, rfl, rfl, o3, e100', K5.fi (by decide)⟩
    | inl a =>
      obtain ⟨d0, S5, A5⟩ := o2
      have H5 := H.mv K5
      have Ho5 := Ho.mv K5
      have h5633 : g_I w5 5633 1 = Int32.ofNat ow.1.length := by
        rw [W5.fi (by decide), hs4, x_I_I, if_pos ⟨rfl, rfl⟩]
      have a48 := A5.2.1
      have F5 := K5.fx F0
      have wd4 : ow.1.length ≤ 4 := Ho.1.2.2.2.2.2.2.1.2.1
      have g1 : g_R w5 5697 1 = some 4308 ∧ g_ln w5 4308 = 50 := F5 (5697, 4308, 50) (by decide)
      obtain ⟨w6, t1, t2, t3⟩ := m_sort (w0 := w5) (n := a.1.length) (c := fun x y => r_car ow.1.length ks.length (fun k => Xs (pp k)) (a.1.getD x r_an0) (a.1.getD y r_an0)) A5.1 g1.1 g1.2 (fun s x y F hx hy => by
        have WF : z_W [] [4308] w5 s := ⟨F.1.1, F.1.2.1, F.1.2.2.1, F.1.2.2.2.2.1, F.1.2.2.2.1, F.1.2.2.2.2.2.1, F.1.2.2.2.2.2.2.1, fun k b _ => by rw [F.1.2.2.2.2.2.2.2.1], fun b hb => ⟨F.2 b (fun e => hb (by rw [e]; decide)), by rw [F.1.2.2.2.2.2.2.2.2]⟩⟩
        exact m_can (S5.mv WF (by decide) (by decide)) (fun q hq => ((H5.2.2 q hq).1.1).mv (WF.mono (by decide) (by decide))) (Ho5.2.2.2.mv WF (by decide) (by decide) (by decide)) (A5.mv WF (by decide) (by decide) (by decide)) (by rw [WF.fi (by decide)]; exact h5633) wd4 hpp (AO a rfl) hx hy) (by omega)
      have W6 := w_M_sort w5 F5 t1
      -- the last fields
      obtain ⟨s8, hs8⟩ : ∃ s8, s8 = g_setI (g_setI (g_setI w6 1089 1 1) 6017 1 (Int32.ofNat np)) 5889 1 (Int32.ofNat nc) := ⟨_, rfl⟩
      have W8 : z_W [1089, 5889, 6017] [4308] w5 s8 := by
        rw [hs8]
        exact (((W6.mono (by decide) (by decide)).pI (by decide) _).pI (by decide) _).pI (by decide) _
      obtain ⟨w9, z1, z2, z3⟩ := m_sizes (w0 := s8) (np := np) (P := P) (W8.fx F5) (by rw [W8.fi (by decide)]; exact S5.2.2.1.1) P48 (by rw [W8.fi (by decide)]; exact H5.1) np4 (fun n q r hr => by
        obtain ⟨y1, y2, -⟩ := S5.2.2.1.2.2 n q r hr
        exact ⟨y1, by rw [W8.ai (a := 4116) (by decide)]; exact y2⟩)
      have e138 : f_M_run_138 (some 1) w5 = some (g_I s8 5377 1, w9) := by
        unfold f_M_run_138
        rw [x_gI, d0, if_pos (by decide), x_nn, t1, x_c, show ∀ (F : g_St → Option (Int32 × g_St)), g_pZ w6 1089 (some 1) 1 F = g_pZ w6 1089 (some 1) (z_g true) F from fun _ => rfl, x_pZ, x_gI, show g_I (g_setI w6 1089 1 (z_g true)) 1153 1 = Int32.ofNat np from by rw [x_I_I, if_neg (fun z => absurd z.1 (by decide)), W6.fi (by decide)]; exact H5.1, x_pI, x_gI, show g_I (g_setI (g_setI w6 1089 1 (z_g true)) 6017 1 (Int32.ofNat np)) 4865 1 = Int32.ofNat nc from by rw [x_I_I, if_neg (fun z => absurd z.1 (by decide)), x_I_I, if_neg (fun z => absurd z.1 (by decide)), W6.fi (by decide), K5.fi (by decide)]; exact hnc, x_pI]
        rw [hs8] at z1
        rw [hs8]
        exact z1
      have i8 : ∀ k, k ≠ 1089 → k ≠ 5889 → k ≠ 6017 → g_I w9 k 1 = g_I w5 k 1 := fun k h1 h2 h3 => by
        rw [z2.fi (List.not_mem_nil), W8.fi (by
          intro q
          rcases List.mem_cons.mp q with q | q
          · exact h1 q
          · rcases List.mem_cons.mp q with q | q
            · exact h2 q
            · exact h3 (List.mem_singleton.mp q))]
      have tt : ∀ n, n < nc → M_tl w5 n (z.2.2.2.getD n []) ∧ g_AI w5 4372 n = Int32.ofNat (z.2.2.2.getD n []).length ∧ (1 ≤ (z.2.2.2.getD n []).length ∧ (z.2.2.2.getD n []).length ≤ mr) := fun n hn => by
        obtain ⟨q1, q2, q3⟩ := p5 n hn
        exact ⟨fun i hi => by rw [W5.ai (a := 4436) (by decide), W4.ai (a := 4436) (by decide)]; exact q1 i hi, by rw [W5.ai (a := 4372) (by decide), W4.ai (a := 4372) (by decide)]; exact q2, q3⟩
      refine ⟨_, w9, e138, ?_, ?_, ?_, ?_, ?_, ?_, ?_, a48, fun i hi j hj => ?_, fun i hi => ?_, p4, fun n hn => ?_, z3⟩
      · rw [W8.fi (by decide)]; exact A5.1
      · rw [i8 1 (by decide) (by decide) (by decide)]; exact d0
      · rw [z2.fi (by decide), hs8, x_I_I, if_neg (fun z => absurd z.1 (by decide)), x_I_I, if_neg (fun z => absurd z.1 (by decide)), x_I_I, if_pos ⟨rfl, rfl⟩]
      · rw [z2.fi (by decide), hs8, x_I_I, if_neg (fun z => absurd z.1 (by decide)), x_I_I, if_pos ⟨rfl, rfl⟩]
      · rw [z2.fi (by decide), hs8, x_I_I, if_pos ⟨rfl, rfl⟩]
      · rw [i8 5633 (by decide) (by decide) (by decide)]; exact h5633
      · rw [i8 5377 (by decide) (by decide) (by decide)]; exact A5.1
      · rw [z2.al (a := 981) (by decide), W8.al (a := 981) (by decide)]
        exact (A5.2.2 i hi).1 j hj
      · rw [z2.ai (a := 4308) (by decide), show g_AI s8 4308 = g_AI w6 4308 from by rw [hs8]; rfl, t3 i hi]
        have ef : (fun x y => decide (0 < r_car ow.1.length ks.length (fun k => Xs (pp k)) (a.1.getD y r_an0) (a.1.getD x r_an0))) = fun x y => decide (r_car ow.1.length ks.length (fun k => Xs (pp k)) (a.1.getD x r_an0) (a.1.getD y r_an0) < 0) := funext fun x => funext fun y => r_car_lt _ _ _ _ _
        rw [ef]
      · obtain ⟨q1, q2, q3⟩ := tt n hn
        exact ⟨fun i hi => by rw [z2.ai (a := 4436) (by decide), W8.ai (a := 4436) (by decide)]; exact q1 i hi, by rw [z2.ai (a := 4372) (by decide), W8.ai (a := 4372) (by decide)]; exact q2, q3⟩
end
