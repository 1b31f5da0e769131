/-! RUNNING (reference): a selection is worked out for a part, against the engine -/
theorem r_fu_cg {rs rs' : Nat → List r_Row} : ∀ (d l : Nat) (ch : Nat → r_Row), (∀ k, l ≤ k → k < l + d → rs k = rs' k) → r_fu rs d l ch = r_fu rs' d l ch := by
  intro d
  induction d with
  | zero => intro l ch _; rfl
  | succ d ih =>
    intro l ch h
    rw [r_fu, r_fu, h l (by omega) (by omega)]
    exact congrArg (fun f => List.flatMap f (rs' l)) (funext fun a => ih (l + 1) _ (fun k h1 h2 => h k (by omega) (by omega)))
theorem r_cbs_mt {Xs : Nat → r_Pt} {cp tw : Nat → Nat} {ua : Nat → Bool} {pr : Nat → List r_Row} {tbl : Nat → List (Nat → Int64)} {st bf : Nat → Nat} {pc : Option Nat} {ms : List (Nat ⊕ Nat)} {cds : List r_Cd} {lv : Nat → Nat} {rs : Nat → List r_Row} (n3 : ms.length ≤ 3) (hcd : ∀ i, i < cds.length → lv i ≤ ms.length ∧ r_ucd Xs tw ms (lv i) (cds.getD i r_cd0)) (hrs : ∀ k, k < ms.length → rs k = r_pk (r_mkd cp Xs pc (r_ml ms k)) (r_rs cp ua pr tbl st bf pc (r_ml ms k))) : r_cbs cp Xs ua pr tbl st bf pc ms cds lv = r_mt (r_tb pr tbl) cds rs ms.length (r_all (fun k => (rs k).length) ms.length 0 (fun _ => 0)) := by
  unfold r_cbs
  rw [r_cl_fu (r_tb pr tbl) cds lv _ (fun i hi e ch he => r_ucd_dep (by have := (hcd i hi).1; omega) (hcd i hi).2 _ he) ms.length 0 _ (fun i hi => by have := (hcd i hi).1; omega), ← r_fu_cg (rs := rs) ms.length 0 _ (fun k _ h => hrs k (by omega)), r_fu_pc rs ms.length (fun _ => 0)]
  unfold r_mt
  refine congrArg (fun f => List.filter f _) (funext fun e => ?_)
  unfold r_cda
  refine congrArg (fun f => List.all (List.range cds.length) f) (funext fun i => ?_)
  rw [decide_eq_false (Nat.not_lt_zero _), Bool.false_or]
/-- what is there behind a selection -/
def M_one (w : g_St) (np nt : Nat) (Xs : Nat → r_Pt) (tw : Nat → Nat) (tbl : Nat → List (Nat → Int64)) (al p : Nat) (P : M_Pl) : r_Rs ⊕ Nat → Prop
  | .inl s => ∃ l : List r_Row, s = (M_pr (P ++ l.map fun r => (p, r)), (P ++ l.map fun r => (p, r)).length) ∧ M_st w np nt Xs tw tbl (P ++ l.map fun r => (p, r)) ∧ M_ro Xs (P ++ l.map fun r => (p, r)) ∧ g_I w 1 1 = 0 ∧ g_I w 5377 1 = 0 ∧ (P ++ l.map fun r => (p, r)).length ≤ al
  | .inr c => g_I w 1 1 = Int32.ofNat (c + 1)
section
variable {w : g_St} {np nt : Nat} {Xs : Nat → r_Pt} {tw : Nat → Nat} {tbl : Nat → List (Nat → Int64)} {s p al : Nat} {P : M_Pl} {cp : Nat → Nat} {ua : Nat → Bool} {st bf : Nat → Nat} {mask low high : Nat}
theorem m_wop {y : r_Sel} (S : M_st w np nt Xs tw tbl P) (H : M_psl w np nt Xs tw s p y.1 y.2.1 y.2.2.1) (hfd : g_AI w 159 s = z_g (!decide (r_gc y.1 = 0))) (hpcs : ∀ q, q < np → M_pcv w q (Xs q)) (hal : g_I w 5441 1 = Int32.ofNat al) (al1 : 1 ≤ al) (al48 : al ≤ 48) (c0 : g_I w 1 1 = 0) (c1 : g_I w 5377 1 = 0) (ro : M_ro Xs P) (le : P.length ≤ al) (hm16 : mask < 16) (hin : ∀ q, q < np → mask.testBit q = decide (cp p = cp q)) (lh : low ≤ high) (hh : high ≤ P.length) (hwin : ∀ q, q < np → cp p = cp q → st q = (M_pr (P.take high) q).length ∧ (if ua q = true then bf q else 0) = (M_pr (P.take low) q).length ∧ ((Xs q).2.2.1.isSome = true → p = q)) (hcd : ∀ i, i < y.2.2.1.length → y.2.2.2.1 i ≤ y.2.1.length ∧ r_ucd Xs tw y.2.1 (y.2.2.2.1 i) (y.2.2.1.getD i r_cd0)) (hz : ∀ i z, i < y.2.2.1.length → y.2.2.1.getD i r_cd0 = .inr z → z.1 ≠ .inl p) (htr : r_tr (Xs p) = true → (∀ k k', k < y.2.1.length → k' < y.2.1.length → r_ml y.2.1 k = .inl p → r_ml y.2.1 k' = .inl p → k = k') ∧ (r_gc y.1 ≠ 0 → ∀ k, k < y.2.1.length → r_ml y.2.1 k ≠ .inl p) ∧ ∀ r ∈ (M_pr P p).take (st p), r.length ≤ 29) : ∃ w', f_M_workOut (some 1) (Int32.ofNat s) (Int32.ofNat mask) (Int32.ofNat low) (Int32.ofNat high) w = some ((), w') ∧ M_one w' np nt Xs tw tbl al p P (r_one Xs cp ua tbl al st bf y p (M_pr P, P.length)) := by
  obtain ⟨its, ms, cds, lv, rk⟩ := y
  have H0 : M_psl w np nt Xs tw s p its ms cds := H
  obtain ⟨h1, h2, h3, h4, h5, h6, h7⟩ := H0
  have P2 := S.2.2.1.2.1
  obtain ⟨b, b1, b2, b3⟩ := h2.2.2.2
  have np4 := S.2.2.2.1
  have n3 : ms.length ≤ 3 := h1.2.1
  have hms : ∀ k, k < ms.length → M_ok np nt (r_ml ms k) := fun k hk => (b3 k hk).1
  -- gathering
  obtain ⟨w1, g1, g2, g3⟩ := m_gath S h1.1 n3 h1.2.2.1 b1 b2 b3 (sn := M_see Xs P p mask low high) (x2 := Int32.ofNat mask) (x3 := Int32.ofNat low) (x4 := Int32.ofNat high) (fun w1 hw1 q i r hq hr => m_seen (S.mv hw1 (by decide) (by decide)) h1.1 (by rw [hw1.ai (a := 2004) (by decide)]; exact h3) (by omega) hm16 (by omega) (by omega) hq ((hpcs q hq).mv (hw1.mono (by decide) (by decide))) hr)
  have K1 : M_K w w1 := g2.mono (by decide) (by decide)
  have S1 := S.mv g2 (by decide) (by decide)
  have H1 : M_psl w1 np nt Xs tw s p its ms cds := M_psl.mv K1 H
  have hcr := M_rsl_cr P tbl (M_see Xs P p mask low high) ms
  -- the rows of the sources
  have hrs : ∀ k, k < ms.length → M_rsl P tbl (M_see Xs P p mask low high) (r_ml ms k) = r_pk (r_mkd cp Xs (some p) (r_ml ms k)) (r_rs cp ua (M_pr P) tbl st bf (some p) (r_ml ms k)) := fun k hk => M_rsl_r lh (fun q hq => hin q (by have := hms k hk; rw [hq] at this; exact this)) (fun q hq hc => hwin q (by have := hms k hk; rw [hq] at this; exact this) hc)
  have ok : r_sok Xs p its ms cds (fun k => M_rsl P tbl (M_see Xs P p mask low high) (r_ml ms k)) := by
    refine ⟨hz, fun t => ?_⟩
    obtain ⟨t1, t2, t3⟩ := htr t
    refine ⟨t1, t2, fun k hk hq r hr => ?_⟩
    have hr' : r ∈ M_rsl P tbl (M_see Xs P p mask low high) (r_ml ms k) := hr
    rw [hrs k hk, hq] at hr'
    have hr2 := (List.mem_filter.mp (show r ∈ List.filter _ _ from hr')).1
    have hr3 : r ∈ (((M_pr P p).take (if r_in cp (some p) (.inl p) = true then st p else (M_pr P p).length)).drop (r_frm cp ua bf (some p) (.inl p))) := hr2
    have ri : r_in cp (some p) (.inl p) = true := by
      show decide (cp p = cp p) = true
      exact decide_eq_true rfl
    rw [if_pos ri] at hr3
    exact t3 r (List.mem_of_mem_drop hr3)
  have rel : M_prel w1 np nt Xs tw tbl al ms.length p (fun k => (M_ix P tbl (M_see Xs P p mask low high) (r_ml ms k)).map (M_xc (r_ml ms k))) P w1 (M_pr P p, P.length, false) := by
    refine ⟨z_W.re, g3, by rw [g2.fi (by decide)]; exact c0, by rw [g2.fi (by decide)]; exact c1, [], ?_, ?_, ?_, ?_⟩
    · rw [List.append_nil]; rfl
    · rw [List.map_nil, List.append_nil]; exact S1
    · rw [List.map_nil, List.append_nil]; exact ro
    · exact le
  have al1' : g_I w1 5441 1 = Int32.ofNat al := by rw [g2.fi (by decide)]; exact hal
  obtain ⟨w', m1, m2⟩ := m_wk (m_p1 H1 al1' hcr ok) m_p2 (fun g0 => m_p3 H1 al1' al48 hcr ok g0) (fun g0 => m_p4 (rs := fun k => M_rsl P tbl (M_see Xs P p mask low high) (r_ml ms k)) H1 al1' al48 ok g0) (fun e v a h => by
    have h' : a.2.2 = true := h
    show (r_put _ _ _ _).2.2 = true
    unfold r_put
    split
    · exact h'
    · split
      · exact h'
      · rfl) al1 al48 (fun k hk => by
    show ((M_ix P tbl _ (r_ml ms k)).map _).length ≤ 48
    rw [List.length_map]
    have l1 : (M_ix P tbl (M_see Xs P p mask low high) (r_ml ms k)).length ≤ M_nd P tbl (r_ml ms k) := Nat.le_trans (List.length_filter_le _ _) (by rw [List.length_range]; exact Nat.le_refl _)
    have hm := hms k hk
    cases hq : r_ml ms k with
    | inl q =>
      rw [hq] at l1
      have : M_nd P tbl (.inl q) = P.length := rfl
      omega
    | inr t =>
      rw [hq] at l1 hm
      have : M_nd P tbl (.inr t) = (tbl t).length := rfl
      have := (S.2.1.2 t hm).2.1
      omega) rel rfl (by rw [g2.ai (a := 159) (by decide)]; exact hfd)
  have e : f_M_workOut (some 1) (Int32.ofNat s) (Int32.ofNat mask) (Int32.ofNat low) (Int32.ofNat high) w = some ((), w') := by
    unfold f_M_workOut
    rw [x_nn, g1, x_c]
    exact m1
  refine ⟨w', e, ?_⟩
  have ec : r_cbs cp Xs ua (M_pr P) tbl st bf (some p) ms cds lv = r_mt (r_tb (M_pr P) tbl) cds (fun k => M_rsl P tbl (M_see Xs P p mask low high) (r_ml ms k)) ms.length (r_all (fun k => (M_rsl P tbl (M_see Xs P p mask low high) (r_ml ms k)).length) ms.length 0 (fun _ => 0)) := r_cbs_mt n3 hcd hrs
  unfold r_one
  show M_one w' np nt Xs tw tbl al p P (match r_work its al (fun ch v a => r_put (Xs p) al a (r_nrow (Xs p) v (r_par ms p ch))) (fun a => a.2.2) (r_cbs cp Xs ua (M_pr P) tbl st bf (some p) ms cds lv) (M_pr P p, P.length, false) with | .inl a => .inl (r_upd (M_pr P) p a.1, a.2.1) | .inr c => .inr c)
  rw [ec]
  generalize r_work its al (fun ch v a => r_put (Xs p) al a (r_nrow (Xs p) v (r_par ms p ch))) (fun a => a.2.2) (r_mt (r_tb (M_pr P) tbl) cds (fun k => M_rsl P tbl (M_see Xs P p mask low high) (r_ml ms k)) ms.length (r_all (fun k => (M_rsl P tbl (M_see Xs P p mask low high) (r_ml ms k)).length) ms.length 0 (fun _ => 0))) (M_pr P p, P.length, false) = R at m2 ⊢
  cases R with
  | inr c => exact m2
  | inl a =>
    obtain ⟨-, -, d0, d1, l, el, SS, rr, ll⟩ := m2
    have len : (P ++ l.map fun r => (p, r)).length = P.length + l.length := by rw [List.length_append, List.length_map]
    refine ⟨l, ?_, SS, rr, d0, d1, by rw [len]; exact ll⟩
    rw [el, len]
    refine Prod.ext (funext fun q => ?_) rfl
    show (if q = p then M_pr P p ++ l else M_pr P q) = M_pr (P ++ l.map fun r => (p, r)) q
    rw [M_pr_app, M_pr_own]
    by_cases g : q = p
    · rw [if_pos g, if_pos g, g]
    · rw [if_neg g, if_neg g, List.append_nil]
end
