/-! RUNNING (reference): the state of a run -/
def M_RI : List Nat := [1, 4929, 5377, 5633, 6337]
def M_RA : List Nat := [789, 853, 917, 981, 1045, 1109, 1173, 4116, 4180, 4244, 4308, 4372, 4436, 4500, 4564, 4628, 4692, 4756]
theorem z_W.ai {wI wA : List Nat} {u w : g_St} (h : z_W wI wA u w) {a : Nat} (ha : a ∉ wA) : g_AI w a = g_AI u a := (h.2.2.2.2.2.2.2.2 a ha).1
theorem z_W.al {wI wA : List Nat} {u w : g_St} (h : z_W wI wA u w) {a : Nat} (ha : a ∉ wA) : g_AL w a = g_AL u a := (h.2.2.2.2.2.2.2.2 a ha).2
theorem z_W.fi {wI wA : List Nat} {u w : g_St} (h : z_W wI wA u w) {k : Nat} (hk : k ∉ wI) : g_I w k 1 = g_I u k 1 := h.2.2.2.2.2.2.2.1 k 1 (fun q => hk q.2)
theorem z_W.rs {wI wA : List Nat} {u w : g_St} (h : z_W wI wA u w) : g_R w = g_R u := h.2.2.2.2.1
/-- only run's own arrays are written -/
abbrev M_K (u w : g_St) : Prop := z_W M_RI M_RA u w
theorem M_vop.mv {u w : g_St} (h : M_K u w) {mc : Nat → Nat → Nat} {t : Nat} {o : r_Op} (q : M_vop u mc t o) : M_vop w mc t o := by
  unfold M_vop at q ⊢
  rw [h.ai (a := 2836) (by decide), h.ai (a := 2772) (by decide), h.ai (a := 2900) (by decide), h.al (a := 725) (by decide), h.ai (a := 2964) (by decide), h.ai (a := 3028) (by decide)]
  exact q
theorem M_vex.mv {u w : g_St} (h : M_K u w) {mc : Nat → Nat → Nat} {e : Nat} {L : List r_Op} (q : M_vex u mc e L) : M_vex w mc e L := by
  obtain ⟨q1, q2, q3, b, q4, q5, q6⟩ := q
  exact ⟨q1, q2, by rw [h.ai (a := 2708) (by decide)]; exact q3, b, by rw [h.ai (a := 2644) (by decide)]; exact q4, q5, fun j hj => (q6 j hj).mv h⟩
theorem M_vcp.mv {u w : g_St} (h : M_K u w) {mc : Nat → Nat → Nat} {c : Nat} {x : r_Cp} (q : M_vcp u mc c x) : M_vcp w mc c x := by
  obtain ⟨q1, ⟨e, q2, q3⟩, q4⟩ := q
  refine ⟨q1, ⟨e, by rw [h.ai (a := 3412) (by decide)]; exact q2, q3.mv h⟩, ?_⟩
  rw [h.ai (a := 3284) (by decide), h.ai (a := 3476) (by decide), h.ai (a := 3348) (by decide)]
  rcases q4 with q | ⟨q5, q6, ⟨e', q7, q8⟩, q9⟩
  · exact Or.inl q
  · exact Or.inr ⟨q5, q6, ⟨e', q7, q8.mv h⟩, q9⟩
theorem M_vit.mv {u w : g_St} (h : M_K u w) {mc : Nat → Nat → Nat} {s : Nat} {its : List r_It} (q : M_vit u mc s its) : M_vit w mc s its := by
  obtain ⟨q1, q2, i0, q3, q4, q5⟩ := q
  refine ⟨q1, q2, i0, by rw [h.ai (a := 2132) (by decide)]; exact q3, q4, fun j hj => ?_⟩
  rw [h.ai (a := 2516) (by decide), h.ai (a := 2580) (by decide)]
  obtain ⟨a, b⟩ := q5 j hj
  refine ⟨a, fun n => ?_⟩
  obtain ⟨e, e1, e2⟩ := b n
  exact ⟨e, e1, e2.mv h⟩
/-- sources: their codes, their columns, how many rows are looked at, and which -/
def M_mc : Nat ⊕ Nat → Nat
  | .inl q => 10 + q
  | .inr t => t
def M_col (Xs : Nat → r_Pt) : Nat ⊕ Nat → Nat → Nat
  | .inl q, j => if j = 3 then (Xs q).1 else j
  | .inr _, j => j
def r_W (Xs : Nat → r_Pt) (tw : Nat → Nat) : Nat ⊕ Nat → Nat → Prop
  | .inl q, j => j < (Xs q).1 ∨ (j = 3 ∧ (Xs q).2.2.1.isSome = true)
  | .inr t, j => j < tw t
abbrev M_Pl : Type := List (Nat × r_Row)
def M_nd (P : M_Pl) (tbl : Nat → List (Nat → Int64)) : Nat ⊕ Nat → Nat
  | .inl _ => P.length
  | .inr t => (tbl t).length
def M_xc : Nat ⊕ Nat → Nat → Nat
  | .inl _, i => 100 + i
  | .inr t, i => 16 * t + i
def M_at (P : M_Pl) (tbl : Nat → List (Nat → Int64)) : Nat ⊕ Nat → Nat → Option r_Row
  | .inl q, i => P[i]?.bind fun x => if x.1 = q then some x.2 else none
  | .inr t, i => (tbl t)[i]?.map fun c => [c]
def M_pr (P : M_Pl) (q : Nat) : List r_Row := P.filterMap fun x => if x.1 = q then some x.2 else none
theorem z_rg_fm {α β : Type} (f : α → Option β) : ∀ (l : List α), (List.range l.length).filterMap (fun i => l[i]?.bind f) = l.filterMap f := by
  intro l
  induction l with
  | nil => rfl
  | cons a l ih =>
    rw [List.length_cons, List.range_succ_eq_map, List.filterMap_cons, List.filterMap_map, List.filterMap_cons]
    have e : ((fun i => (a :: l)[i]?.bind f) ∘ Nat.succ) = fun i => l[i]?.bind f := by
      funext i
      show (a :: l)[i + 1]?.bind f = _
      rw [List.getElem?_cons_succ]
    rw [e, ih]
    rfl
theorem M_rws (P : M_Pl) (tbl : Nat → List (Nat → Int64)) (m : Nat ⊕ Nat) : (List.range (M_nd P tbl m)).filterMap (M_at P tbl m) = r_rws (M_pr P) tbl m := by
  cases m with
  | inl q => exact z_rg_fm _ P
  | inr t =>
    have e := z_rg_fm (fun c => some ([c] : r_Row)) (tbl t)
    have f : (fun i => (tbl t)[i]?.bind fun c => some ([c] : r_Row)) = M_at P tbl (.inr t) := by
      funext i
      show _ = (tbl t)[i]?.map _
      cases (tbl t)[i]? <;> rfl
    rw [f] at e
    show _ = (tbl t).map _
    rw [← List.filterMap_eq_map]
    exact e
/-- a row that came -/
def M_row (w : g_St) (X : r_Pt) (n : Nat) (r : r_Row) : Prop := (∀ j, j < X.1 → g_AL w 789 (4 * n + j) = r_hd r j) ∧ (X.2.2.1.isSome = true → g_AL w 789 (4 * n + X.1) = r_hd r 3) ∧ (1 ≤ r.length ∧ r.length ≤ 30) ∧ (X.2.1 = none → g_AI w 4180 n = 0) ∧ (∀ b c, X.2.1 = some (b, c) → g_AI w 4180 n = Int32.ofNat r.length ∧ ∀ k, k < r.length → g_AL w 853 (32 * n + k) = r.getD (r.length - 1 - k) r_c0 c) ∧ (X.2.2.1 = none → g_AI w 4244 n = 0) ∧ (∀ c, X.2.2.1 = some c → g_AI w 4244 n = Int32.ofNat r.length ∧ ∀ k, k < r.length → g_AL w 917 (32 * n + k) = r.getD (r.length - 1 - k) r_c0 c)
/-- the tables, and the rows that came -/
def M_tb (w : g_St) (nt : Nat) (tw : Nat → Nat) (tbl : Nat → List (Nat → Int64)) : Prop := nt ≤ 5 ∧ ∀ t, t < nt → g_AI w 980 t = Int32.ofNat (tbl t).length ∧ (tbl t).length ≤ 16 ∧ tw t ≤ 3 ∧ ∀ i, i < (tbl t).length → ∀ j, j < tw t → g_AL w 597 (48 * t + 3 * i + j) = (tbl t).getD i r_c0 j
def M_po (w : g_St) (np : Nat) (Xs : Nat → r_Pt) (P : M_Pl) : Prop := g_I w 4929 1 = Int32.ofNat P.length ∧ P.length ≤ 48 ∧ ∀ n q r, P[n]? = some (q, r) → q < np ∧ g_AI w 4116 n = Int32.ofNat q ∧ M_row w (Xs q) n r
def M_st (w : g_St) (np nt : Nat) (Xs : Nat → r_Pt) (tw : Nat → Nat) (tbl : Nat → List (Nat → Int64)) (P : M_Pl) : Prop := m_Fix w ∧ M_tb w nt tw tbl ∧ M_po w np Xs P ∧ np ≤ 4 ∧ ∀ q, q < np → (Xs q).1 ≤ 3
def M_ok (np nt : Nat) : Nat ⊕ Nat → Prop
  | .inl q => q < np
  | .inr t => t < nt
def M_cl (w : g_St) (x c : Nat) : Int64 := if x < 100 then g_AL w 597 (3 * x + c) else g_AL w 789 (4 * (x - 100) + c)
def M_xo (x c : Nat) : Prop := (x < 80 ∧ c < 3) ∨ (100 ≤ x ∧ x < 150 ∧ c < 4)
theorem m_cell {w : g_St} (F : m_Fix w) {x c : Nat} (h : M_xo x c) : f_M_cellOf (some 1) (Int32.ofNat x) (Int32.ofNat c) w = some (M_cl w x c, w) := by
  unfold M_cl
  rcases h with ⟨h1, h2⟩ | ⟨h1, h2, h3⟩
  · have e := m_cellT F (t := x / 16) (i := x % 16) (j := c) (by omega) (by omega) h2
    rw [show 16 * (x / 16) + x % 16 = x by omega, show 48 * (x / 16) + 3 * (x % 16) + c = 3 * x + c by omega] at e
    rw [if_pos (by omega)]
    exact e
  · have e := m_cellP F (n := x - 100) (j := c) (by omega) h3
    rw [show 100 + (x - 100) = x by omega] at e
    rw [if_neg (by omega)]
    exact e
theorem M_st.cl {w : g_St} {np nt : Nat} {Xs : Nat → r_Pt} {tw : Nat → Nat} {tbl : Nat → List (Nat → Int64)} {P : M_Pl} (S : M_st w np nt Xs tw tbl P) {m : Nat ⊕ Nat} (hm : M_ok np nt m) {i : Nat} {r : r_Row} (hr : M_at P tbl m i = some r) {j : Nat} (hj : r_W Xs tw m j) : M_xo (M_xc m i) (M_col Xs m j) ∧ M_cl w (M_xc m i) (M_col Xs m j) = r_hd r j := by
  obtain ⟨F, ⟨T0, T⟩, ⟨P1, P2, P3⟩, np4, w3⟩ := S
  cases m with
  | inl q =>
    have hr' : (P[i]?.bind fun x => if x.1 = q then some x.2 else none) = some r := hr
    cases hp : P[i]? with
    | none => rw [hp] at hr'; cases hr'
    | some x =>
      obtain ⟨q', r'⟩ := x
      rw [hp] at hr'
      have hr2 : (if q' = q then some r' else none) = some r := hr'
      by_cases e : q' = q
      · rw [if_pos e] at hr2
        cases hr2
        have il : i < P.length := by
          by_cases g : i < P.length
          · exact g
          · rw [List.getElem?_eq_none (by omega)] at hp; cases hp
        obtain ⟨-, -, c1, c2, -⟩ := P3 i q' r hp
        rw [e] at c1 c2
        have hq : q < np := hm
        have w4 := w3 q hq
        have hj' : j < (Xs q).1 ∨ (j = 3 ∧ (Xs q).2.2.1.isSome = true) := hj
        show M_xo (100 + i) (if j = 3 then (Xs q).1 else j) ∧ M_cl w (100 + i) (if j = 3 then (Xs q).1 else j) = r_hd r j
        unfold M_cl
        rw [if_neg (show ¬ 100 + i < 100 by omega), show 100 + i - 100 = i by omega]
        rcases hj' with h | ⟨h, h'⟩
        · rw [if_neg (by omega)]
          exact ⟨Or.inr ⟨by omega, by omega, by omega⟩, c1 j h⟩
        · rw [if_pos h, h]
          exact ⟨Or.inr ⟨by omega, by omega, by omega⟩, c2 h'⟩
      · rw [if_neg e] at hr2; cases hr2
  | inr t =>
    have ht : t < nt := hm
    have hr' : (tbl t)[i]?.map (fun c => ([c] : r_Row)) = some r := hr
    obtain ⟨-, t2, t3, t4⟩ := T t ht
    cases hp : (tbl t)[i]? with
    | none => rw [hp] at hr'; cases hr'
    | some c =>
      rw [hp] at hr'
      have il : i < (tbl t).length := by
        by_cases g : i < (tbl t).length
        · exact g
        · rw [List.getElem?_eq_none (by omega)] at hp; cases hp
      have hr2 : some [c] = some r := hr'
      cases hr2
      have hj' : j < tw t := hj
      have e := t4 i il j hj'
      rw [List.getD_eq_getElem?_getD, hp] at e
      show M_xo (16 * t + i) j ∧ M_cl w (16 * t + i) j = c j
      unfold M_cl
      rw [if_pos (by omega), show 3 * (16 * t + i) + j = 48 * t + 3 * i + j by omega]
      exact ⟨Or.inl ⟨by omega, by omega⟩, e⟩
/-- a slot has a row -/
def M_vb (w : g_St) (mc : Nat → Nat → Nat) (env : Nat → Nat → Int64) (k j : Nat) : Prop := ∃ x, g_AI w 4756 k = Int32.ofNat x ∧ M_xo x (mc k j) ∧ M_cl w x (mc k j) = env k j
theorem M_vb.bd {w : g_St} (F : m_Fix w) {mc : Nat → Nat → Nat} {env : Nat → Nat → Int64} {k j : Nat} (h : M_vb w mc env k j) : M_vbd w mc env k j := by
  obtain ⟨x, h1, h2, h3⟩ := h
  exact ⟨x, h1, by rw [m_cell F h2, h3]⟩
theorem M_vb.mv {u w : g_St} {wI wA : List Nat} (h : z_W wI wA u w) (h1 : 597 ∉ wA) (h2 : 789 ∉ wA) {mc : Nat → Nat → Nat} {env : Nat → Nat → Int64} {k j : Nat} (hk : g_AI w 4756 k = g_AI u 4756 k) (q : M_vb u mc env k j) : M_vb w mc env k j := by
  obtain ⟨x, q1, q2, q3⟩ := q
  refine ⟨x, hk.trans q1, q2, ?_⟩
  unfold M_cl at q3 ⊢
  rw [h.al h1, h.al h2]
  exact q3
theorem M_st.mv {u w : g_St} {wI wA : List Nat} (h : z_W wI wA u w) (hI : 4929 ∉ wI) (hA : ∀ a ∈ [597, 789, 853, 917, 980, 4116, 4180, 4244], a ∉ wA) {np nt : Nat} {Xs : Nat → r_Pt} {tw : Nat → Nat} {tbl : Nat → List (Nat → Int64)} {P : M_Pl} (S : M_st u np nt Xs tw tbl P) : M_st w np nt Xs tw tbl P := by
  obtain ⟨F, T, PP, S4, S5⟩ := S
  refine ⟨h.fx F, ?_, ?_, S4, S5⟩
  · unfold M_tb at T ⊢
    rw [h.al (hA 597 (by decide)), h.ai (hA 980 (by decide))]
    exact T
  · unfold M_po M_row at PP ⊢
    rw [h.fi hI, h.ai (hA 4116 (by decide)), h.al (hA 789 (by decide)), h.ai (hA 4180 (by decide)), h.al (hA 853 (by decide)), h.ai (hA 4244 (by decide)), h.al (hA 917 (by decide))]
    exact PP
