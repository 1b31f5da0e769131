/-! THE ENGINE'S CHECK: who names its own component -/
def z_of (f : z_Se → Nat) (x : z_Qu) (s : Nat) : Nat := z_S (fun v => f v.2) ((z_sels x).take s)
theorem z_S_app {α : Type} (f : α → Nat) (l l' : List α) : z_S f (l ++ l') = z_S f l + z_S f l' := by unfold z_S; rw [List.map_append, List.sum_append]
theorem z_S_map {α β : Type} (f : β → Nat) (g : α → β) (l : List α) : z_S f (l.map g) = z_S (fun a => f (g a)) l := by unfold z_S; rw [List.map_map]; rfl
theorem z_sy_S (f : z_Se → Nat) : ∀ (l : List z_Pa) (k : Nat), z_S (fun v => f v.2) (z_sy k l) = z_S (fun X : z_Pa => z_S f X.2.2.1) l := by
  intro l
  induction l with
  | nil => intro k; rfl
  | cons X l ih => intro k; rw [z_sy, z_S_app, z_S_map, ih, z_S_c]
theorem z_sy_of (f : z_Se → Nat) : ∀ (l : List z_Pa) (k j m : Nat), j < l.length → m ≤ (l.getD j z_pa0).2.2.1.length → z_S (fun v => f v.2) ((z_sy k l).take (z_tot (l.take j) + m)) = z_S (fun X : z_Pa => z_S f X.2.2.1) (l.take j) + z_S f ((l.getD j z_pa0).2.2.1.take m) := by
  intro l
  induction l with
  | nil => intro k j m hj; cases hj
  | cons X l ih =>
    intro k j m hj hm
    rw [z_sy]
    cases j with
    | zero =>
      have hm' : m ≤ X.2.2.1.length := hm
      rw [List.take_zero, show z_tot [] + m = m from Nat.zero_add m, List.take_append_of_le_length (by rw [List.length_map]; exact hm'), ← List.map_take, z_S_map]
      show _ = 0 + z_S f (X.2.2.1.take m)
      rw [Nat.zero_add]
    | succ j =>
      have hj' : j < l.length := Nat.lt_of_succ_lt_succ hj
      rw [List.take_succ_cons, z_tot_cons, Nat.add_assoc, List.take_append, List.length_map, Nat.add_sub_cancel_left, List.take_of_length_le (by rw [List.length_map]; omega), z_S_app, z_S_map, ih (k + 1) j m hj' hm, z_S_c, Nat.add_assoc]
      rfl
section
variable {pl : Nat → Nat} {wd : Nat → Int64} {c : z_Cx} {u : g_St} {A O : Nat} {b : Nat → Nat} {x : z_Qu}
theorem z_ofp (f : z_Se → Nat) {m m2 : Nat} (hm : m < x.2.1.length) (hm2 : m2 < (x.2.1.getD m z_pa0).2.2.1.length) : z_of f x (z_tot (x.2.1.take m) + m2) = z_S (fun X : z_Pa => z_S f X.2.2.1) (x.2.1.take m) + z_S f ((x.2.1.getD m z_pa0).2.2.1.take m2) := by
  unfold z_of z_sels
  rw [List.take_append_of_le_length (by rw [z_sy_len]; have := (z_sy_get x.2.1 0 m m2 hm hm2).2; omega)]
  exact z_sy_of f x.2.1 0 m m2 hm (by omega)
theorem z_ofo (f : z_Se → Nat) : z_of f x (z_tot x.2.1) = z_S (fun X : z_Pa => z_S f X.2.2.1) x.2.1 := by
  unfold z_of z_sels
  rw [List.take_append_of_le_length (by rw [z_sy_len]; exact Nat.le_refl _), List.take_of_length_le (by rw [z_sy_len]; exact Nat.le_refl _)]
  exact z_sy_S f x.2.1 0
/-- a selection, its things numbered -/
theorem k_selx (Q : E_qu pl wd c u A O b x) {s : Nat} (hs : s < (z_sels x).length) : E_sI pl wd u b x s (b 11 + z_of z_nts x s) (b 10 + z_of z_ncs x s) (b 9 + z_of z_nss x s) := by
  by_cases w : s < z_tot x.2.1
  · obtain ⟨m, m1, m2, m3⟩ := z_cov (fun x : z_Pa => x.2.2.1.length) z_pa0 x.2.1 0 s (Nat.zero_le _) (by rw [← z_tot_S]; omega)
    rw [← z_tot_S] at m2 m3
    have hl : s - z_tot (x.2.1.take m) < (x.2.1.getD m z_pa0).2.2.1.length := by omega
    obtain ⟨h, -⟩ := k_selp Q m1 hl
    have e := z_ofp z_nts m1 hl
    have e2 := z_ofp z_ncs m1 hl
    have e3 := z_ofp z_nss m1 hl
    rw [show z_tot (x.2.1.take m) + (s - z_tot (x.2.1.take m)) = s by omega] at h e e2 e3
    rw [e, e2, e3, ← Nat.add_assoc, ← Nat.add_assoc, ← Nat.add_assoc]
    exact h
  · rw [z_sv_len] at hs
    rw [show s = z_tot x.2.1 by omega, z_ofo, z_ofo, z_ofo]
    exact k_selo Q
theorem k_cvx (Q : E_qu pl wd c u A O b x) {a : Nat} (h1 : b 9 ≤ a) (h2 : a < g_cnt u 9) : ∃ s, s < (z_sels x).length ∧ b 9 + z_of z_nss x s ≤ a ∧ a < b 9 + z_of z_nss x s + z_nss (z_sv x s).2 := by
  by_cases w : a < b 9 + z_S z_nsp x.2.1
  · obtain ⟨m, m1, m2, m3⟩ := z_cov z_nsp z_pa0 x.2.1 (b 9) a h1 w
    obtain ⟨l, l1, l2, l3⟩ := z_cov z_nss z_se0 (x.2.1.getD m z_pa0).2.2.1 (b 9 + z_S z_nsp (x.2.1.take m)) a m2 m3
    obtain ⟨h, e⟩ := k_selp Q m1 l1
    have e3 := z_ofp z_nss m1 l1
    refine ⟨_, h.1, ?_, ?_⟩
    · rw [e3, ← Nat.add_assoc]; exact l2
    · rw [e3, ← Nat.add_assoc, e]; exact l3
  · refine ⟨_, (k_selo Q).1, ?_, ?_⟩
    · rw [z_ofo]; show b 9 + z_S z_nsp x.2.1 ≤ a; omega
    · rw [z_ofo, z_sv_own]
      have := Q.2.2.2.2.2.1.2.2.1
      show a < b 9 + z_S z_nsp x.2.1 + z_nss x.2.2.1
      omega
theorem z_fm_len : ∀ l : List z_Co, (l.filterMap z_ci).length = z_nsc l := by
  intro l
  induction l with
  | nil => rfl
  | cons y l ih =>
    show _ = z_S z_nso (y :: l)
    rw [z_S_c]
    cases y with
    | inl bb => rw [List.filterMap_cons]; show (l.filterMap z_ci).length = 0 + z_nsc l; rw [ih, Nat.zero_add]
    | inr z => rw [List.filterMap_cons]; show ((z.1 :: l.filterMap z_ci)).length = 1 + z_nsc l; rw [List.length_cons, ih, Nat.add_comm]
theorem z_fm_get : ∀ (l : List z_Co) (m : Nat) (z : Nat × List z_Bs), m < l.length → l.getD m z_co0 = .inr z → (l.filterMap z_ci).getD (z_nsc (l.take m)) 0 = z.1 := by
  intro l
  induction l with
  | nil => intro m z h; cases h
  | cons y l ih =>
    intro m z h e
    cases m with
    | zero =>
      have e' : y = .inr z := e
      rw [e', List.filterMap_cons, List.take_zero]
      rfl
    | succ m =>
      have h' : m < l.length := Nat.lt_of_succ_lt_succ h
      have e' : l.getD m z_co0 = .inr z := e
      have g := ih m z h' e'
      rw [List.take_succ_cons, List.filterMap_cons]
      show _ = _
      have ez : z_nsc (y :: l.take m) = z_nso y + z_nsc (l.take m) := z_S_c z_nso y _
      rw [ez]
      cases y with
      | inl bb => show (l.filterMap z_ci).getD (0 + z_nsc (l.take m)) 0 = z.1; rw [Nat.zero_add]; exact g
      | inr z' => show ((z'.1 :: l.filterMap z_ci)).getD (1 + z_nsc (l.take m)) 0 = z.1; rw [Nat.add_comm, List.getD_cons_succ]; exact g
theorem z_nss_len (y : z_Se) : (z_srt y).length = z_nss y := by
  unfold z_srt z_nss
  rw [List.length_append, z_fm_len]
/-- the source at a place of a selection's sources -/
theorem k_srt (Q : E_qu pl wd c u A O b x) {s : Nat} (hs : s < (z_sels x).length) {i : Nat} (hi : i < z_nss (z_sv x s).2) : ∃ sl, q_so (z_sv x s).2 sl ((z_srt (z_sv x s).2).getD i 0) ∧ E_so pl wd u (b 9 + z_of z_nss x s + i) (some ((b 8 + s) * 64 + 8)) (z_oc sl) ((z_srt (z_sv x s).2).getD i 0) ∧ (∀ m, sl = some m → m = i) ∧ b 9 + z_of z_nss x s + i < g_cnt u 9 := by
  obtain ⟨s1, s2, s3⟩ := k_selx Q hs
  obtain ⟨e1, e2, e3, e4, e5, e6, a26, a23, a27, a28, e7, e8, e9, e10, e11, e12⟩ := s3
  unfold z_srt
  by_cases w : i < (z_sv x s).2.2.2.1.length
  · obtain ⟨g1, g2, g3⟩ := e11 i w
    rw [List.getD_eq_getElem?_getD, List.getElem?_append_left w, ← List.getD_eq_getElem?_getD]
    exact ⟨some i, ⟨w, rfl⟩, g3, fun m h => (by cases h; rfl), g2⟩
  · have hz : z_nss (z_sv x s).2 = (z_sv x s).2.2.2.1.length + z_S z_nso (z_sv x s).2.2.2.2 := rfl
    obtain ⟨m, m1, m2, m3⟩ := z_cov z_nso z_co0 (z_sv x s).2.2.2.2 0 (i - (z_sv x s).2.2.2.1.length) (Nat.zero_le _) (by omega)
    obtain ⟨g1, g2, g3, g4⟩ := e12 m m1
    have hm : (z_sv x s).2.2.2.2.getD m z_co0 ∈ (z_sv x s).2.2.2.2 := z_getD_m m1
    rw [List.getD_eq_getElem?_getD, List.getElem?_append_right (by omega), ← List.getD_eq_getElem?_getD]
    have hz2 : z_nsc ((z_sv x s).2.2.2.2.take m) = z_S z_nso ((z_sv x s).2.2.2.2.take m) := rfl
    cases hc : (z_sv x s).2.2.2.2.getD m z_co0 with
    | inl y => rw [hc] at m3; exact absurd m3 (by show ¬ _ < _ + 0; omega)
    | inr y =>
      rw [hc] at m3 g4 hm
      have m3' : i - (z_sv x s).2.2.2.1.length < 0 + z_S z_nso ((z_sv x s).2.2.2.2.take m) + 1 := m3
      obtain ⟨-, f2, f3, f4, -⟩ := g4
      have gt := z_fm_get _ m y m1 hc
      have ei : i - (z_sv x s).2.2.2.1.length = z_nsc ((z_sv x s).2.2.2.2.take m) := by omega
      rw [ei, gt]
      rw [show b 9 + z_of z_nss x s + (z_sv x s).2.2.2.1.length + z_nsc ((z_sv x s).2.2.2.2.take m) = b 9 + z_of z_nss x s + i by omega] at f4
      exact ⟨none, ⟨_, hm, rfl⟩, f4, fun m h => (by cases h), by omega⟩
end
/-- two parts stand in one component when each reaches the other -/
theorem z_ord_cls {m : Nat} {r : Nat → Nat} (tr : z_cb m m r) (bd : ∀ i j, i < m → z_Pb r i j → j < m) : ∀ d come num cp, z_uc m come ≤ d → (∀ i j, i < m → come.testBit i = true → (z_tog m r i).testBit j = true → come.testBit j = true) → (∀ i j, i < m → j < m → come.testBit i = true → come.testBit j = true → (cp i = cp j ↔ (z_tog m r i).testBit j = true)) → (∀ i, i < m → come.testBit i = true → cp i < num) → (∀ i j, i < m → j < m → ((z_ord m r d come num cp).1 i = (z_ord m r d come num cp).1 j ↔ (z_tog m r i).testBit j = true)) ∧ (∀ i, i < m → (z_ord m r d come num cp).1 i < (z_ord m r d come num cp).2) ∧ (z_ord m r d come num cp).2 ≤ num + d := by
  have sy : ∀ i j, i < m → (z_tog m r i).testBit j = true → (z_tog m r j).testBit i = true := fun i j hi h => by
    rcases z_tog_bit.mp h with e | ⟨e1, e2, e3⟩
    · rw [e]; exact z_tog_bit.mpr (Or.inl rfl)
    · exact z_tog_bit.mpr (Or.inr ⟨hi, e3, e2⟩)
  have lt : ∀ i j, i < m → (z_tog m r i).testBit j = true → j < m := fun i j hi h => by
    rcases z_tog_bit.mp h with e | ⟨e1, -⟩
    · omega
    · exact e1
  have trn : ∀ i j k, i < m → (z_tog m r i).testBit j = true → (z_tog m r j).testBit k = true → (z_tog m r i).testBit k = true := fun i j k hi h g => by
    have hj := lt i j hi h
    rcases z_tog_bit.mp h with e | ⟨e1, e2, e3⟩
    · rw [← e]; exact g
    · rcases z_tog_bit.mp g with e | ⟨f1, f2, f3⟩
      · rw [e]; exact h
      · exact z_tog_bit.mpr (Or.inr ⟨f1, tr j i k e1 hi e2 f2, tr j k i e1 f1 f3 e3⟩)
  intro d
  induction d with
  | zero =>
    intro come num cp h1 h2 h3 h4
    have full := z_uc_0 (m := m) (c := come) (by omega)
    exact ⟨fun i j hi hj => h3 i j hi hj (full i hi) (full j hj), fun i hi => h4 i hi (full i hi), Nat.le_refl _⟩
  | succ d ih =>
    intro come num cp h1 h2 h3 h4
    rw [z_ord]
    cases hz : z_nxt m r come with
    | none =>
      have full : ∀ i, i < m → come.testBit i = true := fun i hi => by
        cases hb : come.testBit i with
        | true => rfl
        | false =>
          obtain ⟨p, p1, -⟩ := z_nxt_ex tr bd hi hb
          rw [hz] at p1
          cases p1
      exact ⟨fun i j hi hj => h3 i j hi hj (full i hi) (full j hj), fun i hi => h4 i hi (full i hi), by show num ≤ _; omega⟩
    | some p =>
      have pz : z_ff (z_rdy m r come) m 0 = some p := hz
      obtain ⟨c1, c2, c3, c4⟩ := z_ff_some pz
      have pm : p < m := by omega
      have p3 : come.testBit p = false := by
        unfold z_rdy at c3
        cases hb : come.testBit p with
        | true => rw [hb] at c3; cases c3
        | false => rfl
      have pt : (z_tog m r p).testBit p = true := z_tog_bit.mpr (Or.inl rfl)
      have un := z_uc_lt (c := come) (c' := come ||| z_tog m r p) (p := p) (fun i h => by rw [Nat.testBit_or, h]; rfl) p3 (by rw [Nat.testBit_or, pt, Bool.or_true]) m pm
      have or : ∀ i, (come ||| z_tog m r p).testBit i = true ↔ come.testBit i = true ∨ (z_tog m r p).testBit i = true := fun i => by rw [Nat.testBit_or, Bool.or_eq_true]
      have g := ih (come ||| z_tog m r p) (num + 1) (fun k => if (z_tog m r p).testBit k = true then num else cp k) (by omega) (fun i j hi h g => ?_) (fun i j hi hj h g => ?_) (fun i hi h => ?_)
      · exact ⟨g.1, g.2.1, Nat.le_trans g.2.2 (by omega)⟩
      · rcases (or i).mp h with h | h
        · exact (or j).mpr (Or.inl (h2 i j hi h g))
        · exact (or j).mpr (Or.inr (trn p i j pm h g))
      · show (if (z_tog m r p).testBit i = true then num else cp i) = (if (z_tog m r p).testBit j = true then num else cp j) ↔ _
        by_cases w1 : (z_tog m r p).testBit i = true
        · rw [if_pos w1]
          by_cases w2 : (z_tog m r p).testBit j = true
          · rw [if_pos w2]
            exact ⟨fun _ => trn i p j hi (sy p i pm w1) w2, fun _ => rfl⟩
          · rw [if_neg w2]
            have cj : come.testBit j = true := by rcases (or j).mp g with q | q; exact q; exact absurd q w2
            have := h4 j hj cj
            exact ⟨fun q => by omega, fun q => absurd (trn p i j pm w1 q) w2⟩
        · rw [if_neg w1]
          have ci : come.testBit i = true := by rcases (or i).mp h with q | q; exact q; exact absurd q w1
          by_cases w2 : (z_tog m r p).testBit j = true
          · rw [if_pos w2]
            have := h4 i hi ci
            exact ⟨fun q => by omega, fun q => absurd (trn p j i pm w2 (sy i j hi q)) w1⟩
          · rw [if_neg w2]
            have cj : come.testBit j = true := by rcases (or j).mp g with q | q; exact q; exact absurd q w2
            exact h3 i j hi hj ci cj
      · show (if (z_tog m r p).testBit i = true then num else cp i) < num + 1
        by_cases w1 : (z_tog m r p).testBit i = true
        · rw [if_pos w1]; omega
        · rw [if_neg w1]
          have ci : come.testBit i = true := by rcases (or i).mp h with q | q; exact q; exact absurd q w1
          have := h4 i hi ci
          omega
theorem z_cmp_cls {nw : Nat → Nat} {x : z_Qu} {tc : Nat} (h4 : x.2.1.length ≤ 4) : (∀ i j, i < x.2.1.length → j < x.2.1.length → ((z_cmp nw x tc).1 i = (z_cmp nw x tc).1 j ↔ (z_tog x.2.1.length (z_rch nw x tc) i).testBit j = true)) ∧ (∀ i, i < x.2.1.length → (z_cmp nw x tc).1 i < (z_cmp nw x tc).2) ∧ (z_cmp nw x tc).2 ≤ x.2.1.length := by
  have := z_ord_cls (z_c4_tr h4 (z_edg nw x tc)) (fun i j hi h => z_rch_bd (nw := nw) (x := x) (tc := tc) hi h) x.2.1.length 0 0 (fun _ => 0) (z_uc_le _ _) (fun i j _ h => by rw [Nat.zero_testBit] at h; cases h) (fun i j _ _ h => by rw [Nat.zero_testBit] at h; cases h) (fun i _ h => by rw [Nat.zero_testBit] at h; cases h)
  refine ⟨this.1, this.2.1, ?_⟩
  have := this.2.2
  unfold z_cmp
  unfold z_rch
  omega
