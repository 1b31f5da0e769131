/-! THE QUERY AS THE RUN HAS IT: all of the reference -/
def t_cp (nw : Nat → Nat) (x : z_Qu) (tc : Nat) : Nat → Nat := (z_cmp nw x tc).1
def t_ns (x : z_Qu) (q : Nat) : Nat := (x.2.1.getD q z_pa0).2.2.1.length
def t_fs (x : z_Qu) (q : Nat) : Nat := z_tot (x.2.1.take q)
def t_ua (x : z_Qu) (q : Nat) : Bool := (x.2.1.getD q z_pa0).2.2.2.1.any id
def t_rec (nw : Nat → Nat) (x : z_Qu) (tc q : Nat) : Bool := (z_rch nw x tc q).testBit q
def t_sl (nw : Nat → Nat) (vl : Nat → Int64) (x : z_Qu) (tc : Nat) (cols : Nat → Nat) (lv : Nat → Nat → Nat) (q k : Nat) : r_Sel := t_sel nw vl x tc cols (lv (t_fs x q + k)) ((x.2.1.getD q z_pa0).2.2.1.getD k z_se0)
def t_nms (nw : Nat → Nat) (vl : Nat → Int64) (x : z_Qu) (tc : Nat) (cols : Nat → Nat) (q k : Nat) : Bool := r_nmd (t_ms nw x tc ((x.2.1.getD q z_pa0).2.2.1.getD k z_se0).2.2.1) (((x.2.1.getD q z_pa0).2.2.1.getD k z_se0).2.2.2.map (t_co nw vl x tc cols ((x.2.1.getD q z_pa0).2.2.1.getD k z_se0).2.2.1)) q
theorem z_tot_le (l : List z_Pa) (k : Nat) (hk : k < l.length) : z_tot (l.take k) + (l.getD k z_pa0).2.2.1.length ≤ z_tot l := by
  have e : l = l.take k ++ (l.getD k z_pa0 :: l.drop (k + 1)) := by
    rw [List.getD_eq_getElem?_getD, List.getElem?_eq_getElem hk]
    show l = l.take k ++ (l[k] :: l.drop (k + 1))
    rw [← List.drop_eq_getElem_cons hk, List.take_append_drop]
  have s : z_tot l = z_tot (l.take k) + ((l.getD k z_pa0).2.2.1.length + z_tot (l.drop (k + 1))) := by
    have h := congrArg z_tot e
    unfold z_tot at h ⊢
    rw [List.map_append, List.sum_append, List.map_cons, List.sum_cons] at h
    exact h
  omega
theorem z_fol_g {l : List z_It} {its : List r_It} (h : its.map (·.1) = l.map (·.1)) : z_fol l = z_g (!decide (r_gc its = 0)) := by
  have e : ∀ (its : List r_It) (l : List z_It), its.map (·.1) = l.map (·.1) → ((l.any fun x => decide (x.1 ≠ 0)) = !decide (r_gc its = 0)) := by
    intro its
    induction its with
    | nil =>
      intro l h
      cases l with
      | nil => rfl
      | cons a l => cases h
    | cons i its ih =>
      intro l h
      cases l with
      | nil => cases h
      | cons a l =>
        rw [List.map_cons, List.map_cons] at h
        injection h with h1 h2
        have h3 := ih l h2
        rw [List.any_cons, h3]
        unfold r_gc
        rw [List.filter_cons, ← h1]
        by_cases g : i.1 = 0
        · rw [if_neg (by rw [g]; decide), decide_eq_false (by rw [g]; exact fun z => z rfl), Bool.false_or]
        · rw [if_pos (decide_eq_true g), decide_eq_true g, Bool.true_or, List.length_cons, decide_eq_false (by omega)]
          rfl
  unfold z_fol
  rw [e its l h]
  unfold z_g
  rfl
section
variable {n : Nat} {kd pl nw : Nat → Nat} {vl : Nat → Int64} {x : z_Qu} {tc : Nat} {cols : Nat → Nat} {w : g_St} {C : Nat → Nat}
theorem t_nf_own (N : t_nf nw pl x tc cols) {m : Nat} (hm : m < x.2.1.length) : (∀ s, (x.2.1.getD m z_pa0).2.2.2.2.1 = some s → ∃ c, z_own1 nw (x.2.1.getD m z_pa0) (s.2 + 3) = some c ∧ c < (x.2.1.getD m z_pa0).2.1.length) ∧ ∀ s, (x.2.1.getD m z_pa0).2.2.2.2.2 = some s → ∃ c, z_own1 nw (x.2.1.getD m z_pa0) s = some c ∧ c < (x.2.1.getD m z_pa0).2.1.length := by
  have lt : ∀ {t c : Nat}, z_own1 nw (x.2.1.getD m z_pa0) t = some c → c < (x.2.1.getD m z_pa0).2.1.length := fun h => by
    have := (z_ff_some h).2.1
    omega
  refine ⟨fun s hs => ?_, fun s hs => ?_⟩
  · cases hc : z_own1 nw (x.2.1.getD m z_pa0) (s.2 + 3) with
    | some c => exact ⟨c, rfl, lt hc⟩
    | none => exact absurd (Or.inl ⟨rfl, Or.inl ⟨m, hm, Or.inr (Or.inr (Or.inl ⟨s, hs, hc, rfl⟩))⟩⟩) (N 2 (pl (s.2 + 3)) (by decide) (by decide))
  · cases hc : z_own1 nw (x.2.1.getD m z_pa0) s with
    | some c => exact ⟨c, rfl, lt hc⟩
    | none => exact absurd (Or.inl ⟨rfl, Or.inl ⟨m, hm, Or.inr (Or.inr (Or.inr ⟨s, hs, hc, rfl⟩))⟩⟩) (N 2 (pl s) (by decide) (by decide))
theorem t_un {X : z_Pa} {k : Nat} (hk : 1 ≤ k) (hf : X.2.2.2.1.length + 1 = k) (h4 : ¬ ((X.2.2.2.1.any fun b => !b) = true ∧ (X.2.2.2.1.any id) = true)) : ((X.2.2.2.1.any fun b => !b) = true ∧ (X.2.2.2.1.any id) = false ∧ 1 < k) ∨ ((X.2.2.2.1.any fun b => !b) = false ∧ ((X.2.2.2.1.any id) = true ∨ k ≤ 1)) := by
  cases h1 : X.2.2.2.1.any fun b => !b with
  | true =>
    left
    refine ⟨rfl, ?_, ?_⟩
    · cases h2 : X.2.2.2.1.any id with
      | false => rfl
      | true => exact absurd ⟨h1, h2⟩ h4
    · cases hl : X.2.2.2.1 with
      | nil => rw [hl] at h1; cases h1
      | cons a l => rw [hl] at hf; have : (a :: l).length = l.length + 1 := rfl; omega
  | false =>
    right
    refine ⟨rfl, ?_⟩
    cases hl : X.2.2.2.1 with
    | nil => rw [hl] at hf; right; have : ([] : List Bool).length = 0 := rfl; omega
    | cons a l =>
      left
      rw [hl, List.any_cons] at h1
      cases a with
      | true => rfl
      | false => cases h1
theorem t_stc (tc5 : tc ≤ 5) (N : t_nf nw pl x tc cols) {tk : Nat} {ck : Nat → Nat} (K : M_ck n kd pl vl w C x tk ck) (A : M_all n kd nw w C x tc cols) (D : M_cs w nw x tc) (H : z_H n kd) {q : Nat} (W : z_wqu kd q x) (hq : q ≤ n) (hfl : ∀ m, m < x.2.1.length → (x.2.1.getD m z_pa0).2.2.2.1.length + 1 = (x.2.1.getD m z_pa0).2.2.1.length) (lv : Nat → Nat → Nat) : M_stc w x.2.1.length tc (t_Xs nw x) cols (t_cp nw x tc) (t_ns x) (t_fs x) (t_ua x) (t_rec nw x tc) (t_nms nw vl x tc cols) (t_sl nw vl x tc cols lv) := by
  have Q := K.2.2.1
  have q4 : x.2.1.length ≤ 4 := Q.2.2.2.1
  have pas : M_pas pl w C x.2.1 := Q.2.2.2.2.1
  have hw : ∀ k, k < x.2.1.length → (x.2.1.getD k z_pa0).2.1.length ≤ 3 := fun k hk => (pas k hk).2.2.2.2.2.2.2.2.2.2.2.1
  have tot16 : z_tot x.2.1 ≤ 4 * x.2.1.length := Q.2.2.2.2.2.2.2.2.1
  obtain ⟨cls1, cls2, cls3⟩ := z_cmp_cls (nw := nw) (x := x) (tc := tc) q4
  refine ⟨by rw [Q.1 1153 (by decide), Q.2.2.1], q4, fun m hm => ?_⟩
  obtain ⟨p1, p2, p3, p4, p5, p6, p7, p8, p9, p10, p11, p12, p13⟩ := pas m hm
  obtain ⟨ow1, ow2⟩ := t_nf_own N hm
  obtain ⟨r1, r2⟩ := A.1 m hm
  have fl := hfl m hm
  have pcv : M_pcv w m (t_Xs nw x m) := by
    refine ⟨by omega, p12, p3, fun h => ?_, fun b c h => ?_, fun h => ?_, fun c h => ?_⟩
    · have h' : (x.2.1.getD m z_pa0).2.2.2.2.1 = none := Option.map_eq_none_iff.mp h
      rw [h'] at p10
      exact p10
    · obtain ⟨y, hy, he⟩ := Option.map_eq_some_iff.mp (show (x.2.1.getD m z_pa0).2.2.2.2.1.map _ = some (b, c) from h)
      have e1 := (Prod.mk.inj he).1
      have e2 := (Prod.mk.inj he).2
      obtain ⟨cc, o1, o2⟩ := ow1 y hy
      rw [o1] at e2
      have e3 : cc = c := e2
      have r1' := r1 y hy
      rw [o1] at r1'
      rw [hy] at p10
      refine ⟨by rw [← e1]; exact p10.1, by rw [← e3]; exact r1', by rw [← e3]; exact o2⟩
    · have h' : (x.2.1.getD m z_pa0).2.2.2.2.2 = none := Option.map_eq_none_iff.mp h
      rw [h'] at p11
      exact p11
    · obtain ⟨y, hy, he⟩ := Option.map_eq_some_iff.mp (show (x.2.1.getD m z_pa0).2.2.2.2.2.map _ = some c from h)
      obtain ⟨cc, o1, o2⟩ := ow2 y hy
      rw [o1] at he
      have e3 : cc = c := he
      have r2' := r2 y hy
      rw [o1] at r2'
      rw [hy] at p11
      refine ⟨?_, by rw [← e3]; exact r2', by rw [← e3]; exact o2⟩
      rw [p11.1]
      refine z_oc_n ?_
      have := ((z_wqu_ps W hq m hm).2.2.2 y hy).1.1
      have := H.2.1
      omega
  have c16 : t_fs x m + t_ns x m ≤ 16 := by
    have := z_tot_le x.2.1 m hm
    show z_tot (x.2.1.take m) + (x.2.1.getD m z_pa0).2.2.1.length ≤ 16
    omega
  have ci := cls2 m hm
  have cb : (2 ^ x.2.1.length - 1).testBit m = true := by
    rw [Nat.testBit_two_pow_sub_one, decide_eq_true hm]
  have d1 := D.2.1 m hm
  rw [if_pos cb] at d1
  obtain ⟨h1, h2⟩ := D.1 m hm
  refine ⟨⟨pcv, d1, by show (z_cmp nw x tc).1 m ≤ 3; omega, p7, p13, p5, c16⟩, p9, ⟨z_rch nw x tc m, h1, h2, rfl⟩, fun k hk => ?_⟩
  have hk' : k < (x.2.1.getD m z_pa0).2.2.1.length := hk
  obtain ⟨g1, g2⟩ := z_sels_get (x := x) hm hk'
  have sv : z_sv x (t_fs x m + k) = (m, (x.2.1.getD m z_pa0).2.2.1.getD k z_se0) := g1
  obtain ⟨s1, s2⟩ := t_msl hw N K A H W hq (lv (t_fs x m + k)) (s := t_fs x m + k) g2
  rw [sv] at s1 s2
  have sl1 : M_sl w x.2.1.length tc (t_Xs nw x) cols (t_fs x m + k) (t_sl nw vl x tc cols lv m k).1 (t_sl nw vl x tc cols lv m k).2.1 (t_sl nw vl x tc cols lv m k).2.2.1 := s1
  have so1 : M_sov w x.2.1.length tc (t_fs x m + k) (t_sl nw vl x tc cols lv m k).2.1 := s2
  have se := p6.2 k hk'
  have f3 : ((x.2.1.getD m z_pa0).2.2.1.getD k z_se0).2.1.length = (x.2.1.getD m z_pa0).2.1.length := by
    by_cases g : ((x.2.1.getD m z_pa0).2.2.1.getD k z_se0).2.1.length = (x.2.1.getD m z_pa0).2.1.length
    · exact g
    · exact absurd (Or.inr (Or.inr (Or.inl ⟨rfl, m, hm, k, hk', g, rfl⟩))) (N 3 (pl ((x.2.1.getD m z_pa0).2.2.1.getD k z_se0).1) (by decide) (by decide))
  have its1 : ((t_sl nw vl x tc cols lv m k).1).map (·.1) = ((x.2.1.getD m z_pa0).2.2.1.getD k z_se0).2.1.map (·.1) := by
    show (List.map _ _).map _ = _
    rw [List.map_map]
    rfl
  have un : M_un w m (t_Xs nw x m) := by
    have h4 : ¬ (((x.2.1.getD m z_pa0).2.2.2.1.any fun b => !b) = true ∧ ((x.2.1.getD m z_pa0).2.2.2.1.any id) = true) := fun h => N 4 (pl (x.2.1.getD m z_pa0).1) (by decide) (by decide) (Or.inr (Or.inr (Or.inr ⟨m, hm, Or.inl ⟨rfl, h.1, h.2⟩, rfl⟩)))
    rcases t_un (X := x.2.1.getD m z_pa0) (k := (x.2.1.getD m z_pa0).2.2.1.length) (by omega) fl h4 with ⟨u1, u2, u3⟩ | ⟨u1, u2⟩
    · exact Or.inl ⟨u1, by rw [p9, u2]; rfl, _, p7, u3, p13⟩
    · refine Or.inr ⟨u1, ?_⟩
      rcases u2 with u2 | u2
      · exact Or.inl (by rw [p9, u2]; decide)
      · exact Or.inr ⟨_, p7, u2⟩
  refine ⟨⟨sl1, so1, se.2.1, hm, pcv, un, ?_⟩, ?_, ?_⟩
  · show (List.map _ _).length = (x.2.1.getD m z_pa0).2.1.length
    rw [List.length_map]; exact f3
  · exact (se.2.2.2.2.2.1).trans (z_fol_g its1)
  · refine ⟨r_cnt (t_sl nw vl x tc cols lv m k).2.1 (t_sl nw vl x tc cols lv m k).2.2.1 m, ?_, r_cnt_pos, fun w' hw' => m_tnm (hw'.fx K.1) tc5 q4 (by omega) (sl1.mv hw') (so1.mv hw')⟩
    have i1 := r_ct1_le (fun j => decide (r_ml (t_sl nw vl x tc cols lv m k).2.1 j = .inl m)) (t_sl nw vl x tc cols lv m k).2.1.length 0
    have i2 := r_ct1_le (fun i => r_isn m ((t_sl nw vl x tc cols lv m k).2.2.1.getD i r_cd0)) (t_sl nw vl x tc cols lv m k).2.2.1.length 0
    have i3 := sl1.2.1
    have i4 := sl1.2.2.2.2.1.2.1
    unfold r_cnt
    omega
end
