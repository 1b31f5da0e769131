/-! RUNNING: working a selection keeps what stands (pure) -/
section
variable {np nt : Nat} {Xs : Nat → r_Pt} {cp tw : Nat → Nat} {ua : Nat → Bool} {tbl : Nat → List (Nat → Int64)} {al mr : Nat} {pr : Nat → List r_Row} {st bf : Nat → Nat} {ms : List (Nat ⊕ Nat)} {cds : List r_Cd} {lv : Nat → Nat}
theorem r_cbs_len' (pc : Option Nat) (h3 : ms.length ≤ 3) (hm : ∀ k, k < ms.length → (r_rs cp ua pr tbl st bf pc (r_ml ms k)).length ≤ 48) : (r_cbs cp Xs ua pr tbl st bf pc ms cds lv).length < 2 ^ 30 := by
  have e : r_cbs cp Xs ua pr tbl st bf pc ms cds lv = r_cl (r_tb pr tbl) cds lv (fun k => if k < ms.length then r_pk (r_mkd cp Xs pc (r_ml ms k)) (r_rs cp ua pr tbl st bf pc (r_ml ms k)) else []) ms.length 0 (fun _ => []) := by
    have key : ∀ (d l : Nat) (ch : Nat → r_Row), l + d ≤ ms.length → r_cl (r_tb pr tbl) cds lv (fun k => r_pk (r_mkd cp Xs pc (r_ml ms k)) (r_rs cp ua pr tbl st bf pc (r_ml ms k))) d l ch = r_cl (r_tb pr tbl) cds lv (fun k => if k < ms.length then r_pk (r_mkd cp Xs pc (r_ml ms k)) (r_rs cp ua pr tbl st bf pc (r_ml ms k)) else []) d l ch := by
      intro d
      induction d with
      | zero => intro l ch _; rfl
      | succ d ih =>
        intro l ch hl
        unfold r_cl
        rw [if_pos (show l < ms.length by omega)]
        congr 1
        exact congrArg (fun f => List.flatMap f _) (funext fun a => ih (l + 1) _ (by omega))
    exact key ms.length 0 _ (by omega)
  rw [e]
  have := r_cl_len (r_tb pr tbl) cds lv (fun k => if k < ms.length then r_pk (r_mkd cp Xs pc (r_ml ms k)) (r_rs cp ua pr tbl st bf pc (r_ml ms k)) else []) (fun k => by
    by_cases hk : k < ms.length
    · rw [if_pos hk]
      exact Nat.le_trans (List.length_filter_le _ _) (hm k hk)
    · rw [if_neg hk]; exact Nat.zero_le _) ms.length 0 (fun _ => [])
  have : 48 ^ ms.length ≤ 48 ^ 3 := Nat.pow_le_pow_right (by decide) h3
  omega
theorem r_cbs_mem (pc : Option Nat) {e : Nat → r_Row} (he : e ∈ r_cbs cp Xs ua pr tbl st bf pc ms cds lv) {k : Nat} (hk : k < ms.length) : e k ∈ r_rs cp ua pr tbl st bf pc (r_ml ms k) :=
  r_cl_mem (T := fun k => r_rs cp ua pr tbl st bf pc (r_ml ms k)) (fun k a ha => (List.mem_filter.mp ha).1) ms.length 0 _ (fun k hk => by omega) e he k (by omega)
theorem r_nrow_ok {X : r_Pt} (hw : X.1 ≤ 3) {v : Nat → Int64} (hv : ∀ j, j < X.1 → r_oor (v j) = false) {par : r_Row} {rd : Nat} (hp : par.length + 1 ≤ rd) : (∀ j, (j < X.1 ∨ (j = 3 ∧ r_tr X = true)) → r_oor (r_hd (r_nrow X v par) j) = false) ∧ (r_nrow X v par).length ≤ rd := by
  unfold r_nrow
  by_cases t : r_tr X = true
  · rw [if_pos t]
    refine ⟨fun j hj => ?_, by rw [List.length_cons]; omega⟩
    show r_oor (if j = 3 then r_mk X v par else v j) = false
    by_cases e : j = 3
    · rw [if_pos e]
      unfold r_mk
      cases X.2.2.1 with
      | none => exact (by decide : r_oor 0 = false)
      | some c =>
        show r_oor (if _ then 1 else 0) = false
        split
        · exact (by decide : r_oor 1 = false)
        · exact (by decide : r_oor 0 = false)
    · rw [if_neg e]
      exact hv j (by omega)
  · rw [if_neg t]
    refine ⟨fun j hj => ?_, by show 1 ≤ rd; omega⟩
    show r_oor (v j) = false
    rcases hj with q | q
    · exact hv j q
    · exact absurd q.2 t
def r_PI (Xs : Nat → r_Pt) (tw : Nat → Nat) (q rd : Nat) (s : r_Rs) (a : List r_Row × Nat × Bool) : Prop := (∀ x ∈ a.1, (∀ j, r_V Xs tw (.inl q) j → r_oor (r_hd x j) = false) ∧ x.length ≤ rd) ∧ (∃ t, a.1 = s.1 q ++ t) ∧ a.1.length ≤ a.2.1 ∧ a.2.1 ≤ 48 ∧ s.2 ≤ a.2.1
theorem r_PI_put (hal : al ≤ 48) {q rd : Nat} {s : r_Rs} {a : List r_Row × Nat × Bool} (h : r_PI Xs tw q rd s a) {b : r_Row} (hb : (∀ j, r_V Xs tw (.inl q) j → r_oor (r_hd b j) = false) ∧ b.length ≤ rd) : r_PI Xs tw q rd s (r_put (Xs q) al a b) := by
  obtain ⟨h1, ⟨t, ht⟩, h3, h4, h5⟩ := h
  unfold r_put
  split
  · exact ⟨h1, ⟨t, ht⟩, h3, h4, h5⟩
  · split
    · next l =>
      refine ⟨fun x hx => ?_, ⟨t ++ [b], by show a.1 ++ [b] = _; rw [ht, List.append_assoc]⟩, ?_, ?_, ?_⟩
      · rcases List.mem_append.mp (show x ∈ a.1 ++ [b] from hx) with m | m
        · exact h1 x m
        · rw [List.mem_singleton.mp m]; exact hb
      · show (a.1 ++ [b]).length ≤ a.2.1 + 1
        rw [List.length_append, List.length_singleton]; omega
      · show a.2.1 + 1 ≤ 48; omega
      · show s.2 ≤ a.2.1 + 1; omega
    · exact ⟨h1, ⟨t, ht⟩, h3, h4, h5⟩
theorem r_par_nil (ms : List (Nat ⊕ Nat)) (ow : Nat) : r_par ms ow (fun _ => []) = [] := by
  unfold r_par
  split <;> rfl
theorem r_J_J (hal : al ≤ 48) {i rd : Nat} (h1 : 1 ≤ rd) {s s' : r_Rs} (h : r_J np Xs cp tw i rd st bf s) {q : Nat} (hq : q < np) (hc : cp q = i) (hw : (Xs q).1 ≤ 3) {y : r_Sel} (W : r_wsl np nt Xs cp tw (some q) y) (hwd : y.1.length = (Xs q).1) (T16 : ∀ t, t < nt → (tbl t).length ≤ 48) (e : r_one Xs cp ua tbl al st bf y q s = .inl s') : r_J np Xs cp tw i rd st bf s' := by
  obtain ⟨j1, j2, j3, j4, j5⟩ := h
  obtain ⟨g1, g2, g3⟩ := j4 q hq hc
  obtain ⟨w1, w2, w3, w4, w5, w6⟩ := W
  unfold r_one at e
  generalize hw' : r_work y.1 al (fun ch v a => r_put (Xs q) al a (r_nrow (Xs q) v (r_par y.2.1 q ch))) (fun a => a.2.2) (r_cbs cp Xs ua s.1 tbl st bf (some q) y.2.1 y.2.2.1 y.2.2.2.1) (s.1 q, s.2, false) = rr at e
  cases rr with
  | inr c => cases e
  | inl a =>
    cases e
    have lens : ∀ k, k < y.2.1.length → (r_rs cp ua s.1 tbl st bf (some q) (r_ml y.2.1 k)).length ≤ 48 := fun k hk => by
      have le : (r_rs cp ua s.1 tbl st bf (some q) (r_ml y.2.1 k)).length ≤ (r_rws s.1 tbl (r_ml y.2.1 k)).length := by
        unfold r_rs
        rw [List.length_drop, List.length_take]
        omega
      cases hm : r_ml y.2.1 k with
      | inl q' =>
        rw [hm] at le
        have := j2 q' ((w3 k hk).1 q' hm)
        have le' : _ ≤ (s.1 q').length := le
        omega
      | inr t =>
        rw [hm] at le
        have := T16 t ((w3 k hk).2 t hm)
        have le' : _ ≤ ((tbl t).map fun c => ([c] : r_Row)).length := le
        rw [List.length_map] at le'
        omega
    have lL := r_cbs_len' (Xs := Xs) (cds := y.2.2.1) (lv := y.2.2.2.1) (some q) w2 lens
    have P := r_work_inv2 (its := y.1) (al := al) (L := r_cbs cp Xs ua s.1 tbl st bf (some q) y.2.1 y.2.2.1 y.2.2.2.1) (r_PI Xs tw q rd s) (fun gz e he nb a ha => by
        refine r_PI_put hal ha (r_nrow_ok hw (fun j hj => ?_) ?_)
        · cases ho : r_oor (r_iv y.1 (r_en e) j) with
          | false => rfl
          | true => exact absurd ⟨j, by omega, r_gc0 gz (by omega), ho⟩ nb
        · unfold r_par
          cases hz : z_ff (fun m => decide (r_ml y.2.1 m = .inl q)) y.2.1.length 0 with
          | none => show 0 + 1 ≤ rd; omega
          | some m =>
            show (e m).length + 1 ≤ rd
            obtain ⟨f1, f2, f3, f4⟩ := z_ff_some hz
            have hm : m < y.2.1.length := by omega
            have em : r_ml y.2.1 m = .inl q := by
              have : decide (r_ml y.2.1 m = .inl q) = true := by assumption
              exact of_decide_eq_true this
            have mem := r_cbs_mem (some q) he hm
            rw [em] at mem
            have rin : r_in cp (some q) (.inl q) = true := decide_eq_true rfl
            unfold r_rs at mem
            rw [r_to_l, rin, if_pos rfl] at mem
            have mem2 := List.mem_of_mem_drop mem
            have mem3 : e m ∈ (s.1 q).take (st q) := mem2
            obtain ⟨n, hn, en⟩ := List.getElem_of_mem mem3
            rw [List.length_take] at hn
            rw [List.getElem_take] at en
            have := g3 n (by omega)
            rw [List.getD_eq_getElem?_getD, List.getElem?_eq_getElem (by omega), Option.getD_some, en] at this
            omega) (fun gz nb gb g hg a ha => by
        refine r_PI_put hal ha (r_nrow_ok hw (fun j hj => r_gv_ok nb gb lL hg (by omega)) ?_)
        rw [r_par_nil]
        show 0 + 1 ≤ rd
        omega) (a0 := (s.1 q, s.2, false)) ⟨fun x hx => ⟨j1 q hq x hx, g1 x hx⟩, ⟨[], (List.append_nil _).symm⟩, j2 q hq, j3, Nat.le_refl _⟩ hw'
    obtain ⟨p1, ⟨t, p2⟩, p3, p4, p5⟩ := P
    refine ⟨fun q' hq' x hx => ?_, fun q' hq' => ?_, p4, fun q' hq' c' => ?_, fun q' hq' c' => ?_⟩
    · have hx' : x ∈ r_upd s.1 q a.1 q' := hx
      unfold r_upd at hx'
      by_cases eq : q' = q
      · rw [if_pos eq] at hx'
        rw [eq]
        exact (p1 x hx').1
      · rw [if_neg eq] at hx'
        exact j1 q' hq' x hx'
    · show (r_upd s.1 q a.1 q').length ≤ a.2.1
      unfold r_upd
      by_cases eq : q' = q
      · rw [if_pos eq]; exact p3
      · rw [if_neg eq]; have := j2 q' hq'; omega
    · show (∀ x ∈ r_upd s.1 q a.1 q', x.length ≤ rd) ∧ st q' ≤ (r_upd s.1 q a.1 q').length ∧ ∀ n, n < st q' → ((r_upd s.1 q a.1 q').getD n []).length + 1 ≤ max rd 1
      unfold r_upd
      by_cases eq : q' = q
      · rw [if_pos eq, eq]
        refine ⟨fun x hx => (p1 x hx).2, by rw [p2, List.length_append]; omega, fun n hn => ?_⟩
        rw [p2, List.getD_eq_getElem?_getD, List.getElem?_append_left (by omega), ← List.getD_eq_getElem?_getD]
        exact g3 n hn
      · rw [if_neg eq]
        exact j4 q' hq' c'
    · show r_upd s.1 q a.1 q' = [] ∧ st q' = 0
      unfold r_upd
      rw [if_neg (fun eq => by rw [eq] at c'; omega)]
      exact j5 q' hq' c'
end
