/-! RUNNING: trails and answers are in range (pure) -/
theorem r_putf_mem {β : Type} (X : r_Pt) (al : Nat) (g : β → r_Row) : ∀ (B : List β) (a : List r_Row × Nat × Bool) (r : r_Row), r ∈ (B.foldl (fun a x => r_put X al a (g x)) a).1 → r ∈ a.1 ∨ ∃ x ∈ B, r = g x := by
  intro B
  induction B with
  | nil => intro a r h; exact Or.inl h
  | cons y B ih =>
    intro a r h
    rw [List.foldl_cons] at h
    rcases ih _ r h with h1 | ⟨x, h1, h2⟩
    · have h2 : r ∈ a.1 ∨ r = g y := by
        unfold r_put at h1
        split at h1
        · exact Or.inl h1
        · split at h1
          · have h1' : r ∈ a.1 ++ [g y] := h1
            rcases List.mem_append.mp h1' with q | q
            · exact Or.inl q
            · exact Or.inr (List.mem_singleton.mp q)
          · exact Or.inl h1
      rcases h2 with q | q
      · exact Or.inl q
      · exact Or.inr ⟨y, List.mem_cons_self .., q⟩
    · exact Or.inr ⟨x, List.mem_cons_of_mem _ h1, h2⟩
section
variable {np nt : Nat} {Xs : Nat → r_Pt} {cp tw ns : Nat → Nat} {ua : Nat → Bool} {tbl : Nat → List (Nat → Int64)} {al mr : Nat}
/-- a row that comes goes on from one that is there -/
theorem r_one_tail {st bf : Nat → Nat} {y : r_Sel} {q : Nat} {s s' : r_Rs} (e : r_one Xs cp ua tbl al st bf y q s = .inl s') : ∀ x ∈ s'.1 q, x ∈ s.1 q ∨ x.tail = [] ∨ x.tail ∈ s.1 q := by
  rw [r_one_wb] at e
  cases hw : r_wb y.1 al (r_cbs cp Xs ua s.1 tbl st bf (some q) y.2.1 y.2.2.1 y.2.2.2.1) with
  | inr c => rw [hw] at e; cases e
  | inl B =>
    rw [hw] at e
    have h' : (if (B.foldl (fun a x => r_put (Xs q) al a (r_nrow (Xs q) x.2 (r_par y.2.1 q x.1))) (s.1 q, s.2, false)).2.2 = true then (.inr 3 : r_Rs ⊕ Nat) else .inl (r_upd s.1 q (B.foldl (fun a x => r_put (Xs q) al a (r_nrow (Xs q) x.2 (r_par y.2.1 q x.1))) (s.1 q, s.2, false)).1, (B.foldl (fun a x => r_put (Xs q) al a (r_nrow (Xs q) x.2 (r_par y.2.1 q x.1))) (s.1 q, s.2, false)).2.1)) = .inl s' := e
    by_cases g : (B.foldl (fun a x => r_put (Xs q) al a (r_nrow (Xs q) x.2 (r_par y.2.1 q x.1))) (s.1 q, s.2, false)).2.2 = true
    · rw [if_pos g] at h'; cases h'
    · rw [if_neg g] at h'
      intro x hx
      rw [← Sum.inl.inj h'] at hx
      have hx' : x ∈ (if q = q then (B.foldl (fun a x => r_put (Xs q) al a (r_nrow (Xs q) x.2 (r_par y.2.1 q x.1))) (s.1 q, s.2, false)).1 else s.1 q) := hx
      rw [if_pos rfl] at hx'
      rcases r_putf_mem (Xs q) al (fun x : (Nat → r_Row) × (Nat → Int64) => r_nrow (Xs q) x.2 (r_par y.2.1 q x.1)) B _ x hx' with h1 | ⟨z, h1, h2⟩
      · exact Or.inl h1
      · right
        have par : r_par y.2.1 q z.1 = [] ∨ r_par y.2.1 q z.1 ∈ s.1 q := by
          unfold r_par
          cases hz : z_ff (fun m => decide (r_ml y.2.1 m = .inl q)) y.2.1.length 0 with
          | none => exact Or.inl rfl
          | some m =>
            show z.1 m = [] ∨ z.1 m ∈ s.1 q
            obtain ⟨f1, f2, f3, -⟩ := z_ff_some hz
            have em : r_ml y.2.1 m = .inl q := of_decide_eq_true f3
            unfold r_wb at hw
            split at hw
            · cases hw
            · split at hw
              · rw [← Sum.inl.inj hw, List.mem_map] at h1
                obtain ⟨ee, g1, g2⟩ := h1
                rw [← g2]
                have mem := r_cbs_mem (some q) g1 (show m < y.2.1.length by omega)
                rw [em] at mem
                exact Or.inr (r_rs_mem mem)
              · split at hw
                · cases hw
                · split at hw
                  · cases hw
                  · rw [← Sum.inl.inj hw, List.mem_map] at h1
                    obtain ⟨ee, g1, g2⟩ := h1
                    rw [← g2]
                    exact Or.inl rfl
        rw [h2]
        show (r_nrow (Xs q) z.2 (r_par y.2.1 q z.1)).tail = [] ∨ (r_nrow (Xs q) z.2 (r_par y.2.1 q z.1)).tail ∈ s.1 q
        unfold r_nrow
        by_cases t : r_tr (Xs q) = true
        · rw [if_pos t]; exact par
        · rw [if_neg t]; exact Or.inl rfl
def r_KT (np : Nat) (Xs : Nat → r_Pt) (s : r_Rs) : Prop := ∀ q, q < np → ∀ x ∈ s.1 q, ∀ a ∈ x, ∀ j, j < (Xs q).1 → r_oor (a j) = false
theorem r_KT_one {st bf : Nat → Nat} {y : r_Sel} {q : Nat} {s s' : r_Rs} (h : r_KT np Xs s) (hok : r_okc np Xs tw s'.1) (e : r_one Xs cp ua tbl al st bf y q s = .inl s') : r_KT np Xs s' := by
  have tl := r_one_tail e
  obtain ⟨e1, -, -⟩ := r_one_ext e
  intro q' hq' x hx a ha j hj
  by_cases g : q' = q
  · rw [g] at hx hj hq'
    cases x with
    | nil => cases ha
    | cons b t =>
      rcases List.mem_cons.mp ha with h1 | h1
      · rw [h1]
        exact hok q hq' _ hx j (Or.inl hj)
      · rcases tl _ hx with h2 | h2 | h2
        · exact h q hq' _ h2 a (List.mem_cons_of_mem _ h1) j hj
        · have h3 : t = [] := h2
          rw [h3] at h1; cases h1
        · exact h q hq' _ h2 a h1 j hj
  · rw [e1 q' g] at hx
    exact h q' hq' x hx a ha j hj
theorem r_comp_inv {one : (Nat → Nat) → (Nat → Nat) → Nat × Nat → r_Rs → r_Rs ⊕ Nat} {nm : Nat → Nat → Bool} {num : Nat} {rc : Bool} {J : Nat → (Nat → Nat) → (Nat → Nat) → r_Rs → Prop} (hJ : ∀ rd st bf j s s', 1 ≤ rd → rd ≤ mr → j.1 < np → cp j.1 = num → j.2 < ns j.1 → J rd st bf s → one st bf j s = .inl s' → J rd st bf s') (hN : ∀ rd st bf s, rd < mr → J rd st bf s → J (rd + 1) (r_nst cp num s.1 st) (r_nbf cp num st bf) s) : ∀ (f e : Nat) (s : r_Rs) (st bf : Nat → Nat) (tl : List Nat) (x : r_Cs), e + f = mr → tl.length = e → J e st bf s → r_comp one cp ns nm np num rc f (e + 1) s st bf tl = .inl x → J x.2.2.2.length x.2.1 x.2.2.1 x.1 ∧ 1 ≤ x.2.2.2.length ∧ x.2.2.2.length ≤ mr := by
  intro f
  induction f with
  | zero => intro e s st bf tl x _ _ _ h; rw [r_comp] at h; cases h
  | succ f ih =>
    intro e s st bf tl x e1 e2 hj h
    rw [r_comp] at h
    have hj1 := hN e st bf s (by omega) hj
    generalize hR : r_seq (one (r_nst cp num s.1 st) (r_nbf cp num st bf)) (r_jobs cp ns nm num (decide (e + 1 = 1)) (List.range np)) s = R at h
    cases R with
    | inr c => cases h
    | inl s' =>
      have hj2 := r_seq_inv (I := J (e + 1) (r_nst cp num s.1 st) (r_nbf cp num st bf)) _ (fun j hjm s s' hs ho => hJ (e + 1) _ _ j s s' (by omega) (by omega) (r_jobs_mem hjm).1 (r_jobs_mem hjm).2.1 (r_jobs_mem hjm).2.2.1 hs ho) s s' hj1 hR
      have h2 : (if rc = false ∨ s'.2 = s.2 then .inl (s', r_nst cp num s.1 st, r_nbf cp num st bf, tl ++ [s'.2 - s.2]) else r_comp one cp ns nm np num rc f (e + 1 + 1) s' (r_nst cp num s.1 st) (r_nbf cp num st bf) (tl ++ [s'.2 - s.2])) = .inl x := h
      have l1 : (tl ++ [s'.2 - s.2]).length = e + 1 := by rw [List.length_append, e2]; rfl
      by_cases g : rc = false ∨ s'.2 = s.2
      · rw [if_pos g] at h2
        rw [← Sum.inl.inj h2]
        show J (tl ++ [s'.2 - s.2]).length _ _ _ ∧ 1 ≤ (tl ++ [s'.2 - s.2]).length ∧ (tl ++ [s'.2 - s.2]).length ≤ mr
        rw [l1]
        exact ⟨hj2, by omega, by omega⟩
      · rw [if_neg g] at h2
        exact ih (e + 1) s' _ _ _ x (by omega) l1 hj2 h2
theorem r_comps_inv {comp : Nat → r_Rs → (Nat → Nat) → (Nat → Nat) → r_Cs ⊕ Nat} {nc : Nat} {JJ : Nat → (Nat → Nat) → (Nat → Nat) → r_Rs → Prop} (h : ∀ i s st bf x, i < nc → JJ i st bf s → comp i s st bf = .inl x → JJ (i + 1) x.2.1 x.2.2.1 x.1) : ∀ (d i : Nat) (s : r_Rs) (st bf : Nat → Nat) (tls : List (List Nat)) (z : r_Rs × (Nat → Nat) × (Nat → Nat) × List (List Nat)), i + d = nc → JJ i st bf s → r_comps comp d i s st bf tls = .inl z → JJ nc z.2.1 z.2.2.1 z.1 := by
  intro d
  induction d with
  | zero =>
    intro i s st bf tls z e1 hj e
    rw [r_comps] at e
    rw [← Sum.inl.inj e, show nc = i by omega]
    exact hj
  | succ d ih =>
    intro i s st bf tls z e1 hj e
    rw [r_comps] at e
    cases hc : comp i s st bf with
    | inr c => rw [hc] at e; cases e
    | inl x =>
      rw [hc] at e
      exact ih (i + 1) x.1 x.2.1 x.2.2.1 _ z (by omega) (h i s st bf x (by omega) hj hc) e
/-- all trails of a run are in range -/
theorem r_run_KT {nm : Nat → Nat → Bool} {sl : Nat → Nat → r_Sel} {rc : Nat → Bool} {nc : Nat} (al48 : al ≤ 48) (Z : r_stl np nt Xs cp tw ns sl) (w3 : ∀ q, q < np → (Xs q).1 ≤ 3) (T16 : ∀ t, t < nt → (tbl t).length ≤ 48) {z : r_Rs × (Nat → Nat) × (Nat → Nat) × List (List Nat)} (e : r_comps (fun i s st bf => r_comp (fun st bf j => r_one Xs cp ua tbl al st bf (sl j.1 j.2) j.1) cp ns nm np i (rc i) mr 1 s st bf []) nc 0 (fun _ => [], 0) (fun _ => 0) (fun _ => 0) [] = .inl z) : r_JJ np Xs cp tw nc z.2.1 z.2.2.1 z.1 ∧ r_KT np Xs z.1 := by
  refine r_comps_inv (JJ := fun i st bf s => r_JJ np Xs cp tw i st bf s ∧ r_KT np Xs s) (nc := nc) (fun i s st bf x hi hj hx => ?_) nc 0 _ _ _ _ z (by omega) ⟨⟨fun q _ x hx => (by cases hx), fun q _ => Nat.le_refl _, by decide, fun q _ _ => ⟨rfl, rfl⟩⟩, fun q _ x hx => by cases hx⟩ e
  obtain ⟨⟨g1, g2⟩, g3, g4⟩ := r_comp_inv (mr := mr) (J := fun rd st bf s => r_J np Xs cp tw i rd st bf s ∧ r_KT np Xs s) (fun rd st bf j s s' h1 h2 h3 h4 h5 hs ho => by
    obtain ⟨z1, z2, -⟩ := Z.1 j.1 j.2 h3 h5
    have hj' := r_J_J al48 h1 hs.1 h3 h4 (w3 j.1 h3) z1 z2 T16 ho
    exact ⟨hj', r_KT_one hs.2 hj'.1 ho⟩) (fun rd st bf s h1 hs => ⟨r_J_N hs.1, hs.2⟩) mr 0 s st bf [] x (by omega) rfl ⟨r_J_S hj.1, hj.2⟩ hx
  exact ⟨r_J_E g1, g2⟩
/-- the rows of the answer are in range -/
theorem r_ans_ok {y : r_Sel} {ks : List (Nat × Nat)} {pp : Nat → Nat} {st bf : Nat → Nat} {pr : Nat → List r_Row} {tot : Nat} (hwl : r_wsl np nt Xs cp tw none y) (hok : r_okc np Xs tw pr) (hkt : r_KT np Xs (pr, tot)) (hlen : ∀ q, q < np → (pr q).length ≤ 48) (T : ∀ t, t < nt → ∀ c ∈ tbl t, ∀ j, j < tw t → r_oor (c j) = false) (T16 : ∀ t, t < nt → (tbl t).length ≤ 48) (hkk : r_kok Xs tw y.2.1 ks pp) (hpc : ∀ q b c, q < np → (Xs q).2.1 = some (b, c) → c < (Xs q).1) (hgk : r_gc y.1 ≠ 0 → ks = []) {a : List r_An × Nat × Bool} {n0 : Nat} (e : r_work y.1 al (fun ch v a => r_putA al a (v, ks.map (r_key ch))) (fun a => a.2.2) (r_cbs cp Xs ua pr tbl st bf none y.2.1 y.2.2.1 y.2.2.2.1) ([], n0, false) = .inl a) : ∀ x ∈ a.1, r_aok Xs y.1.length ks pp x := by
  obtain ⟨w1, w2, w3, w4, w5, w6⟩ := hwl
  have lens : ∀ k, k < y.2.1.length → (r_rs cp ua pr tbl st bf none (r_ml y.2.1 k)).length ≤ 48 := fun k hk => by
    have le : (r_rs cp ua pr tbl st bf none (r_ml y.2.1 k)).length ≤ (r_rws pr tbl (r_ml y.2.1 k)).length := by
      unfold r_rs
      rw [List.length_drop, List.length_take]
      omega
    cases hm : r_ml y.2.1 k with
    | inl q' =>
      rw [hm] at le
      have := hlen q' ((w3 k hk).1 q' hm)
      have le' : _ ≤ (pr q').length := le
      omega
    | inr t =>
      rw [hm] at le
      have := T16 t ((w3 k hk).2 t hm)
      have le' : _ ≤ ((tbl t).map fun c => ([c] : r_Row)).length := le
      rw [List.length_map] at le'
      omega
  have lL := r_cbs_len' (Xs := Xs) (cds := y.2.2.1) (lv := y.2.2.2.1) none w2 lens
  have putok : ∀ (a : List r_An × Nat × Bool) (b : r_An), (∀ x ∈ a.1, r_aok Xs y.1.length ks pp x) → r_aok Xs y.1.length ks pp b → ∀ x ∈ (r_putA al a b).1, r_aok Xs y.1.length ks pp x := fun a b ha hb x hx => by
    unfold r_putA at hx
    split at hx
    · have hx' : x ∈ a.1 ++ [b] := hx
      rcases List.mem_append.mp hx' with h | h
      · exact ha x h
      · rw [List.mem_singleton.mp h]; exact hb
    · exact ha x hx
  refine r_work_inv2 (its := y.1) (al := al) (L := r_cbs cp Xs ua pr tbl st bf none y.2.1 y.2.2.1 y.2.2.2.1) (fun a : List r_An × Nat × Bool => ∀ x ∈ a.1, r_aok Xs y.1.length ks pp x) (fun gz e he nb a ha => putok a _ ha ⟨fun j hj => ?_, fun k hk => ?_⟩) (fun gz nb gb g hg a ha => putok a _ ha ⟨fun j hj => r_gv_ok nb gb lL hg hj, fun k hk => by rw [hgk gz] at hk; cases hk⟩) (a0 := ([], n0, false)) (fun x hx => by cases hx) e
  · cases ho : r_oor (r_iv y.1 (r_en e) j) with
    | false => exact rfl
    | true => exact absurd ⟨j, hj, r_gc0 gz hj, ho⟩ nb
  · obtain ⟨k1, k2, k3⟩ := hkk k hk
    have ek : (ks.map (r_key e)).getD k (.inl 0) = r_key e (ks.getD k (0, 0)) := by
      rw [List.getD_eq_getElem?_getD, List.getElem?_map, List.getElem?_eq_getElem hk, List.getD_eq_getElem?_getD, List.getElem?_eq_getElem hk]
      rfl
    have mem := r_rs_mem (r_cbs_mem none he k1)
    show ((ks.getD k (0, 0)).2 = 4 → ∃ r, (ks.map (r_key e)).getD k (.inl 0) = .inr r ∧ _) ∧ ((ks.getD k (0, 0)).2 ≠ 4 → ∃ v, (ks.map (r_key e)).getD k (.inl 0) = .inl v ∧ _)
    rw [ek]
    unfold r_key
    refine ⟨fun c4 => ?_, fun c4 => ?_⟩
    · rw [if_pos c4]
      refine ⟨_, rfl, fun b c hb a ha => ?_⟩
      have hq := (w3 _ k1).1 _ (k3 c4)
      rw [k3 c4] at mem
      exact hkt (pp k) hq _ mem a ha c (hpc _ b c hq hb)
    · rw [if_neg c4]
      refine ⟨_, rfl, ?_⟩
      have kw := k2 c4
      cases hm : r_ml y.2.1 (ks.getD k (0, 0)).1 with
      | inl q =>
        rw [hm] at mem kw
        have hq := (w3 _ k1).1 _ hm
        have kw' : (ks.getD k (0, 0)).2 < (Xs q).1 ∨ ((ks.getD k (0, 0)).2 = 3 ∧ (Xs q).2.2.1.isSome = true) := kw
        refine hok q hq _ mem _ ?_
        rcases kw' with h | h
        · exact Or.inl h
        · exact Or.inr ⟨h.1, by unfold r_tr; rw [h.2, Bool.or_true]⟩
      | inr t =>
        rw [hm] at mem kw
        have ht := (w3 _ k1).2 _ hm
        have mem' : e (ks.getD k (0, 0)).1 ∈ (tbl t).map fun c => ([c] : r_Row) := mem
        rw [List.mem_map] at mem'
        obtain ⟨c, c1, c2⟩ := mem'
        rw [← c2]
        exact T t ht c c1 _ kw
end
