/-! CALLS: run: how it may fail -/
theorem r_work_e {α : Type} {its : List r_It} {al : Nat} {put : (Nat → r_Row) → (Nat → Int64) → α → α} {fo : α → Bool} {L : List (Nat → r_Row)} {a : α} {e : Nat} (h : r_work its al put fo L a = .inr e) : e = 2 ∨ e = 3 := by
  unfold r_work at h
  split at h
  · exact Or.inl (Sum.inr.inj h).symm
  · split at h
    · split at h
      · exact Or.inr (Sum.inr.inj h).symm
      · cases h
    · split at h
      · exact Or.inr (Sum.inr.inj h).symm
      · split at h
        · exact Or.inl (Sum.inr.inj h).symm
        · split at h
          · exact Or.inr (Sum.inr.inj h).symm
          · cases h
theorem r_seq_er {one : Nat × Nat → r_Rs → r_Rs ⊕ Nat} (h : ∀ j s e, one j s = .inr e → e = 2 ∨ e = 3) : ∀ (l : List (Nat × Nat)) (s : r_Rs) (e : Nat), r_seq one l s = .inr e → e = 2 ∨ e = 3 := by
  intro l
  induction l with
  | nil => intro s e q; rw [r_seq] at q; cases q
  | cons j l ih =>
    intro s e q
    rw [r_seq] at q
    cases ho : one j s with
    | inr c => rw [ho] at q; rw [← Sum.inr.inj q]; exact h j s c ho
    | inl s1 => rw [ho] at q; exact ih s1 e q
theorem r_comp_er {one : (Nat → Nat) → (Nat → Nat) → Nat × Nat → r_Rs → r_Rs ⊕ Nat} {cp ns : Nat → Nat} {nm : Nat → Nat → Bool} {np num : Nat} {rc : Bool} (h : ∀ st bf j s e, one st bf j s = .inr e → e = 2 ∨ e = 3) : ∀ (f rd : Nat) (s : r_Rs) (st bf : Nat → Nat) (tl : List Nat) (e : Nat), r_comp one cp ns nm np num rc f rd s st bf tl = .inr e → e = 2 ∨ e = 3 := by
  intro f
  induction f with
  | zero => intro rd s st bf tl e q; rw [r_comp] at q; exact Or.inr (Sum.inr.inj q).symm
  | succ f ih =>
    intro rd s st bf tl e q
    rw [r_comp] at q
    cases ho : r_seq (one (r_nst cp num s.1 st) (r_nbf cp num st bf)) (r_jobs cp ns nm num (decide (rd = 1)) (List.range np)) s with
    | inr c =>
      rw [ho] at q
      rw [← Sum.inr.inj q]
      exact r_seq_er (h _ _) _ _ _ ho
    | inl s' =>
      rw [ho] at q
      simp only [] at q
      split at q
      · cases q
      · exact ih _ _ _ _ _ _ q
theorem r_comps_er {comp : Nat → r_Rs → (Nat → Nat) → (Nat → Nat) → r_Cs ⊕ Nat} (h : ∀ i s st bf e, comp i s st bf = .inr e → e = 2 ∨ e = 3) : ∀ (d i : Nat) (s : r_Rs) (st bf : Nat → Nat) (tls : List (List Nat)) (e : Nat), r_comps comp d i s st bf tls = .inr e → e = 2 ∨ e = 3 := by
  intro d
  induction d with
  | zero => intro i s st bf tls e q; rw [r_comps] at q; cases q
  | succ d ih =>
    intro i s st bf tls e q
    rw [r_comps] at q
    cases ho : comp i s st bf with
    | inr c => rw [ho] at q; rw [← Sum.inr.inj q]; exact h _ _ _ _ _ ho
    | inl z => rw [ho] at q; exact ih _ _ _ _ _ _ q
theorem r_run_er {Xs : Nat → r_Pt} {cp : Nat → Nat} {ua : Nat → Bool} {tbl : Nat → List (Nat → Int64)} {ns : Nat → Nat} {nm : Nat → Nat → Bool} {sl : Nat → Nat → r_Sel} {rc : Nat → Bool} {np nc : Nat} {ow : r_Sel} {ks : List (Nat × Nat)} {mr al e : Nat} (h : r_run Xs cp ua tbl ns nm sl rc np nc ow ks mr al = .inr e) : e = 2 ∨ e = 3 := by
  unfold r_run at h
  cases hc : r_comps (fun i s st bf => r_comp (fun st bf j => r_one Xs cp ua tbl al st bf (sl j.1 j.2) j.1) cp ns nm np i (rc i) mr 1 s st bf []) nc 0 (fun _ => [], 0) (fun _ => 0) (fun _ => 0) [] with
  | inr c =>
    rw [hc] at h
    rw [← Sum.inr.inj h]
    exact r_comps_er (fun i s st bf e he => r_comp_er (fun st bf j s e h => r_one_e h) _ _ _ _ _ _ _ he) _ _ _ _ _ _ _ hc
  | inl z =>
    rw [hc] at h
    simp only [] at h
    cases hw : r_work ow.1 al (fun ch v a => r_putA al a (v, ks.map (r_key ch))) (fun a => a.2.2) (r_cbs cp Xs ua z.1.1 tbl z.2.1 z.2.2.1 none ow.2.1 ow.2.2.1 ow.2.2.2.1) ([], z.1.2, false) with
    | inr c =>
      rw [hw] at h
      rw [← Sum.inr.inj h]
      exact r_work_e hw
    | inl a => rw [hw] at h; cases h
