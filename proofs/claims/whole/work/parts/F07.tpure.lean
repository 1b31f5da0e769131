/-! THE QUERY AS THE RUN HAS IT: what no fault means for components -/
section
variable {pl nw : Nat → Nat} {x : z_Qu} {tc : Nat} {cols : Nat → Nat}
theorem t_edge {q j : Nat} (hq : q < x.2.1.length) {y : z_Se} (hy : y ∈ (x.2.1.getD q z_pa0).2.2.1) {t : Nat} (ht : t ∈ z_srt y) (hm : z_mng nw x.2.1 tc t = some (.inl j)) : z_Pb (z_rch nw x tc) q j := by
  have e : z_Pb (z_edg nw x tc) q j := z_edg_bit.mpr ⟨y, hy, t, ht, hm⟩
  exact z_c4_sup (m := x.2.1.length) 0 x.2.1.length (z_edg nw x tc) (z_edg nw x tc) (by omega) (fun a j _ h => h) 4 (by omega) q j hq e
theorem t_tr (h4 : x.2.1.length ≤ 4) {i p j : Nat} (hp : p < x.2.1.length) (hi : i < x.2.1.length) (h : z_Pb (z_rch nw x tc) i p) (g : z_Pb (z_rch nw x tc) p j) : z_Pb (z_rch nw x tc) i j := z_c4_tr h4 (z_edg nw x tc) p i j hp hi h g
theorem t_cpe (h4 : x.2.1.length ≤ 4) {i j : Nat} (hi : i < x.2.1.length) (hj : j < x.2.1.length) : t_cp nw x tc i = t_cp nw x tc j ↔ (j = i ∨ (z_Pb (z_rch nw x tc) i j ∧ z_Pb (z_rch nw x tc) j i)) := by
  rw [show (t_cp nw x tc i = t_cp nw x tc j) = ((z_cmp nw x tc).1 i = (z_cmp nw x tc).1 j) from rfl, (z_cmp_cls h4).1 i j hi hj, z_tog_bit]
  constructor
  · rintro (h | ⟨-, h⟩)
    · exact Or.inl h
    · exact Or.inr h
  · rintro (h | h)
    · exact Or.inl h
    · exact Or.inr ⟨hj, h⟩
theorem t_rec_b {q : Nat} : t_rec nw x tc q = true ↔ z_Pb (z_rch nw x tc) q q := Iff.rfl
/-- a selection that names a part of its own component -/
theorem t_nown (h4 : x.2.1.length ≤ 4) {q : Nat} (hq : q < x.2.1.length) {t j : Nat} (hm : z_mng nw x.2.1 tc t = some (.inl j)) (hc : t_cp nw x tc q = t_cp nw x tc j) (he : z_Pb (z_rch nw x tc) q j) : z_nown nw x tc q t = true := by
  have hj : j < x.2.1.length := z_mng_lt.1 j hm
  have rq : z_Pb (z_rch nw x tc) q q := by
    rcases (t_cpe h4 hq hj).mp hc with h | h
    · rw [h] at he; exact he
    · exact t_tr h4 hj hq h.1 h.2
  unfold z_nown
  rw [hm]
  show (decide (q < x.2.1.length) && ((z_rch nw x tc q).testBit q && (z_tog x.2.1.length (z_rch nw x tc) q).testBit j)) = true
  rw [decide_eq_true hq, Bool.true_and, show (z_rch nw x tc q).testBit q = true from rq, Bool.true_and, ← (z_cmp_cls h4).1 q j hq hj]
  exact hc
theorem t_nown' (h4 : x.2.1.length ≤ 4) {q t : Nat} (h : z_nown nw x tc q t = true) : ∃ j, z_mng nw x.2.1 tc t = some (.inl j) ∧ j < x.2.1.length ∧ q < x.2.1.length ∧ t_cp nw x tc q = t_cp nw x tc j ∧ t_rec nw x tc q = true := by
  unfold z_nown at h
  cases hm : z_mng nw x.2.1 tc t with
  | none => rw [hm] at h; cases h
  | some m =>
    cases m with
    | inr t' => rw [hm] at h; cases h
    | inl j =>
      rw [hm] at h
      have h' : (decide (q < x.2.1.length) && ((z_rch nw x tc q).testBit q && (z_tog x.2.1.length (z_rch nw x tc) q).testBit j)) = true := h
      rw [Bool.and_eq_true, Bool.and_eq_true] at h'
      have hq : q < x.2.1.length := of_decide_eq_true h'.1
      have hj : j < x.2.1.length := z_mng_lt.1 j hm
      exact ⟨j, rfl, hj, hq, ((z_cmp_cls h4).1 q j hq hj).mpr h'.2.2, h'.2.1⟩
theorem z_srt_m {y : z_Se} {t : Nat} : t ∈ z_srt y ↔ (∃ sl, q_so y sl t) := by
  unfold z_srt
  rw [List.mem_append, List.mem_filterMap]
  constructor
  · rintro (h | ⟨c, h1, h2⟩)
    · obtain ⟨j, hj, e⟩ := z_mgd 0 h
      exact ⟨some j, hj, e⟩
    · exact ⟨none, c, h1, h2⟩
  · rintro ⟨sl, h⟩
    cases sl with
    | none => obtain ⟨c, h1, h2⟩ := h; exact Or.inr ⟨c, h1, h2⟩
    | some m => obtain ⟨h1, h2⟩ := h; exact Or.inl (by rw [← h2]; exact z_getD_m h1)
/-- selections with COUNT .., and those within NOT EXISTS, don't name their own component -/
theorem t_nf5 (N : t_nf nw pl x tc cols) {s : Nat} (hs : s < (z_sels x).length) {sl : Option Nat} {t : Nat} (h : q_so (z_sv x s).2 sl t) (hg : sl = none ∨ 0 < z_gc (z_sv x s).2.2.1) : z_nown nw x tc (z_sv x s).1 t = false := by
  cases hn : z_nown nw x tc (z_sv x s).1 t with
  | false => rfl
  | true => exact absurd (Or.inr (Or.inl ⟨rfl, s, sl, t, hs, h, hg, hn, rfl⟩)) (N 5 (pl t) (by decide) (by decide))
/-- a part with UNION ALL, SEARCH or CYCLE that is recursive is alone, and named once -/
theorem t_nf7 (N : t_nf nw pl x tc cols) (h4 : x.2.1.length ≤ 4) {m : Nat} (hm : m < x.2.1.length) (hr : t_rec nw x tc m = true) (hu : t_ua x m = true ∨ z_trd (x.2.1.getD m z_pa0) = true) : (∀ p, p < x.2.1.length → t_cp nw x tc p = t_cp nw x tc m → p = m) ∧ ∀ j, j < (x.2.1.getD m z_pa0).2.2.1.length → ¬ z_two nw x tc m ((x.2.1.getD m z_pa0).2.2.1.getD j z_se0) := by
  have h7 : ∀ h, ¬ (z_tog x.2.1.length (z_rch nw x tc) m ≠ 2 ^ m ∨ ∃ j, j < (x.2.1.getD m z_pa0).2.2.1.length ∧ z_two nw x tc m ((x.2.1.getD m z_pa0).2.2.1.getD j z_se0)) ∨ h := fun h => by
    left
    intro g
    exact N 7 (pl (x.2.1.getD m z_pa0).1) (by decide) (by decide) (Or.inr (Or.inr (Or.inr ⟨m, hm, Or.inr (Or.inr (Or.inl ⟨rfl, hr, hu, g⟩)), rfl⟩)))
  have h7' : ¬ (z_tog x.2.1.length (z_rch nw x tc) m ≠ 2 ^ m ∨ ∃ j, j < (x.2.1.getD m z_pa0).2.2.1.length ∧ z_two nw x tc m ((x.2.1.getD m z_pa0).2.2.1.getD j z_se0)) := by
    rcases h7 False with h | h
    · exact h
    · exact h.elim
  refine ⟨fun p hp hc => ?_, fun j hj g => h7' (Or.inr ⟨j, hj, g⟩)⟩
  have tg : z_tog x.2.1.length (z_rch nw x tc) m = 2 ^ m := by
    by_cases g : z_tog x.2.1.length (z_rch nw x tc) m = 2 ^ m
    · exact g
    · exact absurd (Or.inl g) h7'
  have b := ((z_cmp_cls (nw := nw) (tc := tc) h4).1 m p hm hp).mp hc.symm
  rw [tg, Nat.testBit_two_pow] at b
  exact (of_decide_eq_true b).symm
theorem t_nf8 (N : t_nf nw pl x tc cols) {m : Nat} (hm : m < x.2.1.length) (ht : z_trd (x.2.1.getD m z_pa0) = true) : t_rec nw x tc m = true := by
  cases hr : t_rec nw x tc m with
  | true => rfl
  | false => exact absurd (Or.inr (Or.inr (Or.inr ⟨m, hm, Or.inr (Or.inr (Or.inr ⟨rfl, ht, hr⟩)), rfl⟩))) (N 8 (pl (x.2.1.getD m z_pa0).1) (by decide) (by decide))
theorem t_nf6 (N : t_nf nw pl x tc cols) {m : Nat} (hm : m < x.2.1.length) : ¬ z_onc nw x tc m ((x.2.1.getD m z_pa0).2.2.1.getD 0 z_se0) := fun h => N 6 (pl (x.2.1.getD m z_pa0).1) (by decide) (by decide) (Or.inr (Or.inr (Or.inr ⟨m, hm, Or.inr (Or.inl ⟨rfl, h⟩), rfl⟩)))
/-- a recursive part has a selection that names its component -/
theorem t_rec1 (h4 : x.2.1.length ≤ 4) {q : Nat} (hq : q < x.2.1.length) (hr : t_rec nw x tc q = true) : ∃ k, k < (x.2.1.getD q z_pa0).2.2.1.length ∧ z_onc nw x tc q ((x.2.1.getD q z_pa0).2.2.1.getD k z_se0) := by
  have bd : ∀ a j, a < x.2.1.length → z_Pb (z_rch nw x tc) a j → j < x.2.1.length := fun a j ha h => z_rch_bd ha h
  have sub := z_c4_sub (m := x.2.1.length) (S := fun a j => ∃ k, z_Pb (z_edg nw x tc) a k ∧ (k = j ∨ (k < x.2.1.length ∧ z_Pb (z_rch nw x tc) k j))) (fun p i j hp hi h g => by
    obtain ⟨k, k1, k2⟩ := h
    obtain ⟨k', k3, k4⟩ := g
    have rp : z_Pb (z_rch nw x tc) p j := by
      have e1 : z_Pb (z_rch nw x tc) p k' := z_c4_sup (m := x.2.1.length) 0 x.2.1.length (z_edg nw x tc) (z_edg nw x tc) (by omega) (fun a j _ h => h) 4 (by omega) p k' hp k3
      rcases k4 with h | ⟨h1, h2⟩
      · rw [← h]; exact e1
      · exact t_tr h4 h1 hp e1 h2
    refine ⟨k, k1, Or.inr ?_⟩
    rcases k2 with h | ⟨h1, h2⟩
    · rw [h]; exact ⟨hp, rp⟩
    · exact ⟨h1, t_tr h4 hp h1 h2 rp⟩) 4 (z_edg nw x tc) (fun a j ha h => ⟨j, h, Or.inl rfl⟩) q q hq hr
  obtain ⟨k, k1, k2⟩ := sub
  obtain ⟨y, y1, t, t1, t2⟩ := z_edg_bit.mp k1
  obtain ⟨i, i1, i2⟩ := z_mgd z_se0 y1
  refine ⟨i, i1, ?_⟩
  rw [i2]
  have e1 : z_Pb (z_rch nw x tc) q k := t_edge hq y1 t1 t2
  refine ⟨t, t1, t_nown h4 hq t2 ?_ e1⟩
  rw [t_cpe h4 hq (z_mng_lt.1 k t2)]
  rcases k2 with h | ⟨h1, h2⟩
  · exact Or.inl h
  · exact Or.inr ⟨e1, h2⟩
/-- in a component with a recursive part all are recursive -/
theorem t_rec_all (h4 : x.2.1.length ≤ 4) {p q : Nat} (hp : p < x.2.1.length) (hq : q < x.2.1.length) (hc : t_cp nw x tc p = t_cp nw x tc q) (hr : t_rec nw x tc p = true) : t_rec nw x tc q = true := by
  rcases (t_cpe h4 hp hq).mp hc with h | ⟨h, g⟩
  · rw [h]; exact hr
  · exact t_tr h4 hp hq g h
/-- what is known of the components -/
theorem t_cok (N : t_nf nw pl x tc cols) (h4 : x.2.1.length ≤ 4) (hfl : ∀ m, m < x.2.1.length → (x.2.1.getD m z_pa0).2.2.2.1.length + 1 = (x.2.1.getD m z_pa0).2.2.1.length) (c : Nat) : r_cok x.2.1.length (t_Xs nw x) (t_cp nw x tc) (t_rec nw x tc) (t_ua x) c := by
  refine ⟨fun h q hq hc => ?_, fun h1 h2 q hq hc => ?_, fun h q hq hc hs => ?_⟩
  · unfold r_rca at h
    rw [List.any_eq_true] at h
    obtain ⟨q0, a1, a2⟩ := h
    rw [Bool.and_eq_true, Bool.and_eq_true] at a2
    have l0 := List.mem_range.mp a1
    have e := (t_nf7 N h4 l0 a2.2.1 (Or.inl a2.2.2)).1 q hq (by rw [hc]; exact (of_decide_eq_true a2.1).symm)
    rw [e]; exact a2.2.2
  · unfold r_rcc at h2
    rw [List.any_eq_true] at h2
    obtain ⟨q1, b1, b2⟩ := h2
    rw [Bool.and_eq_true] at b2
    have rq := t_rec_all h4 (List.mem_range.mp b1) hq (by rw [hc]; exact of_decide_eq_true b2.1) b2.2
    cases hu : t_ua x q with
    | false => rfl
    | true =>
      have : r_rca x.2.1.length (t_cp nw x tc) (t_rec nw x tc) (t_ua x) c = true := by
        unfold r_rca
        rw [List.any_eq_true]
        exact ⟨q, List.mem_range.mpr hq, by rw [decide_eq_true hc, rq, hu]; rfl⟩
      rw [this] at h1; cases h1
  · unfold r_rcc at h
    rw [List.any_eq_true] at h
    obtain ⟨q1, b1, b2⟩ := h
    rw [Bool.and_eq_true] at b2
    have rq := t_rec_all h4 (List.mem_range.mp b1) hq (by rw [hc]; exact of_decide_eq_true b2.1) b2.2
    rw [rq, Bool.true_and] at hs
    show ((x.2.1.getD q z_pa0).2.2.2.1.any fun b => !b) = true
    have hs' : (x.2.1.getD q z_pa0).2.2.2.1.any id = false := hs
    obtain ⟨k, k1, k2⟩ := t_rec1 h4 hq rq
    have k0 : k ≠ 0 := fun z => t_nf6 N hq (by rw [z] at k2; exact k2)
    have fl := hfl q hq
    cases hl : (x.2.1.getD q z_pa0).2.2.2.1 with
    | nil =>
      rw [hl] at fl
      have : ([] : List Bool).length = 0 := rfl
      omega
    | cons a l =>
      rw [hl] at hs'
      rw [List.any_cons] at hs' ⊢
      cases a with
      | true => cases hs'
      | false => rfl
end
