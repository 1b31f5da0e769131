/-! PREPARING: what is pure of it -/
section
variable {kd : Nat → Nat} {vl : Nat → Int64} {len : Nat} {T : Nat → Nat}
/-- the query's own selection has items -/
theorem t_own1 (h : z_qed kd vl = none) : 1 ≤ (z_qry kd vl).2.2.1.2.1.length := by
  have h' : z_w4 kd (z_w3 kd (z_w2 kd vl (z_w1 kd vl).2).2).2 = none := h
  show 1 ≤ (z_w2 kd vl (z_w1 kd vl).2).1.2.1.length
  cases hh : (z_w1 kd vl).2 with
  | inl y => rw [hh] at h'; cases h'
  | inr a =>
    rw [hh] at h'
    show 1 ≤ (z_s1 kd a).1.length
    have e : (z_w3 kd (z_ser kd vl a).2).2 = (z_w3 kd (z_w2 kd vl (.inr a)).2).2 := rfl
    rw [← e] at h'
    have h3 : ∃ b, (z_s3 kd vl a).2 = .inr b := by
      cases hb : (z_s3 kd vl a).2 with
      | inr b => exact ⟨b, rfl⟩
      | inl y =>
        have : (z_ser kd vl a).2 = .inl y := hb
        rw [this] at h'
        cases h'
    obtain ⟨b, h3⟩ := h3
    have h2 : ∃ b, (z_s2 kd a).2 = .inr b := by
      cases hb : (z_s2 kd a).2 with
      | inr b => exact ⟨b, rfl⟩
      | inl y =>
        unfold z_s3 at h3
        rcases z_skr_c (kd := kd) 5 (z_s2 kd a).2 with ⟨w, y', f1, f2, f3⟩ | ⟨w, f1, f2⟩
        · rw [hb] at f1; cases f1
        · rw [z_opt_f _ w, f1, hb] at h3; cases h3
    obtain ⟨b2, h2⟩ := h2
    have h1 : ∃ b, (z_s1 kd a).2 = .inr b := by
      cases hb : (z_s1 kd a).2 with
      | inr b => exact ⟨b, rfl⟩
      | inl y =>
        unfold z_s2 at h2
        rcases z_skr_c (kd := kd) 4 (z_s1 kd a).2 with ⟨w, y', f1, f2, f3⟩ | ⟨w, f1, f2⟩
        · rw [hb] at f1; cases f1
        · rw [z_opt_f _ w, f1, hb] at h2; cases h2
    obtain ⟨b1, h1⟩ := h1
    unfold z_s1 at h1 ⊢
    cases hz : z_ndr kd 3 (.inr a) with
    | inl y => rw [hz] at h1; cases h1
    | inr y =>
      rw [z_go_r]
      exact z_lst_1 3 y
/-- places rise -/
theorem z_Z_mono (len : Nat) (T : Nat → Nat) : ∀ d i, i + d = len → ∀ a b, a ≤ b → (z_Z len T i).getD a len ≤ (z_Z len T i).getD b len := by
  have le : ∀ d i, i + d = len → ∀ b, i ≤ (z_Z len T i).getD b len := fun d i h b => by
    by_cases hb : b < (z_Z len T i).length
    · exact (z_Z_in len T d i h _ (z_getD_m hb)).1
    · rw [List.getD_eq_getElem?_getD, List.getElem?_eq_none (by omega)]
      show i ≤ len
      omega
  intro d
  induction d using Nat.strongRecOn with
  | ind d ih =>
    intro i h a b hab
    by_cases e : len ≤ i
    · rw [z_Z_end e]; exact Nat.le_refl _
    · by_cases q : T i = 32
      · rw [z_Z_sp (by omega) q]
        exact ih (d - 1) (by omega) (i + 1) (by omega) a b hab
      · rw [z_Z_tok (by omega) q]
        have h2 := z_tend_le (T := T) (show i < len by omega)
        cases a with
        | zero =>
          cases b with
          | zero => exact Nat.le_refl _
          | succ b =>
            have := le (len - z_tend len T i) (z_tend len T i) (by omega) b
            show i ≤ (z_Z len T (z_tend len T i)).getD b len
            omega
        | succ a =>
          obtain ⟨b, rfl⟩ : ∃ k, b = k + 1 := ⟨b - 1, by omega⟩
          exact ih (len - z_tend len T i) (by omega) (z_tend len T i) (by omega) a b (by omega)
theorem z_pl_mo {i j : Nat} (h : i ≤ j) : z_pl len T i ≤ z_pl len T j := z_Z_mono len T len 0 (by omega) i j h
theorem z_pl_le {j : Nat} : z_pl len T j ≤ len := by
  unfold z_pl
  by_cases hb : j < (z_Z len T 0).length
  · have := (z_Z_in len T len 0 (by omega) _ (z_getD_m (d := len) hb)).2.1
    omega
  · rw [List.getD_eq_getElem?_getD, List.getElem?_eq_none (by omega)]
    exact Nat.le_refl _
theorem z_nle : z_n len T ≤ len := z_Z_len len T len 0 (by omega)
end
theorem x_ofN (x : Int32) : ∃ m, x = Int32.ofNat m := ⟨x.toBitVec.toNat, by
  apply Int32.toBitVec.inj
  show x.toBitVec = BitVec.ofNat 32 x.toBitVec.toNat
  rw [BitVec.ofNat_toNat, BitVec.setWidth_eq]⟩
/-- the fault of a text over tables -/
def t_flt (nw pl kd : Nat → Nat) (vl : Nat → Int64) (tc : Nat) (cols : Nat → Nat) : Option (Nat × Nat) := match z_qed kd vl with
  | some q => some (1, pl q)
  | none => z_flt nw pl (z_qry kd vl) tc cols
