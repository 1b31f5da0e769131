theorem z_by0 (x1 x2 x3 x4 x5 : Int32) (u : g_St) : f_M_byteOf (Int32.ofNat 0) x1 x2 x3 x4 x5 u = some (Int32.ofNat (z_b x1 24), u) := by
  unfold f_M_byteOf
  rw [if_neg (by decide)]
  unfold f_M_byteOf_42
  rw [z_bM x1 (c := (24 - (8 * (Int32.ofNat 0 - Int32.ofNat 0 / 4 * 4))) &&& 31) (sh := 24) (by decide) (by decide)]
  rfl
theorem z_by1 (x1 x2 x3 x4 x5 : Int32) (u : g_St) : f_M_byteOf (Int32.ofNat 1) x1 x2 x3 x4 x5 u = some (Int32.ofNat (z_b x1 16), u) := by
  unfold f_M_byteOf
  rw [if_neg (by decide)]
  unfold f_M_byteOf_42
  rw [z_bM x1 (c := (24 - (8 * (Int32.ofNat 1 - Int32.ofNat 1 / 4 * 4))) &&& 31) (sh := 16) (by decide) (by decide)]
  rfl
theorem z_by2 (x1 x2 x3 x4 x5 : Int32) (u : g_St) : f_M_byteOf (Int32.ofNat 2) x1 x2 x3 x4 x5 u = some (Int32.ofNat (z_b x1 8), u) := by
  unfold f_M_byteOf
  rw [if_neg (by decide)]
  unfold f_M_byteOf_42
  rw [z_bM x1 (c := (24 - (8 * (Int32.ofNat 2 - Int32.ofNat 2 / 4 * 4))) &&& 31) (sh := 8) (by decide) (by decide)]
  rfl
theorem z_by3 (x1 x2 x3 x4 x5 : Int32) (u : g_St) : f_M_byteOf (Int32.ofNat 3) x1 x2 x3 x4 x5 u = some (Int32.ofNat (z_b x1 0), u) := by
  unfold f_M_byteOf
  rw [if_neg (by decide)]
  unfold f_M_byteOf_42
  rw [z_bM x1 (c := (24 - (8 * (Int32.ofNat 3 - Int32.ofNat 3 / 4 * 4))) &&& 31) (sh := 0) (by decide) (by decide)]
  rfl
theorem z_by4 (x1 x2 x3 x4 x5 : Int32) (u : g_St) : f_M_byteOf (Int32.ofNat 4) x1 x2 x3 x4 x5 u = some (Int32.ofNat (z_b x2 24), u) := by
  unfold f_M_byteOf
  rw [if_pos (by decide), if_neg (by decide)]
  unfold f_M_byteOf_42
  rw [z_bM x2 (c := (24 - (8 * (Int32.ofNat 4 - Int32.ofNat 4 / 4 * 4))) &&& 31) (sh := 24) (by decide) (by decide)]
  rfl
theorem z_by5 (x1 x2 x3 x4 x5 : Int32) (u : g_St) : f_M_byteOf (Int32.ofNat 5) x1 x2 x3 x4 x5 u = some (Int32.ofNat (z_b x2 16), u) := by
  unfold f_M_byteOf
  rw [if_pos (by decide), if_neg (by decide)]
  unfold f_M_byteOf_42
  rw [z_bM x2 (c := (24 - (8 * (Int32.ofNat 5 - Int32.ofNat 5 / 4 * 4))) &&& 31) (sh := 16) (by decide) (by decide)]
  rfl
theorem z_by6 (x1 x2 x3 x4 x5 : Int32) (u : g_St) : f_M_byteOf (Int32.ofNat 6) x1 x2 x3 x4 x5 u = some (Int32.ofNat (z_b x2 8), u) := by
  unfold f_M_byteOf
  rw [if_pos (by decide), if_neg (by decide)]
  unfold f_M_byteOf_42
  rw [z_bM x2 (c := (24 - (8 * (Int32.ofNat 6 - Int32.ofNat 6 / 4 * 4))) &&& 31) (sh := 8) (by decide) (by decide)]
  rfl
theorem z_by7 (x1 x2 x3 x4 x5 : Int32) (u : g_St) : f_M_byteOf (Int32.ofNat 7) x1 x2 x3 x4 x5 u = some (Int32.ofNat (z_b x2 0), u) := by
  unfold f_M_byteOf
  rw [if_pos (by decide), if_neg (by decide)]
  unfold f_M_byteOf_42
  rw [z_bM x2 (c := (24 - (8 * (Int32.ofNat 7 - Int32.ofNat 7 / 4 * 4))) &&& 31) (sh := 0) (by decide) (by decide)]
  rfl
theorem z_by8 (x1 x2 x3 x4 x5 : Int32) (u : g_St) : f_M_byteOf (Int32.ofNat 8) x1 x2 x3 x4 x5 u = some (Int32.ofNat (z_b x3 24), u) := by
  unfold f_M_byteOf
  rw [if_pos (by decide), if_pos (by decide), if_neg (by decide)]
  unfold f_M_byteOf_42
  rw [z_bM x3 (c := (24 - (8 * (Int32.ofNat 8 - Int32.ofNat 8 / 4 * 4))) &&& 31) (sh := 24) (by decide) (by decide)]
  rfl
theorem z_by9 (x1 x2 x3 x4 x5 : Int32) (u : g_St) : f_M_byteOf (Int32.ofNat 9) x1 x2 x3 x4 x5 u = some (Int32.ofNat (z_b x3 16), u) := by
  unfold f_M_byteOf
  rw [if_pos (by decide), if_pos (by decide), if_neg (by decide)]
  unfold f_M_byteOf_42
  rw [z_bM x3 (c := (24 - (8 * (Int32.ofNat 9 - Int32.ofNat 9 / 4 * 4))) &&& 31) (sh := 16) (by decide) (by decide)]
  rfl
theorem z_by10 (x1 x2 x3 x4 x5 : Int32) (u : g_St) : f_M_byteOf (Int32.ofNat 10) x1 x2 x3 x4 x5 u = some (Int32.ofNat (z_b x3 8), u) := by
  unfold f_M_byteOf
  rw [if_pos (by decide), if_pos (by decide), if_neg (by decide)]
  unfold f_M_byteOf_42
  rw [z_bM x3 (c := (24 - (8 * (Int32.ofNat 10 - Int32.ofNat 10 / 4 * 4))) &&& 31) (sh := 8) (by decide) (by decide)]
  rfl
theorem z_by11 (x1 x2 x3 x4 x5 : Int32) (u : g_St) : f_M_byteOf (Int32.ofNat 11) x1 x2 x3 x4 x5 u = some (Int32.ofNat (z_b x3 0), u) := by
  unfold f_M_byteOf
  rw [if_pos (by decide), if_pos (by decide), if_neg (by decide)]
  unfold f_M_byteOf_42
  rw [z_bM x3 (c := (24 - (8 * (Int32.ofNat 11 - Int32.ofNat 11 / 4 * 4))) &&& 31) (sh := 0) (by decide) (by decide)]
  rfl
theorem z_by12 (x1 x2 x3 x4 x5 : Int32) (u : g_St) : f_M_byteOf (Int32.ofNat 12) x1 x2 x3 x4 x5 u = some (Int32.ofNat (z_b x4 24), u) := by
  unfold f_M_byteOf
  rw [if_pos (by decide), if_pos (by decide), if_pos (by decide), if_neg (by decide)]
  unfold f_M_byteOf_42
  rw [z_bM x4 (c := (24 - (8 * (Int32.ofNat 12 - Int32.ofNat 12 / 4 * 4))) &&& 31) (sh := 24) (by decide) (by decide)]
  rfl
theorem z_by13 (x1 x2 x3 x4 x5 : Int32) (u : g_St) : f_M_byteOf (Int32.ofNat 13) x1 x2 x3 x4 x5 u = some (Int32.ofNat (z_b x4 16), u) := by
  unfold f_M_byteOf
  rw [if_pos (by decide), if_pos (by decide), if_pos (by decide), if_neg (by decide)]
  unfold f_M_byteOf_42
  rw [z_bM x4 (c := (24 - (8 * (Int32.ofNat 13 - Int32.ofNat 13 / 4 * 4))) &&& 31) (sh := 16) (by decide) (by decide)]
  rfl
theorem z_by14 (x1 x2 x3 x4 x5 : Int32) (u : g_St) : f_M_byteOf (Int32.ofNat 14) x1 x2 x3 x4 x5 u = some (Int32.ofNat (z_b x4 8), u) := by
  unfold f_M_byteOf
  rw [if_pos (by decide), if_pos (by decide), if_pos (by decide), if_neg (by decide)]
  unfold f_M_byteOf_42
  rw [z_bM x4 (c := (24 - (8 * (Int32.ofNat 14 - Int32.ofNat 14 / 4 * 4))) &&& 31) (sh := 8) (by decide) (by decide)]
  rfl
theorem z_by15 (x1 x2 x3 x4 x5 : Int32) (u : g_St) : f_M_byteOf (Int32.ofNat 15) x1 x2 x3 x4 x5 u = some (Int32.ofNat (z_b x4 0), u) := by
  unfold f_M_byteOf
  rw [if_pos (by decide), if_pos (by decide), if_pos (by decide), if_neg (by decide)]
  unfold f_M_byteOf_42
  rw [z_bM x4 (c := (24 - (8 * (Int32.ofNat 15 - Int32.ofNat 15 / 4 * 4))) &&& 31) (sh := 0) (by decide) (by decide)]
  rfl
theorem z_by16 (x1 x2 x3 x4 x5 : Int32) (u : g_St) : f_M_byteOf (Int32.ofNat 16) x1 x2 x3 x4 x5 u = some (Int32.ofNat (z_b x5 24), u) := by
  unfold f_M_byteOf
  rw [if_pos (by decide), if_pos (by decide), if_pos (by decide), if_pos (by decide)]
  unfold f_M_byteOf_42
  rw [z_bM x5 (c := (24 - (8 * (Int32.ofNat 16 - Int32.ofNat 16 / 4 * 4))) &&& 31) (sh := 24) (by decide) (by decide)]
  rfl
theorem z_by17 (x1 x2 x3 x4 x5 : Int32) (u : g_St) : f_M_byteOf (Int32.ofNat 17) x1 x2 x3 x4 x5 u = some (Int32.ofNat (z_b x5 16), u) := by
  unfold f_M_byteOf
  rw [if_pos (by decide), if_pos (by decide), if_pos (by decide), if_pos (by decide)]
  unfold f_M_byteOf_42
  rw [z_bM x5 (c := (24 - (8 * (Int32.ofNat 17 - Int32.ofNat 17 / 4 * 4))) &&& 31) (sh := 16) (by decide) (by decide)]
  rfl
theorem z_by18 (x1 x2 x3 x4 x5 : Int32) (u : g_St) : f_M_byteOf (Int32.ofNat 18) x1 x2 x3 x4 x5 u = some (Int32.ofNat (z_b x5 8), u) := by
  unfold f_M_byteOf
  rw [if_pos (by decide), if_pos (by decide), if_pos (by decide), if_pos (by decide)]
  unfold f_M_byteOf_42
  rw [z_bM x5 (c := (24 - (8 * (Int32.ofNat 18 - Int32.ofNat 18 / 4 * 4))) &&& 31) (sh := 8) (by decide) (by decide)]
  rfl
theorem z_by19 (x1 x2 x3 x4 x5 : Int32) (u : g_St) : f_M_byteOf (Int32.ofNat 19) x1 x2 x3 x4 x5 u = some (Int32.ofNat (z_b x5 0), u) := by
  unfold f_M_byteOf
  rw [if_pos (by decide), if_pos (by decide), if_pos (by decide), if_pos (by decide)]
  unfold f_M_byteOf_42
  rw [z_bM x5 (c := (24 - (8 * (Int32.ofNat 19 - Int32.ofNat 19 / 4 * 4))) &&& 31) (sh := 0) (by decide) (by decide)]
  rfl
theorem z_byM {k : Nat} (hk : k < 20) (x1 x2 x3 x4 x5 : Int32) (u : g_St) : f_M_byteOf (Int32.ofNat k) x1 x2 x3 x4 x5 u = some (Int32.ofNat ((z_bs20 x1 x2 x3 x4 x5).getD k 0), u) := match k, hk with
  | 0, _ => z_by0 x1 x2 x3 x4 x5 u
  | 1, _ => z_by1 x1 x2 x3 x4 x5 u
  | 2, _ => z_by2 x1 x2 x3 x4 x5 u
  | 3, _ => z_by3 x1 x2 x3 x4 x5 u
  | 4, _ => z_by4 x1 x2 x3 x4 x5 u
  | 5, _ => z_by5 x1 x2 x3 x4 x5 u
  | 6, _ => z_by6 x1 x2 x3 x4 x5 u
  | 7, _ => z_by7 x1 x2 x3 x4 x5 u
  | 8, _ => z_by8 x1 x2 x3 x4 x5 u
  | 9, _ => z_by9 x1 x2 x3 x4 x5 u
  | 10, _ => z_by10 x1 x2 x3 x4 x5 u
  | 11, _ => z_by11 x1 x2 x3 x4 x5 u
  | 12, _ => z_by12 x1 x2 x3 x4 x5 u
  | 13, _ => z_by13 x1 x2 x3 x4 x5 u
  | 14, _ => z_by14 x1 x2 x3 x4 x5 u
  | 15, _ => z_by15 x1 x2 x3 x4 x5 u
  | 16, _ => z_by16 x1 x2 x3 x4 x5 u
  | 17, _ => z_by17 x1 x2 x3 x4 x5 u
  | 18, _ => z_by18 x1 x2 x3 x4 x5 u
  | 19, _ => z_by19 x1 x2 x3 x4 x5 u
  | k + 20, h => absurd h (by omega)
theorem z_bs20_lt (x1 x2 x3 x4 x5 : Int32) : ∀ b ∈ z_bs20 x1 x2 x3 x4 x5, b < 256 := by
  intro b hb
  simp only [z_bs20, z_bs4, List.cons_append, List.nil_append, List.mem_cons, List.not_mem_nil, or_false] at hb
  rcases hb with h | h | h | h | h | h | h | h | h | h | h | h | h | h | h | h | h | h | h | h <;> rw [h] <;> exact z_b_lt _ _
theorem z_drop {bs : List Nat} {k : Nat} (h : k < bs.length) : bs.drop k = bs.getD k 0 :: bs.drop (k + 1) := by
  rw [List.drop_eq_getElem_cons h, List.getD_eq_getElem?_getD, List.getElem?_eq_getElem h]
  rfl
def z_g (g : Bool) : Int32 := if g then 1 else 0
theorem z_textM1 (x1 x2 x3 x4 x5 : Int32) {u : g_St} {len : Nat} (hlen : g_I u 321 1 = Int32.ofNat len) (hl : len ≤ 400) : ∀ (d k n a : Nat) (g : Bool), k + d = 20 → d < n → a ≤ k →
    (((g = true ∧ ∀ b ∈ (z_bs20 x1 x2 x3 x4 x5).drop k, z_ok b) ∧ len + (a + z_many ((z_bs20 x1 x2 x3 x4 x5).drop k)) ≤ 400) → f_M_text_14 n (some 1) x1 x2 x3 x4 x5 (Int32.ofNat a) (z_g g) (Int32.ofNat k) u = f_M_text_110 200000 (some 1) x1 x2 x3 x4 x5 0 u) ∧
    (¬ ((g = true ∧ ∀ b ∈ (z_bs20 x1 x2 x3 x4 x5).drop k, z_ok b) ∧ len + (a + z_many ((z_bs20 x1 x2 x3 x4 x5).drop k)) ≤ 400) → f_M_text_14 n (some 1) x1 x2 x3 x4 x5 (Int32.ofNat a) (z_g g) (Int32.ofNat k) u = some (0, u)) := by
  intro d
  induction d with
  | zero =>
    intro k n a g hk hn ha
    obtain ⟨n, rfl⟩ : ∃ m, n = m + 1 := ⟨n - 1, by omega⟩
    have ek : k = 20 := by omega
    subst ek
    rw [f_M_text_14, if_pos (by decide), show (z_bs20 x1 x2 x3 x4 x5).drop 20 = [] from rfl]
    cases g with
    | false =>
      rw [if_pos (by decide)]
      exact ⟨fun w => (by cases w.1.1), fun _ => rfl⟩
    | true =>
      have ew : (Int32.ofNat (len + a) ≤ 400) = (len + a ≤ 400) := x_le (b := 400) (by omega) (by decide)
      rw [if_neg (by decide), x_gI, hlen, x_add]
      by_cases w : len + a ≤ 400
      · rw [if_pos (by rw [ew]; exact w)]
        exact ⟨fun _ => rfl, fun q => absurd ⟨⟨rfl, fun b hb => (List.not_mem_nil hb).elim⟩, by simpa [z_many] using w⟩ q⟩
      · rw [if_neg (by rw [ew]; exact w)]
        exact ⟨fun q => absurd (by simpa [z_many] using q.2) w, fun _ => rfl⟩
  | succ d ih =>
    intro k n a g hk hn ha
    obtain ⟨n, rfl⟩ : ∃ m, n = m + 1 := ⟨n - 1, by omega⟩
    have hlt : k < (z_bs20 x1 x2 x3 x4 x5).length := by show k < 20; omega
    have hbl : (z_bs20 x1 x2 x3 x4 x5).getD k 0 < 256 := by
      rw [List.getD_eq_getElem?_getD, List.getElem?_eq_getElem hlt]
      exact z_bs20_lt x1 x2 x3 x4 x5 _ (List.getElem_mem hlt)
    rw [f_M_text_14, if_neg (by rw [show (20 : Int32) = Int32.ofNat 20 from rfl, x_le (by decide) (by omega)]; omega), z_byM (by omega), x_c, z_drop hlt]
    generalize (z_bs20 x1 x2 x3 x4 x5).getD k 0 = b at hbl
    have hk1 : Int32.ofNat k + 1 = Int32.ofNat (k + 1) := (Int32.ofNat_add _ _).symm
    have e0 : (Int32.ofNat b = 0) = (b = 0) := x_eq (b := 0) (by omega) (by decide)
    have e1 : (Int32.ofNat b ≤ 31) = (b ≤ 31) := x_le (b := 31) (by omega) (by decide)
    have e2 : (127 ≤ Int32.ofNat b) = (127 ≤ b) := x_le (a := 127) (by decide) (by omega)
    have a0 : Int32.ofNat a + 0 = Int32.ofNat (a + 0) := (Int32.ofNat_add _ _).symm
    have a1 : Int32.ofNat a + 1 = Int32.ofNat (a + 1) := (Int32.ofNat_add _ _).symm
    have em0 : b = 0 → z_many (b :: (z_bs20 x1 x2 x3 x4 x5).drop (k + 1)) = z_many ((z_bs20 x1 x2 x3 x4 x5).drop (k + 1)) := fun h => by unfold z_many; rw [List.filter_cons_of_neg (by simp [h])]
    have em1 : b ≠ 0 → z_many (b :: (z_bs20 x1 x2 x3 x4 x5).drop (k + 1)) = z_many ((z_bs20 x1 x2 x3 x4 x5).drop (k + 1)) + 1 := fun h => by unfold z_many; rw [List.filter_cons_of_pos (by simp [h])]; rfl
    have ek : z_ok b → ((∀ c ∈ b :: (z_bs20 x1 x2 x3 x4 x5).drop (k + 1), z_ok c) ↔ ∀ c ∈ (z_bs20 x1 x2 x3 x4 x5).drop (k + 1), z_ok c) := fun hb => ⟨fun h c hc => h c (List.mem_cons_of_mem _ hc), fun h c hc => (List.mem_cons.mp hc).elim (fun q => by rw [q]; exact hb) (h c)⟩
    have fin : ∀ (a' : Nat) (g' : Bool), a' ≤ k + 1 → (((g = true ∧ ∀ c ∈ b :: (z_bs20 x1 x2 x3 x4 x5).drop (k + 1), z_ok c) ∧ len + (a + z_many (b :: (z_bs20 x1 x2 x3 x4 x5).drop (k + 1))) ≤ 400) ↔ ((g' = true ∧ ∀ c ∈ (z_bs20 x1 x2 x3 x4 x5).drop (k + 1), z_ok c) ∧ len + (a' + z_many ((z_bs20 x1 x2 x3 x4 x5).drop (k + 1))) ≤ 400)) → ∀ L, L = f_M_text_14 n (some 1) x1 x2 x3 x4 x5 (Int32.ofNat a') (z_g g') (Int32.ofNat (k + 1)) u →
      (((g = true ∧ ∀ c ∈ b :: (z_bs20 x1 x2 x3 x4 x5).drop (k + 1), z_ok c) ∧ len + (a + z_many (b :: (z_bs20 x1 x2 x3 x4 x5).drop (k + 1))) ≤ 400) → L = f_M_text_110 200000 (some 1) x1 x2 x3 x4 x5 0 u) ∧ (¬ ((g = true ∧ ∀ c ∈ b :: (z_bs20 x1 x2 x3 x4 x5).drop (k + 1), z_ok c) ∧ len + (a + z_many (b :: (z_bs20 x1 x2 x3 x4 x5).drop (k + 1))) ≤ 400) → L = some (0, u)) := by
      intro a' g' ha' cc L hL
      obtain ⟨i1, i2⟩ := ih (k + 1) n a' g' (by omega) (by omega) ha'
      rw [hL]
      exact ⟨fun c => i1 (cc.mp c), fun c => i2 (fun w => c (cc.mpr w))⟩
    have bad : ∀ (a' : Nat), a' ≤ k + 1 → (¬ (g = true ∧ z_ok b)) → ∀ L, L = f_M_text_14 n (some 1) x1 x2 x3 x4 x5 (Int32.ofNat a') (z_g false) (Int32.ofNat (k + 1)) u →
      (((g = true ∧ ∀ c ∈ b :: (z_bs20 x1 x2 x3 x4 x5).drop (k + 1), z_ok c) ∧ len + (a + z_many (b :: (z_bs20 x1 x2 x3 x4 x5).drop (k + 1))) ≤ 400) → L = f_M_text_110 200000 (some 1) x1 x2 x3 x4 x5 0 u) ∧ (¬ ((g = true ∧ ∀ c ∈ b :: (z_bs20 x1 x2 x3 x4 x5).drop (k + 1), z_ok c) ∧ len + (a + z_many (b :: (z_bs20 x1 x2 x3 x4 x5).drop (k + 1))) ≤ 400) → L = some (0, u)) := by
      intro a' ha' hb
      exact fin a' false ha' ⟨fun w => absurd ⟨w.1.1, w.1.2 b (List.mem_cons_self ..)⟩ hb, fun w => (by cases w.1.1)⟩
    unfold f_M_text_47
    rw [hk1]
    by_cases hb0 : b = 0
    · have hok : z_ok b := Or.inl hb0
      rw [if_pos (by rw [e0]; exact hb0), a0]
      cases g with
      | false => exact bad (a + 0) (by omega) (fun w => by cases w.1) _ (by rw [if_pos (by decide)]; rfl)
      | true => exact fin (a + 0) true (by omega) (by rw [ek hok, em0 hb0]; exact Iff.rfl) _ (by rw [if_neg (by decide), if_pos (by rw [e0]; exact hb0)]; rfl)
    · rw [if_neg (by rw [e0]; exact hb0), a1]
      cases g with
      | false => exact bad (a + 1) (by omega) (fun w => by cases w.1) _ (by rw [if_pos (by decide)]; rfl)
      | true =>
        by_cases c1 : b ≤ 31
        · exact bad (a + 1) (by omega) (fun w => w.2.elim hb0 (fun q => by omega)) _ (by rw [if_neg (by decide), if_neg (by rw [e0]; exact hb0), if_pos (by rw [e1]; exact c1)]; rfl)
        · by_cases c2 : 127 ≤ b
          · exact bad (a + 1) (by omega) (fun w => w.2.elim hb0 (fun q => by omega)) _ (by rw [if_neg (by decide), if_neg (by rw [e0]; exact hb0), if_neg (by rw [e1]; exact c1), if_pos (by rw [e2]; exact c2)]; rfl)
          · have hok : z_ok b := Or.inr (by omega)
            exact fin (a + 1) true (by omega) (by rw [ek hok, em1 hb0, show a + (z_many ((z_bs20 x1 x2 x3 x4 x5).drop (k + 1)) + 1) = a + 1 + z_many ((z_bs20 x1 x2 x3 x4 x5).drop (k + 1)) by omega]) _ (by rw [if_neg (by decide), if_neg (by rw [e0]; exact hb0), if_neg (by rw [e1]; exact c1), if_neg (by rw [e2]; exact c2)]; rfl)
theorem z_textM2 (x1 x2 x3 x4 x5 : Int32) : ∀ (d k n : Nat) (u : g_St) (len : Nat) (T : Nat → Nat), k + d = 20 → d < n → z_XM u len T → m_Fix u → len + z_many ((z_bs20 x1 x2 x3 x4 x5).drop k) ≤ 400 →
    ∃ u', f_M_text_110 n (some 1) x1 x2 x3 x4 x5 (Int32.ofNat k) u = some (1, u') ∧ z_XM u' (z_app ((z_bs20 x1 x2 x3 x4 x5).drop k) len T).1 (z_app ((z_bs20 x1 x2 x3 x4 x5).drop k) len T).2 := by
  intro d
  induction d with
  | zero =>
    intro k n u len T hk hn hX hm hle
    obtain ⟨n, rfl⟩ : ∃ m, n = m + 1 := ⟨n - 1, by omega⟩
    have ek : k = 20 := by omega
    subst ek
    refine ⟨u, ?_, ?_⟩
    · rw [f_M_text_110, if_pos (by decide)]; rfl
    · rw [show (z_bs20 x1 x2 x3 x4 x5).drop 20 = [] from rfl]; exact hX
  | succ d ih =>
    intro k n u len T hk hn hX hm hle
    obtain ⟨n, rfl⟩ : ∃ m, n = m + 1 := ⟨n - 1, by omega⟩
    have hlt : k < (z_bs20 x1 x2 x3 x4 x5).length := by show k < 20; omega
    have hbl : (z_bs20 x1 x2 x3 x4 x5).getD k 0 < 256 := by
      rw [List.getD_eq_getElem?_getD, List.getElem?_eq_getElem hlt]
      exact z_bs20_lt x1 x2 x3 x4 x5 _ (List.getElem_mem hlt)
    have hk1 : Int32.ofNat k + 1 = Int32.ofNat (k + 1) := (Int32.ofNat_add _ _).symm
    rw [f_M_text_110, if_neg (by rw [show (20 : Int32) = Int32.ofNat 20 from rfl, x_le (by decide) (by omega)]; omega), z_byM (by omega), x_c, z_drop hlt]
    rw [z_drop hlt] at hle
    generalize (z_bs20 x1 x2 x3 x4 x5).getD k 0 = b at hbl hle
    have e0 : (Int32.ofNat b = 0) = (b = 0) := x_eq (b := 0) (by omega) (by decide)
    simp only [e0, hk1]
    by_cases hb0 : b = 0
    · have em : z_many (b :: (z_bs20 x1 x2 x3 x4 x5).drop (k + 1)) = z_many ((z_bs20 x1 x2 x3 x4 x5).drop (k + 1)) := by unfold z_many; rw [List.filter_cons_of_neg (by simp [hb0])]
      rw [em] at hle
      rw [if_pos hb0, z_app, if_pos hb0]
      exact ih (k + 1) n u len T (by omega) (by omega) hX hm hle
    · have em : z_many (b :: (z_bs20 x1 x2 x3 x4 x5).drop (k + 1)) = z_many ((z_bs20 x1 x2 x3 x4 x5).drop (k + 1)) + 1 := by unfold z_many; rw [List.filter_cons_of_pos (by simp [hb0])]; rfl
      rw [em] at hle
      rw [if_neg hb0, z_app, if_neg hb0, x_gR, (hm _ m_k385).1, x_gI, hX.1, x_sI (by omega) (by rw [(hm _ m_k385).2]; show len < 400; omega), x_gI, x_pI]
      have hx2 : z_XM (g_setI (g_setAI u 1044 len (Int32.ofNat b)) 321 1 (Int32.ofNat (len + 1))) (len + 1) (fun i => if i = len then b else T i) := by
        refine ⟨by rw [x_I_I, if_pos ⟨rfl, rfl⟩], by omega, fun i hi => ?_⟩
        show g_AI (g_setAI u 1044 len (Int32.ofNat b)) 1044 i = _
        rw [x_AI_AI]
        by_cases e : i = len
        · rw [if_pos ⟨rfl, e⟩]
          exact congrArg Int32.ofNat (if_pos e).symm
        · rw [if_neg (fun w => e w.2), hX.2.2 i (by omega)]
          exact congrArg Int32.ofNat (if_neg e).symm
      have hx3 : g_I (g_setAI u 1044 len (Int32.ofNat b)) 321 1 + 1 = Int32.ofNat (len + 1) := by
        show g_I u 321 1 + 1 = _
        rw [hX.1]
        exact (Int32.ofNat_add _ _).symm
      rw [hx3]
      exact ih (k + 1) n _ _ _ (by omega) (by omega) hx2 hm (by omega)
theorem z_textM (x1 x2 x3 x4 x5 : Int32) {u : g_St} {len : Nat} {T : Nat → Nat} (hX : z_XM u len T) (hm : m_Fix u) :
    ∃ u', (z_okL (z_bs20 x1 x2 x3 x4 x5) len ∧ f_M_text (some 1) x1 x2 x3 x4 x5 u = some (1, u') ∧ z_XM u' (z_app (z_bs20 x1 x2 x3 x4 x5) len T).1 (z_app (z_bs20 x1 x2 x3 x4 x5) len T).2) ∨ (¬ z_okL (z_bs20 x1 x2 x3 x4 x5) len ∧ f_M_text (some 1) x1 x2 x3 x4 x5 u = some (0, u') ∧ z_XM u' len T) := by
  have hX' : z_XM (g_setI u 1 1 0) len T := ⟨hX.1, hX.2.1, hX.2.2⟩
  have h1 := z_textM1 x1 x2 x3 x4 x5 hX'.1 hX.2.1 20 0 200000 0 true (by omega) (by omega) (by omega)
  have e : f_M_text (some 1) x1 x2 x3 x4 x5 u = f_M_text_14 200000 (some 1) x1 x2 x3 x4 x5 (Int32.ofNat 0) (z_g true) (Int32.ofNat 0) (g_setI u 1 1 0) := rfl
  have ez : (z_bs20 x1 x2 x3 x4 x5).drop 0 = z_bs20 x1 x2 x3 x4 x5 := rfl
  rw [ez] at h1
  rw [e]
  by_cases w : z_okL (z_bs20 x1 x2 x3 x4 x5) len
  · obtain ⟨u', h2, h3⟩ := z_textM2 x1 x2 x3 x4 x5 20 0 200000 (g_setI u 1 1 0) len T (by omega) (by omega) hX' hm w.2
    refine ⟨u', Or.inl ⟨w, ?_, h3⟩⟩
    rw [h1.1 ⟨⟨rfl, w.1⟩, by have := w.2; omega⟩]
    exact h2
  · refine ⟨g_setI u 1 1 0, Or.inr ⟨w, ?_, hX'⟩⟩
    exact h1.2 (fun q => w ⟨q.1.2, by have := q.2; omega⟩)
