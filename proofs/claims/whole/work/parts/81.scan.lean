/-! TOKENS: where they begin and end, what they are -/
def z_sm (c : Nat) : Bool := decide (97 ≤ c ∧ c ≤ 122)
def z_dg (c : Nat) : Bool := decide (48 ≤ c ∧ c ≤ 57)
def z_cp (c : Nat) : Bool := decide (65 ≤ c ∧ c ≤ 90)
def z_bl (f c : Nat) : Bool := if z_sm f = true then z_sm c || z_dg c else if z_dg f = true then z_dg c else z_cp f && z_cp c
/-- how far it goes on: at most d letters from e -/
def z_run (T : Nat → Nat) (f : Nat) : Nat → Nat → Nat
  | 0, e => e
  | d + 1, e => if z_bl f (T e) = true then z_run T f d (e + 1) else e
theorem z_run_le (T : Nat → Nat) (f : Nat) : ∀ d e, e ≤ z_run T f d e ∧ z_run T f d e ≤ e + d := by
  intro d
  induction d with
  | zero => intro e; exact ⟨Nat.le_refl _, Nat.le_refl _⟩
  | succ d ih =>
    intro e
    rw [z_run]
    by_cases h : z_bl f (T e) = true
    · rw [if_pos h]
      have := ih (e + 1)
      omega
    · rw [if_neg h]
      omega
theorem z_run_in (T : Nat → Nat) (f : Nat) : ∀ d e j, e ≤ j → j < z_run T f d e → z_bl f (T j) = true := by
  intro d
  induction d with
  | zero => intro e j h1 h2; rw [z_run] at h2; omega
  | succ d ih =>
    intro e j h1 h2
    rw [z_run] at h2
    by_cases h : z_bl f (T e) = true
    · rw [if_pos h] at h2
      by_cases q : j = e
      · rw [q]; exact h
      · exact ih (e + 1) j (by omega) h2
    · rw [if_neg h] at h2
      omega
def z_tend (len : Nat) (T : Nat → Nat) (i : Nat) : Nat := if T i = 60 ∧ i + 1 < len ∧ T (i + 1) = 62 then i + 2 else z_run T (T i) (len - (i + 1)) (i + 1)
theorem z_tend_le {len : Nat} {T : Nat → Nat} {i : Nat} (h : i < len) : i < z_tend len T i ∧ z_tend len T i ≤ len := by
  unfold z_tend
  by_cases q : T i = 60 ∧ i + 1 < len ∧ T (i + 1) = 62
  · rw [if_pos q]; omega
  · rw [if_neg q]
    have := z_run_le T (T i) (len - (i + 1)) (i + 1)
    omega
theorem e_small {c : Nat} (h : c < 256) (u : g_St) : f_Re_isSmall (Int32.ofNat c) u = some (z_g (z_sm c), u) := by
  have e1 : (Int32.ofNat c < 97) = (c < 97) := x_lt (b := 97) (by omega) (by decide)
  have e2 : (122 < Int32.ofNat c) = (122 < c) := x_lt (a := 122) (by decide) (by omega)
  unfold f_Re_isSmall z_sm
  by_cases h1 : c < 97
  · rw [if_pos (by rw [e1]; exact h1), decide_eq_false (by omega)]; rfl
  · rw [if_neg (by rw [e1]; exact h1)]
    by_cases h2 : 122 < c
    · rw [if_pos (by rw [e2]; exact h2), decide_eq_false (by omega)]; rfl
    · rw [if_neg (by rw [e2]; exact h2), decide_eq_true (by omega)]; rfl
theorem e_digit {c : Nat} (h : c < 256) (u : g_St) : f_Re_isDigit (Int32.ofNat c) u = some (z_g (z_dg c), u) := by
  have e1 : (Int32.ofNat c < 48) = (c < 48) := x_lt (b := 48) (by omega) (by decide)
  have e2 : (57 < Int32.ofNat c) = (57 < c) := x_lt (a := 57) (by decide) (by omega)
  unfold f_Re_isDigit z_dg
  by_cases h1 : c < 48
  · rw [if_pos (by rw [e1]; exact h1), decide_eq_false (by omega)]; rfl
  · rw [if_neg (by rw [e1]; exact h1)]
    by_cases h2 : 57 < c
    · rw [if_pos (by rw [e2]; exact h2), decide_eq_false (by omega)]; rfl
    · rw [if_neg (by rw [e2]; exact h2), decide_eq_true (by omega)]; rfl
theorem e_capital {c : Nat} (h : c < 256) (u : g_St) : f_Re_isCapital (Int32.ofNat c) u = some (z_g (z_cp c), u) := by
  have e1 : (Int32.ofNat c < 65) = (c < 65) := x_lt (b := 65) (by omega) (by decide)
  have e2 : (90 < Int32.ofNat c) = (90 < c) := x_lt (a := 90) (by decide) (by omega)
  unfold f_Re_isCapital z_cp
  by_cases h1 : c < 65
  · rw [if_pos (by rw [e1]; exact h1), decide_eq_false (by omega)]; rfl
  · rw [if_neg (by rw [e1]; exact h1)]
    by_cases h2 : 90 < c
    · rw [if_pos (by rw [e2]; exact h2), decide_eq_false (by omega)]; rfl
    · rw [if_neg (by rw [e2]; exact h2), decide_eq_true (by omega)]; rfl
theorem z_g0 (b : Bool) : (z_g b = 0) = (b = false) := by cases b <;> exact propext ⟨fun h => (by first | rfl | (exact absurd h (by decide))), fun h => (by first | rfl | (cases h))⟩
theorem e_belongs {f c : Nat} (hf : f < 256) (hc : c < 256) (u : g_St) : f_Re_belongs (Int32.ofNat f) (Int32.ofNat c) u = some (z_g (z_bl f c), u) := by
  unfold f_Re_belongs z_bl
  rw [e_small hf, x_c]
  cases h1 : z_sm f with
  | true =>
    rw [if_neg (by decide), if_pos rfl, e_small hc, x_c]
    cases h2 : z_sm c with
    | true => rw [if_neg (by decide)]; rfl
    | false =>
      rw [if_pos (by decide), e_digit hc, x_c]
      cases h3 : z_dg c with
      | true => rw [if_neg (by decide)]; rfl
      | false => rw [if_pos (by decide)]; rfl
  | false =>
    rw [if_pos (by decide), if_neg (by decide), e_digit hf, x_c]
    cases h2 : z_dg f with
    | true =>
      rw [if_neg (by decide), if_pos rfl, e_digit hc, x_c]
      cases z_dg c <;> rfl
    | false =>
      rw [if_pos (by decide), if_neg (by decide), e_capital hf, x_c]
      cases h3 : z_cp f with
      | true =>
        rw [if_neg (by decide), e_capital hc, x_c]
        cases h4 : z_cp c with
        | true => rw [if_neg (by decide)]; rfl
        | false => rw [if_pos (by decide)]; rfl
      | false => rw [if_pos (by decide)]; rfl
section
variable {u : g_St} {len : Nat} {T : Nat → Nat}
theorem e_run (hX : z_XE u len T) (hT : ∀ j, j < len → T j < 256) (hR : g_R u 2 2 = some 22) (hl : g_ln u 22 = 400) {f : Nat} (hf : f < 256) : ∀ (d e n : Nat), e + d = len → d < n → f_Re_endOf_44 n (some 2) (Int32.ofNat f) (Int32.ofNat e) u = some (Int32.ofNat (z_run T f d e), u) := by
  have h400 := hX.2.1
  intro d
  induction d with
  | zero =>
    intro e n he hn
    obtain ⟨n, rfl⟩ : ∃ m, n = m + 1 := ⟨n - 1, by omega⟩
    rw [f_Re_endOf_44, x_gI, hX.1, if_pos (by rw [x_le (by omega) (by omega)]; omega), z_run]
  | succ d ih =>
    intro e n he hn
    obtain ⟨n, rfl⟩ : ∃ m, n = m + 1 := ⟨n - 1, by omega⟩
    rw [f_Re_endOf_44, x_gI, hX.1, if_neg (by rw [x_le (by omega) (by omega)]; omega), x_gR, hR, x_aI (by omega) (by omega), hX.2.2 e (by omega), e_belongs hf (hT e (by omega)), x_c, z_run]
    cases h : z_bl f (T e) with
    | true =>
      rw [if_neg (by decide), if_pos rfl, x_p1]
      exact ih (e + 1) n (by omega) (by omega)
    | false => rw [if_pos (by decide), if_neg (by decide)]
theorem e_endOf (hX : z_XE u len T) (hT : ∀ j, j < len → T j < 256) (hR : g_R u 2 2 = some 22) (hl : g_ln u 22 = 400) {i : Nat} (hi : i < len) : f_Re_endOf (some 2) (Int32.ofNat i) u = some (Int32.ofNat (z_tend len T i), u) := by
  have h400 := hX.2.1
  have h60 : (Int32.ofNat (T i) = 60) = (T i = 60) := x_eq (b := 60) (by have := hT i hi; omega) (by decide)
  have run := e_run hX hT hR hl (hT i hi) (len - (i + 1)) (i + 1) 200000 (by omega) (by omega)
  unfold f_Re_endOf z_tend
  rw [x_gR, hR, x_aI (by omega) (by omega), hX.2.2 i hi, x_p1]
  by_cases q : T i = 60
  · rw [if_pos (by rw [h60]; exact q), x_gI, hX.1]
    by_cases q2 : i + 1 < len
    · have h62 : (Int32.ofNat (T (i + 1)) = 62) = (T (i + 1) = 62) := x_eq (b := 62) (by have := hT (i + 1) q2; omega) (by decide)
      rw [if_neg (by rw [x_le (by omega) (by omega)]; omega), x_gR, hR, x_aI (by omega) (by omega), hX.2.2 (i + 1) q2]
      by_cases q3 : T (i + 1) = 62
      · rw [if_pos (by rw [h62]; exact q3), if_pos ⟨q, q2, q3⟩]
        exact congrArg (fun z => some (z, u)) (Int32.ofNat_add i 2).symm
      · rw [if_neg (by rw [h62]; exact q3), if_neg (fun w => q3 w.2.2)]
        exact run
    · rw [if_pos (by rw [x_le (by omega) (by omega)]; omega), if_neg (fun w => q2 w.2.1)]
      exact run
  · rw [if_neg (by rw [h60]; exact q), if_neg (fun w => q w.1)]
    exact run
end
/-! the words of keywords and signs -/
def z_wd : List (List Nat) := (g_tx.take 36).map fun w => w.map Int32.toNatClampNeg
theorem z_wd_tx : ∀ k, k < 36 → g_tx.getD k [] = (z_wd.getD k []).map Int32.ofNat := by
  have w : ((List.range 36).all fun k => decide (g_tx.getD k [] = (z_wd.getD k []).map Int32.ofNat)) = true := by decide +kernel
  intro k hk
  exact of_decide_eq_true (List.all_eq_true.mp w k (List.mem_range.mpr hk))
theorem z_tx_ok : ∀ k, k < 37 → ∀ j, j < (g_tx.getD k []).length → ((((g_tx.getD k []).getD j 0) &&& 255).toUInt32 % 65536).toInt32 = (g_tx.getD k []).getD j 0 ∧ ((g_tx.getD k []).getD j 0).toUInt32.toUInt16.toUInt32.toInt32 = (g_tx.getD k []).getD j 0 := by
  have w : ((List.range 37).all fun k => (List.range (g_tx.getD k []).length).all fun j => decide (((((g_tx.getD k []).getD j 0) &&& 255).toUInt32 % 65536).toInt32 = (g_tx.getD k []).getD j 0 ∧ ((g_tx.getD k []).getD j 0).toUInt32.toUInt16.toUInt32.toInt32 = (g_tx.getD k []).getD j 0)) = true := by decide +kernel
  intro k hk j hj
  exact of_decide_eq_true (List.all_eq_true.mp (List.all_eq_true.mp w k (List.mem_range.mpr hk)) j (List.mem_range.mpr hj))
theorem z_tx_len : ∀ k, k < 37 → (g_tx.getD k []).length < 10 := by
  have w : ((List.range 37).all fun k => decide ((g_tx.getD k []).length < 10)) = true := by decide +kernel
  intro k hk
  exact of_decide_eq_true (List.all_eq_true.mp w k (List.mem_range.mpr hk))
theorem z_strlen {k : Nat} (hk : k < 37) (u : g_St) : f_Str_length (some (k * 64 + 14)) u = some (Int32.ofNat (g_tx.getD k []).length, u) := by
  have e1 : (k * 64 + 14) / 64 = k := by omega
  have e2 : ((k + 37) * 64 + 14) / 64 = k + 37 := by omega
  unfold f_Str_length f_Str_coder g_tR g_bln g_str g_tI
  simp only [e1, e2]
  rw [if_pos hk, if_neg (by omega), if_pos hk, if_neg (by decide), if_pos hk, show k + 37 - 37 = k by omega]
  have e3 : ∀ x : Int32, x >>> ((0 : Int32) &&& 31) = x := fun x => by
    apply Int32.toBitVec.inj
    show x.toBitVec.sshiftRight 0 = x.toBitVec
    simp
  show some (Int32.ofNat (g_tx.getD k []).length >>> ((0 : Int32) &&& 31), u) = _
  rw [e3]
theorem z_strch {k j : Nat} (hk : k < 37) (hj : j < (g_tx.getD k []).length) (u : g_St) : f_Str_charAt (some (k * 64 + 14)) (Int32.ofNat j) u = some ((g_tx.getD k []).getD j 0, u) := by
  have e1 : (k * 64 + 14) / 64 = k := by omega
  have e2 : ((k + 37) * 64 + 14) / 64 = k + 37 := by omega
  have hl := z_tx_len k hk
  have ec : (Int32.ofNat j).toNatClampNeg = j := Int32.toNatClampNeg_ofNat_of_lt (by omega)
  unfold f_Str_charAt f_Str_isLatin1 f_Sl_charAt g_tR g_bln g_bla g_str g_tI f_Str_checkIndex
  simp only [e1, e2, ec]
  rw [if_pos hk, if_neg (by decide), if_pos hk, if_pos trivial]
  rw [z_rZ1, x_c, if_neg (by decide), if_pos hk, if_neg (by omega), show k + 37 - 37 = k by omega, if_neg (by rw [l_0, x_lt (by omega) (by decide)]; omega), if_pos (by rw [x_lt (by omega) (by omega)]; exact hj), x_c, if_neg (by
    intro w
    rcases w with w | w | w
    · omega
    · rw [l_0, x_lt (by omega) (by decide)] at w; omega
    · omega)]
  unfold g_rC
  rw [(z_tx_ok k hk j hj).1, if_pos (z_tx_ok k hk j hj).2, x_c, if_pos (z_tx_ok k hk j hj).2]
def z_w (T : Nat → Nat) (i e : Nat) : List Nat := (List.range (e - i)).map fun j => T (i + j)
theorem z_w_len (T : Nat → Nat) (i e : Nat) : (z_w T i e).length = e - i := by simp [z_w]
theorem z_w_at (T : Nat → Nat) {i e j : Nat} (h : j < e - i) : (z_w T i e).getD j 0 = T (i + j) := by
  simp [z_w, List.getD_eq_getElem?_getD, h]
theorem z_list_eq {l m : List Nat} (h : l.length = m.length) (g : ∀ j, j < l.length → l.getD j 0 = m.getD j 0) : l = m := by
  apply List.ext_getElem h
  intro j h1 h2
  have := g j h1
  rw [List.getD_eq_getElem?_getD, List.getD_eq_getElem?_getD, List.getElem?_eq_getElem h1, List.getElem?_eq_getElem h2] at this
  exact this
/-- a written word, place by place -/
def z_mt (T : Nat → Nat) (k i e : Nat) : Prop := (g_tx.getD k []).length = e - i ∧ ∀ j, j < e - i → (g_tx.getD k []).getD j 0 = Int32.ofNat (T (i + j))
theorem z_mt_wd {T : Nat → Nat} {k i e : Nat} (hk : k < 36) (hT : ∀ j, i ≤ j → j < e → T j < 256) : z_mt T k i e ↔ z_wd.getD k [] = z_w T i e := by
  have e1 := z_wd_tx k hk
  have hb : ∀ c ∈ z_wd.getD k [], c < 256 := by
    have w : ((List.range 36).all fun k => (z_wd.getD k []).all fun c => decide (c < 256)) = true := by decide +kernel
    intro c hc
    exact of_decide_eq_true (List.all_eq_true.mp (List.all_eq_true.mp w k (List.mem_range.mpr hk)) c hc)
  have e2 : ∀ j, j < (z_wd.getD k []).length → (g_tx.getD k []).getD j 0 = Int32.ofNat ((z_wd.getD k []).getD j 0) := by
    intro j hj
    rw [e1]
    generalize z_wd.getD k [] = l at hj
    rw [List.getD_eq_getElem?_getD, List.getElem?_map, List.getD_eq_getElem?_getD, List.getElem?_eq_getElem hj]
    rfl
  have e3 : (g_tx.getD k []).length = (z_wd.getD k []).length := by rw [e1, List.length_map]
  have e4 : ∀ j, j < (z_wd.getD k []).length → (z_wd.getD k []).getD j 0 < 256 := fun j hj => by
    rw [List.getD_eq_getElem?_getD, List.getElem?_eq_getElem hj]
    exact hb _ (List.getElem_mem hj)
  constructor
  · intro ⟨h1, h2⟩
    refine z_list_eq (by rw [z_w_len, ← e3, h1]) (fun j hj => ?_)
    have hj' : j < e - i := by rw [← h1, e3]; exact hj
    have q := h2 j hj'
    rw [e2 j hj, x_eq (by have := e4 j hj; omega) (by have := hT (i + j) (by omega) (by omega); omega)] at q
    rw [q, z_w_at T hj']
  · intro h
    refine ⟨by rw [e3, h, z_w_len], fun j hj => ?_⟩
    rw [e2 j (by rw [h, z_w_len]; exact hj), h, z_w_at T hj]
section
variable {u : g_St} {len : Nat} {T : Nat → Nat}
theorem e_written1 (hX : z_XE u len T) (hR : g_R u 2 2 = some 22) (hl : g_ln u 22 = 400) {k i e : Nat} (hk : k < 37) (hi : i < e) (he : e ≤ len) (hL : (g_tx.getD k []).length = e - i) : ∀ (d j n : Nat), j + d = e - i → d < n →
    ((∀ q, j ≤ q → q < e - i → (g_tx.getD k []).getD q 0 = Int32.ofNat (T (i + q))) → f_Re_isWritten_15 n (some 2) (some (k * 64 + 14)) (Int32.ofNat i) (Int32.ofNat j) u = some (1, u)) ∧
    (¬ (∀ q, j ≤ q → q < e - i → (g_tx.getD k []).getD q 0 = Int32.ofNat (T (i + q))) → f_Re_isWritten_15 n (some 2) (some (k * 64 + 14)) (Int32.ofNat i) (Int32.ofNat j) u = some (0, u)) := by
  have h400 := hX.2.1
  have hs : ∀ X : Option (Int32 × g_St), g_str (some (k * 64 + 14)) X = X := fun X => if_pos (by omega)
  intro d
  induction d with
  | zero =>
    intro j n hj hn
    obtain ⟨n, rfl⟩ : ∃ m, n = m + 1 := ⟨n - 1, by omega⟩
    rw [f_Re_isWritten_15, hs, z_strlen hk, x_c, hL, if_pos (by rw [x_le (by omega) (by omega)]; omega)]
    exact ⟨fun _ => rfl, fun w => absurd (fun q h1 h2 => by omega) w⟩
  | succ d ih =>
    intro j n hj hn
    obtain ⟨n, rfl⟩ : ∃ m, n = m + 1 := ⟨n - 1, by omega⟩
    rw [f_Re_isWritten_15, hs, z_strlen hk, x_c, hL, if_neg (by rw [x_le (by omega) (by omega)]; omega), hs, z_strch hk (by omega), x_c, x_gR, hR, x_add, x_aI (by omega) (by omega), hX.2.2 (i + j) (by omega), x_p1]
    obtain ⟨i1, i2⟩ := ih (j + 1) n (by omega) (by omega)
    by_cases w : (g_tx.getD k []).getD j 0 = Int32.ofNat (T (i + j))
    · rw [if_pos w]
      exact ⟨fun h => i1 (fun q h1 h2 => h q (by omega) h2), fun h => i2 (fun g => h (fun q h1 h2 => by
        by_cases z : q = j
        · rw [z]; exact w
        · exact g q (by omega) h2))⟩
    · rw [if_neg w]
      exact ⟨fun h => absurd (h j (Nat.le_refl _) (by omega)) w, fun _ => rfl⟩
theorem e_written (hX : z_XE u len T) (hR : g_R u 2 2 = some 22) (hl : g_ln u 22 = 400) {k i e : Nat} (hk : k < 37) (hi : i < e) (he : e ≤ len) :
    (z_mt T k i e → f_Re_isWritten (some 2) (some (k * 64 + 14)) (Int32.ofNat i) (Int32.ofNat e) u = some (1, u)) ∧ (¬ z_mt T k i e → f_Re_isWritten (some 2) (some (k * 64 + 14)) (Int32.ofNat i) (Int32.ofNat e) u = some (0, u)) := by
  have h400 := hX.2.1
  have hs : ∀ X : Option (Int32 × g_St), g_str (some (k * 64 + 14)) X = X := fun X => if_pos (by omega)
  have hl2 := z_tx_len k hk
  unfold f_Re_isWritten
  rw [hs, z_strlen hk, x_c, x_sub (by omega)]
  by_cases w : (g_tx.getD k []).length = e - i
  · rw [if_pos (by rw [w])]
    obtain ⟨i1, i2⟩ := e_written1 hX hR hl hk hi he w (e - i) 0 200000 (by omega) (by omega)
    exact ⟨fun h => i1 (fun q _ h2 => h.2 q h2), fun h => i2 (fun g => h ⟨w, fun q h2 => g q (Nat.zero_le _) h2⟩)⟩
  · rw [if_neg (by rw [x_eq (by omega) (by omega)]; exact w)]
    exact ⟨fun h => absurd h.1 w, fun _ => rfl⟩
/-- which keyword or sign: the first of 36, or 39 -/
def z_fk (w : List Nat) : Nat → Nat → Nat
  | 0, _ => 39
  | d + 1, k => if z_wd.getD k [] = w then k else z_fk w d (k + 1)
theorem e_kinds (hX : z_XE u len T) (hT : ∀ j, j < len → T j < 256) (hR : g_R u 2 2 = some 22) (hl : g_ln u 22 = 400) {i e : Nat} (hi : i < e) (he : e ≤ len) : ∀ (d k n : Nat), k + d = 36 → d + 4 < n → f_Re_kindOf_61 n (some 2) (Int32.ofNat i) (Int32.ofNat e) (Int32.ofNat k) u = some (some (z_fk (z_w T i e) d k * 64 + 13), u) := by
  have h400 := hX.2.1
  have step : ∀ (k n : Nat), k < 40 → f_Re_kindOf_61 (n + 1) (some 2) (Int32.ofNat i) (Int32.ofNat e) (Int32.ofNat k) u = g_c (f_Re_isWritten (some 2) (some (g_kw.getD k 0 * 64 + 14)) (Int32.ofNat i) (Int32.ofNat e) u) fun i4 s5 => if i4 = 0 then f_Re_kindOf_61 n (some 2) (Int32.ofNat i) (Int32.ofNat e) (Int32.ofNat (k + 1)) s5 else some (some (k * 64 + 13), s5) := by
    intro k n hk
    have e40 : (40 ≤ Int32.ofNat k) = (40 ≤ k) := x_le (a := 40) (by decide) (by omega)
    have ec : (Int32.ofNat k).toNatClampNeg = k := Int32.toNatClampNeg_ofNat_of_lt (by omega)
    have hks : ∀ F : Option Nat → Option (Option Nat × g_St), g_ksa (some 41) (Int32.ofNat k) F = F (some (k * 64 + 13)) := fun F => by
      unfold g_ksa
      simp only [ec]
      exact if_neg (fun w => w.elim (fun q => by rw [l_0, x_lt (by omega) (by decide)] at q; omega) (fun q => by omega))
    rw [f_Re_kindOf_61]
    unfold g_ksl
    simp only []
    rw [if_neg (by rw [e40]; omega), hks]
    unfold g_sfR
    simp only [show (k * 64 + 13) / 64 = k by omega, x_nn, x_p1, hks]
  have hkw : ∀ k, k < 36 → g_kw.getD k 0 = k := by
    have w : ((List.range 36).all fun k => decide (g_kw.getD k 0 = k)) = true := by decide +kernel
    intro k hk
    exact of_decide_eq_true (List.all_eq_true.mp w k (List.mem_range.mpr hk))
  intro d
  induction d with
  | zero =>
    intro k n hk hn
    have ek : k = 36 := by omega
    subst ek
    obtain ⟨n, rfl⟩ : ∃ m, n = m + 5 := ⟨n - 5, by omega⟩
    have nm : ¬ z_mt T 36 i e := fun w => by have := w.1; rw [show (g_tx.getD 36 []).length = 0 from rfl] at this; omega
    have nw := (e_written hX hR hl (by decide : 36 < 37) hi he).2 nm
    rw [step 36 _ (by decide), show g_kw.getD 36 0 = 36 from rfl, nw, x_c, if_pos rfl, step 37 _ (by decide), show g_kw.getD 37 0 = 36 from rfl, nw, x_c, if_pos rfl, step 38 _ (by decide), show g_kw.getD 38 0 = 36 from rfl, nw, x_c, if_pos rfl, step 39 _ (by decide), show g_kw.getD 39 0 = 36 from rfl, nw, x_c, if_pos rfl, f_Re_kindOf_61]
    rfl
  | succ d ih =>
    intro k n hk hn
    obtain ⟨n, rfl⟩ : ∃ m, n = m + 1 := ⟨n - 1, by omega⟩
    rw [step k n (by omega), hkw k (by omega), z_fk]
    have hm := z_mt_wd (T := T) (i := i) (e := e) (show k < 36 by omega) (fun j _ h => hT j (by omega))
    obtain ⟨w1, w2⟩ := e_written hX hR hl (show k < 37 by omega) hi he
    by_cases w : z_wd.getD k [] = z_w T i e
    · rw [w1 (hm.mpr w), x_c, if_neg (by decide), if_pos w]
    · rw [w2 (fun q => w (hm.mp q)), x_c, if_pos rfl, if_neg w]
      exact ih (k + 1) n (by omega) (by omega)
end
