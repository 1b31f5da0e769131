/-! WORDS: names compare alike on both sides, numbers are the same -/
def z_fo (B : Nat) (f : Nat → Nat) : List Nat → Nat → Nat
  | [], v => v
  | c :: cs, v => z_fo B f cs (B * v + f c)
def z_un (B : Nat) : Nat → Nat → List Nat
  | 0, _ => []
  | n + 1, h => if h = 0 then [] else z_un B n (h / B) ++ [h % B]
theorem z_un_fo {B : Nat} {f : Nat → Nat} : ∀ (cs : List Nat) (v n : Nat), (∀ c ∈ cs, 1 ≤ f c ∧ f c < B) → z_un B (n + cs.length) (z_fo B f cs v) = z_un B n v ++ cs.map f := by
  intro cs
  induction cs with
  | nil => intro v n _; rw [List.map_nil, List.append_nil]; rfl
  | cons c cs ih =>
    intro v n h
    have hc := h c (List.mem_cons_self ..)
    have hB : 0 < B := by omega
    rw [z_fo, List.length_cons, show n + (cs.length + 1) = (n + 1) + cs.length by omega, ih _ _ (fun x hx => h x (List.mem_cons_of_mem _ hx)), z_un, if_neg (by omega), Nat.mul_add_div hB, Nat.div_eq_of_lt hc.2, Nat.add_zero, Nat.mul_add_mod, Nat.mod_eq_of_lt hc.2, List.append_assoc]
    rfl
theorem z_un_0 (B n : Nat) : z_un B n 0 = [] := by
  cases n with
  | zero => rfl
  | succ n => rw [z_un, if_pos rfl]
theorem z_fo_inj {B : Nat} {f : Nat → Nat} {cs ds : List Nat} (h1 : ∀ c ∈ cs, 1 ≤ f c ∧ f c < B) (h2 : ∀ c ∈ ds, 1 ≤ f c ∧ f c < B) (e : z_fo B f cs 0 = z_fo B f ds 0) : cs.map f = ds.map f := by
  have a := z_un_fo cs 0 ds.length h1
  have b := z_un_fo ds 0 cs.length h2
  rw [z_un_0, List.nil_append] at a b
  rw [← a, ← b, e, Nat.add_comm]
theorem z_map_inj {f : Nat → Nat} {P : Nat → Prop} (hf : ∀ a b, P a → P b → f a = f b → a = b) : ∀ cs ds : List Nat, (∀ c ∈ cs, P c) → (∀ c ∈ ds, P c) → cs.map f = ds.map f → cs = ds := by
  intro cs
  induction cs with
  | nil => intro ds _ _ h; cases ds with
    | nil => rfl
    | cons d ds => cases h
  | cons c cs ih =>
    intro ds h1 h2 h
    cases ds with
    | nil => cases h
    | cons d ds =>
      rw [List.map_cons, List.map_cons, List.cons.injEq] at h
      rw [hf c d (h1 c (List.mem_cons_self ..)) (h2 d (List.mem_cons_self ..)) h.1, ih ds (fun x hx => h1 x (List.mem_cons_of_mem _ hx)) (fun x hx => h2 x (List.mem_cons_of_mem _ hx)) h.2]
theorem z_fo_lt {B : Nat} {f : Nat → Nat} : ∀ (cs : List Nat) (v m : Nat), (∀ c ∈ cs, f c < B) → v < B ^ m → z_fo B f cs v < B ^ (m + cs.length) := by
  intro cs
  induction cs with
  | nil => intro v m _ h; exact h
  | cons c cs ih =>
    intro v m h hv
    have hc := h c (List.mem_cons_self ..)
    rw [z_fo, List.length_cons, show m + (cs.length + 1) = (m + 1) + cs.length by omega]
    refine ih _ _ (fun x hx => h x (List.mem_cons_of_mem _ hx)) ?_
    rw [Nat.pow_succ, Nat.mul_comm (B ^ m) B]
    calc B * v + f c < B * v + B := by omega
      _ = B * (v + 1) := by rw [Nat.mul_add, Nat.mul_one]
      _ ≤ B * B ^ m := Nat.mul_le_mul_left _ hv
/-- a letter of a name -/
def z_nc (c : Nat) : Prop := (97 ≤ c ∧ c ≤ 122) ∨ (48 ≤ c ∧ c ≤ 57)
def z_f37 (c : Nat) : Nat := if z_dg c = true then c - 21 else c - 96
theorem z_nc_of {c : Nat} (h : (z_sm c || z_dg c) = true) : z_nc c := by
  rw [Bool.or_eq_true] at h
  rcases h with h | h
  · exact Or.inl (of_decide_eq_true h)
  · exact Or.inr (of_decide_eq_true h)
theorem z_f37_ok {c : Nat} (h : z_nc c) : 1 ≤ z_f37 c ∧ z_f37 c < 37 := by
  unfold z_f37 z_dg
  rcases h with h | h
  · rw [if_neg (by rw [decide_eq_true_eq]; omega)]; omega
  · rw [if_pos (decide_eq_true h)]; omega
theorem z_f37_inj {a b : Nat} (ha : z_nc a) (hb : z_nc b) (h : z_f37 a = z_f37 b) : a = b := by
  unfold z_f37 z_dg at h
  rcases ha with ha | ha <;> rcases hb with hb | hb
  · rw [if_neg (by rw [decide_eq_true_eq]; omega), if_neg (by rw [decide_eq_true_eq]; omega)] at h; omega
  · rw [if_neg (by rw [decide_eq_true_eq]; omega), if_pos (decide_eq_true hb)] at h; omega
  · rw [if_pos (decide_eq_true ha), if_neg (by rw [decide_eq_true_eq]; omega)] at h; omega
  · rw [if_pos (decide_eq_true ha), if_pos (decide_eq_true hb)] at h; omega
theorem z_shl8 (v : Nat) : (Int64.ofNat v) <<< ((8 : Int32).toInt64 &&& 63) = Int64.ofNat (256 * v) := by
  apply Int64.toBitVec.inj
  show BitVec.ofNat 64 v <<< 8 = BitVec.ofNat 64 (256 * v)
  apply BitVec.eq_of_toNat_eq
  simp [Nat.shiftLeft_eq]
  omega
theorem z_toI64 {c : Nat} (h : c < 2147483648) : (Int32.ofNat c).toInt64 = Int64.ofNat c := Int32.toInt64_ofNat' (by have : Int32.maxValue.toInt = 2147483647 := rfl; omega)
theorem z_rangeS (T : Nat → Nat) (e d : Nat) : ((List.range (d + 1)).map fun j => T (e + j)) = T e :: ((List.range d).map fun j => T (e + 1 + j)) := by
  rw [List.range_succ_eq_map, List.map_cons, List.map_map]
  congr 1
  apply List.map_congr_left
  intro j _
  show T (e + (j + 1)) = T (e + 1 + j)
  rw [show e + 1 + j = e + (j + 1) by omega]
theorem z_aE_eq (T : Nat → Nat) : ∀ (d e v : Nat), (∀ j, e ≤ j → j < e + d → T j < 256) → z_aE T d e (Int64.ofNat v) = Int64.ofNat (z_fo 256 (fun c => c) ((List.range d).map fun j => T (e + j)) v) := by
  intro d
  induction d with
  | zero => intro e v _; rfl
  | succ d ih =>
    intro e v h
    have hc := h e (Nat.le_refl _) (by omega)
    rw [z_rangeS, z_fo, z_aE, z_shl8, z_toI64 (by omega), ← Int64.ofNat_add]
    exact ih (e + 1) _ (fun j h1 h2 => h j (by omega) (by omega))
theorem z_aM_eq (T : Nat → Nat) (i : Nat) : ∀ (d e v : Nat), (∀ j, e ≤ j → j < e + d → z_nc (T j)) → i ≤ e → e + d - i ≤ 6 → z_aM T i d e (Int64.ofNat v) = Int64.ofNat (z_fo 37 z_f37 ((List.range d).map fun j => T (e + j)) v) := by
  intro d
  induction d with
  | zero => intro e v _ _ _; rfl
  | succ d ih =>
    intro e v h hie hl
    have hc := h e (Nat.le_refl _) (by omega)
    have hb : T e ≤ 122 ∧ 48 ≤ T e := by rcases hc with q | q <;> omega
    have e1 : (if z_dg (T e) = true then (Int32.ofNat (T e) - 21).toInt64 else (Int32.ofNat (T e) - 96).toInt64) = Int64.ofNat (z_f37 (T e)) := by
      unfold z_f37
      by_cases q : z_dg (T e) = true
      · rw [if_pos q, if_pos q, show (21 : Int32) = Int32.ofNat 21 from rfl, x_sub (by omega), z_toI64 (by omega)]
      · have : 97 ≤ T e := by
          rcases hc with w | w
          · exact w.1
          · exact absurd (decide_eq_true w) q
        rw [if_neg q, if_neg q, show (96 : Int32) = Int32.ofNat 96 from rfl, x_sub (by omega), z_toI64 (by omega)]
    rw [z_rangeS, z_fo, z_aM, if_neg (by omega), e1, show (37 : Int64) = Int64.ofNat 37 from rfl, ← Int64.ofNat_mul, ← Int64.ofNat_add]
    exact ih (e + 1) _ (fun j h1 h2 => h j (by omega) (by omega)) (by omega) (by omega)
theorem z_dE_eq (T : Nat → Nat) : ∀ (d e v : Nat), (∀ j, e ≤ j → j < e + d → 48 ≤ T j ∧ T j ≤ 57) → z_dE T d e (Int64.ofNat v) = Int64.ofNat (z_fo 10 (fun c => c - 48) ((List.range d).map fun j => T (e + j)) v) := by
  intro d
  induction d with
  | zero => intro e v _; rfl
  | succ d ih =>
    intro e v h
    have hc := h e (Nat.le_refl _) (by omega)
    rw [z_rangeS, z_fo, z_dE, show (48 : Int32) = Int32.ofNat 48 from rfl, x_sub (by omega), z_toI64 (by omega), show (10 : Int64) = Int64.ofNat 10 from rfl, ← Int64.ofNat_mul, ← Int64.ofNat_add, Nat.mul_comm v 10]
    exact ih (e + 1) _ (fun j h1 h2 => h j (by omega) (by omega))
theorem z_dM_eq (T : Nat → Nat) (i : Nat) : ∀ (d e v : Nat), (∀ j, e ≤ j → j < e + d → 48 ≤ T j ∧ T j ≤ 57) → i ≤ e → e + d - i ≤ 4 → z_dM T i d e (Int64.ofNat v) = Int64.ofNat (z_fo 10 (fun c => c - 48) ((List.range d).map fun j => T (e + j)) v) := by
  intro d
  induction d with
  | zero => intro e v _ _ _; rfl
  | succ d ih =>
    intro e v h hie hl
    have hc := h e (Nat.le_refl _) (by omega)
    rw [z_rangeS, z_fo, z_dM, if_neg (by omega), z_toI64 (by omega), show (10 : Int64) = Int64.ofNat 10 from rfl, show (48 : Int64) = Int64.ofNat 48 from rfl, ← Int64.ofNat_mul, ← Int64.ofNat_add, ← Int64.ofNat_sub _ _ (by omega), show 10 * v + T e - 48 = 10 * v + (T e - 48) by omega]
    exact ih (e + 1) _ (fun j h1 h2 => h j (by omega) (by omega)) (by omega) (by omega)
/-- a token's letters -/
def z_nm (len : Nat) (T : Nat → Nat) (j : Nat) : List Nat := z_w T (z_pl len T j) (z_tend len T (z_pl len T j))
section
variable {len : Nat} {T : Nat → Nat}
theorem z_pl_in {j : Nat} (h : j < z_n len T) : z_pl len T j < len ∧ T (z_pl len T j) ≠ 32 := by
  have hm : z_pl len T j ∈ z_Z len T 0 := by
    unfold z_pl
    rw [List.getD_eq_getElem?_getD, List.getElem?_eq_getElem h]
    exact List.getElem_mem h
  exact (z_Z_in len T len 0 (by omega) _ hm).2
theorem z_kd36 {j : Nat} (hT : ∀ j, j < len → T j < 256) (h : z_kdT len T j = 36) : j < z_n len T ∧ z_sm (T (z_pl len T j)) = true ∧ z_tend len T (z_pl len T j) - z_pl len T j ≤ 6 := by
  unfold z_kdT at h
  by_cases q : j < z_n len T
  · rw [if_pos q] at h
    unfold z_kind at h
    refine ⟨q, ?_⟩
    by_cases s : z_sm (T (z_pl len T j)) = true
    · rw [if_pos s] at h
      by_cases l : z_tend len T (z_pl len T j) - z_pl len T j ≤ 6
      · exact ⟨s, l⟩
      · rw [if_neg l] at h; cases h
    · rw [if_neg s] at h
      by_cases g : z_dg (T (z_pl len T j)) = true
      · rw [if_pos g] at h
        split at h <;> cases h
      · rw [if_neg g] at h
        have fk : ∀ (w : List Nat) (d k : Nat), k + d ≤ 36 → z_fk w d k ≠ 36 := by
          intro w d
          induction d with
          | zero => intro k _ e; cases e
          | succ d ih =>
            intro k hk e
            rw [z_fk] at e
            split at e
            · omega
            · exact ih (k + 1) (by omega) e
        exact absurd h (fk _ 36 0 (by decide))
  · rw [if_neg q] at h; cases h
theorem z_name_ok {j : Nat} (hT : ∀ j, j < len → T j < 256) (h : z_kdT len T j = 36) : (∀ c ∈ z_nm len T j, z_nc c) ∧ (z_nm len T j).length ≤ 6 ∧ z_wdE len T j = Int64.ofNat (z_fo 256 (fun c => c) (z_nm len T j) 0) ∧ z_vlT len T j = Int64.ofNat (z_fo 37 z_f37 (z_nm len T j) 0) := by
  obtain ⟨q, s, l⟩ := z_kd36 hT h
  have hp := (z_pl_in q).1
  have hsb : 97 ≤ T (z_pl len T j) ∧ T (z_pl len T j) ≤ 122 := of_decide_eq_true s
  have hE : z_tend len T (z_pl len T j) = z_run T (T (z_pl len T j)) (len - z_pl len T j) (z_pl len T j) := by
    unfold z_tend
    rw [if_neg (fun w => by omega), z_run_first (by unfold z_bl; rw [if_pos s, s]; rfl) hp]
  have hte := z_tend_le (T := T) hp
  have hin : ∀ x, z_pl len T j ≤ x → x < z_tend len T (z_pl len T j) → z_nc (T x) := fun x h1 h2 => by
    rw [hE] at h2
    have := z_run_in T _ _ _ x h1 h2
    unfold z_bl at this
    rw [if_pos s] at this
    exact z_nc_of this
  refine ⟨fun c hc => ?_, by unfold z_nm; rw [z_w_len]; exact l, ?_, ?_⟩
  · obtain ⟨x, hx, rfl⟩ := List.mem_map.mp hc
    have := List.mem_range.mp hx
    exact hin _ (by omega) (by omega)
  · unfold z_wdE
    rw [if_pos q, h]
    unfold z_wE
    rw [if_neg (by decide), if_pos rfl]
    exact z_aE_eq T _ _ 0 (fun x h1 h2 => hT x (by omega))
  · unfold z_vlT
    rw [if_pos q]
    unfold z_vM
    rw [if_neg (by unfold z_cp; rw [decide_eq_true_eq]; omega), if_pos s]
    exact z_aM_eq T _ _ _ 0 (fun x h1 h2 => hin x h1 (by omega)) (Nat.le_refl _) (by omega)
theorem z_n256_lt {w : List Nat} (h : ∀ c ∈ w, z_nc c) (hl : w.length ≤ 6) : z_fo 256 (fun c => c) w 0 < 2 ^ 63 := by
  have a := z_fo_lt (B := 256) (f := fun c => c) w 0 0 (fun c hc => by rcases h c hc with q | q <;> omega) (by decide)
  have b : 256 ^ (0 + w.length) ≤ 256 ^ 6 := Nat.pow_le_pow_right (by decide) (by omega)
  exact Nat.lt_of_lt_of_le a (Nat.le_trans b (by decide))
theorem z_n37_lt {w : List Nat} (h : ∀ c ∈ w, z_nc c) (hl : w.length ≤ 6) : z_fo 37 z_f37 w 0 < 2 ^ 63 := by
  have a := z_fo_lt (B := 37) (f := z_f37) w 0 0 (fun c hc => (z_f37_ok (h c hc)).2) (by decide)
  have b : 37 ^ (0 + w.length) ≤ 37 ^ 6 := Nat.pow_le_pow_right (by decide) (by omega)
  exact Nat.lt_of_lt_of_le a (Nat.le_trans b (by decide))
theorem z_n256_eq {v w : List Nat} (hv : ∀ c ∈ v, z_nc c) (hw : ∀ c ∈ w, z_nc c) : z_fo 256 (fun c => c) v 0 = z_fo 256 (fun c => c) w 0 ↔ v = w := by
  refine ⟨fun e => ?_, fun e => by rw [e]⟩
  have := z_fo_inj (B := 256) (f := fun c => c) (fun c hc => by rcases hv c hc with q | q <;> (constructor <;> omega)) (fun c hc => by rcases hw c hc with q | q <;> (constructor <;> omega)) e
  rw [List.map_id', List.map_id'] at this
  exact this
theorem z_n37_eq {v w : List Nat} (hv : ∀ c ∈ v, z_nc c) (hw : ∀ c ∈ w, z_nc c) : z_fo 37 z_f37 v 0 = z_fo 37 z_f37 w 0 ↔ v = w := by
  refine ⟨fun e => ?_, fun e => by rw [e]⟩
  exact z_map_inj (P := z_nc) (fun a b ha hb h => z_f37_inj ha hb h) v w hv hw (z_fo_inj (fun c hc => z_f37_ok (hv c hc)) (fun c hc => z_f37_ok (hw c hc)) e)
/-- names compare alike -/
theorem z_names {j k : Nat} (hT : ∀ j, j < len → T j < 256) (hj : z_kdT len T j = 36) (hk : z_kdT len T k = 36) : (z_wdE len T j = z_wdE len T k ↔ z_nm len T j = z_nm len T k) ∧ (z_vlT len T j = z_vlT len T k ↔ z_nm len T j = z_nm len T k) := by
  obtain ⟨a1, a2, a3, a4⟩ := z_name_ok hT hj
  obtain ⟨b1, b2, b3, b4⟩ := z_name_ok hT hk
  rw [a3, a4, b3, b4, z_i64 (z_n256_lt a1 a2) (z_n256_lt b1 b2), z_i64 (z_n37_lt a1 a2) (z_n37_lt b1 b2)]
  exact ⟨z_n256_eq a1 b1, z_n37_eq a1 b1⟩
end
