/-! TOKENS: the engine cuts the text -/
def z_kind (T : Nat → Nat) (i e : Nat) : Nat := if z_sm (T i) = true then (if e - i ≤ 6 then 36 else 39) else if z_dg (T i) = true then (if e - i ≤ 4 then 37 else 39) else z_fk (z_w T i e) 36 0
theorem z_fk_lt (w : List Nat) : ∀ d k, k + d ≤ 36 → z_fk w d k < 40 := by
  intro d
  induction d with
  | zero => intro k _; show 39 < 40; decide
  | succ d ih =>
    intro k hk
    rw [z_fk]
    by_cases h : z_wd.getD k [] = w
    · rw [if_pos h]; omega
    · rw [if_neg h]; exact ih (k + 1) (by omega)
theorem z_kind_lt (T : Nat → Nat) (i e : Nat) : z_kind T i e < 40 := by
  unfold z_kind
  by_cases h : z_sm (T i) = true
  · rw [if_pos h]; split <;> decide
  · rw [if_neg h]
    by_cases g : z_dg (T i) = true
    · rw [if_pos g]; split <;> decide
    · rw [if_neg g]; exact z_fk_lt _ 36 0 (by decide)
/-- a number's value, a name's word, as the engine has them -/
def z_dE (T : Nat → Nat) : Nat → Nat → Int64 → Int64
  | 0, _, y => y
  | d + 1, i, y => z_dE T d (i + 1) ((y * 10) + ((Int32.ofNat (T i) - 48).toInt64))
def z_aE (T : Nat → Nat) : Nat → Nat → Int64 → Int64
  | 0, _, y => y
  | d + 1, i, y => z_aE T d (i + 1) ((y <<< ((8 : Int32).toInt64 &&& 63)) + (Int32.ofNat (T i)).toInt64)
def z_wE (T : Nat → Nat) (k i e : Nat) : Int64 := if k = 37 then z_dE T (e - i) i 0 else if k = 36 then z_aE T (e - i) i 0 else 0
section
variable {u : g_St} {len : Nat} {T : Nat → Nat}
theorem e_kindOf (hX : z_XE u len T) (hT : ∀ j, j < len → T j < 256) (hR : g_R u 2 2 = some 22) (hl : g_ln u 22 = 400) {i e : Nat} (hi : i < e) (he : e ≤ len) : f_Re_kindOf (some 2) (Int32.ofNat i) (Int32.ofNat e) u = some (some (z_kind T i e * 64 + 13), u) := by
  have h400 := hX.2.1
  have e6 : (6 < Int32.ofNat (e - i)) = (6 < e - i) := x_lt (a := 6) (by decide) (by omega)
  have e4 : (4 < Int32.ofNat (e - i)) = (4 < e - i) := x_lt (a := 4) (by decide) (by omega)
  unfold f_Re_kindOf z_kind
  rw [x_gR, hR, x_aI (by omega) (by omega), hX.2.2 i (by omega), e_small (hT i (by omega)), x_c, x_sub (by omega)]
  cases h : z_sm (T i) with
  | true =>
    rw [if_neg (by decide), if_pos rfl]
    by_cases q : e - i ≤ 6
    · rw [if_neg (by rw [e6]; omega), if_pos q]
    · rw [if_pos (by rw [e6]; omega), if_neg q]
  | false =>
    rw [if_pos (by decide), if_neg (by decide), x_gR, hR, x_aI (by omega) (by omega), hX.2.2 i (by omega), e_digit (hT i (by omega)), x_c]
    cases g : z_dg (T i) with
    | true =>
      rw [if_neg (by decide), if_pos rfl]
      by_cases q : e - i ≤ 4
      · rw [if_neg (by rw [e4]; omega), if_pos q]
      · rw [if_pos (by rw [e4]; omega), if_neg q]
    | false =>
      rw [if_pos (by decide), if_neg (by decide)]
      exact e_kinds hX hT hR hl hi he 36 0 200000 (by decide) (by decide)
theorem e_dec (hX : z_XE u len T) (hR : g_R u 2 2 = some 22) (hl : g_ln u 22 = 400) {e : Nat} (he : e ≤ len) : ∀ (d i n : Nat) (y : Int64), i + d = e → d < n → f_Re_wordOf_13 n (some 2) (Int32.ofNat e) y (Int32.ofNat i) u = some (z_dE T d i y, u) := by
  have h400 := hX.2.1
  intro d
  induction d with
  | zero =>
    intro i n y hi hn
    obtain ⟨n, rfl⟩ : ∃ m, n = m + 1 := ⟨n - 1, by omega⟩
    rw [f_Re_wordOf_13, if_pos (by rw [x_le (by omega) (by omega)]; omega), z_dE]
  | succ d ih =>
    intro i n y hi hn
    obtain ⟨n, rfl⟩ : ∃ m, n = m + 1 := ⟨n - 1, by omega⟩
    rw [f_Re_wordOf_13, if_neg (by rw [x_le (by omega) (by omega)]; omega), x_gR, hR, x_aI (by omega) (by omega), hX.2.2 i (by omega), x_p1, z_dE]
    exact ih (i + 1) n _ (by omega) (by omega)
theorem e_nam (hX : z_XE u len T) (hR : g_R u 2 2 = some 22) (hl : g_ln u 22 = 400) {e : Nat} (he : e ≤ len) : ∀ (d i n : Nat) (y : Int64), i + d = e → d < n → f_Re_wordOf_58 n (some 2) (Int32.ofNat e) y (Int32.ofNat i) u = some (z_aE T d i y, u) := by
  have h400 := hX.2.1
  intro d
  induction d with
  | zero =>
    intro i n y hi hn
    obtain ⟨n, rfl⟩ : ∃ m, n = m + 1 := ⟨n - 1, by omega⟩
    rw [f_Re_wordOf_58, if_pos (by rw [x_le (by omega) (by omega)]; omega), z_aE]
  | succ d ih =>
    intro i n y hi hn
    obtain ⟨n, rfl⟩ : ∃ m, n = m + 1 := ⟨n - 1, by omega⟩
    rw [f_Re_wordOf_58, if_neg (by rw [x_le (by omega) (by omega)]; omega), x_gR, hR, x_aI (by omega) (by omega), hX.2.2 i (by omega), x_p1, z_aE]
    exact ih (i + 1) n _ (by omega) (by omega)
theorem e_wordOf (hX : z_XE u len T) (hR : g_R u 2 2 = some 22) (hl : g_ln u 22 = 400) {i e k : Nat} (hi : i < e) (he : e ≤ len) : f_Re_wordOf (some 2) (some (k * 64 + 13)) (Int32.ofNat i) (Int32.ofNat e) u = some (z_wE T k i e, u) := by
  unfold f_Re_wordOf z_wE
  by_cases h : k = 37
  · rw [if_pos (by rw [h]), if_pos h]
    exact e_dec hX hR hl he (e - i) i 200000 0 (by omega) (by have := hX.2.1; omega)
  · rw [if_neg (fun w => h (by have := Option.some.inj w; omega)), if_neg h]
    by_cases g : k = 36
    · rw [if_pos (by rw [g]), if_pos g]
      exact e_nam hX hR hl he (e - i) i 200000 0 (by omega) (by have := hX.2.1; omega)
    · rw [if_neg (fun w => g (by have := Option.some.inj w; omega)), if_neg g]
end
/-- where tokens begin -/
def z_tks (len : Nat) (T : Nat → Nat) : Nat → Nat → List Nat
  | 0, _ => []
  | f + 1, i => if len ≤ i then [] else if T i = 32 then z_tks len T f (i + 1) else i :: z_tks len T f (z_tend len T i)
theorem z_tks_fuel (len : Nat) (T : Nat → Nat) : ∀ f g i, len - i ≤ f → len - i ≤ g → z_tks len T f i = z_tks len T g i := by
  intro f
  induction f with
  | zero =>
    intro g i h1 h2
    cases g with
    | zero => rfl
    | succ g => rw [z_tks, z_tks, if_pos (by omega)]
  | succ f ih =>
    intro g i h1 h2
    by_cases h : len ≤ i
    · cases g with
      | zero => rw [z_tks, z_tks, if_pos h]
      | succ g => rw [z_tks, if_pos h, z_tks, if_pos h]
    · obtain ⟨g, rfl⟩ : ∃ m, g = m + 1 := ⟨g - 1, by omega⟩
      rw [z_tks, z_tks, if_neg h, if_neg h]
      by_cases q : T i = 32
      · rw [if_pos q, if_pos q]
        exact ih g (i + 1) (by omega) (by omega)
      · have := z_tend_le (T := T) (show i < len by omega)
        rw [if_neg q, if_neg q, ih g (z_tend len T i) (by omega) (by omega)]
def z_Z (len : Nat) (T : Nat → Nat) (i : Nat) : List Nat := z_tks len T len i
theorem z_Z_end {len : Nat} {T : Nat → Nat} {i : Nat} (h : len ≤ i) : z_Z len T i = [] := by
  unfold z_Z
  rw [z_tks_fuel len T len 0 i (by omega) (by omega), z_tks]
theorem z_Z_sp {len : Nat} {T : Nat → Nat} {i : Nat} (h : i < len) (q : T i = 32) : z_Z len T i = z_Z len T (i + 1) := by
  unfold z_Z
  obtain ⟨m, hm⟩ : ∃ m, len = m + 1 := ⟨len - 1, by omega⟩
  rw [show z_tks len T len i = z_tks len T (m + 1) i by rw [← hm], z_tks, if_neg (by omega), if_pos q]
  exact z_tks_fuel len T m len (i + 1) (by omega) (by omega)
theorem z_Z_tok {len : Nat} {T : Nat → Nat} {i : Nat} (h : i < len) (q : T i ≠ 32) : z_Z len T i = i :: z_Z len T (z_tend len T i) := by
  unfold z_Z
  obtain ⟨m, hm⟩ : ∃ m, len = m + 1 := ⟨len - 1, by omega⟩
  have := z_tend_le (T := T) h
  rw [show z_tks len T len i = z_tks len T (m + 1) i by rw [← hm], z_tks, if_neg (by omega), if_neg q, z_tks_fuel len T m len (z_tend len T i) (by omega) (by omega)]
theorem z_Z_len (len : Nat) (T : Nat → Nat) : ∀ d i, i + d = len → (z_Z len T i).length ≤ d := by
  intro d
  induction d using Nat.strongRecOn with
  | ind d ih =>
    intro i h
    by_cases e : len ≤ i
    · rw [z_Z_end e]; exact Nat.zero_le _
    · by_cases q : T i = 32
      · rw [z_Z_sp (by omega) q]
        have := ih (d - 1) (by omega) (i + 1) (by omega)
        omega
      · rw [z_Z_tok (by omega) q]
        have := z_tend_le (T := T) (show i < len by omega)
        have := ih (len - z_tend len T i) (by omega) (z_tend len T i) (by omega)
        rw [List.length_cons]
        omega
theorem z_Z_in (len : Nat) (T : Nat → Nat) : ∀ d i, i + d = len → ∀ p ∈ z_Z len T i, i ≤ p ∧ p < len ∧ T p ≠ 32 := by
  intro d
  induction d using Nat.strongRecOn with
  | ind d ih =>
    intro i h p hp
    by_cases e : len ≤ i
    · rw [z_Z_end e] at hp; cases hp
    · by_cases q : T i = 32
      · rw [z_Z_sp (by omega) q] at hp
        have := ih (d - 1) (by omega) (i + 1) (by omega) p hp
        exact ⟨by omega, this.2⟩
      · rw [z_Z_tok (by omega) q] at hp
        have h2 := z_tend_le (T := T) (show i < len by omega)
        rcases List.mem_cons.mp hp with rfl | hp
        · exact ⟨Nat.le_refl _, by omega, q⟩
        · have := ih (len - z_tend len T i) (by omega) (z_tend len T i) (by omega) p hp
          exact ⟨by omega, this.2⟩
/-- the tokens: how many, kinds, places, words -/
def z_n (len : Nat) (T : Nat → Nat) : Nat := (z_Z len T 0).length
def z_pl (len : Nat) (T : Nat → Nat) (j : Nat) : Nat := (z_Z len T 0).getD j len
def z_kdT (len : Nat) (T : Nat → Nat) (j : Nat) : Nat := if j < z_n len T then z_kind T (z_pl len T j) (z_tend len T (z_pl len T j)) else 38
def z_wdE (len : Nat) (T : Nat → Nat) (j : Nat) : Int64 := if j < z_n len T then z_wE T (z_kdT len T j) (z_pl len T j) (z_tend len T (z_pl len T j)) else 0
theorem e_set23 {u : g_St} (h : e_Fix u) (j : Nat) (v : Option Nat) : e_Fix (g_setAR u 23 j v) := by
  refine ⟨h.1, h.2.1, h.2.2.1, h.2.2.2.1, fun i hi => ?_, h.2.2.2.2.2⟩
  rw [x_AR_AR, if_neg (fun w => by have := w.1; omega)]
  exact h.2.2.2.2.1 i hi
def z_tkp (u : g_St) (len : Nat) (T : Nat → Nat) (c : Nat) : Prop := ∀ j, j < c → g_AR u 23 j = some (z_kdT len T j * 64 + 13) ∧ g_AI u 20 j = Int32.ofNat (z_pl len T j) ∧ g_AL u 21 j = z_wdE len T j
theorem z_n_le (len : Nat) (T : Nat → Nat) : z_n len T ≤ len := z_Z_len len T len 0 (by omega)
theorem z_tkp_put {u : g_St} {len : Nat} {T : Nat → Nat} {c : Nat} (h : z_tkp u len T c) {k p : Nat} {w : Int64} (hk : k = z_kdT len T c) (hp : p = z_pl len T c) (hw : w = z_wdE len T c) : z_tkp (g_setAL (g_setAI (g_setAR u 23 c (some (k * 64 + 13))) 20 c (Int32.ofNat p)) 21 c w) len T (c + 1) := by
  intro j hj
  show g_AR (g_setAR u 23 c (some (k * 64 + 13))) 23 j = _ ∧ g_AI (g_setAI (g_setAR u 23 c (some (k * 64 + 13))) 20 c (Int32.ofNat p)) 20 j = _ ∧ _
  rw [x_AR_AR, x_AI_AI, x_AL_AL]
  by_cases e : j = c
  · rw [if_pos ⟨rfl, e⟩, if_pos ⟨rfl, e⟩, if_pos ⟨rfl, e⟩, hk, hp, hw, e]
    exact ⟨rfl, rfl, rfl⟩
  · rw [if_neg (fun q => e q.2), if_neg (fun q => e q.2), if_neg (fun q => e q.2)]
    exact h j (by omega)
theorem z_XE.cut {u : g_St} {len : Nat} {T : Nat → Nat} (h : z_XE u len T) (c : Nat) (a : Option Nat) (b : Int32) (w : Int64) : z_XE (g_setAL (g_setAI (g_setAR u 23 c a) 20 c b) 21 c w) len T := by
  refine ⟨h.1, h.2.1, fun i hi => ?_⟩
  show g_AI (g_setAI (g_setAR u 23 c a) 20 c b) 22 i = _
  rw [x_AI_AI, if_neg (fun q => by have := q.1; omega)]
  exact h.2.2 i hi
theorem e_cut6 {len : Nat} {T : Nat → Nat} (hT : ∀ j, j < len → T j < 256) : ∀ (d i c en n : Nat) (u : g_St) (pre : List Nat), i + d = len → d < n → en ≤ len → z_XE u len T → e_Fix u → z_Z len T 0 = pre ++ z_Z len T (max i en) → pre.length = c → z_tkp u len T c →
    ∃ u', f_Re_cut_6 n (some 2) (Int32.ofNat c) (Int32.ofNat en) (Int32.ofNat i) u = some ((), u') ∧ z_tkE u' (z_n len T) (z_kdT len T) (z_pl len T) (z_wdE len T) := by
  intro d
  induction d with
  | zero =>
    intro i c en n u pre hd hn hen hX hE hpre hc hk
    obtain ⟨n, rfl⟩ : ∃ m, n = m + 1 := ⟨n - 1, by omega⟩
    have h400 := hX.2.1
    have hcn : c = z_n len T := by
      unfold z_n
      rw [hpre, z_Z_end (by omega), List.append_nil, hc]
    have hcl := z_n_le len T
    have k38 : z_kdT len T c = 38 := by unfold z_kdT; rw [if_neg (by omega)]
    have p38 : z_pl len T c = len := by
      unfold z_pl
      rw [List.getD_eq_getElem?_getD, List.getElem?_eq_none (by show z_n len T ≤ c; omega)]
      rfl
    have w38 : z_wdE len T c = 0 := by unfold z_wdE; rw [if_neg (by omega)]
    rw [f_Re_cut_6, x_gI, hX.1, if_pos (by rw [x_le (by omega) (by omega)]; omega), x_gR, (e_R hE 2 rfl).1, x_sR (by omega) (by rw [(e_R hE 2 rfl).2]; show c < 401; omega), x_gR, show g_R (g_setAR u 23 c (some 2445)) 194 2 = some 20 from (e_R hE 3 rfl).1, x_gI, show g_I (g_setAR u 23 c (some 2445)) 66 2 = Int32.ofNat len from hX.1, x_sI (by omega) (by show c < g_ln u 20; rw [(e_R hE 3 rfl).2]; show c < 401; omega), x_gR, show g_R (g_setAI (g_setAR u 23 c (some 2445)) 20 c (Int32.ofNat len)) 258 2 = some 21 from (e_R hE 4 rfl).1, x_sL (by omega) (by show c < g_ln u 21; rw [(e_R hE 4 rfl).2]; show c < 401; omega)]
    refine ⟨_, rfl, ?_⟩
    have hp := z_tkp_put hk (k := 38) (p := len) (w := 0) k38.symm p38.symm w38.symm
    intro j hj
    exact hp j (by omega)
  | succ d ih =>
    intro i c en n u pre hd hn hen hX hE hpre hc hk
    obtain ⟨n, rfl⟩ : ∃ m, n = m + 1 := ⟨n - 1, by omega⟩
    have h400 := hX.2.1
    rw [f_Re_cut_6, x_gI, hX.1, if_neg (by rw [x_le (by omega) (by omega)]; omega)]
    by_cases q : i < en
    · rw [if_pos (by rw [x_lt (by omega) (by omega)]; exact q), x_p1]
      exact ih (i + 1) c en n u pre (by omega) (by omega) hen hX hE (by rw [hpre, show max i en = max (i + 1) en by omega]) hc hk
    · have em : max i en = i := by omega
      rw [em] at hpre
      have e32 : (Int32.ofNat (T i) = 32) = (T i = 32) := x_eq (b := 32) (by have := hT i (by omega); omega) (by decide)
      have r2 : g_R u 2 2 = some 22 := (e_R hE 1 rfl).1
      have l2 : g_ln u 22 = 400 := (e_R hE 1 rfl).2
      rw [if_neg (by rw [x_lt (by omega) (by omega)]; exact q), x_gR, r2, x_aI (by omega) (by omega), hX.2.2 i (by omega)]
      by_cases s : T i = 32
      · rw [if_pos (by rw [e32]; exact s), x_p1]
        exact ih (i + 1) c en n u pre (by omega) (by omega) hen hX hE (by rw [hpre, z_Z_sp (by omega) s, show max (i + 1) en = i + 1 by omega]) hc hk
      · have hte := z_tend_le (T := T) (show i < len by omega)
        have hZ := z_Z_tok (T := T) (show i < len by omega) s
        rw [hZ] at hpre
        have hcn : c < z_n len T := by
          unfold z_n
          rw [hpre, List.length_append, List.length_cons]
          omega
        have hcl := z_n_le len T
        have hpl : z_pl len T c = i := by
          unfold z_pl
          rw [hpre, List.getD_eq_getElem?_getD, List.getElem?_append_right (by omega), show c - pre.length = 0 by omega]
          rfl
        have hkd : z_kind T i (z_tend len T i) = z_kdT len T c := by unfold z_kdT; rw [if_pos hcn, hpl]
        have hwd : z_wE T (z_kind T i (z_tend len T i)) i (z_tend len T i) = z_wdE len T c := by unfold z_wdE; rw [if_pos hcn, hpl, hkd]
        have hX1 : z_XE (g_setAR u 23 c (some (z_kind T i (z_tend len T i) * 64 + 13))) len T := hX
        have hX2 : z_XE (g_setAI (g_setAR u 23 c (some (z_kind T i (z_tend len T i) * 64 + 13))) 20 c (Int32.ofNat i)) len T := by
          refine ⟨hX.1, hX.2.1, fun j hj => ?_⟩
          rw [x_AI_AI, if_neg (fun w => by have := w.1; omega)]
          exact hX.2.2 j hj
        rw [if_neg (by rw [e32]; exact s), x_nn, e_endOf hX hT r2 l2 (by omega), x_c, x_gR, (e_R hE 2 rfl).1, x_nn, e_kindOf hX hT r2 l2 hte.1 hte.2, x_c, x_sR (by omega) (by rw [(e_R hE 2 rfl).2]; show c < 401; omega), x_gR, show g_R (g_setAR u 23 c (some (z_kind T i (z_tend len T i) * 64 + 13))) 194 2 = some 20 from (e_R hE 3 rfl).1, x_sI (by omega) (by show c < g_ln u 20; rw [(e_R hE 3 rfl).2]; show c < 401; omega), x_gR, show g_R (g_setAI (g_setAR u 23 c (some (z_kind T i (z_tend len T i) * 64 + 13))) 20 c (Int32.ofNat i)) 258 2 = some 21 from (e_R hE 4 rfl).1, x_gR, show g_R (g_setAI (g_setAR u 23 c (some (z_kind T i (z_tend len T i) * 64 + 13))) 20 c (Int32.ofNat i)) 130 2 = some 23 from (e_R hE 2 rfl).1, x_aR (by omega) (by show c < g_ln u 23; rw [(e_R hE 2 rfl).2]; show c < 401; omega), show g_AR (g_setAI (g_setAR u 23 c (some (z_kind T i (z_tend len T i) * 64 + 13))) 20 c (Int32.ofNat i)) 23 c = some (z_kind T i (z_tend len T i) * 64 + 13) from (by show g_AR (g_setAR u 23 c (some (z_kind T i (z_tend len T i) * 64 + 13))) 23 c = _; rw [x_AR_AR, if_pos ⟨rfl, rfl⟩]), x_nn, e_wordOf hX2 r2 l2 hte.1 hte.2, x_c, x_sL (by omega) (by show c < g_ln u 21; rw [(e_R hE 4 rfl).2]; show c < 401; omega), x_p1, x_p1]
        refine ih (i + 1) (c + 1) (z_tend len T i) n _ (pre ++ [i]) (by omega) (by omega) hte.2 (hX.cut _ _ _ _) (e_set23 hE c _) ?_ (by rw [List.length_append, hc]; rfl) (z_tkp_put hk hkd hpl.symm hwd)
        rw [hpre, List.append_assoc, show max (i + 1) (z_tend len T i) = z_tend len T i by omega]
        rfl
theorem e_cut {u : g_St} {len : Nat} {T : Nat → Nat} (hT : ∀ j, j < len → T j < 256) (hX : z_XE u len T) (hE : e_Fix u) : ∃ u', f_Re_cut (some 2) u = some ((), u') ∧ z_tkE u' (z_n len T) (z_kdT len T) (z_pl len T) (z_wdE len T) :=
  e_cut6 hT len 0 0 0 200000 u [] (by omega) (by have := hX.2.1; omega) (Nat.zero_le _) hX hE (by rfl) rfl (fun j hj => absurd hj (Nat.not_lt_zero j))
