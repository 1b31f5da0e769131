/-! THE ENGINE READS A PART: its selections -/
def z_S {α : Type} (f : α → Nat) (l : List α) : Nat := (l.map f).sum
theorem z_S_a {α : Type} (f : α → Nat) (l : List α) (x : α) : z_S f (l ++ [x]) = z_S f l + f x := z_sum_a f l x
theorem E_se.b {pl : Nat → Nat} {wd : Nat → Int64} {u : g_St} {s i k j : Nat} {bb b2 : Nat → Nat} {ow : Int32} {x : z_Se} (h : E_se pl wd u s i k j bb ow x) (l : ∀ t, b2 t ≤ bb t) : E_se pl wd u s i k j b2 ow x := by
  obtain ⟨h1, h2, h3, h4, h5, h6, a26, a23, a27, a28, ⟨b1, b2', b3, b4, b5, b6, b7, b8⟩, c1, d1, e1, e2, e3⟩ := h
  exact ⟨h1, h2, h3, h4, h5, h6, a26, a23, a27, a28, ⟨Nat.le_trans (l _) b1, b2', Nat.le_trans (l _) b3, b4, Nat.le_trans (l _) b5, b6, Nat.le_trans (l _) b7, b8⟩, c1, d1, e1, e2, fun m hm => ⟨(e3 m hm).1, (e3 m hm).2.b (l _)⟩⟩
def E_ses (pl : Nat → Nat) (wd : Nat → Int64) (u : g_St) (L s i k j : Nat) (bb : Nat → Nat) (ow : Int32) (l : List z_Se) : Prop := ∀ m, m < l.length → g_AR u L m = some ((s + m) * 64 + 8) ∧ E_se pl wd u (s + m) (i + z_S z_nts (l.take m)) (k + z_S z_ncs (l.take m)) (j + z_S z_nss (l.take m)) bb ow (l.getD m z_se0)
theorem E_ses.kp {pl : Nat → Nat} {wd : Nat → Int64} {u v : g_St} {L s i k j : Nat} {bb : Nat → Nat} {ow : Int32} {l : List z_Se} (h : E_ses pl wd u L s i k j bb ow l) {X : List Nat} (kp : E_kp X u v) (hX : ∀ a ∈ X, a % 64 ≠ 8 ∧ a % 64 ≠ 9 ∧ a % 64 ≠ 10 ∧ a % 64 ≠ 11 ∧ (a % 64 = 23 ∨ a % 64 = 26 ∨ a % 64 = 27 ∨ a % 64 = 28 → a / 64 < bb (a % 64))) (h1 : g_AR v L = g_AR u L) : E_ses pl wd v L s i k j bb ow l := fun m hm => ⟨by rw [h1]; exact (h m hm).1, (h m hm).2.kp kp hX⟩
def E_uf (P L : Nat) (u0 s : g_St) : Prop := E_kp [P, L] u0 s ∧ E_ct [8, 9, 10, 11, 23, 26, 27, 28] u0 s ∧ (∀ k, g_R s k P = g_R u0 k P) ∧ (∀ k, k ≠ 711 → k ≠ 519 → k ≠ 583 → g_I s k P = g_I u0 k P) ∧ (∀ k, g_L s k P = g_L u0 k P) ∧ g_ln s L = g_ln u0 L
def E_us (pl : Nat → Nat) (wd : Nat → Int64) (P L : Nat) (ow : Int32) (u0 s : g_St) (l : List z_Se) (fl : List Bool) : Prop := (g_I s 711 P = Int32.ofNat l.length ∧ g_I s 519 P = z_g (fl.any fun b => !b) ∧ g_I s 583 P = z_g (fl.any id)) ∧ (g_cnt s 8 = g_cnt u0 8 + l.length ∧ g_cnt s 9 = g_cnt u0 9 + z_S z_nss l ∧ g_cnt s 10 = g_cnt u0 10 + z_S z_ncs l ∧ g_cnt s 11 = g_cnt u0 11 + z_S z_nts l) ∧ E_ses pl wd s L (g_cnt u0 8) (g_cnt u0 11) (g_cnt u0 10) (g_cnt u0 9) (g_cnt u0) ow l
section
variable {n : Nat} {kd pl : Nat → Nat} {wd vl : Nat → Int64} {c : z_Cx} {P W Q L : Nat} {u0 : g_St}
theorem E_uf.as {s t : g_St} (h : E_uf P L u0 s) (g : E_as s t) (hP : P ≠ 2) : E_uf P L u0 t := by
  obtain ⟨h1, h2, h3, h4, h5, h6⟩ := h
  exact ⟨h1.trans (g.kp _) (fun a ha => Or.inl ha), fun t x y => by rw [g.1]; exact h2 t x y, fun k => by rw [g.2.2.2.2.1]; exact h3 k, fun k x y z => by rw [((g.sm hP).1 k).1]; exact h4 k x y z, fun k => by rw [g.2.2.2.1]; exact h5 k, by rw [g.2.2.2.2.2.2.2.2.1]; exact h6⟩
theorem E_us.as {s t : g_St} {ow : Int32} {l : List z_Se} {fl : List Bool} (h : E_us pl wd P L ow u0 s l fl) (g : E_as s t) (hP : P ≠ 2) : E_us pl wd P L ow u0 t l fl := by
  obtain ⟨⟨h1, h2, h3⟩, ⟨h4, h5, h6, h7⟩, h8⟩ := h
  have e := (g.sm hP).1
  exact ⟨⟨by rw [(e _).1]; exact h1, by rw [(e _).1]; exact h2, by rw [(e _).1]; exact h3⟩, ⟨by rw [g.1]; exact h4, by rw [g.1]; exact h5, by rw [g.1]; exact h6, by rw [g.1]; exact h7⟩, h8.kp (g.kp []) (fun a ha => by cases ha) (by rw [g.2.2.2.2.2.2.2.1])⟩
/-- UNION, UNION ALL -/
theorem a_jo (Z : E_cx c) (H : z_H n kd) {s : g_St} {r : z_P} {w : Nat} (nP : E_nw c P) (h : E_b n kd pl wd c s r w) : ∃ t, f_Re_joins (some 2) (some P) s = some (z_g (z_skr kd 11 r).1, t) ∧ ((z_skr kd 11 r).1 = false → E_as s t ∧ E_b n kd pl wd c t r w) ∧ ∀ x, r = .inr x → kd x = 11 → ∃ t0, E_as s t0 ∧ t = g_setI t0 (if kd (x + 1) = 12 then 583 else 519) P 1 ∧ E_b n kd pl wd c t (.inr (if kd (x + 1) = 12 then x + 2 else x + 1)) w := by
  obtain ⟨s2, a1, a2, a3⟩ := a_ac Z H h (k := 11) (by decide)
  rcases z_skr_c 11 r with ⟨w1, q, f1, f2, f3⟩ | ⟨w1, f1, f2⟩
  · rw [f3] at a2
    obtain ⟨s4, b1, b2, b3⟩ := a_ac Z H a2 (k := 12) (by decide)
    by_cases y : kd (q + 1) = 12
    · rw [z_skr_t y] at b1 b2
      refine ⟨g_setI s4 583 P 1, ?_, (fun e => by rw [w1] at e; cases e), fun x e1 e2 => ?_⟩
      · unfold f_Re_joins
        rw [x_nn, show (717 : Nat) = 11 * 64 + 13 from rfl, a1, x_c, w1, if_neg (show ¬ z_g true = 0 by decide), x_nn, show (781 : Nat) = 12 * 64 + 13 from rfl, b1, x_c, if_neg (show ¬ z_g true = 0 by decide), show (1 : Int32) = z_g true from rfl, x_pZ]
        rfl
      · rw [f1] at e1
        cases e1
        rw [if_pos y, if_pos y]
        exact ⟨s4, a3.trans b3, rfl, b2.pI Z nP _ _⟩
    · rw [z_skr_f y] at b1 b2
      refine ⟨g_setI s4 519 P 1, ?_, (fun e => by rw [w1] at e; cases e), fun x e1 e2 => ?_⟩
      · unfold f_Re_joins
        rw [x_nn, show (717 : Nat) = 11 * 64 + 13 from rfl, a1, x_c, w1, if_neg (show ¬ z_g true = 0 by decide), x_nn, show (781 : Nat) = 12 * 64 + 13 from rfl, b1, x_c, if_pos (show z_g false = 0 from rfl), show (1 : Int32) = z_g true from rfl, x_pZ]
        rfl
      · rw [f1] at e1
        cases e1
        rw [if_neg y, if_neg y]
        exact ⟨s4, a3.trans b3, rfl, b2.pI Z nP _ _⟩
  · rw [f1] at a2
    refine ⟨s2, ?_, fun _ => ⟨a3, a2⟩, fun x e1 e2 => absurd e2 (f2 x e1)⟩
    unfold f_Re_joins
    rw [x_nn, show (717 : Nat) = 11 * 64 + 13 from rfl, a1, x_c, w1, if_pos (show z_g false = 0 from rfl)]
    rfl
/-- one selection of a part -/
theorem a_un1 (Z : E_cx c) (H : z_H n kd) (hwd : ∀ i, i < n → kd i = 36 → wd i ≠ 0) (hvl : ∀ i, i < n → kd i = 37 → wd i = vl i) (hA : E_pA c u0 P W Q L) {D : Nat} (hD : D ≤ 31) (ow : Int32) (k53 : Option Nat → Int32 → Int32 → g_St → Option (Option Nat × g_St)) {r : z_P} {l : List z_Se} {fl : List Bool} {u : g_St} (hl : l.length ≤ 3) (hb : E_b n kd pl wd c u r (3 * z_pk r + D)) (hf : E_uf P L u0 u) (hs : E_us pl wd P L ow u0 u l fl) (f : Nat) :
    ∃ s, f_Re_read_93 k53 (f + 1) (some 2) ow (some P) 1 (Int32.ofNat l.length) u = (if 3 ≤ l.length then f_Re_read_93 k53 f (some 2) ow (some P) 0 (Int32.ofNat (l.length + 1)) s else g_c (f_Re_joins (some 2) (some P) s) fun i t => if i = 0 then f_Re_read_93 k53 f (some 2) ow (some P) 0 (Int32.ofNat (l.length + 1)) t else f_Re_read_93 k53 f (some 2) ow (some P) 1 (Int32.ofNat (l.length + 1)) t) ∧ E_b n kd pl wd c s (z_sep kd vl r) (3 * z_pk (z_sep kd vl r) + D + z_sl (z_sep kd vl r) 7) ∧ E_uf P L u0 s ∧ z_pk r ≤ z_pk (z_sep kd vl r) ∧ ∀ p q, r = .inr p → z_sep kd vl r = .inr q → E_us pl wd P L ow u0 s (l ++ [(z_ser kd vl p).1]) fl := by
  obtain ⟨⟨m1, m2, m3, m4⟩, ⟨n1, n2, n3, n4⟩, ⟨b1, b2, b3, b4⟩, ⟨c1, c2, c3⟩, d1, d2, d3⟩ := hA
  obtain ⟨f1, f2, f3, f4, f5, f6⟩ := hf
  obtain ⟨⟨e1, e2, e3⟩, ⟨h8, h9, h10, h11⟩, g1⟩ := hs
  have P2 : P ≠ 2 := n1.ne2
  have L2 : L ≠ 2 := n4.ne2
  obtain ⟨s3, a1, a2, a3, a4, a5, a6, -, -, a7⟩ := a_sel (vl := vl) Z H hwd hvl hb hD ow
  have alP : g_al u P := E_alm f1.1 b1
  have alL : g_al u L := E_alm f1.1 b4
  have sP : E_sm u s3 P := a3.at alP (by rw [m1]; decide) (by simp)
  have sL : E_sm u s3 L := a3.at alL (by rw [m4]; decide) (by simp)
  obtain ⟨s5, e5⟩ : ∃ s5, s5 = g_setI (g_setAR s3 L l.length (some (g_cnt u 8 * 64 + 8))) 711 P (Int32.ofNat (l.length + 1)) := ⟨_, rfl⟩
  have K5 : E_kp [P, L] u s5 := by rw [e5]; exact ((a3.mono (fun a ha => by cases ha)).sR ⟨L2, Or.inl (by simp)⟩ _ _).pI ⟨P2, Or.inl (by simp)⟩ _ _
  have K35 : E_kp [P, L] s3 s5 := by rw [e5]; exact (E_kp.re.sR ⟨L2, Or.inl (by simp)⟩ _ _).pI ⟨P2, Or.inl (by simp)⟩ _ _
  have ct5 : g_cnt s5 = g_cnt s3 := by rw [e5]; rfl
  have R5 : g_R s5 = g_R s3 := by rw [e5]; rfl
  have L5 : g_L s5 = g_L s3 := by rw [e5]; rfl
  have ln5 : g_ln s5 = g_ln s3 := by rw [e5]; rfl
  have I5 : ∀ k, k ≠ 711 → g_I s5 k P = g_I u k P := fun k hk => by
    rw [e5, x_I_I, if_neg (fun q => hk q.1)]
    exact (sP.1 k).1
  have XX : ∀ a ∈ [P, L], a % 64 ≠ 8 ∧ a % 64 ≠ 9 ∧ a % 64 ≠ 10 ∧ a % 64 ≠ 11 ∧ (a % 64 = 23 ∨ a % 64 = 26 ∨ a % 64 = 27 ∨ a % 64 = 28 → a / 64 < g_cnt u0 (a % 64)) := fun a ha => by
    simp only [List.mem_cons, List.not_mem_nil, or_false] at ha
    rcases ha with e | e
    · rw [e]; omega
    · rw [e]; omega
  refine ⟨s5, ?_, by rw [e5]; exact (a2.sR Z n4 _ _).pI Z n1 _ _, ⟨f1.trans K5 (fun a ha => Or.inl ha), fun t x y => by rw [ct5, a4 t x y]; exact f2 t x y, fun k => by rw [R5, (sP.1 k).2.2]; exact f3 k, fun k x y z => by rw [I5 k x]; exact f4 k x y z, fun k => by rw [L5, (sP.1 k).2.1]; exact f5 k, by rw [ln5, sL.2.2.2.2]; exact f6⟩, a6, fun p q y1 y2 => ?_⟩
  · rw [f_Re_read_93, if_neg (show ¬ (4 : Int32) ≤ Int32.ofNat l.length from by rw [show (4 : Int32) = Int32.ofNat 4 from rfl, x_le (by omega) (by omega)]; omega), if_neg (by decide), x_gR, f3, c3, x_nn, a1, x_c, x_sR (by omega) (by rw [sL.2.2.2.2, f6, d3]; omega), x_p1, x_pI, ← e5]
    have e4 : (4 ≤ Int32.ofNat (l.length + 1)) = (4 ≤ l.length + 1) := x_le (a := 4) (by decide) (by omega)
    by_cases w : 3 ≤ l.length
    · rw [if_pos w, if_pos (by rw [e4]; omega)]
    · rw [if_neg w, if_neg (by rw [e4]; omega), x_nn]
  · obtain ⟨x1, x2, x3, x4⟩ := a7 p q y1 y2
    have ln : (l ++ [(z_ser kd vl p).1]).length = l.length + 1 := by rw [List.length_append, List.length_singleton]
    refine ⟨⟨by rw [ln, e5, x_I_I, if_pos ⟨rfl, rfl⟩], by rw [I5 _ (by decide)]; exact e2, by rw [I5 _ (by decide)]; exact e3⟩, ⟨by rw [ct5, a5, h8, ln]; omega, by rw [ct5, x2, h9, z_S_a]; omega, by rw [ct5, x3, h10, z_S_a]; omega, by rw [ct5, x1, h11, z_S_a]; omega⟩, fun m hm => ?_⟩
    have AR5 : ∀ m, m ≠ l.length → g_AR s5 L m = g_AR u L m := fun m hm => by
      rw [e5]
      show g_AR (g_setAR s3 L l.length (some (g_cnt u 8 * 64 + 8))) L m = _
      rw [x_AR_AR, if_neg (fun q => hm q.2), sL.2.2.2.1]
    rw [ln] at hm
    by_cases w : m < l.length
    · obtain ⟨z1, z2⟩ := g1 m w
      rw [z_getD_l w, List.take_append_of_le_length (by omega), AR5 m (by omega)]
      exact ⟨z1, z2.kp K5 XX⟩
    · have em : m = l.length := by omega
      rw [em, z_getD_e, List.take_append_of_le_length (by omega), List.take_length, ← h8, ← h9, ← h10, ← h11]
      refine ⟨?_, ?_⟩
      · rw [e5]
        show g_AR (g_setAR s3 L l.length (some (g_cnt u 8 * 64 + 8))) L l.length = _
        rw [x_AR_AR, if_pos ⟨rfl, rfl⟩]
      · exact (x4.b (fun t => f1.1 t)).kp K35 XX
theorem a_un (Z : E_cx c) (H : z_H n kd) (hwd : ∀ i, i < n → kd i = 36 → wd i ≠ 0) (hvl : ∀ i, i < n → kd i = 37 → wd i = vl i) (hA : E_pA c u0 P W Q L) {D : Nat} (hD : D ≤ 31) (ow : Int32) (k53 : Option Nat → Int32 → Int32 → g_St → Option (Option Nat × g_St)) : ∀ (d q : Nat) (l : List z_Se) (fl : List Bool) (u : g_St) (f : Nat), l.length + d = 3 → d + 1 < f → E_b n kd pl wd c u (.inr q) (3 * q + D) → E_uf P L u0 u → E_us pl wd P L ow u0 u l fl →
    ∃ u', f_Re_read_93 k53 f (some 2) ow (some P) 1 (Int32.ofNat l.length) u = f_Re_read_153 k53 (some 2) ow (some P) u' ∧ E_b n kd pl wd c u' (z_uni kd vl d q).2 (3 * z_pk (z_uni kd vl d q).2 + D + z_sl (z_uni kd vl d q).2 7) ∧ E_uf P L u0 u' ∧ q ≤ z_pk (z_uni kd vl d q).2 ∧ (z_uni kd vl d q).1.1.length ≤ d + 1 ∧ ∀ q', (z_uni kd vl d q).2 = .inr q' → E_us pl wd P L ow u0 u' (l ++ (z_uni kd vl d q).1.1) (fl ++ (z_uni kd vl d q).1.2) := by
  have P2 : P ≠ 2 := hA.2.1.1.ne2
  have mP : P % 64 = 7 := hA.1.1
  have e0 : ∀ f i s, f_Re_read_93 k53 (f + 1) (some 2) ow (some P) 0 i s = f_Re_read_153 k53 (some 2) ow (some P) s := fun f i s => by
    rw [f_Re_read_93]
    by_cases w : 4 ≤ i
    · rw [if_pos w]
    · rw [if_neg w, if_pos rfl]
  intro d
  induction d with
  | zero =>
    intro q l fl u f h1 h2 h3 h4 h5
    obtain ⟨f, rfl⟩ : ∃ m, f = m + 2 := ⟨f - 2, by omega⟩
    obtain ⟨s, a1, a2, a3, a4, a5⟩ := a_un1 Z H hwd hvl hA hD ow k53 (r := .inr q) (by omega) h3 h4 h5 (f + 1)
    rw [if_pos (by omega), e0] at a1
    refine ⟨s, a1, a2, a3, a4, Nat.le_refl _, fun q' hq => ?_⟩
    rw [show fl ++ (z_uni kd vl 0 q).1.2 = fl from List.append_nil _]
    exact a5 q q' rfl hq
  | succ d ih =>
    intro q l fl u f h1 h2 h3 h4 h5
    obtain ⟨f, rfl⟩ : ∃ m, f = m + 2 := ⟨f - 2, by omega⟩
    obtain ⟨s, a1, a2, a3, a4, a5⟩ := a_un1 Z H hwd hvl hA hD ow k53 (r := .inr q) (by omega) h3 h4 h5 (f + 1)
    obtain ⟨t, b1, b2, b3⟩ := a_jo Z H hA.2.1.1 a2
    rw [if_neg (by omega), b1, x_c] at a1
    have esep : z_sep kd vl (.inr q) = (z_ser kd vl q).2 := rfl
    rw [esep] at a1 a2 a4 a5 b2 b3
    cases hz : (z_ser kd vl q).2 with
    | inl x =>
      have e : z_uni kd vl (d + 1) q = (([(z_ser kd vl q).1], []), .inl x) := by rw [z_uni, hz]
      rw [hz] at a1 a2 a4 b2
      rw [if_pos (show z_g (z_skr kd 11 (.inl x)).1 = 0 from rfl), e0] at a1
      obtain ⟨c1, c2⟩ := b2 rfl
      rw [e]
      exact ⟨t, a1, c2, a3.as c1 P2, a4, by show 1 ≤ _; omega, fun q' w => by cases w⟩
    | inr x =>
      have S5 := a5 q x rfl hz
      have hqx : q ≤ x := by rw [hz] at a4; exact a4
      by_cases w : kd x = 11
      · obtain ⟨t0, c1, c2, c3⟩ := b3 x hz w
        rw [hz, z_skr_t w, if_neg (show ¬ z_g (true, (.inr (x + 1) : z_P)).1 = 0 from (show ¬ z_g true = 0 by decide))] at a1
        have ln : (l ++ [(z_ser kd vl q).1]).length = l.length + 1 := by rw [List.length_append, List.length_singleton]
        rw [← ln] at a1
        have key : ∀ (b : Bool) (y : Nat), (if kd (x + 1) = 12 then 583 else 519) = (if b = true then 583 else 519) → (if kd (x + 1) = 12 then x + 2 else x + 1) = y → x + 1 ≤ y → z_uni kd vl (d + 1) q = (((z_ser kd vl q).1 :: (z_uni kd vl d y).1.1, b :: (z_uni kd vl d y).1.2), (z_uni kd vl d y).2) →
            ∃ u', f_Re_read_93 k53 (f + 2) (some 2) ow (some P) 1 (Int32.ofNat l.length) u = f_Re_read_153 k53 (some 2) ow (some P) u' ∧ E_b n kd pl wd c u' (z_uni kd vl (d + 1) q).2 (3 * z_pk (z_uni kd vl (d + 1) q).2 + D + z_sl (z_uni kd vl (d + 1) q).2 7) ∧ E_uf P L u0 u' ∧ q ≤ z_pk (z_uni kd vl (d + 1) q).2 ∧ (z_uni kd vl (d + 1) q).1.1.length ≤ d + 1 + 1 ∧ ∀ q', (z_uni kd vl (d + 1) q).2 = .inr q' → E_us pl wd P L ow u0 u' (l ++ (z_uni kd vl (d + 1) q).1.1) (fl ++ (z_uni kd vl (d + 1) q).1.2) := by
          intro b y k1 k2 k3 k4
          rw [k1] at c2
          rw [k2] at c3
          have B : E_b n kd pl wd c t (.inr y) (3 * y + D) := c3.mono (by rw [hz]; show 3 * x + D + 0 ≤ _; omega)
          have F0 := a3.as c1 P2
          have S0 := S5.as c1 P2
          have Ft : E_uf P L u0 t := by
            obtain ⟨f1, f2, f3, f4, f5, f6⟩ := F0
            rw [c2]
            refine ⟨f1.pI ⟨P2, Or.inl (by simp)⟩ _ _, f2, f3, fun k x1 x2 x3 => ?_, f5, f6⟩
            rw [x_I_I, if_neg (fun q => by cases b <;> (have := q.1; simp at this; omega))]
            exact f4 k x1 x2 x3
          have It : ∀ k, g_I t k P = if k = (if b = true then 583 else 519) then 1 else g_I t0 k P := fun k => by
            rw [c2, x_I_I]
            by_cases z : k = (if b = true then 583 else 519)
            · rw [if_pos ⟨z, rfl⟩, if_pos z]
            · rw [if_neg (fun q => z q.1), if_neg z]
          have St : E_us pl wd P L ow u0 t (l ++ [(z_ser kd vl q).1]) (fl ++ [b]) := by
            obtain ⟨⟨g1, g2, g3⟩, g4, g5⟩ := S0
            refine ⟨⟨?_, ?_, ?_⟩, by rw [c2]; exact g4, ?_⟩
            · rw [It, if_neg (by cases b <;> simp)]; exact g1
            · rw [It, List.any_append, List.any_cons, List.any_nil, Bool.or_false]
              cases b with
              | true => rw [if_neg (by simp)]; rw [g2]; show _ = z_g (_ || false); rw [Bool.or_false]
              | false => rw [if_pos (by simp)]; show _ = z_g (_ || true); rw [Bool.or_true]; rfl
            · rw [It, List.any_append, List.any_cons, List.any_nil, Bool.or_false]
              cases b with
              | true => rw [if_pos (by simp)]; show _ = z_g (_ || true); rw [Bool.or_true]; rfl
              | false => rw [if_neg (by simp)]; rw [g3]; show _ = z_g (_ || false); rw [Bool.or_false]
            · rw [c2]
              exact g5.kp (E_kp.re.pI (X := [P]) ⟨P2, Or.inl (by simp)⟩ _ _) (fun a ha => by rw [List.mem_singleton.mp ha]; omega) rfl
          obtain ⟨u', x1, x2, x3, x4, x5, x6⟩ := ih y (l ++ [(z_ser kd vl q).1]) (fl ++ [b]) t (f + 1) (by rw [ln]; omega) (by omega) B Ft St
          rw [k4]
          refine ⟨u', a1.trans x1, x2, x3, by show q ≤ z_pk (z_uni kd vl d y).2; omega, by show (z_uni kd vl d y).1.1.length + 1 ≤ _; omega, fun q' hq => ?_⟩
          have := x6 q' hq
          rw [List.append_assoc, List.append_assoc] at this
          exact this
        by_cases y : kd (x + 1) = 12
        · refine key true (x + 2) (by rw [if_pos y]; rfl) (by rw [if_pos y]) (by omega) ?_
          rw [z_uni, hz]; simp only []; rw [if_pos w, if_pos y]
        · refine key false (x + 1) (by rw [if_neg y]; rfl) (by rw [if_neg y]) (by omega) ?_
          rw [z_uni, hz]; simp only []; rw [if_pos w, if_neg y]
      · have e : z_uni kd vl (d + 1) q = (([(z_ser kd vl q).1], []), .inr x) := by rw [z_uni, hz]; simp only []; rw [if_neg w]
        rw [hz, z_skr_f w, if_pos (show z_g (false, (.inr x : z_P)).1 = 0 from rfl), e0] at a1
        rw [hz] at a2 b2
        obtain ⟨c1, c2⟩ := b2 (by rw [z_skr_f w])
        rw [e]
        refine ⟨t, a1, c2, a3.as c1 P2, hqx, by show 1 ≤ _; omega, fun q' hq => ?_⟩
        show E_us pl wd P L ow u0 t (l ++ [(z_ser kd vl q).1]) (fl ++ [])
        rw [List.append_nil]
        exact S5.as c1 P2
end
