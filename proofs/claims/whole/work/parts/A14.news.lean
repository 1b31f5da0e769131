/-! THE ENGINE READS A SELECTION: its pieces -/
def z_gc (l : List z_It) : Nat := (l.map fun x => if x.1 = 0 then 0 else 1).sum
def z_rk (l : List z_It) : Bool := l.any fun x => decide (x.1 = 0) && decide (1 < x.2.length)
def z_nti (l : List z_It) : Nat := (l.map fun x => x.2.length).sum
def z_ntc (l : List z_Co) : Nat := (l.map z_nto).sum
def z_ncc (l : List z_Co) : Nat := (l.map z_nco).sum
def z_nsc (l : List z_Co) : Nat := (l.map z_nso).sum
theorem z_sum_a {α : Type} (f : α → Nat) (l : List α) (x : α) : ((l ++ [x]).map f).sum = (l.map f).sum + f x := by rw [List.map_append, List.sum_append, List.map_singleton, List.sum_singleton]
theorem z_rk_a (l : List z_It) (x : z_It) : z_rk (l ++ [x]) = (z_rk l || (decide (x.1 = 0) && decide (1 < x.2.length))) := by unfold z_rk; rw [List.any_append, List.any_cons, List.any_nil, Bool.or_false]
def z_it0 : z_It := (0, [])
def z_co0 : z_Co := .inl z_bs0
def E_s1 (u : g_St) (S : Nat) (its : List z_It) (srs : List Nat) (cns : List z_Co) : Prop := g_I u 264 S = Int32.ofNat its.length ∧ g_I u 328 S = Int32.ofNat (z_gc its) ∧ g_I u 712 S = z_g (z_rk its) ∧ g_I u 456 S = Int32.ofNat srs.length ∧ g_I u 584 S = Int32.ofNat cns.length
theorem E_s1.of {u v : g_St} {S : Nat} {its : List z_It} {srs : List Nat} {cns : List z_Co} (h : E_s1 u S its srs cns) (s : ∀ k, g_I v k S = g_I u k S) : E_s1 v S its srs cns := by unfold E_s1 at *; rw [s, s, s, s, s]; exact h
def E_its (pl : Nat → Nat) (wd : Nat → Int64) (u : g_St) (I G i : Nat) (sel : Option Nat) (l : List z_It) : Prop := ∀ m, m < l.length → E_ir pl wd u I G m (i + z_nti (l.take m)) sel (l.getD m z_it0)
def E_srs (pl : Nat → Nat) (wd : Nat → Int64) (u : g_St) (A k : Nat) (sel : Option Nat) (l : List Nat) : Prop := ∀ m, m < l.length → g_AR u A m = some ((k + m) * 64 + 9) ∧ k + m < g_cnt u 9 ∧ E_so pl wd u (k + m) sel (Int32.ofNat m) (l.getD m 0)
def E_cns (pl : Nat → Nat) (wd : Nat → Int64) (u : g_St) (A k i j b : Nat) (sel : Option Nat) (l : List z_Co) : Prop := ∀ m, m < l.length → g_AR u A m = some ((k + z_ncc (l.take m)) * 64 + 10) ∧ E_co pl wd u (k + z_ncc (l.take m)) (i + z_ntc (l.take m)) (j + z_nsc (l.take m)) b sel (l.getD m z_co0)
theorem E_its.kp {pl : Nat → Nat} {wd : Nat → Int64} {u v : g_St} {I G i : Nat} {sel : Option Nat} {l : List z_It} (h : E_its pl wd u I G i sel l) {X : List Nat} (k : E_kp X u v) (hX : ∀ a ∈ X, a % 64 ≠ 11) (h1 : g_AR v I = g_AR u I) (h2 : g_AR v G = g_AR u G) : E_its pl wd v I G i sel l := fun m hm => (h m hm).of k hX (by rw [h1]) (by rw [h2])
theorem E_srs.kp {pl : Nat → Nat} {wd : Nat → Int64} {u v : g_St} {A k : Nat} {sel : Option Nat} {l : List Nat} (h : E_srs pl wd u A k sel l) {X : List Nat} (kp : E_kp X u v) (hX : ∀ a ∈ X, a % 64 ≠ 9) (h1 : g_AR v A = g_AR u A) : E_srs pl wd v A k sel l := fun m hm => ⟨by rw [h1]; exact (h m hm).1, Nat.lt_of_lt_of_le (h m hm).2.1 (kp.1 9), (h m hm).2.2.kp (h m hm).2.1 kp hX⟩
theorem E_cns.kp {pl : Nat → Nat} {wd : Nat → Int64} {u v : g_St} {A k i j b : Nat} {sel : Option Nat} {l : List z_Co} (h : E_cns pl wd u A k i j b sel l) {X : List Nat} (kp : E_kp X u v) (hX : ∀ a ∈ X, a % 64 ≠ 9 ∧ a % 64 ≠ 10 ∧ a % 64 ≠ 11 ∧ (a % 64 = 28 → a / 64 < b)) (h1 : g_AR v A = g_AR u A) : E_cns pl wd v A k i j b sel l := fun m hm => ⟨by rw [h1]; exact (h m hm).1, (h m hm).2.kp kp hX⟩
section
variable {n : Nat} {kd pl : Nat → Nat} {wd : Nat → Int64} {c : z_Cx}
/-- a selection is made -/
theorem a_news (Z : E_cx c) (H : z_H n kd) {u : g_St} {r : z_P} {w : Nat} (h : E_b n kd pl wd c u r w) (hw : w ≤ 1265) (ow : Int32) : ∃ s, (∀ {α : Type} (F : Option Nat → g_St → Option α), (g_new u 8 12 fun p1 s2 => g_gR s2 194 (some 2) fun p3 => g_gI s2 322 (some 2) fun i4 => g_aI s2 p3 i4 fun i5 => g_c (g_nn p1 (f_Se_init p1 ow i5 s2)) fun _ s7 => F p1 s7) = F (some (g_cnt u 8 * 64 + 8)) s) ∧ E_b n kd pl wd c s r (w + 1) ∧ E_fr u s ∧ (∀ t, g_cnt s t = if t = 8 ∨ t = 26 ∨ t = 23 ∨ t = 27 ∨ t = 28 then g_cnt u t + 1 else g_cnt u t) ∧ (∀ k, g_R s k (g_cnt u 8 * 64 + 8) = if k = 520 then some (g_cnt u 28 * 64 + 28) else if k = 392 then some (g_cnt u 27 * 64 + 27) else if k = 200 then some (g_cnt u 23 * 64 + 23) else if k = 136 then some (g_cnt u 26 * 64 + 26) else none) ∧ (∀ k, g_I s k (g_cnt u 8 * 64 + 8) = if k = 72 then Int32.ofNat (pl (z_pk r)) else if k = 8 then ow else 0) ∧ (g_ln s (g_cnt u 26 * 64 + 26) = 4 ∧ g_ln s (g_cnt u 23 * 64 + 23) = 4 ∧ g_ln s (g_cnt u 27 * 64 + 27) = 3 ∧ g_ln s (g_cnt u 28 * 64 + 28) = 6) ∧ ∀ m, g_AR s (g_cnt u 26 * 64 + 26) m = none ∧ g_AR s (g_cnt u 23 * 64 + 23) m = none := by
  have rm := h.room Z (by omega)
  obtain ⟨p1, p2, p3, p4, p5, p6, -⟩ := a_pl H h
  obtain ⟨S, hS⟩ : ∃ S, S = g_cnt u 8 * 64 + 8 := ⟨_, rfl⟩
  obtain ⟨I, hI⟩ : ∃ I, I = g_cnt u 26 * 64 + 26 := ⟨_, rfl⟩
  obtain ⟨G, hG⟩ : ∃ G, G = g_cnt u 23 * 64 + 23 := ⟨_, rfl⟩
  obtain ⟨Sr, hSr⟩ : ∃ Sr, Sr = g_cnt u 27 * 64 + 27 := ⟨_, rfl⟩
  obtain ⟨Cn, hCn⟩ : ∃ Cn, Cn = g_cnt u 28 * 64 + 28 := ⟨_, rfl⟩
  obtain ⟨s0, e0⟩ : ∃ s, s = g_mk u 8 12 0 := ⟨_, rfl⟩
  obtain ⟨s1, e1⟩ : ∃ s, s = g_setR (g_mk s0 26 4 4) 136 S (some I) := ⟨_, rfl⟩
  obtain ⟨s2, e2⟩ : ∃ s, s = g_setR (g_mk s1 23 4 4) 200 S (some G) := ⟨_, rfl⟩
  obtain ⟨s3, e3⟩ : ∃ s, s = g_setR (g_mk s2 27 3 3) 392 S (some Sr) := ⟨_, rfl⟩
  obtain ⟨s4, e4⟩ : ∃ s, s = g_setR (g_mk s3 28 6 6) 520 S (some Cn) := ⟨_, rfl⟩
  obtain ⟨s5, e5⟩ : ∃ s, s = g_setI (g_setI s4 8 S ow) 72 S (Int32.ofNat (pl (z_pk r))) := ⟨_, rfl⟩
  have c0 : ∀ t, g_cnt s0 t = if t = 8 then g_cnt u 8 + 1 else g_cnt u t := fun t => by rw [e0]; exact x_cnt_mk u 8 12 0 t
  have c1 : ∀ t, g_cnt s1 t = if t = 26 then g_cnt s0 26 + 1 else g_cnt s0 t := fun t => by rw [e1]; exact x_cnt_mk s0 26 4 4 t
  have c2 : ∀ t, g_cnt s2 t = if t = 23 then g_cnt s1 23 + 1 else g_cnt s1 t := fun t => by rw [e2]; exact x_cnt_mk s1 23 4 4 t
  have c3 : ∀ t, g_cnt s3 t = if t = 27 then g_cnt s2 27 + 1 else g_cnt s2 t := fun t => by rw [e3]; exact x_cnt_mk s2 27 3 3 t
  have c4 : ∀ t, g_cnt s4 t = if t = 28 then g_cnt s3 28 + 1 else g_cnt s3 t := fun t => by rw [e4]; exact x_cnt_mk s3 28 6 6 t
  have c5 : ∀ t, g_cnt s5 t = g_cnt s4 t := fun t => by rw [e5]; rfl
  have n0 : g_cnt s0 26 * 64 + 26 = I := by rw [c0, if_neg (by decide), hI]
  have n1 : g_cnt s1 23 * 64 + 23 = G := by rw [c1, if_neg (by decide), c0, if_neg (by decide), hG]
  have n2 : g_cnt s2 27 * 64 + 27 = Sr := by rw [c2, if_neg (by decide), c1, if_neg (by decide), c0, if_neg (by decide), hSr]
  have n3 : g_cnt s3 28 * 64 + 28 = Cn := by rw [c3, if_neg (by decide), c2, if_neg (by decide), c1, if_neg (by decide), c0, if_neg (by decide), hCn]
  have nS : ¬ g_al u S := by rw [hS]; exact E_nal (by decide)
  have fr : E_fr u s5 := by
    rw [e5, e4, e3, e2, e1, e0]
    exact ((((((((((E_fr.re.mk (by decide) 12 0).mk (by decide) 4 4).pR nS _ _).mk (by decide) 4 4).pR nS _ _).mk (by decide) 3 3).pR nS _ _).mk (by decide) 6 6).pR nS _ _).pI nS _ _).pI nS _ _
  have ini : f_Se_init (some S) ow (Int32.ofNat (pl (z_pk r))) s0 = some ((), s5) := by
    unfold f_Se_init
    rw [x_nn, show (4 : Int32) = Int32.ofNat 4 from rfl, x_newA (by decide) (by rw [e0]; show g_cn u + 1 < _; omega) (by rw [e0]; show g_sn u + 12 + 4 ≤ _; omega), n0, x_pR, ← e1, x_newA (by decide) (by rw [e1, e0]; show g_cn u + 1 + 1 < _; omega) (by rw [e1, e0]; show g_sn u + 12 + 4 + 4 ≤ _; omega), n1, x_pR, ← e2, show (3 : Int32) = Int32.ofNat 3 from rfl, x_newA (by decide) (by rw [e2, e1, e0]; show g_cn u + 1 + 1 + 1 < _; omega) (by rw [e2, e1, e0]; show g_sn u + 12 + 4 + 4 + 3 ≤ _; omega), n2, x_pR, ← e3, show (6 : Int32) = Int32.ofNat 6 from rfl, x_newA (by decide) (by rw [e3, e2, e1, e0]; show g_cn u + 1 + 1 + 1 + 1 < _; omega) (by rw [e3, e2, e1, e0]; show g_sn u + 12 + 4 + 4 + 3 + 6 ≤ _; omega), n3, x_pR, ← e4, x_pI, x_pI, ← e5]
  have o0 : z_Ok s0 := by rw [e0]; exact h.2.2.2.1.mk (by decide) _ _
  have os : z_Ok s5 := (v_Se_init (u := s0) (some S) ow _ s0 z_V.re ini).2.2.2.2 o0
  have ct : ∀ t, g_cnt s5 t = if t = 8 ∨ t = 26 ∨ t = 23 ∨ t = 27 ∨ t = 28 then g_cnt u t + 1 else g_cnt u t := fun t => by
    have b26 : g_cnt s0 26 = g_cnt u 26 := by rw [c0, if_neg (by decide)]
    have b23 : g_cnt s1 23 = g_cnt u 23 := by rw [c1, if_neg (by decide), c0, if_neg (by decide)]
    have b27 : g_cnt s2 27 = g_cnt u 27 := by rw [c2, if_neg (by decide), c1, if_neg (by decide), c0, if_neg (by decide)]
    have b28 : g_cnt s3 28 = g_cnt u 28 := by rw [c3, if_neg (by decide), c2, if_neg (by decide), c1, if_neg (by decide), c0, if_neg (by decide)]
    rw [c5, c4 t, b28]
    by_cases y1 : t = 28
    · rw [if_pos y1, if_pos (by omega), y1]
    · rw [if_neg y1, c3 t, b27]
      by_cases y2 : t = 27
      · rw [if_pos y2, if_pos (by omega), y2]
      · rw [if_neg y2, c2 t, b23]
        by_cases y3 : t = 23
        · rw [if_pos y3, if_pos (by omega), y3]
        · rw [if_neg y3, c1 t, b26]
          by_cases y4 : t = 26
          · rw [if_pos y4, if_pos (by omega), y4]
          · rw [if_neg y4, c0 t]
            by_cases y5 : t = 8
            · rw [if_pos y5, if_pos (by omega), y5]
            · rw [if_neg y5, if_neg (by omega)]
  rw [← hS, ← hI, ← hG, ← hSr, ← hCn]
  have R0 : ∀ k, g_R s0 k 2 = g_R u k 2 := fun k => by rw [e0, x_R_mk, if_neg (by omega)]
  have I0 : ∀ k, g_I s0 k 2 = g_I u k 2 := fun k => by rw [e0, x_I_mk, if_neg (by omega)]
  have a20 : g_al u 20 := h.al2 Z 20 (by decide)
  have sm20 : E_sm u s0 20 := by rw [e0]; exact E_sm.re.mk 8 12 0 (by omega)
  refine ⟨s5, fun F => ?_, ?_, fr, ct, fun k => ?_, fun k => ?_, ⟨?_, ?_, ?_, ?_⟩, fun m => ⟨?_, ?_⟩⟩
  · rw [x_new (by omega) (by omega), ← hS, ← e0, x_gR, R0, p1, x_gI, I0, p3, x_aI (by omega) (by rw [sm20.2.2.2.2, p2]; omega), sm20.2.1, p6, x_nn, ini, x_c]
  · have := h.2.2.2.2.2.2.1
    refine h.fr Z fr os (by rw [ct, if_neg (by decide)]) (by rw [ct, if_neg (by decide)]) (by omega) ?_ ?_
    · rw [e5, e4, e3, e2, e1, e0]; show g_cn u + 1 + 1 + 1 + 1 + 1 ≤ _; omega
    · rw [e5, e4, e3, e2, e1, e0]; show g_sn u + 12 + 4 + 4 + 3 + 6 ≤ _; omega
  · rw [e5]
    show g_R s4 k S = _
    rw [e4, x_R_R]
    show (if _ then _ else g_R (g_mk s3 28 6 6) k S) = _
    rw [x_R_mk, n3, if_neg (show S ≠ Cn by omega), e3, x_R_R]
    show (if _ then _ else if _ then _ else g_R (g_mk s2 27 3 3) k S) = _
    rw [x_R_mk, n2, if_neg (show S ≠ Sr by omega), e2, x_R_R]
    show (if _ then _ else if _ then _ else if _ then _ else g_R (g_mk s1 23 4 4) k S) = _
    rw [x_R_mk, n1, if_neg (show S ≠ G by omega), e1, x_R_R]
    show (if _ then _ else if _ then _ else if _ then _ else if _ then _ else g_R (g_mk s0 26 4 4) k S) = _
    rw [x_R_mk, n0, if_neg (show S ≠ I by omega), e0, x_R_mk, if_pos hS]
    by_cases y1 : k = 520
    · rw [if_pos ⟨y1, rfl⟩, if_pos y1]
    · rw [if_neg (fun q => y1 q.1), if_neg y1]
      by_cases y2 : k = 392
      · rw [if_pos ⟨y2, rfl⟩, if_pos y2]
      · rw [if_neg (fun q => y2 q.1), if_neg y2]
        by_cases y3 : k = 200
        · rw [if_pos ⟨y3, rfl⟩, if_pos y3]
        · rw [if_neg (fun q => y3 q.1), if_neg y3]
          by_cases y4 : k = 136
          · rw [if_pos ⟨y4, rfl⟩, if_pos y4]
          · rw [if_neg (fun q => y4 q.1), if_neg y4]
  · have i4 : g_I s4 k S = 0 := by
      rw [e4]
      show g_I (g_mk s3 28 6 6) k S = 0
      rw [x_I_mk, n3, if_neg (show S ≠ Cn by omega), e3]
      show g_I (g_mk s2 27 3 3) k S = 0
      rw [x_I_mk, n2, if_neg (show S ≠ Sr by omega), e2]
      show g_I (g_mk s1 23 4 4) k S = 0
      rw [x_I_mk, n1, if_neg (show S ≠ G by omega), e1]
      show g_I (g_mk s0 26 4 4) k S = 0
      rw [x_I_mk, n0, if_neg (show S ≠ I by omega), e0, x_I_mk, if_pos hS]
    rw [e5, x_I_I, x_I_I, i4]
    by_cases y1 : k = 72
    · rw [if_pos ⟨y1, rfl⟩, if_pos y1]
    · rw [if_neg (fun q => y1 q.1), if_neg y1]
      by_cases y2 : k = 8
      · rw [if_pos ⟨y2, rfl⟩, if_pos y2]
      · rw [if_neg (fun q => y2 q.1), if_neg y2]
  · rw [e5, e4]
    show g_ln (g_mk s3 28 6 6) I = 4
    rw [x_ln_mk, n3, if_neg (show I ≠ Cn by omega), e3]
    show g_ln (g_mk s2 27 3 3) I = 4
    rw [x_ln_mk, n2, if_neg (show I ≠ Sr by omega), e2]
    show g_ln (g_mk s1 23 4 4) I = 4
    rw [x_ln_mk, n1, if_neg (show I ≠ G by omega), e1]
    show g_ln (g_mk s0 26 4 4) I = 4
    rw [x_ln_mk, n0, if_pos rfl]
  · rw [e5, e4]
    show g_ln (g_mk s3 28 6 6) G = 4
    rw [x_ln_mk, n3, if_neg (show G ≠ Cn by omega), e3]
    show g_ln (g_mk s2 27 3 3) G = 4
    rw [x_ln_mk, n2, if_neg (show G ≠ Sr by omega), e2]
    show g_ln (g_mk s1 23 4 4) G = 4
    rw [x_ln_mk, n1, if_pos rfl]
  · rw [e5, e4]
    show g_ln (g_mk s3 28 6 6) Sr = 3
    rw [x_ln_mk, n3, if_neg (show Sr ≠ Cn by omega), e3]
    show g_ln (g_mk s2 27 3 3) Sr = 3
    rw [x_ln_mk, n2, if_pos rfl]
  · rw [e5, e4]
    show g_ln (g_mk s3 28 6 6) Cn = 6
    rw [x_ln_mk, n3, if_pos rfl]
  · rw [e5, e4]
    show g_AR (g_mk s3 28 6 6) I m = none
    rw [x_AR_mk, n3, if_neg (show I ≠ Cn by omega), e3]
    show g_AR (g_mk s2 27 3 3) I m = none
    rw [x_AR_mk, n2, if_neg (show I ≠ Sr by omega), e2]
    show g_AR (g_mk s1 23 4 4) I m = none
    rw [x_AR_mk, n1, if_neg (show I ≠ G by omega), e1]
    show g_AR (g_mk s0 26 4 4) I m = none
    rw [x_AR_mk, n0, if_pos rfl]
  · rw [e5, e4]
    show g_AR (g_mk s3 28 6 6) G m = none
    rw [x_AR_mk, n3, if_neg (show G ≠ Cn by omega), e3]
    show g_AR (g_mk s2 27 3 3) G m = none
    rw [x_AR_mk, n2, if_neg (show G ≠ Sr by omega), e2]
    show g_AR (g_mk s1 23 4 4) G m = none
    rw [x_AR_mk, n1, if_pos rfl]
end
