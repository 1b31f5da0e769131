/-! THE ENGINE READS A SELECTION: its loops -/
def E_sa (c : z_Cx) (u : g_St) (S I G Sr Cn : Nat) : Prop := E_sS c u S I G ∧ (Sr % 64 = 27 ∧ Cn % 64 = 28) ∧ (E_nw c Sr ∧ E_nw c Cn) ∧ (g_al u Sr ∧ g_al u Cn) ∧ g_R u 392 S = some Sr ∧ g_R u 520 S = some Cn ∧ g_ln u Sr = 3 ∧ g_ln u Cn = 6
def E_sf (S I G Sr Cn : Nat) (u0 s : g_St) : Prop := E_kp [S, I, G, Sr, Cn] u0 s ∧ E_ct [9, 10, 11, 28] u0 s ∧ g_R s 514 2 = some S ∧ g_R s 578 2 = none ∧ (∀ k, g_R s k S = g_R u0 k S) ∧ (∀ k, k ≠ 264 → k ≠ 328 → k ≠ 712 → k ≠ 456 → k ≠ 584 → g_I s k S = g_I u0 k S) ∧ (g_ln s I = g_ln u0 I ∧ g_ln s G = g_ln u0 G ∧ g_ln s Sr = g_ln u0 Sr ∧ g_ln s Cn = g_ln u0 Cn)
def E_st (pl : Nat → Nat) (wd : Nat → Int64) (S I G Sr Cn : Nat) (u0 s : g_St) (its : List z_It) (srs : List Nat) (cns : List z_Co) : Prop := E_s1 s S its srs cns ∧ (g_cnt s 11 = g_cnt u0 11 + z_nti its + z_ntc cns ∧ g_cnt s 9 = g_cnt u0 9 + srs.length + z_nsc cns ∧ g_cnt s 10 = g_cnt u0 10 + z_ncc cns) ∧ E_its pl wd s I G (g_cnt u0 11) (some S) its ∧ E_srs pl wd s Sr (g_cnt u0 9) (some S) srs ∧ E_cns pl wd s Cn (g_cnt u0 10) (g_cnt u0 11 + z_nti its) (g_cnt u0 9 + srs.length) (g_cnt u0 28) (some S) cns ∧ ∀ m, its.length ≤ m → g_AR s I m = none ∧ g_AR s G m = none
theorem E_co.b {pl : Nat → Nat} {wd : Nat → Int64} {u : g_St} {k i j b b' : Nat} {sel : Option Nat} {x : z_Co} (h : E_co pl wd u k i j b sel x) (l : b' ≤ b) : E_co pl wd u k i j b' sel x := by
  obtain ⟨h1, h2, h3⟩ := h
  refine ⟨h1, h2, ?_⟩
  cases x with
  | inl y => exact h3
  | inr y =>
    obtain ⟨a1, a2, a3, a4, ⟨a, b1, b2⟩, a6⟩ := h3
    exact ⟨a1, a2, a3, a4, ⟨a, Nat.le_trans l b1, b2⟩, a6⟩
section
variable {n : Nat} {kd pl : Nat → Nat} {wd vl : Nat → Int64} {c : z_Cx} {S I G Sr Cn : Nat} {u0 : g_St}
theorem E_sa.of {s : g_St} (h : E_sa c u0 S I G Sr Cn) (f : E_sf S I G Sr Cn u0 s) : E_sa c s S I G Sr Cn := by
  obtain ⟨a1, a2, a3, a4, a5, a6, a7, a8⟩ := h
  obtain ⟨f1, f2, f3, f4, f5, f6, f7, f8, f9, f10⟩ := f
  exact ⟨a1.of f1.1 f5 f7 f8, a2, a3, ⟨E_alm f1.1 a4.1, E_alm f1.1 a4.2⟩, by rw [f5]; exact a5, by rw [f5]; exact a6, by rw [f9]; exact a7, by rw [f10]; exact a8⟩
/-- an object of the selection is kept by what keeps all -/
theorem E_sa.sm {s t : g_St} (h : E_sa c s S I G Sr Cn) {X : List Nat} (k : E_kp X s t) : (S ∉ X → E_sm s t S) ∧ (I ∉ X → E_sm s t I) ∧ (G ∉ X → E_sm s t G) ∧ (Sr ∉ X → E_sm s t Sr) ∧ (Cn ∉ X → E_sm s t Cn) := by
  obtain ⟨⟨b1, b2, b3, -, ⟨b4, b5, b6⟩, -⟩, ⟨a1, a2⟩, -, ⟨a3, a4⟩, -⟩ := h
  exact ⟨k.at b4 (by rw [b1]; decide), k.at b5 (by rw [b2]; decide), k.at b6 (by rw [b3]; decide), k.at a3 (by rw [a1]; decide), k.at a4 (by rw [a2]; decide)⟩
theorem E_sa.ne2 {s : g_St} (h : E_sa c s S I G Sr Cn) : S ≠ 2 ∧ I ≠ 2 ∧ G ≠ 2 ∧ Sr ≠ 2 ∧ Cn ≠ 2 := ⟨h.1.2.2.2.1.1.ne2, h.1.2.2.2.1.2.1.ne2, h.1.2.2.2.1.2.2.ne2, h.2.2.1.1.ne2, h.2.2.1.2.ne2⟩
/-- a step that keeps the selection -/
theorem E_sf.step {s t : g_St} (h : E_sa c u0 S I G Sr Cn) (f : E_sf S I G Sr Cn u0 s) (k : E_kp [] s t) (ct : E_ct [9, 10, 11, 28] s t) (r1 : g_R t 514 2 = g_R s 514 2) (r2 : g_R t 578 2 = none) : E_sf S I G Sr Cn u0 t := by
  obtain ⟨s1, s2, s3, s4, s5⟩ := (h.of f).sm k
  have s1 := s1 (by simp)
  have s2 := s2 (by simp)
  have s3 := s3 (by simp)
  have s4 := s4 (by simp)
  have s5 := s5 (by simp)
  obtain ⟨f1, f2, f3, f4, f5, f6, f7, f8, f9, f10⟩ := f
  exact ⟨f1.trans k (fun a ha => by cases ha), f2.trans ct (fun t ht => ht), r1.trans f3, r2, fun k => by rw [(s1.1 k).2.2]; exact f5 k, fun k a b c d e => by rw [(s1.1 k).1]; exact f6 k a b c d e, by rw [s2.2.2.2.2]; exact f7, by rw [s3.2.2.2.2]; exact f8, by rw [s4.2.2.2.2]; exact f9, by rw [s5.2.2.2.2]; exact f10⟩
theorem E_sf.as {s t : g_St} (h : E_sa c u0 S I G Sr Cn) (f : E_sf S I G Sr Cn u0 s) (g : E_as s t) : E_sf S I G Sr Cn u0 t := f.step h (g.kp []) (E_ct.as g) (by rw [g.2.2.2.2.1]) (by rw [g.2.2.2.2.1]; exact f.2.2.2.1)
theorem E_st.as {s t : g_St} {its : List z_It} {srs : List Nat} {cns : List z_Co} (h : E_sa c u0 S I G Sr Cn) (e : E_st pl wd S I G Sr Cn u0 s its srs cns) (g : E_as s t) : E_st pl wd S I G Sr Cn u0 t its srs cns := by
  obtain ⟨e1, ⟨e2, e3, e4⟩, e5, e6, e7, e8⟩ := e
  have ar := g.2.2.2.2.2.2.2.1
  exact ⟨e1.of (fun k => ((g.sm h.ne2.1).1 k).1), ⟨by rw [g.1]; exact e2, by rw [g.1]; exact e3, by rw [g.1]; exact e4⟩, e5.kp (g.kp []) (fun a ha => by cases ha) (by rw [ar]) (by rw [ar]), e6.kp (g.kp []) (fun a ha => by cases ha) (by rw [ar]), e7.kp (g.kp []) (fun a ha => by cases ha) (by rw [ar]), fun m hm => by rw [ar]; exact e8 m hm⟩
def E_J' (n : Nat) (kd pl : Nat → Nat) (wd : Nat → Int64) (c : z_Cx) (S I G Sr Cn : Nat) (u0 : g_St) (p0 d p : Nat) (its : List z_It) (srs : List Nat) (cns : List z_Co) (s : g_St) : Prop := E_b n kd pl wd c s (.inr p) (3 * p + d) ∧ E_sf S I G Sr Cn u0 s ∧ p0 ≤ p ∧ E_st pl wd S I G Sr Cn u0 s its srs cns
def E_J (n : Nat) (kd pl : Nat → Nat) (wd : Nat → Int64) (c : z_Cx) (S I G Sr Cn : Nat) (u0 : g_St) (p0 d e : Nat) (r : z_P) (its : List z_It) (srs : List Nat) (cns : List z_Co) (s : g_St) : Prop := E_b n kd pl wd c s r (3 * z_pk r + d + z_sl r e) ∧ E_sf S I G Sr Cn u0 s ∧ p0 ≤ z_pk r ∧ ∀ q, r = .inr q → E_st pl wd S I G Sr Cn u0 s its srs cns
theorem E_J.ac (Z : E_cx c) (H : z_H n kd) (hA : E_sa c u0 S I G Sr Cn) {p0 d e k : Nat} (hk : k < 38) {r : z_P} {its : List z_It} {srs : List Nat} {cns : List z_Co} {s : g_St} (h : E_J n kd pl wd c S I G Sr Cn u0 p0 d e r its srs cns s) : ∃ t, f_Re_accept (some 2) (some (k * 64 + 13)) s = some (z_g (z_skr kd k r).1, t) ∧ ((z_skr kd k r).1 = false → E_J n kd pl wd c S I G Sr Cn u0 p0 d e r its srs cns t) ∧ ∀ q, r = .inr q → kd q = k → E_J' n kd pl wd c S I G Sr Cn u0 p0 d (q + 1) its srs cns t := by
  obtain ⟨b1, b2, b3, b4⟩ := h
  obtain ⟨t, x1, x2, x3⟩ := a_ac Z H b1 hk
  refine ⟨t, x1, fun w => ?_, fun q e1 e2 => ?_⟩
  · rw [z_skr_false w] at x2
    exact ⟨x2, b2.as hA x3, b3, fun q e => (b4 q e).as hA x3⟩
  · rw [e1] at x2 b3
    rw [z_skr_t e2] at x2
    have b3' : p0 ≤ q := b3
    exact ⟨x2.mono (by show 3 * q + d + 0 ≤ 3 * (q + 1) + d; omega), b2.as hA x3, by omega, (b4 q e1).as hA x3⟩
theorem z_nti_a (l : List z_It) (x : z_It) : z_nti (l ++ [x]) = z_nti l + x.2.length := z_sum_a _ l x
theorem z_gc_a (l : List z_It) (x : z_It) : z_gc (l ++ [x]) = z_gc l + if x.1 = 0 then 0 else 1 := z_sum_a _ l x
/-- an item of the selection, stuck or not -/
theorem a_its1 (Z : E_cx c) (H : z_H n kd) (hwd : ∀ i, i < n → kd i = 36 → wd i ≠ 0) (hA : E_sa c u0 S I G Sr Cn) {d p0 : Nat} {r : z_P} {l : List z_It} {u : g_St} (hd : d ≤ 39) (hl : l.length ≤ 3) (hb : E_b n kd pl wd c u r (3 * z_pk r + d)) (hf : E_sf S I G Sr Cn u0 u) (hp : p0 ≤ z_pk r) (hs : E_st pl wd S I G Sr Cn u0 u l [] []) : ∃ s, f_Re_item (some 2) u = some ((), s) ∧ E_b n kd pl wd c s (z_itp kd r) (3 * z_pk (z_itp kd r) + d + z_sl (z_itp kd r) 6) ∧ E_sf S I G Sr Cn u0 s ∧ p0 ≤ z_pk (z_itp kd r) ∧ ∀ p q, r = .inr p → z_itp kd r = .inr q → E_st pl wd S I G Sr Cn u0 s (l ++ [(z_itr kd p).1]) [] [] := by
  have hAu := hA.of hf
  obtain ⟨f1, f2, f3, f4, f5, f6, f7⟩ := hf
  obtain ⟨⟨e1, e2, e3, e4, e5⟩, ⟨c1, c2, c3⟩, g1, g2, g3, g4⟩ := hs
  obtain ⟨s, a1, a2, a3, a4, a5, a6⟩ := a_it Z H hwd hb hd hAu.1 f3 f4 (by omega) e1 (g4 _ (Nat.le_refl _)).1 (g4 _ (Nat.le_refl _)).2 e3
  obtain ⟨k1, k2, k3, k4, k5, k6, k7, k8⟩ := a3
  have mS := hAu.1.1
  have mI := hAu.1.2.1
  have mG := hAu.1.2.2.1
  have mSr := hAu.2.1.1
  have mCn := hAu.2.1.2
  obtain ⟨-, -, -, sSr, sCn⟩ := hAu.sm k1
  have nSr : Sr ∉ [S, I, G] := by simp only [List.mem_cons, List.not_mem_nil, or_false]; omega
  have nCn : Cn ∉ [S, I, G] := by simp only [List.mem_cons, List.not_mem_nil, or_false]; omega
  have sSr := sSr nSr
  have sCn := sCn nCn
  have X11 : ∀ a ∈ [S, I, G], a % 64 ≠ 11 := fun a ha => by simp only [List.mem_cons, List.not_mem_nil, or_false] at ha; omega
  refine ⟨s, a1, a2, ⟨f1.trans k1 (fun a ha => Or.inl ?_), f2.trans k2 (by decide), k3.trans f3, k4.trans f4, fun k => (k5 k).trans (f5 k), fun k x1 x2 x3 x4 x5 => (k6 k x1 x2 x3).trans (f6 k x1 x2 x3 x4 x5), k7.1.trans f7.1, k7.2.trans f7.2.1, by rw [sSr.2.2.2.2]; exact f7.2.2.1, by rw [sCn.2.2.2.2]; exact f7.2.2.2⟩, Nat.le_trans hp a4, fun p q y1 y2 => ?_⟩
  · simp only [List.mem_cons, List.not_mem_nil, or_false] at ha ⊢
    omega
  · obtain ⟨x1, x2, x3, x4⟩ := a6 p q y1 y2
    have ln : (l ++ [(z_itr kd p).1]).length = l.length + 1 := by rw [List.length_append, List.length_singleton]
    have c1' : g_cnt u 11 = g_cnt u0 11 + z_nti l := c1
    refine ⟨⟨by rw [ln]; exact a5, ?_, by rw [x4, z_rk_a], by rw [k6 456 (by decide) (by decide) (by decide)]; exact e4, by rw [k6 584 (by decide) (by decide) (by decide)]; exact e5⟩, ⟨by rw [x1, z_nti_a, c1']; show _ = g_cnt u0 11 + (z_nti l + _) + 0; omega, by rw [k2 9 (by decide) (by decide)]; exact c2, by rw [k2 10 (by decide) (by decide)]; exact c3⟩, fun m hm => ?_, (fun m hm => by cases hm), (fun m hm => by cases hm), fun m hm => ?_⟩
    · rw [x3, e2, z_gc_a]
      by_cases y : (z_itr kd p).1.1 = 0
      · rw [if_pos y, if_pos y]; rfl
      · rw [if_neg y, if_neg y, x_p1]
    · rw [ln] at hm
      by_cases w : m < l.length
      · rw [z_getD_l w, List.take_append_of_le_length (by omega)]
        exact (g1 m w).of k1 X11 (k8 m (by omega)).1 (k8 m (by omega)).2
      · have em : m = l.length := by omega
        rw [em, z_getD_e, List.take_append_of_le_length (by omega), List.take_length, ← c1']
        exact x2
    · rw [ln] at hm
      rw [(k8 m (by omega)).1, (k8 m (by omega)).2]
      exact g4 m (by omega)
/-- the items -/
theorem a_itl (Z : E_cx c) (H : z_H n kd) (hwd : ∀ i, i < n → kd i = 36 → wd i ≠ 0) (hA : E_sa c u0 S I G Sr Cn) {d p0 : Nat} (hd : d ≤ 39) {p : Nat} (h : E_J' n kd pl wd c S I G Sr Cn u0 p0 d p [] [] [] u0) : ∃ u', f_Re_selection_40 200000 (some 2) (some S) 1 0 u0 = f_Re_selection_84 (some 2) (some S) u' ∧ E_J n kd pl wd c S I G Sr Cn u0 p0 d 6 (z_lst kd 25 (z_itr kd) 3 p).2 (z_lst kd 25 (z_itr kd) 3 p).1 [] [] u' ∧ (z_lst kd 25 (z_itr kd) 3 p).1.length ≤ 4 := by
  have key := a_loop (kd := kd) (fun f x i s => f_Re_selection_40 f (some 2) (some S) x (Int32.ofNat i) s) (f_Re_selection_84 (some 2) (some S)) (f_Re_accept (some 2) (some 1613)) 25 (z_itr kd) 3 (fun p l s => E_J' n kd pl wd c S I G Sr Cn u0 p0 d p l [] [] s) (fun r l s => E_J n kd pl wd c S I G Sr Cn u0 p0 d 6 r l [] [] s)
    (fun f i s => ?_) (fun r l s hJ => E_J.ac (k := 25) Z H hA (by decide) hJ) (fun p l u f hl hJ => ?_) 3 p [] u0 200000 rfl (by omega) h
  · obtain ⟨u', b1, b2, b3⟩ := key
    exact ⟨u', b1, b2, b3⟩
  · show f_Re_selection_40 (f + 1) (some 2) (some S) 0 (Int32.ofNat i) s = _
    rw [f_Re_selection_40]
    by_cases w : 4 ≤ Int32.ofNat i
    · rw [if_pos w]
    · rw [if_neg w, if_pos rfl]
  · obtain ⟨b1, b2, b3, b4⟩ := hJ
    obtain ⟨s, a1, a2, a3, a4, a5⟩ := a_its1 Z H hwd hA hd hl (r := .inr p) b1 b2 b3 b4
    refine ⟨s, ?_, a2, a3, a4, fun q hq => a5 p q rfl hq⟩
    show f_Re_selection_40 (f + 1) (some 2) (some S) 1 (Int32.ofNat l.length) u = _
    rw [f_Re_selection_40, if_neg (show ¬ (4 : Int32) ≤ Int32.ofNat l.length from by rw [show (4 : Int32) = Int32.ofNat 4 from rfl, x_le (by omega) (by omega)]; omega), if_neg (by decide), x_nn, a1, x_c, x_p1]
    have e4 : (4 ≤ Int32.ofNat (l.length + 1)) = (4 ≤ l.length + 1) := x_le (a := 4) (by decide) (by omega)
    by_cases w : 3 ≤ l.length
    · rw [if_pos w, if_pos (by rw [e4]; omega)]
    · rw [if_neg w, if_neg (by rw [e4]; omega), x_nn]
/-- the sources -/
theorem a_srl (Z : E_cx c) (H : z_H n kd) (hwd : ∀ i, i < n → kd i = 36 → wd i ≠ 0) (hA : E_sa c u0 S I G Sr Cn) {d p0 : Nat} (hd : d ≤ 39) {p : Nat} {its : List z_It} {u1 : g_St} (h : E_J' n kd pl wd c S I G Sr Cn u0 p0 d p its [] [] u1) : ∃ u', f_Re_selection_95 200000 (some 2) (some S) 1 0 u1 = f_Re_selection_156 (some 2) (some S) u' ∧ E_J n kd pl wd c S I G Sr Cn u0 p0 d 6 (z_lst kd 25 (z_sos kd) 2 p).2 its (z_lst kd 25 (z_sos kd) 2 p).1 [] u' ∧ (z_lst kd 25 (z_sos kd) 2 p).1.length ≤ 3 := by
  have key := a_loop (kd := kd) (fun f x i s => f_Re_selection_95 f (some 2) (some S) x (Int32.ofNat i) s) (f_Re_selection_156 (some 2) (some S)) (f_Re_accept (some 2) (some 1613)) 25 (z_sos kd) 2 (fun p l s => E_J' n kd pl wd c S I G Sr Cn u0 p0 d p its l [] s) (fun r l s => E_J n kd pl wd c S I G Sr Cn u0 p0 d 6 r its l [] s)
    (fun f i s => ?_) (fun r l s hJ => E_J.ac (k := 25) Z H hA (by decide) hJ) (fun p l u f hl hJ => ?_) 2 p [] u1 200000 rfl (by omega) h
  · obtain ⟨u', b1, b2, b3⟩ := key
    exact ⟨u', b1, b2, b3⟩
  · show f_Re_selection_95 (f + 1) (some 2) (some S) 0 (Int32.ofNat i) s = _
    rw [f_Re_selection_95]
    by_cases w : 3 ≤ Int32.ofNat i
    · rw [if_pos w]
    · rw [if_neg w, if_pos rfl]
  · obtain ⟨b1, b2, b3, ⟨e1, e2, e3, e4, e5⟩, ⟨c1, c2, c3⟩, g1, g2, g3, g4⟩ := hJ
    have hAu := hA.of b2
    obtain ⟨s3, a1, a2, a3, a4, a5, a6, a7, a8, a9⟩ := a_so Z H hwd (r := .inr p) b1 (by omega) (Int32.ofNat l.length)
    have f3 : E_sf S I G Sr Cn u0 s3 := b2.step hA a3 (fun t x y => a4 t (fun q => x (by rw [List.mem_singleton.mp q]; decide)) y) a6 (by rw [a7]; exact b2.2.2.2.1)
    have hA3 := hA.of f3
    obtain ⟨s5, e5'⟩ : ∃ s5, s5 = g_setI (g_setAR s3 Sr l.length (some (g_cnt u 9 * 64 + 9))) 456 S (Int32.ofNat (l.length + 1)) := ⟨_, rfl⟩
    obtain ⟨nS, nI, nG, nSr, nCn⟩ := hAu.ne2
    have mS := hAu.1.1
    have mI := hAu.1.2.1
    have mG := hAu.1.2.2.1
    have mSr := hAu.2.1.1
    have mCn := hAu.2.1.2
    have K5 : E_kp [S, Sr] u s5 := by rw [e5']; exact ((a3.mono (fun a ha => by cases ha)).sR ⟨nSr, Or.inl (by simp)⟩ _ _).pI ⟨nS, Or.inl (by simp)⟩ _ _
    obtain ⟨sS, sI, sG, sSr, sCn⟩ := hAu.sm a3
    have sS := sS (by simp)
    have sI := sI (by simp)
    have sG := sG (by simp)
    have sSr := sSr (by simp)
    have sCn := sCn (by simp)
    have AR5 : ∀ a m, ¬ (a = Sr ∧ m = l.length) → g_AR s5 a m = g_AR s3 a m := fun a m q => by
      rw [e5']
      show g_AR (g_setAR s3 Sr l.length (some (g_cnt u 9 * 64 + 9))) a m = _
      rw [x_AR_AR, if_neg q]
    have I5 : ∀ k, k ≠ 456 → g_I s5 k S = g_I u k S := fun k hk => by
      rw [e5', x_I_I, if_neg (fun q => hk q.1)]
      exact (sS.1 k).1
    have ct5 : g_cnt s5 = g_cnt s3 := by rw [e5']; rfl
    have R5 : g_R s5 = g_R s3 := by rw [e5']; rfl
    have ln5 : g_ln s5 = g_ln s3 := by rw [e5']; rfl
    obtain ⟨h1, h2, h3, h4, h5, h6, h7⟩ := f3
    have XX : ∀ a ∈ [S, Sr], a % 64 ≠ 9 ∧ a % 64 ≠ 10 ∧ a % 64 ≠ 11 ∧ a % 64 ≠ 28 := fun a ha => by simp only [List.mem_cons, List.not_mem_nil, or_false] at ha; omega
    refine ⟨s5, ?_, by rw [e5']; exact (a2.sR Z hAu.2.2.1.1 _ _).pI Z hAu.1.2.2.2.1.1 _ _, ⟨?_, ?_, by rw [R5]; exact h3, by rw [R5]; exact h4, by rw [R5]; exact h5, ?_, by rw [ln5]; exact h7⟩, Nat.le_trans b3 a8, fun q hq => ?_⟩
    · show f_Re_selection_95 (f + 1) (some 2) (some S) 1 (Int32.ofNat l.length) u = _
      rw [f_Re_selection_95, if_neg (show ¬ (3 : Int32) ≤ Int32.ofNat l.length from by rw [show (3 : Int32) = Int32.ofNat 3 from rfl, x_le (by omega) (by omega)]; omega), if_neg (by decide), x_gR, hAu.2.2.2.2.1, x_nn, a1, x_c, x_sR (by omega) (by rw [hA3.2.2.2.2.2.2.1]; omega), x_p1, x_pI, ← e5']
      have e4 : (3 ≤ Int32.ofNat (l.length + 1)) = (3 ≤ l.length + 1) := x_le (a := 3) (by decide) (by omega)
      by_cases w : 2 ≤ l.length
      · rw [if_pos w, if_pos (by rw [e4]; omega)]
      · rw [if_neg w, if_neg (by rw [e4]; omega), x_nn]
    · exact b2.1.trans K5 (fun a ha => Or.inl (by simp only [List.mem_cons, List.not_mem_nil, or_false] at ha ⊢; omega))
    · intro t x y
      rw [ct5]
      exact h2 t x y
    · intro k x1 x2 x3 x4 x5
      rw [I5 k x4]
      exact b2.2.2.2.2.2.1 k x1 x2 x3 x4 x5
    · obtain ⟨z1, z2⟩ := a9 p q rfl hq
      have c2' : g_cnt u 9 = g_cnt u0 9 + l.length := c2
      have ln : (l ++ [(z_sos kd p).1]).length = l.length + 1 := by rw [List.length_append, List.length_singleton]
      have arI : g_AR s5 I = g_AR u I := funext fun m => by rw [AR5 I m (fun q => by have := q.1; omega), sI.2.2.2.1]
      have arG : g_AR s5 G = g_AR u G := funext fun m => by rw [AR5 G m (fun q => by have := q.1; omega), sG.2.2.2.1]
      refine ⟨⟨by rw [I5 _ (by decide)]; exact e1, by rw [I5 _ (by decide)]; exact e2, by rw [I5 _ (by decide)]; exact e3, ?_, by rw [I5 _ (by decide)]; exact e5⟩, ⟨by rw [ct5, a4 11 (by decide) (by decide)]; exact c1, by rw [ct5, a5, ln, c2']; show _ = g_cnt u0 9 + (l.length + 1) + 0; omega, by rw [ct5, a4 10 (by decide) (by decide)]; exact c3⟩, g1.kp K5 (fun a ha => (XX a ha).2.2.1) arI arG, fun m hm => ?_, (fun m hm => by cases hm), fun m hm => by rw [arI, arG]; exact g4 m hm⟩
      · rw [ln, e5', x_I_I, if_pos ⟨rfl, rfl⟩]
      · rw [ln] at hm
        by_cases w : m < l.length
        · obtain ⟨y1, y2, y3⟩ := g2 m w
          rw [z_getD_l w, AR5 Sr m (fun q => by have := q.2; omega), sSr.2.2.2.1]
          exact ⟨y1, Nat.lt_of_lt_of_le y2 (K5.1 9), y3.kp y2 K5 (fun a ha => (XX a ha).1)⟩
        · have em : m = l.length := by omega
          rw [em, z_getD_e]
          have av : g_AR s5 Sr l.length = some (g_cnt u 9 * 64 + 9) := by
            rw [e5']
            show g_AR (g_setAR s3 Sr l.length (some (g_cnt u 9 * 64 + 9))) Sr l.length = _
            rw [x_AR_AR, if_pos ⟨rfl, rfl⟩]
          rw [← c2']
          refine ⟨av, by rw [ct5, a5]; omega, ?_⟩
          have z2' : E_so pl wd s3 (g_cnt u 9) (some S) (Int32.ofNat l.length) p := by rw [← b2.2.2.1]; exact z2
          refine z2'.sm ?_
          rw [e5']
          exact (E_sm.re.sR _ _ (by omega)).pI _ _ (by omega)
/-- the conditions -/
theorem a_cnl (Z : E_cx c) (H : z_H n kd) (hwd : ∀ i, i < n → kd i = 36 → wd i ≠ 0) (hvl : ∀ i, i < n → kd i = 37 → wd i = vl i) (hA : E_sa c u0 S I G Sr Cn) {d p0 : Nat} (hd : d ≤ 32) {p : Nat} {its : List z_It} {srs : List Nat} {u1 : g_St} (h : E_J' n kd pl wd c S I G Sr Cn u0 p0 d p its srs [] u1) : ∃ u', f_Re_selection_167 200000 (some 2) (some S) 1 0 u1 = some (some S, u') ∧ E_J n kd pl wd c S I G Sr Cn u0 p0 d 7 (z_lst kd 6 (z_con kd vl) 5 p).2 its srs (z_lst kd 6 (z_con kd vl) 5 p).1 u' ∧ (z_lst kd 6 (z_con kd vl) 5 p).1.length ≤ 6 := by
  have key := a_loop (kd := kd) (fun f x i s => f_Re_selection_167 f (some 2) (some S) x (Int32.ofNat i) s) (fun s => some (some S, s)) (f_Re_accept (some 2) (some 397)) 6 (z_con kd vl) 5 (fun p l s => E_J' n kd pl wd c S I G Sr Cn u0 p0 d p its srs l s) (fun r l s => E_J n kd pl wd c S I G Sr Cn u0 p0 d 7 r its srs l s)
    (fun f i s => ?_) (fun r l s hJ => E_J.ac (k := 6) Z H hA (by decide) hJ) (fun p l u f hl hJ => ?_) 5 p [] u1 200000 rfl (by omega) h
  · obtain ⟨u', b1, b2, b3⟩ := key
    exact ⟨u', b1, b2, b3⟩
  · show f_Re_selection_167 (f + 1) (some 2) (some S) 0 (Int32.ofNat i) s = _
    rw [f_Re_selection_167]
    by_cases w : 6 ≤ Int32.ofNat i
    · rw [if_pos w]
    · rw [if_neg w, if_pos rfl]
  · obtain ⟨b1, b2, b3, ⟨e1, e2, e3, e4, e5⟩, ⟨c1, c2, c3⟩, g1, g2, g3, g4⟩ := hJ
    have hAu := hA.of b2
    obtain ⟨s3, a1, a2, a3, a4, a5, a6, a7, a8⟩ := a_con (vl := vl) Z H hwd hvl b1 hd
    have f3 : E_sf S I G Sr Cn u0 s3 := b2.step hA a3 a4 a5 a6
    have hA3 := hA.of f3
    obtain ⟨s5, e5'⟩ : ∃ s5, s5 = g_setI (g_setAR s3 Cn l.length (some (g_cnt u 10 * 64 + 10))) 584 S (Int32.ofNat (l.length + 1)) := ⟨_, rfl⟩
    obtain ⟨nS, nI, nG, nSr, nCn⟩ := hAu.ne2
    have mS := hAu.1.1
    have mI := hAu.1.2.1
    have mG := hAu.1.2.2.1
    have mSr := hAu.2.1.1
    have mCn := hAu.2.1.2
    have K5 : E_kp [S, Cn] u s5 := by rw [e5']; exact ((a3.mono (fun a ha => by cases ha)).sR ⟨nCn, Or.inl (by simp)⟩ _ _).pI ⟨nS, Or.inl (by simp)⟩ _ _
    obtain ⟨sS, sI, sG, sSr, sCn⟩ := hAu.sm a3
    have sS := sS (by simp)
    have sI := sI (by simp)
    have sG := sG (by simp)
    have sSr := sSr (by simp)
    have sCn := sCn (by simp)
    have AR5 : ∀ a m, ¬ (a = Cn ∧ m = l.length) → g_AR s5 a m = g_AR s3 a m := fun a m q => by
      rw [e5']
      show g_AR (g_setAR s3 Cn l.length (some (g_cnt u 10 * 64 + 10))) a m = _
      rw [x_AR_AR, if_neg q]
    have I5 : ∀ k, k ≠ 584 → g_I s5 k S = g_I u k S := fun k hk => by
      rw [e5', x_I_I, if_neg (fun q => hk q.1)]
      exact (sS.1 k).1
    have ct5 : g_cnt s5 = g_cnt s3 := by rw [e5']; rfl
    have R5 : g_R s5 = g_R s3 := by rw [e5']; rfl
    have ln5 : g_ln s5 = g_ln s3 := by rw [e5']; rfl
    have cn28 : Cn / 64 < g_cnt u0 28 := by
      have := hA.2.2.2.1.2
      unfold g_al at this
      rw [hA.2.1.2] at this
      exact this
    obtain ⟨h1, h2, h3, h4, h5, h6, h7⟩ := f3
    have XX : ∀ a ∈ [S, Cn], a % 64 ≠ 9 ∧ a % 64 ≠ 10 ∧ a % 64 ≠ 11 ∧ (a % 64 = 28 → a / 64 < g_cnt u0 28) := fun a ha => by
      simp only [List.mem_cons, List.not_mem_nil, or_false] at ha
      rcases ha with e | e
      · rw [e]; omega
      · rw [e]; omega
    refine ⟨s5, ?_, by rw [e5']; exact (a2.sR Z hAu.2.2.1.2 _ _).pI Z hAu.1.2.2.2.1.1 _ _, ⟨?_, ?_, by rw [R5]; exact h3, by rw [R5]; exact h4, by rw [R5]; exact h5, ?_, by rw [ln5]; exact h7⟩, Nat.le_trans b3 a7, fun q hq => ?_⟩
    · show f_Re_selection_167 (f + 1) (some 2) (some S) 1 (Int32.ofNat l.length) u = _
      rw [f_Re_selection_167, if_neg (show ¬ (6 : Int32) ≤ Int32.ofNat l.length from by rw [show (6 : Int32) = Int32.ofNat 6 from rfl, x_le (by omega) (by omega)]; omega), if_neg (by decide), x_gR, hAu.2.2.2.2.2.1, x_nn, a1, x_c, x_sR (by omega) (by rw [hA3.2.2.2.2.2.2.2]; omega), x_p1, x_pI, ← e5']
      have e4 : (6 ≤ Int32.ofNat (l.length + 1)) = (6 ≤ l.length + 1) := x_le (a := 6) (by decide) (by omega)
      by_cases w : 5 ≤ l.length
      · rw [if_pos w, if_pos (by rw [e4]; omega)]
      · rw [if_neg w, if_neg (by rw [e4]; omega), x_nn]
    · exact b2.1.trans K5 (fun a ha => Or.inl (by simp only [List.mem_cons, List.not_mem_nil, or_false] at ha ⊢; omega))
    · intro t x y
      rw [ct5]
      exact h2 t x y
    · intro k x1 x2 x3 x4 x5
      rw [I5 k x5]
      exact b2.2.2.2.2.2.1 k x1 x2 x3 x4 x5
    · obtain ⟨z1, z2, z3, z4⟩ := a8 q hq
      have ln : (l ++ [(z_con kd vl p).1]).length = l.length + 1 := by rw [List.length_append, List.length_singleton]
      have arI : g_AR s5 I = g_AR u I := funext fun m => by rw [AR5 I m (fun q => by have := q.1; omega), sI.2.2.2.1]
      have arG : g_AR s5 G = g_AR u G := funext fun m => by rw [AR5 G m (fun q => by have := q.1; omega), sG.2.2.2.1]
      have arS : g_AR s5 Sr = g_AR u Sr := funext fun m => by rw [AR5 Sr m (fun q => by have := q.1; omega), sSr.2.2.2.1]
      have q1 : z_ntc (l ++ [(z_con kd vl p).1]) = z_ntc l + z_nto (z_con kd vl p).1 := z_sum_a _ _ _
      have q2 : z_ncc (l ++ [(z_con kd vl p).1]) = z_ncc l + z_nco (z_con kd vl p).1 := z_sum_a _ _ _
      have q3 : z_nsc (l ++ [(z_con kd vl p).1]) = z_nsc l + z_nso (z_con kd vl p).1 := z_sum_a _ _ _
      refine ⟨⟨by rw [I5 _ (by decide)]; exact e1, by rw [I5 _ (by decide)]; exact e2, by rw [I5 _ (by decide)]; exact e3, by rw [I5 _ (by decide)]; exact e4, ?_⟩, ⟨by rw [ct5, z2, q1, c1]; omega, by rw [ct5, z3, q3, c2]; omega, by rw [ct5, z1, q2, c3]; omega⟩, g1.kp K5 (fun a ha => (XX a ha).2.2.1) arI arG, g2.kp K5 (fun a ha => (XX a ha).1) arS, fun m hm => ?_, fun m hm => by rw [arI, arG]; exact g4 m hm⟩
      · rw [ln, e5', x_I_I, if_pos ⟨rfl, rfl⟩]
      · rw [ln] at hm
        by_cases w : m < l.length
        · obtain ⟨y1, y2⟩ := g3 m w
          rw [z_getD_l w, List.take_append_of_le_length (by omega), AR5 Cn m (fun q => by have := q.2; omega), sCn.2.2.2.1]
          exact ⟨y1, y2.kp K5 XX⟩
        · have em : m = l.length := by omega
          rw [em, z_getD_e, List.take_append_of_le_length (by omega), List.take_length]
          have av : g_AR s5 Cn l.length = some (g_cnt u 10 * 64 + 10) := by
            rw [e5']
            show g_AR (g_setAR s3 Cn l.length (some (g_cnt u 10 * 64 + 10))) Cn l.length = _
            rw [x_AR_AR, if_pos ⟨rfl, rfl⟩]
          rw [← c1, ← c2, ← c3]
          refine ⟨av, ?_⟩
          have z4' : E_co pl wd s3 (g_cnt u 10) (g_cnt u 11) (g_cnt u 9) (g_cnt u0 28) (some S) (z_con kd vl p).1 := by
            rw [b2.2.2.1] at z4
            exact z4.b (b2.1.1 28)
          have k35 : E_kp [S, Cn] s3 s5 := by rw [e5']; exact (E_kp.re.sR ⟨nCn, Or.inl (by simp)⟩ _ _).pI ⟨nS, Or.inl (by simp)⟩ _ _
          exact z4'.kp k35 XX
end
