/-! THE ENGINE READS WHAT STANDS IN NOT EXISTS -/
def z_nbs (l : List z_Bs) : Nat := (l.map z_nb).sum
def z_bs0 : z_Bs := ([], 0, [])
theorem z_nbs_a (l : List z_Bs) (b : z_Bs) : z_nbs (l ++ [b]) = z_nbs l + z_nb b := by
  unfold z_nbs
  rw [List.map_append, List.sum_append, List.map_singleton, List.sum_singleton]
theorem z_nbs_t (l : List z_Bs) (m : Nat) : z_nbs (l.take m) ≤ z_nbs l := by
  unfold z_nbs
  have e : (l.map z_nb).sum = ((l.take m).map z_nb).sum + ((l.drop m).map z_nb).sum := by rw [← List.sum_append, ← List.map_append, List.take_append_drop]
  omega
def E_cbs (pl : Nat → Nat) (wd : Nat → Int64) (u : g_St) (k i : Nat) (sel top : Option Nat) (l : List z_Bs) : Prop := ∀ m, m < l.length → E_cb pl wd u ((k + m) * 64 + 10) (i + z_nbs (l.take m)) sel top (l.getD m z_bs0)
theorem E_cbs.kp {pl : Nat → Nat} {wd : Nat → Int64} {u v : g_St} {k i : Nat} {sel top : Option Nat} {l : List z_Bs} (h : E_cbs pl wd u k i sel top l) (hc : k + l.length ≤ g_cnt u 10) {X : List Nat} (kp : E_kp X u v) (hX : ∀ a ∈ X, a % 64 ≠ 11 ∧ ∀ m, m < l.length → a ≠ (k + m) * 64 + 10) : E_cbs pl wd v k i sel top l := fun m hm => (h m hm).sm (kp.at (by rw [E_alc (by decide)]; omega) (by rw [(E_num (by decide)).2]; decide) (fun q => (hX _ q).2 m hm rfl)) kp (fun a ha => (hX a ha).1)
section
variable {n : Nat} {kd pl : Nat → Nat} {wd : Nat → Int64} {c : z_Cx}
theorem z_cil_l : ∀ (d p : Nat), z_cil kd d p = z_lst kd 6 (fun p => z_cor kd (.inr p)) d p := by
  intro d
  induction d with
  | zero => intro p; rfl
  | succ d ih =>
    intro p
    rw [z_cil, z_lst]
    cases (z_cor kd (.inr p)).2 with
    | inl q => rfl
    | inr q =>
      simp only []
      rw [ih]
/-- frame of the inner loop -/
def E_if (co A : Nat) (u0 s : g_St) : Prop := E_kp [co, A] u0 s ∧ E_ct [10, 11, 28] u0 s ∧ g_R s 514 2 = g_R u0 514 2 ∧ g_R s 578 2 = g_R u0 578 2 ∧ (∀ k, g_R s k co = g_R u0 k co) ∧ (∀ k, k ≠ 330 → g_I s k co = g_I u0 k co) ∧ g_ln s A = g_ln u0 A
def E_it1 (pl : Nat → Nat) (wd : Nat → Int64) (co A : Nat) (u0 s : g_St) (l : List z_Bs) : Prop := g_cnt s 10 = g_cnt u0 10 + l.length ∧ g_I s 330 co = Int32.ofNat l.length ∧ (∀ m, m < l.length → g_AR s A m = some ((g_cnt u0 10 + m) * 64 + 10)) ∧ g_cnt s 11 = g_cnt u0 11 + z_nbs l ∧ E_cbs pl wd s (g_cnt u0 10) (g_cnt u0 11) (g_R u0 514 2) (g_R u0 578 2) l
theorem E_if.as {co A : Nat} {u0 s t : g_St} (h : E_if co A u0 s) (g : E_as s t) (hc : co ≠ 2) : E_if co A u0 t := by
  obtain ⟨h1, h2, h3, h4, h5, h6, h7⟩ := h
  exact ⟨h1.trans (g.kp [co, A]) (fun a ha => Or.inl ha), fun t a b => by rw [g.1]; exact h2 t a b, by rw [g.2.2.2.2.1]; exact h3, by rw [g.2.2.2.2.1]; exact h4, fun k => by rw [g.2.2.2.2.1]; exact h5 k, fun k hk => by rw [((g.sm hc).1 k).1]; exact h6 k hk, by rw [g.2.2.2.2.2.2.2.2.1]; exact h7⟩
theorem E_it1.as {co A : Nat} {u0 s t : g_St} {l : List z_Bs} (h : E_it1 pl wd co A u0 s l) (g : E_as s t) (hc : co ≠ 2) : E_it1 pl wd co A u0 t l := by
  obtain ⟨h1, h2, h3, h4, h5⟩ := h
  refine ⟨by rw [g.1]; exact h1, by rw [((g.sm hc).1 _).1]; exact h2, fun m hm => by rw [g.2.2.2.2.2.2.2.1]; exact h3 m hm, by rw [g.1]; exact h4, h5.kp (by rw [h1]; exact Nat.le_refl _) (g.kp []) (fun a ha => by cases ha)⟩
theorem a_inl (Z : E_cx c) (H : z_H n kd) (hwd : ∀ i, i < n → kd i = 36 → wd i ≠ 0) {u0 : g_St} {p0 d k a : Nat} (h : E_b n kd pl wd c u0 (.inr p0) (3 * p0 + d)) (hd : d ≤ 39) (hk : k < g_cnt u0 10) (hkB : c.2.2.2.1 10 ≤ k) (ha : a < g_cnt u0 28) (haB : c.2.2.2.1 28 ≤ a) (h266 : g_R u0 266 (k * 64 + 10) = some (a * 64 + 28)) (hln : g_ln u0 (a * 64 + 28) = 3) (h330 : g_I u0 330 (k * 64 + 10) = 0) :
    ∃ u', f_Re_condition_141 200000 (some 2) (some (k * 64 + 10)) 1 0 u0 = f_Re_condition_209 (some 2) (some (k * 64 + 10)) u' ∧ E_b n kd pl wd c u' (z_cil kd 2 p0).2 (3 * z_pk (z_cil kd 2 p0).2 + d + z_sl (z_cil kd 2 p0).2 7) ∧ E_if (k * 64 + 10) (a * 64 + 28) u0 u' ∧ p0 ≤ z_pk (z_cil kd 2 p0).2 ∧ (z_cil kd 2 p0).1.length ≤ 3 ∧ ∀ q, (z_cil kd 2 p0).2 = .inr q → E_it1 pl wd (k * 64 + 10) (a * 64 + 28) u0 u' (z_cil kd 2 p0).1 := by
  obtain ⟨co, hco⟩ : ∃ co, co = k * 64 + 10 := ⟨_, rfl⟩
  obtain ⟨A, hA⟩ : ∃ A, A = a * 64 + 28 := ⟨_, rfl⟩
  rw [← hco, ← hA]
  rw [← hco] at h266 h330
  rw [← hA] at h266 hln
  have co2 : co ≠ 2 := by omega
  have A2 : A ≠ 2 := by omega
  have nwc : E_nw c co := by unfold E_nw; rw [hco, (E_num (by decide)).1, (E_num (by decide)).2]; exact ⟨by decide, by decide, by decide, hkB⟩
  have nwA : E_nw c A := by unfold E_nw; rw [hA, (E_num (by decide)).1, (E_num (by decide)).2]; exact ⟨by decide, by decide, by decide, haB⟩
  have okc : ∀ v : g_St, E_ok [co, A] v co := fun v => ⟨co2, Or.inl (by simp)⟩
  have okA : ∀ v : g_St, E_ok [co, A] v A := fun v => ⟨A2, Or.inl (by simp)⟩
  have alc : ∀ v : g_St, g_cnt u0 10 ≤ g_cnt v 10 → g_al v co := fun v hv => by rw [hco, E_alc (by decide)]; omega
  have alA : ∀ v : g_St, g_cnt u0 28 ≤ g_cnt v 28 → g_al v A := fun v hv => by rw [hA, E_alc (by decide)]; omega
  have kc : co % 64 ≠ 12 ∧ co % 64 ≠ 30 ∧ co % 64 ≠ 2 := by rw [hco, (E_num (by decide)).2]; decide
  have kA : A % 64 ≠ 12 ∧ A % 64 ≠ 30 ∧ A % 64 ≠ 2 := by rw [hA, (E_num (by decide)).2]; decide
  have key := a_loop (kd := kd) (fun f x i s => f_Re_condition_141 f (some 2) (some co) x (Int32.ofNat i) s) (f_Re_condition_209 (some 2) (some co)) (f_Re_accept (some 2) (some 397)) 6 (fun p => z_cor kd (.inr p)) 2
    (fun p l s => E_b n kd pl wd c s (.inr p) (3 * p + d) ∧ E_if co A u0 s ∧ p0 ≤ p ∧ E_it1 pl wd co A u0 s l)
    (fun r l s => E_b n kd pl wd c s r (3 * z_pk r + d + z_sl r 7) ∧ E_if co A u0 s ∧ p0 ≤ z_pk r ∧ ∀ q, r = .inr q → E_it1 pl wd co A u0 s l)
    (fun f i s => ?_) (fun r l s hJ => ?_) (fun p l u f hl hJ => ?_) 2 p0 [] u0 200000 rfl (by omega) ⟨h, ⟨E_kp.re, E_ct.re, rfl, rfl, fun _ => rfl, fun _ _ => rfl, rfl⟩, Nat.le_refl _, rfl, h330, (fun m hm => by cases hm), rfl, (fun m hm => by cases hm)⟩
  · obtain ⟨u', b1, ⟨b2, b3, b4, b5⟩, b6⟩ := key
    rw [z_cil_l]
    exact ⟨u', b1, b2, b3, b4, b6, b5⟩
  · show f_Re_condition_141 (f + 1) (some 2) (some co) 0 (Int32.ofNat i) s = _
    rw [f_Re_condition_141]
    by_cases w : 3 ≤ Int32.ofNat i
    · rw [if_pos w]
    · rw [if_neg w, if_pos rfl]
  · obtain ⟨b1, b2, b3, b4⟩ := hJ
    obtain ⟨t, x1, x2, x3⟩ := a_ac Z H b1 (k := 6) (by decide)
    refine ⟨t, x1, fun w => ?_, fun q e1 e2 => ?_⟩
    · rw [z_skr_false w] at x2
      exact ⟨x2, b2.as x3 co2, b3, fun q e => (b4 q e).as x3 co2⟩
    · rw [e1] at x2 b3
      rw [z_skr_t e2] at x2
      have b3' : p0 ≤ q := b3
      exact ⟨x2.mono (by show 3 * q + d + 0 ≤ 3 * (q + 1) + d; omega), b2.as x3 co2, by omega, (b4 q e1).as x3 co2⟩
  · obtain ⟨b1, ⟨f1, f2, f3, f4, f5, f6, f7⟩, b3, g1, g2, g3, g4, g5⟩ := hJ
    have hw : 3 * p + d ≤ 1265 := by
      have := b1.2.2.1.2.2
      have := H.2.1
      omega
    obtain ⟨s, m1, m2, m3, m4, m5, m6, m7, m8, m9, m10⟩ := a_newc Z b1 hw
    obtain ⟨s6, e6⟩ : ∃ s6, s6 = g_setAR s A l.length (some (g_cnt u 10 * 64 + 10)) := ⟨_, rfl⟩
    obtain ⟨s7, e7⟩ : ∃ s7, s7 = g_setI s6 330 co (Int32.ofNat (l.length + 1)) := ⟨_, rfl⟩
    have B7 : E_b n kd pl wd c s7 (.inr p) (3 * z_pk (.inr p) + (d + 1)) := by rw [e7, e6]; exact (m2.sR Z nwA _ _).pI Z nwc _ _
    have au : g_al u 2 := b1.a2 Z
    have cu : g_al u co := alc u (f1.1 10)
    have Au : g_al u A := alA u (f1.1 28)
    have scs : E_sm u s co := m3.2 co cu
    have sAs : E_sm u s A := m3.2 A Au
    have lnA : g_ln s A = 3 := by rw [sAs.2.2.2.2, f7]; exact hln
    have r266 : g_R s7 266 co = some A := by
      rw [e7, e6]
      show g_R s 266 co = some A
      rw [(scs.1 266).2.2, f5]; exact h266
    have arA : g_AR s7 A l.length = some (g_cnt u 10 * 64 + 10) := by
      rw [e7, e6]
      show g_AR (g_setAR s A l.length _) A l.length = _
      rw [x_AR_AR, if_pos ⟨rfl, rfl⟩]
    have cs7 : ∀ t, g_cnt s7 t = g_cnt s t := fun t => by rw [e7, e6]; rfl
    obtain ⟨u', k1, k2, k3, k4, k5, k6, k7, k8, k9⟩ := a_cmp Z H hwd B7 hd (k := g_cnt u 10) (by rw [cs7, m5]; omega) (b1.2.2.2.2.2.1.1 10) (by
      rw [e7, e6]
      show g_R s 138 _ = none
      rw [m7, if_neg (by decide), if_neg (by decide)])
    have st : f_Re_condition_141 (f + 1) (some 2) (some co) 1 (Int32.ofNat l.length) u = (if 2 ≤ l.length then f_Re_condition_141 f (some 2) (some co) 0 (Int32.ofNat (l.length + 1)) u' else g_c (f_Re_accept (some 2) (some 397) u') fun i t => if i = 0 then f_Re_condition_141 f (some 2) (some co) 0 (Int32.ofNat (l.length + 1)) t else f_Re_condition_141 f (some 2) (some co) 1 (Int32.ofNat (l.length + 1)) t) := by
      rw [f_Re_condition_141, if_neg (show ¬ (3 : Int32) ≤ Int32.ofNat l.length from by rw [show (3 : Int32) = Int32.ofNat 3 from rfl, x_le (by omega) (by omega)]; omega), if_neg (by decide), x_gR, f5, h266]
      rw [m1 (fun p2 s5 => g_sR s5 (some A) (Int32.ofNat l.length) p2 fun s6 => g_pI s6 330 (some co) (Int32.ofNat l.length + 1) fun s7 => g_gR s7 266 (some co) fun p8 => g_aR s7 p8 (Int32.ofNat l.length) fun p9 => g_c (g_nn (some 2) (f_Re_comparison (some 2) p9 s7)) fun _ s11 => if 3 ≤ Int32.ofNat l.length + 1 then f_Re_condition_141 f (some 2) (some co) 0 (Int32.ofNat l.length + 1) s11 else g_c (g_nn (some 2) (f_Re_accept (some 2) (some 397) s11)) fun i12 s13 => if i12 = 0 then f_Re_condition_141 f (some 2) (some co) 0 (Int32.ofNat l.length + 1) s13 else f_Re_condition_141 f (some 2) (some co) 1 (Int32.ofNat l.length + 1) s13)]
      rw [x_sR (by omega) (by rw [lnA]; omega), ← e6, x_p1, x_pI, ← e7, x_gR, r266, x_aR (by omega) (by rw [e7, e6]; show _ < g_ln s A; rw [lnA]; omega), arA, x_nn, k1, x_c]
      have e4 : (3 ≤ Int32.ofNat (l.length + 1)) = (3 ≤ l.length + 1) := x_le (a := 3) (by decide) (by omega)
      by_cases w : 2 ≤ l.length
      · rw [if_pos w, if_pos (by rw [e4]; omega)]
      · rw [if_neg w, if_neg (by rw [e4]; omega), x_nn]
    have K7 : E_kp [co, A] u s7 := by rw [e7, e6]; exact ((m3.kp au [co, A]).sR (okA u) _ _).pI (okc u) _ _
    have Ku : E_kp [co, A] u u' := K7.trans k3 (fun b hb => Or.inr (by rw [List.mem_singleton.mp hb]; exact E_nal (by decide)))
    have nec : co ≠ g_cnt u 10 * 64 + 10 := fun e => E_nal (t := 10) (by decide) (e ▸ cu)
    have neA : A ≠ g_cnt u 10 * 64 + 10 := by omega
    have c7 : g_al s7 co := alc s7 (by rw [cs7]; exact Nat.le_trans (f1.1 10) (m3.1 10))
    have A7 : g_al s7 A := alA s7 (by rw [cs7]; exact Nat.le_trans (f1.1 28) (m3.1 28))
    have sc7 : E_sm s7 u' co := k3.at c7 kc (fun q => nec (List.mem_singleton.mp q))
    have sA7 : E_sm s7 u' A := k3.at A7 kA (fun q => neA (List.mem_singleton.mp q))
    have R7 : ∀ k, g_R s7 k 2 = g_R u k 2 := fun k => by rw [e7, e6]; exact ((m3.2 2 au).1 k).2.2
    refine ⟨u', st, k2, ⟨f1.trans Ku (fun b hb => Or.inl hb), fun t h1 h2 => ?_, ?_, ?_, fun kk => ?_, fun kk hkk => ?_, ?_⟩, Nat.le_trans b3 k7, fun q hq => ?_⟩
    · rw [k4 t (fun q => h1 (by rw [List.mem_singleton.mp q]; decide)) h2, cs7, m4 t (fun q => h1 (by simp only [List.mem_cons, List.not_mem_nil, or_false] at q ⊢; omega)) h2]
      exact f2 t h1 h2
    · rw [k5, R7]; exact f3
    · rw [k6, R7]; exact f4
    · rw [(sc7.1 kk).2.2, e7, e6]
      show g_R s kk co = _
      rw [(scs.1 kk).2.2]; exact f5 kk
    · rw [(sc7.1 kk).1, e7, x_I_I, if_neg (fun q => hkk q.1), e6]
      show g_I s kk co = _
      rw [(scs.1 kk).1]; exact f6 kk hkk
    · rw [sA7.2.2.2.2, e7, e6]
      show g_ln s A = _
      rw [sAs.2.2.2.2]; exact f7
    · obtain ⟨y1, y2⟩ := k9 q hq
      have ln : (l ++ [(z_cor kd (.inr p)).1]).length = l.length + 1 := by rw [List.length_append, List.length_singleton]
      have c10 : g_cnt u' 10 = g_cnt u0 10 + (l.length + 1) := by rw [k4 10 (by decide) (by decide), cs7, m5, g1]; omega
      have c11 : g_cnt s7 11 = g_cnt u0 11 + z_nbs l := by rw [cs7, m4 11 (by decide) (by decide), g4]
      refine ⟨by rw [ln]; exact c10, ?_, fun m hm => ?_, ?_, fun m hm => ?_⟩
      · rw [ln, (sc7.1 330).1, e7, x_I_I, if_pos ⟨rfl, rfl⟩]
      · rw [ln] at hm
        rw [sA7.2.2.2.1, e7, e6]
        show g_AR (g_setAR s A l.length (some (g_cnt u 10 * 64 + 10))) A m = _
        rw [x_AR_AR]
        by_cases w : m < l.length
        · rw [if_neg (fun q => by have := q.2; omega), sAs.2.2.2.1]; exact g3 m w
        · rw [if_pos ⟨rfl, by omega⟩, g1, show m = l.length by omega]
      · rw [y1, c11, z_nbs_a]; omega
      · rw [ln] at hm
        by_cases w : m < l.length
        · rw [z_getD_l w, List.take_append_of_le_length (by omega)]
          refine (g5 m w).sm (Ku.at (by rw [E_alc (by decide), g1]; omega) (by rw [(E_num (by decide)).2]; decide) (fun q => ?_)) Ku (fun b hb => ?_)
          · simp only [List.mem_cons, List.not_mem_nil, or_false] at q
            omega
          · simp only [List.mem_cons, List.not_mem_nil, or_false] at hb
            omega
        · have em : m = l.length := by omega
          rw [em, z_getD_e, List.take_append_of_le_length (by omega), List.take_length, ← g1, ← c11, ← f3, ← f4, ← R7, ← R7]
          exact y2
end
