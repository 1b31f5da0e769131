/-! THE ENGINE'S CHECK: frames, lists, what is covered -/
def E_fk (KI KR : List Nat) (u v : g_St) : Prop := (g_cnt v = g_cnt u ∧ g_cn v = g_cn u ∧ g_sn v = g_sn u ∧ g_L v = g_L u ∧ g_AI v = g_AI u ∧ g_AL v = g_AL u ∧ g_AR v = g_AR u ∧ g_ln v = g_ln u) ∧ (∀ k a, k ∉ KI → g_I v k a = g_I u k a) ∧ ∀ k a, k ∉ KR → g_R v k a = g_R u k a
section
variable {KI KR : List Nat} {u v w : g_St}
theorem E_fk.re : E_fk KI KR u u := ⟨⟨rfl, rfl, rfl, rfl, rfl, rfl, rfl, rfl⟩, fun _ _ _ => rfl, fun _ _ _ => rfl⟩
theorem E_fk.pI (h : E_fk KI KR u v) {k : Nat} (hk : k ∈ KI) (a : Nat) (x : Int32) : E_fk KI KR u (g_setI v k a x) := ⟨h.1, fun k' a' hk' => by rw [x_I_I, if_neg (fun q => hk' (by rw [q.1]; exact hk))]; exact h.2.1 k' a' hk', h.2.2⟩
theorem E_fk.pR (h : E_fk KI KR u v) {k : Nat} (hk : k ∈ KR) (a : Nat) (x : Option Nat) : E_fk KI KR u (g_setR v k a x) := ⟨h.1, h.2.1, fun k' a' hk' => by rw [x_R_R, if_neg (fun q => hk' (by rw [q.1]; exact hk))]; exact h.2.2 k' a' hk'⟩
theorem E_fk.trans (h : E_fk KI KR u v) (g : E_fk KI KR v w) : E_fk KI KR u w := by
  obtain ⟨⟨a1, a2, a3, a4, a5, a6, a7, a8⟩, b, c⟩ := h
  obtain ⟨⟨d1, d2, d3, d4, d5, d6, d7, d8⟩, e, f⟩ := g
  exact ⟨⟨d1.trans a1, d2.trans a2, d3.trans a3, d4.trans a4, d5.trans a5, d6.trans a6, d7.trans a7, d8.trans a8⟩, fun k a hk => (e k a hk).trans (b k a hk), fun k a hk => (f k a hk).trans (c k a hk)⟩
theorem E_fk.mono {KI' KR' : List Nat} (h : E_fk KI KR u v) (h1 : ∀ k ∈ KI, k ∈ KI') (h2 : ∀ k ∈ KR, k ∈ KR') : E_fk KI' KR' u v := ⟨h.1, fun k a hk => h.2.1 k a (fun q => hk (h1 k q)), fun k a hk => h.2.2 k a (fun q => hk (h2 k q))⟩
theorem E_li.len {l : Nat} {xs : List Nat} (h : E_li u l xs) : xs.length ≤ 2000 := by
  obtain ⟨h1, a, h2, h3⟩ := h
  rcases h3 with ⟨-, e⟩ | ⟨b1, b2, b3, b4, b5, b6, b7⟩
  · rw [e]; exact Nat.zero_le _
  · omega
theorem k_size {l : Nat} {xs : List Nat} (h : E_li u l xs) : f_Al_size (some l) u = some (Int32.ofNat xs.length, u) := by
  unfold f_Al_size
  rw [x_gI, h.1]
theorem x_aO {α : Type} {a i : Nat} (h0 : 1 ≤ a / 64) (h : i < 2 ^ 31) (h2 : i < g_ln u a) (F : Option Nat → Option α) : g_aO u (some a) (Int32.ofNat i) F = F (g_AR u a i) := by
  unfold g_aO
  rw [Int32.toNatClampNeg_ofNat_of_lt h]
  exact if_neg (fun w => w.elim (fun q => by omega) (fun w => w.elim (fun q => by rw [Int32.lt_iff_toInt_lt, Int32.toInt_ofNat_of_lt h, Int32.toInt_zero] at q; omega) (fun q => absurd h2 (Nat.not_lt.mpr q))))
theorem k_get {l : Nat} {xs : List Nat} (h : E_li u l xs) {i : Nat} (hi : i < xs.length) : f_Al_get (some l) (Int32.ofNat i) u = some (some (xs.getD i 0), u) := by
  have hl := h.len
  obtain ⟨h1, a, h2, h3⟩ := h
  rcases h3 with ⟨-, e⟩ | ⟨b1, b2, b3, b4, b5, b6, b7⟩
  · rw [e] at hi; cases hi
  · unfold f_Al_get f_Ob_checkIndex f_Pre_checkIndex f_Al_elementData
    rw [x_gI, h1, if_neg (show ¬ Int32.ofNat i < 0 from by rw [show (0 : Int32) = Int32.ofNat 0 from rfl, x_lt (by omega) (by omega)]; omega), if_pos (by rw [x_lt (by omega) (by omega)]; exact hi), x_c, x_c, x_nn, x_gR, h2, x_aO b2 (by omega) (by omega), b6 i hi]
    rfl
theorem E_li.fk {l : Nat} {xs : List Nat} (h : E_li u l xs) (f : E_fk KI KR u v) (k1 : 140 ∉ KI) (k2 : 76 ∉ KR) : E_li v l xs := by
  obtain ⟨h1, a, h2, h3⟩ := h
  obtain ⟨⟨a1, a2, a3, a4, a5, a6, a7, a8⟩, b, c⟩ := f
  refine ⟨by rw [b _ _ k1]; exact h1, a, by rw [c _ _ k2]; exact h2, ?_⟩
  unfold g_al at h3 ⊢
  rw [a1, a7, a8]
  exact h3
end
theorem z_S_c {α : Type} (f : α → Nat) (x : α) (l : List α) : z_S f (x :: l) = f x + z_S f l := by unfold z_S; rw [List.map_cons, List.sum_cons]
/-- what is numbered one behind the other is covered -/
theorem z_cov {α : Type} (f : α → Nat) (d : α) : ∀ (l : List α) (b j : Nat), b ≤ j → j < b + z_S f l → ∃ m, m < l.length ∧ b + z_S f (l.take m) ≤ j ∧ j < b + z_S f (l.take m) + f (l.getD m d) := by
  intro l
  induction l with
  | nil => intro b j h1 h2; exact absurd h2 (by show ¬ j < b + 0; omega)
  | cons x l ih =>
    intro b j h1 h2
    rw [z_S_c] at h2
    by_cases w : j < b + f x
    · exact ⟨0, Nat.zero_lt_succ _, by show b + 0 ≤ j; omega, by show j < b + 0 + f x; omega⟩
    · obtain ⟨m, m1, m2, m3⟩ := ih (b + f x) j (by omega) (by omega)
      refine ⟨m + 1, Nat.succ_lt_succ m1, ?_, ?_⟩
      · rw [List.take_succ_cons, z_S_c]; omega
      · rw [List.take_succ_cons, z_S_c]
        show j < b + (f x + z_S f (l.take m)) + f (l.getD m d)
        omega
def z_sv (x : z_Qu) (s : Nat) : Nat × z_Se := (z_sels x).getD s (0, z_se0)
theorem z_sv_len (x : z_Qu) : (z_sels x).length = z_tot x.2.1 + 1 := by unfold z_sels; rw [List.length_append, z_sy_len]; rfl
theorem z_sv_own (x : z_Qu) : z_sv x (z_tot x.2.1) = (4, x.2.2.1) := by
  unfold z_sv z_sels
  rw [List.getD_eq_getElem?_getD, List.getElem?_append_right (by rw [z_sy_len]; exact Nat.le_refl _), z_sy_len, Nat.sub_self]
  rfl
def E_sI (pl : Nat → Nat) (wd : Nat → Int64) (u : g_St) (b : Nat → Nat) (x : z_Qu) (s i k j : Nat) : Prop := s < (z_sels x).length ∧ (b 11 ≤ i ∧ b 10 ≤ k ∧ b 9 ≤ j) ∧ E_se pl wd u (b 8 + s) i k j b (Int32.ofNat (min (z_sv x s).1 x.2.1.length)) (z_sv x s).2
section
variable {pl : Nat → Nat} {wd : Nat → Int64} {c : z_Cx} {u : g_St} {A O : Nat} {b : Nat → Nat} {x : z_Qu}
theorem k_selp (Q : E_qu pl wd c u A O b x) {m : Nat} (hm : m < x.2.1.length) {m2 : Nat} (hm2 : m2 < (x.2.1.getD m z_pa0).2.2.1.length) : E_sI pl wd u b x (z_tot (x.2.1.take m) + m2) (b 11 + z_S z_ntp (x.2.1.take m) + z_S z_nts ((x.2.1.getD m z_pa0).2.2.1.take m2)) (b 10 + z_S z_ncp (x.2.1.take m) + z_S z_ncs ((x.2.1.getD m z_pa0).2.2.1.take m2)) (b 9 + z_S z_nsp (x.2.1.take m) + z_S z_nss ((x.2.1.getD m z_pa0).2.2.1.take m2)) ∧ z_sv x (z_tot (x.2.1.take m) + m2) = (m, (x.2.1.getD m z_pa0).2.2.1.getD m2 z_se0) := by
  obtain ⟨⟨q1, q2, q3, q4⟩, qA, qp, qo, qe, qc, qr⟩ := Q
  obtain ⟨-, P⟩ := qp m hm
  obtain ⟨p1, p2, p3, p4, aW, aQ, aL, p5, p6, p7, p8, p9, p10, p11, p12⟩ := P
  obtain ⟨-, e⟩ := p12 m2 hm2
  obtain ⟨g1, g2⟩ := z_sels_get hm hm2
  have g3 : z_sv x (z_tot (x.2.1.take m) + m2) = (m, (x.2.1.getD m z_pa0).2.2.1.getD m2 z_se0) := g1
  refine ⟨⟨g2, ⟨by omega, by omega, by omega⟩, ?_⟩, g3⟩
  rw [g3]
  show E_se pl wd u _ _ _ _ b (Int32.ofNat (min m x.2.1.length)) _
  rw [Nat.min_eq_left (by omega), ← Nat.add_assoc]
  exact e
theorem k_selo (Q : E_qu pl wd c u A O b x) : E_sI pl wd u b x (z_tot x.2.1) (b 11 + z_S z_ntp x.2.1) (b 10 + z_S z_ncp x.2.1) (b 9 + z_S z_nsp x.2.1) := by
  obtain ⟨⟨q1, q2, q3, q4⟩, qA, qp, qo, qe, qc, qr⟩ := Q
  refine ⟨by rw [z_sv_len]; omega, ⟨by omega, by omega, by omega⟩, ?_⟩
  rw [z_sv_own]
  show E_se pl wd u _ _ _ _ b (Int32.ofNat (min 4 x.2.1.length)) x.2.2.1
  rw [Nat.min_eq_right q3]
  exact qe
theorem k_sel (Q : E_qu pl wd c u A O b x) {s : Nat} (hs : s < (z_sels x).length) : ∃ i k j, E_sI pl wd u b x s i k j := by
  by_cases w : s < z_tot x.2.1
  · obtain ⟨m, m1, m2, m3⟩ := z_cov (fun x : z_Pa => x.2.2.1.length) z_pa0 x.2.1 0 s (Nat.zero_le _) (by rw [← z_tot_S]; omega)
    rw [← z_tot_S] at m2 m3
    obtain ⟨h, -⟩ := k_selp Q m1 (m2 := s - z_tot (x.2.1.take m)) (by omega)
    rw [show z_tot (x.2.1.take m) + (s - z_tot (x.2.1.take m)) = s by omega] at h
    exact ⟨_, _, _, h⟩
  · rw [z_sv_len] at hs
    rw [show s = z_tot x.2.1 by omega]
    exact ⟨_, _, _, k_selo Q⟩
theorem k_cov9 (Q : E_qu pl wd c u A O b x) {a : Nat} (h1 : b 9 ≤ a) (h2 : a < g_cnt u 9) : ∃ s i k j, E_sI pl wd u b x s i k j ∧ j ≤ a ∧ a < j + z_nss (z_sv x s).2 := by
  by_cases w : a < b 9 + z_S z_nsp x.2.1
  · obtain ⟨m, m1, m2, m3⟩ := z_cov z_nsp z_pa0 x.2.1 (b 9) a h1 w
    obtain ⟨l, l1, l2, l3⟩ := z_cov z_nss z_se0 (x.2.1.getD m z_pa0).2.2.1 (b 9 + z_S z_nsp (x.2.1.take m)) a m2 m3
    obtain ⟨h, e⟩ := k_selp Q m1 l1
    exact ⟨_, _, _, _, h, l2, by rw [e]; exact l3⟩
  · refine ⟨_, _, _, _, k_selo Q, by omega, ?_⟩
    rw [z_sv_own]
    have := Q.2.2.2.2.2.1.2.2.1
    show a < b 9 + z_S z_nsp x.2.1 + z_nss x.2.2.1
    omega
theorem k_cov11 (Q : E_qu pl wd c u A O b x) {a : Nat} (h1 : b 11 ≤ a) (h2 : a < g_cnt u 11) : (∃ s i k j, E_sI pl wd u b x s i k j ∧ i ≤ a ∧ a < i + z_nts (z_sv x s).2) ∨ ∃ y m, x.2.2.2 = some y ∧ m < y.2.length ∧ a = b 11 + z_S z_ntp x.2.1 + z_nts x.2.2.1 + m := by
  by_cases w : a < b 11 + z_S z_ntp x.2.1
  · obtain ⟨m, m1, m2, m3⟩ := z_cov z_ntp z_pa0 x.2.1 (b 11) a h1 w
    obtain ⟨l, l1, l2, l3⟩ := z_cov z_nts z_se0 (x.2.1.getD m z_pa0).2.2.1 (b 11 + z_S z_ntp (x.2.1.take m)) a m2 m3
    obtain ⟨h, e⟩ := k_selp Q m1 l1
    exact Or.inl ⟨_, _, _, _, h, l2, by rw [e]; exact l3⟩
  · by_cases w2 : a < b 11 + z_S z_ntp x.2.1 + z_nts x.2.2.1
    · refine Or.inl ⟨_, _, _, _, k_selo Q, by omega, ?_⟩
      rw [z_sv_own]
      exact w2
    · have qr := Q.2.2.2.2.2.2
      cases hx : x.2.2.2 with
      | none => rw [hx] at qr; have := qr.2; omega
      | some y =>
        rw [hx] at qr
        have := qr.2.2.2.1
        exact Or.inr ⟨y, a - (b 11 + z_S z_ntp x.2.1 + z_nts x.2.2.1), rfl, by omega, by omega⟩
end
