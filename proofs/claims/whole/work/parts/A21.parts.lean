/-! THE ENGINE READS THE PARTS -/
def E_pa (pl : Nat → Nat) (wd : Nat → Int64) (u : g_St) (t s i k j : Nat) (bb : Nat → Nat) (ow : Int32) (x : z_Pa) : Prop := t < g_cnt u 7 ∧ (g_L u 7 (t * 64 + 7) = wd x.1 ∧ g_I u 71 (t * 64 + 7) = Int32.ofNat (pl x.1) ∧ g_I u 135 (t * 64 + 7) = Int32.ofNat x.2.1.length ∧ g_I u 711 (t * 64 + 7) = Int32.ofNat x.2.2.1.length ∧ g_I u 519 (t * 64 + 7) = z_g (x.2.2.2.1.any fun b => !b) ∧ g_I u 583 (t * 64 + 7) = z_g (x.2.2.2.1.any id)) ∧ (g_I u 775 (t * 64 + 7) = 0 ∧ g_I u 839 (t * 64 + 7) = 0 ∧ g_I u 903 (t * 64 + 7) = -1 ∧ g_I u 967 (t * 64 + 7) = 0 ∧ g_I u 1031 (t * 64 + 7) = -1 ∧ g_I u 1095 (t * 64 + 7) = -1) ∧ (x.2.1.length ≤ 3 ∧ x.2.2.1.length ≤ 4) ∧ ∃ aW aQ aL, (bb 21 ≤ aW ∧ aW < g_cnt u 21 ∧ bb 20 ≤ aQ ∧ aQ < g_cnt u 20 ∧ bb 25 ≤ aL ∧ aL < g_cnt u 25) ∧ (g_R u 199 (t * 64 + 7) = some (aW * 64 + 21) ∧ g_R u 263 (t * 64 + 7) = some (aQ * 64 + 20) ∧ g_R u 647 (t * 64 + 7) = some (aL * 64 + 25)) ∧ (g_ln u (aW * 64 + 21) = 7 ∧ g_ln u (aQ * 64 + 20) = 7 ∧ g_ln u (aL * 64 + 25) = 4) ∧ (∀ j, j < x.2.1.length → g_AL u (aW * 64 + 21) j = wd (x.2.1.getD j 0) ∧ g_AI u (aQ * 64 + 20) j = Int32.ofNat (pl (x.2.1.getD j 0))) ∧ (∀ j, x.2.1.length ≤ j → j < 3 → g_AL u (aW * 64 + 21) j = 0) ∧ E_pS pl wd (t * 64 + 7) (aW * 64 + 21) (aQ * 64 + 20) u x.2.2.2.2.1 ∧ E_pC pl wd (t * 64 + 7) (aW * 64 + 21) (aQ * 64 + 20) u x.2.2.2.2.2 ∧ E_ses pl wd u (aL * 64 + 25) s i k j bb ow x.2.2.1
theorem E_pS.of {pl : Nat → Nat} {wd : Nat → Int64} {P W Q : Nat} {u v : g_St} {x : Option (Bool × Nat)} (h : E_pS pl wd P W Q u x) (h1 : ∀ k, g_I v k P = g_I u k P) (h2 : g_AL v W = g_AL u W) (h3 : g_AI v Q = g_AI u Q) : E_pS pl wd P W Q v x := by
  cases x with
  | none => unfold E_pS at *; simp only [] at *; rw [h1, h1, h2]; exact h
  | some y => unfold E_pS at *; simp only [] at *; rw [h1, h1, h2, h3]; exact h
theorem E_pC.of {pl : Nat → Nat} {wd : Nat → Int64} {P W Q : Nat} {u v : g_St} {x : Option Nat} (h : E_pC pl wd P W Q u x) (h1 : ∀ k, g_I v k P = g_I u k P) (h2 : g_AL v W = g_AL u W) (h3 : g_AI v Q = g_AI u Q) : E_pC pl wd P W Q v x := by
  cases x with
  | none => unfold E_pC at *; simp only [] at *; rw [h1, h2]; exact h
  | some y => unfold E_pC at *; simp only [] at *; rw [h1, h2, h3]; exact h
/-- what may be written once a part stands -/
def E_Xp (bb : Nat → Nat) (X : List Nat) : Prop := ∀ a ∈ X, a % 64 ≠ 7 ∧ a % 64 ≠ 8 ∧ a % 64 ≠ 9 ∧ a % 64 ≠ 10 ∧ a % 64 ≠ 11 ∧ (a % 64 = 20 ∨ a % 64 = 21 ∨ a % 64 = 25 ∨ a % 64 = 23 ∨ a % 64 = 26 ∨ a % 64 = 27 ∨ a % 64 = 28 → a / 64 < bb (a % 64))
theorem E_pa.kp {pl : Nat → Nat} {wd : Nat → Int64} {u v : g_St} {t s i k j : Nat} {bb : Nat → Nat} {ow : Int32} {x : z_Pa} (h : E_pa pl wd u t s i k j bb ow x) {X : List Nat} (kp : E_kp X u v) (hX : E_Xp bb X) : E_pa pl wd v t s i k j bb ow x := by
  obtain ⟨h1, ⟨h2, h3, h4, h5, h6, h7⟩, ⟨i1, i2, i3, i4, i5, i6⟩, h8, aW, aQ, aL, ⟨b1, b2, b3, b4, b5, b6⟩, ⟨c1, c2, c3⟩, ⟨d1, d2, d3⟩, e1, e2, e3, e4, e5⟩ := h
  have sP : E_sm u v (t * 64 + 7) := kp.at (by rw [E_alc (by decide)]; exact h1) (by rw [(E_num (by decide)).2]; decide) (fun q => (hX _ q).1 (E_num (by decide)).2)
  have gen : ∀ a t, t = 20 ∨ t = 21 ∨ t = 25 → bb t ≤ a → a < g_cnt u t → E_sm u v (a * 64 + t) := fun a t ht ha hb => by
    have hm : (a * 64 + t) % 64 = t := (E_num (by omega)).2
    have hd : (a * 64 + t) / 64 = a := (E_num (by omega)).1
    refine kp.at (by rw [E_alc (by omega)]; exact hb) (by rw [hm]; omega) (fun q => ?_)
    have := (hX _ q).2.2.2.2.2 (by rw [hm]; omega)
    rw [hm, hd] at this
    omega
  have sW := gen aW 21 (by omega) b1 b2
  have sQ := gen aQ 20 (by omega) b3 b4
  have sL := gen aL 25 (by omega) b5 b6
  have I := fun k => (sP.1 k).1
  have R := fun k => (sP.1 k).2.2
  refine ⟨Nat.lt_of_lt_of_le h1 (kp.1 7), ⟨by rw [(sP.1 _).2.1]; exact h2, by rw [I]; exact h3, by rw [I]; exact h4, by rw [I]; exact h5, by rw [I]; exact h6, by rw [I]; exact h7⟩, ⟨by rw [I]; exact i1, by rw [I]; exact i2, by rw [I]; exact i3, by rw [I]; exact i4, by rw [I]; exact i5, by rw [I]; exact i6⟩, h8, aW, aQ, aL, ⟨b1, Nat.lt_of_lt_of_le b2 (kp.1 21), b3, Nat.lt_of_lt_of_le b4 (kp.1 20), b5, Nat.lt_of_lt_of_le b6 (kp.1 25)⟩, ⟨by rw [R]; exact c1, by rw [R]; exact c2, by rw [R]; exact c3⟩, ⟨by rw [sW.2.2.2.2]; exact d1, by rw [sQ.2.2.2.2]; exact d2, by rw [sL.2.2.2.2]; exact d3⟩, by rw [sW.2.2.1, sQ.2.1]; exact e1, by rw [sW.2.2.1]; exact e2, e3.of I sW.2.2.1 sQ.2.1, e4.of I sW.2.2.1 sQ.2.1, e5.kp kp (fun a ha => ⟨(hX a ha).2.1, (hX a ha).2.2.1, (hX a ha).2.2.2.1, (hX a ha).2.2.2.2.1, fun q => (hX a ha).2.2.2.2.2 (by omega)⟩) sL.2.2.2.1⟩
theorem E_ses.b {pl : Nat → Nat} {wd : Nat → Int64} {u : g_St} {L s i k j : Nat} {bb b2 : Nat → Nat} {ow : Int32} {l : List z_Se} (h : E_ses pl wd u L s i k j bb ow l) (hl : ∀ t, b2 t ≤ bb t) : E_ses pl wd u L s i k j b2 ow l := fun m hm => ⟨(h m hm).1, (h m hm).2.b hl⟩
def z_ntp (x : z_Pa) : Nat := z_S z_nts x.2.2.1
def z_ncp (x : z_Pa) : Nat := z_S z_ncs x.2.2.1
def z_nsp (x : z_Pa) : Nat := z_S z_nss x.2.2.1
/-- the query's arrays -/
def E_qA (c : z_Cx) (u : g_St) (A O : Nat) : Prop := (A % 64 = 24 ∧ O % 64 = 26) ∧ (E_nw c A ∧ E_nw c O) ∧ (g_al u A ∧ g_al u O) ∧ (g_R u 6 c.1 = some A ∧ g_R u 262 c.1 = some O) ∧ (g_ln u A = 4 ∧ g_ln u O = 2)
def z_kp1 : List Nat := [7, 8, 9, 10, 11, 20, 21, 23, 25, 26, 27, 28]
def E_pf (c : z_Cx) (A : Nat) (u0 s : g_St) : Prop := E_kp [c.1, A] u0 s ∧ E_ct z_kp1 u0 s ∧ (∀ k, g_R s k c.1 = g_R u0 k c.1) ∧ (∀ k, k ≠ 70 → g_I s k c.1 = g_I u0 k c.1) ∧ g_ln s A = g_ln u0 A
def E_pas (pl : Nat → Nat) (wd : Nat → Int64) (c : z_Cx) (A : Nat) (u0 s : g_St) (l : List z_Pa) : Prop := g_I s 70 c.1 = Int32.ofNat l.length ∧ (g_cnt s 7 = g_cnt u0 7 + l.length ∧ g_cnt s 8 = g_cnt u0 8 + z_tot l ∧ g_cnt s 9 = g_cnt u0 9 + z_S z_nsp l ∧ g_cnt s 10 = g_cnt u0 10 + z_S z_ncp l ∧ g_cnt s 11 = g_cnt u0 11 + z_S z_ntp l) ∧ ∀ m, m < l.length → g_AR s A m = some ((g_cnt u0 7 + m) * 64 + 7) ∧ E_pa pl wd s (g_cnt u0 7 + m) (g_cnt u0 8 + z_tot (l.take m)) (g_cnt u0 11 + z_S z_ntp (l.take m)) (g_cnt u0 10 + z_S z_ncp (l.take m)) (g_cnt u0 9 + z_S z_nsp (l.take m)) (g_cnt u0) (Int32.ofNat m) (l.getD m z_pa0)
section
variable {n : Nat} {kd pl : Nat → Nat} {wd vl : Nat → Int64} {c : z_Cx} {A O : Nat} {u0 : g_St}
theorem E_cx.q {c : z_Cx} (Z : E_cx c) : E_nw c c.1 := ⟨by rw [Z.1]; decide, by rw [Z.1]; decide, by rw [Z.1]; decide, by rw [Z.1]; exact Z.2.2.2.2.2.2.2.1⟩
theorem E_pf.as {s t : g_St} (Z : E_cx c) (h : E_pf c A u0 s) (g : E_as s t) : E_pf c A u0 t := by
  obtain ⟨h1, h2, h3, h4, h5⟩ := h
  exact ⟨h1.trans (g.kp _) (fun a ha => Or.inl ha), fun t x y => by rw [g.1]; exact h2 t x y, fun k => by rw [g.2.2.2.2.1]; exact h3 k, fun k x => by rw [((g.sm Z.q.ne2).1 k).1]; exact h4 k x, by rw [g.2.2.2.2.2.2.2.2.1]; exact h5⟩
theorem E_pas.as {s t : g_St} {l : List z_Pa} (Z : E_cx c) (h : E_pas pl wd c A u0 s l) (g : E_as s t) : E_pas pl wd c A u0 t l := by
  obtain ⟨h1, ⟨h2, h3, h4, h5, h6⟩, h7⟩ := h
  exact ⟨by rw [((g.sm Z.q.ne2).1 _).1]; exact h1, ⟨by rw [g.1]; exact h2, by rw [g.1]; exact h3, by rw [g.1]; exact h4, by rw [g.1]; exact h5, by rw [g.1]; exact h6⟩, fun m hm => ⟨by rw [g.2.2.2.2.2.2.2.1]; exact (h7 m hm).1, (h7 m hm).2.kp (g.kp []) (fun a ha => by cases ha)⟩⟩
theorem z_tot_S (l : List z_Pa) : z_tot l = z_S (fun x => x.2.2.1.length) l := rfl
/-- a part -/
theorem a_pt (Z : E_cx c) (H : z_H n kd) (hwd : ∀ i, i < n → kd i = 36 → wd i ≠ 0) (hvl : ∀ i, i < n → kd i = 37 → wd i = vl i) (hA : E_qA c u0 A O) {d p : Nat} (hd : d ≤ 30) {l : List z_Pa} {u : g_St} (hl : l.length ≤ 3) (hb : E_b n kd pl wd c u (.inr p) (3 * p + d)) (hf : E_pf c A u0 u) (hs : E_pas pl wd c A u0 u l) (f : Nat) :
    ∃ s, f_Re_read_53 (f + 1) (some 2) 1 (Int32.ofNat l.length) u = (if 3 ≤ l.length then f_Re_read_53 f (some 2) 0 (Int32.ofNat (l.length + 1)) s else g_c (f_Re_accept (some 2) (some 1613) s) fun i t => if i = 0 then f_Re_read_53 f (some 2) 0 (Int32.ofNat (l.length + 1)) t else f_Re_read_53 f (some 2) 1 (Int32.ofNat (l.length + 1)) t) ∧ E_b n kd pl wd c s (z_par kd vl p).2 (3 * z_pk (z_par kd vl p).2 + d + z_sl (z_par kd vl p).2 8) ∧ E_pf c A u0 s ∧ p ≤ z_pk (z_par kd vl p).2 ∧ ∀ q, (z_par kd vl p).2 = .inr q → E_pas pl wd c A u0 s (l ++ [(z_par kd vl p).1]) := by
  obtain ⟨⟨mA, mO⟩, ⟨nA, nO⟩, ⟨lA, lO⟩, ⟨rA, rO⟩, zA, zO⟩ := hA
  have nq := Z.q
  have q2 := nq.ne2
  have A2 := nA.ne2
  have mq := Z.1
  have hf0 := hf
  obtain ⟨f1, f2, f3, f4, f5⟩ := hf
  obtain ⟨g1, ⟨g7, g8, g9, g10, g11⟩, gp⟩ := hs
  have alq : g_al u c.1 := hb.2.2.2.2.2.1.2.1
  have alA : g_al u A := E_alm f1.1 lA
  obtain ⟨s2, a1, a2, a3, a4, a5, a6, a7, a8, a8', a9⟩ := a_hd Z H (r := .inr p) hb (by omega)
  obtain ⟨P, hP⟩ : ∃ S, S = g_cnt u 7 * 64 + 7 := ⟨_, rfl⟩
  obtain ⟨W, hW⟩ : ∃ I, I = g_cnt u 21 * 64 + 21 := ⟨_, rfl⟩
  obtain ⟨Q, hQ⟩ : ∃ G, G = g_cnt u 20 * 64 + 20 := ⟨_, rfl⟩
  obtain ⟨L, hL⟩ : ∃ Sr, Sr = g_cnt u 25 * 64 + 25 := ⟨_, rfl⟩
  rw [← hP] at a1
  rw [← hP, ← hW, ← hQ, ← hL] at a6
  rw [← hP] at a7
  rw [← hW] at a8'
  rw [← hP, ← hW, ← hQ] at a9
  have P2 : P ≠ 2 := a6.2.1.1.ne2
  have mP := a6.1.1
  have mW := a6.1.2.1
  have mQ := a6.1.2.2.1
  have mL := a6.1.2.2.2
  have sq2 : E_sm u s2 c.1 := a3.at alq (by rw [mq]; decide) (by simp)
  have sA2 : E_sm u s2 A := a3.at alA (by rw [mA]; decide) (by simp)
  obtain ⟨s7, e7⟩ : ∃ s7, s7 = g_setI (g_setAR s2 A l.length (some P)) 70 c.1 (Int32.ofNat (l.length + 1)) := ⟨_, rfl⟩
  have B7 : ∀ w, E_b n kd pl wd c s2 (z_hd2 kd (.inr p)) w → E_b n kd pl wd c s7 (z_hd2 kd (.inr p)) w := fun w hw => by rw [e7]; exact (hw.sR Z nA _ _).pI Z nq _ _
  have K7 : E_kp [c.1, A] u s7 := by rw [e7]; exact ((a3.mono (fun a ha => by cases ha)).sR ⟨A2, Or.inl (by simp)⟩ _ _).pI ⟨q2, Or.inl (by simp)⟩ _ _
  have c7 : g_cnt s7 = g_cnt s2 := by rw [e7]; rfl
  have R7 : g_R s7 = g_R s2 := by rw [e7]; rfl
  have ln7 : g_ln s7 = g_ln s2 := by rw [e7]; rfl
  have hA7 : E_pA c s7 P W Q L := a6.of (fun t => by rw [c7]; exact Nat.le_refl _) (fun k => by rw [R7]) ⟨by rw [ln7], by rw [ln7], by rw [ln7]⟩
  have I7 : ∀ k a, a ≠ c.1 → g_I s7 k a = g_I s2 k a := fun k a ha => by rw [e7, x_I_I, if_neg (fun q => ha q.2)]; rfl
  have neP : P ≠ c.1 := fun e => by rw [e, mq] at mP; exact absurd mP (by decide)
  have PI7 : ∀ k, k ≠ 71 → k ≠ 135 → g_I s7 k P = if k = 1095 then -1 else if k = 1031 then -1 else if k = 903 then -1 else 0 := fun k x y => by rw [I7 k P neP]; exact a7 k x y
  have st : f_Re_read_53 (f + 1) (some 2) 1 (Int32.ofNat l.length) u = f_Re_read_93 (f_Re_read_53 f) 200000 (some 2) (Int32.ofNat l.length) (some P) 1 0 s7 := by
    rw [f_Re_read_53, if_neg (show ¬ (4 : Int32) ≤ Int32.ofNat l.length from by rw [show (4 : Int32) = Int32.ofNat 4 from rfl, x_le (by omega) (by omega)]; omega), if_neg (by decide), x_nn, a1, x_c, x_gR, a2.2.2.2.2.1.1, x_gR, (sq2.1 6).2.2, f3, rA, x_sR (by omega) (by rw [sA2.2.2.2.2, f5, zA]; omega), x_gR, show g_R (g_setAR s2 A l.length (some P)) 450 2 = some c.1 from a2.2.2.2.2.1.1, x_p1, x_pI, ← e7]
  have us0 : E_us pl wd P L (Int32.ofNat l.length) s7 s7 [] [] := ⟨⟨by rw [PI7 711 (by decide) (by decide), if_neg (by decide), if_neg (by decide), if_neg (by decide)]; rfl, by rw [PI7 519 (by decide) (by decide), if_neg (by decide), if_neg (by decide), if_neg (by decide)]; rfl, by rw [PI7 583 (by decide) (by decide), if_neg (by decide), if_neg (by decide), if_neg (by decide)]; rfl⟩, ⟨rfl, rfl, rfl, rfl⟩, (fun m hm => by cases hm)⟩
  have uf0 : E_uf P L s7 s7 := ⟨E_kp.re, E_ct.re, fun _ => rfl, fun _ _ _ _ => rfl, fun _ => rfl, rfl⟩
  -- the selections
  have sel : ∃ s8, f_Re_read_93 (f_Re_read_53 f) 200000 (some 2) (Int32.ofNat l.length) (some P) 1 0 s7 = f_Re_read_153 (f_Re_read_53 f) (some 2) (Int32.ofNat l.length) (some P) s8 ∧ E_b n kd pl wd c s8 (z_p2 kd vl p).2 (3 * z_pk (z_p2 kd vl p).2 + d + z_sl (z_p2 kd vl p).2 8) ∧ E_uf P L s7 s8 ∧ p ≤ z_pk (z_p2 kd vl p).2 ∧ (z_p2 kd vl p).1.1.length ≤ 4 ∧ ∀ q, (z_p2 kd vl p).2 = .inr q → E_us pl wd P L (Int32.ofNat l.length) s7 s8 (z_p2 kd vl p).1.1 (z_p2 kd vl p).1.2 ∧ ∃ q0, z_hd2 kd (.inr p) = .inr q0 := by
    have e2 : z_ndr kd 26 (z_ndr kd 2 (z_ndr kd 27 (z_p1 kd p).2)) = z_hd2 kd (.inr p) := rfl
    have hpp : p ≤ z_pk (z_hd2 kd (.inr p)) := a5
    unfold z_p2
    rw [e2]
    cases hz : z_hd2 kd (.inr p) with
    | inl q =>
      rw [hz] at hpp
      have B := B7 _ a2
      rw [hz] at B
      have B' : E_b n kd pl wd c s7 (.inl q) (3 * z_pk (.inl q) + (d + 1)) := B.mono (by show 3 * q + d + 1 ≤ 3 * q + (d + 1); omega)
      obtain ⟨s, b1, b2, b3, b4, b5⟩ := a_un1 (vl := vl) Z H hwd hvl hA7 (D := d + 1) (by omega) (Int32.ofNat l.length) (f_Re_read_53 f) (l := []) (fl := []) (by show 0 ≤ 3; omega) B' uf0 us0 199999
      have B2 : E_b n kd pl wd c s (.inl q) (3 * q + (d + 1) + 7) := b2
      obtain ⟨t, k1, k2, k3⟩ := a_jo Z H hA7.2.1.1 B2
      obtain ⟨x1, x2⟩ := k2 rfl
      refine ⟨t, ?_, x2.mono (by show _ ≤ 3 * q + d + 8; omega), b3.as x1 P2, hpp, Nat.zero_le _, fun q w => by cases w⟩
      refine b1.trans ?_
      rw [if_neg (by show ¬ 3 ≤ 0; decide), k1, x_c, if_pos (show z_g (z_skr kd 11 (.inl q)).1 = 0 from rfl), f_Re_read_93, if_neg (by decide), if_pos rfl]
    | inr q =>
      rw [hz] at hpp
      have B := B7 _ a2
      rw [hz] at B
      obtain ⟨u', b1, b2, b3, b4, b5, b6⟩ := a_un (vl := vl) Z H hwd hvl hA7 (D := d) (by omega) (Int32.ofNat l.length) (f_Re_read_53 f) 3 q [] [] s7 200000 rfl (by omega) B uf0 us0
      have hpp' : p ≤ q := hpp
      refine ⟨u', b1, b2.mono ?_, b3, by show p ≤ z_pk (z_uni kd vl 3 q).2; omega, b5, fun q' hq => ⟨b6 q' hq, q, rfl⟩⟩
      show 3 * z_pk (z_uni kd vl 3 q).2 + d + z_sl (z_uni kd vl 3 q).2 7 ≤ 3 * z_pk (z_uni kd vl 3 q).2 + d + z_sl (z_uni kd vl 3 q).2 8
      cases (z_uni kd vl 3 q).2 with
      | inl y => show 3 * y + d + 7 ≤ 3 * y + d + 8; omega
      | inr y => exact Nat.le_refl _
  obtain ⟨s8, b1, b2, b3, b4, b5, b6⟩ := sel
  obtain ⟨k1, k2, k3, k4, k5, k6⟩ := b3
  have al7 : ∀ x, g_al s2 x → g_al s7 x := fun x hx => by show _ < g_cnt s7 _; rw [c7]; exact hx
  have alP7 := hA7.2.2.1.1
  have alW7 := hA7.2.2.1.2.1
  have alQ7 := hA7.2.2.1.2.2.1
  have nPL : ∀ x, x % 64 ≠ 7 → x % 64 ≠ 25 → x ∉ [P, L] := fun x h1 h2 q => by
    simp only [List.mem_cons, List.not_mem_nil, or_false] at q
    rcases q with e | e
    · rw [e] at h1; exact h1 mP
    · rw [e] at h2; exact h2 mL
  have sW8 : E_sm s7 s8 W := k1.at alW7 (by rw [mW]; decide) (nPL W (by rw [mW]; decide) (by rw [mW]; decide))
  have sQ8 : E_sm s7 s8 Q := k1.at alQ7 (by rw [mQ]; decide) (nPL Q (by rw [mQ]; decide) (by rw [mQ]; decide))
  have sq8 : E_sm s7 s8 c.1 := k1.at (E_alm K7.1 alq) (by rw [mq]; decide) (nPL _ (by rw [mq]; decide) (by rw [mq]; decide))
  have sA8 : E_sm s7 s8 A := k1.at (E_alm K7.1 alA) (by rw [mA]; decide) (nPL _ (by rw [mA]; decide) (by rw [mA]; decide))
  have hA8 : E_pA c s8 P W Q L := hA7.of k1.1 k3 ⟨sW8.2.2.2.2, sQ8.2.2.2.2, k6⟩
  have AL7 : g_AL s7 = g_AL s2 := by rw [e7]; rfl
  have AI7 : g_AI s7 = g_AI s2 := by rw [e7]; rfl
  have W8 : g_AL s8 W = g_AL s2 W := by rw [sW8.2.2.1, AL7]
  have Q8 : g_AI s8 Q = g_AI s2 Q := by rw [sQ8.2.1, AI7]
  have PI8 : ∀ k, k ≠ 711 → k ≠ 519 → k ≠ 583 → g_I s8 k P = g_I s2 k P := fun k x y z => by rw [k4 k x y z, I7 k P neP]
  obtain ⟨s9, m1, m2, m3, m4, m5⟩ := a_tl Z H hA8 b2 (fun j hj => by rw [W8]; exact a8' j hj) (by rw [PI8 327 (by decide) (by decide) (by decide), a7 327 (by decide) (by decide), if_neg (by decide), if_neg (by decide), if_neg (by decide)])
  obtain ⟨t1, t2, t3, t4, t5, t6, t7, t8, t9⟩ := m3
  have ep : (z_par kd vl p).2 = (z_cyc kd (z_sea kd (z_ndr kd 27 (z_p2 kd vl p).2)).2).2 := rfl
  rw [ep]
  have nWQ : ∀ x, x % 64 ≠ 7 → x % 64 ≠ 21 → x % 64 ≠ 20 → x ∉ [P, W, Q] := fun x h1 h2 h3 q => by
    simp only [List.mem_cons, List.not_mem_nil, or_false] at q
    rcases q with e | e | e
    · rw [e] at h1; exact h1 mP
    · rw [e] at h2; exact h2 mW
    · rw [e] at h3; exact h3 mQ
  have alq8 : g_al s8 c.1 := E_alm k1.1 (E_alm K7.1 alq)
  have alA8 : g_al s8 A := E_alm k1.1 (E_alm K7.1 alA)
  have sq9 : E_sm s8 s9 c.1 := t1.at alq8 (by rw [mq]; decide) (nWQ _ (by rw [mq]; decide) (by rw [mq]; decide) (by rw [mq]; decide))
  have sA9 : E_sm s8 s9 A := t1.at alA8 (by rw [mA]; decide) (nWQ _ (by rw [mA]; decide) (by rw [mA]; decide) (by rw [mA]; decide))
  have sqT : ∀ k, k ≠ 70 → g_I s9 k c.1 = g_I u k c.1 := fun k hk => by
    rw [(sq9.1 k).1, (sq8.1 k).1, e7, x_I_I, if_neg (fun q => hk q.1)]
    exact (sq2.1 k).1
  have sqR : ∀ k, g_R s9 k c.1 = g_R u k c.1 := fun k => by rw [(sq9.1 k).2.2, (sq8.1 k).2.2, R7, (sq2.1 k).2.2]
  have lA9 : g_ln s9 A = g_ln u A := by rw [sA9.2.2.2.2, sA8.2.2.2.2, ln7, sA2.2.2.2.2]
  have nalP : ∀ x ∈ [P, W, Q, L], ¬ g_al u x := fun a ha => by
    simp only [List.mem_cons, List.not_mem_nil, or_false] at ha
    rcases ha with e | e | e | e
    · rw [e, hP]; exact E_nal (by decide)
    · rw [e, hW]; exact E_nal (by decide)
    · rw [e, hQ]; exact E_nal (by decide)
    · rw [e, hL]; exact E_nal (by decide)
  have K9 : E_kp [c.1, A] u s9 := (K7.trans k1 (fun a ha => Or.inr (nalP a (by simp only [List.mem_cons, List.not_mem_nil, or_false] at ha ⊢; omega)))).trans t1 (fun a ha => Or.inr (nalP a (by simp only [List.mem_cons, List.not_mem_nil, or_false] at ha ⊢; omega)))
  refine ⟨s9, ?_, ?_, ⟨f1.trans K9 (fun a ha => Or.inl ha), fun t x y => ?_, fun k => by rw [sqR]; exact f3 k, fun k hk => by rw [sqT k hk]; exact f4 k hk, by rw [lA9]; exact f5⟩, by omega, fun q hq => ?_⟩
  · rw [st, b1]
    unfold f_Re_read_153
    rw [x_nn, m1, x_c, x_p1]
    have e4 : (4 ≤ Int32.ofNat (l.length + 1)) = (4 ≤ l.length + 1) := x_le (a := 4) (by decide) (by omega)
    by_cases w : 3 ≤ l.length
    · rw [if_pos w, if_pos (by rw [e4]; omega)]
    · rw [if_neg w, if_neg (by rw [e4]; omega), x_nn]
  · refine m2.mono ?_
    cases hh : (z_p2 kd vl p).2 with
    | inl y => show 3 * y + d + 8 ≤ 3 * y + d + 8; exact Nat.le_refl _
    | inr y =>
      rw [hh] at m4
      have : y ≤ z_pk (z_cyc kd (z_sea kd (z_ndr kd 27 (.inr y))).2).2 := m4
      show 3 * y + d + 0 ≤ 3 * z_pk (z_cyc kd (z_sea kd (z_ndr kd 27 (.inr y))).2).2 + d + _
      omega
  · have z1 : g_cnt s9 t = g_cnt s8 t := by rw [t2]
    rw [z1, k2 t (fun q => x (by unfold z_kp1; simp only [List.mem_cons, List.not_mem_nil, or_false] at q ⊢; omega)) y, c7, a4 t, if_neg (fun q => x (by unfold z_kp1; simp only [List.mem_cons, List.not_mem_nil, or_false]; omega))]
    exact f2 t x y
  · -- the part as it stands
    obtain ⟨S1, S2, S3⟩ := m5 q hq
    have hr2 : ∃ y, (z_p2 kd vl p).2 = .inr y := by
      cases hh : (z_p2 kd vl p).2 with
      | inl y =>
        exfalso
        have e0 : (z_cyc kd (z_sea kd (z_ndr kd 27 (.inl y))).2).2 = .inl y := rfl
        rw [hh, e0] at hq
        cases hq
      | inr y => exact ⟨y, rfl⟩
    obtain ⟨y2, hy2⟩ := hr2
    obtain ⟨⟨⟨v1, v2, v3⟩, ⟨v4, v5, v6, v7⟩, v8⟩, y0, hy0⟩ := b6 y2 hy2
    obtain ⟨w1, w2, w3, w4, w5, w6⟩ := a9 p y0 rfl hy0
    have ln : (l ++ [(z_par kd vl p).1]).length = l.length + 1 := by rw [List.length_append, List.length_singleton]
    have c9 : ∀ t, g_cnt s9 t = g_cnt s8 t := fun t => by rw [t2]
    have c78 : ∀ t, t = 8 ∨ t = 9 ∨ t = 10 ∨ t = 11 → g_cnt s7 t = g_cnt u t := fun t ht => by rw [c7, a4, if_neg (by omega)]
    have cu7 : g_cnt s9 7 = g_cnt u 7 + 1 := by rw [c9, k2 7 (by decide) (by decide), c7, a4, if_pos (by omega)]
    have lw : ∀ t, t = 7 ∨ t = 21 ∨ t = 20 ∨ t = 25 → g_cnt u t < g_cnt s9 t := fun t ht => by
      have z0 : g_cnt s7 t = g_cnt u t + 1 := by rw [c7, a4, if_pos ht]
      have z1 := k1.1 t
      rw [c9]
      omega
    have PI9 : ∀ k, k ≠ 327 → k ≠ 391 → k ≠ 455 → g_I s9 k P = g_I s8 k P := fun k x y z => t4 k P P2 (fun q => by have := q.2; simp only [List.mem_cons, List.not_mem_nil, or_false] at this; omega)
    have PI92 : ∀ k, k ≠ 327 → k ≠ 391 → k ≠ 455 → k ≠ 711 → k ≠ 519 → k ≠ 583 → g_I s9 k P = g_I s2 k P := fun k x y z x1 x2 x3 => by rw [PI9 k x y z, PI8 k x1 x2 x3]
    have zer : ∀ k, k ≠ 327 → k ≠ 391 → k ≠ 455 → k ≠ 711 → k ≠ 519 → k ≠ 583 → k ≠ 71 → k ≠ 135 → g_I s9 k P = if k = 1095 then -1 else if k = 1031 then -1 else if k = 903 then -1 else 0 := fun k x y z x1 x2 x3 x4 x5 => by rw [PI92 k x y z x1 x2 x3]; exact a7 k x4 x5
    have hA9 : E_pA c s9 P W Q L := hA8.of (fun t => by rw [c9]; exact Nat.le_refl _) (fun k => by rw [t3]) ⟨by rw [t6], by rw [t6], by rw [t6]⟩
    have xp : (z_par kd vl p).1 = (p, (z_p1 kd p).1, (z_p2 kd vl p).1.1, (z_p2 kd vl p).1.2, (z_p3 kd vl p).1, (z_cyc kd (z_p3 kd vl p).2).1) := rfl
    have eh1 : (z_hd1 kd (.inr p)).1 = (z_p1 kd p).1 := rfl
    rw [eh1] at w5 w6
    have Wc : ∀ j, j < 3 → g_AL s9 W j = g_AL s2 W j := fun j hj => by rw [t8 W j (fun q => by have := q.2; simp only [List.mem_cons, List.not_mem_nil, or_false] at this; omega), W8]
    have Qc : ∀ j, j < 3 → g_AI s9 Q j = g_AI s2 Q j := fun j hj => by rw [t9 Q j (fun q => by have := q.2; simp only [List.mem_cons, List.not_mem_nil, or_false] at this; omega), Q8]
    have XX8 : ∀ a ∈ [P, W, Q], a % 64 ≠ 8 ∧ a % 64 ≠ 9 ∧ a % 64 ≠ 10 ∧ a % 64 ≠ 11 ∧ (a % 64 = 23 ∨ a % 64 = 26 ∨ a % 64 = 27 ∨ a % 64 = 28 → a / 64 < g_cnt s7 (a % 64)) := fun a ha => by
      simp only [List.mem_cons, List.not_mem_nil, or_false] at ha
      rcases ha with e | e | e <;> (rw [e]; omega)
    have pa : E_pa pl wd s9 (g_cnt u 7) (g_cnt u 8) (g_cnt u 11) (g_cnt u 10) (g_cnt u 9) (g_cnt u0) (Int32.ofNat l.length) (z_par kd vl p).1 := by
      rw [xp]
      unfold E_pa
      rw [← hP]
      refine ⟨lw 7 (by omega), ⟨?_, ?_, ?_, ?_, ?_, ?_⟩, ⟨?_, ?_, ?_, ?_, ?_, ?_⟩, ⟨a8, b5⟩, g_cnt u 21, g_cnt u 20, g_cnt u 25, ⟨f1.1 21, lw 21 (by omega), f1.1 20, lw 20 (by omega), f1.1 25, lw 25 (by omega)⟩, ?_⟩
      · rw [t5, k5 7, e7]
        show g_L s2 7 P = _
        exact w2
      · rw [PI92 71 (by decide) (by decide) (by decide) (by decide) (by decide) (by decide)]; exact w3
      · rw [PI92 135 (by decide) (by decide) (by decide) (by decide) (by decide) (by decide)]; exact w4
      · rw [PI9 711 (by decide) (by decide) (by decide)]; exact v1
      · rw [PI9 519 (by decide) (by decide) (by decide)]; exact v2
      · rw [PI9 583 (by decide) (by decide) (by decide)]; exact v3
      · rw [zer 775 (by decide) (by decide) (by decide) (by decide) (by decide) (by decide) (by decide) (by decide), if_neg (by decide), if_neg (by decide), if_neg (by decide)]
      · rw [zer 839 (by decide) (by decide) (by decide) (by decide) (by decide) (by decide) (by decide) (by decide), if_neg (by decide), if_neg (by decide), if_neg (by decide)]
      · rw [zer 903 (by decide) (by decide) (by decide) (by decide) (by decide) (by decide) (by decide) (by decide), if_neg (by decide), if_neg (by decide), if_pos rfl]
      · rw [zer 967 (by decide) (by decide) (by decide) (by decide) (by decide) (by decide) (by decide) (by decide), if_neg (by decide), if_neg (by decide), if_neg (by decide)]
      · rw [zer 1031 (by decide) (by decide) (by decide) (by decide) (by decide) (by decide) (by decide) (by decide), if_neg (by decide), if_pos rfl]
      · rw [zer 1095 (by decide) (by decide) (by decide) (by decide) (by decide) (by decide) (by decide) (by decide), if_pos rfl]
      · rw [← hW, ← hQ, ← hL]
        have v8' : E_ses pl wd s8 L (g_cnt u 8) (g_cnt u 11) (g_cnt u 10) (g_cnt u 9) (g_cnt s7) (Int32.ofNat l.length) (z_p2 kd vl p).1.1 := by
          rw [← c78 8 (by omega), ← c78 9 (by omega), ← c78 10 (by omega), ← c78 11 (by omega)]; exact v8
        refine ⟨hA9.2.2.2.1, hA9.2.2.2.2, fun j hj => ?_, fun j hj1 hj2 => ?_, S1, S2, (v8'.kp t1 XX8 (by rw [t7])).b (fun t => Nat.le_trans (f1.1 t) (K7.1 t))⟩
        · have : j < 3 := Nat.lt_of_lt_of_le hj a8
          rw [Wc j this, Qc j this]
          exact w5 j hj
        · rw [Wc j hj2]; exact w6 j hj1
    have q1 : z_S z_nsp (l ++ [(z_par kd vl p).1]) = z_S z_nsp l + z_S z_nss (z_p2 kd vl p).1.1 := z_S_a _ _ _
    have q2 : z_S z_ncp (l ++ [(z_par kd vl p).1]) = z_S z_ncp l + z_S z_ncs (z_p2 kd vl p).1.1 := z_S_a _ _ _
    have q3 : z_S z_ntp (l ++ [(z_par kd vl p).1]) = z_S z_ntp l + z_S z_nts (z_p2 kd vl p).1.1 := z_S_a _ _ _
    have q4 : z_tot (l ++ [(z_par kd vl p).1]) = z_tot l + (z_p2 kd vl p).1.1.length := z_tot_app _ _
    refine ⟨?_, ⟨by rw [cu7, g7, ln]; omega, by rw [c9, v4, c78 8 (by omega), g8, q4]; omega, by rw [c9, v5, c78 9 (by omega), g9, q1]; omega, by rw [c9, v6, c78 10 (by omega), g10, q2]; omega, by rw [c9, v7, c78 11 (by omega), g11, q3]; omega⟩, fun m hm => ?_⟩
    · rw [ln, (sq9.1 _).1, (sq8.1 _).1, e7, x_I_I, if_pos ⟨rfl, rfl⟩]
    · have ar9 : ∀ m, g_AR s9 A m = if m = l.length then some P else g_AR u A m := fun m => by
        rw [sA9.2.2.2.1, sA8.2.2.2.1, e7]
        show g_AR (g_setAR s2 A l.length (some P)) A m = _
        rw [x_AR_AR]
        by_cases w : m = l.length
        · rw [if_pos ⟨rfl, w⟩, if_pos w]
        · rw [if_neg (fun q => w q.2), if_neg w, sA2.2.2.2.1]
      rw [ln] at hm
      by_cases w : m < l.length
      · obtain ⟨z1, z2⟩ := gp m w
        rw [z_getD_l w, List.take_append_of_le_length (by omega), ar9, if_neg (by omega)]
        refine ⟨z1, z2.kp K9 (fun a ha => ?_)⟩
        simp only [List.mem_cons, List.not_mem_nil, or_false] at ha
        rcases ha with e | e
        · rw [e]; omega
        · rw [e]; omega
      · have em : m = l.length := by omega
        rw [em, z_getD_e, List.take_append_of_le_length (by omega), List.take_length, ar9, if_pos rfl, ← g7, ← g8, ← g9, ← g10, ← g11]
        exact ⟨by rw [hP], pa⟩
end
