/-! RUNNING (engine): rows of the answer are compared -/
/-- the first that isn't 0 -/
def r_f0 (g : Nat → Int32) (e : Int32) : Nat → Nat → Int32
  | 0, _ => e
  | d + 1, i => if g i = 0 then r_f0 g e d (i + 1) else g i
def r_ckey (X : r_Pt) : Int64 ⊕ r_Row → Int64 ⊕ r_Row → Int32
  | .inl a, .inl b => r_ck a b
  | .inr a, .inr b => r_ct X a b
  | _, _ => 0
/-- two rows of the answer; XK: the parts whose trails are keys -/
def r_car (wd n : Nat) (XK : Nat → r_Pt) (a b : r_An) : Int32 := r_f0 (fun k => r_ckey (XK k) (a.2.getD k (.inl 0)) (b.2.getD k (.inl 0))) (r_f0 (fun j => r_ck (a.1 j) (b.1 j)) 0 wd 0) n 0
theorem x_6432 {i : Nat} (h : i < 2 ^ 31) : (Int32.ofNat i).toInt64.toInt32 = Int32.ofNat i := by
  simp
section
variable {w : g_St} {Q np nt : Nat} {P cp tw ca : Nat → Nat} {Xs : Nat → r_Pt} {ua : Nat → Bool} {tbl : Nat → List (Nat → Int64)} {pr : Nat → List r_Row} {st bf : Nat → Nat} {tot : Nat} {so : Nat → Option Nat} {S ow : Nat} {its : List r_It} {ms : List (Nat ⊕ Nat)} {cds : List r_Cd} {lv : Nat → Nat} {rk : Bool} {al mr : Nat} {ks : List (Nat × Nat)} {pp : Nat → Nat} {a : List r_An × Nat × Bool}
/-- what sorting needs of the order -/
def r_oks (Xs : Nat → r_Pt) (np : Nat) (ms : List (Nat ⊕ Nat)) (ks : List (Nat × Nat)) (pp : Nat → Nat) : Prop := ∀ k, k < ks.length → (ks.getD k (0, 0)).1 < ms.length ∧ ((ks.getD k (0, 0)).2 = 4 → r_ml ms (ks.getD k (0, 0)).1 = .inl (pp k) ∧ pp k < np ∧ (Xs (pp k)).2.1.isSome = true)
theorem y_cmpr (H : X_sq w Q P np Xs cp ua nt tbl tw ca) (Ra : X_ra w al mr) (Y : X_dy w np Xs pr st bf tot) (Z : X_sel w np nt Xs tw so S ow its ms cds lv rk) (hQS : g_R w 198 Q = some S) (hO : X_or w so ks) (ok : r_oks Xs np ms ks pp) (A : X_aa w its.length ks pr pp al a) (hkk : ∀ i, i < a.1.length → ∃ ch, (a.1.getD i r_an0).2 = ks.map (r_key ch)) {x y : Nat} (hx : x < a.1.length) (hy : y < a.1.length) : f_Ru_compareRows (some 4) (Int32.ofNat x) (Int32.ofNat y) w = some (r_car its.length ks.length (fun k => Xs (pp k)) (a.1.getD x r_an0) (a.1.getD y r_an0), w) := by
  obtain ⟨⟨q1, q2, q3, q4, PA, q5, q6, q7, q8⟩, ⟨b1, b2, b3⟩, -⟩ := H
  obtain ⟨Q', O, o1, o2, o3, o4, o5, o6, o7, o8⟩ := hO
  rw [q1] at o1
  cases o1
  obtain ⟨-, ⟨k1, k2, -⟩, -⟩ := Ra
  obtain ⟨⟨A1, A2, A3, A4⟩, -⟩ := A
  have S8 := Z.1.1
  have h264 := Z.2.1.1.2.1
  have l4 := Z.2.1.1.2.2.1
  obtain ⟨F1, F2, F3, F4, F5, F6⟩ := (b3 4 (by omega)).2
  -- the items
  have its75 : ∀ (d j f : Nat), j + d = its.length → d < f → f_Ru_compareRows_75 f (some 4) (Int32.ofNat x) (Int32.ofNat y) (some 533) (Int32.ofNat j) w = some (r_f0 (fun j => r_ck ((a.1.getD x r_an0).1 j) ((a.1.getD y r_an0).1 j)) 0 d j, w) := by
    intro d
    induction d with
    | zero =>
      intro j f e1 e2
      obtain ⟨f, rfl⟩ : ∃ m, f = m + 1 := ⟨f - 1, by omega⟩
      rw [f_Ru_compareRows_75, x_gR, q1, x_gR, hQS, x_gI, h264, if_pos (by rw [x_le (by omega) (by omega)]; omega)]
      rfl
    | succ d ih =>
      intro j f e1 e2
      obtain ⟨f, rfl⟩ : ∃ m, f = m + 1 := ⟨f - 1, by omega⟩
      have F4' : g_ln w 533 = 196 := F4
      rw [f_Ru_compareRows_75, x_gR, q1, x_gR, hQS, x_gI, h264, if_neg (by rw [x_le (by omega) (by omega)]; omega), show (4 : Int32) = Int32.ofNat 4 from rfl, x_mul, x_add, x_aL (by omega) (by omega), A3 x hx j (by omega), x_mul, x_add, x_aL (by omega) (by omega), A3 y hy j (by omega), y_ck, x_c, r_f0]
      by_cases e : r_ck ((a.1.getD x r_an0).1 j) ((a.1.getD y r_an0).1 j) = 0
      · rw [if_pos e, if_pos e, x_p1]
        exact ih (j + 1) f (by omega) (by omega)
      · rw [if_neg e, if_neg e]
  have key : ∀ (d k f : Nat), k + d = ks.length → d < f → f_Ru_compareRows_2 f (some 4) (Int32.ofNat x) (Int32.ofNat y) (Int32.ofNat k) w = some (r_f0 (fun k => r_ckey (Xs (pp k)) ((a.1.getD x r_an0).2.getD k (.inl 0)) ((a.1.getD y r_an0).2.getD k (.inl 0))) (r_f0 (fun j => r_ck ((a.1.getD x r_an0).1 j) ((a.1.getD y r_an0).1 j)) 0 its.length 0) d k, w) := by
    intro d
    induction d with
    | zero =>
      intro k f e1 e2
      obtain ⟨f, rfl⟩ : ∃ m, f = m + 1 := ⟨f - 1, by omega⟩
      rw [f_Ru_compareRows_2, x_gR, q1, x_gI, o3, if_pos (by rw [x_le (by omega) (by omega)]; omega), x_gR, b1, show (4 : Int32) = Int32.ofNat 4 from rfl, x_aR (by omega) (by omega), (b3 4 (by omega)).1, x_gR, show g_R w 69 (64 * 4 + 5) = some 533 from F1]
      exact its75 its.length 0 200000 (by omega) (by omega)
    | succ d ih =>
      intro k f e1 e2
      obtain ⟨f, rfl⟩ : ∃ m, f = m + 1 := ⟨f - 1, by omega⟩
      have hk : k < ks.length := by omega
      obtain ⟨ti, t1, t2, t3, ⟨r, t4, t5⟩, t6⟩ := o8 k hk
      have kx := (A4 x hx).2 k hk
      have ky := (A4 y hy).2 k hk
      obtain ⟨cx, ex⟩ := hkk x hx
      obtain ⟨cy, ey⟩ := hkk y hy
      have em : ∀ ch, (ks.map (r_key ch)).getD k (.inl 0) = r_key ch (ks.getD k (0, 0)) := fun ch => by
        rw [List.getD_eq_getElem?_getD, List.getElem?_map, List.getD_eq_getElem?_getD, List.getElem?_eq_getElem hk]; rfl
      have cmp : ∀ vx vy, g_AL w 85 (x * 2 + k) = vx → g_AL w 85 (y * 2 + k) = vy → f_Ru_compareKeys (some 4) (some (ti * 64 + 11)) vx vy w = some (r_ckey (Xs (pp k)) ((a.1.getD x r_an0).2.getD k (.inl 0)) ((a.1.getD y r_an0).2.getD k (.inl 0)), w) := by
        intro vx vy hvx hvy
        rw [ex, em] at kx ⊢
        rw [ey, em] at ky ⊢
        rw [hvx] at kx
        rw [hvy] at ky
        unfold f_Ru_compareKeys
        rw [x_gI, t2]
        have e4 : (Int32.ofNat (ks.getD k (0, 0)).2 = 4) = ((ks.getD k (0, 0)).2 = 4) := x_eq (b := 4) (by omega) (by decide)
        unfold r_key at kx ky ⊢
        by_cases c4 : (ks.getD k (0, 0)).2 = 4
        · rw [if_pos c4] at kx ky ⊢
          rw [if_pos (by rw [e4]; exact c4)]
          obtain ⟨hs, hk4⟩ := ok k hk
          obtain ⟨m1, m2, m3⟩ := hk4 c4
          obtain ⟨-, -, ⟨A', -, -, -, c4'⟩, -⟩ := Z
          obtain ⟨r', s1, s2, s3⟩ := c4' _ hs
          rw [t4] at s1
          cases s1
          have i393 : g_I w 393 r = Int32.ofNat (pp k) := by rw [s3.2.1, m1]; rfl
          obtain ⟨ix, x1, x2, x3, x4⟩ := kx
          obtain ⟨iy, y1, y2, y3, y4⟩ := ky
          obtain ⟨l1, -⟩ := Y.1 (pp k) m2
          have tr : r_tr (Xs (pp k)) = true := by unfold r_tr; rw [m3]; rfl
          rw [tr] at l1
          have ct := y_ct (q8 (pp k) m2).2.1 (b3 (pp k) (by omega)).2 l1 m3 x2 y2
          rw [x4, y4] at ct
          rw [if_pos c4, x_gR, b1, x_gR, t5, x_gI, i393, x_aR (by omega) (by omega), (b3 (pp k) (by omega)).1, x_gR, q1, x_gR, q5, x_gR, t5, x_gI, i393, x_aR (by omega) (by omega), (q8 (pp k) m2).1, x_nn, x1, y1, x_6432 (by omega), x_6432 (by omega), ct, x_c]
          rfl
        · rw [if_neg c4] at kx ky ⊢
          rw [if_neg (by rw [e4]; exact c4), if_neg c4, y_ck, x_c]
          have kx' : vx = _ := kx
          have ky' : vy = _ := ky
          rw [kx', ky']
          rfl
      rw [f_Ru_compareRows_2, x_gR, q1, x_gI, o3, if_neg (by rw [x_le (by omega) (by omega)]; omega), x_gR, q1, x_gR, o5, x_aR (by omega) (by omega), t1, x_gR, k1, show (2 : Int32) = Int32.ofNat 2 from rfl, x_mul, x_add, x_aL (by omega) (by omega), x_gR, k1, x_mul, x_add, x_aL (by omega) (by omega), x_nn, cmp _ _ rfl rfl, x_c, r_f0]
      by_cases e : r_ckey (Xs (pp k)) ((a.1.getD x r_an0).2.getD k (.inl 0)) ((a.1.getD y r_an0).2.getD k (.inl 0)) = 0
      · rw [if_pos e, if_pos e, x_p1]
        exact ih (k + 1) f (by omega) (by omega)
      · rw [if_neg e, if_neg e]
  unfold f_Ru_compareRows r_car
  exact key ks.length 0 200000 (by omega) (by omega)
end
