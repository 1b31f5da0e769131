/-! RUNNING (reference): rows of the answer are compared -/
theorem m_ct140 (n m : Nat) (hn : n ≤ 30) (hm : m ≤ 30) (w : g_St) : f_M_compareTrails_140 (Int32.ofNat n) (Int32.ofNat m) w = some (r_cn n m, w) := by
  unfold f_M_compareTrails_140 r_cn
  by_cases a : m ≤ n
  · rw [if_pos (by rw [x_le (by omega) (by omega)]; exact a), if_pos a]
    by_cases b : n = m
    · rw [if_pos (by rw [x_le (by omega) (by omega)]; omega), if_pos b]
    · rw [if_neg (by rw [x_le (by omega) (by omega)]; omega), if_neg b]
  · rw [if_neg (by rw [x_le (by omega) (by omega)]; exact a), if_neg a]
theorem m_ctr {w : g_St} (F : m_Fix w) {q a b : Nat} {X : r_Pt} (hpc : M_pcv w q X) {br : Bool} {c : Nat} (hX : X.2.1 = some (br, c)) (ha : a ≤ 48) (hb : b ≤ 48) (hpa : g_AI w 4116 a = Int32.ofNat q) {ra rb : r_Row} (Ra : M_row w X a ra) (Rb : M_row w X b rb) (oa : ∀ x ∈ ra, r_oor (x c) = false) (ob : ∀ x ∈ rb, r_oor (x c) = false) : f_M_compareTrails (some 1) (Int32.ofNat a) (Int32.ofNat b) w = some (r_ct X ra rb, w) := by
  obtain ⟨p1, p2, p3, -, p5, -, -⟩ := hpc
  obtain ⟨y1, y2, y3⟩ := p5 br c hX
  obtain ⟨a1, a2⟩ := Ra.2.2.2.2.1 br c hX
  obtain ⟨b1, b2⟩ := Rb.2.2.2.2.1 br c hX
  have la := Ra.2.2.1
  have lb := Rb.2.2.1
  have f1 : g_R w 5121 1 = some 4180 ∧ g_ln w 4180 = 50 := F (5121, 4180, 50) (by decide)
  have f2 : g_R w 1409 1 = some 1428 ∧ g_ln w 1428 = 4 := F (1409, 1428, 4) (by decide)
  have f3 : g_R w 4993 1 = some 4116 ∧ g_ln w 4116 = 50 := F (4993, 4116, 50) (by decide)
  have f4 : g_R w 5185 1 = some 853 ∧ g_ln w 853 = 1600 := F (5185, 853, 1600) (by decide)
  unfold f_M_compareTrails
  rw [x_gR, f1.1, x_aI (by omega) (by omega), a1, x_gR, f1.1, x_aI (by omega) (by omega), b1, x_gR, f2.1, x_gR, f3.1, x_aI (by omega) (by omega), hpa, x_aI (by omega) (by omega), y1]
  unfold r_ct
  rw [hX]
  cases br with
  | true =>
    rw [if_pos rfl, if_pos rfl]
    show _ = some (if r_cn ra.length rb.length = 0 then r_ck (r_hd ra c) (r_hd rb c) else r_cn ra.length rb.length, w)
    have cn : r_cn ra.length rb.length = if rb.length ≤ ra.length then (if ra.length = rb.length then 0 else 1) else -1 := rfl
    by_cases e : ra.length = rb.length
    · have c0 : r_cn ra.length rb.length = 0 := by rw [cn, if_pos (by omega), if_pos e]
      have i1 : ∀ (x n : Nat), 1 ≤ n → (Int32.ofNat (32 * x) + Int32.ofNat n) - 1 = Int32.ofNat (32 * x + (n - 1)) := fun x n hn => by
        rw [x_add, show 32 * x + n = (32 * x + (n - 1)) + 1 by omega, x_m1]
      have va := a2 (ra.length - 1) (by omega)
      have vb := b2 (rb.length - 1) (by omega)
      rw [show ra.length - 1 - (ra.length - 1) = 0 by omega, r_hd_getD ra la.1] at va
      rw [show rb.length - 1 - (rb.length - 1) = 0 by omega, r_hd_getD rb lb.1] at vb
      have ma : r_oor (r_hd ra c) = false := by
        rw [← r_hd_getD ra la.1]
        exact oa _ (z_getD_m (by omega))
      have mb : r_oor (r_hd rb c) = false := by
        rw [← r_hd_getD rb lb.1]
        exact ob _ (z_getD_m (by omega))
      rw [if_pos (by rw [e]), x_gR, f4.1, show (32 : Int32) = Int32.ofNat 32 from rfl, x_mul, i1 a _ la.1, x_aL (by omega) (by omega), x_gR, f4.1, x_mul, i1 b _ lb.1, x_aL (by omega) (by omega), va, vb, m_ck ma mb, x_c, if_pos c0]
    · rw [if_neg (by rw [x_eq (by omega) (by omega)]; exact e)]
      by_cases g : rb.length ≤ ra.length
      · have c1 : r_cn ra.length rb.length = 1 := by rw [cn, if_pos g, if_neg e]
        rw [if_pos (by rw [x_le (by omega) (by omega)]; exact g), c1, if_neg (by decide)]
      · have c1 : r_cn ra.length rb.length = -1 := by rw [cn, if_neg g]
        rw [if_neg (by rw [x_le (by omega) (by omega)]; exact g), c1, if_neg (by decide)]
  | false =>
    rw [if_neg (by decide)]
    show _ = some (r_dg c (max ra.length rb.length) ra rb (r_cn ra.length rb.length), w)
    rw [r_dg_lx]
    have rv : ∀ (r : r_Row) (k : Nat), k < r.length → r.reverse.drop k = r.getD (r.length - 1 - k) r_c0 :: r.reverse.drop (k + 1) := fun r k hk => by
      rw [List.drop_eq_getElem_cons (by rw [List.length_reverse]; exact hk), List.getElem_reverse, List.getD_eq_getElem?_getD, List.getElem?_eq_getElem (by omega)]
      rfl
    have key : ∀ (d k f : Nat), k + d = max ra.length rb.length → d < f → f_M_compareTrails_84 f (some 1) (Int32.ofNat a) (Int32.ofNat b) (Int32.ofNat ra.length) (Int32.ofNat rb.length) (Int32.ofNat k) w = some (r_lx c (ra.reverse.drop k) (rb.reverse.drop k) (r_cn ra.length rb.length), w) := by
      intro d
      induction d with
      | zero =>
        intro k f e1 e2
        obtain ⟨f, rfl⟩ : ∃ m, f = m + 1 := ⟨f - 1, by omega⟩
        rw [f_M_compareTrails_84, if_pos (by rw [x_le (by omega) (by omega)]; omega), m_ct140 _ _ la.2 lb.2, List.drop_eq_nil_of_le (by rw [List.length_reverse]; omega)]
        rfl
      | succ d ih =>
        intro k f e1 e2
        obtain ⟨f, rfl⟩ : ∃ m, f = m + 1 := ⟨f - 1, by omega⟩
        rw [f_M_compareTrails_84]
        by_cases g1 : ra.length ≤ k
        · rw [if_pos (by rw [x_le (by omega) (by omega)]; exact g1), m_ct140 _ _ la.2 lb.2, List.drop_eq_nil_of_le (by rw [List.length_reverse]; exact g1)]
          rfl
        · rw [if_neg (by rw [x_le (by omega) (by omega)]; exact g1)]
          by_cases g2 : rb.length ≤ k
          · rw [if_pos (by rw [x_le (by omega) (by omega)]; exact g2), m_ct140 _ _ la.2 lb.2, List.drop_eq_nil_of_le (as := rb.reverse) (by rw [List.length_reverse]; exact g2)]
            cases ra.reverse.drop k <;> rfl
          · rw [if_neg (by rw [x_le (by omega) (by omega)]; exact g2), x_gR, f4.1, show (32 : Int32) = Int32.ofNat 32 from rfl, x_mul, x_add, x_aL (by omega) (by omega), x_gR, f4.1, x_mul, x_add, x_aL (by omega) (by omega), a2 k (by omega), b2 k (by omega), m_ck (oa _ (z_getD_m (by omega))) (ob _ (z_getD_m (by omega))), x_c, rv ra k (by omega), rv rb k (by omega), x_p1]
            show _ = some (if r_ck (ra.getD (ra.length - 1 - k) r_c0 c) (rb.getD (rb.length - 1 - k) r_c0 c) = 0 then r_lx c (ra.reverse.drop (k + 1)) (rb.reverse.drop (k + 1)) (r_cn ra.length rb.length) else r_ck (ra.getD (ra.length - 1 - k) r_c0 c) (rb.getD (rb.length - 1 - k) r_c0 c), w)
            by_cases g3 : r_ck (ra.getD (ra.length - 1 - k) r_c0 c) (rb.getD (rb.length - 1 - k) r_c0 c) = 0
            · rw [if_pos g3, if_pos g3]
              exact ih (k + 1) f (by omega) (by omega)
            · rw [if_neg g3, if_neg g3]
    exact key (max ra.length rb.length) 0 200000 (by omega) (by omega)
/-- the rows of the answer are in range -/
def r_aok (Xs : Nat → r_Pt) (wd : Nat) (ks : List (Nat × Nat)) (pp : Nat → Nat) (x : r_An) : Prop := (∀ j, j < wd → r_oor (x.1 j) = false) ∧ ∀ k, k < ks.length → ((ks.getD k (0, 0)).2 = 4 → ∃ r, x.2.getD k (.inl 0) = .inr r ∧ ∀ b c, (Xs (pp k)).2.1 = some (b, c) → ∀ a ∈ r, r_oor (a c) = false) ∧ ((ks.getD k (0, 0)).2 ≠ 4 → ∃ v, x.2.getD k (.inl 0) = .inl v ∧ r_oor v = false)
section
variable {w : g_St} {np nt : Nat} {Xs : Nat → r_Pt} {tw : Nat → Nat} {tbl : Nat → List (Nat → Int64)} {P : M_Pl} {ms : List (Nat ⊕ Nat)} {ks : List (Nat × Nat)} {pp : Nat → Nat} {wd : Nat} {A : List r_An}
theorem m_can (S : M_st w np nt Xs tw tbl P) (hpcs : ∀ q, q < np → M_pcv w q (Xs q)) (hor : M_ord w Xs ms ks) (hA : M_an w wd ks pp P A) (hwd : g_I w 5633 1 = Int32.ofNat wd) (wd4 : wd ≤ 4) (hpp : ∀ k, k < ks.length → (ks.getD k (0, 0)).2 = 4 → pp k < np ∧ (Xs (pp k)).2.1.isSome = true) (ok : ∀ x ∈ A, r_aok Xs wd ks pp x) {x y : Nat} (hx : x < A.length) (hy : y < A.length) : f_M_compareAnswers (some 1) (Int32.ofNat x) (Int32.ofNat y) w = some (r_car wd ks.length (fun k => Xs (pp k)) (A.getD x r_an0) (A.getD y r_an0), w) := by
  have F := S.1
  obtain ⟨a1, a2, a3⟩ := hA
  obtain ⟨o1, o2, o3⟩ := hor
  have P48 := S.2.2.1.2.1
  have f1 : g_R w 5505 1 = some 981 ∧ g_ln w 981 = 200 := F (5505, 981, 200) (by decide)
  have f2 : g_R w 5569 1 = some 1045 ∧ g_ln w 1045 = 100 := F (5569, 1045, 100) (by decide)
  have f3 : g_R w 4609 1 = some 3860 ∧ g_ln w 3860 = 2 := F (4609, 3860, 2) (by decide)
  obtain ⟨x1, x2, x3⟩ := a3 x hx
  obtain ⟨y1, y2, y3⟩ := a3 y hy
  obtain ⟨okx1, okx2⟩ := ok _ (z_getD_m (d := r_an0) hx)
  obtain ⟨oky1, oky2⟩ := ok _ (z_getD_m (d := r_an0) hy)
  -- the cells
  have cells : ∀ (d i f : Nat), i + d = wd → d < f → f_M_compareAnswers_91 f (some 1) (Int32.ofNat x) (Int32.ofNat y) (Int32.ofNat i) w = some (r_f0 (fun j => r_ck ((A.getD x r_an0).1 j) ((A.getD y r_an0).1 j)) 0 d i, w) := by
    intro d
    induction d with
    | zero =>
      intro i f e1 e2
      obtain ⟨f, rfl⟩ : ∃ m, f = m + 1 := ⟨f - 1, by omega⟩
      rw [f_M_compareAnswers_91, x_gI, hwd, if_pos (by rw [x_le (by omega) (by omega)]; omega)]
      rfl
    | succ d ih =>
      intro i f e1 e2
      obtain ⟨f, rfl⟩ : ∃ m, f = m + 1 := ⟨f - 1, by omega⟩
      rw [f_M_compareAnswers_91, x_gI, hwd, if_neg (by rw [x_le (by omega) (by omega)]; omega), x_gR, f1.1, show (4 : Int32) = Int32.ofNat 4 from rfl, x_mul, x_add, x_aL (by omega) (by omega), x_gR, f1.1, x_mul, x_add, x_aL (by omega) (by omega), x1 i (by omega), y1 i (by omega), m_ck (okx1 i (by omega)) (oky1 i (by omega)), x_c, r_f0, x_p1]
      by_cases g : r_ck ((A.getD x r_an0).1 i) ((A.getD y r_an0).1 i) = 0
      · rw [if_pos g, if_pos g]
        exact ih (i + 1) f (by omega) (by omega)
      · rw [if_neg g, if_neg g]
  -- the keys
  have keys : ∀ (d k f : Nat), k + d = ks.length → d < f → f_M_compareAnswers_2 f (some 1) (Int32.ofNat x) (Int32.ofNat y) (Int32.ofNat k) w = some (r_f0 (fun k => r_ckey (Xs (pp k)) ((A.getD x r_an0).2.getD k (.inl 0)) ((A.getD y r_an0).2.getD k (.inl 0))) (r_f0 (fun j => r_ck ((A.getD x r_an0).1 j) ((A.getD y r_an0).1 j)) 0 wd 0) d k, w) := by
    intro d
    induction d with
    | zero =>
      intro k f e1 e2
      obtain ⟨f, rfl⟩ : ∃ m, f = m + 1 := ⟨f - 1, by omega⟩
      rw [f_M_compareAnswers_2, x_gI, o1, if_pos (by rw [x_le (by omega) (by omega)]; omega)]
      exact cells wd 0 200000 (by omega) (by omega)
    | succ d ih =>
      intro k f e1 e2
      obtain ⟨f, rfl⟩ : ∃ m, f = m + 1 := ⟨f - 1, by omega⟩
      have hk : k < ks.length := by omega
      obtain ⟨-, -, q3, q4⟩ := o3 k hk
      have e73 : ∀ v : Int32, f_M_compareAnswers_73 (f_M_compareAnswers_2 f) (some 1) (Int32.ofNat x) (Int32.ofNat y) (Int32.ofNat k) v w = some (if v = 0 then r_f0 (fun k => r_ckey (Xs (pp k)) ((A.getD x r_an0).2.getD k (.inl 0)) ((A.getD y r_an0).2.getD k (.inl 0))) (r_f0 (fun j => r_ck ((A.getD x r_an0).1 j) ((A.getD y r_an0).1 j)) 0 wd 0) d (k + 1) else v, w) := fun v => by
        unfold f_M_compareAnswers_73
        by_cases g : v = 0
        · rw [if_pos g, if_pos g, x_p1]
          exact ih (k + 1) f (by omega) (by omega)
        · rw [if_neg g, if_neg g]
      rw [f_M_compareAnswers_2, x_gI, o1, if_neg (by rw [x_le (by omega) (by omega)]; omega), x_gR, f3.1, x_aI (by omega) (by omega), q3, r_f0]
      by_cases c4 : (ks.getD k (0, 0)).2 = 4
      · obtain ⟨rx, kx1, kx2⟩ := (okx2 k hk).1 c4
        obtain ⟨ry, ky1, ky2⟩ := (oky2 k hk).1 c4
        have mx := x3 k hk
        have my := y3 k hk
        rw [kx1] at mx
        rw [ky1] at my
        obtain ⟨nx, mx1, mx2⟩ := mx
        obtain ⟨ny, my1, my2⟩ := my
        obtain ⟨hp1, hp2⟩ := hpp k hk c4
        have nxl : nx < P.length := by
          by_cases g : nx < P.length
          · exact g
          · rw [List.getElem?_eq_none (by omega)] at mx2; cases mx2
        have nyl : ny < P.length := by
          by_cases g : ny < P.length
          · exact g
          · rw [List.getElem?_eq_none (by omega)] at my2; cases my2
        obtain ⟨-, rx2, rx3⟩ := S.2.2.1.2.2 nx (pp k) rx mx2
        obtain ⟨-, -, ry3⟩ := S.2.2.1.2.2 ny (pp k) ry my2
        have i64 : ∀ n : Nat, n < 48 → (Int64.ofNat n).toInt32 = Int32.ofNat n := fun n hn => by rw [← z_toI64 (by omega), x_6432 (by omega)]
        obtain ⟨bc, hbc⟩ := Option.isSome_iff_exists.mp hp2
        obtain ⟨br, cc⟩ := bc
        rw [if_pos c4, if_pos rfl, x_gR, f2.1, show (2 : Int32) = Int32.ofNat 2 from rfl, x_mul, x_add, x_aL (by omega) (by omega), x_gR, f2.1, x_mul, x_add, x_aL (by omega) (by omega), mx1, my1, i64 nx (by omega), i64 ny (by omega), x_nn, m_ctr F (hpcs _ hp1) hbc (by omega) (by omega) rx2 rx3 ry3 (kx2 br cc hbc) (ky2 br cc hbc), x_c, e73, kx1, ky1]
        rfl
      · obtain ⟨vx, kx1, kx2⟩ := (okx2 k hk).2 c4
        obtain ⟨vy, ky1, ky2⟩ := (oky2 k hk).2 c4
        have mx := x3 k hk
        have my := y3 k hk
        rw [kx1] at mx
        rw [ky1] at my
        have mx1 : g_AL w 1045 (2 * x + k) = vx := mx
        have my1 : g_AL w 1045 (2 * y + k) = vy := my
        have q5 := q4 c4
        rw [if_neg c4, if_neg (by rw [show (100 : Int32) = Int32.ofNat 100 from rfl, x_eq (by omega) (by omega)]; omega), x_gR, f2.1, show (2 : Int32) = Int32.ofNat 2 from rfl, x_mul, x_add, x_aL (by omega) (by omega), x_gR, f2.1, x_mul, x_add, x_aL (by omega) (by omega), mx1, my1, m_ck kx2 ky2, x_c, e73, kx1, ky1]
        rfl
  unfold f_M_compareAnswers r_car
  exact keys ks.length 0 200000 (by omega) (by omega)
end
