/-! THE QUERY AS THE RUN HAS IT: the engine behind prepare -/
section
variable {n q : Nat} {kd pl nw nv : Nat → Nat} {wd vl : Nat → Int64} {c : z_Cx} {A O : Nat} {b : Nat → Nat} {x : z_Qu} {tc : Nat} {cols : Nat → Nat} {xs ys : List Nat} {u v : g_St}
theorem t_cpa (C : t_C n q kd pl nw nv wd vl c A O b x tc cols xs ys u v) {m : Nat} (hm : m < x.2.1.length) : Y_pa v nw x tc ((b 7 + m) * 64 + 7) m := by
  have hw := C.hw m hm
  obtain ⟨NM, N, S, W, hq, D, -⟩ := C
  have V := D.1
  have q4 := S.1.1.2.2.1
  obtain ⟨ow1, ow2⟩ := t_nf_own N hm
  obtain ⟨-, P⟩ := S.1.2.2.1 m hm
  obtain ⟨p1, p2, p3, p4, aW, aQ, aL, p5, p6, p7, p8, p9, p10, p11, p12⟩ := P
  obtain ⟨cn1, cn2⟩ := D.2.2.2.1 m hm
  have rec1 := (D.2.2.2.2.2.1 m hm).1
  have oc1 := D.2.2.2.2.2.2.1.1 m hm
  have cls := (z_cmp_cls (nw := nw) (x := x) (tc := tc) q4)
  have c4 := cls.2.1 m hm
  have c5 := cls.2.2
  refine ⟨⟨by omega, ⟨hw, fun c h => ?_, fun c h => ?_⟩, by rw [V.I (by decide)]; exact p2.2.2.1, ?_, ?_, ?_, ?_, ?_, by rw [V.I (by decide)]; exact p2.2.2.2.2.1⟩, oc1, by show (z_cmp nw x tc).1 m ≤ 4; omega, by rw [V.I (by decide)]; exact p2.2.2.2.2.2, rec1⟩
  · obtain ⟨y, hy, he⟩ := Option.map_eq_some_iff.mp (show (x.2.1.getD m z_pa0).2.2.2.2.1.map _ = some c from h)
    obtain ⟨cc, o1, o2⟩ := ow1 y hy
    rw [o1] at he
    rw [← he]
    exact o2
  · obtain ⟨y, hy, he⟩ := Option.map_eq_some_iff.mp (show (x.2.1.getD m z_pa0).2.2.2.2.2.map _ = some c from h)
    obtain ⟨cc, o1, o2⟩ := ow2 y hy
    rw [o1] at he
    rw [← he]
    exact o2
  · rw [V.I (by decide)]
    show _ = z_g ((x.2.1.getD m z_pa0).2.2.2.2.1.map _).isSome
    rw [Option.isSome_map]
    cases hx : (x.2.1.getD m z_pa0).2.2.2.2.1 with
    | none => rw [hx] at p10; exact p10.1
    | some y => rw [hx] at p10; exact p10.1
  · rw [V.I (by decide)]
    show _ = z_g ((x.2.1.getD m z_pa0).2.2.2.2.2.map _).isSome
    rw [Option.isSome_map]
    cases hx : (x.2.1.getD m z_pa0).2.2.2.2.2 with
    | none => rw [hx] at p11; exact p11.1
    | some y => rw [hx] at p11; exact p11.1
  · rw [V.I (by decide)]
    show _ = z_g (((x.2.1.getD m z_pa0).2.2.2.2.1.map (fun s => (s.1, (z_own1 nw (x.2.1.getD m z_pa0) (s.2 + 3)).getD 0))).any (·.1))
    cases hx : (x.2.1.getD m z_pa0).2.2.2.2.1 with
    | none => rw [hx] at p10; exact p10.2.1
    | some y => rw [hx] at p10; exact p10.2.1
  · rw [cn1]
    show _ = z_oc (((x.2.1.getD m z_pa0).2.2.2.2.1.map (fun s => (s.1, (z_own1 nw (x.2.1.getD m z_pa0) (s.2 + 3)).getD 0))).map (·.2))
    unfold z_sc
    cases hx : (x.2.1.getD m z_pa0).2.2.2.2.1 with
    | none => rfl
    | some y =>
      obtain ⟨cc, o1, o2⟩ := ow1 y hx
      show z_oc (z_own1 nw (x.2.1.getD m z_pa0) (y.2 + 3)) = z_oc (some ((z_own1 nw (x.2.1.getD m z_pa0) (y.2 + 3)).getD 0))
      rw [o1]
      rfl
  · rw [cn2]
    show _ = z_oc ((x.2.1.getD m z_pa0).2.2.2.2.2.map (fun s => (z_own1 nw (x.2.1.getD m z_pa0) s).getD 0))
    unfold z_cy
    cases hx : (x.2.1.getD m z_pa0).2.2.2.2.2 with
    | none => rfl
    | some y =>
      obtain ⟨cc, o1, o2⟩ := ow2 y hx
      show z_oc (z_own1 nw (x.2.1.getD m z_pa0) y) = z_oc (some ((z_own1 nw (x.2.1.getD m z_pa0) y).getD 0))
      rw [o1]
      rfl
/-- how often a selection names its component -/
theorem t_cnm (C : t_C n q kd pl nw nv wd vl c A O b x tc cols xs ys u v) {m k : Nat} (hm : m < x.2.1.length) (hk : k < (x.2.1.getD m z_pa0).2.2.1.length) (h2 : xs.length ≤ 2000) : ∃ e, g_I v 648 ((b 8 + (t_fs x m + k)) * 64 + 8) = Int32.ofNat e ∧ e ≤ 2000 ∧ (t_nm nw x tc m k = true ↔ 0 < e) := by
  obtain ⟨NM, N, S, W, hq, D, -⟩ := C
  obtain ⟨g1, g2⟩ := z_sels_get (x := x) hm hk
  have sv : z_sv x (t_fs x m + k) = (m, (x.2.1.getD m z_pa0).2.2.1.getD k z_se0) := g1
  have hs : t_fs x m + k < (z_sels x).length := g2
  obtain ⟨e, e1, e2, e3, -⟩ := D.2.2.2.2.2.2.2 _ hs
  refine ⟨e, e1, by omega, ?_⟩
  rw [e3]
  unfold t_nm
  rw [List.any_eq_true]
  have cn9 := S.2.2.2.1.1
  constructor
  · rintro ⟨t, t1, t2⟩
    obtain ⟨sl, h⟩ := z_srt_m.mp t1
    have h' : q_so (z_sv x (t_fs x m + k)).2 sl t := by rw [sv]; exact h
    obtain ⟨a, a1, a2, a3⟩ := k_src9' S.1 hs h'
    exact ⟨a, a1, by omega, sl, t, h', a3, by rw [sv]; exact t2⟩
  · rintro ⟨a, a1, a2, sl, t, h1, h2, h3⟩
    rw [sv] at h1 h3
    exact ⟨t, z_srt_m.mpr ⟨sl, h1⟩, h3⟩
/-- ORDER BY -/
theorem t_cor (C : t_C n q kd pl nw nv wd vl c A O b x tc cols xs ys u v) : Y_or v c.1 (t_so u b x (z_tot x.2.1)) (t_ks nw x tc cols) := by
  have hs : z_tot x.2.1 < (z_sels x).length := by rw [z_sv_len]; omega
  have hw := C.hw
  have hcl := C.hcl
  have h3 := C.h3 _ hs
  have hso := t_hso0 C hs none
  obtain ⟨NM, N, S, W, hq, D, -⟩ := C
  have V := D.1
  have qr := S.1.2.2.2.2.2.2
  have qA := S.1.2.1
  have lk : (t_ks nw x tc cols).length = (t_ot x).length := List.length_map _
  have gk : ∀ k, k < (t_ot x).length → (t_ks nw x tc cols).getD k (0, 0) = t_k1 nw x tc cols ((t_ot x).getD k 0) := fun k hk => t_gd _ hk 0 (0, 0)
  have cnt : g_I u 326 c.1 = Int32.ofNat (t_ot x).length ∧ (t_ot x).length ≤ 2 := by
    unfold t_ot
    cases hx : x.2.2.2 with
    | none => rw [hx] at qr; exact ⟨qr.1, Nat.zero_le _⟩
    | some y => rw [hx] at qr; exact ⟨qr.1, qr.2.2.1⟩
  refine ⟨O, by rw [V.I (by decide), lk]; exact cnt.1, by rw [lk]; exact cnt.2, by rw [V.R (by decide)]; exact qA.2.2.2.1.2, qA.1.2, by rw [V.ln]; exact qA.2.2.2.2.2, fun k hk => ?_⟩
  rw [lk] at hk
  rw [gk k hk]
  obtain ⟨i0, i1, i2, i3, i4, i5⟩ : ∃ i0, g_AR u O k = some (i0 * 64 + 11) ∧ i0 < g_cnt u 11 ∧ E_ot pl wd u (i0 * 64 + 11) (some ((b 8 + z_tot x.2.1) * 64 + 8)) ((t_ot x).getD k 0) ∧ b 11 ≤ i0 ∧ z_isn n kd ((t_ot x).getD k 0) ∧ z_isn n kd ((t_ot x).getD k 0 + 2) := by
    unfold t_ot at hk ⊢
    cases hx : x.2.2.2 with
    | none => rw [hx] at hk; cases hk
    | some y =>
      rw [hx] at hk qr
      obtain ⟨r1, r2, r3, r4, r5⟩ := qr
      obtain ⟨g1, g2, g3⟩ := r5 k hk
      obtain ⟨aa, bb, w1, w2, w3, w4, w5⟩ := W
      rw [hx] at w4
      obtain ⟨v1, v2, v3, v4⟩ := w4
      obtain ⟨p1, q1, d1, d2, d3, d4, d5, d6⟩ := v3.all _ (z_getD_m (d := 0) hk)
      have n1 : y.2.getD k 0 < n := by omega
      have n2 : y.2.getD k 0 + 2 < n := by omega
      exact ⟨_, g1, g2, g3, by omega, ⟨n1, d5⟩, ⟨n2, d6⟩⟩
  have mem : (t_ot x).getD k 0 ∈ t_ot x := z_getD_m hk
  generalize (t_ot x).getD k 0 = t at i3 i5 mem ⊢
  rw [z_sv_own] at h3
  obtain ⟨sl, cc, m, g1, g2, g3, g4, g5, g6, g7, g8, g9, g10⟩ := t_ocl N hcl hw h3 mem
  have e1 : (t_k1 nw x tc cols t).1 = sl := by unfold t_k1; rw [g1]; rfl
  have e2 : (t_k1 nw x tc cols t).2 = cc := by unfold t_k1; rw [g2]; rfl
  obtain ⟨f1, f2, f3, f4, f5, f6, f7, f8, f9, f10, f11⟩ := i3
  have hy : (i0 * 64 + 11) ∈ ys := (S.2.2.2.2.1 _).mpr ⟨i0, i4, i2, rfl, by rw [f6]; exact f7⟩
  have tf : E_tff n kd pl wd b x u (i0 * 64 + 11) (z_tot x.2.1) none none t := ⟨hs, f3, f4, Or.inl rfl, f5, f6, i5.1, i5.2, fun w hw => by cases hw⟩
  obtain ⟨r1, r2⟩ := D.2.2.1.1 _ hy _ _ _ _ tf
  rw [z_sv_own] at r1 r2
  have r1' : g_R v 523 (i0 * 64 + 11) = E_srO u ((b 8 + z_tot x.2.1) * 64 + 8) none (z_slt nw x.2.2.1.2.2.1 t none) := r1
  have r2' : g_I v 587 (i0 * 64 + 11) = z_oc (z_tcl nw x.2.1 tc cols x.2.2.1.2.2.1 none t) := r2
  rw [g1] at r1'
  rw [g2] at r2'
  obtain ⟨rr, q1, q2⟩ := hso sl (Or.inl (by rw [z_sv_own]; exact g3))
  rw [q2] at r1'
  rw [e1, e2]
  refine ⟨i0, by rw [V.AR]; exact i1, r2', g7, ⟨rr, q1, r1'⟩, fun c4 => ?_⟩
  rw [show t_k1 nw x tc cols t = (sl, cc) from Prod.ext e1 e2]
  refine ⟨Nat.le_refl _, (show (1 : Nat) ≤ 205 by decide), fun j hj => ?_⟩
  have j0 : j = 0 := by have : j < 1 := hj; omega
  rw [j0]
  refine ⟨⟨by rw [Nat.add_zero, V.I (by decide)]; exact f1, rr, q1, by rw [Nat.add_zero]; exact r1', by rw [Nat.add_zero]; exact r2', ?_⟩, by
    rw [show (i0 + 0) * 64 + 11 = i0 * 64 + 11 from rfl, V.R (by decide), f11]; rfl⟩
  exact (t_WV hw hcl g6 (g8 c4)).2
/-- the engine's query, whole -/
theorem t_cyq (C : t_C n q kd pl nw nv wd vl c A O b x tc cols xs ys u v) (hc6 : c.1 % 64 = 6) (h1 : 1 ≤ x.2.2.1.2.1.length) (hxs : xs.length ≤ 2000) : Y_q v c.1 b nw vl x tc cols (t_lv u v b) (t_so u b x) := by
  have q4 := C.2.2.1.1.1.2.2.1
  have V := C.2.2.2.2.2.1.1
  have hs0 : z_tot x.2.1 < (z_sels x).length := by rw [z_sv_len]; omega
  have lvok := t_clv C
  have Z : r_stl x.2.1.length tc (t_Xs nw x) (t_cp nw x tc) cols (t_ns x) (t_sl nw vl x tc cols (t_lv u v b)) := t_stl C.1 C.2.1 q4 C.hw C.hcl C.2.2.2.1 C.2.2.2.2.1 lvok C.h3
  have own := t_wsl (vl := vl) C.1 C.2.1 C.hw C.hcl C.2.2.2.1 C.2.2.2.2.1 lvok hs0 (C.h3 _ hs0) (by rw [z_sv_own]; exact h1) (t_cp nw x tc) none (fun z0 _ => by cases t_mn nw x tc z0.1 <;> rfl)
  refine ⟨⟨hc6, by rw [V.I (by decide)]; exact C.2.2.1.1.1.2.1, q4, C.2.2.2.2.2.1.2.2.2.2.2.2.1.2⟩, ⟨A, by rw [V.R (by decide)]; exact C.2.2.1.1.2.1.2.2.2.1.1, C.2.2.1.1.2.1.1.1, by rw [V.ln]; exact C.2.2.1.1.2.1.2.2.2.2.1, fun m hm => ⟨by rw [V.AR]; exact (C.2.2.1.1.2.2.1 m hm).1, t_cpa C hm⟩⟩, fun m hm => ?_, ?_, by rw [V.R (by decide)]; exact C.2.2.1.1.2.2.2.1, t_cor C⟩
  · obtain ⟨-, P⟩ := C.2.2.1.1.2.2.1 m hm
    obtain ⟨p1, p2, p3, p4, aW, aQ, aL, p5, p6, p7, p8, p9, p10, p11, p12⟩ := P
    refine ⟨by show ((b 7 + m) * 64 + 7) % 64 = 7; omega, by show g_I v 711 ((b 7 + m) * 64 + 7) = _; rw [V.I (by decide)]; exact p2.2.2.2.1, p4.2, aL * 64 + 25, by show g_R v 647 ((b 7 + m) * 64 + 7) = _; rw [V.R (by decide)]; exact p6.2.2, by omega, by rw [V.ln]; exact p7.2.2, fun k hk => ?_⟩
    have hk' : k < (x.2.1.getD m z_pa0).2.2.1.length := hk
    obtain ⟨g1, g2⟩ := z_sels_get (x := x) hm hk'
    have sv : z_sv x (t_fs x m + k) = (m, (x.2.1.getD m z_pa0).2.2.1.getD k z_se0) := g1
    have hs : t_fs x m + k < (z_sels x).length := g2
    obtain ⟨z1, z2, z3, z4, -⟩ := Z.1 m k hm hk
    have sl := t_csel C hs (by rw [sv]; exact z1.2.2.2.1) (fun i hi => by
      rw [sv] at hi ⊢
      have := (z4 i (by show i < (List.map _ _).length; rw [List.length_map]; exact hi)).2
      have t2 : r_ucd (t_Xs nw x) cols (t_ms nw x tc ((x.2.1.getD m z_pa0).2.2.1.getD k z_se0).2.2.1) (t_lv u v b (t_fs x m + k) i) ((((x.2.1.getD m z_pa0).2.2.1.getD k z_se0).2.2.2.map (t_co nw vl x tc cols ((x.2.1.getD m z_pa0).2.2.1.getD k z_se0).2.2.1)).getD i r_cd0) := this
      rw [t_gd _ hi z_co0] at t2
      exact t2)
    rw [sv] at sl
    refine ⟨?_, ?_, t_cnm C hm hk' hxs⟩
    · rw [V.AR]
      have := (p12 k hk').1
      rw [Nat.add_assoc] at this
      exact this
    · have e : min m x.2.1.length = m := by omega
      have sl' : X_sel v x.2.1.length tc (t_Xs nw x) cols (t_so u b x (t_fs x m + k)) ((b 8 + (t_fs x m + k)) * 64 + 8) (min m x.2.1.length) (t_sl nw vl x tc cols (t_lv u v b) m k).1 (t_sl nw vl x tc cols (t_lv u v b) m k).2.1 (t_sl nw vl x tc cols (t_lv u v b) m k).2.2.1 (t_sl nw vl x tc cols (t_lv u v b) m k).2.2.2.1 (t_sl nw vl x tc cols (t_lv u v b) m k).2.2.2.2 := sl
      rw [e] at sl'
      exact sl'
  · rw [z_sv_own] at own
    obtain ⟨o1, o2⟩ := own
    have sl := t_csel C hs0 (by rw [z_sv_own]; exact o1.2.2.2.1) (fun i hi => by
      rw [z_sv_own] at hi ⊢
      have := (o2 i (by show i < (List.map _ _).length; rw [List.length_map]; exact hi)).2
      have t2 : r_ucd (t_Xs nw x) cols (t_ms nw x tc x.2.2.1.2.2.1) (t_lv u v b (z_tot x.2.1) i) ((x.2.2.1.2.2.2.map (t_co nw vl x tc cols x.2.2.1.2.2.1)).getD i r_cd0) := this
      rw [t_gd _ hi z_co0] at t2
      exact t2)
    rw [z_sv_own] at sl
    exact ⟨_, sl⟩
end
