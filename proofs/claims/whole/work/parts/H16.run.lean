/-! CALLS: run: both sides -/
def t_tb (cnt : Nat → Nat) (cell : Nat → Nat → Nat → Int64) (t : Nat) : List (Nat → Int64) := (List.range (cnt t)).map fun i => cell t i
theorem t_tb_l (cnt : Nat → Nat) (cell : Nat → Nat → Nat → Int64) (t : Nat) : (t_tb cnt cell t).length = cnt t := by unfold t_tb; rw [List.length_map, List.length_range]
theorem t_tb_g {cnt : Nat → Nat} {cell : Nat → Nat → Nat → Int64} {t i : Nat} (hi : i < cnt t) : (t_tb cnt cell t).getD i r_c0 = cell t i := by
  unfold t_tb
  rw [t_gd _ (by rw [List.length_range]; exact hi) 0 r_c0, List.getD_eq_getElem?_getD, List.getElem?_range hi]
  rfl
theorem t_tb_m {cnt : Nat → Nat} {cell : Nat → Nat → Nat → Int64} {t : Nat} {c : Nat → Int64} (h : c ∈ t_tb cnt cell t) : ∃ i, i < cnt t ∧ c = cell t i := by
  unfold t_tb at h
  rw [List.mem_map] at h
  obtain ⟨i, h1, h2⟩ := h
  exact ⟨i, List.mem_range.mp h1, h2.symm⟩
theorem z_ca597 {u : g_St} (E : E_0 u) {t a : Nat} (h : g_R u 69 ((5 + t) * 64 + 5) = some a) : 597 ≤ a := by
  obtain ⟨z1, z2, z3, z4, z5⟩ := E.2.1.2 69 (by decide) _ _ h
  have m : a % 64 = 21 := z2
  have no : ∀ k' c' b l, (k', c', b, l) ∈ e_tab → k' ∈ z_aK → (k' ≠ 69 ∨ c' < 320) → a ≠ b := fun k' c' b l hm hk hc e => by
    have hr := (E.1.1 _ hm).1
    have hr' : g_R u k' c' = some a := by rw [e]; exact hr
    rcases z5 k' hk c' hr' with y | y
    · omega
    · rcases hc with hc | hc
      · exact hc y.1
      · have := y.2; omega
  have a1 := no 258 2 21 401 (by decide) (by decide) (Or.inl (by decide))
  have a2 := no 196 4 85 98 (by decide) (by decide) (Or.inl (by decide))
  have a3 := no 260 4 149 4 (by decide) (by decide) (Or.inl (by decide))
  have a4 := no 324 4 213 192 (by decide) (by decide) (Or.inl (by decide))
  have a5 := no 69 5 277 196 (by decide) (by decide) (Or.inr (by decide))
  have a6 := no 69 69 341 196 (by decide) (by decide) (Or.inr (by decide))
  have a7 := no 69 133 405 196 (by decide) (by decide) (Or.inr (by decide))
  have a8 := no 69 197 469 196 (by decide) (by decide) (Or.inr (by decide))
  have a9 := no 69 261 533 196 (by decide) (by decide) (Or.inr (by decide))
  omega
theorem e_Xfx {u : g_St} (F : e_Fix u) {p : Nat} (hp : p < 5) : X_fx u p := by
  have : p = 0 ∨ p = 1 ∨ p = 2 ∨ p = 3 ∨ p = 4 := by omega
  rcases this with e | e | e | e | e <;> rw [e]
  · exact ⟨(F.1 (69, 5, 277, 196) (by decide)).1, (F.1 (133, 5, 276, 49) (by decide)).1, (F.1 (197, 5, 340, 49) (by decide)).1, (F.1 (69, 5, 277, 196) (by decide)).2, (F.1 (133, 5, 276, 49) (by decide)).2, (F.1 (197, 5, 340, 49) (by decide)).2⟩
  · exact ⟨(F.1 (69, 69, 341, 196) (by decide)).1, (F.1 (133, 69, 404, 49) (by decide)).1, (F.1 (197, 69, 468, 49) (by decide)).1, (F.1 (69, 69, 341, 196) (by decide)).2, (F.1 (133, 69, 404, 49) (by decide)).2, (F.1 (197, 69, 468, 49) (by decide)).2⟩
  · exact ⟨(F.1 (69, 133, 405, 196) (by decide)).1, (F.1 (133, 133, 532, 49) (by decide)).1, (F.1 (197, 133, 596, 49) (by decide)).1, (F.1 (69, 133, 405, 196) (by decide)).2, (F.1 (133, 133, 532, 49) (by decide)).2, (F.1 (197, 133, 596, 49) (by decide)).2⟩
  · exact ⟨(F.1 (69, 197, 469, 196) (by decide)).1, (F.1 (133, 197, 660, 49) (by decide)).1, (F.1 (197, 197, 724, 49) (by decide)).1, (F.1 (69, 197, 469, 196) (by decide)).2, (F.1 (133, 197, 660, 49) (by decide)).2, (F.1 (197, 197, 724, 49) (by decide)).2⟩
  · exact ⟨(F.1 (69, 261, 533, 196) (by decide)).1, (F.1 (133, 261, 788, 49) (by decide)).1, (F.1 (197, 261, 852, 49) (by decide)).1, (F.1 (69, 261, 533, 196) (by decide)).2, (F.1 (133, 261, 788, 49) (by decide)).2, (F.1 (197, 261, 852, 49) (by decide)).2⟩
section
variable {u g : g_St} {nT : Nat} {cols cnt : Nat → Nat} {cell : Nat → Nat → Nat → Int64} {ca : Nat → Nat} {n : Nat} {kd pl nw nv : Nat → Nat} {wd vl : Nat → Int64} {x : z_Qu} {tc : Nat} {cq : Nat → Nat} {lv : Nat → Nat → Nat}
/-- what a run gives, of both -/
def t_run (nw : Nat → Nat) (vl : Nat → Int64) (x : z_Qu) (tc : Nat) (cq : Nat → Nat) (lv : Nat → Nat → Nat) (cnt : Nat → Nat) (cell : Nat → Nat → Nat → Int64) (mr al : Nat) : (List r_An × List (List Nat) × (Nat → List r_Row)) ⊕ Nat := r_run (t_Xs nw x) (t_cp nw x tc) (t_ua x) (t_tb cnt cell) (t_ns x) (t_nm nw x tc) (t_sl nw vl x tc cq lv) (r_rcc x.2.1.length (t_cp nw x tc) (t_rec nw x tc)) x.2.1.length (z_cmp nw x tc).2 (t_sel nw vl x tc cq (lv (z_tot x.2.1)) x.2.2.1) (t_ks nw x tc cq) mr al
theorem t_P.own (P : t_P n kd pl nw nv wd vl x tc cq lv) : r_wsl x.2.1.length tc (t_Xs nw x) (t_cp nw x tc) cq none (t_sel nw vl x tc cq (lv (z_tot x.2.1)) x.2.2.1) ∧ ∀ i, i < (t_sel nw vl x tc cq (lv (z_tot x.2.1)) x.2.2.1).2.2.1.length → (t_sel nw vl x tc cq (lv (z_tot x.2.1)) x.2.2.1).2.2.2.1 i ≤ (t_sel nw vl x tc cq (lv (z_tot x.2.1)) x.2.2.1).2.1.length ∧ r_ucd (t_Xs nw x) cq (t_sel nw vl x tc cq (lv (z_tot x.2.1)) x.2.2.1).2.1 ((t_sel nw vl x tc cq (lv (z_tot x.2.1)) x.2.2.1).2.2.2.1 i) ((t_sel nw vl x tc cq (lv (z_tot x.2.1)) x.2.2.1).2.2.1.getD i r_cd0) := by
  obtain ⟨NM, N, ⟨q, W, hq⟩, q4, hw, hcl, h3, lvok, o1⟩ := P
  have hs0 : z_tot x.2.1 < (z_sels x).length := by rw [z_sv_len]; omega
  have own := t_wsl (vl := vl) NM N hw hcl W hq lvok hs0 (h3 _ hs0) (by rw [z_sv_own]; exact o1) (t_cp nw x tc) none (fun z0 _ => by cases t_mn nw x tc z0.1 <;> rfl)
  rw [z_sv_own] at own
  exact own
theorem t_P.stl (P : t_P n kd pl nw nv wd vl x tc cq lv) : r_stl x.2.1.length tc (t_Xs nw x) (t_cp nw x tc) cq (t_ns x) (t_sl nw vl x tc cq lv) := by
  obtain ⟨NM, N, ⟨q, W, hq⟩, q4, hw, hcl, h3, lvok, o1⟩ := P
  exact t_stl NM N q4 hw hcl W hq lvok h3
theorem I_runE {Q : Nat} {b : Nat → Nat} {so : Nat → Nat → Option Nat} {mr al : Nat} (E : E_0 u) (TE : z_TE u nT (fun t => Int32.ofNat (cols t)) cnt cell ca) (tc2 : ∀ t, t < nT → ∀ i k, i < cnt t → k < 3 → r_oor (cell t i k) = false) (q3 : tc ≤ nT) (P : t_P n kd pl nw nv wd vl x tc cq lv) (Y : Y_q u Q b nw vl x tc cq lv so) (h320 : g_R u 320 0 = some Q) (hkk : r_kok (t_Xs nw x) cq (t_sel nw vl x tc cq (lv (z_tot x.2.1)) x.2.2.1).2.1 (t_ks nw x tc cq) (t_pp nw x tc cq)) (hgk : r_gc (t_sel nw vl x tc cq (lv (z_tot x.2.1)) x.2.2.1).1 ≠ 0 → t_ks nw x tc cq = []) (hpp : ∀ k, k < (t_ks nw x tc cq).length → ((t_ks nw x tc cq).getD k (0, 0)).2 = 4 → t_pp nw x tc cq k < x.2.1.length ∧ (t_Xs nw x (t_pp nw x tc cq k)).2.1.isSome = true) (h1 : 1 ≤ mr) (h2 : mr ≤ 30) (h3 : 1 ≤ al) (h4 : al ≤ 48) (rm : g_cn u + 8 ≤ 601024 ∧ g_sn u + 512 ≤ 7293034) : ∃ wb, f_E_run (some 0) (Int32.ofNat mr) (Int32.ofNat al) u = f_E_run_73 200000 (some 0) 0 wb ∧ X_bgn u wb Q mr al ∧ X_fin (f_E_run_73 200000 (some 0) 0 wb) wb (t_sel nw vl x tc cq (lv (z_tot x.2.1)) x.2.2.1).1.length (t_ks nw x tc cq).length (z_cmp nw x tc).2 x.2.1.length (fun k => t_Xs nw x (t_pp nw x tc cq k)) (t_run nw vl x tc cq lv cnt cell mr al) := by
  obtain ⟨wb, b1, b2⟩ := y_begin E.1 h320 h1 h2 h3 h4
  refine ⟨wb, b1, b2, ?_⟩
  have own := P.own
  have Z := P.stl
  obtain ⟨NM, N, ⟨q, W, hq⟩, q4, hw, hcl, hs3, lvok, o1⟩ := P
  have Yb := Y.ag b2.ag
  obtain ⟨⟨y1, y2, y3, y4⟩, ⟨PA, p1, p2, p3, p4⟩, ysl, ⟨now, yow⟩, y198, ⟨O, o2, o3, o4, o5, o6, o7⟩⟩ := Yb
  obtain ⟨⟨bc, bn, bs, bL, bAR, bln, bAL, bAI⟩, bR, bI, ⟨r452, r516, r580, r644, r708, r448⟩, bz⟩ := b2
  have b2 : X_bgn u wb Q mr al := ⟨⟨bc, bn, bs, bL, bAR, bln, bAL, bAI⟩, bR, bI, ⟨r452, r516, r580, r644, r708, r448⟩, bz⟩
  have n5 := TE.2.1
  have nc4 : (z_cmp nw x tc).2 ≤ 4 := by
    have := (z_cmp_cls (nw := nw) (x := x) (tc := tc) y3).2.2
    omega
  have SQ : X_sq wb Q (fun q => (b 7 + q) * 64 + 7) x.2.1.length (t_Xs nw x) (t_cp nw x tc) (t_ua x) tc (t_tb cnt cell) cq ca := by
    refine ⟨⟨r452, y1, y2, y3, PA, p1, p2, p3, fun q hq => ?_⟩, ⟨?_, ?_, fun i hi => ⟨?_, ?_⟩⟩, r516, ?_, by omega, fun t ht => ?_⟩
    · obtain ⟨d1, d2, d3, d4, d5, d6⟩ := p4 q hq
      exact ⟨d1, d2, d3, d4, d5⟩
    · rw [bR _ _ (by decide)]; exact (E.1.1 (4, 4, 93, 5) (by decide)).1
    · rw [bln]; exact (E.1.1 (4, 4, 93, 5) (by decide)).2
    · rw [bAR]; exact E.1.2.2.2.2.1 i hi
    · obtain ⟨f1, f2, f3, f4, f5, f6⟩ := e_Xfx E.1 hi
      exact ⟨by rw [bR _ _ (fun h => by have := h.1; omega)]; exact f1, by rw [bR _ _ (fun h => by have := h.1; omega)]; exact f2, by rw [bR _ _ (fun h => by have := h.1; omega)]; exact f3, by rw [bln]; exact f4, by rw [bln]; exact f5, by rw [bln]; exact f6⟩
    · rw [bln]; exact (E.1.1 (0, 0, 29, 5) (by decide)).2
    · obtain ⟨a1, a2, a3, a4, a5, a6, a7⟩ := TE.2.2.2 t (by omega)
      refine ⟨by rw [bAR]; exact a1, by rw [bR _ _ (fun h => by have := h.1; omega)]; exact a2, z_ca597 E a2, by rw [bln]; exact a3, ?_, by rw [t_tb_l]; exact a6, hcl t ht, fun i hi j hj => ?_⟩
      · rw [t_tb_l, bI _ _ (fun h => by have := h.1; omega) (fun h => by have := h.1; omega) (fun h => by have := h.2.1; omega)]
        exact a5
      · rw [t_tb_l] at hi
        have := hcl t ht
        rw [t_tb_g hi, bAL, Nat.mul_comm]
        exact a7 i j hi (by omega)
  have oks : ∀ k, k < (t_ks nw x tc cq).length → ((t_ks nw x tc cq).getD k (0, 0)).2 ≠ 4 → r_V (t_Xs nw x) cq (r_ml (t_sel nw vl x tc cq (lv (z_tot x.2.1)) x.2.2.1).2.1 ((t_ks nw x tc cq).getD k (0, 0)).1) ((t_ks nw x tc cq).getD k (0, 0)).2 ∧ ((t_ks nw x tc cq).getD k (0, 0)).2 ≤ 3 := fun k hk h4 => by
    obtain ⟨k1, k2, -⟩ := hkk k hk
    obtain ⟨m1, m2⟩ := own.1.2.2.1 _ k1
    refine t_WV hw hcl ?_ (k2 h4)
    cases hm : r_ml (t_sel nw vl x tc cq (lv (z_tot x.2.1)) x.2.2.1).2.1 ((t_ks nw x tc cq).getD k (0, 0)).1 with
    | inl q => exact m1 q hm
    | inr t => exact m2 t hm
  exact y_run (rc := r_rcc x.2.1.length (t_cp nw x tc) (t_rec nw x tc)) (pp := t_pp nw x tc cq) SQ (b2.ra E.1 h2 h4 rm) ysl (by rw [bR _ _ (by decide)]; exact h320) (by rw [bR _ _ (by decide)]; exact E.1.2.2.2.1) y4 nc4 (fun i q hi hq hc => by
      rw [t_rcc y3 hq hc]
      exact (p4 q hq).2.2.2.2.2) (t_hex y3) (b2.dy y3 _) (bz 4 (by decide)).1 (fun t ht c hc j hj => by
      obtain ⟨i, i1, i2⟩ := t_tb_m hc
      have := hcl t ht
      rw [i2]
      exact tc2 t (by omega) i j i1 (by omega)) (fun q k hq hk => ⟨(Z.1 q k hq hk).1, (Z.1 q k hq hk).2.1, (Z.1 q k hq hk).2.2.1⟩) yow own.1 y198 ⟨Q, O, r452, y1, o2, o3, o4, o5, o6, o7⟩ (fun k hk => ⟨(hkk k hk).1, oks k hk, (hkk k hk).2.2⟩) (fun k hk => ⟨(hkk k hk).1, fun e => ⟨(hkk k hk).2.2 e, hpp k hk e⟩⟩) hgk
end
