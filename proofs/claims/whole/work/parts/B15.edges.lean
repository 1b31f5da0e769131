/-! THE CHECK: what a part names (reference) -/
theorem z_sy_get : ∀ (l : List z_Pa) (k0 j m : Nat), j < l.length → m < (l.getD j z_pa0).2.2.1.length → (z_sy k0 l).getD (z_tot (l.take j) + m) (0, z_se0) = (k0 + j, (l.getD j z_pa0).2.2.1.getD m z_se0) ∧ z_tot (l.take j) + m < z_tot l := by
  intro l
  induction l with
  | nil => intro k0 j m hj; cases hj
  | cons X l ih =>
    intro k0 j m hj hm
    rw [z_sy, z_tot_cons]
    cases j with
    | zero =>
      have w : m < X.2.2.1.length := hm
      have e : (X.2.2.1.map (fun y => (k0, y)) ++ z_sy (k0 + 1) l).getD m (0, z_se0) = (k0, X.2.2.1.getD m z_se0) := by
        rw [List.getD_eq_getElem?_getD, List.getElem?_append_left (by rw [List.length_map]; exact w), List.getElem?_map, List.getD_eq_getElem?_getD, List.getElem?_eq_getElem w]; rfl
      rw [List.take_zero, show z_tot [] + m = m from Nat.zero_add m]
      exact ⟨e, by omega⟩
    | succ j =>
      have hj' : j < l.length := Nat.lt_of_succ_lt_succ hj
      have hm' : m < (l.getD j z_pa0).2.2.1.length := hm
      obtain ⟨g1, g2⟩ := ih (k0 + 1) j m hj' hm'
      rw [List.take_succ_cons, z_tot_cons, show k0 + (j + 1) = k0 + 1 + j from (by omega)]
      refine ⟨?_, by omega⟩
      rw [List.getD_eq_getElem?_getD, List.getElem?_append_right (by rw [List.length_map]; omega), List.length_map, show X.2.2.1.length + z_tot (l.take j) + m - X.2.2.1.length = z_tot (l.take j) + m from (by omega), ← List.getD_eq_getElem?_getD]
      exact g1
theorem z_sels_get {x : z_Qu} {j m : Nat} (hj : j < x.2.1.length) (hm : m < (x.2.1.getD j z_pa0).2.2.1.length) : (z_sels x).getD (z_tot (x.2.1.take j) + m) (0, z_se0) = (j, (x.2.1.getD j z_pa0).2.2.1.getD m z_se0) ∧ z_tot (x.2.1.take j) + m < (z_sels x).length := by
  obtain ⟨g1, g2⟩ := z_sy_get x.2.1 0 j m hj hm
  unfold z_sels
  rw [List.length_append, z_sy_len, List.getD_eq_getElem?_getD, List.getElem?_append_left (by rw [z_sy_len]; exact g2), ← List.getD_eq_getElem?_getD, g1, Nat.zero_add]
  exact ⟨rfl, by omega⟩
/-- what a part names -/
def z_edg (nw : Nat → Nat) (x : z_Qu) (tc k : Nat) : Nat := (x.2.1.getD k z_pa0).2.2.1.foldl (fun a y => a ||| z_nmd nw x.2.1 tc y) 0
section
variable {n : Nat} {kd pl nw nv : Nat → Nat} {wd vl : Nat → Int64}
theorem M_all.W {wI wA : List Nat} {u v : g_St} {C : Nat → Nat} {x : z_Qu} {tc : Nat} {cols : Nat → Nat} (h : M_all n kd nw u C x tc cols) (w : z_W wI wA u v) (h1 : ∀ a ∈ z_rA ++ [1748, 1812, 3796, 3860], a ∉ wA) : M_all n kd nw v C x tc cols := by
  have A : ∀ a ∈ z_rA ++ [1748, 1812, 3796, 3860], g_AI v a = g_AI u a := fun a ha => (w.2.2.2.2.2.2.2.2 a (h1 a ha)).1
  obtain ⟨a1, a2, a3⟩ := h
  refine ⟨fun k hk => ⟨fun y e => ?_, fun y e => ?_⟩, fun s hs => (a2 s hs).A (fun a ha => A a (List.mem_append_left _ ha)), fun y e j hj => ⟨?_, ?_⟩⟩
  · rw [A 1748 (by decide)]; exact (a1 k hk).1 y e
  · rw [A 1812 (by decide)]; exact (a1 k hk).2 y e
  · rw [A 3796 (by decide)]; exact (a3 y e j hj).1
  · rw [A 3860 (by decide)]; exact (a3 y e j hj).2
theorem M_all.sel {u : g_St} {C : Nat → Nat} {x : z_Qu} {tc : Nat} {cols : Nat → Nat} (h : M_all n kd nw u C x tc cols) {j m : Nat} (hj : j < x.2.1.length) (hm : m < (x.2.1.getD j z_pa0).2.2.1.length) : M_rse n kd nw u C x.2.1 tc cols (z_tot (x.2.1.take j) + m) ((x.2.1.getD j z_pa0).2.2.1.getD m z_se0) := by
  obtain ⟨g1, g2⟩ := z_sels_get hj hm
  have := h.2.1 _ g2
  rw [g1] at this
  exact this
def z_wC : List Nat := [3924, 3988, 4052]
/-- a part's edges, as findComponents has them before it closes them -/
def M_ed (u : g_St) (k e : Nat) : Prop := g_AI u 3924 k = Int32.ofNat e ∧ g_AI u 3988 k = Int32.ofNat e ∧ g_AI u 4052 k = -1 ∧ e < 16
theorem b_fc1 {u0 : g_St} {C : Nat → Nat} {x : z_Qu} {tc : Nat} {cols : Nat → Nat} (K : M_ck n kd pl vl u0 C x tc cols) (hA : M_all n kd nw u0 C x tc cols) : ∃ u', f_M_findComponents (some 1) u0 = f_M_findComponents_84 200000 (some 1) 0 u' ∧ z_W [] z_wC u0 u' ∧ ∀ k, k < x.2.1.length → M_ed u' k (z_edg nw x tc k) := by
  have Q := K.2.2.1
  have q4 := Q.2.2.2.1
  have lim : z_lim C := Q.2.2.2.2.2.2.2.2.2.2
  have KW : ∀ {u : g_St}, z_W [] z_wC u0 u → M_ck n kd pl vl u C x tc cols := fun w => K.W w (by decide) (by decide) (by decide) (by decide)
  have AW : ∀ {u : g_St}, z_W [] z_wC u0 u → M_all n kd nw u C x tc cols := fun w => hA.W w (by decide)
  have key : ∀ d k f u, k + d = x.2.1.length → d < f → z_W [] z_wC u0 u → (∀ j, j < k → M_ed u j (z_edg nw x tc j)) → ∃ u', f_M_findComponents_2 f (some 1) (Int32.ofNat k) u = f_M_findComponents_84 200000 (some 1) 0 u' ∧ z_W [] z_wC u0 u' ∧ ∀ j, j < x.2.1.length → M_ed u' j (z_edg nw x tc j) := by
    intro d
    induction d with
    | zero =>
      intro k f u h1 h2 h3 h4
      obtain ⟨f, rfl⟩ : ∃ m, f = m + 1 := ⟨f - 1, by omega⟩
      have c1 : g_I u 1153 1 = Int32.ofNat x.2.1.length := by rw [(KW h3).2.2.1.1 1153 (by decide), Q.2.2.1]
      rw [f_M_findComponents_2, x_gI, c1, if_pos (by rw [x_le (by omega) (by omega)]; omega)]
      exact ⟨u, rfl, h3, fun j hj => h4 j (by omega)⟩
    | succ d ih =>
      intro k f u h1 h2 h3 h4
      obtain ⟨f, rfl⟩ : ∃ m, f = m + 1 := ⟨f - 1, by omega⟩
      have c1 : g_I u 1153 1 = Int32.ofNat x.2.1.length := by rw [(KW h3).2.2.1.1 1153 (by decide), Q.2.2.1]
      have hk : k < x.2.1.length := by omega
      have hm := (KW h3).1
      obtain ⟨s3, e3⟩ : ∃ s3, s3 = g_setAI u 3924 k 0 := ⟨_, rfl⟩
      have W3 : z_W [] z_wC u0 s3 := by rw [e3]; exact h3.sI (by decide) _ _
      rw [f_M_findComponents_2, x_gI, c1, if_neg (by rw [x_le (by omega) (by omega)]; omega), x_gR, (m_at hm m_k4673).1, x_sI (by omega) (by rw [(m_at hm m_k4673).2]; omega), ← e3]
      have ps := Q.2.2.2.2.1 k hk
      obtain ⟨v, r1, r2, r3, r4, r5⟩ := z_fr (x.2.1.getD k z_pa0).2.2.1 z_se0 (fun g i v => f_M_findComponents_19 (f_M_findComponents_2 f) g (some 1) (Int32.ofNat k) (Int32.ofNat i) v) (fun v => f_M_findComponents_2 f (some 1) (Int32.ofNat (k + 1)) (g_setAI (g_setAI v 3988 k (g_AI v 3924 k)) 4052 k (-1))) (fun v (a : Nat) => z_W [] z_wC u0 v ∧ g_AI v 3924 k = Int32.ofNat a ∧ a < 16 ∧ ∀ j, j ≠ k → g_AI v 3924 j = g_AI u 3924 j ∧ g_AI v 3988 j = g_AI u 3988 j ∧ g_AI v 4052 j = g_AI u 4052 j) (fun a y => a ||| z_nmd nw x.2.1 tc y)
        (fun g v a hI => by
          have hmv := (KW hI.1).1
          have pv := (KW hI.1).2.2.1.2.2.2.2.1 k hk
          have hm6 : m_Fix (g_setAI v 3988 k (g_AI v 3924 k)) := ((hI.1.sI (a := 3988) (by decide) k (g_AI v 3924 k)) : z_W [] z_wC u0 _).fx K.1
          show f_M_findComponents_19 (f_M_findComponents_2 f) (g + 1) _ _ _ v = _
          rw [f_M_findComponents_19, x_gR, (m_at hmv m_k2049).1, x_aI (by omega) (by rw [(m_at hmv m_k2049).2]; omega), pv.2.2.2.2.2.2.1, if_pos (by have := ps.2.2.2.2.2.2.2.2.2.2.2.2; rw [x_le (by omega) (by omega)]; exact Nat.le_refl _), x_gR, (m_at hmv m_k4737).1, x_gR, (m_at hmv m_k4673).1, x_aI (by omega) (by rw [(m_at hmv m_k4673).2]; omega), x_sI (by omega) (by rw [(m_at hmv m_k4737).2]; omega), x_gR, (m_at hm6 m_k4801).1, x_sI (by omega) (by rw [(m_at hm6 m_k4801).2]; omega), x_p1])
        (fun g i v a hi hI => by
          have Kv := KW hI.1
          have hmv := Kv.1
          have pv := Kv.2.2.1.2.2.2.2.1 k hk
          have l4 := ps.2.2.2.2.2.2.2.2.2.2.2.2
          have nm := b_nmd (nw := nw) Kv ((AW hI.1).sel hk hi) (pv.2.2.2.2.2.1.2 i hi)
          have O := z_or16' hI.2.2.1 nm.2
          have tl : z_tot (x.2.1.take k) + i < 17 := by have := pv.2.2.2.2.2.1.1; have := lim.1; omega
          refine ⟨g_setAI v 3924 k (Int32.ofNat (a ||| z_nmd nw x.2.1 tc ((x.2.1.getD k z_pa0).2.2.1.getD i z_se0))), ?_, hI.1.sI (by decide) _ _, by rw [x_AI_AI, if_pos ⟨rfl, rfl⟩], O.2, fun j hj => ?_⟩
          · show f_M_findComponents_19 (f_M_findComponents_2 f) (g + 1) _ _ _ v = _
            rw [f_M_findComponents_19, x_gR, (m_at hmv m_k2049).1, x_aI (by omega) (by rw [(m_at hmv m_k2049).2]; omega), pv.2.2.2.2.2.2.1, if_neg (by rw [x_le (by omega) (by omega)]; omega), x_gR, (m_at hmv m_k4673).1, x_aI (by omega) (by rw [(m_at hmv m_k4673).2]; omega), hI.2.1, x_gR, (m_at hmv m_k1985).1, x_aI (by omega) (by rw [(m_at hmv m_k1985).2]; omega), pv.2.2.2.2.1, x_add, x_nn, nm.1, x_c, O.1, x_sI (by omega) (by rw [(m_at hmv m_k4673).2]; omega), x_p1]
          · obtain ⟨o1, o2, o3⟩ := hI.2.2.2 j hj
            rw [x_AI_AI, if_neg (fun q => hj q.2), x_AI_AI, if_neg (fun q => hj q.2), x_AI_AI, if_neg (fun q => hj q.2)]
            exact ⟨o1, o2, o3⟩)
        (x.2.1.getD k z_pa0).2.2.1 0 s3 0 200000 rfl (Nat.zero_le _) (by have := ps.2.2.2.2.2.2.2.2.2.2.2.2; omega) ⟨W3, by rw [e3, x_AI_AI, if_pos ⟨rfl, rfl⟩]; rfl, by decide, fun j hj => by rw [e3, x_AI_AI, if_neg (fun q => hj q.2), x_AI_AI, if_neg (fun q => hj q.2), x_AI_AI, if_neg (fun q => hj q.2)]; exact ⟨rfl, rfl, rfl⟩⟩
      have r1' : f_M_findComponents_19 (f_M_findComponents_2 f) 200000 (some 1) (Int32.ofNat k) 0 s3 = f_M_findComponents_2 f (some 1) (Int32.ofNat (k + 1)) (g_setAI (g_setAI v 3988 k (g_AI v 3924 k)) 4052 k (-1)) := r1
      rw [r1']
      obtain ⟨s8, e8⟩ : ∃ s8, s8 = g_setAI (g_setAI v 3988 k (g_AI v 3924 k)) 4052 k (-1) := ⟨_, rfl⟩
      rw [← e8]
      have W8 : z_W [] z_wC u0 s8 := by rw [e8]; exact (r2.sI (by decide) _ _).sI (by decide) _ _
      refine ih (k + 1) f s8 (by omega) (by omega) W8 (fun j hj => ?_)
      by_cases w : j = k
      · rw [w, e8]
        refine ⟨?_, ?_, ?_, r4⟩
        · rw [x_AI_AI, if_neg (fun q => by have := q.1; omega), x_AI_AI, if_neg (fun q => by have := q.1; omega)]; exact r3
        · rw [x_AI_AI, if_neg (fun q => by have := q.1; omega), x_AI_AI, if_pos ⟨rfl, rfl⟩]; exact r3
        · rw [x_AI_AI, if_pos ⟨rfl, rfl⟩]
      · obtain ⟨o1, o2, o3⟩ := r5 j w
        obtain ⟨p1, p2, p3, p4⟩ := h4 j (by omega)
        rw [e8]
        refine ⟨?_, ?_, ?_, p4⟩
        · rw [x_AI_AI, if_neg (fun q => w q.2), x_AI_AI, if_neg (fun q => w q.2), o1]; exact p1
        · rw [x_AI_AI, if_neg (fun q => w q.2), x_AI_AI, if_neg (fun q => w q.2), o2]; exact p2
        · rw [x_AI_AI, if_neg (fun q => w q.2), x_AI_AI, if_neg (fun q => w q.2), o3]; exact p3
  unfold f_M_findComponents
  exact key x.2.1.length 0 200000 u0 (by omega) (by omega) z_W.re (fun j hj => by omega)
end
