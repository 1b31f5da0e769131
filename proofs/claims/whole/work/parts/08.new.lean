/-! NEW OBJECTS; ENDS; CALLS -/
theorem g_al_mk {u : g_St} {t n m x : Nat} (ht : t < 64) : g_al (g_mk u t n m) x ↔ g_al u x ∨ x = g_cnt u t * 64 + t := by
  unfold g_al
  show x / 64 < g_u1 (g_cnt u) t (g_cnt u t + 1) (x % 64) ↔ _
  unfold g_u1
  by_cases h : x % 64 = t
  · rw [if_pos h, h]
    omega
  · rw [if_neg h]
    constructor
    · exact Or.inl
    · rintro (w | w)
      · exact w
      · omega
theorem g_al_not {u : g_St} {t : Nat} (ht : t < 64) : ¬ g_al u (g_cnt u t * 64 + t) := by
  unfold g_al
  rw [show (g_cnt u t * 64 + t) % 64 = t by omega, show (g_cnt u t * 64 + t) / 64 = g_cnt u t by omega]
  exact Nat.lt_irrefl _
theorem g_al_ne {u : g_St} {t a : Nat} (ht : t < 64) (h : g_al u a) : ¬ a = g_cnt u t * 64 + t := fun w => g_al_not (u := u) ht (by rw [← w]; exact h)
theorem g_map_eq {u : g_St} {ad ad' : Nat → Nat} (h : ∀ a, g_al u a → ad' a = ad a) {t : Nat} {r : Option Nat} (hr : g_okT u t r) : r.map ad' = r.map ad := by
  cases r with
  | none => rfl
  | some a => exact congrArg some (h a (hr a rfl).2)
theorem g_v_eq {u : g_St} {ad ad' : Nat → Nat} (h : ∀ a, g_al u a → ad' a = ad a) {v : g_V} (hv : g_okV u v) : g_v ad' v = g_v ad v := by
  rcases v with x | x | q
  · rfl
  · rfl
  · exact congrArg va_rf (g_map_eq h hv)
theorem g_st_eq {u : g_St} {ad ad' : Nat → Nat} (h : ∀ a, g_al u a → ad' a = ad a) {st : List g_V} (hv : g_okS u st) : st.map (g_v ad') = st.map (g_v ad) := List.map_congr_left fun v hm => g_v_eq h (hv v hm)
theorem g_ls_eq {u : g_St} {ad ad' : Nat → Nat} (h : ∀ a, g_al u a → ad' a = ad a) {ls : List (Nat × g_V)} (hv : g_okL u ls) : (ls.map fun q => (q.1, g_v ad' q.2)) = ls.map fun q => (q.1, g_v ad q.2) := List.map_congr_left fun v hm => by rw [g_v_eq h (hv v hm)]
theorem g_arrV_eq {cI : ClassId} {N : Nat} {f g : Nat → Value} (h : ∀ i, i < N → f i = g i) : arrV cI N f = arrV cI N g := by
  unfold arrV
  congr 1
  congr 1
  funext j
  exact h j.val j.isLt
theorem g_Rep.new {G : g_G} {u : g_St} {ad : Nat → Nat} {H H' : Heap} (hR : g_Rep G u ad H) {t n m : Nat} (ht : t < 64) (hfx : t ∉ g_fix) (hc9 : g_cn u + 1 ≤ g_LC) (hs9 : g_sn u + n ≤ g_LS) (z : H'.size = H.size + 1) (o1 : ∀ q, q < H.size → H'[q]? = H[q]?)
    (hO : ∀ q ∈ g_objs, t = q.1 → g_RO G (g_mk u t n m) (g_u1 ad (g_cnt u t * 64 + t) H.size) H' q (g_cnt u t * 64 + t))
    (hA : ∀ q ∈ g_arrs, t = q.1 → g_RA G (g_mk u t n m) (g_u1 ad (g_cnt u t * 64 + t) H.size) H' q (g_cnt u t * 64 + t)) :
    g_Rep G (g_mk u t n m) (g_u1 ad (g_cnt u t * 64 + t) H.size) H' := by
  obtain ⟨h1, h2, h3, h4, h5, -, -, h8, h9⟩ := hR
  have na := g_al_not (u := u) ht
  have ne : ∀ x, g_al u x → x ≠ g_cnt u t * 64 + t := fun x hx w => na (w ▸ hx)
  have av : ∀ x, g_al u x → g_u1 ad (g_cnt u t * 64 + t) H.size x = ad x := fun x hx => if_neg (ne x hx)
  have aa : g_u1 ad (g_cnt u t * 64 + t) H.size (g_cnt u t * 64 + t) = H.size := if_pos rfl
  have ok : ∀ t' r, g_okT u t' r → g_okT (g_mk u t n m) t' r := fun t' r h => h.mono fun x hx => (g_al_mk ht).mpr (Or.inl hx)
  have hm : (g_cnt u t * 64 + t) % 64 = t := by omega
  have vI : ∀ k x, g_al u x → g_I (g_mk u t n m) k x = g_I u k x := fun k x hx => if_neg (ne x hx)
  have vL : ∀ k x, g_al u x → g_L (g_mk u t n m) k x = g_L u k x := fun k x hx => if_neg (ne x hx)
  have vR : ∀ k x, g_al u x → g_R (g_mk u t n m) k x = g_R u k x := fun k x hx => if_neg (ne x hx)
  have vAI : ∀ x i, g_al u x → g_AI (g_mk u t n m) x i = g_AI u x i := fun x i hx => if_neg (ne x hx)
  have vAL : ∀ x i, g_al u x → g_AL (g_mk u t n m) x i = g_AL u x i := fun x i hx => if_neg (ne x hx)
  have vAR : ∀ x i, g_al u x → g_AR (g_mk u t n m) x i = g_AR u x i := fun x i hx => if_neg (ne x hx)
  have vn : ∀ x, g_al u x → g_ln (g_mk u t n m) x = g_ln u x := fun x hx => if_neg (ne x hx)
  refine ⟨⟨by omega, fun q hq => (o1 q (by omega)).trans (h1.2 q hq)⟩, fun x y hx hy x4 y4 e => ?_, fun x hx => ?_, fun q hq x hx hx' => ?_, fun q hq x hx hx' hol => ?_, hc9, hs9, fun t' => ?_, fun t' ht' => ?_⟩
  · rcases (g_al_mk ht).mp hx with hx | rfl <;> rcases (g_al_mk ht).mp hy with hy | rfl
    · rw [av x hx, av y hy] at e
      exact h2 x y hx hy x4 y4 e
    · rw [av x hx, aa] at e
      have := (h3 x hx).1
      omega
    · rw [av y hy, aa] at e
      have := (h3 y hy).1
      omega
    · rfl
  · rcases (g_al_mk ht).mp hx with hx | rfl
    · rw [av x hx, z]
      exact ⟨Nat.lt_succ_of_lt (h3 x hx).1, (h3 x hx).2⟩
    · rw [aa, z]
      refine ⟨Nat.lt_succ_self _, fun _ => h1.1, fun w => ?_⟩
      rw [hm, show (g_cnt u t * 64 + t) / 64 = g_cnt u t by omega] at w
      exact absurd w (Nat.not_lt.mpr (h8 t))
  · rcases (g_al_mk ht).mp hx with hx | rfl
    · obtain ⟨k1, k2⟩ := h4 q hq x hx hx'
      refine ⟨?_, fun j kt hj hk => by rw [vR _ _ hx]; exact ok _ _ (k2 j kt hj hk)⟩
      rw [av x hx]
      refine (k1.kept (o1 _ (h3 x hx).1)).to fun j hj => ?_
      unfold g_fv
      rw [vI _ _ hx, vL _ _ hx, vR _ _ hx]
      rw [List.getD_eq_getElem?_getD]
      cases hks : q.2.2[j]? with
      | none => rfl
      | some kt =>
        obtain ⟨kd, tg⟩ := kt
        match kd, hks with
        | 0, _ => rfl
        | 1, _ => rfl
        | 2, hks => exact congrArg va_rf (g_map_eq av (k2 j _ hks rfl)).symm
        | (w + 3), _ => rfl
    · exact hO q hq (by rw [← hx', hm])
  · rcases (g_al_mk ht).mp hx with hx | rfl
    · obtain ⟨k1, k2, k3⟩ := h5 q hq x hx hx' hol
      refine ⟨?_, by rw [vn x hx]; exact k2, fun hk i hi => ?_⟩
      · rw [av x hx, o1 _ (h3 x hx).1, k1, vn x hx]
        refine congrArg some ?_
        refine g_arrV_eq fun i hi => ?_
        unfold g_av
        rw [vAI _ _ hx, vAL _ _ hx, vAR _ _ hx]
        match hq2 : q.2.2.1 with
        | 0 => rfl
        | 1 => rfl
        | 2 => exact congrArg va_rf (g_map_eq av (k3 hq2 i hi)).symm
        | w + 3 => rfl
      · rw [vn x hx] at hi
        rw [vAR _ _ hx]
        exact ok _ _ (k3 hk i hi)
    · exact hA q hq (by rw [← hx', hm])
  · show g_old t' ≤ g_u1 (g_cnt u) t (g_cnt u t + 1) t'
    unfold g_u1
    split
    · next w => rw [w]; exact Nat.le_succ_of_le (h8 t)
    · exact h8 t'
  · show g_u1 (g_cnt u) t (g_cnt u t + 1) t' = _
    unfold g_u1
    rw [if_neg (fun w => hfx (by rw [← w]; exact ht'))]
    exact h9 t' ht'
theorem g_Le.new {u0 u : g_St} {ad0 ad : Nat → Nat} (hE : g_Le u0 ad0 u ad) {t n m y : Nat} (ht : t < 64) : g_Le u0 ad0 (g_mk u t n m) (g_u1 ad (g_cnt u t * 64 + t) y) := by
  refine ⟨fun a ha => ⟨(g_al_mk ht).mpr (Or.inl (hE.1 a ha).1), ?_⟩, Nat.le_trans hE.2.1 (Nat.le_succ _), Nat.le_trans hE.2.2 (Nat.le_add_right _ _)⟩
  rw [← (hE.1 a ha).2]
  exact if_neg (g_al_ne ht (hE.1 a ha).1)
theorem g_fv0 {u : g_St} {ad : Nat → Nat} {t a j : Nat} {ks : List (Nat × Nat)} (h1 : ∀ k, g_I u k a = 0) (h2 : ∀ k, g_L u k a = 0) (h3 : ∀ k, g_R u k a = none) : g_dv (ks.getD j (0, 0)).1 = g_fv u ad t ks a j := by
  unfold g_fv
  rw [h1, h2, h3]
  generalize (ks.getD j (0, 0)).1 = kd
  match kd with
  | 0 => rfl
  | 1 => rfl
  | 2 => rfl
  | w + 3 => rfl
theorem g_av0 {u : g_St} {ad : Nat → Nat} {kd a i : Nat} (h1 : g_AI u a i = 0) (h2 : g_AL u a i = 0) (h3 : g_AR u a i = none) : g_dv kd = g_av u ad kd a i := by
  unfold g_av
  rw [h1, h2, h3]
  match kd with
  | 0 => rfl
  | 1 => rfl
  | 2 => rfl
  | w + 3 => rfl
theorem g_RA_find {s : State} {cA : ClassId} {ty : FieldType} (h : va_RA s cA ty) : s.vm.findClass ("[" ++ ty.toString) = some cA := by
  cases ty with
  | object C =>
    obtain ⟨_, _, -, -, -, w⟩ := h
    exact w
  | _ => exact h
theorem r_new {K : g_C} {cc : ByteArray} {own nm : String} {ret : Option FieldType} {u : g_St} {ls : List (Nat × g_V)} {st : List g_V} {pc : Nat} {out : g_Out} (hK : g_OK K cc own nm ret) {α : Type} {o : α} {t n index : Nat} {C : String} {q : g_O} {F : Option Nat → g_St → Option α} (hq : q ∈ g_objs) (eq1 : q.1 = t) (eq2 : q.2.1.1 = C) (hcl : Cond.classLink own index C ∈ g_tbl) (hin : Cond.instantiable C n ∈ g_tbl) (hini : Cond.initialized C ∈ g_tbl) (hd : decode cc pc = .ok (.new index, 3)) (h : g_new u t n F = some o) (kk : ∀ r u1, F r u1 = some o → g_W K u1 ls (g_r t r :: st) (pc + 3) out) : g_W K u ls st pc out := by
  obtain ⟨p, l, e, s, m, args, below, meth, c, nL, d, u0, ad0, G⟩ := K
  obtain ⟨hx, hb, hml, hown, hts, hKn, hlk, hnm, hret, htr⟩ := hK
  intro ad H locs la hR hE hL hS hlo hla
  have hlim : g_cn u + 1 ≤ g_LC ∧ g_sn u + n ≤ g_LS := by
    by_cases w : g_cn u + 1 ≤ g_LC ∧ g_sn u + n ≤ g_LS
    · exact w
    · rw [g_new, if_neg w] at h; cases h
  rw [g_new, if_pos hlim] at h
  have ht : t < 64 := by have := g_objs_lt q hq; omega
  obtain ⟨hKq, -⟩ := hKn.1 q hq
  have hfc : s.vm.findClass C = some (G.1 t) := by rw [← eq2, ← eq1]; exact hKq.2.1
  have hc1 := hE.2.1
  have hs1 := hE.2.2
  have hrc : g_cn u - g_cn u0 + 1 ≤ (g_room d u0).cells := by
    show _ ≤ g_LC - g_cn u0
    omega
  have hrs : g_sn u - g_sn u0 + n ≤ (g_room d u0).slots := by
    show _ ≤ g_LS - g_sn u0
    omega
  refine W.newcK hx hb hown (hts _ hcl) (hts _ hin) (hts _ hini) rfl hd hrc hrs hfc rfl fun H1 kC hkC e1 z1 o1 => ?_
  have hO : ∀ q' ∈ g_objs, t = q'.1 → g_RO G (g_mk u t n 0) (g_u1 ad (g_cnt u t * 64 + t) H.size) H1 q' (g_cnt u t * 64 + t) := by
    intro q' hq' e3
    obtain rfl : q' = q := g_uni (fun q : g_O => q.1) g_objs g_objs_nd q' hq' q hq (by rw [← e3, eq1])
    have aa : g_u1 ad (g_cnt u t * 64 + t) H.size (g_cnt u t * 64 + t) = H.size := if_pos rfl
    obtain ⟨ty, hty, hdv⟩ := g_objs_ty q' hq'
    refine ⟨?_, fun j kt hj hk => fun b hb => ?_⟩
    · rw [aa]
      refine (u_born ty hts (g_objs_in q' hq') (by rw [← eq1] at hkC; exact hKq) (by rw [eq1]; exact hkC) (by rw [eq1]; exact e1) hty).to fun j hj => ?_
      rw [hdv j hj]
      exact g_fv0 (fun k => if_pos rfl) (fun k => if_pos rfl) (fun k => if_pos rfl)
    · rw [show g_R (g_mk u t n 0) (j * 64 + q'.1) (g_cnt u t * 64 + t) = none from if_pos rfl] at hb
      cases hb
  have hA : ∀ q' ∈ g_arrs, t = q'.1 → g_RA G (g_mk u t n 0) (g_u1 ad (g_cnt u t * 64 + t) H.size) H1 q' (g_cnt u t * 64 + t) := fun q' hq' e3 => absurd (eq1.trans e3) (g_apart q hq q' hq')
  have hav : ∀ a, g_al u a → g_u1 ad (g_cnt u t * 64 + t) H.size a = ad a := fun a ha => if_neg (g_al_ne ht ha)
  have hmo : ∀ a, g_al u a → g_al (g_mk u t n 0) a := fun a ha => (g_al_mk ht).mpr (Or.inl ha)
  have k9 := kk _ _ h (g_u1 ad (g_cnt u t * 64 + t) H.size) H1 locs la (hR.new ht (by rw [← eq1]; exact g_objs_fix q hq) hlim.1 hlim.2 z1 o1 hO hA) (hE.new ht) (hL.mono hmo) ((hS.mono hmo).cons (fun b hb => by cases hb; exact ⟨Or.inr (by omega), (g_al_mk ht).mpr (Or.inr rfl)⟩)) hlo (by rw [g_ls_eq hav hL]; exact hla)
  rw [List.map_cons, g_st_eq hav hS] at k9
  have e9 : g_v (g_u1 ad (g_cnt u t * 64 + t) H.size) (g_r t (some (g_cnt u t * 64 + t))) = .ref H.size := by
    show va_rf (some (g_u1 ad (g_cnt u t * 64 + t) H.size (g_cnt u t * 64 + t))) = _
    rw [show g_u1 ad (g_cnt u t * 64 + t) H.size (g_cnt u t * 64 + t) = H.size from if_pos rfl]
    rfl
  rw [e9] at k9
  have hc1 := hE.2.1
  have hs1 := hE.2.2
  exact W.cs (show g_cn u - g_cn u0 + 1 = g_cn u + 1 - g_cn u0 by omega) (show g_sn u - g_sn u0 + n = g_sn u + n - g_sn u0 by omega) k9
theorem r_newarray {K : g_C} {cc : ByteArray} {own nm : String} {ret : Option FieldType} {u : g_St} {ls : List (Nat × g_V)} {st : List g_V} {pc : Nat} {out : g_Out} (hK : g_OK K cc own nm ret) {α : Type} {o : α} {t kd tg index : Nat} {n : Int32} {F : Option Nat → g_St → Option α} {ty : FieldType} {atype : ArrayType} (hty : newarray.typeOf atype = ty) (hkd : g_dv kd = defaultValue ty) (hcb : componentBytes ty ≤ 8) (hin : Cond.arrayClass ty ∈ g_tbl) (ha : ((t, ty, kd, tg) : g_Ar) ∈ g_arrs) (hd : decode cc pc = .ok (.newarray atype, 2)) (h : g_newA u t n F = some o) (kk : ∀ r u1, F r u1 = some o → g_W K u1 ls (g_r t r :: st) (pc + 2) out) : g_W K u ls (g_i n :: st) pc out := by
  obtain ⟨p, l, e, s, m, args, below, meth, c, nL, d, u0, ad0, G⟩ := K
  obtain ⟨hx, hb, hml, hown, hts, hKn, hlk, hnm, hret, htr⟩ := hK
  intro ad H locs la hR hE hL hS hlo hla
  have hlim : (¬ n < 0 ∧ n.toNatClampNeg ≤ 65536) ∧ g_cn u + 1 ≤ g_LC ∧ g_sn u + n.toNatClampNeg ≤ g_LS := by
    by_cases w : (¬ n < 0 ∧ n.toNatClampNeg ≤ 65536) ∧ g_cn u + 1 ≤ g_LC ∧ g_sn u + n.toNatClampNeg ≤ g_LS
    · exact w
    · rw [g_newA, if_neg w] at h; cases h
  rw [g_newA, if_pos hlim] at h
  have ht : t < 64 := by have := g_arrs_lt _ ha; dsimp only at this; omega
  have hc1 := hE.2.1
  have hs1 := hE.2.2
  have hrc : g_cn u - g_cn u0 + 1 ≤ (g_room d u0).cells := by
    show _ ≤ g_LC - g_cn u0
    omega
  have hrs : g_sn u - g_sn u0 + n.toNatClampNeg ≤ (g_room d u0).slots := by
    show _ ≤ g_LS - g_sn u0
    omega
  subst hty
  refine W.newa hx hb (hts _ hin) rfl hd rfl hlim.1.1 (Nat.le_trans (Nat.mul_le_mul hlim.1.2 hcb) (by decide)) hrc hrs fun cA kA comp f1 f2 f3 => ?_
  have hcA : cA = G.2.2.1 t := by
    have w := (hKn.2.1 _ ha).2
    have w2 : s.vm.findClass ("[" ++ (newarray.typeOf atype).toString) = some (G.2.2.1 t) := g_RA_find w
    exact Option.some.inj (f1.symm.trans w2)
  generalize hH1 : H.push ({ cls := cA, slots := Array.replicate n.toNatClampNeg (defaultValue (newarray.typeOf atype)), vm := .none } : Cell) = H1
  have e1 : H1[H.size]? = some (arrV (G.2.2.1 t) n.toNatClampNeg (fun _ => g_dv kd)) := by rw [← hH1, Array.getElem?_push_size, ← arrV_new, hcA, hkd]
  have z1 : H1.size = H.size + 1 := by rw [← hH1, Array.size_push]
  have o1 : ∀ q : Nat, q < H.size → H1[q]? = H[q]? := fun q hq => by rw [← hH1, Array.getElem?_push, if_neg (Nat.ne_of_lt hq)]
  have hO : ∀ q' ∈ g_objs, t = q'.1 → g_RO G (g_mk u t n.toNatClampNeg n.toNatClampNeg) (g_u1 ad (g_cnt u t * 64 + t) H.size) H1 q' (g_cnt u t * 64 + t) := fun q' hq' e3 => absurd e3.symm (g_apart q' hq' _ ha)
  have hA : ∀ q' ∈ g_arrs, t = q'.1 → g_RA G (g_mk u t n.toNatClampNeg n.toNatClampNeg) (g_u1 ad (g_cnt u t * 64 + t) H.size) H1 q' (g_cnt u t * 64 + t) := by
    intro q' hq' e3
    obtain rfl : q' = _ := g_uni (fun q : g_Ar => q.1) g_arrs g_arrs_nd q' hq' _ ha e3.symm
    have aa : g_u1 ad (g_cnt u t * 64 + t) H.size (g_cnt u t * 64 + t) = H.size := if_pos rfl
    have ll : g_ln (g_mk u t n.toNatClampNeg n.toNatClampNeg) (g_cnt u t * 64 + t) = n.toNatClampNeg := if_pos rfl
    refine ⟨?_, by rw [ll]; have := hlim.1.2; omega, fun hk i hi b hb => ?_⟩
    · rw [aa, e1, ll]
      exact congrArg some (g_arrV_eq fun i hi => g_av0 (if_pos rfl) (if_pos rfl) (if_pos rfl))
    · rw [show g_AR (g_mk u t n.toNatClampNeg n.toNatClampNeg) (g_cnt u t * 64 + t) i = none from if_pos rfl] at hb
      cases hb
  have hav : ∀ a, g_al u a → g_u1 ad (g_cnt u t * 64 + t) H.size a = ad a := fun a ha => if_neg (g_al_ne ht ha)
  have hmo : ∀ a, g_al u a → g_al (g_mk u t n.toNatClampNeg n.toNatClampNeg) a := fun a ha => (g_al_mk ht).mpr (Or.inl ha)
  have k9 := kk _ _ h (g_u1 ad (g_cnt u t * 64 + t) H.size) H1 locs la (hR.new ht (g_arrs_fix _ ha) hlim.2.1 hlim.2.2 z1 o1 hO hA) (hE.new ht) (hL.mono hmo) ((hS.tl.mono hmo).cons (fun b hb => by cases hb; exact ⟨Or.inr (by omega), (g_al_mk ht).mpr (Or.inr rfl)⟩)) hlo (by rw [g_ls_eq hav hL]; exact hla)
  rw [List.map_cons, g_st_eq hav hS.tl] at k9
  have e9 : g_v (g_u1 ad (g_cnt u t * 64 + t) H.size) (g_r t (some (g_cnt u t * 64 + t))) = .ref H.size := by
    show va_rf (some (g_u1 ad (g_cnt u t * 64 + t) H.size (g_cnt u t * 64 + t))) = _
    rw [show g_u1 ad (g_cnt u t * 64 + t) H.size (g_cnt u t * 64 + t) = H.size from if_pos rfl]
    rfl
  rw [e9] at k9
  have hc1 := hE.2.1
  have hs1 := hE.2.2
  exact W.cs (show g_cn u - g_cn u0 + 1 = g_cn u + 1 - g_cn u0 by omega) (show g_sn u - g_sn u0 + n.toNatClampNeg = g_sn u + n.toNatClampNeg - g_sn u0 by omega) k9
theorem r_anewarray {K : g_C} {cc : ByteArray} {own nm : String} {ret : Option FieldType} {u : g_St} {ls : List (Nat × g_V)} {st : List g_V} {pc : Nat} {out : g_Out} (hK : g_OK K cc own nm ret) {α : Type} {o : α} {t kd tg index : Nat} {n : Int32} {F : Option Nat → g_St → Option α} {C : String} (hkd : kd = 2) (hcl : Cond.classLink own index C ∈ g_tbl) (hov : Cond.arrayOver (.object C) ∈ g_tbl) (ha : ((t, (.object C), kd, tg) : g_Ar) ∈ g_arrs) (hd : decode cc pc = .ok (.anewarray index, 3)) (h : g_newA u t n F = some o) (kk : ∀ r u1, F r u1 = some o → g_W K u1 ls (g_r t r :: st) (pc + 3) out) : g_W K u ls (g_i n :: st) pc out := by
  obtain ⟨p, l, e, s, m, args, below, meth, c, nL, d, u0, ad0, G⟩ := K
  obtain ⟨hx, hb, hml, hown, hts, hKn, hlk, hnm, hret, htr⟩ := hK
  intro ad H locs la hR hE hL hS hlo hla
  have hlim : (¬ n < 0 ∧ n.toNatClampNeg ≤ 65536) ∧ g_cn u + 1 ≤ g_LC ∧ g_sn u + n.toNatClampNeg ≤ g_LS := by
    by_cases w : (¬ n < 0 ∧ n.toNatClampNeg ≤ 65536) ∧ g_cn u + 1 ≤ g_LC ∧ g_sn u + n.toNatClampNeg ≤ g_LS
    · exact w
    · rw [g_newA, if_neg w] at h; cases h
  rw [g_newA, if_pos hlim] at h
  have ht : t < 64 := by have := g_arrs_lt _ ha; dsimp only at this; omega
  have hc1 := hE.2.1
  have hs1 := hE.2.2
  have hrc : g_cn u - g_cn u0 + 1 ≤ (g_room d u0).cells := by
    show _ ≤ g_LC - g_cn u0
    omega
  have hrs : g_sn u - g_sn u0 + n.toNatClampNeg ≤ (g_room d u0).slots := by
    show _ ≤ g_LS - g_sn u0
    omega
  refine W.anew hx hb hown (hts _ hcl) (hts _ hov) rfl hd rfl hlim.1.1 (by have := hlim.1.2; omega) hrc hrs fun cA kA comp f1 f2 f3 f4 => ?_
  have hcA : cA = G.2.2.1 t := by
    obtain ⟨_, _, -, -, -, w⟩ := (hKn.2.1 _ ha).2
    exact Option.some.inj (f1.symm.trans w)
  generalize hH1 : H.push ({ cls := cA, slots := Array.replicate n.toNatClampNeg .null, vm := .none } : Cell) = H1
  have e1 : H1[H.size]? = some (arrV (G.2.2.1 t) n.toNatClampNeg (fun _ => g_dv kd)) := by rw [← hH1, Array.getElem?_push_size, ← arrV_new, hcA, hkd]; rfl
  have z1 : H1.size = H.size + 1 := by rw [← hH1, Array.size_push]
  have o1 : ∀ q : Nat, q < H.size → H1[q]? = H[q]? := fun q hq => by rw [← hH1, Array.getElem?_push, if_neg (Nat.ne_of_lt hq)]
  have hO : ∀ q' ∈ g_objs, t = q'.1 → g_RO G (g_mk u t n.toNatClampNeg n.toNatClampNeg) (g_u1 ad (g_cnt u t * 64 + t) H.size) H1 q' (g_cnt u t * 64 + t) := fun q' hq' e3 => absurd e3.symm (g_apart q' hq' _ ha)
  have hA : ∀ q' ∈ g_arrs, t = q'.1 → g_RA G (g_mk u t n.toNatClampNeg n.toNatClampNeg) (g_u1 ad (g_cnt u t * 64 + t) H.size) H1 q' (g_cnt u t * 64 + t) := by
    intro q' hq' e3
    obtain rfl : q' = _ := g_uni (fun q : g_Ar => q.1) g_arrs g_arrs_nd q' hq' _ ha e3.symm
    have aa : g_u1 ad (g_cnt u t * 64 + t) H.size (g_cnt u t * 64 + t) = H.size := if_pos rfl
    have ll : g_ln (g_mk u t n.toNatClampNeg n.toNatClampNeg) (g_cnt u t * 64 + t) = n.toNatClampNeg := if_pos rfl
    refine ⟨?_, by rw [ll]; have := hlim.1.2; omega, fun hk i hi b hb => ?_⟩
    · rw [aa, e1, ll]
      exact congrArg some (g_arrV_eq fun i hi => g_av0 (if_pos rfl) (if_pos rfl) (if_pos rfl))
    · rw [show g_AR (g_mk u t n.toNatClampNeg n.toNatClampNeg) (g_cnt u t * 64 + t) i = none from if_pos rfl] at hb
      cases hb
  have hav : ∀ a, g_al u a → g_u1 ad (g_cnt u t * 64 + t) H.size a = ad a := fun a ha => if_neg (g_al_ne ht ha)
  have hmo : ∀ a, g_al u a → g_al (g_mk u t n.toNatClampNeg n.toNatClampNeg) a := fun a ha => (g_al_mk ht).mpr (Or.inl ha)
  have k9 := kk _ _ h (g_u1 ad (g_cnt u t * 64 + t) H.size) H1 locs la (hR.new ht (g_arrs_fix _ ha) hlim.2.1 hlim.2.2 z1 o1 hO hA) (hE.new ht) (hL.mono hmo) ((hS.tl.mono hmo).cons (fun b hb => by cases hb; exact ⟨Or.inr (by omega), (g_al_mk ht).mpr (Or.inr rfl)⟩)) hlo (by rw [g_ls_eq hav hL]; exact hla)
  rw [List.map_cons, g_st_eq hav hS.tl] at k9
  have e9 : g_v (g_u1 ad (g_cnt u t * 64 + t) H.size) (g_r t (some (g_cnt u t * 64 + t))) = .ref H.size := by
    show va_rf (some (g_u1 ad (g_cnt u t * 64 + t) H.size (g_cnt u t * 64 + t))) = _
    rw [show g_u1 ad (g_cnt u t * 64 + t) H.size (g_cnt u t * 64 + t) = H.size from if_pos rfl]
    rfl
  rw [e9] at k9
  have hc1 := hE.2.1
  have hs1 := hE.2.2
  exact W.cs (show g_cn u - g_cn u0 + 1 = g_cn u + 1 - g_cn u0 by omega) (show g_sn u - g_sn u0 + n.toNatClampNeg = g_sn u + n.toNatClampNeg - g_sn u0 by omega) k9
