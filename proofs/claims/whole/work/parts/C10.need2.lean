/-! THE ENGINE'S CHECK: needed parts closed; components -/
section
variable {n q : Nat} {kd pl nw nv : Nat → Nat} {wd vl : Nat → Int64} {c : z_Cx} {A O : Nat} {b : Nat → Nat} {x : z_Qu} {tc : Nat} {cols : Nat → Nat} {xs ys : List Nat} {u0 : g_St}
theorem k_nd105 (S : E_S pl wd c A O b x tc cols xs ys u0) (k92 : Option Nat → Int32 → g_St → Option (Unit × g_St)) {s7 : g_St} {k : Nat} (hk : k < x.2.1.length) : ∀ d i f s r, i + d = x.2.1.length → d < f → E_V c tc u0 s → E_fk [775] [] s7 s → E_nd b x.2.1.length s r → ∃ v, f_Ch_needParts_105 k92 f (some 3) (Int32.ofNat k) (Int32.ofNat i) s = k92 (some 3) (Int32.ofNat (k + 1)) v ∧ E_V c tc u0 v ∧ E_fk [775] [] s7 v ∧ E_nd b x.2.1.length v (z_v1 k d i r) := by
  have q3 := S.1.1.2.2.1
  intro d
  induction d with
  | zero =>
    intro i f s r h1 h2 V F R
    obtain ⟨f, rfl⟩ : ∃ m, f = m + 1 := ⟨f - 1, by omega⟩
    refine ⟨s, ?_, V, F, R⟩
    rw [f_Ch_needParts_105, V.count S, if_pos (by rw [x_le (by omega) (by omega)]; omega), x_p1]
  | succ d ih =>
    intro i f s r h1 h2 V F R
    obtain ⟨f, rfl⟩ : ∃ m, f = m + 1 := ⟨f - 1, by omega⟩
    have bt := z_bit0' (R i (by omega)).2 (show k < 4 by omega)
    rw [f_Ch_needParts_105, V.count S, if_neg (by rw [x_le (by omega) (by omega)]; omega), V.part S (show i < x.2.1.length by omega), x_gI, (R i (by omega)).1, z_v1]
    by_cases w : (r i).testBit k = true
    · have O := z_or16' (R i (by omega)).2 (R k hk).2
      rw [if_neg (by rw [bt, w]; decide), V.part S (show i < x.2.1.length by omega), x_gI, (R i (by omega)).1, V.part S hk, x_gI, (R k hk).1, x_pI, O.1, x_p1, if_pos w]
      exact ih (i + 1) f _ _ (by omega) (by omega) (V.pI (by decide) (by decide) _ _) (F.pI (by decide) _ _) (R.ud _ _ O.2)
    · have w' : (r i).testBit k = false := by cases h : (r i).testBit k with | true => exact absurd h w | false => rfl
      rw [if_pos (by rw [bt]; exact w'), if_neg w, x_p1]
      exact ih (i + 1) f _ _ (by omega) (by omega) V F R
theorem k_nd92 (S : E_S pl wd c A O b x tc cols xs ys u0) {s7 : g_St} : ∀ d k f s r, k + d = x.2.1.length → d < f → E_V c tc u0 s → E_fk [775] [] s7 s → E_nd b x.2.1.length s r → ∃ v, f_Ch_needParts_92 f (some 3) (Int32.ofNat k) s = f_Ch_needParts_178 200000 (some 3) 0 v ∧ E_V c tc u0 v ∧ E_fk [775] [] s7 v ∧ E_nd b x.2.1.length v (z_v2 x.2.1.length d k r) := by
  have q3 := S.1.1.2.2.1
  intro d
  induction d with
  | zero =>
    intro k f s r h1 h2 V F R
    obtain ⟨f, rfl⟩ : ∃ m, f = m + 1 := ⟨f - 1, by omega⟩
    refine ⟨s, ?_, V, F, R⟩
    rw [f_Ch_needParts_92, V.count S, if_pos (by rw [x_le (by omega) (by omega)]; omega)]
  | succ d ih =>
    intro k f s r h1 h2 V F R
    obtain ⟨f, rfl⟩ : ∃ m, f = m + 1 := ⟨f - 1, by omega⟩
    rw [f_Ch_needParts_92, V.count S, if_neg (by rw [x_le (by omega) (by omega)]; omega), z_v2]
    obtain ⟨v, v1, v2, v3, v4⟩ := k_nd105 S (f_Ch_needParts_92 f) (k := k) (by omega) x.2.1.length 0 200000 s r (by omega) (by omega) V F R
    obtain ⟨w, w1, w2, w3, w4⟩ := ih (k + 1) f v _ (by omega) (by omega) v2 v3 v4
    exact ⟨w, v1.trans w1, w2, w3, w4⟩
/-- what a part needs, whether it is recursive, who stands with it -/
def E_np2 (b : Nat → Nat) (m : Nat) (r : Nat → Nat) (N : Nat) (v : g_St) : Prop := ∀ k, k < N → g_I v 967 ((b 7 + k) * 64 + 7) = z_g ((r k).testBit k) ∧ g_I v 839 ((b 7 + k) * 64 + 7) = Int32.ofNat (z_tog m r k)
theorem k_nd228 (S : E_S pl wd c A O b x tc cols xs ys u0) (k178 : Option Nat → Int32 → g_St → Option (Unit × g_St)) {s8 : g_St} (V8 : E_V c tc u0 s8) {r : Nat → Nat} (R : E_nd b x.2.1.length s8 r) {p : Nat} (hp : p < x.2.1.length) : f_Ch_needParts_228 k178 200000 (some 3) (Int32.ofNat p) (some ((b 7 + p) * 64 + 7)) 0 (g_setI s8 839 ((b 7 + p) * 64 + 7) (Int32.ofNat (2 ^ p))) = k178 (some 3) (Int32.ofNat (p + 1)) (g_setI s8 839 ((b 7 + p) * 64 + 7) (Int32.ofNat (z_tog x.2.1.length r p))) := by
  have q3 := S.1.1.2.2.1
  have vv : ∀ y, E_V c tc u0 (g_setI s8 839 ((b 7 + p) * 64 + 7) y) := fun y => V8.pI (by decide) (by decide) _ _
  have rr : ∀ y k, k < x.2.1.length → g_I (g_setI s8 839 ((b 7 + p) * 64 + 7) y) 775 ((b 7 + k) * 64 + 7) = Int32.ofNat (r k) := fun y k hk => by rw [x_I_I, if_neg (fun q => by have := q.1; omega)]; exact (R k hk).1
  obtain ⟨v, r1, r2, r3⟩ := z_fr (List.range x.2.1.length) 0 (fun f i s => f_Ch_needParts_228 k178 f (some 3) (Int32.ofNat p) (some ((b 7 + p) * 64 + 7)) (Int32.ofNat i) s) (fun s => k178 (some 3) (Int32.ofNat (p + 1)) s) (fun s a => s = g_setI s8 839 ((b 7 + p) * 64 + 7) (Int32.ofNat a) ∧ a < 16) (fun a k => if ((r p).testBit k && (r k).testBit p) = true then a ||| 2 ^ k else a)
    (fun f s a hI => by
      show f_Ch_needParts_228 k178 (f + 1) _ _ _ (Int32.ofNat (List.range x.2.1.length).length) s = _
      rw [hI.1, f_Ch_needParts_228, (vv _).count S, List.length_range, if_pos (by rw [x_le (by omega) (by omega)]; exact Nat.le_refl _), x_p1])
    (fun f i s a hi hI => by
      rw [List.length_range] at hi
      have ei : (List.range x.2.1.length).getD i 0 = i := by rw [List.getD_eq_getElem?_getD, List.getElem?_range hi]; rfl
      rw [ei]
      have b1 := z_bit0' (R p hp).2 (show i < 4 by omega)
      have b2 := z_bit0' (R i hi).2 (show p < 4 by omega)
      have O := z_or16' hI.2 (z_p16 (show i < 4 by omega))
      have fin : ∀ t : Bool, f_Ch_needParts_274 (f_Ch_needParts_228 k178 f) (some 3) (Int32.ofNat p) (some ((b 7 + p) * 64 + 7)) (Int32.ofNat i) (z_g t) (g_setI s8 839 ((b 7 + p) * 64 + 7) (Int32.ofNat a)) = f_Ch_needParts_228 k178 f (some 3) (Int32.ofNat p) (some ((b 7 + p) * 64 + 7)) (Int32.ofNat (i + 1)) (g_setI s8 839 ((b 7 + p) * 64 + 7) (Int32.ofNat (if t = true then a ||| 2 ^ i else a))) := fun t => by
        unfold f_Ch_needParts_274
        rw [x_gI, x_Iss]
        cases t with
        | true => rw [if_neg (by decide), x_pI, x_ii, z_sh4 (by omega), O.1, x_p1, if_pos rfl]
        | false => rw [if_pos (show z_g false = 0 from rfl), x_pI, x_ii, Int32.or_zero, x_p1, if_neg (by decide)]
      refine ⟨_, ?_, rfl, ?_⟩
      · show f_Ch_needParts_228 k178 (f + 1) _ _ _ (Int32.ofNat i) s = _
        rw [hI.1, f_Ch_needParts_228, (vv _).count S, if_neg (by rw [x_le (by omega) (by omega)]; omega), x_gI, rr _ p hp, (vv _).part S hi, x_gI, rr _ i hi]
        by_cases w1 : (r p).testBit i = true
        · rw [if_neg (by rw [b1, w1]; decide)]
          by_cases w2 : (r i).testBit p = true
          · rw [if_neg (by rw [b2, w2]; decide), w1, w2]
            exact fin true
          · have w2' : (r i).testBit p = false := by cases h : (r i).testBit p with | true => exact absurd h w2 | false => rfl
            rw [if_pos (by rw [b2]; exact w2'), w1, w2']
            exact fin false
        · have w1' : (r p).testBit i = false := by cases h : (r p).testBit i with | true => exact absurd h w1 | false => rfl
          rw [if_pos (by rw [b1]; exact w1'), w1']
          exact fin false
      · by_cases w : ((r p).testBit i && (r i).testBit p) = true
        · rw [if_pos w]; exact O.2
        · rw [if_neg w]; exact hI.2)
    (List.range x.2.1.length) 0 (g_setI s8 839 ((b 7 + p) * 64 + 7) (Int32.ofNat (2 ^ p))) (2 ^ p) 200000 rfl (Nat.zero_le _) (by rw [List.length_range]; omega) ⟨rfl, z_p16 (by omega)⟩
  refine r1.trans ?_
  rw [r2]
  rfl
theorem k_nd178 (S : E_S pl wd c A O b x tc cols xs ys u0) {s9 : g_St} (V9 : E_V c tc u0 s9) {r : Nat → Nat} (R : E_nd b x.2.1.length s9 r) : ∃ v, f_Ch_needParts_178 200000 (some 3) 0 s9 = some ((), v) ∧ E_V c tc u0 v ∧ E_fk [967, 839] [] s9 v ∧ E_np2 b x.2.1.length r x.2.1.length v := by
  have q3 := S.1.1.2.2.1
  refine z_cl x.2.1.length (fun f i s => f_Ch_needParts_178 f (some 3) (Int32.ofNat i) s) (fun s => some ((), s)) (fun j s => E_V c tc u0 s ∧ E_fk [967, 839] [] s9 s ∧ E_np2 b x.2.1.length r j s) (fun v => E_V c tc u0 v ∧ E_fk [967, 839] [] s9 v ∧ E_np2 b x.2.1.length r x.2.1.length v) ?_ ?_ x.2.1.length 0 s9 200000 (by omega) (by omega) ⟨V9, E_fk.re, fun i hi => by omega⟩
  · rintro f s ⟨V, F, D⟩
    refine ⟨s, ?_, V, F, D⟩
    show f_Ch_needParts_178 (f + 1) (some 3) (Int32.ofNat x.2.1.length) s = _
    rw [f_Ch_needParts_178, V.count S, if_pos (by rw [x_le (by omega) (by omega)]; exact Nat.le_refl _)]
  · rintro f i s hi ⟨V, F, D⟩
    have Rs : ∀ k, k < x.2.1.length → g_I s 775 ((b 7 + k) * 64 + 7) = Int32.ofNat (r k) ∧ r k < 16 := fun k hk => by rw [F.2.1 _ _ (by decide)]; exact R k hk
    obtain ⟨s8, e8⟩ : ∃ s8, s8 = g_setI s 967 ((b 7 + i) * 64 + 7) (z_g ((r i).testBit i)) := ⟨_, rfl⟩
    have V8 : E_V c tc u0 s8 := by rw [e8]; exact V.pI (by decide) (by decide) _ _
    have R8 : E_nd b x.2.1.length s8 r := fun k hk => by rw [e8, x_I_I, if_neg (fun q => by have := q.1; omega)]; exact Rs k hk
    have b1 := z_bit0' (Rs i hi).2 (show i < 4 by omega)
    refine ⟨g_setI s8 839 ((b 7 + i) * 64 + 7) (Int32.ofNat (z_tog x.2.1.length r i)), ?_, V8.pI (by decide) (by decide) _ _, by rw [e8]; exact (F.pI (by decide) _ _).pI (by decide) _ _, ?_⟩
    · show f_Ch_needParts_178 (f + 1) (some 3) (Int32.ofNat i) s = f_Ch_needParts_178 f (some 3) (Int32.ofNat (i + 1)) _
      rw [f_Ch_needParts_178, V.count S, if_neg (by rw [x_le (by omega) (by omega)]; omega), V.part S hi, x_gI, (Rs i hi).1]
      have fin : f_Ch_needParts_228 (f_Ch_needParts_178 f) 200000 (some 3) (Int32.ofNat i) (some ((b 7 + i) * 64 + 7)) 0 (g_setI s8 839 ((b 7 + i) * 64 + 7) (1 <<< (Int32.ofNat i &&& 31))) = f_Ch_needParts_178 f (some 3) (Int32.ofNat (i + 1)) (g_setI s8 839 ((b 7 + i) * 64 + 7) (Int32.ofNat (z_tog x.2.1.length r i))) := by
        rw [z_sh4 (by omega)]
        exact k_nd228 S _ V8 R8 hi
      by_cases w : (r i).testBit i = true
      · rw [if_neg (by rw [b1, w]; decide), show g_pZ s 967 (some ((b 7 + i) * 64 + 7)) 1 = g_pZ s 967 (some ((b 7 + i) * 64 + 7)) (z_g true) from rfl, x_pZ, ← w, ← e8, x_pI]
        exact fin
      · have w' : (r i).testBit i = false := by cases h : (r i).testBit i with | true => exact absurd h w | false => rfl
        rw [if_pos (by rw [b1]; exact w'), show g_pZ s 967 (some ((b 7 + i) * 64 + 7)) 0 = g_pZ s 967 (some ((b 7 + i) * 64 + 7)) (z_g false) from rfl, x_pZ, ← w', ← e8, x_pI]
        exact fin
    · intro k hk
      rw [e8]
      by_cases e : k = i
      · rw [e]
        exact ⟨by rw [x_I_I, if_neg (fun q => by have := q.1; omega), x_I_I, if_pos ⟨rfl, rfl⟩], by rw [x_I_I, if_pos ⟨rfl, rfl⟩]⟩
      · rw [x_I_I, if_neg (fun q => by have := q.1; omega), x_I_I, if_neg (fun q => by have := q.2; omega), x_I_I, if_neg (fun q => by have := q.2; omega), x_I_I, if_neg (fun q => by have := q.1; omega)]
        exact D k (by omega)
theorem k_nd (NM : z_NM n kd wd vl nw nv) (S : E_S pl wd c A O b x tc cols xs ys u0) (W : z_wqu kd q x) (hq : q ≤ n) {s7 : g_St} (V7 : E_V c tc u0 s7) (N7 : E_ns n kd nw wd b x tc u0 s7) (h7 : E_nd b x.2.1.length s7 (fun _ => 0)) : ∃ v, f_Ch_needParts (some 3) s7 = some ((), v) ∧ E_V c tc u0 v ∧ E_fk [775, 967, 839] [] s7 v ∧ E_nd b x.2.1.length v (z_rch nw x tc) ∧ E_np2 b x.2.1.length (z_rch nw x tc) x.2.1.length v := by
  have q3 := S.1.1.2.2.1
  obtain ⟨v1, a1, a2, a3, a4⟩ := k_nd2 NM S W hq V7 N7 h7
  obtain ⟨v2, b1, b2, b3, b4⟩ := k_nd92 S x.2.1.length 0 200000 v1 _ (by omega) (by omega) a2 a3 a4
  have b5 : E_nd b x.2.1.length v2 (z_rch nw x tc) := fun k hk => by
    unfold z_rch
    rw [z_close q3 _ hk]
    exact b4 k hk
  obtain ⟨v3, c1, c2, c3, c4⟩ := k_nd178 S b2 b5
  refine ⟨v3, a1.trans (b1.trans c1), c2, (b3.mono (by decide) (by decide)).trans (c3.mono (by decide) (by decide)), fun k hk => ?_, c4⟩
  rw [c3.2.1 _ _ (by decide)]
  exact b5 k hk
end
