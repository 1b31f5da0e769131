/-! THE QUERY AS THE RUN HAS IT: out of the tree -/
def t_mn (nw : Nat → Nat) (x : z_Qu) (tc t : Nat) : Nat ⊕ Nat := (z_mng nw x.2.1 tc t).getD (.inl 0)
def t_op (nw : Nat → Nat) (vl : Nat → Int64) (x : z_Qu) (tc : Nat) (cols : Nat → Nat) (srs : List Nat) (wi : Option Nat) (e : Bool × Nat × Nat) : r_Op := (e.1, if e.2.1 = 2 then .inr ((z_slt nw srs e.2.2 wi).getD 0, (z_tcl nw x.2.1 tc cols srs wi e.2.2).getD 0) else .inl (if e.2.1 = 1 then r_N else vl e.2.2))
def t_ex (nw : Nat → Nat) (vl : Nat → Int64) (x : z_Qu) (tc : Nat) (cols : Nat → Nat) (srs : List Nat) (wi : Option Nat) (L : z_Ex) : List r_Op := L.map (t_op nw vl x tc cols srs wi)
def t_bs (nw : Nat → Nat) (vl : Nat → Int64) (x : z_Qu) (tc : Nat) (cols : Nat → Nat) (srs : List Nat) (wi : Option Nat) (b : z_Bs) : r_Cp := (t_ex nw vl x tc cols srs wi b.1, b.2.1, t_ex nw vl x tc cols srs wi b.2.2)
def t_co (nw : Nat → Nat) (vl : Nat → Int64) (x : z_Qu) (tc : Nat) (cols : Nat → Nat) (srs : List Nat) : z_Co → r_Cd
  | .inl b => .inl (t_bs nw vl x tc cols srs none b)
  | .inr z => .inr (t_mn nw x tc z.1, z.2.map (t_bs nw vl x tc cols srs (some z.1)))
def t_its (nw : Nat → Nat) (vl : Nat → Int64) (x : z_Qu) (tc : Nat) (cols : Nat → Nat) (srs : List Nat) (l : List z_It) : List r_It := l.map fun i => (i.1, t_ex nw vl x tc cols srs none i.2)
def t_ms (nw : Nat → Nat) (x : z_Qu) (tc : Nat) (srs : List Nat) : List (Nat ⊕ Nat) := srs.map (t_mn nw x tc)
def t_sel (nw : Nat → Nat) (vl : Nat → Int64) (x : z_Qu) (tc : Nat) (cols : Nat → Nat) (lv : Nat → Nat) (y : z_Se) : r_Sel := (t_its nw vl x tc cols y.2.2.1 y.2.1, t_ms nw x tc y.2.2.1, y.2.2.2.map (t_co nw vl x tc cols y.2.2.1), lv, z_rk y.2.1)
def t_Xs (nw : Nat → Nat) (x : z_Qu) (q : Nat) : r_Pt := ((x.2.1.getD q z_pa0).2.1.length, (x.2.1.getD q z_pa0).2.2.2.2.1.map (fun s => (s.1, (z_own1 nw (x.2.1.getD q z_pa0) (s.2 + 3)).getD 0)), (x.2.1.getD q z_pa0).2.2.2.2.2.map (fun s => (z_own1 nw (x.2.1.getD q z_pa0) s).getD 0), (x.2.1.getD q z_pa0).2.2.2.1.any fun b => !b)
section
variable {nw : Nat → Nat} {vl : Nat → Int64} {x : z_Qu} {tc : Nat} {cols : Nat → Nat} {srs : List Nat}
theorem t_ml {k : Nat} (hk : k < srs.length) : r_ml (t_ms nw x tc srs) k = t_mn nw x tc (srs.getD k 0) := by
  unfold r_ml t_ms
  rw [List.getD_eq_getElem?_getD, List.getElem?_map, List.getElem?_eq_getElem hk, List.getD_eq_getElem?_getD, List.getElem?_eq_getElem hk]
  rfl
theorem t_mn_ok {t : Nat} {m : Nat ⊕ Nat} (h : z_mng nw x.2.1 tc t = some m) : t_mn nw x tc t = m ∧ M_ok x.2.1.length tc m := by
  unfold t_mn
  rw [h]
  refine ⟨rfl, ?_⟩
  cases m with
  | inl k => exact z_mng_lt.1 k h
  | inr k => exact z_mng_lt.2 k h
theorem t_tmn_lo {wi : Option Nat} {sl : Nat} (h : sl ≠ 3) : z_tmn nw x.2.1 tc srs wi (some sl) = z_mng nw x.2.1 tc (srs.getD sl 0) := by
  unfold z_tmn
  simp only []
  rw [if_neg h]
theorem t_tmn_3 {w : Nat} : z_tmn nw x.2.1 tc srs (some w) (some 3) = z_mng nw x.2.1 tc w := by
  unfold z_tmn
  simp only []
  rw [if_pos trivial]
/-- a column that is named -/
theorem t_term {wi : Option Nat} {t c : Nat} (hw : ∀ k, k < x.2.1.length → (x.2.1.getD k z_pa0).2.1.length ≤ 3) (h3 : srs.length ≤ 3) (h : z_tcl nw x.2.1 tc cols srs wi t = some c) (hc : c ≠ 4) : ∃ sl m, z_slt nw srs t wi = some sl ∧ z_tmn nw x.2.1 tc srs wi (some sl) = some m ∧ M_ok x.2.1.length tc m ∧ ((sl < srs.length ∧ r_ml (t_ms nw x tc srs) sl = m) ∨ (sl = 3 ∧ ∃ w, wi = some w ∧ t_mn nw x tc w = m)) ∧ r_W (t_Xs nw x) cols m c ∧ z_cc x.2.1 (some m) false (some c) = Int32.ofNat (M_col (t_Xs nw x) m c) := by
  unfold z_tcl at h
  cases hs : z_slt nw srs t wi with
  | none => rw [hs] at h; cases h
  | some sl =>
    rw [hs] at h
    cases hm : z_tmn nw x.2.1 tc srs wi (some sl) with
    | none => rw [hm] at h; cases h
    | some m =>
      rw [hm] at h
      have mok : M_ok x.2.1.length tc m := by
        cases m with
        | inl k => exact z_tmn_lt.1 k hm
        | inr k => exact z_tmn_lt.2 k hm
      refine ⟨sl, m, rfl, hm, mok, ?_, ?_⟩
      · rcases z_slt_lt hs with g | ⟨g, w, hw⟩
        · left
          refine ⟨g, ?_⟩
          have h' := hm
          rw [t_tmn_lo (by omega)] at h'
          rw [t_ml g]
          exact (t_mn_ok h').1
        · right
          refine ⟨g, w, hw, ?_⟩
          have h' := hm
          rw [g, hw, t_tmn_3] at h'
          exact (t_mn_ok h').1
      · cases m with
        | inr t' =>
          have h' : z_ff (fun k => decide (nw (t + 2) = 97 + k)) (cols t') 0 = some c := h
          have := (z_ff_some h').2.1
          exact ⟨by show c < cols t'; omega, rfl⟩
        | inl k =>
          have h' : z_pcl nw (x.2.1.getD k z_pa0) (t + 2) = some c := h
          unfold z_pcl at h'
          cases hf : z_ff (fun i => decide (nw ((x.2.1.getD k z_pa0).2.1.getD i 0) = nw (t + 2))) (x.2.1.getD k z_pa0).2.1.length 0 with
          | some i =>
            rw [hf] at h'
            cases h'
            have l := (z_ff_some hf).2.1
            refine ⟨Or.inl (by show c < (x.2.1.getD k z_pa0).2.1.length; omega), ?_⟩
            show (if c < 3 then Int32.ofNat c else if c = 3 then Int32.ofNat (x.2.1.getD k z_pa0).2.1.length else if false = true then 100 else -1) = Int32.ofNat (if c = 3 then (x.2.1.getD k z_pa0).2.1.length else c)
            have w3 := hw k mok
            rw [if_pos (show c < 3 by omega), if_neg (show ¬ c = 3 by omega)]
          | none =>
            rw [hf] at h'
            simp only [] at h'
            by_cases g1 : z_mark nw (x.2.1.getD k z_pa0) (t + 2) = true
            · rw [if_pos g1] at h'
              cases h'
              have cy : (x.2.1.getD k z_pa0).2.2.2.2.2.isSome = true := by
                unfold z_mark at g1
                cases hy : (x.2.1.getD k z_pa0).2.2.2.2.2 with
                | none => rw [hy] at g1; cases g1
                | some y => rfl
              refine ⟨Or.inr ⟨rfl, ?_⟩, rfl⟩
              show ((x.2.1.getD k z_pa0).2.2.2.2.2.map _).isSome = true
              rw [Option.isSome_map]; exact cy
            · rw [if_neg g1] at h'
              by_cases g2 : z_trl nw (x.2.1.getD k z_pa0) (t + 2) = true
              · rw [if_pos g2] at h'; cases h'; exact absurd rfl hc
              · rw [if_neg g2] at h'; cases h'
end
