/-! what is kept -/
section KEPT
variable {M M' : MS} {np : Nat}
theorem WS.cg (h : WS M np) (h3 : M' 3 = M 3) (h4 : M' 4 = M 4) (h24 : M' 24 = M 24) : WS M' np := by
  unfold WS
  rw [h4, h24]
  exact ⟨h.1, h.2.1, fun q hq => by rw [strL_congr h3]; exact h.2.2 q hq⟩
theorem BG.cg (h : BG M) (h0 : M' 0 0 = M 0 0) (h16 : M' 16 0 = M 16 0) (h18 : M' 18 0 = M 18 0) (h21 : M' 21 0 = M 21 0) (h22 : M' 22 0 = M 22 0) : BG M' := by
  unfold BG
  rw [h0, h16, h18, h21, h22]
  exact h
/-- a field of which nothing is asked -/
theorem INV.up {k : Nat} {f : Nat → Int32} (h : INV M np) (hk : k = 1 ∨ k = 11 ∨ k = 12 ∨ k = 15 ∨ k = 17 ∨ k = 20 ∨ k = 23) : INV (va_up M k f) np :=
  ⟨h.1.up f (by omega) (by omega) (by omega) (by omega) (by omega), h.2.1.cg (vn (by omega)) (vn (by omega)) (vn (by omega)), h.2.2.1.cg (by rw [vn (by omega)]) (by rw [vn (by omega)]) (by rw [vn (by omega)]) (by rw [vn (by omega)]) (by rw [vn (by omega)]), fun p hp => (h.2.2.2.1 p hp).cg (fun j hj => by rw [vn (by omega)]) (fun j hj => ⟨by rw [vn (by omega)], by rw [vn (by omega)]⟩), fun p hp => by rw [vn (by omega), vn (by omega)]; exact h.2.2.2.2 p hp⟩
theorem INV.rates {a b c : Int32} (h : INV M np) (ha : 1 ≤ a ∧ a ≤ 9) (hc : 0 ≤ c ∧ c ≤ 60) : INV (mRates M a b c) np := by
  have hw : WF (mRates M a b c) np := ((h.1.up _ (by decide) (by decide) (by decide) (by decide) (by decide)).up _ (by decide) (by decide) (by decide) (by decide) (by decide)).up _ (by decide) (by decide) (by decide) (by decide) (by decide)
  refine ⟨hw, h.2.1.cg rfl rfl rfl, ⟨h.2.2.1.1, ?_, ?_, h.2.2.1.2.2.2⟩, fun p hp => (h.2.2.2.1 p hp).cg (fun j hj => by unfold mRates; rw [vn (by omega), vn (by omega), vn (by omega)]) (fun j hj => ⟨rfl, rfl⟩), h.2.2.2.2⟩
  · obtain ⟨q, q1, q2⟩ := in_lit (n := 9) (by decide) (by omega) (Int32.le_trans (by decide) ha.1) ha.2
    refine ⟨q, ?_, q1, q2⟩
    rcases Nat.eq_zero_or_pos q with z | z
    · subst z; rw [q2] at ha; exact absurd ha.1 (by decide)
    · exact z
  · obtain ⟨q, q1, q2⟩ := in_lit (n := 60) (by decide) (by omega) hc.1 hc.2
    exact ⟨q, q1, q2⟩
theorem INV.due {p : Nat} {v : Int32} (h : INV M np) (hv : 0 ≤ v ∧ v ≤ 60) : INV (va_up M 13 (upd (M 13) p v)) np := by
  refine ⟨h.1.up _ (by decide) (by decide) (by decide) (by decide) (by decide), h.2.1.cg rfl rfl rfl, h.2.2.1, fun q hq => ?_, h.2.2.2.2⟩
  by_cases e : q = p
  · subst e
    obtain ⟨a, b, c, d, e, f, g⟩ := h.2.2.2.1 q hq
    obtain ⟨y, y1, y2⟩ := in_lit (n := 60) (by decide) (by omega) hv.1 hv.2
    exact ⟨a, b, c, d, e, Or.inr ⟨y, y1, by rw [vs, upd_eq]; exact y2⟩, g⟩
  · refine (h.2.2.2.1 q hq).cg (fun j hj => ?_) (fun j hj => ⟨rfl, rfl⟩)
    by_cases z : j = 13
    · subst z; rw [vs, upd_ne e]
    · rw [vn z]
theorem INV.tax {v : Int32} (h : INV M np) (hv : 0 ≤ v ∧ v ≤ 5000) : INV (va_up M 21 (fun _ => v)) np := by
  obtain ⟨y, y1, y2⟩ := in_lit (n := 5000) (by decide) (by omega) hv.1 hv.2
  exact ⟨h.1.up _ (by decide) (by decide) (by decide) (by decide) (by decide), h.2.1.cg rfl rfl rfl, ⟨h.2.2.1.1, h.2.2.1.2.1, h.2.2.1.2.2.1, ⟨y, y1, y2⟩⟩, fun p hp => (h.2.2.2.1 p hp).cg (fun j hj => by rw [vn (by omega)]) (fun j hj => ⟨rfl, rfl⟩), h.2.2.2.2⟩
theorem INV.works {v : Int32} {nw : Nat} (h : INV M np) (hn : nw < 20) : INV (va_up (va_up M 20 (upd (M 20) nw v)) 19 (fun _ => nI (nw + 1))) np := by
  obtain ⟨w1, w2, w3, w4, w5, w6⟩ := h.1
  exact ⟨⟨w1, w2, w3, w4, w5, ⟨nw + 1, by omega, rfl⟩⟩, h.2.1.cg rfl rfl rfl, h.2.2.1, fun p hp => (h.2.2.2.1 p hp).cg (fun j hj => by rw [vn (by omega), vn (by omega)]) (fun j hj => ⟨rfl, rfl⟩), h.2.2.2.2⟩
theorem INV.stake {q j : Nat} {v : Int32} (h : INV M np) (hv : -1 ≤ v ∧ v ≤ 300) : INV (va_up M 24 (upd (M 24) (8 * q + j) v)) np := by
  refine ⟨h.1.up _ (by decide) (by decide) (by decide) (by decide) (by decide), ⟨h.2.1.1, fun i => ?_, fun s hs => by rw [strL_congr (M := M) (M' := va_up M 24 _) rfl]; exact h.2.1.2.2 s hs⟩, h.2.2.1, fun p hp => (h.2.2.2.1 p hp).cg (fun j hj => by rw [vn (by omega)]) (fun j hj => ⟨rfl, rfl⟩), h.2.2.2.2⟩
  rw [vs]
  by_cases e : i = 8 * q + j
  · subst e
    rw [upd_eq]
    by_cases c : v = -1
    · exact Or.inl c
    · right
      have hm : (-1 : Int32).toInt = -1 := by decide
      have h0 : (0 : Int32).toInt = 0 := by decide
      have c1 := Int32.le_iff_toInt_le.mp hv.1
      have : v.toInt ≠ -1 := fun e => c (Int32.toInt_inj.mp (e.trans hm.symm))
      exact in_lit (n := 300) (by decide) (by omega) (Int32.le_iff_toInt_le.mpr (by omega)) hv.2
  · rw [upd_ne e]; exact h.2.1.2.1 i
theorem INV.lease {p l o : Nat} {y r : Int32} (h : INV M np) (hp : p < np) (h7 : M 7 p = nI l) (hl : l < 3) (h6 : M 6 p = 0) (ho : o < 20) (hy : 1 ≤ y ∧ y ≤ M 9 (4 * p + l)) (hr : 0 ≤ r ∧ r ≤ 999) : INV (mLease M p l (nI o) y r) np := by
  have e7 : mLease M p l (nI o) y r 7 = upd (M 7) p (nI (l + 1)) := rfl
  have e8 : mLease M p l (nI o) y r 8 = upd (M 8) (4 * p + l + 1) (nI o) := rfl
  have e9 : mLease M p l (nI o) y r 9 = upd (M 9) (4 * p + l + 1) y := rfl
  have e10 : mLease M p l (nI o) y r 10 = upd (M 10) (4 * p + l + 1) r := rfl
  obtain ⟨w1, w2, w3, w4, w5, w6⟩ := h.1
  refine ⟨⟨w1, w2, fun q => ?_, fun q => ?_, w5, w6⟩, h.2.1.cg rfl rfl rfl, h.2.2.1, fun q hq => ?_, fun q hq => ?_⟩
  · rw [e7]
    by_cases e : q = p
    · subst e; rw [upd_eq]; exact ⟨l + 1, by omega, rfl⟩
    · rw [upd_ne e]; exact w3 q
  · rw [e8]
    by_cases e : q = 4 * p + l + 1
    · subst e; rw [upd_eq]; exact ⟨o, ho, rfl⟩
    · rw [upd_ne e]; exact w4 q
  · by_cases e : q = p
    · subst e
      obtain ⟨a, b, c, d, e, f, g⟩ := h.2.2.2.1 q hq
      refine ⟨a, b, c, d, fun z => ?_, f, fun l' j l1 l2 l3 => ?_⟩
      · have z : M 6 q = 2 ∨ M 6 q = 3 := z
        rw [h6] at z
        exact absurd z (by decide)
      · rw [e7, upd_eq] at l1
        obtain rfl : l + 1 = l' := nI_inj (by omega) (by omega) l1
        rw [e9, e10]
        by_cases c : j = l + 1
        · subst c
          rw [← Nat.add_assoc, upd_eq, upd_eq, Nat.add_sub_cancel, upd_ne (by omega)]
          obtain ⟨yy, a1, a2, a3⟩ := (g l l h7 (by omega) (Nat.le_refl _)).1
          rw [a3] at hy
          obtain ⟨m, m1, m2⟩ := in_lit (x := y) (hi := nI yy) (n := yy) (ixn (by omega)) (by omega) (Int32.le_trans (by decide) hy.1) hy.2
          refine ⟨⟨m, ?_, by omega, m2⟩, fun _ => ⟨?_, by rw [a3]; exact hy.2⟩⟩
          · rcases Nat.eq_zero_or_pos m with z | z
            · subst z; rw [m2] at hy; exact absurd hy.1 (by decide)
            · exact z
          · exact in_lit (n := 999) (by decide) (by omega) hr.1 hr.2
        · rw [upd_ne (by omega), upd_ne (by omega), upd_ne (by omega)]
          exact g l j h7 (by omega) (by omega)
    · refine (h.2.2.2.1 q hq).cg (fun k hk => ?_) (fun j hj => ⟨by rw [e9, upd_ne (by omega)], by rw [e10, upd_ne (by omega)]⟩)
      by_cases c : k = 7
      · subst c; rw [e7, upd_ne e]
      · unfold mLease; rw [vn (by omega), vn (by omega), vn (by omega), vn c]
  · rw [e7, upd_ne (by omega)]
    exact h.2.2.2.2 q hq
end KEPT
