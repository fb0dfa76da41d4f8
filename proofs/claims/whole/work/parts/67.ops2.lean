/-! each operation, on -/
section OPS2
variable {M S : MS} {C : Nat → Int64} {G : AHp} {np : Nat}
/-- is there such a place of a chain -/
def plc (M : MS) (np : Nat) (x k : Int32) : Prop := ∃ p j l, p < np ∧ x = nI p ∧ M 7 p = nI l ∧ l ≤ 3 ∧ j ≤ l ∧ k = nI j ∧ ¬ (M 6 p = 2 ∨ M 6 p = 3)
theorem plc_no {x k : Int32} (c : ¬ plc M np x k) : ∀ p j l, p < np → x = nI p → M 7 p = nI l → l ≤ 3 → j ≤ l → k = nI j → (M 6 p = 2 ∨ M 6 p = 3) := fun p j l a1 a2 a3 a4 a5 a6 => Decidable.byContradiction (fun g => c ⟨p, j, l, a1, a2, a3, a4, a5, a6, g⟩)
theorem op_interest {x k : Int32} (hC : CH G M np) (hI : INV M np) (ho : own M np) : OP G M 4 4 0 0 M_af_interest M_md_interest [some (.ref 20), some (.int x), some (.int k), none] [some (.ref 100), some (.int x), some (.int k)] := by
  have h24 := hI.1.2.1
  by_cases c : plc M np x k
  · obtain ⟨p, j, l, b1, b2, b3, b4, b5, b6, b7⟩ := c
    refine ⟨intM M p j, M, np, hI, ho, fun Q h => c_af_interest hC hI.1 (fun p' j' l' a1 a2 a3 a4 a5 a6 a7 => ?_) (fun z => absurd (z p j l b1 b2 b3 b4 b5 b6) b7), fun G1 S C hM Q h => c_md_interest hM hI.1 (fun p' j' l' a1 a2 a3 a4 a5 a6 a7 => ?_) (fun z => absurd (z p j l b1 b2 b3 b4 b5 b6) b7)⟩
    · obtain rfl : p' = p := nI_inj (by omega) (by omega) (a2.symm.trans b2)
      obtain rfl : j' = j := nI_inj (by omega) (by omega) (a6.symm.trans b6)
      exact h G hC FrC.rf
    · obtain rfl : p' = p := nI_inj (by omega) (by omega) (a2.symm.trans b2)
      obtain rfl : j' = j := nI_inj (by omega) (by omega) (a6.symm.trans b6)
      exact h G1 S C hM FrM.rf
  · exact ⟨_, M, np, hI, ho, fun Q h => c_af_interest hC hI.1 (fun p' j' l' a1 a2 a3 a4 a5 a6 a7 => absurd ⟨p', j', l', a1, a2, a3, a4, a5, a6, a7⟩ c) (fun _ => h G hC FrC.rf), fun G1 S C hM Q h => c_md_interest hM hI.1 (fun p' j' l' a1 a2 a3 a4 a5 a6 a7 => absurd ⟨p', j', l', a1, a2, a3, a4, a5, a6, a7⟩ c) (fun _ => h G1 S C hM FrM.rf)⟩
theorem op_chain {x k w : Int32} (hC : CH G M np) (hI : INV M np) (ho : own M np) : OP G M 4 3 0 0 M_af_chain M_md_chain [some (.ref 20), some (.int x), some (.int k), some (.int w), none] [some (.ref 100), some (.int x), some (.int k), some (.int w)] := by
  have h24 := hI.1.2.1
  by_cases c : plc M np x k
  · obtain ⟨p, j, l, b1, b2, b3, b4, b5, b6, b7⟩ := c
    refine ⟨chnM M p j w, M, np, hI, ho, fun Q h => c_af_chain hC hI.1 (fun z => absurd (z p j l b1 b2 b3 b4 b5 b6) b7) (fun p' j' l' a1 a2 a3 a4 a5 a6 a7 => ?_), fun G1 S C hM Q h => c_md_chain hM hI.1 (fun z => absurd (z p j l b1 b2 b3 b4 b5 b6) b7) (fun p' j' l' a1 a2 a3 a4 a5 a6 a7 => ?_)⟩
    · obtain rfl : p' = p := nI_inj (by omega) (by omega) (a2.symm.trans b2)
      obtain rfl : j' = j := nI_inj (by omega) (by omega) (a6.symm.trans b6)
      exact h G hC FrC.rf
    · obtain rfl : p' = p := nI_inj (by omega) (by omega) (a2.symm.trans b2)
      obtain rfl : j' = j := nI_inj (by omega) (by omega) (a6.symm.trans b6)
      exact h G1 S C hM FrM.rf
  · exact ⟨_, M, np, hI, ho, fun Q h => c_af_chain hC hI.1 (fun _ => h G hC FrC.rf) (fun p' j' l' a1 a2 a3 a4 a5 a6 a7 => absurd ⟨p', j', l', a1, a2, a3, a4, a5, a6, a7⟩ c), fun G1 S C hM Q h => c_md_chain hM hI.1 (fun _ => h G1 S C hM FrM.rf) (fun p' j' l' a1 a2 a3 a4 a5 a6 a7 => absurd ⟨p', j', l', a1, a2, a3, a4, a5, a6, a7⟩ c)⟩
theorem op_lease {x o y r : Int32} (hC : CH G M np) (hI : INV M np) (ho : own M np) : OP G M 4 2 0 0 M_af_lease M_md_lease [some (.ref 20), some (.int x), some (.int o), some (.int y), some (.int r), none] [some (.ref 100), some (.int x), some (.int o), some (.int y), some (.int r), none] := by
  have h24 := hI.1.2.1
  by_cases c : ∃ p l, p < np ∧ x = nI p ∧ M 7 p = nI l ∧ l < 3 ∧ M 6 p = 0 ∧ (∃ q, q < 20 ∧ o = nI q) ∧ (1 ≤ y ∧ y ≤ M 9 (4 * p + l)) ∧ (0 ≤ r ∧ r ≤ 999)
  · have c' := c
    obtain ⟨p, l, b1, b2, b3, b4, b5, ⟨q, q1, q2⟩, b7, b8⟩ := c
    refine ⟨nI (l + 1), mLease M p l o y r, np, by rw [q2]; exact hI.lease b1 b3 b4 b5 q1 b7 b8, fun p' hp' => ?_, fun Q h => c_af_lease hC hI.1 (fun z => absurd c' z) (fun p' l' o' a1 a2 a3 a4 a5 a6 a7 a8 a9 G1 d1 d2 => ?_), fun G1 S C hM Q h => c_md_lease hM hI.1 (fun z => absurd c' z) (fun p' l' o' a1 a2 a3 a4 a5 a6 a7 a8 a9 G2 d1 d2 => ?_)⟩
    · show upd (M 9) (4 * p + l + 1) y (4 * p') = 99
      rw [upd_ne (by omega)]; exact ho p' hp'
    · obtain rfl : p' = p := nI_inj (by omega) (by omega) (a2.symm.trans b2)
      obtain rfl : l' = l := nI_inj (by omega) (by omega) (a3.symm.trans b3)
      exact h G1 d1 d2
    · obtain rfl : p' = p := nI_inj (by omega) (by omega) (a2.symm.trans b2)
      obtain rfl : l' = l := nI_inj (by omega) (by omega) (a3.symm.trans b3)
      exact h G2 S C d1 d2
  · exact ⟨_, M, np, hI, ho, fun Q h => c_af_lease hC hI.1 (fun _ => h G hC FrC.rf) (fun p' l' o' a1 a2 a3 a4 a5 a6 a7 a8 a9 => absurd ⟨p', l', a1, a2, a3, a4, a5, ⟨o', a6, a7⟩, a8, a9⟩ c), fun G1 S C hM Q h => c_md_lease hM hI.1 (fun _ => h G1 S C hM FrM.rf) (fun p' l' o' a1 a2 a3 a4 a5 a6 a7 a8 a9 => absurd ⟨p', l', a1, a2, a3, a4, a5, ⟨o', a6, a7⟩, a8, a9⟩ c)⟩
theorem op_plot {s z w : Int32} (hC : CH G M np) (hI : INV M np) (ho : own M np) : OP G M 8 2 8 110 M_af_plot M_md_plot [some (.ref 20), some (.int s), some (.int z), some (.int w), none, none, none, none] [some (.ref 100), some (.int s), some (.int z), some (.int w)] := by
  have h24 := hI.1.2.1
  by_cases c : (∃ q, q < 6 ∧ s = nI q) ∧ (∃ q, q < 20 ∧ w = nI q) ∧ (10 ≤ z / 1000 ∧ z / 1000 ≤ 60) ∧ (20 ≤ z - z / 1000 * 1000 ∧ z - z / 1000 * 1000 ≤ 100) ∧ np ≠ 24 ∧ onS M s np ≠ 8
  · have c' := c
    obtain ⟨⟨q, q1, q2⟩, ⟨o, o1, o2⟩, b3, b4, b5, b6⟩ := c
    have hk := INV.plot (q := q) (o := o) (x := z / 1000) (y := z - z / 1000 * 1000) hI ho (by omega) q1 o1 b3 b4 (by rw [← q2]; exact b6)
    rw [← q2, ← o2] at hk
    exact ⟨nI np, mPlot M np s (z / 1000) (z - z / 1000 * 1000) w, np + 1, hk.1, hk.2, fun Q h => c_af_plot hC hI (fun z => absurd c' z) (fun _ _ _ _ _ _ _ _ _ _ G1 d1 d2 => h G1 d1 d2), fun G1 S C hM Q h => c_md_plot hM hI.1.1 h24 (fun z => absurd c' z) (fun _ _ _ _ _ _ _ _ _ _ G2 d1 d2 => h G2 S C d1 d2)⟩
  · exact ⟨_, M, np, hI, ho, fun Q h => c_af_plot hC hI (fun _ G1 d1 d2 => h G1 d1 d2) (fun q o a1 a2 a3 a4 a5 a6 a7 a8 => absurd ⟨⟨q, a1, a2⟩, ⟨o, a3, a4⟩, a5, a6, by omega, a8⟩ c), fun G1 S C hM Q h => c_md_plot hM hI.1.1 h24 (fun _ => h G1 S C hM FrM.rf) (fun q o a1 a2 a3 a4 a5 a6 a7 a8 => absurd ⟨⟨q, a1, a2⟩, ⟨o, a3, a4⟩, a5, a6, by omega, a8⟩ c)⟩
/-- a part does not hang on what lay in the rows -/
theorem parP_ind {p l b k : Nat} {P P' : Nat → Int32} {C C' : Nat → Int64} (hB : BP M p) (hG : BG M) (h7 : M 7 p = nI l) (hl : l ≤ 3) (hb : b ≤ l) (hk : k ≤ l) : parP M p l (nI b) P C k = parP M p l (nI b) P' C' k := by
  have i1 : ∀ j, j ≤ l → (fun j => if j ≤ l then intM M p j else 0) j = intM M p j := fun j hj => if_pos hj
  have i0 : ∀ j, l < j → (fun j => if j ≤ l then intM M p j else 0) j = 0 := fun j hj => if_neg (by omega)
  by_cases hs : 0 < smK (fun j => if j ≤ l then intM M p j else 0) (l + 1)
  · exact ((parts_pos (b := b) (P := P) (P0 := P) (C := C) (C0 := C) hB hG h7 hl i1 i0 hs rfl).2 k hk).symm.trans ((parts_pos (b := b) (P := P') (P0 := P) (C := C') (C0 := C) hB hG h7 hl i1 i0 hs rfl).2 k hk)
  · exact (parts_zero (b := b) (P := P) (P0 := P) (C := C) hB h7 hl hb i1 hs k hk).symm.trans (parts_zero (b := b) (P := P') (P0 := P) (C := C') hB h7 hl hb i1 hs k hk)
theorem op_bears {x k : Int32} (hC : CH G M np) (hI : INV M np) (ho : own M np) : OP G M 5 5 0 0 M_af_bears M_md_bears [some (.ref 20), some (.int x), some (.int k), none, none] [some (.ref 100), some (.int x), some (.int k)] := by
  have h24 := hI.1.2.1
  by_cases c : plc M np x k
  · obtain ⟨p, j, l, b1, b2, b3, b4, b5, b6, b7⟩ := c
    have hB := hI.2.2.2.1 p b1
    rcases bldM_cases M p (l + 1) with e | ⟨b, hb, e⟩
    · refine ⟨-1, M, np, hI, ho, fun Q h => c_af_bears hC hI (fun p' j' l' b' a1 a2 a3 a4 a5 a6 a7 a8 a9 => ?_) (fun _ _ _ _ _ _ _ _ _ _ _ => h G hC FrC.rf) (fun z => absurd (z p j l b1 b2 b3 b4 b5 b6) b7), fun G1 S C hM Q h => c_md_bears hM hI.1 (fun p' j' l' b' a1 a2 a3 a4 a5 a6 a7 a8 a9 => ?_) (fun _ _ _ _ _ _ _ _ _ _ _ => h G1 S C hM FrM.rf) (fun z => absurd (z p j l b1 b2 b3 b4 b5 b6) b7)⟩
      · obtain rfl : p' = p := nI_inj (by omega) (by omega) (a2.symm.trans b2)
        obtain rfl : l' = l := nI_inj (by omega) (by omega) (a3.symm.trans b3)
        exact absurd (a9.symm.trans e) (nI_nm1 (by omega))
      · obtain rfl : p' = p := nI_inj (by omega) (by omega) (a2.symm.trans b2)
        obtain rfl : l' = l := nI_inj (by omega) (by omega) (a3.symm.trans b3)
        exact absurd (a9.symm.trans e) (nI_nm1 (by omega))
    · refine ⟨parP M p l (nI b) (fun _ => 0) (fun _ => 0) j, M, np, hI, ho, fun Q h => c_af_bears hC hI (fun p' j' l' b' a1 a2 a3 a4 a5 a6 a7 a8 a9 G1 d1 d2 v hv => ?_) (fun p' j' l' a1 a2 a3 a4 a5 a6 a7 a9 => ?_) (fun z => absurd (z p j l b1 b2 b3 b4 b5 b6) b7), fun G1 S C hM Q h => c_md_bears hM hI.1 (fun p' j' l' b' a1 a2 a3 a4 a5 a6 a7 a8 a9 G2 S' C' d1 d2 => ?_) (fun p' j' l' a1 a2 a3 a4 a5 a6 a7 a9 => ?_) (fun z => absurd (z p j l b1 b2 b3 b4 b5 b6) b7)⟩
      · obtain rfl : p' = p := nI_inj (by omega) (by omega) (a2.symm.trans b2)
        obtain rfl : l' = l := nI_inj (by omega) (by omega) (a3.symm.trans b3)
        obtain rfl : j' = j := nI_inj (by omega) (by omega) (a6.symm.trans b6)
        obtain rfl : b' = b := nI_inj (by omega) (by omega) (a9.symm.trans e)
        rw [hv (fun _ => 0) (fun _ => 0)]
        exact h G1 d1 d2
      · obtain rfl : p' = p := nI_inj (by omega) (by omega) (a2.symm.trans b2)
        obtain rfl : l' = l := nI_inj (by omega) (by omega) (a3.symm.trans b3)
        exact absurd (e.symm.trans a9) (nI_nm1 (by omega))
      · obtain rfl : p' = p := nI_inj (by omega) (by omega) (a2.symm.trans b2)
        obtain rfl : l' = l := nI_inj (by omega) (by omega) (a3.symm.trans b3)
        obtain rfl : j' = j := nI_inj (by omega) (by omega) (a6.symm.trans b6)
        obtain rfl : b' = b := nI_inj (by omega) (by omega) (a9.symm.trans e)
        rw [parP_ind (P' := fun _ => 0) (C' := fun _ => 0) hB hI.2.2.1 b3 b4 (by omega) a5]
        exact h G2 S' C' d1 d2
      · obtain rfl : p' = p := nI_inj (by omega) (by omega) (a2.symm.trans b2)
        obtain rfl : l' = l := nI_inj (by omega) (by omega) (a3.symm.trans b3)
        exact absurd (e.symm.trans a9) (nI_nm1 (by omega))
  · exact ⟨-1, M, np, hI, ho, fun Q h => c_af_bears hC hI (fun p' j' l' b' a1 a2 a3 a4 a5 a6 a7 => absurd ⟨p', j', l', a1, a2, a3, a4, a5, a6, a7⟩ c) (fun p' j' l' a1 a2 a3 a4 a5 a6 a7 => absurd ⟨p', j', l', a1, a2, a3, a4, a5, a6, a7⟩ c) (fun _ => h G hC FrC.rf), fun G1 S C hM Q h => c_md_bears hM hI.1 (fun p' j' l' b' a1 a2 a3 a4 a5 a6 a7 => absurd ⟨p', j', l', a1, a2, a3, a4, a5, a6, a7⟩ c) (fun p' j' l' a1 a2 a3 a4 a5 a6 a7 => absurd ⟨p', j', l', a1, a2, a3, a4, a5, a6, a7⟩ c) (fun _ => h G1 S C hM FrM.rf)⟩
theorem op_decree {x : Int32} (hC : CH G M np) (hI : INV M np) (ho : own M np) : OP G M 6 5 0 0 M_af_decree M_md_decree [some (.ref 20), some (.int x), none, none, none] [some (.ref 100), some (.int x), none, none, none, none] := by
  have h24 := hI.1.2.1
  by_cases c : ∃ p, p < np ∧ x = nI p ∧ M 6 p = 0
  · have c' := c
    obtain ⟨p, b1, b2, b3⟩ := c
    obtain ⟨l, l1, l2⟩ := hI.1.2.2.1 p
    have hB := hI.2.2.2.1 p b1
    rcases bldM_cases M p (l + 1) with e | ⟨b, hb, e⟩
    · refine ⟨-1, M, np, hI, ho, fun Q h => c_af_decree hC hI (fun z => absurd c' z) (fun _ _ _ _ _ _ _ _ => h G hC FrC.rf) (fun p' l' b' o' a1 a2 a3 a4 a5 a6 a7 => ?_), fun G1 S C hM Q h => c_md_decree hM hI.1 (fun z => absurd c' z) (fun _ _ _ _ _ _ _ _ => h G1 S C hM FrM.rf) (fun p' l' b' o' a1 a2 a3 a4 a5 a6 a7 => ?_)⟩
      · obtain rfl : p' = p := nI_inj (by omega) (by omega) (a2.symm.trans b2)
        obtain rfl : l' = l := nI_inj (by omega) (by omega) (a4.symm.trans l2)
        exact absurd (a7.symm.trans e) (nI_nm1 (by omega))
      · obtain rfl : p' = p := nI_inj (by omega) (by omega) (a2.symm.trans b2)
        obtain rfl : l' = l := nI_inj (by omega) (by omega) (a4.symm.trans l2)
        exact absurd (a7.symm.trans e) (nI_nm1 (by omega))
    · obtain ⟨o, o1, o2⟩ := hI.1.2.2.2.1 (4 * p + b)
      obtain ⟨k1, k2⟩ := INV.dec (P := parP M p l (nI b) (fun _ => 0) (fun _ => 0)) hI ho b1 l2 l1 (show b ≤ l by omega) o1
      refine ⟨nI b, mDec M np p l b o (parP M p l (nI b) (fun _ => 0) (fun _ => 0)), np, k1, k2, fun Q h => c_af_decree hC hI (fun z => absurd c' z) (fun p' l' a1 a2 a3 a4 a5 a7 => ?_) (fun p' l' b' o' a1 a2 a3 a4 a5 a6 a7 a8 a9 P hP G1 d1 d2 => ?_), fun G1 S C hM Q h => c_md_decree hM hI.1 (fun z => absurd c' z) (fun p' l' a1 a2 a3 a4 a5 a7 => ?_) (fun p' l' b' o' a1 a2 a3 a4 a5 a6 a7 a8 a9 G2 S' C' d1 d2 => ?_)⟩
      · obtain rfl : p' = p := nI_inj (by omega) (by omega) (a2.symm.trans b2)
        obtain rfl : l' = l := nI_inj (by omega) (by omega) (a4.symm.trans l2)
        exact absurd (e.symm.trans a7) (nI_nm1 (by omega))
      · obtain rfl : p' = p := nI_inj (by omega) (by omega) (a2.symm.trans b2)
        obtain rfl : l' = l := nI_inj (by omega) (by omega) (a4.symm.trans l2)
        obtain rfl : b' = b := nI_inj (by omega) (by omega) (a7.symm.trans e)
        obtain rfl : o' = o := nI_inj (by omega) (by omega) (a9.symm.trans o2)
        rw [mDec_congr (P' := parP M p' l' (nI b') (fun _ => 0) (fun _ => 0)) (fun k hk => hP k hk _ _)] at d1
        exact h G1 d1 d2
      · obtain rfl : p' = p := nI_inj (by omega) (by omega) (a2.symm.trans b2)
        obtain rfl : l' = l := nI_inj (by omega) (by omega) (a4.symm.trans l2)
        exact absurd (e.symm.trans a7) (nI_nm1 (by omega))
      · obtain rfl : p' = p := nI_inj (by omega) (by omega) (a2.symm.trans b2)
        obtain rfl : l' = l := nI_inj (by omega) (by omega) (a4.symm.trans l2)
        obtain rfl : b' = b := nI_inj (by omega) (by omega) (a7.symm.trans e)
        obtain rfl : o' = o := nI_inj (by omega) (by omega) (a9.symm.trans o2)
        rw [mDec_congr (P' := parP M p' l' (nI b') (fun _ => 0) (fun _ => 0)) (fun k hk => parP_ind hB hI.2.2.1 l2 l1 a6 hk)] at d1
        exact h G2 S' C' d1 d2
  · exact ⟨-1, M, np, hI, ho, fun Q h => c_af_decree hC hI (fun _ => h G hC FrC.rf) (fun p' l' a1 a2 a3 => absurd ⟨p', a1, a2, a3⟩ c) (fun p' l' b' o' a1 a2 a3 => absurd ⟨p', a1, a2, a3⟩ c), fun G1 S C hM Q h => c_md_decree hM hI.1 (fun _ => h G1 S C hM FrM.rf) (fun p' l' a1 a2 a3 => absurd ⟨p', a1, a2, a3⟩ c) (fun p' l' b' o' a1 a2 a3 => absurd ⟨p', a1, a2, a3⟩ c)⟩
end OPS2
