/-! each operation, the last ones -/
section OPS3
variable {M S : MS} {C : Nat → Int64} {G : AHp} {np : Nat}
theorem op_act {x n : Int32} (hC : CH G M np) (hI : INV M np) (ho : own M np) : OP G M 4 2 0 0 M_af_act M_md_act [some (.ref 20), some (.int x), some (.int n), none, none, none] [some (.ref 100), some (.int x), some (.int n), none, none, none, none] := by
  by_cases c : (∃ q, q < 6 ∧ x = nI q) ∧ 1 ≤ n ∧ n ≤ 40
  · obtain ⟨k1, k2⟩ := INV.act (s := x) hI ho c.2 np (Nat.le_refl _)
    exact ⟨actF M x n np, actM M x n np, np, k1, k2, fun Q h => c_af_act hC hI.1 hI.2.1 (fun z => absurd c z) (fun _ _ _ _ _ G1 d1 d2 => h G1 d1 d2), fun G1 S C hM Q h => c_md_act hM hI.1 (fun z => absurd c z) (fun _ _ _ _ _ G2 d1 d2 => h G2 S C d1 d2)⟩
  · exact ⟨-1, M, np, hI, ho, fun Q h => c_af_act hC hI.1 hI.2.1 (fun _ => h G hC FrC.rf) (fun q a1 a2 a3 a4 => absurd ⟨⟨q, a1, a2⟩, a3, a4⟩ c), fun G1 S C hM Q h => c_md_act hM hI.1 (fun _ => h G1 S C hM FrM.rf) (fun q a1 a2 a3 a4 => absurd ⟨⟨q, a1, a2⟩, a3, a4⟩ c)⟩
theorem op_year (hC : CH G M np) (hI : INV M np) (ho : own M np) : OP G M 4 1 0 0 M_af_year M_md_year [some (.ref 20), none, none] [some (.ref 100), none, none, none] := by
  obtain ⟨c, nw, -, -, b4⟩ := hC.ct
  by_cases k : M 0 0 = 60
  · exact ⟨-1, M, np, hI, ho, fun Q h => c_af_year hC hI b4.1 b4.2.1 (fun _ => h G hC FrC.rf) (fun z => absurd k z), fun G1 S C hM Q h => c_md_year hM hI.1 b4.1 b4.2.1 (fun _ => h G1 S C hM FrM.rf) (fun z => absurd k z)⟩
  · obtain ⟨k1, k2⟩ := INV.year hI ho b4 k
    exact ⟨_, mYear M np nw, np, k1, k2, fun Q h => c_af_year hC hI b4.1 b4.2.1 (fun z => absurd z k) (fun _ G1 d1 d2 => h G1 d1 d2), fun G1 S C hM Q h => c_md_year hM hI.1 b4.1 b4.2.1 (fun z => absurd z k) (fun _ G2 d1 d2 => h G2 S C d1 d2)⟩
theorem ex_Z (r : Nat → Int32) (B : List Nat) : ∃ Z : List Nat, Z.Perm B ∧ srt r Z := by
  refine ⟨B.mergeSort (fun x y => decide (r x ≤ r y)), List.mergeSort_perm _ _, ?_⟩
  have h := List.pairwise_mergeSort (le := fun x y => decide (r x ≤ r y)) (fun a b c h1 h2 => by
    simp only [decide_eq_true_eq] at *
    exact Int32.le_trans h1 h2) (fun a b => by
    simp only [Bool.or_eq_true, decide_eq_true_eq]
    exact Int32.le_total _ _) B
  exact List.Pairwise.imp (fun z => of_decide_eq_true z) h
theorem bs_ind {b : Int32} (hI : INV M np) (b1 : 1 ≤ b) (b2 : b ≤ 2000) (h12 : (brn M np).length ≤ 12) (x : Int32) : bsM M (fun k => (brn M np).getD k 0) (brn M np).length b x (2 ^ (brn M np).length) = bsM M (fun k => (brn M np).getD k 0) (brn M np).length b 0 (2 ^ (brn M np).length) := by
  obtain ⟨Z, z1, z2⟩ := ex_Z (rmI M b) (brn M np)
  rw [bricks_eq hI b1 b2 h12 z1 z2, bricks_eq hI b1 b2 h12 z1 z2]
theorem op_saved {b : Int32} (hC : CH G M np) (hI : INV M np) (ho : own M np) : OP G M 16 4 0 0 M_af_saved M_md_saved [some (.ref 20), some (.int b)] [some (.ref 100), some (.int b)] := by
  by_cases c : ¬ (1 ≤ b ∧ b ≤ 2000) ∨ 12 < (brn M np).length
  · refine ⟨-1, M, np, hI, ho, fun Q h => c_af_saved hC hI (fun _ G1 d1 d2 => h G1 d1 d2) (fun a1 a2 a3 => ?_), fun G1 S C hM Q h => c_md_saved hM hI.1 (fun _ G2 S' d1 d2 => h G2 S' C d1 d2) (fun a1 a2 a3 => ?_)⟩
    · exact absurd c (fun z => z.elim (fun y => y ⟨a1, a2⟩) (fun y => by omega))
    · exact absurd c (fun z => z.elim (fun y => y ⟨a1, a2⟩) (fun y => by omega))
  · refine ⟨(bsM M (fun k => (brn M np).getD k 0) (brn M np).length b 0 (2 ^ (brn M np).length)).1, M, np, hI, ho, fun Q h => c_af_saved hC hI (fun z => absurd z c) (fun a1 a2 a3 G1 d1 d2 v hv => ?_), fun G1 S C hM Q h => c_md_saved hM hI.1 (fun z => absurd z c) (fun a1 a2 a3 G2 S' d1 d2 x => ?_)⟩
    · rw [hv 0]; exact h G1 d1 d2
    · rw [bs_ind hI a1 a2 a3 x]; exact h G2 S' C d1 d2
theorem op_heap {b : Int32} (hC : CH G M np) (hI : INV M np) (ho : own M np) : OP G M 16 4 0 0 M_af_heap M_md_heap [some (.ref 20), some (.int b)] [some (.ref 100), some (.int b)] := by
  by_cases c : ¬ (1 ≤ b ∧ b ≤ 2000) ∨ 12 < (brn M np).length
  · refine ⟨-1, M, np, hI, ho, fun Q h => c_af_heap hC hI (fun _ G1 d1 d2 => h G1 d1 d2) (fun a1 a2 a3 => ?_), fun G1 S C hM Q h => c_md_heap hM hI.1 (fun _ G2 S' d1 d2 => h G2 S' C d1 d2) (fun a1 a2 a3 => ?_)⟩
    · exact absurd c (fun z => z.elim (fun y => y ⟨a1, a2⟩) (fun y => by omega))
    · exact absurd c (fun z => z.elim (fun y => y ⟨a1, a2⟩) (fun y => by omega))
  · refine ⟨(bsM M (fun k => (brn M np).getD k 0) (brn M np).length b 0 (2 ^ (brn M np).length)).2, M, np, hI, ho, fun Q h => c_af_heap hC hI (fun z => absurd z c) (fun a1 a2 a3 G1 d1 d2 v hv => ?_), fun G1 S C hM Q h => c_md_heap hM hI.1 (fun z => absurd z c) (fun a1 a2 a3 G2 S' d1 d2 x => ?_)⟩
    · rw [hv 0]; exact h G1 d1 d2
    · rw [bs_ind hI a1 a2 a3 x]; exact h G2 S' C d1 d2
theorem op_quarrel {x t : Int32} (hC : CH G M np) (hI : INV M np) (ho : own M np) : OP G M 6 4 0 0 M_af_quarrel M_md_quarrel [some (.ref 20), some (.int x), some (.int t), none] [some (.ref 100), some (.int x), some (.int t)] := by
  by_cases c : ∃ q, q < 6 ∧ x = nI q ∧ okT (strL M (nI q) np).length t
  · obtain ⟨q, q1, q2, q3⟩ := c
    obtain ⟨τ, t1, t2, t3, t4, t5⟩ := okT_nat (hI.2.1.2.2 q q1) q3
    refine ⟨nI (DN (strL M (nI q) np).length τ (ddM M (nI q) np) (skM M q) (strL M (nI q) np).length 0), M, np, hI, ho, fun Q h => c_af_quarrel hC hI.1 hI.2.1 (fun z => absurd q3 (z q q1 q2)) (fun q' τ' a1 a2 a3 a5 a4 G1 d1 d2 => ?_), fun G1 S C hM Q h => c_md_quarrel hM hI.1 hI.2.1 (fun z => absurd q3 (z q q1 q2)) (fun q' τ' a1 a2 a3 a5 a4 G2 S' d1 d2 => ?_)⟩
    · obtain rfl : q' = q := nI_inj (by omega) (by omega) (a2.symm.trans q2)
      obtain rfl : τ' = τ := nI_inj (by omega) (by omega) (a3.symm.trans t1)
      exact h G1 d1 d2
    · obtain rfl : q' = q := nI_inj (by omega) (by omega) (a2.symm.trans q2)
      obtain rfl : τ' = τ := nI_inj (by omega) (by omega) (a3.symm.trans t1)
      exact h G2 S' C d1 d2
  · exact ⟨-1, M, np, hI, ho, fun Q h => c_af_quarrel hC hI.1 hI.2.1 (fun z => h G hC FrC.rf) (fun q' τ' a1 a2 a3 a5 a4 => absurd ⟨q', a1, a2, a4⟩ c), fun G1 S C hM Q h => c_md_quarrel hM hI.1 hI.2.1 (fun _ G2 S' d1 d2 => h G2 S' C d1 d2) (fun q' τ' a1 a2 a3 a5 a4 => absurd ⟨q', a1, a2, a4⟩ c)⟩
theorem op_border {x t k : Int32} (hC : CH G M np) (hI : INV M np) (ho : own M np) : OP G M 6 4 0 0 M_af_border M_md_border [some (.ref 20), some (.int x), some (.int t), some (.int k), none] [some (.ref 100), some (.int x), some (.int t), some (.int k), none, none, none, none] := by
  by_cases c : ∃ q j, q < 6 ∧ x = nI q ∧ okT (strL M (nI q) np).length t ∧ j + 2 ≤ (strL M (nI q) np).length ∧ k = nI j
  · obtain ⟨q, j, q1, q2, q3, q4, q5⟩ := c
    obtain ⟨τ, t1, t2, t3, t4, t5⟩ := okT_nat (hI.2.1.2.2 q q1) q3
    have h8 := hI.2.1.2.2 q q1
    refine ⟨nI (bdN (strL M (nI q) np).length τ (ddM M (nI q) np) (skM M q) (j + 1)), M, np, hI, ho, fun Q h => c_af_border hC hI.1 hI.2.1 (fun z => absurd q5 (z q j q1 q2 q3 q4)) (fun q' τ' j' a1 a2 a3 a5 a4 a6 a7 G1 d1 d2 => ?_), fun G1 S C hM Q h => c_md_border hM hI.1 hI.2.1 (fun z => absurd q5 (z q j q1 q2 q3 q4)) (fun q' τ' j' a1 a2 a3 a5 a4 a6 a7 G2 S' d1 d2 => ?_)⟩
    · obtain rfl : q' = q := nI_inj (by omega) (by omega) (a2.symm.trans q2)
      obtain rfl : τ' = τ := nI_inj (by omega) (by omega) (a3.symm.trans t1)
      obtain rfl : j' = j := nI_inj (by omega) (by omega) (a7.symm.trans q5)
      exact h G1 d1 d2
    · obtain rfl : q' = q := nI_inj (by omega) (by omega) (a2.symm.trans q2)
      obtain rfl : τ' = τ := nI_inj (by omega) (by omega) (a3.symm.trans t1)
      obtain rfl : j' = j := nI_inj (by omega) (by omega) (a7.symm.trans q5)
      exact h G2 S' C d1 d2
  · exact ⟨-1, M, np, hI, ho, fun Q h => c_af_border hC hI.1 hI.2.1 (fun _ => h G hC FrC.rf) (fun q' τ' j' a1 a2 a3 a5 a4 a6 a7 => absurd ⟨q', j', a1, a2, a4, a6, a7⟩ c), fun G1 S C hM Q h => c_md_border hM hI.1 hI.2.1 (fun _ G2 S' d1 d2 => h G2 S' C d1 d2) (fun q' τ' j' a1 a2 a3 a5 a4 a6 a7 => absurd ⟨q', j', a1, a2, a4, a6, a7⟩ c)⟩
end OPS3
