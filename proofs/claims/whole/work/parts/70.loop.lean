/-! the law's loop -/
section LOOP
variable {kc ks L : Nat} {xs : Nat → Int32} {Q : Option Value → AHp → Prop}
theorem law_go (hL : L ≤ 2560) (fin : ∀ G', Q (some (.int 1)) G') : ∀ (n i : Nat) (G : AHp) (M S : MS) (C : Nat → Int64) (np : Nat), L < i + 5 * n + 5 → i ≤ L + 5 → CH G M np → MH G M S C → INV M np → own M np → G 2 = some (aI L xs) → A 17 M_lw_law 18 [some (.ref 2), some (.ref 20), some (.ref 100), some (.int (nI i))] [] G (8 * n) (110 * n) Q := by
  intro n
  induction n with
  | zero =>
    intro i G M S C np h1 h2 hC hM hI ho hx
    have e := pk_sub_toInt (a := L) (b := 5) (by omega) (by omega)
    have e : (Int32.ofNat L - 5).toInt = (L : Int) - 5 := e
    refine A.iload_k 3 rfl rfl d_lw_law_18 ?_
    refine A.aload_k 0 rfl rfl rfl d_lw_law_19 ?_
    apply A.alen d_lw_law_20
    · repeat first | assumption | exact up_s | refine up_e (by first | decide | omega) ?_
    · rfl
    refine A.iconst (v := 5) rfl d_lw_law_21 ?_
    refine A.isub d_lw_law_22 ?_
    refine A.icmp_gt 838 (by decide) d_lw_law_23 (fun c23 => ?_) (fun c23 => ?_)
    · refine A.iconst (v := 1) rfl d_lw_law_838 ?_
      refine A.zret d_lw_law_839 rfl (Or.inr rfl) ?_
      exact fin _
    · exact absurd (Int32.lt_iff_toInt_lt.mpr (by rw [e, ixn (by omega)]; omega)) c23
  | succ n ih =>
    intro i G M S C np h1 h2 hC hM hI ho hx
    have e := pk_sub_toInt (a := L) (b := 5) (by omega) (by omega)
    have e : (Int32.ofNat L - 5).toInt = (L : Int) - 5 := e
    by_cases c : i + 5 ≤ L
    · have go : GO (8 * n) (110 * n) i L xs Q := by
        intro G1 M1 S1 C1 np1 a1 a2 a3 a4 a5
        refine A.iinc (n := 3) rfl (show nI i + Int32.ofInt 5 = nI (i + 5) by rw [show Int32.ofInt 5 = nI 5 by decide, nI_add]) (Nat.le_of_ble_eq_true rfl) d_lw_law_832 ?_
        dsimp only [List.set]
        refine A.goto 18 (by decide) d_lw_law_835 ?_
        exact ih (i + 5) G1 M1 S1 C1 np1 (by omega) (by omega) a1 a2 a3 a4 a5
      have b1 : 8 * (n + 1) = 8 * n + 8 := by omega
      have b2 : 110 * (n + 1) = 110 * n + 110 := by omega
      rw [b1, b2]
      refine A.iload_k 3 rfl rfl d_lw_law_18 ?_
      refine A.aload_k 0 rfl rfl rfl d_lw_law_19 ?_
      apply A.alen d_lw_law_20
      · repeat first | assumption | exact up_s | refine up_e (by first | decide | omega) ?_
      · rfl
      refine A.iconst (v := 5) rfl d_lw_law_21 ?_
      refine A.isub d_lw_law_22 ?_
      refine A.icmp_gt 838 (by decide) d_lw_law_23 (fun c23 => ?_) (fun c23 => ?_)
      · rw [Int32.lt_iff_toInt_lt, e, ixn (by omega)] at c23
        omega
      refine A.aload_k 0 rfl rfl rfl d_lw_law_26 ?_
      refine A.iload_k 3 rfl rfl d_lw_law_27 ?_
      apply A.iaload (j := i) d_lw_law_28
      · repeat first | assumption | exact up_s | refine up_e (by first | decide | omega) ?_
      · exact ixn (by omega)
      · omega
      refine A.bipush (v := 31) rfl d_lw_law_29 ?_
      refine A.iand d_lw_law_31 ?_
      refine A.tsw [136, 169, 212, 265, 308, 331, 364, 397, 420, 453, 466, 499, 522, 545, 568, 591, 634, 667, 710, 743, 786, 809] 832 d_lw_law_32 (by decide) (by decide) (by decide) (fun j t hj hx2 => ?_) (fun _ => ?_) (by decide)
      · rcases j with _ | _ | _ | _ | _ | _ | _ | _ | _ | _ | _ | _ | _ | _ | _ | _ | _ | _ | _ | _ | _ | _ | j
        · cases hj
          exact turn_coins hC hM hI ho hx c hL go
        · cases hj
          exact turn_plot hC hM hI ho hx c hL go
        · cases hj
          exact turn_lease hC hM hI ho hx c hL go
        · cases hj
          exact turn_rates hC hM hI ho hx c hL go
        · cases hj
          exact turn_worth hC hM hI ho hx c hL go
        · cases hj
          exact turn_interest hC hM hI ho hx c hL go
        · cases hj
          exact turn_bears hC hM hI ho hx c hL go
        · cases hj
          exact turn_decree hC hM hI ho hx c hL go
        · cases hj
          exact turn_act hC hM hI ho hx c hL go
        · cases hj
          exact turn_year hC hM hI ho hx c hL go
        · cases hj
          exact turn_due hC hM hI ho hx c hL go
        · cases hj
          exact turn_saved hC hM hI ho hx c hL go
        · cases hj
          exact turn_heap hC hM hI ho hx c hL go
        · cases hj
          exact turn_works hC hM hI ho hx c hL go
        · cases hj
          exact turn_tax hC hM hI ho hx c hL go
        · cases hj
          exact turn_stake hC hM hI ho hx c hL go
        · cases hj
          exact turn_quarrel hC hM hI ho hx c hL go
        · cases hj
          exact turn_border hC hM hI ho hx c hL go
        · cases hj
          exact turn_told hC hM hI ho hx c hL go
        · cases hj
          exact turn_chain hC hM hI ho hx c hL go
        · cases hj
          exact turn_has hC hM hI ho hx c hL go
        · cases hj
          exact turn_count hC hM hI ho hx c hL go
        · simp at hj
      · exact A.room (by omega) (by omega) (go G M S C np hC hM hI ho hx)
    · skip
      refine A.iload_k 3 rfl rfl d_lw_law_18 ?_
      refine A.aload_k 0 rfl rfl rfl d_lw_law_19 ?_
      apply A.alen d_lw_law_20
      · repeat first | assumption | exact up_s | refine up_e (by first | decide | omega) ?_
      · rfl
      refine A.iconst (v := 5) rfl d_lw_law_21 ?_
      refine A.isub d_lw_law_22 ?_
      refine A.icmp_gt 838 (by decide) d_lw_law_23 (fun c23 => ?_) (fun c23 => ?_)
      · refine A.iconst (v := 1) rfl d_lw_law_838 ?_
        refine A.zret d_lw_law_839 rfl (Or.inr rfl) ?_
        exact fin _
      · exact absurd (Int32.lt_iff_toInt_lt.mpr (by rw [e, ixn (by omega)]; omega)) c23
end LOOP
