/-! the law's body, from its entry -/
section BODY
variable {L : Nat} {xs : Nat → Int32} {Q : Option Value → AHp → Prop} {G : AHp}
theorem law_body (hL : L ≤ 2560) (hx : G 2 = some (aI L xs)) (hfree : ∀ a, 16 ≤ a → G a = none) (fin : ∀ G', Q (some (.int 1)) G') : A 17 M_lw_law 0 [some (.ref 2), none, none, none] [] G 5000 70000 Q := by
  refine A.new (a := 20) n_lw_7 d_lw_law_0 (by first | decide | omega) (hfree 20 (by omega)) (kc' := 4999) (ks' := 69988) (Nat.le_of_ble_eq_true rfl) (Nat.le_of_ble_eq_true rfl) ?_
  refine A.dup rfl d_lw_law_3 ?_
  refine A.callIa0 s_lw_9 (Nat.le_of_ble_eq_true rfl) (Nat.le_of_ble_eq_true rfl) (Nat.le_of_ble_eq_true rfl) d_lw_law_4 (kc1 := 50) (ks1 := 3000) (kc2 := 4949) (ks2 := 66988) (Nat.le_of_ble_eq_true rfl) (Nat.le_of_ble_eq_true rfl) rfl (c_af_init up_s (fun a a1 a2 => (up_n a2).trans (hfree a a1)) (fun G1 hC1 hF1 => ?_))
  dsimp only [psh]
  refine A.astore_k 1 rfl (Nat.le_of_ble_eq_true rfl) rfl rfl d_lw_law_7 ?_
  dsimp only [List.set]
  refine A.new (a := 100) n_lw_10 d_lw_law_8 (by first | decide | omega) ((hF1 100 (by omega)).trans ((up_n (by decide)).trans (hfree 100 (by omega)))) (kc' := 4948) (ks' := 66956) (Nat.le_of_ble_eq_true rfl) (Nat.le_of_ble_eq_true rfl) ?_
  refine A.dup rfl d_lw_law_11 ?_
  refine A.callIa0 s_lw_12 (Nat.le_of_ble_eq_true rfl) (Nat.le_of_ble_eq_true rfl) (Nat.le_of_ble_eq_true rfl) d_lw_law_12 (kc1 := 30) (ks1 := 4000) (kc2 := 4918) (ks2 := 62956) (Nat.le_of_ble_eq_true rfl) (Nat.le_of_ble_eq_true rfl) rfl (c_md_init up_s (fun a a1 a2 => (up_n (by omega)).trans ((hF1 a (by omega)).trans ((up_n (by omega)).trans (hfree a (by omega))))) (fun G2 S2 C2 hM2 hF2 => ?_))
  dsimp only [psh]
  refine A.astore_k 2 rfl (Nat.le_of_ble_eq_true rfl) rfl rfl d_lw_law_15 ?_
  dsimp only [List.set]
  refine A.iconst (v := 0) rfl d_lw_law_16 ?_
  refine A.istore_k 3 rfl (Nat.le_of_ble_eq_true rfl) rfl d_lw_law_17 ?_
  dsimp only [List.set]
  refine A.room (kc' := 8 * 512) (ks' := 110 * 512) (by omega) (by omega) (law_go (xs := xs) hL fin 512 0 G2 M0 S2 C2 0 (by omega) (by omega) ?_ hM2 INV.zero.1 INV.zero.2 ?_)
  · exact (hC1.frM (G' := G2) (fun a ha => (hF2 a ha).trans (up_n (by omega))) (by omega) (fun p hp => absurd hp (by omega)))
  · exact (hF2 2 (by omega)).trans ((up_n (by decide)).trans ((hF1 2 (Or.inl rfl)).trans ((up_n (by decide)).trans hx)))
end BODY
