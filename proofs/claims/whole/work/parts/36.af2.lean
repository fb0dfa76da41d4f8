/-! the component: coins, rates, worths, what is told -/
/-- what the numbers of a plot keep -/
def BP (M : MS) (p : Nat) : Prop := (∃ q, q < 6 ∧ M 3 p = nI q) ∧ (∃ f, 10 ≤ f ∧ f ≤ 60 ∧ M 4 p = nI f) ∧ (∃ d, 20 ≤ d ∧ d ≤ 100 ∧ M 5 p = nI d) ∧ (M 6 p = 0 ∨ M 6 p = 1 ∨ M 6 p = 2 ∨ M 6 p = 3) ∧ ((M 6 p = 2 ∨ M 6 p = 3) → M 7 p = 0) ∧ (M 13 p = -1 ∨ ∃ y, y ≤ 60 ∧ M 13 p = nI y) ∧ ∀ l j, M 7 p = nI l → l ≤ 3 → j ≤ l → (∃ y, 1 ≤ y ∧ y ≤ 99 ∧ M 9 (4 * p + j) = nI y) ∧ (1 ≤ j → (∃ r, r ≤ 999 ∧ M 10 (4 * p + j) = nI r) ∧ M 9 (4 * p + j) ≤ M 9 (4 * p + (j - 1)))
def BG (M : MS) : Prop := (∃ y, y ≤ 60 ∧ M 0 0 = nI y ∧ ∃ m, m ≤ 5000 * y ∧ M 22 0 = nI m) ∧ (∃ r, 1 ≤ r ∧ r ≤ 9 ∧ M 16 0 = nI r) ∧ (∃ l, l ≤ 60 ∧ M 18 0 = nI l) ∧ (∃ t, t ≤ 5000 ∧ M 21 0 = nI t)
def INV (M : MS) (np : Nat) : Prop := WF M np ∧ WS M np ∧ BG M ∧ (∀ p, p < np → BP M p) ∧ ∀ p, np ≤ p → M 6 p = 0 ∧ M 7 p = 0
section AF2
variable {M S : MS} {G : AHp} {kc ks np : Nat} {Q : Option Value → AHp → Prop}
theorem vn {k j : Nat} {f : Nat → Int32} (h : j ≠ k) : va_up M k f j = M j := if_neg h
theorem vs {k : Nat} {f : Nat → Int32} : va_up M k f k = f := if_pos rfl
theorem zM_lt {p j : Nat} (hw : WF M np) (h : j < zM M p) : ¬ (M 6 p = 2 ∨ M 6 p = 3) ∧ ∃ l, M 7 p = nI l ∧ l ≤ 3 ∧ j ≤ l := by
  obtain ⟨l, h1, h2⟩ := hw.2.2.1 p
  unfold zM at h
  split at h
  · omega
  · rw [h2, hN_nI (by omega)] at h
    exact ⟨by assumption, l, h2, h1, by omega⟩
theorem zM_of {p l : Nat} (h : ¬ (M 6 p = 2 ∨ M 6 p = 3)) (hl : M 7 p = nI l) (hl3 : l ≤ 3) : zM M p = l + 1 := by
  unfold zM
  rw [if_neg h, hl, hN_nI (by omega)]
theorem zM_gone {p : Nat} (h : M 6 p = 2 ∨ M 6 p = 3) : zM M p = 0 := if_pos h
theorem CH.purse (h : CH G M np) (hw : WF M np) (f : Nat → Int32) : CH (up G 21 (aI 20 f)) (va_up M 1 f) np :=
  h.mk1 hw.2.1 ⟨up_e (by decide) h.root.1, up_s⟩ (fun p hp => (h.pl hp).fr (hw.zle p) (fun a x y => up_n (by omega)) (fun k hk => by rw [vn (by omega)]) (fun k j x y z => by rw [vn (by omega)]) rfl) (fun a x => up_n (by omega)) rfl rfl rfl rfl rfl rfl
theorem CH.rootf (h : CH G M np) (hw : WF M np) (k : Nat) (hk : k = 0 ∨ k = 16 ∨ k = 17 ∨ k = 18 ∨ k = 23) (v : Int32) : CH (up G 20 (rtO (va_up M k (fun _ => v)))) (va_up M k (fun _ => v)) np :=
  h.mk1 hw.2.1 ⟨up_s, by rw [up_n (by decide), vn (by omega)]; exact h.root.2⟩ (fun p hp => (h.pl hp).fr (hw.zle p) (fun a x y => up_n (by omega)) (fun k hk => by rw [vn (by omega)]) (fun k j x y z => by rw [vn (by omega)]) (vn (by omega))) (fun a x => up_n (by omega)) (vn (by omega)) (vn (by omega)) (vn (by omega)) (vn (by omega)) (vn (by omega)) (vn (by omega))
theorem c_af_coins {x n : Int32} (hC : CH G M np) (hw : WF M np) (h0 : ¬ ((∃ q, q < 20 ∧ x = nI q) ∧ 1 ≤ n ∧ n ≤ 100000) → Q (some (.int (-2147483648))) G) (h1 : ∀ q, q < 20 → x = nI q → 1 ≤ n → n ≤ 100000 → ∀ G', CH G' (va_up M 1 (upd (M 1) q (M 1 q + n))) np → FrC G G' → Q (some (.int (M 1 q + n))) G') : A 3 M_af_coins 0 [some (.ref 20), some (.int x), some (.int n)] [] G kc ks Q := by
  have hr := hC.root.1
  have h21 := hC.root.2
  refine A.iload_k 1 rfl rfl d_af_coins_0 ?_
  refine A.callS1 s_af_71 (Nat.le_of_ble_eq_true rfl) (Nat.le_of_ble_eq_true rfl) (Nat.le_of_ble_eq_true rfl) d_af_coins_1 rfl (c_af_isPerson (fun o j1 j2 => ?_) (fun j3 => ?_))
  · dsimp only [psh]
    refine A.if_eq1 d_af_coins_4 (tgt := 17) (by decide) ?_
    refine A.iload_k 2 rfl rfl d_af_coins_7 ?_
    refine A.iconst (v := 1) rfl d_af_coins_8 ?_
    refine A.ldc d_af_coins_9 k_af_75 ?_
    refine A.callS3 s_af_76 (Nat.le_of_ble_eq_true rfl) (Nat.le_of_ble_eq_true rfl) (Nat.le_of_ble_eq_true rfl) d_af_coins_11 rfl (c_af_within (fun i1 i2 => ?_) (fun i3 => ?_))
    · dsimp only [psh]
      refine A.if_ne1 20 (by decide) d_af_coins_14 ?_
      subst j2
      refine A.aload_k 0 rfl rfl rfl d_af_coins_20 ?_
      refine A.iload_k 1 rfl rfl d_af_coins_21 ?_
      refine A.iload_k 2 rfl rfl d_af_coins_22 ?_
      refine A.callV2 s_af_81 ?_ (Nat.le_of_ble_eq_true rfl) (Nat.le_of_ble_eq_true rfl) (Nat.le_of_ble_eq_true rfl) d_af_coins_23 rfl (c_af_give hr h21 j1 ?_)
      · apply Exists.intro
        repeat first | assumption | exact up_s | refine up_e (by first | decide | omega) ?_
      dsimp only [psh]
      refine A.aload_k 0 rfl rfl rfl d_af_coins_26 ?_
      apply A.getfield f_af_9 d_af_coins_27
      · repeat first | assumption | exact up_s | refine up_e (by first | decide | omega) ?_
      · rfl
      refine A.iload_k 1 rfl rfl d_af_coins_30 ?_
      apply A.iaload (j := o) d_af_coins_31
      · repeat first | assumption | exact up_s | refine up_e (by first | decide | omega) ?_
      · exact ixn (by omega)
      · exact j1
      refine A.iret d_af_coins_32 rfl ?_
      rw [pk_us]
      exact h1 o j1 rfl i1 i2 _ (hC.purse hw _) (FrC.rf.up (by decide) (by decide))
    · dsimp only [psh]
      refine A.if_ne0 d_af_coins_14 (tgt := 20) (by decide) ?_
      refine A.ldc d_af_coins_17 k_af_80 ?_
      refine A.iret d_af_coins_19 rfl ?_
      first | exact h0 (fun z => i3 z.2) | exact h0 (fun z => z.1.elim (fun q hq => j3 q hq.1 hq.2))
  · dsimp only [psh]
    refine A.if_eq0 17 (by decide) d_af_coins_4 ?_
    refine A.ldc d_af_coins_17 k_af_80 ?_
    refine A.iret d_af_coins_19 rfl ?_
    first | exact h0 (fun z => i3 z.2) | exact h0 (fun z => z.1.elim (fun q hq => j3 q hq.1 hq.2))
theorem c_af_has {x : Int32} (hC : CH G M np) (h0 : (∀ q, q < 20 → x ≠ nI q) → Q (some (.int (-2147483648))) G) (h1 : ∀ q, q < 20 → x = nI q → Q (some (.int (M 1 q))) G) : A 2 M_af_has 0 [some (.ref 20), some (.int x)] [] G kc ks Q := by
  have hr := hC.root.1
  have h21 := hC.root.2
  refine A.iload_k 1 rfl rfl d_af_has_0 ?_
  refine A.callS1 s_af_71 (Nat.le_of_ble_eq_true rfl) (Nat.le_of_ble_eq_true rfl) (Nat.le_of_ble_eq_true rfl) d_af_has_1 rfl (c_af_isPerson (fun o j1 j2 => ?_) (fun j3 => ?_))
  · dsimp only [psh]
    refine A.if_eq1 d_af_has_4 (tgt := 16) (by decide) ?_
    refine A.aload_k 0 rfl rfl rfl d_af_has_7 ?_
    apply A.getfield f_af_9 d_af_has_8
    · repeat first | assumption | exact up_s | refine up_e (by first | decide | omega) ?_
    · rfl
    refine A.iload_k 1 rfl rfl d_af_has_11 ?_
    apply A.iaload (j := o) d_af_has_12
    · repeat first | assumption | exact up_s | refine up_e (by first | decide | omega) ?_
    · rw [j2]; exact ixn (by omega)
    · exact j1
    refine A.goto 18 (by decide) d_af_has_13 ?_
    refine A.iret d_af_has_18 rfl ?_
    first | exact h1 o j1 j2 | exact h0 j3
  · dsimp only [psh]
    refine A.if_eq0 16 (by decide) d_af_has_4 ?_
    refine A.ldc d_af_has_16 k_af_80 ?_
    refine A.iret d_af_has_18 rfl ?_
    first | exact h1 o j1 j2 | exact h0 j3
theorem c_af_rates {a b c : Int32} (hC : CH G M np) (hw : WF M np) (h0 : ¬ ((1 ≤ a ∧ a ≤ 9) ∧ (1 ≤ b ∧ b ≤ 9) ∧ (0 ≤ c ∧ c ≤ 60)) → Q (some (.int 0)) G) (h1 : (1 ≤ a ∧ a ≤ 9) → (1 ≤ b ∧ b ≤ 9) → (0 ≤ c ∧ c ≤ 60) → ∀ G', CH G' (mRates M a b c) np → FrC G G' → Q (some (.int 1)) G') : A 2 M_af_rates 0 [some (.ref 20), some (.int a), some (.int b), some (.int c)] [] G kc ks Q := by
  have hr := hC.root.1
  refine A.iload_k 1 rfl rfl d_af_rates_0 ?_
  refine A.iconst (v := 1) rfl d_af_rates_1 ?_
  refine A.bipush (v := 9) rfl d_af_rates_2 ?_
  refine A.callS3 s_af_76 (Nat.le_of_ble_eq_true rfl) (Nat.le_of_ble_eq_true rfl) (Nat.le_of_ble_eq_true rfl) d_af_rates_4 rfl (c_af_within (fun a1 a2 => ?_) (fun a3 => ?_))
  · dsimp only [psh]
    refine A.if_eq1 d_af_rates_7 (tgt := 27) (by decide) ?_
    refine A.iload_k 2 rfl rfl d_af_rates_10 ?_
    refine A.iconst (v := 1) rfl d_af_rates_11 ?_
    refine A.bipush (v := 9) rfl d_af_rates_12 ?_
    refine A.callS3 s_af_76 (Nat.le_of_ble_eq_true rfl) (Nat.le_of_ble_eq_true rfl) (Nat.le_of_ble_eq_true rfl) d_af_rates_14 rfl (c_af_within (fun b1 b2 => ?_) (fun b3 => ?_))
    · dsimp only [psh]
      refine A.if_eq1 d_af_rates_17 (tgt := 27) (by decide) ?_
      refine A.iload_k 3 rfl rfl d_af_rates_20 ?_
      refine A.callS1 s_af_124 (Nat.le_of_ble_eq_true rfl) (Nat.le_of_ble_eq_true rfl) (Nat.le_of_ble_eq_true rfl) d_af_rates_21 rfl (c_af_isYear (fun e1 e2 => ?_) (fun e3 => ?_))
      · dsimp only [psh]
        refine A.if_ne1 29 (by decide) d_af_rates_24 ?_
        refine A.aload_k 0 rfl rfl rfl d_af_rates_29 ?_
        refine A.iload_k 1 rfl rfl d_af_rates_30 ?_
        apply A.putfield p_af_58 d_af_rates_31
        · first | exact up_s | exact hr
        · exact (Nat.le_of_ble_eq_true rfl)
        · rfl
        dsimp only [List.set]
        refine A.aload_k 0 rfl rfl rfl d_af_rates_34 ?_
        refine A.iload_k 2 rfl rfl d_af_rates_35 ?_
        apply A.putfield p_af_61 d_af_rates_36
        · first | exact up_s | exact hr
        · exact (Nat.le_of_ble_eq_true rfl)
        · rfl
        dsimp only [List.set]
        refine A.aload_k 0 rfl rfl rfl d_af_rates_39 ?_
        refine A.iload_k 3 rfl rfl d_af_rates_40 ?_
        apply A.putfield p_af_64 d_af_rates_41
        · first | exact up_s | exact hr
        · exact (Nat.le_of_ble_eq_true rfl)
        · rfl
        dsimp only [List.set]
        refine A.iconst (v := 1) rfl d_af_rates_44 ?_
        refine A.zret d_af_rates_45 rfl (Or.inr rfl) ?_
        exact h1 ⟨a1, a2⟩ ⟨b1, b2⟩ ⟨e1, e2⟩ _ (((hC.rootf hw 16 (by decide) a).rootf hw 17 (by decide) b).rootf hw 18 (by decide) c) (((FrC.rf.up (by decide) (by decide)).up (by decide) (by decide)).up (by decide) (by decide))
      · dsimp only [psh]
        refine A.if_ne0 d_af_rates_24 (tgt := 29) (by decide) ?_
        refine A.iconst (v := 0) rfl d_af_rates_27 ?_
        refine A.zret d_af_rates_28 rfl (Or.inl rfl) ?_
        first | exact h0 (fun z => a3 z.1) | exact h0 (fun z => b3 z.2.1) | exact h0 (fun z => e3 z.2.2)
    · dsimp only [psh]
      refine A.if_eq0 27 (by decide) d_af_rates_17 ?_
      refine A.iconst (v := 0) rfl d_af_rates_27 ?_
      refine A.zret d_af_rates_28 rfl (Or.inl rfl) ?_
      first | exact h0 (fun z => a3 z.1) | exact h0 (fun z => b3 z.2.1) | exact h0 (fun z => e3 z.2.2)
  · dsimp only [psh]
    refine A.if_eq0 27 (by decide) d_af_rates_7 ?_
    refine A.iconst (v := 0) rfl d_af_rates_27 ?_
    refine A.zret d_af_rates_28 rfl (Or.inl rfl) ?_
    first | exact h0 (fun z => a3 z.1) | exact h0 (fun z => b3 z.2.1) | exact h0 (fun z => e3 z.2.2)
theorem c_af_worth {x : Int32} (hC : CH G M np) (h24 : np ≤ 24) (h1 : ∀ p, p < np → x = nI p → Q (some (.int (wthM M p))) G) (h0 : (∀ q, q < np → x ≠ nI q) → Q (some (.int (-1))) G) : A 4 M_af_worth 0 [some (.ref 20), some (.int x), none] [] G kc ks Q := by
  have hr := hC.root.1
  refine A.aload_k 0 rfl rfl rfl d_af_worth_0 ?_
  refine A.iload_k 1 rfl rfl d_af_worth_1 ?_
  refine A.callV1 s_af_106 ⟨_, hr⟩ (Nat.le_of_ble_eq_true rfl) (Nat.le_of_ble_eq_true rfl) (Nat.le_of_ble_eq_true rfl) d_af_worth_2 rfl (c_af_plotAt hC h24 (fun p hp hx => ?_) (fun q0 => ?_))
  · dsimp only [psh]
    have hpl := (hC.pl hp).1
    refine A.astore_k 2 rfl (Nat.le_of_ble_eq_true rfl) rfl rfl d_af_worth_5 ?_
    dsimp only [List.set]
    refine A.aload_k 2 rfl rfl rfl d_af_worth_6 ?_
    refine A.ifnonnull_r 14 (by decide) d_af_worth_7 ?_
    refine A.aload_k 2 rfl rfl rfl d_af_worth_14 ?_
    refine A.callV0 s_af_127 ?_ (Nat.le_of_ble_eq_true rfl) (Nat.le_of_ble_eq_true rfl) (Nat.le_of_ble_eq_true rfl) d_af_worth_15 rfl (c_pl_yearlyWorth (by repeat first | assumption | exact up_s | refine up_e (by first | decide | omega) ?_) ?_)
    · apply Exists.intro
      repeat first | assumption | exact up_s | refine up_e (by first | decide | omega) ?_
    dsimp only [psh]
    refine A.iret d_af_worth_18 rfl ?_
    exact h1 p hp hx
  · dsimp only [psh]
    refine A.astore_k 2 rfl (Nat.le_of_ble_eq_true rfl) rfl rfl d_af_worth_5 ?_
    dsimp only [List.set]
    refine A.aload_k 2 rfl rfl rfl d_af_worth_6 ?_
    refine A.ifnonnull_0 d_af_worth_7 ?_
    refine A.iconst (v := -1) rfl d_af_worth_10 ?_
    refine A.goto 18 (by decide) d_af_worth_11 ?_
    refine A.iret d_af_worth_18 rfl ?_
    exact h0 q0
end AF2
