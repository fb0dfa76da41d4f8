/-! the reference, on: acts, years, works, stakes -/
section MODEL5
variable {M S : MS} {C : Nat → Int64} {G : AHp} {kc ks np : Nat} {Q : Option Value → AHp → Prop}
def mEnds (M : MS) (p : Nat) (how : Int32) : MS := va_up (va_up M 6 (upd (M 6) p how)) 7 (upd (M 7) p 0)
theorem c_md_ends {p : Nat} {how : Int32} (hM : MH G M S C) (hp : p < 24) (h : ∀ G', MH G' (mEnds M p how) S C → FrM G G' → Q none G') : A 0 M_md_ends 0 [some (.ref 100), some (.int (nI p)), some (.int how)] [] G kc ks Q := by
  refine A.aload_k 0 rfl rfl rfl d_md_ends_0 ?_
  apply A.getfield f_md_22 d_md_ends_1
  · repeat first | exact up_s | refine up_e (by decide) ?_ | exact hM.1 | exact hM.2.1 _ rfl
  · rfl
  refine A.iload_k 1 rfl rfl d_md_ends_4 ?_
  refine A.iload_k 2 rfl rfl d_md_ends_5 ?_
  apply A.iastore (j := p) d_md_ends_6
  · repeat first | exact up_s | refine up_e (by decide) ?_ | exact hM.1 | exact hM.2.1 _ rfl
  · first | decide | omega
  · exact ixn (by omega)
  · exact hp
  refine A.aload_k 0 rfl rfl rfl d_md_ends_7 ?_
  apply A.getfield f_md_25 d_md_ends_8
  · repeat first | exact up_s | refine up_e (by decide) ?_ | exact hM.1 | exact hM.2.1 _ rfl
  · rfl
  refine A.iload_k 1 rfl rfl d_md_ends_11 ?_
  refine A.iconst (v := 0) rfl d_md_ends_12 ?_
  apply A.iastore (j := p) d_md_ends_13
  · repeat first | exact up_s | refine up_e (by decide) ?_ | exact hM.1 | exact hM.2.1 _ rfl
  · first | decide | omega
  · exact ixn (by omega)
  · exact hp
  refine A.vret d_md_ends_14 rfl ?_
  exact h _ ((hM.arr 6 rfl _).arr 7 rfl _) (by repeat (first | exact FrM.rf | refine FrM.up ?_ (by decide) (by decide)))
theorem WF.ends {p : Nat} {how : Int32} (h : WF M np) : WF (mEnds M p how) np := by
  obtain ⟨y1, y2, y3, y4, y5, y6⟩ := h.up (k := 6) (upd (M 6) p how) (by decide) (by decide) (by decide) (by decide) (by decide)
  refine ⟨y1, y2, fun q => ?_, y4, y5, y6⟩
  show ∃ l, l ≤ 3 ∧ upd (M 7) p 0 q = nI l
  by_cases e : q = p
  · subst e; rw [pk_us]; exact ⟨0, by omega, rfl⟩
  · rw [pk_un e]; exact y3 q
theorem c_md_due {x v : Int32} (hM : MH G M S C) (hw : WF M np) (h0 : ¬ ((∃ p, p < np ∧ x = nI p) ∧ 0 ≤ v ∧ v ≤ 60) → Q (some (.int 0)) G) (h1 : ∀ p, p < np → x = nI p → 0 ≤ v → v ≤ 60 → ∀ G', MH G' (va_up M 13 (upd (M 13) p v)) S C → FrM G G' → Q (some (.int 1)) G') : A 2 M_md_due 0 [some (.ref 100), some (.int x), some (.int v)] [] G kc ks Q := by
  obtain ⟨hn, hn2, -⟩ := hw
  refine A.aload_k 0 rfl rfl rfl d_md_due_0 ?_
  refine A.iload_k 1 rfl rfl d_md_due_1 ?_
  refine A.callV1 s_md_101 ?_ (Nat.le_of_ble_eq_true rfl) (Nat.le_of_ble_eq_true rfl) (Nat.le_of_ble_eq_true rfl) d_md_due_2 rfl (c_md_isPlot hM hn hn2 (fun p j1 j2 => ?_) (fun j3 => ?_))
  · apply Exists.intro
    repeat first | exact up_s | refine up_e (by decide) ?_ | exact hM.1 | exact hM.2.1 _ rfl
  · dsimp only [psh]
    refine A.if_eq1 d_md_due_5 (tgt := 18) (by decide) ?_
    refine A.iload_k 2 rfl rfl d_md_due_8 ?_
    refine A.iconst (v := 0) rfl d_md_due_9 ?_
    refine A.bipush (v := 60) rfl d_md_due_10 ?_
    refine A.callS3 s_md_87 (Nat.le_of_ble_eq_true rfl) (Nat.le_of_ble_eq_true rfl) (Nat.le_of_ble_eq_true rfl) d_md_due_12 rfl (c_md_in (fun i1 i2 => ?_) (fun i3 => ?_))
    · dsimp only [psh]
      refine A.if_ne1 20 (by decide) d_md_due_15 ?_
      subst j2
      refine A.aload_k 0 rfl rfl rfl d_md_due_20 ?_
      apply A.getfield f_md_43 d_md_due_21
      · repeat first | exact up_s | refine up_e (by decide) ?_ | exact hM.1 | exact hM.2.1 _ rfl
      · rfl
      refine A.iload_k 1 rfl rfl d_md_due_24 ?_
      refine A.iload_k 2 rfl rfl d_md_due_25 ?_
      apply A.iastore (j := p) d_md_due_26
      · repeat first | exact up_s | refine up_e (by decide) ?_ | exact hM.1 | exact hM.2.1 _ rfl
      · first | decide | omega
      · exact ixn (by omega)
      · show p < 24; omega
      refine A.iconst (v := 1) rfl d_md_due_27 ?_
      refine A.zret d_md_due_28 rfl (Or.inr rfl) ?_
      exact h1 p j1 rfl i1 i2 _ (hM.arr 13 rfl _) (by repeat (first | exact FrM.rf | refine FrM.up ?_ (by decide) (by decide)))
    · dsimp only [psh]
      refine A.if_ne0 d_md_due_15 (tgt := 20) (by decide) ?_
      refine A.iconst (v := 0) rfl d_md_due_18 ?_
      refine A.zret d_md_due_19 rfl (Or.inl rfl) ?_
      first | exact h0 (fun z => by obtain ⟨p, y1, y2⟩ := z.1; exact j3 p y1 y2) | exact h0 (fun z => i3 z.2)
  · dsimp only [psh]
    refine A.if_eq0 18 (by decide) d_md_due_5 ?_
    refine A.iconst (v := 0) rfl d_md_due_18 ?_
    refine A.zret d_md_due_19 rfl (Or.inl rfl) ?_
    first | exact h0 (fun z => by obtain ⟨p, y1, y2⟩ := z.1; exact j3 p y1 y2) | exact h0 (fun z => i3 z.2)
theorem c_md_works {v : Int32} {nw : Nat} (hM : MH G M S C) (hw : M 19 0 = nI nw) (hw2 : nw ≤ 20) (h0 : ¬ ((1 ≤ v ∧ v ≤ 10000) ∧ nw ≠ 20) → Q (some (.int (-1))) G) (h1 : 1 ≤ v → v ≤ 10000 → nw < 20 → ∀ G', MH G' (va_up (va_up M 20 (upd (M 20) nw v)) 19 (fun _ => nI (nw + 1))) S C → FrM G G' → Q (some (.int (nI nw))) G') : A 1 M_md_works 0 [some (.ref 100), some (.int v)] [] G kc ks Q := by
  refine A.iload_k 1 rfl rfl d_md_works_0 ?_
  refine A.iconst (v := 1) rfl d_md_works_1 ?_
  refine A.sipush (v := 10000) rfl d_md_works_2 ?_
  refine A.callS3 s_md_87 (Nat.le_of_ble_eq_true rfl) (Nat.le_of_ble_eq_true rfl) (Nat.le_of_ble_eq_true rfl) d_md_works_5 rfl (c_md_in (fun i1 i2 => ?_) (fun i3 => ?_))
  · dsimp only [psh]
    refine A.if_eq1 d_md_works_8 (tgt := 20) (by decide) ?_
    refine A.aload_k 0 rfl rfl rfl d_md_works_11 ?_
    apply A.getfield f_md_155 d_md_works_12
    · repeat first | exact up_s | refine up_e (by decide) ?_ | exact hM.1 | exact hM.2.1 _ rfl
    · rfl
    rw [hw]
    refine A.bipush (v := 20) rfl d_md_works_15 ?_
    refine A.icmp_ne 22 (by decide) d_md_works_17 (fun c17 => ?_) (fun c17 => ?_)
    · have hlt : nw < 20 := by
        rcases Nat.lt_or_ge nw 20 with y | y
        · exact y
        · have : nw = 20 := by omega
          subst this
          exact absurd rfl c17
      refine A.aload_k 0 rfl rfl rfl d_md_works_22 ?_
      apply A.getfield f_md_62 d_md_works_23
      · repeat first | exact up_s | refine up_e (by decide) ?_ | exact hM.1 | exact hM.2.1 _ rfl
      · rfl
      refine A.aload_k 0 rfl rfl rfl d_md_works_26 ?_
      apply A.getfield f_md_155 d_md_works_27
      · repeat first | exact up_s | refine up_e (by decide) ?_ | exact hM.1 | exact hM.2.1 _ rfl
      · rfl
      rw [hw]
      refine A.iload_k 1 rfl rfl d_md_works_30 ?_
      apply A.iastore (j := nw) d_md_works_31
      · repeat first | exact up_s | refine up_e (by decide) ?_ | exact hM.1 | exact hM.2.1 _ rfl
      · first | decide | omega
      · exact ixn (by omega)
      · exact hlt
      refine A.aload_k 0 rfl rfl rfl d_md_works_32 ?_
      refine A.dup rfl d_md_works_33 ?_
      apply A.getfield f_md_155 d_md_works_34
      · repeat first | exact up_s | refine up_e (by decide) ?_ | exact hM.1 | exact hM.2.1 _ rfl
      · rfl
      rw [hw]
      refine A.iconst (v := 1) rfl d_md_works_37 ?_
      refine A.iadd d_md_works_38 ?_
      apply A.putfield p_md_155 d_md_works_39
      · repeat first | exact up_s | refine up_e (by decide) ?_ | exact hM.1 | exact hM.2.1 _ rfl
      · exact (Nat.le_of_ble_eq_true rfl)
      · rfl
      dsimp only [List.set]
      refine A.aload_k 0 rfl rfl rfl d_md_works_42 ?_
      apply A.getfield f_md_155 d_md_works_43
      · repeat first | exact up_s | refine up_e (by decide) ?_ | exact hM.1 | exact hM.2.1 _ rfl
      · rfl
      refine A.iconst (v := 1) rfl d_md_works_46 ?_
      refine A.isub d_md_works_47 ?_
      refine A.iret d_md_works_48 rfl ?_
      rw [nI_1, nI_pred]
      exact h1 i1 i2 hlt _ ((hM.arr 20 rfl _).fld 19 rfl _) (by repeat (first | exact FrM.rf | refine FrM.up ?_ (by decide) (by decide)))
    · refine A.iconst (v := -1) rfl d_md_works_20 ?_
      refine A.iret d_md_works_21 rfl ?_
      first | exact h0 (fun z => i3 z.1) | exact h0 (fun z => z.2 (nI_inj (by omega) (by omega) c17))
  · dsimp only [psh]
    refine A.if_eq0 20 (by decide) d_md_works_8 ?_
    refine A.iconst (v := -1) rfl d_md_works_20 ?_
    refine A.iret d_md_works_21 rfl ?_
    first | exact h0 (fun z => i3 z.1) | exact h0 (fun z => z.2 (nI_inj (by omega) (by omega) c17))
theorem c_md_tax {v : Int32} (hM : MH G M S C) (h0 : ¬ (0 ≤ v ∧ v ≤ 5000) → Q (some (.int 0)) G) (h1 : 0 ≤ v → v ≤ 5000 → ∀ G', MH G' (va_up M 21 (fun _ => v)) S C → FrM G G' → Q (some (.int 1)) G') : A 1 M_md_tax 0 [some (.ref 100), some (.int v)] [] G kc ks Q := by
  refine A.iload_k 1 rfl rfl d_md_tax_0 ?_
  refine A.iconst (v := 0) rfl d_md_tax_1 ?_
  refine A.sipush (v := 5000) rfl d_md_tax_2 ?_
  refine A.callS3 s_md_87 (Nat.le_of_ble_eq_true rfl) (Nat.le_of_ble_eq_true rfl) (Nat.le_of_ble_eq_true rfl) d_md_tax_5 rfl (c_md_in (fun i1 i2 => ?_) (fun i3 => ?_))
  · dsimp only [psh]
    refine A.if_ne1 13 (by decide) d_md_tax_8 ?_
    refine A.aload_k 0 rfl rfl rfl d_md_tax_13 ?_
    refine A.iload_k 1 rfl rfl d_md_tax_14 ?_
    apply A.putfield p_md_152 d_md_tax_15
    · exact hM.1
    · exact (Nat.le_of_ble_eq_true rfl)
    · rfl
    dsimp only [List.set]
    refine A.iconst (v := 1) rfl d_md_tax_18 ?_
    refine A.zret d_md_tax_19 rfl (Or.inr rfl) ?_
    exact h1 i1 i2 _ (hM.fld 21 rfl v) (by repeat (first | exact FrM.rf | refine FrM.up ?_ (by decide) (by decide)))
  · dsimp only [psh]
    refine A.if_ne0 d_md_tax_8 (tgt := 13) (by decide) ?_
    refine A.iconst (v := 0) rfl d_md_tax_11 ?_
    refine A.zret d_md_tax_12 rfl (Or.inl rfl) ?_
    exact h0 i3
theorem c_md_stake {x k v : Int32} (hM : MH G M S C) (h0 : ¬ ((∃ q, q < 6 ∧ x = nI q) ∧ (∃ j, j < 7 ∧ k = nI j) ∧ -1 ≤ v ∧ v ≤ 300) → Q (some (.int 0)) G) (h1 : ∀ q j, q < 6 → x = nI q → j < 7 → k = nI j → -1 ≤ v → v ≤ 300 → ∀ G', MH G' (va_up M 24 (upd (M 24) (8 * q + j) v)) S C → FrM G G' → Q (some (.int 1)) G') : A 2 M_md_stake 0 [some (.ref 100), some (.int x), some (.int k), some (.int v)] [] G kc ks Q := by
  refine A.iload_k 1 rfl rfl d_md_stake_0 ?_
  refine A.callS1 s_md_93 (Nat.le_of_ble_eq_true rfl) (Nat.le_of_ble_eq_true rfl) (Nat.le_of_ble_eq_true rfl) d_md_stake_1 rfl (c_md_isStreet (fun s j1 j2 => ?_) (fun j3 => ?_))
  · dsimp only [psh]
    refine A.if_eq1 d_md_stake_4 (tgt := 28) (by decide) ?_
    refine A.iload_k 2 rfl rfl d_md_stake_7 ?_
    refine A.iconst (v := 0) rfl d_md_stake_8 ?_
    refine A.bipush (v := 6) rfl d_md_stake_9 ?_
    refine A.callS3 s_md_87 (Nat.le_of_ble_eq_true rfl) (Nat.le_of_ble_eq_true rfl) (Nat.le_of_ble_eq_true rfl) d_md_stake_11 rfl (c_md_in (fun a1 a2 => ?_) (fun a3 => ?_))
    · dsimp only [psh]
      refine A.if_eq1 d_md_stake_14 (tgt := 28) (by decide) ?_
      refine A.iload_k 3 rfl rfl d_md_stake_17 ?_
      refine A.iconst (v := -1) rfl d_md_stake_18 ?_
      refine A.sipush (v := 300) rfl d_md_stake_19 ?_
      refine A.callS3 s_md_87 (Nat.le_of_ble_eq_true rfl) (Nat.le_of_ble_eq_true rfl) (Nat.le_of_ble_eq_true rfl) d_md_stake_22 rfl (c_md_in (fun b1 b2 => ?_) (fun b3 => ?_))
      · dsimp only [psh]
        refine A.if_ne1 30 (by decide) d_md_stake_25 ?_
        subst j2
        obtain ⟨j, y1, rfl⟩ := in_lit (n := 6) (by decide) (by omega) a1 a2
        refine A.aload_k 0 rfl rfl rfl d_md_stake_30 ?_
        apply A.getfield f_md_65 d_md_stake_31
        · repeat first | exact up_s | refine up_e (by decide) ?_ | exact hM.1 | exact hM.2.1 _ rfl
        · rfl
        refine A.bipush (v := 8) rfl d_md_stake_34 ?_
        refine A.iload_k 1 rfl rfl d_md_stake_36 ?_
        refine A.imul d_md_stake_37 ?_
        refine A.iload_k 2 rfl rfl d_md_stake_38 ?_
        refine A.iadd d_md_stake_39 ?_
        refine A.iload_k 3 rfl rfl d_md_stake_40 ?_
        apply A.iastore (j := 8 * s + j) d_md_stake_41
        · repeat first | exact up_s | refine up_e (by decide) ?_ | exact hM.1 | exact hM.2.1 _ rfl
        · first | decide | omega
        · exact ix8 (by omega) (by omega)
        · show 8 * s + j < 48; omega
        refine A.iconst (v := 1) rfl d_md_stake_42 ?_
        refine A.zret d_md_stake_43 rfl (Or.inr rfl) ?_
        exact h1 s j j1 rfl (by omega) rfl b1 b2 _ (hM.arr 24 rfl _) (by repeat (first | exact FrM.rf | refine FrM.up ?_ (by decide) (by decide)))
      · dsimp only [psh]
        refine A.if_ne0 d_md_stake_25 (tgt := 30) (by decide) ?_
        refine A.iconst (v := 0) rfl d_md_stake_28 ?_
        refine A.zret d_md_stake_29 rfl (Or.inl rfl) ?_
        first | exact h0 (fun z => by obtain ⟨q, y1, y2⟩ := z.1; exact j3 q y1 y2) | exact h0 (fun z => b3 z.2.2) | exact h0 (fun z => by obtain ⟨q, y1, y2⟩ := z.2.1; exact a3 (by rw [y2]; exact nI_bt (n := 6) (by decide) (by omega) (by omega)))
    · dsimp only [psh]
      refine A.if_eq0 28 (by decide) d_md_stake_14 ?_
      refine A.iconst (v := 0) rfl d_md_stake_28 ?_
      refine A.zret d_md_stake_29 rfl (Or.inl rfl) ?_
      first | exact h0 (fun z => by obtain ⟨q, y1, y2⟩ := z.1; exact j3 q y1 y2) | exact h0 (fun z => b3 z.2.2) | exact h0 (fun z => by obtain ⟨q, y1, y2⟩ := z.2.1; exact a3 (by rw [y2]; exact nI_bt (n := 6) (by decide) (by omega) (by omega)))
  · dsimp only [psh]
    refine A.if_eq0 28 (by decide) d_md_stake_4 ?_
    refine A.iconst (v := 0) rfl d_md_stake_28 ?_
    refine A.zret d_md_stake_29 rfl (Or.inl rfl) ?_
    first | exact h0 (fun z => by obtain ⟨q, y1, y2⟩ := z.1; exact j3 q y1 y2) | exact h0 (fun z => b3 z.2.2) | exact h0 (fun z => by obtain ⟨q, y1, y2⟩ := z.2.1; exact a3 (by rw [y2]; exact nI_bt (n := 6) (by decide) (by omega) (by omega)))
def goesA (M : MS) (n : Int32) (p : Nat) : Int32 := M 4 p * (if 20 ≤ M 5 p - n then n else M 5 p)
def actP (M : MS) (n : Int32) (p : Nat) : MS := va_up (va_up M 1 (upd (M 1) (hN (M 8 (4 * p))) (M 1 (hN (M 8 (4 * p))) + goesA M n p * M 17 0))) 23 (fun _ => M 23 0 + goesA M n p * M 17 0)
def actS (M : MS) (s n : Int32) (p : Nat) : MS := if M 3 p = s then (if M 6 p = 0 then (if 20 ≤ M 5 p - n then va_up (actP M n p) 5 (upd (M 5) p (M 5 p - n)) else mEnds (actP M n p) p 3) else M) else M
def actG (M : MS) (s n : Int32) (p : Nat) : Int32 := if M 3 p = s then (if M 6 p = 0 then goesA M n p else 0) else 0
def actM (M : MS) (s n : Int32) : Nat → MS
  | 0 => M
  | k + 1 => actS (actM M s n k) s n k
def actF (M : MS) (s n : Int32) : Nat → Int32
  | 0 => 0
  | k + 1 => actF M s n k + actG (actM M s n k) s n k
theorem WF.actP {n : Int32} {p : Nat} (h : WF M np) : WF (actP M n p) np := (h.up _ (by decide) (by decide) (by decide) (by decide) (by decide)).up _ (by decide) (by decide) (by decide) (by decide) (by decide)
theorem WF.actS {s n : Int32} {p : Nat} (h : WF M np) : WF (actS M s n p) np := by
  show WF (if M 3 p = s then (if M 6 p = 0 then (if 20 ≤ M 5 p - n then va_up (_) 5 (upd (M 5) p (M 5 p - n)) else mEnds (_) p 3) else M) else M) np
  by_cases c1 : M 3 p = s
  · rw [if_pos c1]
    by_cases c2 : M 6 p = 0
    · rw [if_pos c2]
      by_cases c3 : 20 ≤ M 5 p - n
      · rw [if_pos c3]; exact h.actP.up _ (by decide) (by decide) (by decide) (by decide) (by decide)
      · rw [if_neg c3]; exact h.actP.ends
    · rw [if_neg c2]; exact h
  · rw [if_neg c1]; exact h
theorem WF.actM {s n : Int32} (h : WF M np) : ∀ k, WF (actM M s n k) np
  | 0 => h
  | k + 1 => (WF.actM h k).actS
theorem c_md_act {x n : Int32} (hM : MH G M S C) (hw : WF M np) (h0 : ¬ ((∃ q, q < 6 ∧ x = nI q) ∧ 1 ≤ n ∧ n ≤ 40) → Q (some (.int (-1))) G) (h1 : ∀ q, q < 6 → x = nI q → 1 ≤ n → n ≤ 40 → ∀ G', MH G' (actM M x n np) S C → FrM G G' → Q (some (.int (actF M x n np))) G') : A 2 M_md_act 0 [some (.ref 100), some (.int x), some (.int n), none, none, none, none] [] G kc ks Q := by
  have hn2 := hw.2.1
  have loop : ∀ (k i : Nat) (G' : AHp) (v5 v6 : Option Value) (hlt : i + k = np), MH G' (actM M x n i) S C → FrM G G' → (∀ G', MH G' (actM M x n np) S C → FrM G G' → Q (some (.int (actF M x n np))) G') → A 2 M_md_act 24 [some (.ref 100), some (.int x), some (.int n), some (.int (actF M x n i)), some (.int (nI i)), v5, v6] [] G' kc ks Q := by
    intro k
    induction k with
    | zero =>
      intro i G' v5 v6 hlt hM' hF h
      have hwi := (hw.actM (s := x) (n := n) i).1
      refine A.iload rfl d_md_act_24 ?_
      refine A.aload_k 0 rfl rfl rfl d_md_act_26 ?_
      apply A.getfield f_md_84 d_md_act_27
      · exact hM'.1
      · rfl
      rw [hwi]
      refine A.icmp_ge 181 (by decide) d_md_act_30 (fun c30 => ?_) (fun c30 => ?_)
      · refine A.iload_k 3 rfl rfl d_md_act_181 ?_
        refine A.iret d_md_act_182 rfl ?_
        have e : i = np := by omega
        subst e
        exact h G' hM' hF
      · exact absurd (nI_le (by omega) (by omega)) c30
    | succ k ih =>
      intro i G' v5 v6 hlt hM' hF h
      have hwf := hw.actM (s := x) (n := n) i
      obtain ⟨hwi, -, -, hh, -⟩ := hw.actM (s := x) (n := n) i
      obtain ⟨o, ho, eo⟩ := hh (4 * i)
      have ih := fun G' v5 v6 => ih (i + 1) G' v5 v6 (by omega)
      have eA : actM M x n (i + 1) = actS (actM M x n i) x n i := rfl
      have eF : actF M x n (i + 1) = actF M x n i + actG (actM M x n i) x n i := rfl
      rw [eA, eF] at ih
      generalize actM M x n i = Mi at *
      generalize actF M x n i = fi at *
      clear eA eF hw
      have J : ∀ (al : Int32) (hal : al = if 20 ≤ Mi 5 i - n then 0 else 1) (go : Int32) (hgo : go = goesA Mi n i) (h3 : Mi 3 i = x) (h6 : Mi 6 i = 0), A 2 M_md_act 102 [some (.ref 100), some (.int x), some (.int n), some (.int fi), some (.int (nI i)), some (.int al), v6] [.int go] G' kc ks Q := by
        intro al hal go hgo h3 h6
        have eG : actG Mi x n i = go := by unfold actG; rw [if_pos h3, if_pos h6, hgo]
        have eS : actS Mi x n i = if 20 ≤ Mi 5 i - n then va_up (actP Mi n i) 5 (upd (Mi 5) i (Mi 5 i - n)) else mEnds (actP Mi n i) i 3 := by unfold actS; rw [if_pos h3, if_pos h6]
        have hP : ∀ G2, MH G2 (va_up (va_up Mi 1 (upd (Mi 1) (hN (Mi 8 (4 * i))) (Mi 1 (hN (Mi 8 (4 * i))) + go * Mi 17 0))) 23 (fun _ => Mi 23 0 + go * Mi 17 0)) S C → MH G2 (actP Mi n i) S C := fun G2 z => by unfold actP; rw [← hgo]; exact z
        rw [eG, eS] at ih
        refine A.istore (Nat.le_of_ble_eq_true rfl) rfl d_md_act_102 ?_
        dsimp only [List.set]
        refine A.iload_k 3 rfl rfl d_md_act_104 ?_
        refine A.iload rfl d_md_act_105 ?_
        refine A.iadd d_md_act_107 ?_
        refine A.istore_k 3 rfl (Nat.le_of_ble_eq_true rfl) rfl d_md_act_108 ?_
        dsimp only [List.set]
        refine A.aload_k 0 rfl rfl rfl d_md_act_109 ?_
        apply A.getfield f_md_9 d_md_act_110
        · repeat first | exact up_s | refine up_e (by decide) ?_ | exact hM'.1 | exact hM'.2.1 _ rfl
        · rfl
        refine A.aload_k 0 rfl rfl rfl d_md_act_113 ?_
        apply A.getfield f_md_28 d_md_act_114
        · repeat first | exact up_s | refine up_e (by decide) ?_ | exact hM'.1 | exact hM'.2.1 _ rfl
        · rfl
        refine A.iconst (v := 4) rfl d_md_act_117 ?_
        refine A.iload rfl d_md_act_118 ?_
        refine A.imul d_md_act_120 ?_
        apply A.iaload (j := 4 * i) d_md_act_121
        · repeat first | exact up_s | refine up_e (by decide) ?_ | exact hM'.1 | exact hM'.2.1 _ rfl
        · exact ix4z (by omega)
        · show 4 * i < 96; omega
        refine A.dup2 rfl rfl d_md_act_122 ?_
        apply A.iaload (j := hN (Mi 8 (4 * i))) d_md_act_123
        · repeat first | exact up_s | refine up_e (by decide) ?_ | exact hM'.1 | exact hM'.2.1 _ rfl
        · rw [eo, hN_nI (by omega)]; exact ixn (by omega)
        · rw [eo, hN_nI (by omega)]; exact ho
        refine A.iload rfl d_md_act_124 ?_
        refine A.aload_k 0 rfl rfl rfl d_md_act_126 ?_
        apply A.getfield f_md_56 d_md_act_127
        · repeat first | exact up_s | refine up_e (by decide) ?_ | exact hM'.1 | exact hM'.2.1 _ rfl
        · rfl
        refine A.imul d_md_act_130 ?_
        refine A.iadd d_md_act_131 ?_
        apply A.iastore (j := hN (Mi 8 (4 * i))) d_md_act_132
        · repeat first | exact up_s | refine up_e (by decide) ?_ | exact hM'.1 | exact hM'.2.1 _ rfl
        · first | decide | omega
        · rw [eo, hN_nI (by omega)]; exact ixn (by omega)
        · rw [eo, hN_nI (by omega)]; exact ho
        refine A.aload_k 0 rfl rfl rfl d_md_act_133 ?_
        refine A.dup rfl d_md_act_134 ?_
        apply A.getfield f_md_142 d_md_act_135
        · repeat first | exact up_s | refine up_e (by decide) ?_ | exact hM'.1 | exact hM'.2.1 _ rfl
        · rfl
        refine A.iload rfl d_md_act_138 ?_
        refine A.aload_k 0 rfl rfl rfl d_md_act_140 ?_
        apply A.getfield f_md_56 d_md_act_141
        · repeat first | exact up_s | refine up_e (by decide) ?_ | exact hM'.1 | exact hM'.2.1 _ rfl
        · rfl
        refine A.imul d_md_act_144 ?_
        refine A.iadd d_md_act_145 ?_
        apply A.putfield p_md_142 d_md_act_146
        · repeat first | exact up_s | refine up_e (by decide) ?_ | exact hM'.1 | exact hM'.2.1 _ rfl
        · exact (Nat.le_of_ble_eq_true rfl)
        · rfl
        dsimp only [List.set]
        have hM2 := hP _ ((hM'.arr 1 rfl (upd (Mi 1) (hN (Mi 8 (4 * i))) (Mi 1 (hN (Mi 8 (4 * i))) + go * Mi 17 0))).fld 23 rfl (Mi 23 0 + go * Mi 17 0))
        have hF2 : FrM G _ := (hF.up (b := 201) (c := aI 20 (upd (Mi 1) (hN (Mi 8 (4 * i))) (Mi 1 (hN (Mi 8 (4 * i))) + go * Mi 17 0))) (by decide) (by decide)).up (b := 100) (c := mO (va_up (va_up Mi 1 (upd (Mi 1) (hN (Mi 8 (4 * i))) (Mi 1 (hN (Mi 8 (4 * i))) + go * Mi 17 0))) 23 (fun _ => Mi 23 0 + go * Mi 17 0)) S) (by decide) (by decide)
        refine A.iload rfl d_md_act_149 ?_
        refine A.if_eq 164 (by decide) d_md_act_151 (fun c151 => ?_) (fun c151 => ?_)
        · have c3 : 20 ≤ Mi 5 i - n := Decidable.not_not.mp (fun z => by rw [if_neg z] at hal; rw [c151] at hal; exact absurd hal (by decide))
          rw [if_pos c3] at ih
          refine A.aload_k 0 rfl rfl rfl d_md_act_164 ?_
          apply A.getfield f_md_19 d_md_act_165
          · exact hM2.1
          · rfl
          refine A.iload rfl d_md_act_168 ?_
          refine A.dup2 rfl rfl d_md_act_170 ?_
          apply A.iaload (j := i) d_md_act_171
          · repeat first | exact up_s | refine up_e (by decide) ?_ | exact hM'.1 | exact hM'.2.1 _ rfl
          · exact ixn (by omega)
          · show i < 24; omega
          refine A.iload_k 2 rfl rfl d_md_act_172 ?_
          refine A.isub d_md_act_173 ?_
          apply A.iastore (j := i) d_md_act_174
          · repeat first | exact up_s | refine up_e (by decide) ?_ | exact hM'.1 | exact hM'.2.1 _ rfl
          · first | decide | omega
          · exact ixn (by omega)
          · show i < 24; omega
          refine A.iincp (n := 4) rfl (Nat.le_of_ble_eq_true rfl) d_md_act_175 ?_
          dsimp only [List.set]
          refine A.goto 24 (by decide) d_md_act_178 ?_
          rw [nI_1]
          first | exact ih _ _ _ hM3 (hF2.tr hF3) h | exact ih _ _ _ (hM2.arr 5 rfl _) (hF2.up (by decide) (by decide)) h
        · have c3 : ¬ 20 ≤ Mi 5 i - n := fun z => by rw [if_pos z] at hal; exact c151 hal
          rw [if_neg c3] at ih
          refine A.aload_k 0 rfl rfl rfl d_md_act_154 ?_
          refine A.iload rfl d_md_act_155 ?_
          refine A.iconst (v := 3) rfl d_md_act_157 ?_
          refine A.callV2 s_md_145 ?_ (Nat.le_of_ble_eq_true rfl) (Nat.le_of_ble_eq_true rfl) (Nat.le_of_ble_eq_true rfl) d_md_act_158 rfl (c_md_ends hM2 (by omega) (fun G3 hM3 hF3 => ?_))
          · apply Exists.intro
            exact hM2.1
          dsimp only [psh]
          refine A.goto 175 (by decide) d_md_act_161 ?_
          refine A.iincp (n := 4) rfl (Nat.le_of_ble_eq_true rfl) d_md_act_175 ?_
          dsimp only [List.set]
          refine A.goto 24 (by decide) d_md_act_178 ?_
          rw [nI_1]
          first | exact ih _ _ _ hM3 (hF2.tr hF3) h | exact ih _ _ _ (hM2.arr 5 rfl _) (hF2.up (by decide) (by decide)) h
      refine A.iload rfl d_md_act_24 ?_
      refine A.aload_k 0 rfl rfl rfl d_md_act_26 ?_
      apply A.getfield f_md_84 d_md_act_27
      · first | exact hM'.1 | exact hM'.2.1 _ rfl
      · rfl
      rw [hwi]
      refine A.icmp_ge 181 (by decide) d_md_act_30 (fun c30 => ?_) (fun c30 => ?_)
      · exact absurd c30 (nI_ge (by omega) (by omega))
      refine A.aload_k 0 rfl rfl rfl d_md_act_33 ?_
      apply A.getfield f_md_13 d_md_act_34
      · first | exact hM'.1 | exact hM'.2.1 _ rfl
      · rfl
      refine A.iload rfl d_md_act_37 ?_
      apply A.iaload (j := i) d_md_act_39
      · first | exact hM'.1 | exact hM'.2.1 _ rfl
      · exact ixn (by omega)
      · show i < 24; omega
      refine A.iload_k 1 rfl rfl d_md_act_40 ?_
      refine A.icmp_ne 175 (by decide) d_md_act_41 (fun c41 => ?_) (fun c41 => ?_)
      · refine A.iincp (n := 4) rfl (Nat.le_of_ble_eq_true rfl) d_md_act_175 ?_
        dsimp only [List.set]
        refine A.goto 24 (by decide) d_md_act_178 ?_
        rw [nI_1]
        unfold actS actG at ih
        first | (rw [if_neg c41] at ih; rw [if_neg c41, Int32.add_zero] at ih; exact ih _ _ _ hM' hF h) | (rw [if_pos c41, if_neg c51] at ih; rw [if_pos c41, if_neg c51, Int32.add_zero] at ih; exact ih _ _ _ hM' hF h)
      · refine A.aload_k 0 rfl rfl rfl d_md_act_44 ?_
        apply A.getfield f_md_22 d_md_act_45
        · first | exact hM'.1 | exact hM'.2.1 _ rfl
        · rfl
        refine A.iload rfl d_md_act_48 ?_
        apply A.iaload (j := i) d_md_act_50
        · first | exact hM'.1 | exact hM'.2.1 _ rfl
        · exact ixn (by omega)
        · show i < 24; omega
        refine A.if_eq 57 (by decide) d_md_act_51 (fun c51 => ?_) (fun c51 => ?_)
        · refine A.aload_k 0 rfl rfl rfl d_md_act_57 ?_
          apply A.getfield f_md_19 d_md_act_58
          · first | exact hM'.1 | exact hM'.2.1 _ rfl
          · rfl
          refine A.iload rfl d_md_act_61 ?_
          apply A.iaload (j := i) d_md_act_63
          · first | exact hM'.1 | exact hM'.2.1 _ rfl
          · exact ixn (by omega)
          · show i < 24; omega
          refine A.iload_k 2 rfl rfl d_md_act_64 ?_
          refine A.isub d_md_act_65 ?_
          refine A.bipush (v := 20) rfl d_md_act_66 ?_
          refine A.icmp_ge 75 (by decide) d_md_act_68 (fun c68 => ?_) (fun c68 => ?_)
          · refine A.iconst (v := 0) rfl d_md_act_75 ?_
            refine A.istore (Nat.le_of_ble_eq_true rfl) rfl d_md_act_76 ?_
            dsimp only [List.set]
            refine A.aload_k 0 rfl rfl rfl d_md_act_78 ?_
            apply A.getfield f_md_16 d_md_act_79
            · first | exact hM'.1 | exact hM'.2.1 _ rfl
            · rfl
            refine A.iload rfl d_md_act_82 ?_
            apply A.iaload (j := i) d_md_act_84
            · first | exact hM'.1 | exact hM'.2.1 _ rfl
            · exact ixn (by omega)
            · show i < 24; omega
            refine A.iload rfl d_md_act_85 ?_
            refine A.if_eq0 100 (by decide) d_md_act_87 ?_
            refine A.iload_k 2 rfl rfl d_md_act_100 ?_
            refine A.imul d_md_act_101 ?_
            refine J _ ?_ _ ?_ c41 c51
            · first | rw [if_pos c68] | rw [if_neg c68]
            · unfold goesA
              first | rw [if_pos c68] | rw [if_neg c68]
          · refine A.iconst (v := 1) rfl d_md_act_71 ?_
            refine A.goto 76 (by decide) d_md_act_72 ?_
            refine A.istore (Nat.le_of_ble_eq_true rfl) rfl d_md_act_76 ?_
            dsimp only [List.set]
            refine A.aload_k 0 rfl rfl rfl d_md_act_78 ?_
            apply A.getfield f_md_16 d_md_act_79
            · first | exact hM'.1 | exact hM'.2.1 _ rfl
            · rfl
            refine A.iload rfl d_md_act_82 ?_
            apply A.iaload (j := i) d_md_act_84
            · first | exact hM'.1 | exact hM'.2.1 _ rfl
            · exact ixn (by omega)
            · show i < 24; omega
            refine A.iload rfl d_md_act_85 ?_
            refine A.if_eq1 d_md_act_87 (tgt := 100) (by decide) ?_
            refine A.aload_k 0 rfl rfl rfl d_md_act_90 ?_
            apply A.getfield f_md_19 d_md_act_91
            · first | exact hM'.1 | exact hM'.2.1 _ rfl
            · rfl
            refine A.iload rfl d_md_act_94 ?_
            apply A.iaload (j := i) d_md_act_96
            · first | exact hM'.1 | exact hM'.2.1 _ rfl
            · exact ixn (by omega)
            · show i < 24; omega
            refine A.goto 101 (by decide) d_md_act_97 ?_
            refine A.imul d_md_act_101 ?_
            refine J _ ?_ _ ?_ c41 c51
            · first | rw [if_pos c68] | rw [if_neg c68]
            · unfold goesA
              first | rw [if_pos c68] | rw [if_neg c68]
        · refine A.goto 175 (by decide) d_md_act_54 ?_
          refine A.iincp (n := 4) rfl (Nat.le_of_ble_eq_true rfl) d_md_act_175 ?_
          dsimp only [List.set]
          refine A.goto 24 (by decide) d_md_act_178 ?_
          rw [nI_1]
          unfold actS actG at ih
          first | (rw [if_neg c41] at ih; rw [if_neg c41, Int32.add_zero] at ih; exact ih _ _ _ hM' hF h) | (rw [if_pos c41, if_neg c51] at ih; rw [if_pos c41, if_neg c51, Int32.add_zero] at ih; exact ih _ _ _ hM' hF h)
  refine A.iload_k 1 rfl rfl d_md_act_0 ?_
  refine A.callS1 s_md_93 (Nat.le_of_ble_eq_true rfl) (Nat.le_of_ble_eq_true rfl) (Nat.le_of_ble_eq_true rfl) d_md_act_1 rfl (c_md_isStreet (fun s j1 j2 => ?_) (fun j3 => ?_))
  · dsimp only [psh]
    refine A.if_eq1 d_md_act_4 (tgt := 17) (by decide) ?_
    refine A.iload_k 2 rfl rfl d_md_act_7 ?_
    refine A.iconst (v := 1) rfl d_md_act_8 ?_
    refine A.bipush (v := 40) rfl d_md_act_9 ?_
    refine A.callS3 s_md_87 (Nat.le_of_ble_eq_true rfl) (Nat.le_of_ble_eq_true rfl) (Nat.le_of_ble_eq_true rfl) d_md_act_11 rfl (c_md_in (fun a1 a2 => ?_) (fun a3 => ?_))
    · dsimp only [psh]
      refine A.if_ne1 19 (by decide) d_md_act_14 ?_
      refine A.iconst (v := 0) rfl d_md_act_19 ?_
      refine A.istore_k 3 rfl (Nat.le_of_ble_eq_true rfl) rfl d_md_act_20 ?_
      dsimp only [List.set]
      refine A.iconst (v := 0) rfl d_md_act_21 ?_
      refine A.istore (Nat.le_of_ble_eq_true rfl) rfl d_md_act_22 ?_
      dsimp only [List.set]
      exact loop np 0 G none none (by omega) hM FrM.rf (h1 s j1 j2 a1 a2)
    · dsimp only [psh]
      refine A.if_ne0 d_md_act_14 (tgt := 19) (by decide) ?_
      refine A.iconst (v := -1) rfl d_md_act_17 ?_
      refine A.iret d_md_act_18 rfl ?_
      first | exact h0 (fun z => by obtain ⟨q, y1, y2⟩ := z.1; exact j3 q y1 y2) | exact h0 (fun z => a3 z.2)
  · dsimp only [psh]
    refine A.if_eq0 17 (by decide) d_md_act_4 ?_
    refine A.iconst (v := -1) rfl d_md_act_17 ?_
    refine A.iret d_md_act_18 rfl ?_
    first | exact h0 (fun z => by obtain ⟨q, y1, y2⟩ := z.1; exact j3 q y1 y2) | exact h0 (fun z => a3 z.2)
end MODEL5
