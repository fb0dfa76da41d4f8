/-! the component: due years, interests, what is told, taxes, works, stakes -/
section AF3
variable {M S : MS} {G : AHp} {kc ks np : Nat} {Q : Option Value → AHp → Prop}
theorem nxt_c {M' : MS} (h3 : M' 3 = M 3) (p : Nat) : nxt M' np p = nxt M np p := by unfold nxt; rw [behM_congr h3]
theorem wVA {M' : MS} (h3 : M' 3 = M 3) (p : Nat) : wV (wlA M' p) = wV (wlA M p) := by
  unfold wlA
  rw [befM_congr h3]
  split <;> rfl
theorem wVB {M' : MS} (h3 : M' 3 = M 3) (p : Nat) : wV (wlB M' np p) = wV (wlB M np p) := by
  unfold wlB
  rw [nxt_c h3]
  split <;> rfl
theorem WlO.fr {M' : MS} {G' : AHp} {p : Nat} (h : WlO G M np p) (hn : G' (1005 + 16 * p) = G (1005 + 16 * p)) (h3 : M' 3 = M 3) (h14 : M' 14 p = M 14 p) (h15 : M' 15 p = M 15 p) : WlO G' M' np p := by
  unfold WlO at h ⊢
  rw [nxt_c h3, hn, h14, h15]
  exact h
theorem ChO.fr {M' : MS} {G' : AHp} {p : Nat} (h : ChO G M p) (hn : ∀ a, 1001 + 16 * p ≤ a → a ≤ 1004 + 16 * p → G' a = G a) (h6 : M' 6 p = M 6 p ∨ (¬ (M 6 p = 2 ∨ M 6 p = 3) ∧ ¬ (M' 6 p = 2 ∨ M' 6 p = 3))) (h7 : M' 7 p = M 7 p) (h8 : ∀ j, j < zM M p → M' 8 (4 * p + j) = M 8 (4 * p + j) ∧ M' 9 (4 * p + j) = M 9 (4 * p + j) ∧ M' 10 (4 * p + j) = M 10 (4 * p + j)) : ChO G' M' p := by
  have hz : zM M' p = zM M p := by
    unfold zM
    rw [h7]
    rcases h6 with h6 | h6
    · rw [h6]
    · rw [if_neg h6.1, if_neg h6.2]
  obtain ⟨P, Y, R, a1, a2, a3, a4, a5⟩ := h
  refine ⟨P, Y, R, ?_, ?_, ?_, ?_, fun j hj => ?_⟩
  · rw [hn _ (by omega) (by omega), hz]; exact a1
  · rw [hn _ (by omega) (by omega)]; exact a2
  · rw [hn _ (by omega) (by omega)]; exact a3
  · rw [hn _ (by omega) (by omega)]; exact a4
  · rw [hz] at hj
    obtain ⟨b1, b2, b3⟩ := h8 j hj
    rw [b1, b2, b3]
    exact a5 j hj
/-- one plot has changed -/
theorem CH.one {M' : MS} {G' : AHp} {p : Nat} (h : CH G M np) (hw : WF M np) (hp : p < np) (hG : ∀ a, (a < 1000 + 16 * p ∨ 1016 + 16 * p ≤ a) → G' a = G a) (hM : ∀ k, (k = 0 ∨ k = 1 ∨ k = 3 ∨ 16 ≤ k) → M' k = M k) (hM1 : ∀ q k, q ≠ p → M' k q = M k q ∨ (8 ≤ k ∧ k ≤ 10)) (hM2 : ∀ q k j, q ≠ p → j < 4 → 8 ≤ k → k ≤ 10 → M' k (4 * q + j) = M k (4 * q + j)) (hpl : PlO G' M' np p) : CH G' M' np := by
  refine h.mk1 hw.2.1 ⟨?_, ?_⟩ (fun q hq => ?_) (fun a x => hG a (by omega)) (hM 3 (by omega)) (hM 19 (by omega)) (hM 20 (by omega)) (hM 21 (by omega)) (hM 22 (by omega)) (hM 24 (by omega))
  · rw [hG _ (by omega), h.root.1]
    unfold rtO
    rw [hM 0 (by omega), hM 16 (by omega), hM 17 (by omega), hM 18 (by omega), hM 23 (by omega)]
  · rw [hG _ (by omega), hM 1 (by omega)]; exact h.root.2
  · by_cases e : q = p
    · subst e; exact hpl
    · exact (h.pl hq).fr (hw.zle q) (fun a x y => hG a (by omega)) (fun k hk => (hM1 q k e).resolve_right (by omega)) (fun k j x y z => hM2 q k j e z x y) (hM 3 (by omega))
theorem upd_ne {f : Nat → Int32} {i j : Nat} {v : Int32} (h : j ≠ i) : upd f i v j = f j := if_neg h
theorem upd_eq {f : Nat → Int32} {i : Nat} {v : Int32} : upd f i v i = v := if_pos rfl
theorem c_af_due {x v : Int32} (hC : CH G M np) (hw : WF M np) (h0 : ¬ ((∃ p, p < np ∧ x = nI p) ∧ 0 ≤ v ∧ v ≤ 60) → Q (some (.int 0)) G) (h1 : ∀ p, p < np → x = nI p → 0 ≤ v → v ≤ 60 → ∀ G', CH G' (va_up M 13 (upd (M 13) p v)) np → FrC G G' → Q (some (.int 1)) G') : A 4 M_af_due 0 [some (.ref 20), some (.int x), some (.int v), none] [] G kc ks Q := by
  have hr := hC.root.1
  have fin : ∀ p, p < np → CH (up G (1000 + 16 * p) (plO (va_up M 13 (upd (M 13) p v)) np p)) (va_up M 13 (upd (M 13) p v)) np := by
    intro p hp
    refine hC.one hw hp (fun a ha => up_n (by omega)) (fun k hk => vn (by omega)) (fun q k hq => ?_) (fun q k j hq h1 h2 h3 => by rw [vn (by omega)]) ⟨up_s, ?_, ?_⟩
    · by_cases e : k = 13
      · subst e; rw [vs, upd_ne hq]; exact Or.inl rfl
      · rw [vn e]; exact Or.inl rfl
    · exact (hC.pl hp).2.1.fr (fun a h1 h2 => up_n (by omega)) (Or.inl rfl) rfl (fun _ _ => ⟨rfl, rfl, rfl⟩)
    · exact (hC.pl hp).2.2.fr (up_n (by omega)) rfl rfl rfl
  refine A.aload_k 0 rfl rfl rfl d_af_due_0 ?_
  refine A.iload_k 1 rfl rfl d_af_due_1 ?_
  refine A.callV1 s_af_106 ?_ (Nat.le_of_ble_eq_true rfl) (Nat.le_of_ble_eq_true rfl) (Nat.le_of_ble_eq_true rfl) d_af_due_2 rfl (c_af_plotAt hC hw.2.1 (fun p hp hx => ?_) (fun q0 => ?_))
  · apply Exists.intro
    repeat first | assumption | exact up_s | refine up_e (by first | decide | omega) ?_
  · dsimp only [psh]
    refine A.astore_k 3 rfl (Nat.le_of_ble_eq_true rfl) rfl rfl d_af_due_5 ?_
    dsimp only [List.set]
    refine A.aload_k 3 rfl rfl rfl d_af_due_6 ?_
    refine A.ifnull_r d_af_due_7 ?_
    refine A.iload_k 2 rfl rfl d_af_due_10 ?_
    refine A.callS1 s_af_124 (Nat.le_of_ble_eq_true rfl) (Nat.le_of_ble_eq_true rfl) (Nat.le_of_ble_eq_true rfl) d_af_due_11 rfl (c_af_isYear (fun i1 i2 => ?_) (fun i3 => ?_))
    · dsimp only [psh]
      refine A.if_ne1 19 (by decide) d_af_due_14 ?_
      refine A.aload_k 3 rfl rfl rfl d_af_due_19 ?_
      refine A.iload_k 2 rfl rfl d_af_due_20 ?_
      apply A.putfield p_af_196 d_af_due_21
      · exact (hC.pl hp).1
      · exact (Nat.le_of_ble_eq_true rfl)
      · rfl
      dsimp only [List.set]
      refine A.iconst (v := 1) rfl d_af_due_24 ?_
      refine A.zret d_af_due_25 rfl (Or.inr rfl) ?_
      have e := h1 p hp hx i1 i2 _ (fin p hp) (FrC.rf.up (by omega) (by omega))
      unfold plO at e
      rw [vs, upd_eq, wVA (M := M) (M' := va_up M 13 _) rfl, wVB (M := M) (M' := va_up M 13 _) rfl] at e
      exact e
    · dsimp only [psh]
      refine A.if_ne0 d_af_due_14 (tgt := 19) (by decide) ?_
      refine A.iconst (v := 0) rfl d_af_due_17 ?_
      refine A.zret d_af_due_18 rfl (Or.inl rfl) ?_
      first | exact h0 (fun z => z.1.elim (fun q hq => q0 q hq.1 hq.2)) | exact h0 (fun z => i3 z.2)
  · dsimp only [psh]
    refine A.astore_k 3 rfl (Nat.le_of_ble_eq_true rfl) rfl rfl d_af_due_5 ?_
    dsimp only [List.set]
    refine A.aload_k 3 rfl rfl rfl d_af_due_6 ?_
    refine A.ifnull_0 17 (by decide) d_af_due_7 ?_
    refine A.iconst (v := 0) rfl d_af_due_17 ?_
    refine A.zret d_af_due_18 rfl (Or.inl rfl) ?_
    first | exact h0 (fun z => z.1.elim (fun q hq => q0 q hq.1 hq.2)) | exact h0 (fun z => i3 z.2)
/-- an interest by the cells is the reference's -/
theorem intK_M {p j l : Nat} {P Y R : Nat → Int32} (hw : WF M np) (g : ¬ (M 6 p = 2 ∨ M 6 p = 3)) (h7 : M 7 p = nI l) (hl : l ≤ 3) (hj : j ≤ l) (h : ∀ j, j < zM M p → P j = M 8 (4 * p + j) ∧ Y j = M 9 (4 * p + j) ∧ R j = if j = 0 then 0 else M 10 (4 * p + j)) : intK (zM M p) Y R j (wthM M p) = intM M p j := by
  have hz := zM_of g h7 hl
  unfold intK intM
  rw [hz] at h ⊢
  rw [if_pos (show j < l + 1 by omega), h7]
  have e1 : (if j + 1 < l + 1 then R (j + 1) else wthM M p) = (if nI l ≤ nI j then wthM M p else M 10 (4 * p + j + 1)) := by
    by_cases e : j < l
    · rw [if_pos (by omega), if_neg (fun z => absurd ((nI_leI (by omega) (by omega)).mp z) (by omega)), (h (j + 1) (by omega)).2.2, if_neg (by omega)]
      rfl
    · rw [if_neg (by omega), if_pos (nI_le (by omega) (by omega))]
  have e2 : R j = (if nI j ≤ 0 then 0 else M 10 (4 * p + j)) := by
    rw [(h j (by omega)).2.2]
    by_cases e : j = 0
    · subst e; rfl
    · rw [if_neg e, if_neg (show ¬ nI j ≤ 0 from fun z => absurd ((nI_leI (a := j) (b := 0) (by omega) (by omega)).mp z) (by omega))]
  have e3 : (if j = 0 then (40 : Int32) else Y j) = (if nI j = 0 then 40 else M 9 (4 * p + j)) := by
    by_cases e : j = 0
    · subst e; rfl
    · rw [if_neg e, if_neg (show ¬ nI j = 0 from fun z => e (nI_inj (b := 0) (by omega) (by omega) z)), (h j (by omega)).2.1]
  rw [e1, e2, e3]
  generalize (if nI l ≤ nI j then wthM M p else M 10 (4 * p + j + 1)) - (if nI j ≤ 0 then 0 else M 10 (4 * p + j)) = a
  generalize (if nI j = 0 then 40 else M 9 (4 * p + j)) = b
  split
  · rfl
  · rw [Int32.zero_mul]
theorem c_af_interest {x k : Int32} (hC : CH G M np) (hw : WF M np) (h1 : ∀ p j l, p < np → x = nI p → M 7 p = nI l → l ≤ 3 → j ≤ l → k = nI j → ¬ (M 6 p = 2 ∨ M 6 p = 3) → Q (some (.int (intM M p j))) G)
    (h0 : (∀ p j l, p < np → x = nI p → M 7 p = nI l → l ≤ 3 → j ≤ l → k = nI j → (M 6 p = 2 ∨ M 6 p = 3)) → Q (some (.int (-1))) G) : A 4 M_af_interest 0 [some (.ref 20), some (.int x), some (.int k), none] [] G kc ks Q := by
  have hr := hC.root.1
  refine A.aload_k 0 rfl rfl rfl d_af_interest_0 ?_
  refine A.iload_k 1 rfl rfl d_af_interest_1 ?_
  refine A.callV1 s_af_106 ?_ (Nat.le_of_ble_eq_true rfl) (Nat.le_of_ble_eq_true rfl) (Nat.le_of_ble_eq_true rfl) d_af_interest_2 rfl (c_af_plotAt hC hw.2.1 (fun p hp hx => ?_) (fun q0 => ?_))
  · apply Exists.intro
    repeat first | assumption | exact up_s | refine up_e (by first | decide | omega) ?_
  · dsimp only [psh]
    refine A.astore_k 3 rfl (Nat.le_of_ble_eq_true rfl) rfl rfl d_af_interest_5 ?_
    dsimp only [List.set]
    refine A.aload_k 3 rfl rfl rfl d_af_interest_6 ?_
    refine A.ifnull_r d_af_interest_7 ?_
    obtain ⟨P, Y, R, a1, a2, a3, a4, a5⟩ := (hC.pl hp).2.1
    have hpl := (hC.pl hp).1
    have hz := hw.zle p
    refine A.aload_k 3 rfl rfl rfl d_af_interest_10 ?_
    apply A.getfield f_af_113 d_af_interest_11
    · repeat first | assumption | exact up_s | refine up_e (by first | decide | omega) ?_
    · rfl
    refine A.iload_k 2 rfl rfl d_af_interest_14 ?_
    refine A.callV1 s_af_130 ?_ (Nat.le_of_ble_eq_true rfl) (Nat.le_of_ble_eq_true rfl) (Nat.le_of_ble_eq_true rfl) d_af_interest_15 rfl (c_ch_reaches (by repeat first | assumption | exact up_s | refine up_e (by first | decide | omega) ?_) hz (fun j r1 r2 => ?_) (fun r3 => ?_))
    · apply Exists.intro
      repeat first | assumption | exact up_s | refine up_e (by first | decide | omega) ?_
    · dsimp only [psh]
      refine A.if_ne1 23 (by decide) d_af_interest_18 ?_
      refine A.aload_k 3 rfl rfl rfl d_af_interest_23 ?_
      apply A.getfield f_af_113 d_af_interest_24
      · repeat first | assumption | exact up_s | refine up_e (by first | decide | omega) ?_
      · rfl
      refine A.iload_k 2 rfl rfl d_af_interest_27 ?_
      refine A.aload_k 3 rfl rfl rfl d_af_interest_28 ?_
      refine A.callV0 s_af_127 ?_ (Nat.le_of_ble_eq_true rfl) (Nat.le_of_ble_eq_true rfl) (Nat.le_of_ble_eq_true rfl) d_af_interest_29 rfl (c_pl_yearlyWorth (by repeat first | assumption | exact up_s | refine up_e (by first | decide | omega) ?_) ?_)
      · apply Exists.intro
        repeat first | assumption | exact up_s | refine up_e (by first | decide | omega) ?_
      dsimp only [psh]
      rw [r2]
      refine A.callV2 s_af_133 ?_ (Nat.le_of_ble_eq_true rfl) (Nat.le_of_ble_eq_true rfl) (Nat.le_of_ble_eq_true rfl) d_af_interest_32 rfl (c_ch_interestOf a1 a3 a4 hz (by omega) ?_)
      · apply Exists.intro
        repeat first | assumption | exact up_s | refine up_e (by first | decide | omega) ?_
      dsimp only [psh]
      refine A.iret d_af_interest_35 rfl ?_
      obtain ⟨g, l, l1, l2, l3⟩ := zM_lt hw r1
      have e := h1 p j l hp hx l1 l2 l3 r2 g
      rw [← intK_M hw g l1 l2 l3 a5] at e
      exact e
    · dsimp only [psh]
      refine A.if_ne0 d_af_interest_18 (tgt := 23) (by decide) ?_
      refine A.iconst (v := -1) rfl d_af_interest_21 ?_
      refine A.iret d_af_interest_22 rfl ?_
      first | exact h0 (fun p j l e1 e2 => absurd e2 (q0 p e1)) | exact h0 (fun p' j l e1 e2 e3 e4 e5 e6 => Decidable.byContradiction (fun g => by
          have e7 : p' = p := nI_inj (by have := hw.2.1; omega) (by have := hw.2.1; omega) (e2.symm.trans hx)
          subst e7
          exact r3 j (by rw [zM_of g e3 e4]; omega) e6))
  · dsimp only [psh]
    refine A.astore_k 3 rfl (Nat.le_of_ble_eq_true rfl) rfl rfl d_af_interest_5 ?_
    dsimp only [List.set]
    refine A.aload_k 3 rfl rfl rfl d_af_interest_6 ?_
    refine A.ifnull_0 21 (by decide) d_af_interest_7 ?_
    refine A.iconst (v := -1) rfl d_af_interest_21 ?_
    refine A.iret d_af_interest_22 rfl ?_
    first | exact h0 (fun p j l e1 e2 => absurd e2 (q0 p e1)) | exact h0 (fun p' j l e1 e2 e3 e4 e5 e6 => Decidable.byContradiction (fun g => by
        have e7 : p' = p := nI_inj (by have := hw.2.1; omega) (by have := hw.2.1; omega) (e2.symm.trans hx)
        subst e7
        exact r3 j (by rw [zM_of g e3 e4]; omega) e6))
theorem befM_sp (M : MS) (p : Nat) : ∀ n, (befM M p n = -1 ∧ ∀ i, i < n → M 3 i ≠ M 3 p) ∨ ∃ a, a < n ∧ befM M p n = nI a ∧ M 3 a = M 3 p ∧ ∀ i, a < i → i < n → M 3 i ≠ M 3 p
  | 0 => Or.inl ⟨rfl, fun i hi => absurd hi (by omega)⟩
  | n + 1 => by
    unfold befM
    by_cases h : M 3 n = M 3 p
    · rw [if_pos h]; exact Or.inr ⟨n, by omega, rfl, h, fun i h1 h2 => by omega⟩
    · rw [if_neg h]
      rcases befM_sp M p n with ⟨e, h1⟩ | ⟨a, h1, h2, h3, h4⟩
      · exact Or.inl ⟨e, fun i hi => by
          by_cases e2 : i = n
          · subst e2; exact h
          · exact h1 i (by omega)⟩
      · exact Or.inr ⟨a, by omega, h2, h3, fun i k1 k2 => by
          by_cases e2 : i = n
          · subst e2; exact h
          · exact h4 i k1 (by omega)⟩
theorem behM_sp (M : MS) (p : Nat) : ∀ n i, (behM M p n i = -1 ∧ ∀ j, i ≤ j → j < i + n → M 3 j ≠ M 3 p) ∨ ∃ a, i ≤ a ∧ a < i + n ∧ behM M p n i = nI a ∧ M 3 a = M 3 p ∧ ∀ j, i ≤ j → j < a → M 3 j ≠ M 3 p
  | 0, i => Or.inl ⟨rfl, fun j h1 h2 => absurd h1 (by omega)⟩
  | n + 1, i => by
    unfold behM
    by_cases h : M 3 i = M 3 p
    · rw [if_pos h]; exact Or.inr ⟨i, by omega, by omega, rfl, h, fun j h1 h2 => by omega⟩
    · rw [if_neg h]
      rcases behM_sp M p n (i + 1) with ⟨e, h1⟩ | ⟨a, h0, h1, h2, h3, h4⟩
      · exact Or.inl ⟨e, fun j k1 k2 => by
          by_cases e2 : j = i
          · subst e2; exact h
          · exact h1 j (by omega) (by omega)⟩
      · exact Or.inr ⟨a, by omega, by omega, h2, h3, fun j k1 k2 => by
          by_cases e2 : j = i
          · subst e2; exact h
          · exact h4 j (by omega) k2⟩
theorem nxt_in {p : Nat} (hp : p < np) : nxt M np p = -1 ∨ ∃ b, (p < b ∧ b < np) ∧ nxt M np p = nI b := by
  rcases behM_in M p (np - (p + 1)) (p + 1) with e | ⟨a, h1, h2, h3⟩
  · exact Or.inl e
  · exact Or.inr ⟨a, by omega, h3⟩
/-- the plot behind q: the next of its street -/
theorem nxt_is {q b : Nat} (h1 : q < b) (h2 : b < np) (h3 : M 3 b = M 3 q) (h4 : ∀ j, q < j → j < b → M 3 j ≠ M 3 q) : nxt M np q = nI b := by
  rcases behM_sp M q (np - (q + 1)) (q + 1) with ⟨_, e⟩ | ⟨a, k0, k1, k2, k3, k4⟩
  · exact absurd h3 (e b (by omega) (by omega))
  · have : a = b := by
      rcases Nat.lt_trichotomy a b with y | y | y
      · exact absurd k3 (h4 a (by omega) y)
      · exact y
      · exact absurd h3 (k4 b (by omega) y)
    subst this
    exact k2
theorem bef_nxt {p q : Nat} (hp : p < np) (hn : np ≤ 24) (hq : q < p) (h : befM M p p = nI q) : nxt M np q = nI p := by
  rcases befM_sp M p p with ⟨e, _⟩ | ⟨a, k1, k2, k3, k4⟩
  · exact absurd (h.symm.trans e) (nI_nm1 (by omega))
  · have : a = q := nI_inj (by omega) (by omega) (k2.symm.trans h)
    subst this
    exact nxt_is hq hp k3.symm (fun j h1 h2 => by rw [k3]; exact k4 j h1 h2)
theorem pdA (p : Nat) : pdW ((wlA M p).map Prod.snd) = if befM M p p = -1 then 0 else if M 14 (hN (befM M p p)) = -1 then 0 else 1 := by
  unfold wlA
  split <;> rfl
theorem c_af_told {x w : Int32} (hC : CH G M np) (hI : INV M np) (h0 : (∀ q, q < np → x ≠ nI q) → Q (some (.int (-1))) G) (h1 : ∀ p, p < np → x = nI p → Q (some (.int (tldM M p w))) G) : A 4 M_af_told 0 [some (.ref 20), some (.int x), some (.int w), none] [] G kc ks Q := by
  have hw := hI.1
  have h24 := hw.2.1
  have hr := hC.root.1
  have main : ∀ p, p < np → Q (some (.int (tldM M p w))) G → A 4 M_af_told 12 [some (.ref 20), some (.int x), some (.int w), some (.ref (1000 + 16 * p))] [] G kc ks Q := by
    intro p hp h
    have hpl := (hC.pl hp).1
    obtain ⟨P, Y, R, a1, a2, a3, a4, a5⟩ := (hC.pl hp).2.1
    have hz := hw.zle p
    refine A.iload_k 2 rfl rfl d_af_told_12 ?_
    refine A.tsw [56, 61, 66, 71, 79, 84, 89] 94 d_af_told_13 (by decide) (by decide) (by decide) (fun i t hi hx => ?_) (fun hx => ?_) (by decide)
    · subst hx
      rcases i with _ | _ | _ | _ | _ | _ | _ | i
      · cases hi
        refine A.aload_k 3 rfl rfl rfl d_af_told_56 ?_
        apply A.getfield f_af_110 d_af_told_57
        · repeat first | assumption | exact up_s | refine up_e (by first | decide | omega) ?_
        · rfl
        refine A.iret d_af_told_60 rfl ?_
        exact h
      · cases hi
        refine A.aload_k 3 rfl rfl rfl d_af_told_61 ?_
        apply A.getfield f_af_232 d_af_told_62
        · repeat first | assumption | exact up_s | refine up_e (by first | decide | omega) ?_
        · rfl
        refine A.iret d_af_told_65 rfl ?_
        exact h
      · cases hi
        refine A.aload_k 3 rfl rfl rfl d_af_told_66 ?_
        apply A.getfield f_af_235 d_af_told_67
        · repeat first | assumption | exact up_s | refine up_e (by first | decide | omega) ?_
        · rfl
        refine A.iret d_af_told_70 rfl ?_
        exact h
      · cases hi
        have h : Q (some (.int (M 7 p))) G := h
        refine A.aload_k 3 rfl rfl rfl d_af_told_71 ?_
        apply A.getfield f_af_113 d_af_told_72
        · repeat first | assumption | exact up_s | refine up_e (by first | decide | omega) ?_
        · rfl
        refine A.callV0 s_af_121 ?_ (Nat.le_of_ble_eq_true rfl) (Nat.le_of_ble_eq_true rfl) (Nat.le_of_ble_eq_true rfl) d_af_told_75 rfl (c_ch_leases (by repeat first | assumption | exact up_s | refine up_e (by first | decide | omega) ?_) hz ?_)
        · apply Exists.intro
          repeat first | assumption | exact up_s | refine up_e (by first | decide | omega) ?_
        dsimp only [psh]
        refine A.iret d_af_told_78 rfl ?_
        by_cases g : M 6 p = 2 ∨ M 6 p = 3
        · rw [zM_gone g]; rw [(hI.2.2.2.1 p hp).2.2.2.2.1 g] at h; exact h
        · obtain ⟨l, l1, l2⟩ := hw.2.2.1 p
          rw [zM_of g l2 l1]; rw [l2] at h; exact h
      · cases hi
        refine A.aload_k 3 rfl rfl rfl d_af_told_79 ?_
        apply A.getfield f_af_238 d_af_told_80
        · repeat first | assumption | exact up_s | refine up_e (by first | decide | omega) ?_
        · rfl
        refine A.iret d_af_told_83 rfl ?_
        exact h
      · cases hi
        refine A.aload_k 3 rfl rfl rfl d_af_told_84 ?_
        apply A.getfield f_af_241 d_af_told_85
        · repeat first | assumption | exact up_s | refine up_e (by first | decide | omega) ?_
        · rfl
        refine A.iret d_af_told_88 rfl ?_
        exact h
      · cases hi
        have h : Q (some (.int (wlsM M p))) G := h
        have ho : wH G (wlA M p) := by
          intro w0 x0 e
          unfold wlA at e
          split at e
          · cases e
          · rename_i hne
            cases e
            obtain ⟨q, hq1, hq2⟩ := (befM_in (M := M) p p).resolve_left hne
            rw [hq2, hN_nI (by omega)]
            have hq3 : nxt M np q = nI p := bef_nxt hp h24 hq1 hq2
            obtain ⟨x1, y1, y2⟩ := (hC.pl (show q < np by omega)).2.2.2 p hp hq3
            exact ⟨_, _, _, y1⟩
        have ho' : wH G (wlB M np p) := by
          intro w0 x0 e
          unfold wlB at e
          split at e
          · cases e
          · rename_i hne
            cases e
            obtain ⟨q, hq1, hq2⟩ := (nxt_in (M := M) (np := np) hp).resolve_left hne
            obtain ⟨x1, y1, y2⟩ := (hC.pl hp).2.2.2 q hq1.2 hq2
            exact ⟨_, _, _, y1⟩
        have hb : pdW ((wlB M np p).map Prod.snd) = if M 14 p = -1 then 0 else 1 := by
          unfold wlB
          split
          · rw [if_pos ((hC.pl hp).2.2.1 (by assumption)).2]
            rfl
          · rfl
        refine A.aload_k 3 rfl rfl rfl d_af_told_89 ?_
        refine A.callV0 s_af_244 ?_ (Nat.le_of_ble_eq_true rfl) (Nat.le_of_ble_eq_true rfl) (Nat.le_of_ble_eq_true rfl) d_af_told_90 rfl (c_pl_paidWalls hpl ho ho' ?_)
        · apply Exists.intro
          repeat first | assumption | exact up_s | refine up_e (by first | decide | omega) ?_
        dsimp only [psh]
        refine A.iret d_af_told_93 rfl ?_
        rw [pdA, hb]
        exact h
      · simp at hi
    · unfold tldM at h
      rw [if_neg (sw_out hx (by decide) (by decide)), if_neg (sw_out hx (by decide) (by decide)), if_neg (sw_out hx (by decide) (by decide)), if_neg (sw_out hx (by decide) (by decide)), if_neg (sw_out hx (by decide) (by decide)), if_neg (sw_out hx (by decide) (by decide)), if_neg (sw_out hx (by decide) (by decide))] at h
      refine A.iconst (v := -1) rfl d_af_told_94 ?_
      refine A.iret d_af_told_95 rfl ?_
      exact h
  refine A.aload_k 0 rfl rfl rfl d_af_told_0 ?_
  refine A.iload_k 1 rfl rfl d_af_told_1 ?_
  refine A.callV1 s_af_106 ?_ (Nat.le_of_ble_eq_true rfl) (Nat.le_of_ble_eq_true rfl) (Nat.le_of_ble_eq_true rfl) d_af_told_2 rfl (c_af_plotAt hC hw.2.1 (fun p hp hx => ?_) (fun q0 => ?_))
  · apply Exists.intro
    repeat first | assumption | exact up_s | refine up_e (by first | decide | omega) ?_
  · dsimp only [psh]
    refine A.astore_k 3 rfl (Nat.le_of_ble_eq_true rfl) rfl rfl d_af_told_5 ?_
    dsimp only [List.set]
    refine A.aload_k 3 rfl rfl rfl d_af_told_6 ?_
    refine A.ifnonnull_r 12 (by decide) d_af_told_7 ?_
    exact main p hp (h1 p hp hx)
  · dsimp only [psh]
    refine A.astore_k 3 rfl (Nat.le_of_ble_eq_true rfl) rfl rfl d_af_told_5 ?_
    dsimp only [List.set]
    refine A.aload_k 3 rfl rfl rfl d_af_told_6 ?_
    refine A.ifnonnull_0 d_af_told_7 ?_
    refine A.iconst (v := -1) rfl d_af_told_10 ?_
    refine A.iret d_af_told_11 rfl ?_
    exact h0 q0
theorem ifj {j : Nat} {x y : Int32} (h : j < 1000) : (if j = 0 then x else y) = if nI j = 0 then x else y := by
  by_cases c : j = 0
  · subst c; rfl
  · rw [if_neg c, if_neg (show ¬ nI j = 0 from fun z => c (nI_inj (b := 0) (by omega) (by omega) z))]
theorem c_af_chain {x k w : Int32} (hC : CH G M np) (hw : WF M np) (h0 : (∀ p j l, p < np → x = nI p → M 7 p = nI l → l ≤ 3 → j ≤ l → k = nI j → (M 6 p = 2 ∨ M 6 p = 3)) → Q (some (.int (-1))) G) (h1 : ∀ p j l, p < np → x = nI p → M 7 p = nI l → l ≤ 3 → j ≤ l → k = nI j → ¬ (M 6 p = 2 ∨ M 6 p = 3) → Q (some (.int (chnM M p j w))) G) : A 4 M_af_chain 0 [some (.ref 20), some (.int x), some (.int k), some (.int w), none] [] G kc ks Q := by
  have h24 := hw.2.1
  have hr := hC.root.1
  have main : ∀ p, p < np → (∀ j, j < zM M p → k = nI j → Q (some (.int (chnM M p j w))) G) → ((∀ j, j < zM M p → k ≠ nI j) → Q (some (.int (-1))) G) → A 4 M_af_chain 14 [some (.ref 20), some (.int x), some (.int k), some (.int w), some (.ref (1000 + 16 * p))] [] G kc ks Q := by
    intro p hp h1 h0
    have hpl := (hC.pl hp).1
    obtain ⟨P, Y, R, a1, a2, a3, a4, a5⟩ := (hC.pl hp).2.1
    have hz := hw.zle p
    refine A.iload_k 3 rfl rfl d_af_chain_14 ?_
    refine A.tsw [40, 50, 60] 70 d_af_chain_15 (by decide) (by decide) (by decide) (fun i t hi hx => ?_) (fun hx => ?_) (by decide)
    · subst hx
      rcases i with _ | _ | _ | i
      · cases hi
        refine A.aload rfl rfl d_af_chain_40 ?_
        apply A.getfield f_af_113 d_af_chain_42
        · repeat first | assumption | exact up_s | refine up_e (by first | decide | omega) ?_
        · rfl
        refine A.iload_k 2 rfl rfl d_af_chain_45 ?_
        refine A.callV1 s_af_152 ?_ (Nat.le_of_ble_eq_true rfl) (Nat.le_of_ble_eq_true rfl) (Nat.le_of_ble_eq_true rfl) d_af_chain_46 rfl (c_ch_personAt (by repeat first | assumption | exact up_s | refine up_e (by first | decide | omega) ?_) (by repeat first | assumption | exact up_s | refine up_e (by first | decide | omega) ?_) hz (fun j r1 r2 => ?_) (fun r3 => ?_))
        · apply Exists.intro
          repeat first | assumption | exact up_s | refine up_e (by first | decide | omega) ?_
        · dsimp only [psh]
          refine A.iret d_af_chain_49 rfl ?_
          first | (rw [(a5 j r1).1]; exact h1 j r1 r2) | exact h0 r3
        · dsimp only [psh]
          refine A.iret d_af_chain_49 rfl ?_
          first | (rw [(a5 j r1).1]; exact h1 j r1 r2) | exact h0 r3
      · cases hi
        refine A.aload rfl rfl d_af_chain_50 ?_
        apply A.getfield f_af_113 d_af_chain_52
        · repeat first | assumption | exact up_s | refine up_e (by first | decide | omega) ?_
        · rfl
        refine A.iload_k 2 rfl rfl d_af_chain_55 ?_
        refine A.callV1 s_af_247 ?_ (Nat.le_of_ble_eq_true rfl) (Nat.le_of_ble_eq_true rfl) (Nat.le_of_ble_eq_true rfl) d_af_chain_56 rfl (c_ch_yearsAt (by repeat first | assumption | exact up_s | refine up_e (by first | decide | omega) ?_) (by repeat first | assumption | exact up_s | refine up_e (by first | decide | omega) ?_) hz (fun j r1 r2 => ?_) (fun r3 => ?_))
        · apply Exists.intro
          repeat first | assumption | exact up_s | refine up_e (by first | decide | omega) ?_
        · dsimp only [psh]
          refine A.iret d_af_chain_59 rfl ?_
          first | (rw [(a5 j r1).2.1]; exact h1 j r1 r2) | exact h0 r3
        · dsimp only [psh]
          refine A.iret d_af_chain_59 rfl ?_
          first | (rw [(a5 j r1).2.1]; exact h1 j r1 r2) | exact h0 r3
      · cases hi
        refine A.aload rfl rfl d_af_chain_60 ?_
        apply A.getfield f_af_113 d_af_chain_62
        · repeat first | assumption | exact up_s | refine up_e (by first | decide | omega) ?_
        · rfl
        refine A.iload_k 2 rfl rfl d_af_chain_65 ?_
        refine A.callV1 s_af_250 ?_ (Nat.le_of_ble_eq_true rfl) (Nat.le_of_ble_eq_true rfl) (Nat.le_of_ble_eq_true rfl) d_af_chain_66 rfl (c_ch_rentAt (by repeat first | assumption | exact up_s | refine up_e (by first | decide | omega) ?_) (by repeat first | assumption | exact up_s | refine up_e (by first | decide | omega) ?_) hz (fun j r1 r2 => ?_) (fun r3 => ?_))
        · apply Exists.intro
          repeat first | assumption | exact up_s | refine up_e (by first | decide | omega) ?_
        · dsimp only [psh]
          refine A.iret d_af_chain_69 rfl ?_
          first | (rw [(a5 j r1).2.2, ifj (by omega)]; exact h1 j r1 r2) | exact h0 r3
        · dsimp only [psh]
          refine A.iret d_af_chain_69 rfl ?_
          first | (rw [(a5 j r1).2.2, ifj (by omega)]; exact h1 j r1 r2) | exact h0 r3
      · simp at hi
    · by_cases c : ∃ j, j < zM M p ∧ k = nI j
      · obtain ⟨j, r1, r2⟩ := c
        have h := h1 j r1 r2
        unfold chnM at h
        rw [if_neg (sw_out hx (by decide) (by decide)), if_neg (sw_out hx (by decide) (by decide)), if_neg (sw_out hx (by decide) (by decide))] at h
        refine A.iconst (v := -1) rfl d_af_chain_70 ?_
        refine A.iret d_af_chain_71 rfl ?_
        exact h
      · skip
        refine A.iconst (v := -1) rfl d_af_chain_70 ?_
        refine A.iret d_af_chain_71 rfl ?_
        exact h0 (fun j r1 r2 => c ⟨j, r1, r2⟩)
  refine A.aload_k 0 rfl rfl rfl d_af_chain_0 ?_
  refine A.iload_k 1 rfl rfl d_af_chain_1 ?_
  refine A.callV1 s_af_106 ?_ (Nat.le_of_ble_eq_true rfl) (Nat.le_of_ble_eq_true rfl) (Nat.le_of_ble_eq_true rfl) d_af_chain_2 rfl (c_af_plotAt hC hw.2.1 (fun p hp hx => ?_) (fun q0 => ?_))
  · apply Exists.intro
    repeat first | assumption | exact up_s | refine up_e (by first | decide | omega) ?_
  · dsimp only [psh]
    refine A.astore (Nat.le_of_ble_eq_true rfl) rfl rfl d_af_chain_5 ?_
    dsimp only [List.set]
    refine A.aload rfl rfl d_af_chain_7 ?_
    refine A.ifnonnull_r 14 (by decide) d_af_chain_9 ?_
    refine main p hp (fun j r1 r2 => ?_) (fun r3 => ?_)
    · obtain ⟨g, l, l1, l2, l3⟩ := zM_lt hw r1
      exact h1 p j l hp hx l1 l2 l3 r2 g
    · exact h0 (fun p' j l e1 e2 e3 e4 e5 e6 => Decidable.byContradiction (fun g => by
        have e7 : p' = p := nI_inj (by omega) (by omega) (e2.symm.trans hx)
        subst e7
        exact r3 j (by rw [zM_of g e3 e4]; omega) e6))
  · dsimp only [psh]
    refine A.astore (Nat.le_of_ble_eq_true rfl) rfl rfl d_af_chain_5 ?_
    dsimp only [List.set]
    refine A.aload rfl rfl d_af_chain_7 ?_
    refine A.ifnonnull_0 d_af_chain_9 ?_
    refine A.iconst (v := -1) rfl d_af_chain_12 ?_
    refine A.iret d_af_chain_13 rfl ?_
    exact h0 (fun p j l e1 e2 => absurd e2 (q0 p e1))
end AF3
