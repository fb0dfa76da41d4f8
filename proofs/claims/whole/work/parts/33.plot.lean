/-! plots, walls -/
section PLOT
variable {G : AHp} {kc ks : Nat} {Q : Option Value → AHp → Prop}
theorem c_pl_yearlyWorth {a : Nat} {x y : Int32} {fs : List Value} (ha : G a = some (oB 5 (.int x :: .int y :: fs))) (h : Q (some (.int (x * y / 20))) G) : A 0 M_pl_yearlyWorth 0 [some (.ref a)] [] G kc ks Q := by
  refine A.aload_k 0 rfl rfl rfl d_pl_yearlyWorth_0 ?_
  apply A.getfield f_pl_31 d_pl_yearlyWorth_1
  · repeat first | assumption | exact up_s | refine up_e (by first | decide | omega) ?_
  · rfl
  refine A.aload_k 0 rfl rfl rfl d_pl_yearlyWorth_4 ?_
  apply A.getfield f_pl_34 d_pl_yearlyWorth_5
  · repeat first | assumption | exact up_s | refine up_e (by first | decide | omega) ?_
  · rfl
  refine A.imul d_pl_yearlyWorth_8 ?_
  refine A.bipush (v := 20) rfl d_pl_yearlyWorth_9 ?_
  refine A.idiv (by decide) d_pl_yearlyWorth_11 ?_
  refine A.iret d_pl_yearlyWorth_12 rfl ?_
  exact h
theorem c_pl_isThere {a : Nat} {x : Int32} {u v : Value} {fs : List Value} (ha : G a = some (oB 5 (u :: v :: .int x :: fs))) (h1 : (x = 0 ∨ x = 1) → Q (some (.int 1)) G) (h0 : ¬ (x = 0 ∨ x = 1) → Q (some (.int 0)) G) : A 0 M_pl_isThere 0 [some (.ref a)] [] G kc ks Q := by
  refine A.aload_k 0 rfl rfl rfl d_pl_isThere_0 ?_
  apply A.getfield f_pl_9 d_pl_isThere_1
  · repeat first | assumption | exact up_s | refine up_e (by first | decide | omega) ?_
  · rfl
  refine A.if_eq 15 (by decide) d_pl_isThere_4 (fun c4 => ?_) (fun c4 => ?_)
  · refine A.iconst (v := 1) rfl d_pl_isThere_15 ?_
    refine A.goto 20 (by decide) d_pl_isThere_16 ?_
    refine A.zret d_pl_isThere_20 rfl (Or.inr rfl) ?_
    first | exact h1 (Or.inl c4) | exact h1 (Or.inr c12) | exact h0 (fun q => q.elim c4 c12)
  · refine A.aload_k 0 rfl rfl rfl d_pl_isThere_7 ?_
    apply A.getfield f_pl_9 d_pl_isThere_8
    · repeat first | assumption | exact up_s | refine up_e (by first | decide | omega) ?_
    · rfl
    refine A.iconst (v := 1) rfl d_pl_isThere_11 ?_
    refine A.icmp_ne 19 (by decide) d_pl_isThere_12 (fun c12 => ?_) (fun c12 => ?_)
    · refine A.iconst (v := 0) rfl d_pl_isThere_19 ?_
      refine A.zret d_pl_isThere_20 rfl (Or.inl rfl) ?_
      first | exact h1 (Or.inl c4) | exact h1 (Or.inr c12) | exact h0 (fun q => q.elim c4 c12)
    · refine A.iconst (v := 1) rfl d_pl_isThere_15 ?_
      refine A.goto 20 (by decide) d_pl_isThere_16 ?_
      refine A.zret d_pl_isThere_20 rfl (Or.inr rfl) ?_
      first | exact h1 (Or.inl c4) | exact h1 (Or.inr c12) | exact h0 (fun q => q.elim c4 c12)
theorem c_pl_raise {a : Nat} {x y : Int32} {u0 u1 u2 u3 u4 u5 : Value} {fs : List Value} (ha : G a = some (oB 5 (u0 :: u1 :: u2 :: u3 :: u4 :: u5 :: fs))) (h : Q none (up G a (oB 5 (u0 :: u1 :: .int 1 :: u3 :: .int x :: .int y :: fs)))) : A 0 M_pl_raise 0 [some (.ref a), some (.int x), some (.int y)] [] G kc ks Q := by
  have l2 : 2 < (u0 :: u1 :: u2 :: u3 :: u4 :: u5 :: fs).length := by simp only [List.length_cons]; omega
  refine A.aload_k 0 rfl rfl rfl d_pl_raise_0 ?_
  refine A.iconst (v := 1) rfl d_pl_raise_1 ?_
  apply A.putfield p_pl_9 d_pl_raise_2
  · first | exact up_s | exact ha
  · exact (Nat.le_of_ble_eq_true rfl)
  · rfl
  dsimp only [List.set]
  refine A.aload_k 0 rfl rfl rfl d_pl_raise_5 ?_
  refine A.iload_k 1 rfl rfl d_pl_raise_6 ?_
  apply A.putfield p_pl_15 d_pl_raise_7
  · first | exact up_s | exact ha
  · exact (Nat.le_of_ble_eq_true rfl)
  · rfl
  dsimp only [List.set]
  refine A.aload_k 0 rfl rfl rfl d_pl_raise_10 ?_
  refine A.iload_k 2 rfl rfl d_pl_raise_11 ?_
  apply A.putfield p_pl_18 d_pl_raise_12
  · first | exact up_s | exact ha
  · exact (Nat.le_of_ble_eq_true rfl)
  · rfl
  dsimp only [List.set]
  refine A.vret d_pl_raise_15 rfl ?_
  rw [up_up, up_up]
  exact h
theorem c_pl_lose {a c : Nat} {x : Int32} {u0 u1 u2 z0 z1 z2 z3 : Value} {fs : List Value} (ha : G a = some (oB 5 (u0 :: u1 :: u2 :: .ref c :: fs))) (hc : G c = some (oB 3 [z0, z1, z2, z3])) (h : Q none (up (up G a (oB 5 (u0 :: u1 :: .int x :: .ref c :: fs))) c (oB 3 [z0, z1, z2, .int 0]))) : A 1 M_pl_lose 0 [some (.ref a), some (.int x)] [] G kc ks Q := by
  have hd : c ≠ a := fun q => by subst q; rw [ha] at hc; cases hc
  refine A.aload_k 0 rfl rfl rfl d_pl_lose_0 ?_
  refine A.iload_k 1 rfl rfl d_pl_lose_1 ?_
  apply A.putfield p_pl_9 d_pl_lose_2
  · first | exact up_s | exact ha | exact up_e hd hc
  · exact (Nat.le_of_ble_eq_true rfl)
  · rfl
  dsimp only [List.set]
  refine A.aload_k 0 rfl rfl rfl d_pl_lose_5 ?_
  apply A.getfield f_pl_42 d_pl_lose_6
  · first | exact up_s | exact ha | exact up_e hd hc
  · rfl
  refine A.callV0 s_pl_46 ?_ (Nat.le_of_ble_eq_true rfl) (Nat.le_of_ble_eq_true rfl) (Nat.le_of_ble_eq_true rfl) d_pl_lose_9 rfl (c_ch_end (by first | exact up_s | exact ha | exact up_e hd hc) ?_)
  · apply Exists.intro
    first | exact up_s | exact ha | exact up_e hd hc
  dsimp only [psh]
  refine A.vret d_pl_lose_12 rfl ?_
  exact h
theorem c_wl_isPaid {a : Nat} {x : Int32} {u v w : Value} (ha : G a = some (oB 9 [u, v, w, .int x])) (h1 : ¬ x = -1 → Q (some (.int 1)) G) (h0 : x = -1 → Q (some (.int 0)) G) : A 0 M_wl_isPaid 0 [some (.ref a)] [] G kc ks Q := by
  refine A.aload_k 0 rfl rfl rfl d_wl_isPaid_0 ?_
  apply A.getfield f_wl_15 d_wl_isPaid_1
  · repeat first | assumption | exact up_s | refine up_e (by first | decide | omega) ?_
  · rfl
  refine A.iconst (v := -1) rfl d_wl_isPaid_4 ?_
  refine A.icmp_eq 12 (by decide) d_wl_isPaid_5 (fun c5 => ?_) (fun c5 => ?_)
  · refine A.iconst (v := 0) rfl d_wl_isPaid_12 ?_
    refine A.zret d_wl_isPaid_13 rfl (Or.inl rfl) ?_
    first | exact h1 c5 | exact h0 c5
  · refine A.iconst (v := 1) rfl d_wl_isPaid_8 ?_
    refine A.goto 13 (by decide) d_wl_isPaid_9 ?_
    refine A.zret d_wl_isPaid_13 rfl (Or.inr rfl) ?_
    first | exact h1 c5 | exact h0 c5
theorem c_wl_hasBothSides {a b c : Nat} {x y : Int32} {w z u v u' v' : Value} {fs fs' : List Value} (ha : G a = some (oB 9 [.ref b, .ref c, w, z])) (hb : G b = some (oB 5 (u :: v :: .int x :: fs))) (hc : G c = some (oB 5 (u' :: v' :: .int y :: fs'))) (h1 : (x = 0 ∨ x = 1) → (y = 0 ∨ y = 1) → Q (some (.int 1)) G) (h0 : ¬ ((x = 0 ∨ x = 1) ∧ (y = 0 ∨ y = 1)) → Q (some (.int 0)) G) : A 1 M_wl_hasBothSides 0 [some (.ref a)] [] G kc ks Q := by
  refine A.aload_k 0 rfl rfl rfl d_wl_hasBothSides_0 ?_
  apply A.getfield f_wl_18 d_wl_hasBothSides_1
  · repeat first | assumption | exact up_s | refine up_e (by first | decide | omega) ?_
  · rfl
  refine A.callV0 s_wl_25 ?_ (Nat.le_of_ble_eq_true rfl) (Nat.le_of_ble_eq_true rfl) (Nat.le_of_ble_eq_true rfl) d_wl_hasBothSides_4 rfl (c_pl_isThere hb (fun t1 => ?_) (fun t0 => ?_))
  · apply Exists.intro
    repeat first | assumption | exact up_s | refine up_e (by first | decide | omega) ?_
  · dsimp only [psh]
    refine A.if_eq1 d_wl_hasBothSides_7 (tgt := 24) (by decide) ?_
    refine A.aload_k 0 rfl rfl rfl d_wl_hasBothSides_10 ?_
    apply A.getfield f_wl_22 d_wl_hasBothSides_11
    · repeat first | assumption | exact up_s | refine up_e (by first | decide | omega) ?_
    · rfl
    refine A.callV0 s_wl_25 ?_ (Nat.le_of_ble_eq_true rfl) (Nat.le_of_ble_eq_true rfl) (Nat.le_of_ble_eq_true rfl) d_wl_hasBothSides_14 rfl (c_pl_isThere hc (fun s1 => ?_) (fun s0 => ?_))
    · apply Exists.intro
      repeat first | assumption | exact up_s | refine up_e (by first | decide | omega) ?_
    · dsimp only [psh]
      refine A.if_eq1 d_wl_hasBothSides_17 (tgt := 24) (by decide) ?_
      refine A.iconst (v := 1) rfl d_wl_hasBothSides_20 ?_
      refine A.goto 25 (by decide) d_wl_hasBothSides_21 ?_
      refine A.zret d_wl_hasBothSides_25 rfl (Or.inr rfl) ?_
      first | exact h1 t1 s1 | exact h0 (fun q => t0 q.1) | exact h0 (fun q => s0 q.2)
    · dsimp only [psh]
      refine A.if_eq0 24 (by decide) d_wl_hasBothSides_17 ?_
      refine A.iconst (v := 0) rfl d_wl_hasBothSides_24 ?_
      refine A.zret d_wl_hasBothSides_25 rfl (Or.inl rfl) ?_
      first | exact h1 t1 s1 | exact h0 (fun q => t0 q.1) | exact h0 (fun q => s0 q.2)
  · dsimp only [psh]
    refine A.if_eq0 24 (by decide) d_wl_hasBothSides_7 ?_
    refine A.iconst (v := 0) rfl d_wl_hasBothSides_24 ?_
    refine A.zret d_wl_hasBothSides_25 rfl (Or.inl rfl) ?_
    first | exact h1 t1 s1 | exact h0 (fun q => t0 q.1) | exact h0 (fun q => s0 q.2)
theorem c_wl_lesserDepth {a b c : Nat} {x y : Int32} {w z u u' : Value} {fs fs' : List Value} (ha : G a = some (oB 9 [.ref b, .ref c, w, z])) (hb : G b = some (oB 5 (u :: .int x :: fs))) (hc : G c = some (oB 5 (u' :: .int y :: fs'))) (h : Q (some (.int (if y < x then y else x))) G) : A 1 M_wl_lesserDepth 0 [some (.ref a)] [] G kc ks Q := by
  refine A.aload_k 0 rfl rfl rfl d_wl_lesserDepth_0 ?_
  apply A.getfield f_wl_18 d_wl_lesserDepth_1
  · exact ha
  · rfl
  apply A.getfield f_wl_31 d_wl_lesserDepth_4
  · exact hb
  · rfl
  refine A.aload_k 0 rfl rfl rfl d_wl_lesserDepth_7 ?_
  apply A.getfield f_wl_22 d_wl_lesserDepth_8
  · exact ha
  · rfl
  apply A.getfield f_wl_31 d_wl_lesserDepth_11
  · exact hc
  · rfl
  refine A.min d_wl_lesserDepth_14 s_wl_34 (Nat.le_of_ble_eq_true rfl) (Nat.le_of_ble_eq_true rfl) ?_
  refine A.iret d_wl_lesserDepth_17 rfl ?_
  exact h
theorem c_wl_init {a b c : Nat} (ha : G a = some (oB 9 [.null, .null, .int 0, .int 0])) (h : Q none (up G a (oB 9 [.ref b, .ref c, .int 0, .int (-1)]))) : A 1 M_wl_init 0 [some (.ref a), some (.ref b), some (.ref c)] [] G kc ks Q := by
  refine A.aload_k 0 rfl rfl rfl d_wl_init_0 ?_
  refine A.objInit d_wl_init_1 o_wl_3 (Nat.le_of_ble_eq_true rfl) (Nat.le_of_ble_eq_true rfl) ?_
  refine A.aload_k 0 rfl rfl rfl d_wl_init_4 ?_
  refine A.iconst (v := 0) rfl d_wl_init_5 ?_
  apply A.putfield p_wl_9 d_wl_init_6
  · first | exact up_s | exact ha
  · exact (Nat.le_of_ble_eq_true rfl)
  · rfl
  dsimp only [List.set]
  refine A.aload_k 0 rfl rfl rfl d_wl_init_9 ?_
  refine A.iconst (v := -1) rfl d_wl_init_10 ?_
  apply A.putfield p_wl_15 d_wl_init_11
  · first | exact up_s | exact ha
  · exact (Nat.le_of_ble_eq_true rfl)
  · rfl
  dsimp only [List.set]
  refine A.aload_k 0 rfl rfl rfl d_wl_init_14 ?_
  refine A.aload_k 1 rfl rfl rfl d_wl_init_15 ?_
  apply A.putfin q_wl_18 rfl d_wl_init_16
  · first | exact up_s | exact ha
  · exact (Nat.le_of_ble_eq_true rfl)
  · rfl
  dsimp only [List.set]
  refine A.aload_k 0 rfl rfl rfl d_wl_init_19 ?_
  refine A.aload_k 2 rfl rfl rfl d_wl_init_20 ?_
  apply A.putfin q_wl_22 rfl d_wl_init_21
  · first | exact up_s | exact ha
  · exact (Nat.le_of_ble_eq_true rfl)
  · rfl
  dsimp only [List.set]
  refine A.vret d_wl_init_24 rfl ?_
  rw [up_up, up_up, up_up]
  exact h
/-- how many walls of a plot are paid: the one ahead (its payer), the one behind -/
def pdW (o : Option Int32) : Int32 := match o with
  | none => 0
  | some x => if x = -1 then 0 else 1
def wV (o : Option (Nat × Int32)) : Value := match o with
  | none => .null
  | some p => .ref p.1
def wH (G : AHp) (o : Option (Nat × Int32)) : Prop := ∀ w x, o = some (w, x) → ∃ u v z, G w = some (oB 9 [u, v, z, .int x])
theorem c_pl_paidWalls {a : Nat} {o o' : Option (Nat × Int32)} {u0 u1 u2 u3 u4 u5 u6 : Value} (ha : G a = some (oB 5 [u0, u1, u2, u3, u4, u5, u6, wV o, wV o'])) (ho : wH G o) (ho' : wH G o') (h : Q (some (.int (pdW (o.map Prod.snd) + pdW (o'.map Prod.snd)))) G) : A 1 M_pl_paidWalls 0 [some (.ref a), none] [] G kc ks Q := by
  have second : ∀ k : Int32, k = pdW (o.map Prod.snd) → A 1 M_pl_paidWalls 22 [some (.ref a), some (.int k)] [] G kc ks Q := by
    intro k hk
    subst hk
    match o', ha, ho', h with
    | none, ha, ho', h =>
      have e : pdW ((none : Option (Nat × Int32)).map Prod.snd) = 0 := rfl
      rw [e, Int32.add_zero] at h
      refine A.aload_k 0 rfl rfl rfl d_pl_paidWalls_22 ?_
      apply A.getfield f_pl_28 d_pl_paidWalls_23
      · repeat first | assumption | exact up_s | refine up_e (by first | decide | omega) ?_
      · rfl
      refine A.ifnull_0 42 (by decide) d_pl_paidWalls_26 ?_
      refine A.iload_k 1 rfl rfl d_pl_paidWalls_42 ?_
      refine A.iret d_pl_paidWalls_43 rfl ?_
      exact h
    | some (w, x), ha, ho', h =>
      obtain ⟨u, v, z, hw⟩ := ho' w x rfl
      have e : pdW ((some (w, x)).map Prod.snd) = if x = -1 then 0 else 1 := rfl
      rw [e] at h
      refine A.aload_k 0 rfl rfl rfl d_pl_paidWalls_22 ?_
      apply A.getfield f_pl_28 d_pl_paidWalls_23
      · first | exact ha | exact hw
      · rfl
      refine A.ifnull_r d_pl_paidWalls_26 ?_
      refine A.aload_k 0 rfl rfl rfl d_pl_paidWalls_29 ?_
      apply A.getfield f_pl_28 d_pl_paidWalls_30
      · first | exact ha | exact hw
      · rfl
      refine A.callV0 s_pl_49 ?_ (Nat.le_of_ble_eq_true rfl) (Nat.le_of_ble_eq_true rfl) (Nat.le_of_ble_eq_true rfl) d_pl_paidWalls_33 rfl (c_wl_isPaid (by first | exact ha | exact hw) (fun t1 => ?_) (fun t0 => ?_))
      · apply Exists.intro
        first | exact ha | exact hw
      · dsimp only [psh]
        refine A.if_eq1 d_pl_paidWalls_36 (tgt := 42) (by decide) ?_
        refine A.iincp (n := 1) rfl (Nat.le_of_ble_eq_true rfl) d_pl_paidWalls_39 ?_
        dsimp only [List.set]
        refine A.iload_k 1 rfl rfl d_pl_paidWalls_42 ?_
        refine A.iret d_pl_paidWalls_43 rfl ?_
        first | (rw [if_pos t0, Int32.add_zero] at h; exact h) | (rw [if_neg t1] at h; exact h)
      · dsimp only [psh]
        refine A.if_eq0 42 (by decide) d_pl_paidWalls_36 ?_
        refine A.iload_k 1 rfl rfl d_pl_paidWalls_42 ?_
        refine A.iret d_pl_paidWalls_43 rfl ?_
        first | (rw [if_pos t0, Int32.add_zero] at h; exact h) | (rw [if_neg t1] at h; exact h)
  match o, ha, ho, second with
  | none, ha, ho, second =>
    skip
    refine A.iconst (v := 0) rfl d_pl_paidWalls_0 ?_
    refine A.istore_k 1 rfl (Nat.le_of_ble_eq_true rfl) rfl d_pl_paidWalls_1 ?_
    dsimp only [List.set]
    refine A.aload_k 0 rfl rfl rfl d_pl_paidWalls_2 ?_
    apply A.getfield f_pl_24 d_pl_paidWalls_3
    · repeat first | assumption | exact up_s | refine up_e (by first | decide | omega) ?_
    · rfl
    refine A.ifnull_0 22 (by decide) d_pl_paidWalls_6 ?_
    exact second 0 rfl
  | some (w, x), ha, ho, second =>
    obtain ⟨u, v, z, hw⟩ := ho w x rfl
    have e : pdW ((some (w, x)).map Prod.snd) = if x = -1 then 0 else 1 := rfl
    rw [e] at second
    refine A.iconst (v := 0) rfl d_pl_paidWalls_0 ?_
    refine A.istore_k 1 rfl (Nat.le_of_ble_eq_true rfl) rfl d_pl_paidWalls_1 ?_
    dsimp only [List.set]
    refine A.aload_k 0 rfl rfl rfl d_pl_paidWalls_2 ?_
    apply A.getfield f_pl_24 d_pl_paidWalls_3
    · first | exact ha | exact hw
    · rfl
    refine A.ifnull_r d_pl_paidWalls_6 ?_
    refine A.aload_k 0 rfl rfl rfl d_pl_paidWalls_9 ?_
    apply A.getfield f_pl_24 d_pl_paidWalls_10
    · first | exact ha | exact hw
    · rfl
    refine A.callV0 s_pl_49 ?_ (Nat.le_of_ble_eq_true rfl) (Nat.le_of_ble_eq_true rfl) (Nat.le_of_ble_eq_true rfl) d_pl_paidWalls_13 rfl (c_wl_isPaid (by first | exact ha | exact hw) (fun t1 => ?_) (fun t0 => ?_))
    · apply Exists.intro
      first | exact ha | exact hw
    · dsimp only [psh]
      refine A.if_eq1 d_pl_paidWalls_16 (tgt := 22) (by decide) ?_
      refine A.iincp (n := 1) rfl (Nat.le_of_ble_eq_true rfl) d_pl_paidWalls_19 ?_
      dsimp only [List.set]
      first | (rw [if_pos t0] at second; exact second _ rfl) | (rw [if_neg t1] at second; exact second _ rfl)
    · dsimp only [psh]
      refine A.if_eq0 22 (by decide) d_pl_paidWalls_16 ?_
      first | (rw [if_pos t0] at second; exact second _ rfl) | (rw [if_neg t1] at second; exact second _ rfl)
/-- a new plot at P -/
theorem c_pl_init {P : Nat} {x y w : Int32} (hP : 16 ≤ P) (ha : G P = some (oB 5 [.int 0, .int 0, .int 0, .null, .int 0, .int 0, .int 0, .null, .null])) (h1 : G (P + 1) = none) (h2 : G (P + 2) = none) (h3 : G (P + 3) = none) (h4 : G (P + 4) = none) (h : ∀ G', G' P = some (oB 5 [.int x, .int y, .int 0, .ref (P + 1), .int (-1), .int (-1), .int (-1), .null, .null]) → ChI G' P w → (∀ x, (x < P ∨ P + 4 < x) → G' x = G x) → Q none G') : A 2 M_pl_init 0 [some (.ref P), some (.int x), some (.int y), some (.int w)] [] G 4 16 Q := by
  refine A.aload_k 0 rfl rfl rfl d_pl_init_0 ?_
  refine A.objInit d_pl_init_1 o_pl_3 (Nat.le_of_ble_eq_true rfl) (Nat.le_of_ble_eq_true rfl) ?_
  refine A.aload_k 0 rfl rfl rfl d_pl_init_4 ?_
  refine A.iconst (v := 0) rfl d_pl_init_5 ?_
  apply A.putfield p_pl_9 d_pl_init_6
  · first | exact up_s | exact ha
  · exact (Nat.le_of_ble_eq_true rfl)
  · rfl
  dsimp only [List.set]
  refine A.aload_k 0 rfl rfl rfl d_pl_init_9 ?_
  refine A.iconst (v := -1) rfl d_pl_init_10 ?_
  apply A.putfield p_pl_15 d_pl_init_11
  · first | exact up_s | exact ha
  · exact (Nat.le_of_ble_eq_true rfl)
  · rfl
  dsimp only [List.set]
  refine A.aload_k 0 rfl rfl rfl d_pl_init_14 ?_
  refine A.iconst (v := -1) rfl d_pl_init_15 ?_
  apply A.putfield p_pl_18 d_pl_init_16
  · first | exact up_s | exact ha
  · exact (Nat.le_of_ble_eq_true rfl)
  · rfl
  dsimp only [List.set]
  refine A.aload_k 0 rfl rfl rfl d_pl_init_19 ?_
  refine A.iconst (v := -1) rfl d_pl_init_20 ?_
  apply A.putfield p_pl_21 d_pl_init_21
  · first | exact up_s | exact ha
  · exact (Nat.le_of_ble_eq_true rfl)
  · rfl
  dsimp only [List.set]
  refine A.aload_k 0 rfl rfl rfl d_pl_init_24 ?_
  refine A.null d_pl_init_25 ?_
  apply A.putfield p_pl_24 d_pl_init_26
  · first | exact up_s | exact ha
  · exact (Nat.le_of_ble_eq_true rfl)
  · rfl
  dsimp only [List.set]
  refine A.aload_k 0 rfl rfl rfl d_pl_init_29 ?_
  refine A.null d_pl_init_30 ?_
  apply A.putfield p_pl_28 d_pl_init_31
  · first | exact up_s | exact ha
  · exact (Nat.le_of_ble_eq_true rfl)
  · rfl
  dsimp only [List.set]
  refine A.aload_k 0 rfl rfl rfl d_pl_init_34 ?_
  refine A.iload_k 1 rfl rfl d_pl_init_35 ?_
  apply A.putfin q_pl_31 rfl d_pl_init_36
  · first | exact up_s | exact ha
  · exact (Nat.le_of_ble_eq_true rfl)
  · rfl
  dsimp only [List.set]
  refine A.aload_k 0 rfl rfl rfl d_pl_init_39 ?_
  refine A.iload_k 2 rfl rfl d_pl_init_40 ?_
  apply A.putfield p_pl_34 d_pl_init_41
  · first | exact up_s | exact ha
  · exact (Nat.le_of_ble_eq_true rfl)
  · rfl
  dsimp only [List.set]
  refine A.aload_k 0 rfl rfl rfl d_pl_init_44 ?_
  refine A.new (a := P + 1) n_pl_37 d_pl_init_45 (by first | decide | omega) (by repeat first | assumption | refine up_e (by first | decide | omega) ?_) (kc' := 3) (ks' := 12) (Nat.le_of_ble_eq_true rfl) (Nat.le_of_ble_eq_true rfl) ?_
  refine A.dup rfl d_pl_init_48 ?_
  refine A.iload_k 3 rfl rfl d_pl_init_49 ?_
  refine A.callIa1 s_pl_39 (Nat.le_of_ble_eq_true rfl) (Nat.le_of_ble_eq_true rfl) (Nat.le_of_ble_eq_true rfl) d_pl_init_50 (kc1 := 3) (ks1 := 12) (kc2 := 0) (ks2 := 0) (Nat.le_of_ble_eq_true rfl) (Nat.le_of_ble_eq_true rfl) rfl (c_ch_init hP up_s (by repeat first | assumption | refine up_e (by omega) ?_) (by repeat first | assumption | refine up_e (by omega) ?_) (by repeat first | assumption | refine up_e (by omega) ?_) (fun G' g1 g2 => ?_))
  dsimp only [psh]
  apply A.putfin q_pl_42 rfl d_pl_init_53
  · exact (g2 P (by omega)).trans (up_e (by omega) up_s)
  · exact (Nat.le_of_ble_eq_true rfl)
  · rfl
  dsimp only [List.set]
  refine A.vret d_pl_init_56 rfl ?_
  refine h _ up_s ⟨?_, ?_, ?_, ?_⟩ (fun x hx => ?_)
  · exact up_e (by omega) g1.1
  · exact up_e (by omega) g1.2.1
  · exact up_e (by omega) g1.2.2.1
  · exact up_e (by omega) g1.2.2.2
  · rw [up_n (by omega), g2 x (by omega)]
    repeat first | rfl | refine up_e (by omega) ?_
end PLOT
