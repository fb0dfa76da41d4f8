/-! chains of holders -/
section CHAIN
variable {G : AHp} {kc ks : Nat} {Q : Option Value → AHp → Prop}
theorem nI_1s {z : Nat} (h : 1 ≤ z) (h2 : z < 1000000) : nI z - 1 = nI (z - 1) := by
  obtain ⟨k, rfl⟩ : ∃ k, z = k + 1 := ⟨z - 1, by omega⟩
  exact nI_pred k
theorem c_ch_reaches {a z : Nat} {x : Int32} {u v w : Value} (ha : G a = some (oB 3 [u, v, w, .int (nI z)])) (hz : z ≤ 4) (h1 : ∀ j, j < z → x = nI j → Q (some (.int 1)) G) (h0 : (∀ j, j < z → x ≠ nI j) → Q (some (.int 0)) G) : A 1 M_ch_reaches 0 [some (.ref a), some (.int x)] [] G kc ks Q := by
  refine A.iload_k 1 rfl rfl d_ch_reaches_0 ?_
  refine A.iconst (v := 0) rfl d_ch_reaches_1 ?_
  refine A.aload_k 0 rfl rfl rfl d_ch_reaches_2 ?_
  apply A.getfield f_ch_21 d_ch_reaches_3
  · repeat first | assumption | exact up_s | refine up_e (by first | decide | omega) ?_
  · rfl
  refine A.iconst (v := 1) rfl d_ch_reaches_6 ?_
  refine A.isub d_ch_reaches_7 ?_
  refine A.callS3 s_ch_25 (Nat.le_of_ble_eq_true rfl) (Nat.le_of_ble_eq_true rfl) (Nat.le_of_ble_eq_true rfl) d_ch_reaches_8 rfl (c_af_within (fun i1 i2 => ?_) (fun i3 => ?_))
  · dsimp only [psh]
    refine A.zret d_ch_reaches_11 rfl (Or.inr rfl) ?_
    first | (obtain ⟨q, e1, e2⟩ := in_np (by omega) i1 i2; exact h1 q e1 e2) | exact h0 (nin_np (by omega) i3)
  · dsimp only [psh]
    refine A.zret d_ch_reaches_11 rfl (Or.inl rfl) ?_
    first | (obtain ⟨q, e1, e2⟩ := in_np (by omega) i1 i2; exact h1 q e1 e2) | exact h0 (nin_np (by omega) i3)
theorem c_ch_personAt {a b z : Nat} {x : Int32} {v w : Value} {f : Nat → Int32} (ha : G a = some (oB 3 [.ref b, v, w, .int (nI z)])) (hb : G b = some (aI 4 f)) (hz : z ≤ 4) (h1 : ∀ j, j < z → x = nI j → Q (some (.int (f j))) G) (h0 : (∀ j, j < z → x ≠ nI j) → Q (some (.int (-1))) G) : A 2 M_ch_personAt 0 [some (.ref a), some (.int x)] [] G kc ks Q := by
  refine A.aload_k 0 rfl rfl rfl d_ch_personAt_0 ?_
  refine A.iload_k 1 rfl rfl d_ch_personAt_1 ?_
  refine A.callV1 s_ch_29 ?_ (Nat.le_of_ble_eq_true rfl) (Nat.le_of_ble_eq_true rfl) (Nat.le_of_ble_eq_true rfl) d_ch_personAt_2 rfl (c_ch_reaches (by repeat first | assumption | exact up_s | refine up_e (by first | decide | omega) ?_) hz (fun j r1 r2 => ?_) (fun r3 => ?_))
  · apply Exists.intro
    repeat first | assumption | exact up_s | refine up_e (by first | decide | omega) ?_
  · dsimp only [psh]
    refine A.if_eq1 d_ch_personAt_5 (tgt := 17) (by decide) ?_
    refine A.aload_k 0 rfl rfl rfl d_ch_personAt_8 ?_
    apply A.getfield f_ch_9 d_ch_personAt_9
    · repeat first | assumption | exact up_s | refine up_e (by first | decide | omega) ?_
    · rfl
    refine A.iload_k 1 rfl rfl d_ch_personAt_12 ?_
    apply A.iaload (j := j) d_ch_personAt_13
    · repeat first | assumption | exact up_s | refine up_e (by first | decide | omega) ?_
    · rw [r2]; exact ixn (by omega)
    · omega
    refine A.goto 18 (by decide) d_ch_personAt_14 ?_
    refine A.iret d_ch_personAt_18 rfl ?_
    first | exact h1 j r1 r2 | exact h0 r3
  · dsimp only [psh]
    refine A.if_eq0 17 (by decide) d_ch_personAt_5 ?_
    refine A.iconst (v := -1) rfl d_ch_personAt_17 ?_
    refine A.iret d_ch_personAt_18 rfl ?_
    first | exact h1 j r1 r2 | exact h0 r3
theorem c_ch_yearsAt {a b z : Nat} {x : Int32} {v w : Value} {f : Nat → Int32} (ha : G a = some (oB 3 [v, .ref b, w, .int (nI z)])) (hb : G b = some (aI 4 f)) (hz : z ≤ 4) (h1 : ∀ j, j < z → x = nI j → Q (some (.int (f j))) G) (h0 : (∀ j, j < z → x ≠ nI j) → Q (some (.int (-1))) G) : A 2 M_ch_yearsAt 0 [some (.ref a), some (.int x)] [] G kc ks Q := by
  refine A.aload_k 0 rfl rfl rfl d_ch_yearsAt_0 ?_
  refine A.iload_k 1 rfl rfl d_ch_yearsAt_1 ?_
  refine A.callV1 s_ch_29 ?_ (Nat.le_of_ble_eq_true rfl) (Nat.le_of_ble_eq_true rfl) (Nat.le_of_ble_eq_true rfl) d_ch_yearsAt_2 rfl (c_ch_reaches (by repeat first | assumption | exact up_s | refine up_e (by first | decide | omega) ?_) hz (fun j r1 r2 => ?_) (fun r3 => ?_))
  · apply Exists.intro
    repeat first | assumption | exact up_s | refine up_e (by first | decide | omega) ?_
  · dsimp only [psh]
    refine A.if_eq1 d_ch_yearsAt_5 (tgt := 17) (by decide) ?_
    refine A.aload_k 0 rfl rfl rfl d_ch_yearsAt_8 ?_
    apply A.getfield f_ch_15 d_ch_yearsAt_9
    · repeat first | assumption | exact up_s | refine up_e (by first | decide | omega) ?_
    · rfl
    refine A.iload_k 1 rfl rfl d_ch_yearsAt_12 ?_
    apply A.iaload (j := j) d_ch_yearsAt_13
    · repeat first | assumption | exact up_s | refine up_e (by first | decide | omega) ?_
    · rw [r2]; exact ixn (by omega)
    · omega
    refine A.goto 18 (by decide) d_ch_yearsAt_14 ?_
    refine A.iret d_ch_yearsAt_18 rfl ?_
    first | exact h1 j r1 r2 | exact h0 r3
  · dsimp only [psh]
    refine A.if_eq0 17 (by decide) d_ch_yearsAt_5 ?_
    refine A.iconst (v := -1) rfl d_ch_yearsAt_17 ?_
    refine A.iret d_ch_yearsAt_18 rfl ?_
    first | exact h1 j r1 r2 | exact h0 r3
theorem c_ch_rentAt {a b z : Nat} {x : Int32} {v w : Value} {f : Nat → Int32} (ha : G a = some (oB 3 [v, w, .ref b, .int (nI z)])) (hb : G b = some (aI 4 f)) (hz : z ≤ 4) (h1 : ∀ j, j < z → x = nI j → Q (some (.int (f j))) G) (h0 : (∀ j, j < z → x ≠ nI j) → Q (some (.int (-1))) G) : A 2 M_ch_rentAt 0 [some (.ref a), some (.int x)] [] G kc ks Q := by
  refine A.aload_k 0 rfl rfl rfl d_ch_rentAt_0 ?_
  refine A.iload_k 1 rfl rfl d_ch_rentAt_1 ?_
  refine A.callV1 s_ch_29 ?_ (Nat.le_of_ble_eq_true rfl) (Nat.le_of_ble_eq_true rfl) (Nat.le_of_ble_eq_true rfl) d_ch_rentAt_2 rfl (c_ch_reaches (by repeat first | assumption | exact up_s | refine up_e (by first | decide | omega) ?_) hz (fun j r1 r2 => ?_) (fun r3 => ?_))
  · apply Exists.intro
    repeat first | assumption | exact up_s | refine up_e (by first | decide | omega) ?_
  · dsimp only [psh]
    refine A.if_eq1 d_ch_rentAt_5 (tgt := 17) (by decide) ?_
    refine A.aload_k 0 rfl rfl rfl d_ch_rentAt_8 ?_
    apply A.getfield f_ch_18 d_ch_rentAt_9
    · repeat first | assumption | exact up_s | refine up_e (by first | decide | omega) ?_
    · rfl
    refine A.iload_k 1 rfl rfl d_ch_rentAt_12 ?_
    apply A.iaload (j := j) d_ch_rentAt_13
    · repeat first | assumption | exact up_s | refine up_e (by first | decide | omega) ?_
    · rw [r2]; exact ixn (by omega)
    · omega
    refine A.goto 18 (by decide) d_ch_rentAt_14 ?_
    refine A.iret d_ch_rentAt_18 rfl ?_
    first | exact h1 j r1 r2 | exact h0 r3
  · dsimp only [psh]
    refine A.if_eq0 17 (by decide) d_ch_rentAt_5 ?_
    refine A.iconst (v := -1) rfl d_ch_rentAt_17 ?_
    refine A.iret d_ch_rentAt_18 rfl ?_
    first | exact h1 j r1 r2 | exact h0 r3
theorem max0_lt : ∀ z : Nat, z ≤ 4 → (if (0 : Int32) < nI z - 1 then nI z - 1 else 0) = nI (z - 1) := by
  intro z h
  match z, h with
  | 0, _ => rfl
  | 1, _ => rfl
  | 2, _ => rfl
  | 3, _ => rfl
  | 4, _ => rfl
theorem c_ch_leases {a z : Nat} {u v w : Value} (ha : G a = some (oB 3 [u, v, w, .int (nI z)])) (hz : z ≤ 4) (h : Q (some (.int (nI (z - 1)))) G) : A 1 M_ch_leases 0 [some (.ref a)] [] G kc ks Q := by
  refine A.iconst (v := 0) rfl d_ch_leases_0 ?_
  refine A.aload_k 0 rfl rfl rfl d_ch_leases_1 ?_
  apply A.getfield f_ch_21 d_ch_leases_2
  · repeat first | assumption | exact up_s | refine up_e (by first | decide | omega) ?_
  · rfl
  refine A.iconst (v := 1) rfl d_ch_leases_5 ?_
  refine A.isub d_ch_leases_6 ?_
  refine A.max d_ch_leases_7 s_ch_33 (Nat.le_of_ble_eq_true rfl) (Nat.le_of_ble_eq_true rfl) ?_
  refine A.iret d_ch_leases_10 rfl ?_
  rw [max0_lt z hz]; exact h
theorem c_ch_append {a pa ya ra z : Nat} {x y r : Int32} {P Y R : Nat → Int32} (ha : G a = some (oB 3 [.ref pa, .ref ya, .ref ra, .int (nI z)])) (hpa : G pa = some (aI 4 P)) (hya : G ya = some (aI 4 Y)) (hra : G ra = some (aI 4 R)) (hd : a ≠ pa ∧ a ≠ ya ∧ a ≠ ra ∧ pa ≠ ya ∧ pa ≠ ra ∧ ya ≠ ra) (hz : z ≤ 4) (hz1 : 1 ≤ z) (h16 : 16 ≤ pa ∧ 16 ≤ ya ∧ 16 ≤ ra)
    (h1 : z < 4 → 1 ≤ y → y ≤ Y (z - 1) → Q (some (.int 1)) (up (up (up (up G pa (aI 4 (upd P z x))) ya (aI 4 (upd Y z y))) ra (aI 4 (upd R z r))) a (oB 3 [.ref pa, .ref ya, .ref ra, .int (nI (z + 1))]))) (h0 : ¬ (z < 4 ∧ 1 ≤ y ∧ y ≤ Y (z - 1)) → Q (some (.int 0)) G) : A 3 M_ch_append 0 [some (.ref a), some (.int x), some (.int y), some (.int r)] [] G kc ks Q := by
  obtain ⟨d1, d2, d3, d4, d5, d6⟩ := hd
  have d4' := Ne.symm d4
  have d5' := Ne.symm d5
  have d6' := Ne.symm d6
  refine A.aload_k 0 rfl rfl rfl d_ch_append_0 ?_
  apply A.getfield f_ch_21 d_ch_append_1
  · repeat first | assumption | exact up_s | refine up_e (by assumption) ?_
  · rfl
  refine A.iconst (v := 4) rfl d_ch_append_4 ?_
  refine A.icmp_ge 26 (by decide) d_ch_append_5 (fun c5 => ?_) (fun c5 => ?_)
  · refine A.iconst (v := 0) rfl d_ch_append_26 ?_
    refine A.zret d_ch_append_27 rfl (Or.inl rfl) ?_
    first | exact h0 (fun q => absurd q.1 (by have := (nI_leI (a := 4) (by omega) (by omega)).mp c5; omega)) | exact h0 (fun q => i3 q.2)
  · refine A.iload_k 2 rfl rfl d_ch_append_8 ?_
    refine A.iconst (v := 1) rfl d_ch_append_9 ?_
    refine A.aload_k 0 rfl rfl rfl d_ch_append_10 ?_
    refine A.aload_k 0 rfl rfl rfl d_ch_append_11 ?_
    apply A.getfield f_ch_21 d_ch_append_12
    · repeat first | assumption | exact up_s | refine up_e (by assumption) ?_
    · rfl
    refine A.iconst (v := 1) rfl d_ch_append_15 ?_
    refine A.isub d_ch_append_16 ?_
    rw [nI_1s hz1 (by omega)]
    refine A.callV1 s_ch_39 ?_ (Nat.le_of_ble_eq_true rfl) (Nat.le_of_ble_eq_true rfl) (Nat.le_of_ble_eq_true rfl) d_ch_append_17 rfl (c_ch_yearsAt (by repeat first | assumption | exact up_s | refine up_e (by assumption) ?_) (by repeat first | assumption | exact up_s | refine up_e (by assumption) ?_) hz (fun j r1 r2 => ?_) (fun r3 => absurd rfl (r3 (z - 1) (by omega))))
    · apply Exists.intro
      repeat first | assumption | exact up_s | refine up_e (by assumption) ?_
    dsimp only [psh]
    have ej : z - 1 = j := nI_inj (by omega) (by omega) r2
    rw [← ej]
    refine A.callS3 s_ch_25 (Nat.le_of_ble_eq_true rfl) (Nat.le_of_ble_eq_true rfl) (Nat.le_of_ble_eq_true rfl) d_ch_append_20 rfl (c_af_within (fun i1 i2 => ?_) (fun i3 => ?_))
    · dsimp only [psh]
      refine A.if_ne1 28 (by decide) d_ch_append_23 ?_
      have hlt : z < 4 := Nat.lt_of_not_le (fun q => c5 (nI_le q (by omega)))
      refine A.aload_k 0 rfl rfl rfl d_ch_append_28 ?_
      apply A.getfield f_ch_9 d_ch_append_29
      · repeat first | assumption | exact up_s | refine up_e (by assumption) ?_
      · rfl
      refine A.aload_k 0 rfl rfl rfl d_ch_append_32 ?_
      apply A.getfield f_ch_21 d_ch_append_33
      · repeat first | assumption | exact up_s | refine up_e (by assumption) ?_
      · rfl
      refine A.iload_k 1 rfl rfl d_ch_append_36 ?_
      apply A.iastore (j := z) d_ch_append_37
      · repeat first | assumption | exact up_s | refine up_e (by assumption) ?_
      · first | decide | omega
      · exact ixn (by omega)
      · exact hlt
      refine A.aload_k 0 rfl rfl rfl d_ch_append_38 ?_
      apply A.getfield f_ch_15 d_ch_append_39
      · repeat first | assumption | exact up_s | refine up_e (by assumption) ?_
      · rfl
      refine A.aload_k 0 rfl rfl rfl d_ch_append_42 ?_
      apply A.getfield f_ch_21 d_ch_append_43
      · repeat first | assumption | exact up_s | refine up_e (by assumption) ?_
      · rfl
      refine A.iload_k 2 rfl rfl d_ch_append_46 ?_
      apply A.iastore (j := z) d_ch_append_47
      · repeat first | assumption | exact up_s | refine up_e (by assumption) ?_
      · first | decide | omega
      · exact ixn (by omega)
      · exact hlt
      refine A.aload_k 0 rfl rfl rfl d_ch_append_48 ?_
      apply A.getfield f_ch_18 d_ch_append_49
      · repeat first | assumption | exact up_s | refine up_e (by assumption) ?_
      · rfl
      refine A.aload_k 0 rfl rfl rfl d_ch_append_52 ?_
      apply A.getfield f_ch_21 d_ch_append_53
      · repeat first | assumption | exact up_s | refine up_e (by assumption) ?_
      · rfl
      refine A.iload_k 3 rfl rfl d_ch_append_56 ?_
      apply A.iastore (j := z) d_ch_append_57
      · repeat first | assumption | exact up_s | refine up_e (by assumption) ?_
      · first | decide | omega
      · exact ixn (by omega)
      · exact hlt
      refine A.aload_k 0 rfl rfl rfl d_ch_append_58 ?_
      refine A.dup rfl d_ch_append_59 ?_
      apply A.getfield f_ch_21 d_ch_append_60
      · repeat first | assumption | exact up_s | refine up_e (by assumption) ?_
      · rfl
      refine A.iconst (v := 1) rfl d_ch_append_63 ?_
      refine A.iadd d_ch_append_64 ?_
      apply A.putfield p_ch_21 d_ch_append_65
      · repeat first | assumption | exact up_s | refine up_e (by assumption) ?_
      · exact (Nat.le_of_ble_eq_true rfl)
      · rfl
      dsimp only [List.set]
      refine A.iconst (v := 1) rfl d_ch_append_68 ?_
      refine A.zret d_ch_append_69 rfl (Or.inr rfl) ?_
      rw [nI_1]; exact h1 hlt i1 i2
    · dsimp only [psh]
      refine A.if_ne0 d_ch_append_23 (tgt := 28) (by decide) ?_
      refine A.iconst (v := 0) rfl d_ch_append_26 ?_
      refine A.zret d_ch_append_27 rfl (Or.inl rfl) ?_
      first | exact h0 (fun q => absurd q.1 (by have := (nI_leI (a := 4) (by omega) (by omega)).mp c5; omega)) | exact h0 (fun q => i3 q.2)
/-- the interest of a place of a chain -/
def intK (z : Nat) (Y R : Nat → Int32) (k : Nat) (w : Int32) : Int32 := if k < z then (if 0 < (if k + 1 < z then R (k + 1) else w) - R k then (if k + 1 < z then R (k + 1) else w) - R k else 0) * (if k = 0 then 40 else Y k) else 0
theorem c_ch_interestOf {a ya ra z k : Nat} {w : Int32} {u : Value} {Y R : Nat → Int32} (ha : G a = some (oB 3 [u, .ref ya, .ref ra, .int (nI z)])) (hya : G ya = some (aI 4 Y)) (hra : G ra = some (aI 4 R)) (hz : z ≤ 4) (hk : k ≤ 4) (h : Q (some (.int (intK z Y R k w))) G) : A 2 M_ch_interestOf 0 [some (.ref a), some (.int (nI k)), some (.int w), none, none] [] G kc ks Q := by
  refine A.aload_k 0 rfl rfl rfl d_ch_interestOf_0 ?_
  refine A.iload_k 1 rfl rfl d_ch_interestOf_1 ?_
  refine A.callV1 s_ch_29 ?_ (Nat.le_of_ble_eq_true rfl) (Nat.le_of_ble_eq_true rfl) (Nat.le_of_ble_eq_true rfl) d_ch_interestOf_2 rfl (c_ch_reaches (by repeat first | assumption | exact up_s | refine up_e (by first | decide | omega) ?_) hz (fun j r1 r2 => ?_) (fun r3 => ?_))
  · apply Exists.intro
    repeat first | assumption | exact up_s | refine up_e (by first | decide | omega) ?_
  · dsimp only [psh]
    refine A.if_ne1 10 (by decide) d_ch_interestOf_5 ?_
    refine A.aload_k 0 rfl rfl rfl d_ch_interestOf_10 ?_
    refine A.iload_k 1 rfl rfl d_ch_interestOf_11 ?_
    refine A.iconst (v := 1) rfl d_ch_interestOf_12 ?_
    refine A.iadd d_ch_interestOf_13 ?_
    rw [nI_1]
    refine A.callV1 s_ch_29 ?_ (Nat.le_of_ble_eq_true rfl) (Nat.le_of_ble_eq_true rfl) (Nat.le_of_ble_eq_true rfl) d_ch_interestOf_14 rfl (c_ch_reaches (by repeat first | assumption | exact up_s | refine up_e (by first | decide | omega) ?_) hz (fun i s1 s2 => ?_) (fun s3 => ?_))
    · apply Exists.intro
      repeat first | assumption | exact up_s | refine up_e (by first | decide | omega) ?_
    · dsimp only [psh]
      refine A.if_eq1 d_ch_interestOf_17 (tgt := 31) (by decide) ?_
      obtain rfl : k = j := nI_inj (by omega) (by omega) r2
      obtain rfl : k + 1 = i := nI_inj (by omega) (by omega) s2
      refine A.aload_k 0 rfl rfl rfl d_ch_interestOf_20 ?_
      apply A.getfield f_ch_18 d_ch_interestOf_21
      · repeat first | assumption | exact up_s | refine up_e (by first | decide | omega) ?_
      · rfl
      refine A.iload_k 1 rfl rfl d_ch_interestOf_24 ?_
      refine A.iconst (v := 1) rfl d_ch_interestOf_25 ?_
      skip
      refine A.iadd d_ch_interestOf_26 ?_
      apply A.iaload (j := k + 1) d_ch_interestOf_27
      · repeat first | assumption | exact up_s | refine up_e (by first | decide | omega) ?_
      · rw [nI_1]; exact ixn (by omega)
      · omega
      refine A.goto 32 (by decide) d_ch_interestOf_28 ?_
      refine A.istore_k 3 rfl (Nat.le_of_ble_eq_true rfl) rfl d_ch_interestOf_32 ?_
      dsimp only [List.set]
      refine A.iload_k 1 rfl rfl d_ch_interestOf_33 ?_
      refine A.if_ne 42 (by decide) d_ch_interestOf_34 (fun c34 => ?_) (fun c34 => ?_)
      · refine A.aload_k 0 rfl rfl rfl d_ch_interestOf_42 ?_
        apply A.getfield f_ch_15 d_ch_interestOf_43
        · repeat first | assumption | exact up_s | refine up_e (by first | decide | omega) ?_
        · rfl
        refine A.iload_k 1 rfl rfl d_ch_interestOf_46 ?_
        apply A.iaload (j := k) d_ch_interestOf_47
        · repeat first | assumption | exact up_s | refine up_e (by first | decide | omega) ?_
        · exact ixn (by omega)
        · omega
        refine A.istore (Nat.le_of_ble_eq_true rfl) rfl d_ch_interestOf_48 ?_
        dsimp only [List.set]
        refine A.iconst (v := 0) rfl d_ch_interestOf_50 ?_
        refine A.iload_k 3 rfl rfl d_ch_interestOf_51 ?_
        refine A.aload_k 0 rfl rfl rfl d_ch_interestOf_52 ?_
        apply A.getfield f_ch_18 d_ch_interestOf_53
        · repeat first | assumption | exact up_s | refine up_e (by first | decide | omega) ?_
        · rfl
        refine A.iload_k 1 rfl rfl d_ch_interestOf_56 ?_
        apply A.iaload (j := k) d_ch_interestOf_57
        · repeat first | assumption | exact up_s | refine up_e (by first | decide | omega) ?_
        · exact ixn (by omega)
        · omega
        refine A.isub d_ch_interestOf_58 ?_
        refine A.max d_ch_interestOf_59 s_ch_33 (Nat.le_of_ble_eq_true rfl) (Nat.le_of_ble_eq_true rfl) ?_
        refine A.iload rfl d_ch_interestOf_62 ?_
        refine A.imul d_ch_interestOf_64 ?_
        refine A.iret d_ch_interestOf_65 rfl ?_
        unfold intK at h
        rw [if_pos r1] at h
        first | rw [if_pos s1] at h | rw [if_neg s4] at h
        first | rw [if_pos (show k = 0 from nI_inj (by omega) (by omega) c34)] at h | rw [if_neg (show ¬ k = 0 from fun q => c34 (by rw [q]; rfl))] at h
        exact h
      · refine A.bipush (v := 40) rfl d_ch_interestOf_37 ?_
        refine A.goto 48 (by decide) d_ch_interestOf_39 ?_
        refine A.istore (Nat.le_of_ble_eq_true rfl) rfl d_ch_interestOf_48 ?_
        dsimp only [List.set]
        refine A.iconst (v := 0) rfl d_ch_interestOf_50 ?_
        refine A.iload_k 3 rfl rfl d_ch_interestOf_51 ?_
        refine A.aload_k 0 rfl rfl rfl d_ch_interestOf_52 ?_
        apply A.getfield f_ch_18 d_ch_interestOf_53
        · repeat first | assumption | exact up_s | refine up_e (by first | decide | omega) ?_
        · rfl
        refine A.iload_k 1 rfl rfl d_ch_interestOf_56 ?_
        apply A.iaload (j := k) d_ch_interestOf_57
        · repeat first | assumption | exact up_s | refine up_e (by first | decide | omega) ?_
        · exact ixn (by omega)
        · omega
        refine A.isub d_ch_interestOf_58 ?_
        refine A.max d_ch_interestOf_59 s_ch_33 (Nat.le_of_ble_eq_true rfl) (Nat.le_of_ble_eq_true rfl) ?_
        refine A.iload rfl d_ch_interestOf_62 ?_
        refine A.imul d_ch_interestOf_64 ?_
        refine A.iret d_ch_interestOf_65 rfl ?_
        unfold intK at h
        rw [if_pos r1] at h
        first | rw [if_pos s1] at h | rw [if_neg s4] at h
        first | rw [if_pos (show k = 0 from nI_inj (by omega) (by omega) c34)] at h | rw [if_neg (show ¬ k = 0 from fun q => c34 (by rw [q]; rfl))] at h
        exact h
    · dsimp only [psh]
      refine A.if_eq0 31 (by decide) d_ch_interestOf_17 ?_
      obtain rfl : k = j := nI_inj (by omega) (by omega) r2
      have s4 : ¬ k + 1 < z := fun q => s3 (k + 1) q rfl
      refine A.iload_k 2 rfl rfl d_ch_interestOf_31 ?_
      refine A.istore_k 3 rfl (Nat.le_of_ble_eq_true rfl) rfl d_ch_interestOf_32 ?_
      dsimp only [List.set]
      refine A.iload_k 1 rfl rfl d_ch_interestOf_33 ?_
      refine A.if_ne 42 (by decide) d_ch_interestOf_34 (fun c34 => ?_) (fun c34 => ?_)
      · refine A.aload_k 0 rfl rfl rfl d_ch_interestOf_42 ?_
        apply A.getfield f_ch_15 d_ch_interestOf_43
        · repeat first | assumption | exact up_s | refine up_e (by first | decide | omega) ?_
        · rfl
        refine A.iload_k 1 rfl rfl d_ch_interestOf_46 ?_
        apply A.iaload (j := k) d_ch_interestOf_47
        · repeat first | assumption | exact up_s | refine up_e (by first | decide | omega) ?_
        · exact ixn (by omega)
        · omega
        refine A.istore (Nat.le_of_ble_eq_true rfl) rfl d_ch_interestOf_48 ?_
        dsimp only [List.set]
        refine A.iconst (v := 0) rfl d_ch_interestOf_50 ?_
        refine A.iload_k 3 rfl rfl d_ch_interestOf_51 ?_
        refine A.aload_k 0 rfl rfl rfl d_ch_interestOf_52 ?_
        apply A.getfield f_ch_18 d_ch_interestOf_53
        · repeat first | assumption | exact up_s | refine up_e (by first | decide | omega) ?_
        · rfl
        refine A.iload_k 1 rfl rfl d_ch_interestOf_56 ?_
        apply A.iaload (j := k) d_ch_interestOf_57
        · repeat first | assumption | exact up_s | refine up_e (by first | decide | omega) ?_
        · exact ixn (by omega)
        · omega
        refine A.isub d_ch_interestOf_58 ?_
        refine A.max d_ch_interestOf_59 s_ch_33 (Nat.le_of_ble_eq_true rfl) (Nat.le_of_ble_eq_true rfl) ?_
        refine A.iload rfl d_ch_interestOf_62 ?_
        refine A.imul d_ch_interestOf_64 ?_
        refine A.iret d_ch_interestOf_65 rfl ?_
        unfold intK at h
        rw [if_pos r1] at h
        first | rw [if_pos s1] at h | rw [if_neg s4] at h
        first | rw [if_pos (show k = 0 from nI_inj (by omega) (by omega) c34)] at h | rw [if_neg (show ¬ k = 0 from fun q => c34 (by rw [q]; rfl))] at h
        exact h
      · refine A.bipush (v := 40) rfl d_ch_interestOf_37 ?_
        refine A.goto 48 (by decide) d_ch_interestOf_39 ?_
        refine A.istore (Nat.le_of_ble_eq_true rfl) rfl d_ch_interestOf_48 ?_
        dsimp only [List.set]
        refine A.iconst (v := 0) rfl d_ch_interestOf_50 ?_
        refine A.iload_k 3 rfl rfl d_ch_interestOf_51 ?_
        refine A.aload_k 0 rfl rfl rfl d_ch_interestOf_52 ?_
        apply A.getfield f_ch_18 d_ch_interestOf_53
        · repeat first | assumption | exact up_s | refine up_e (by first | decide | omega) ?_
        · rfl
        refine A.iload_k 1 rfl rfl d_ch_interestOf_56 ?_
        apply A.iaload (j := k) d_ch_interestOf_57
        · repeat first | assumption | exact up_s | refine up_e (by first | decide | omega) ?_
        · exact ixn (by omega)
        · omega
        refine A.isub d_ch_interestOf_58 ?_
        refine A.max d_ch_interestOf_59 s_ch_33 (Nat.le_of_ble_eq_true rfl) (Nat.le_of_ble_eq_true rfl) ?_
        refine A.iload rfl d_ch_interestOf_62 ?_
        refine A.imul d_ch_interestOf_64 ?_
        refine A.iret d_ch_interestOf_65 rfl ?_
        unfold intK at h
        rw [if_pos r1] at h
        first | rw [if_pos s1] at h | rw [if_neg s4] at h
        first | rw [if_pos (show k = 0 from nI_inj (by omega) (by omega) c34)] at h | rw [if_neg (show ¬ k = 0 from fun q => c34 (by rw [q]; rfl))] at h
        exact h
  · dsimp only [psh]
    refine A.if_ne0 d_ch_interestOf_5 (tgt := 10) (by decide) ?_
    refine A.iconst (v := 0) rfl d_ch_interestOf_8 ?_
    refine A.iret d_ch_interestOf_9 rfl ?_
    rw [show intK z Y R k w = 0 from if_neg (fun q => r3 k q rfl)] at h
    exact h
/-- no lease of a chain ends ahead of some years -/
def prlY (Y : Nat → Int32) : Nat → Nat → Int32
  | 0 => Y
  | k + 1 => upd (prlY Y k) (k + 1) (if prlY Y k (k + 1) < 40 then 40 else prlY Y k (k + 1))
theorem c_ch_prolong {a ya z b : Nat} {u w : Value} {Y : Nat → Int32} (ha : G a = some (oB 3 [u, .ref ya, w, .int (nI z)])) (hya : G ya = some (aI 4 Y)) (hz : z ≤ 4) (hb : b < z) (h16 : 16 ≤ ya) (h : Q none (up G ya (aI 4 (prlY Y b)))) : A 1 M_ch_prolong 0 [some (.ref a), some (.int (nI b)), some (.int 40), none] [] G kc ks Q := by
  have hd : a ≠ ya := fun q => by subst q; rw [ha] at hya; cases hya
  have loop : ∀ (n k : Nat), k ≤ b → b < k + n → A 1 M_ch_prolong 2 [some (.ref a), some (.int (nI b)), some (.int 40), some (.int (nI (k + 1)))] [] (up G ya (aI 4 (prlY Y k))) kc ks Q := by
    intro n
    induction n with
    | zero => intro k h1 h2; omega
    | succ n ih =>
      intro k h1 h2
      refine A.iload_k 3 rfl rfl d_ch_prolong_2 ?_
      refine A.iload_k 1 rfl rfl d_ch_prolong_3 ?_
      refine A.icmp_gt 37 (by decide) d_ch_prolong_4 (fun c4 => ?_) (fun c4 => ?_)
      · refine A.vret d_ch_prolong_37 rfl ?_
        have e : k = b := by
          have := (nI_ltI (by omega) (by omega)).mp c4
          omega
        subst e
        exact h
      · have hlt : k + 1 ≤ b := Nat.le_of_not_lt (fun q => c4 ((nI_ltI (by omega) (by omega)).mpr q))
        refine A.iload_k 3 rfl rfl d_ch_prolong_7 ?_
        refine A.aload_k 0 rfl rfl rfl d_ch_prolong_8 ?_
        apply A.getfield f_ch_21 d_ch_prolong_9
        · first | exact up_s | exact up_e hd ha
        · rfl
        refine A.icmp_ge 37 (by decide) d_ch_prolong_12 (fun c12 => ?_) (fun c12 => ?_)
        · exact absurd ((nI_leI (by omega) (by omega)).mp c12) (by omega)
        refine A.aload_k 0 rfl rfl rfl d_ch_prolong_15 ?_
        apply A.getfield f_ch_15 d_ch_prolong_16
        · first | exact up_s | exact up_e hd ha
        · rfl
        refine A.iload_k 3 rfl rfl d_ch_prolong_19 ?_
        refine A.aload_k 0 rfl rfl rfl d_ch_prolong_20 ?_
        apply A.getfield f_ch_15 d_ch_prolong_21
        · first | exact up_s | exact up_e hd ha
        · rfl
        refine A.iload_k 3 rfl rfl d_ch_prolong_24 ?_
        apply A.iaload (j := k + 1) d_ch_prolong_25
        · first | exact up_s | exact up_e hd ha
        · exact ixn (by omega)
        · show k + 1 < 4; omega
        refine A.iload_k 2 rfl rfl d_ch_prolong_26 ?_
        refine A.max d_ch_prolong_27 s_ch_33 (Nat.le_of_ble_eq_true rfl) (Nat.le_of_ble_eq_true rfl) ?_
        apply A.iastore (j := k + 1) d_ch_prolong_30
        · first | exact up_s | exact up_e hd ha
        · first | decide | omega
        · exact ixn (by omega)
        · show k + 1 < 4; omega
        refine A.iincp (n := 3) rfl (Nat.le_of_ble_eq_true rfl) d_ch_prolong_31 ?_
        dsimp only [List.set]
        refine A.goto 2 (by decide) d_ch_prolong_34 ?_
        rw [nI_1, up_up]
        exact ih (k + 1) (by omega) (by omega)
  have e0 : G = up G ya (aI 4 (prlY Y 0)) := by
    funext c
    unfold up
    split
    · rename_i q; subst q; exact hya
    · rfl
  refine A.iconst (v := 1) rfl d_ch_prolong_0 ?_
  refine A.istore_k 3 rfl (Nat.le_of_ble_eq_true rfl) rfl d_ch_prolong_1 ?_
  dsimp only [List.set]
  have e := loop (b + 1) 0 (by omega) (by omega)
  rw [← e0] at e
  exact e
/-- a year passes for a chain -/
def pyr : Nat → Nat → (Nat → Int32) → Nat → (Nat → Int32) × Nat
  | 0, _, Y, z => (Y, z)
  | n + 1, k, Y, z => if k < z then (if 0 < Y k - 1 then pyr n (k + 1) (upd Y k (Y k - 1)) z else (upd Y k (Y k - 1), k)) else (Y, z)
theorem pyr_le : ∀ (n k : Nat) (Y : Nat → Int32) (z : Nat), z ≤ 4 → (pyr n k Y z).2 ≤ z
  | 0, _, _, _, _ => Nat.le_refl _
  | n + 1, k, Y, z, h => by
    unfold pyr
    split
    · split
      · exact pyr_le n _ _ z h
      · exact Nat.le_of_lt (by assumption)
    · exact Nat.le_refl _
theorem c_ch_passYear {a ya z : Nat} {u w : Value} {Y : Nat → Int32} (ha : G a = some (oB 3 [u, .ref ya, w, .int (nI z)])) (hya : G ya = some (aI 4 Y)) (hz : z ≤ 4) (h16 : 16 ≤ ya) (h : Q none (up (up G ya (aI 4 (pyr 3 1 Y z).1)) a (oB 3 [u, .ref ya, w, .int (nI (pyr 3 1 Y z).2)]))) : A 0 M_ch_passYear 0 [some (.ref a), none] [] G kc ks Q := by
  have hd : a ≠ ya := fun q => by subst q; rw [ha] at hya; cases hya
  have hd' := Ne.symm hd
  have stp : ∀ (k : Nat) (Y : Nat → Int32) (z : Nat), k ≤ 4 → z ≤ k → Q none (up (up G ya (aI 4 Y)) a (oB 3 [u, .ref ya, w, .int (nI z)])) → A 0 M_ch_passYear 2 [some (.ref a), some (.int (nI k))] [] (up (up G ya (aI 4 Y)) a (oB 3 [u, .ref ya, w, .int (nI z)])) kc ks Q := by
    intro k Y z h1 h2 h
    refine A.iload_k 1 rfl rfl d_ch_passYear_2 ?_
    refine A.aload_k 0 rfl rfl rfl d_ch_passYear_3 ?_
    apply A.getfield f_ch_21 d_ch_passYear_4
    · first | exact up_s | exact up_e hd' up_s
    · rfl
    refine A.icmp_ge 40 (by decide) d_ch_passYear_7 (fun c7 => ?_) (fun c7 => ?_)
    · refine A.vret d_ch_passYear_40 rfl ?_
      exact h
    · exact absurd (nI_le h2 (by omega)) c7
  have loop : ∀ (n k : Nat) (Y : Nat → Int32) (z : Nat), 4 = k + n → z ≤ 4 → Q none (up (up G ya (aI 4 (pyr n k Y z).1)) a (oB 3 [u, .ref ya, w, .int (nI (pyr n k Y z).2)])) → A 0 M_ch_passYear 2 [some (.ref a), some (.int (nI k))] [] (up (up G ya (aI 4 Y)) a (oB 3 [u, .ref ya, w, .int (nI z)])) kc ks Q := by
    intro n
    induction n with
    | zero =>
      intro k Y z h1 hz h
      exact stp k Y z (by omega) (by omega) h
    | succ n ih =>
      intro k Y z h1 hz h
      unfold pyr at h
      by_cases hk : k < z
      · rw [if_pos hk] at h
        refine A.iload_k 1 rfl rfl d_ch_passYear_2 ?_
        refine A.aload_k 0 rfl rfl rfl d_ch_passYear_3 ?_
        apply A.getfield f_ch_21 d_ch_passYear_4
        · first | exact up_s | exact up_e hd' up_s | exact up_e hd up_s
        · rfl
        refine A.icmp_ge 40 (by decide) d_ch_passYear_7 (fun c7 => ?_) (fun c7 => ?_)
        · exact absurd ((nI_leI (by omega) (by omega)).mp c7) (by omega)
        refine A.aload_k 0 rfl rfl rfl d_ch_passYear_10 ?_
        apply A.getfield f_ch_15 d_ch_passYear_11
        · first | exact up_s | exact up_e hd' up_s | exact up_e hd up_s
        · rfl
        refine A.iload_k 1 rfl rfl d_ch_passYear_14 ?_
        refine A.dup2 rfl rfl d_ch_passYear_15 ?_
        apply A.iaload (j := k) d_ch_passYear_16
        · first | exact up_s | exact up_e hd' up_s | exact up_e hd up_s
        · exact ixn (by omega)
        · show k < 4; omega
        refine A.iconst (v := 1) rfl d_ch_passYear_17 ?_
        refine A.isub d_ch_passYear_18 ?_
        apply A.iastore (j := k) d_ch_passYear_19
        · first | exact up_s | exact up_e hd' up_s | exact up_e hd up_s
        · first | decide | omega
        · exact ixn (by omega)
        · show k < 4; omega
        refine A.aload_k 0 rfl rfl rfl d_ch_passYear_20 ?_
        apply A.getfield f_ch_15 d_ch_passYear_21
        · first | exact up_s | exact up_e hd' up_s | exact up_e hd up_s
        · rfl
        refine A.iload_k 1 rfl rfl d_ch_passYear_24 ?_
        apply A.iaload (j := k) d_ch_passYear_25
        · first | exact up_s | exact up_e hd' up_s | exact up_e hd up_s
        · exact ixn (by omega)
        · show k < 4; omega
        rw [pk_us, up_swap hd, up_up]
        refine A.if_gt 34 (by decide) d_ch_passYear_26 (fun c26 => ?_) (fun c26 => ?_)
        · refine A.iincp (n := 1) rfl (Nat.le_of_ble_eq_true rfl) d_ch_passYear_34 ?_
          dsimp only [List.set]
          refine A.goto 2 (by decide) d_ch_passYear_37 ?_
          rw [nI_1]
          first | (rw [if_pos c26] at h; exact ih (k + 1) _ z (by omega) hz h) | (rw [if_neg c26] at h; rw [up_up]; exact stp (k + 1) _ k (by omega) (by omega) h)
        · refine A.aload_k 0 rfl rfl rfl d_ch_passYear_29 ?_
          refine A.iload_k 1 rfl rfl d_ch_passYear_30 ?_
          apply A.putfield p_ch_21 d_ch_passYear_31
          · first | exact up_s | exact up_e hd' up_s | exact up_e hd up_s
          · exact (Nat.le_of_ble_eq_true rfl)
          · rfl
          dsimp only [List.set]
          refine A.iincp (n := 1) rfl (Nat.le_of_ble_eq_true rfl) d_ch_passYear_34 ?_
          dsimp only [List.set]
          refine A.goto 2 (by decide) d_ch_passYear_37 ?_
          rw [nI_1]
          first | (rw [if_pos c26] at h; exact ih (k + 1) _ z (by omega) hz h) | (rw [if_neg c26] at h; rw [up_up]; exact stp (k + 1) _ k (by omega) (by omega) h)
      · rw [if_neg hk] at h
        exact stp k Y z (by omega) (by omega) h
  have e0 : G = up (up G ya (aI 4 Y)) a (oB 3 [u, .ref ya, w, .int (nI z)]) := by
    funext c
    unfold up
    split
    · rename_i q; subst q; exact ha
    · split
      · rename_i q; subst q; exact hya
      · rfl
  refine A.iconst (v := 1) rfl d_ch_passYear_0 ?_
  refine A.istore_k 1 rfl (Nat.le_of_ble_eq_true rfl) rfl d_ch_passYear_1 ?_
  dsimp only [List.set]
  have e := loop 3 1 Y z rfl hz h
  rw [← e0] at e
  exact e
theorem c_ch_end {a : Nat} {u v w z : Value} (ha : G a = some (oB 3 [u, v, w, z])) (h : Q none (up G a (oB 3 [u, v, w, .int 0]))) : A 0 M_ch_end 0 [some (.ref a)] [] G kc ks Q := by
  refine A.aload_k 0 rfl rfl rfl d_ch_end_0 ?_
  refine A.iconst (v := 0) rfl d_ch_end_1 ?_
  apply A.putfield p_ch_21 d_ch_end_2
  · repeat first | assumption | exact up_s | refine up_e (by first | decide | omega) ?_
  · exact (Nat.le_of_ble_eq_true rfl)
  · rfl
  dsimp only [List.set]
  refine A.vret d_ch_end_5 rfl ?_
  exact h
/-- a new chain at P + 1, its arrays behind it -/
def ChI (G : AHp) (P : Nat) (w : Int32) : Prop := G (P + 1) = some (oB 3 [.ref (P + 2), .ref (P + 3), .ref (P + 4), .int 1]) ∧ G (P + 2) = some (aI 4 (upd (fun _ => 0) 0 w)) ∧ G (P + 3) = some (aI 4 (upd (fun _ => 0) 0 99)) ∧ G (P + 4) = some (aI 4 (fun _ => 0))
theorem c_ch_init {P : Nat} {w : Int32} (hP : 16 ≤ P) (ha : G (P + 1) = some (oB 3 [.null, .null, .null, .int 0])) (h2 : G (P + 2) = none) (h3 : G (P + 3) = none) (h4 : G (P + 4) = none) (h : ∀ G', ChI G' P w → (∀ x, (x ≤ P ∨ P + 4 < x) → G' x = G x) → Q none G') : A 1 M_ch_init 0 [some (.ref (P + 1)), some (.int w)] [] G 3 12 Q := by
  refine A.aload_k 0 rfl rfl rfl d_ch_init_0 ?_
  refine A.objInit d_ch_init_1 o_ch_3 (Nat.le_of_ble_eq_true rfl) (Nat.le_of_ble_eq_true rfl) ?_
  refine A.aload_k 0 rfl rfl rfl d_ch_init_4 ?_
  refine A.iconst (v := 4) rfl d_ch_init_5 ?_
  refine A.newI (a := P + 2) (n := 4) d_ch_init_6 (by decide) (by decide) (by first | decide | omega) (by repeat first | assumption | refine up_e (by first | decide | omega) ?_) (kc' := 2) (ks' := 8) (Nat.le_of_ble_eq_true rfl) (Nat.le_of_ble_eq_true rfl) ac_int ?_
  apply A.putfin q_ch_9 rfl d_ch_init_8
  · repeat first | assumption | exact up_s | refine up_e (by first | decide | omega) ?_
  · exact (Nat.le_of_ble_eq_true rfl)
  · rfl
  dsimp only [List.set]
  refine A.aload_k 0 rfl rfl rfl d_ch_init_11 ?_
  refine A.iconst (v := 4) rfl d_ch_init_12 ?_
  refine A.newI (a := P + 3) (n := 4) d_ch_init_13 (by decide) (by decide) (by first | decide | omega) (by repeat first | assumption | refine up_e (by first | decide | omega) ?_) (kc' := 1) (ks' := 4) (Nat.le_of_ble_eq_true rfl) (Nat.le_of_ble_eq_true rfl) ac_int ?_
  apply A.putfin q_ch_15 rfl d_ch_init_15
  · repeat first | assumption | exact up_s | refine up_e (by first | decide | omega) ?_
  · exact (Nat.le_of_ble_eq_true rfl)
  · rfl
  dsimp only [List.set]
  refine A.aload_k 0 rfl rfl rfl d_ch_init_18 ?_
  refine A.iconst (v := 4) rfl d_ch_init_19 ?_
  refine A.newI (a := P + 4) (n := 4) d_ch_init_20 (by decide) (by decide) (by first | decide | omega) (by repeat first | assumption | refine up_e (by first | decide | omega) ?_) (kc' := 0) (ks' := 0) (Nat.le_of_ble_eq_true rfl) (Nat.le_of_ble_eq_true rfl) ac_int ?_
  apply A.putfin q_ch_18 rfl d_ch_init_22
  · repeat first | assumption | exact up_s | refine up_e (by first | decide | omega) ?_
  · exact (Nat.le_of_ble_eq_true rfl)
  · rfl
  dsimp only [List.set]
  refine A.aload_k 0 rfl rfl rfl d_ch_init_25 ?_
  refine A.iconst (v := 1) rfl d_ch_init_26 ?_
  apply A.putfield p_ch_21 d_ch_init_27
  · repeat first | assumption | exact up_s | refine up_e (by first | decide | omega) ?_
  · exact (Nat.le_of_ble_eq_true rfl)
  · rfl
  dsimp only [List.set]
  refine A.aload_k 0 rfl rfl rfl d_ch_init_30 ?_
  apply A.getfield f_ch_9 d_ch_init_31
  · repeat first | assumption | exact up_s | refine up_e (by first | decide | omega) ?_
  · rfl
  refine A.iconst (v := 0) rfl d_ch_init_34 ?_
  refine A.iload_k 1 rfl rfl d_ch_init_35 ?_
  apply A.iastore (j := 0) d_ch_init_36
  · repeat first | assumption | exact up_s | refine up_e (by first | decide | omega) ?_
  · first | decide | omega
  · rfl
  · decide
  refine A.aload_k 0 rfl rfl rfl d_ch_init_37 ?_
  apply A.getfield f_ch_15 d_ch_init_38
  · repeat first | assumption | exact up_s | refine up_e (by first | decide | omega) ?_
  · rfl
  refine A.iconst (v := 0) rfl d_ch_init_41 ?_
  refine A.bipush (v := 99) rfl d_ch_init_42 ?_
  apply A.iastore (j := 0) d_ch_init_44
  · repeat first | assumption | exact up_s | refine up_e (by first | decide | omega) ?_
  · first | decide | omega
  · rfl
  · decide
  refine A.vret d_ch_init_45 rfl ?_
  refine h _ ⟨?_, ?_, ?_, ?_⟩ (fun x hx => ?_)
  · repeat first | exact up_s | refine up_e (by omega) ?_
  · repeat first | exact up_s | refine up_e (by omega) ?_
  · repeat first | exact up_s | refine up_e (by omega) ?_
  · repeat first | exact up_s | refine up_e (by omega) ?_
  · repeat first | rfl | refine up_e (by omega) ?_
end CHAIN
