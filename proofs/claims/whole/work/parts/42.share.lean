/-! the component: who builds, who bears -/
section SHARE
variable {M S : MS} {G : AHp} {kc ks np : Nat} {Q : Option Value → AHp → Prop}
theorem up_id {a : Nat} {c : ACell} (h : G a = some c) : up G a c = G := by
  funext b
  unfold up
  split
  · rename_i e; rw [e]; exact h.symm
  · rfl
theorem bldM_s (M : MS) (p k : Nat) : bldM M p (k + 1) = if cstM M p ≤ M 1 (hN (M 8 (4 * p + k))) then nI k else bldM M p k := rfl
theorem lgcgt {x y : Int64} : 0 < lg_cmp x y ↔ y < x := by
  rw [← Int32.not_le, lgcle, Decidable.not_not]
theorem c_af_findBuilder {p l : Nat} (hC : CH G M np) (hw : WF M np) (hp : p < np) (g : ¬ (M 6 p = 2 ∨ M 6 p = 3)) (h7 : M 7 p = nI l) (hl : l ≤ 3) (h : Q (some (.int (bldM M p (l + 1)))) G) : A 3 M_af_findBuilder 0 [some (.ref 20), some (.ref (1000 + 16 * p)), none, none, none] [] G kc ks Q := by
  have hr := hC.root.1
  have h21 := hC.root.2
  have hpl := (hC.pl hp).1
  obtain ⟨P, Y, R, a1, a2, a3, a4, a5⟩ := (hC.pl hp).2.1
  rw [zM_of g h7 hl] at a1 a5
  have loop : ∀ k, k ≤ l + 1 → bldM M p k = bldM M p (l + 1) → A 3 M_af_findBuilder 16 [some (.ref 20), some (.ref (1000 + 16 * p)), some (.int (cstM M p)), some (.int (nI k - 1)), none] [] G kc ks Q := by
    intro k
    induction k with
    | zero =>
      intro _ e
      refine A.iload_k 3 rfl rfl d_af_findBuilder_16 ?_
      refine A.if_lt 57 (by decide) d_af_findBuilder_17 (fun c17 => ?_) (fun c17 => ?_)
      · refine A.iconst (v := -1) rfl d_af_findBuilder_57 ?_
        refine A.iret d_af_findBuilder_58 rfl ?_
        rw [← e] at h; exact h
      · exact absurd (by decide) c17
    | succ k ih =>
      intro hk e
      obtain ⟨o, o1, o2⟩ := hw.2.2.2.1 (4 * p + k)
      rw [nI_pred]
      rw [bldM_s M p k] at e
      refine A.iload_k 3 rfl rfl d_af_findBuilder_16 ?_
      refine A.if_lt 57 (by decide) d_af_findBuilder_17 (fun c17 => ?_) (fun c17 => ?_)
      · exact absurd c17 (Int32.not_lt.mpr (nI_pos' (by omega)))
      refine A.aload_k 1 rfl rfl rfl d_af_findBuilder_20 ?_
      apply A.getfield f_af_113 d_af_findBuilder_21
      · repeat first | assumption | exact up_s | refine up_e (by first | decide | omega) ?_
      · rfl
      refine A.iload_k 3 rfl rfl d_af_findBuilder_24 ?_
      refine A.callV1 s_af_152 ?_ (Nat.le_of_ble_eq_true rfl) (Nat.le_of_ble_eq_true rfl) (Nat.le_of_ble_eq_true rfl) d_af_findBuilder_25 rfl (c_ch_personAt a1 a2 (by omega) (fun j r1 r2 => ?_) (fun r3 => absurd rfl (r3 k (by omega))))
      · apply Exists.intro
        repeat first | assumption | exact up_s | refine up_e (by first | decide | omega) ?_
      dsimp only [psh]
      obtain rfl : k = j := nI_inj (by omega) (by omega) r2
      rw [(a5 k r1).1, o2]
      refine A.istore (Nat.le_of_ble_eq_true rfl) rfl d_af_findBuilder_28 ?_
      dsimp only [List.set]
      refine A.iload rfl d_af_findBuilder_30 ?_
      refine A.callS1 s_af_71 (Nat.le_of_ble_eq_true rfl) (Nat.le_of_ble_eq_true rfl) (Nat.le_of_ble_eq_true rfl) d_af_findBuilder_32 rfl (c_af_isPerson (fun o' j1 j2 => ?_) (fun j3 => absurd rfl (j3 o o1)))
      dsimp only [psh]
      refine A.if_eq1 d_af_findBuilder_35 (tgt := 51) (by decide) ?_
      refine A.aload_k 0 rfl rfl rfl d_af_findBuilder_38 ?_
      apply A.getfield f_af_9 d_af_findBuilder_39
      · repeat first | assumption | exact up_s | refine up_e (by first | decide | omega) ?_
      · rfl
      refine A.iload rfl d_af_findBuilder_42 ?_
      apply A.iaload (j := o) d_af_findBuilder_44
      · repeat first | assumption | exact up_s | refine up_e (by first | decide | omega) ?_
      · exact ixn (by omega)
      · exact o1
      refine A.iload_k 2 rfl rfl d_af_findBuilder_45 ?_
      refine A.icmp_lt 51 (by decide) d_af_findBuilder_46 (fun c46 => ?_) (fun c46 => ?_)
      · refine A.iincm (n := 3) rfl (Nat.le_of_ble_eq_true rfl) d_af_findBuilder_51 ?_
        dsimp only [List.set]
        refine A.goto 16 (by decide) d_af_findBuilder_54 ?_
        rw [if_neg (by rw [o2, hN_nI (by omega)]; exact Int32.not_le.mpr c46)] at e
        refine A.dropat 4 ?_
        dsimp only [List.set]
        exact ih (by omega) e
      · refine A.iload_k 3 rfl rfl d_af_findBuilder_49 ?_
        refine A.iret d_af_findBuilder_50 rfl ?_
        rw [if_pos (by rw [o2, hN_nI (by omega)]; exact Int32.not_lt.mp c46)] at e
        rw [← e] at h
        exact h
  refine A.aload_k 0 rfl rfl rfl d_af_findBuilder_0 ?_
  refine A.aload_k 1 rfl rfl rfl d_af_findBuilder_1 ?_
  refine A.callV1 s_af_141 ?_ (Nat.le_of_ble_eq_true rfl) (Nat.le_of_ble_eq_true rfl) (Nat.le_of_ble_eq_true rfl) d_af_findBuilder_2 rfl (c_af_costOf (by repeat first | assumption | exact up_s | refine up_e (by first | decide | omega) ?_) (by repeat first | assumption | exact up_s | refine up_e (by first | decide | omega) ?_) ?_)
  · apply Exists.intro
    repeat first | assumption | exact up_s | refine up_e (by first | decide | omega) ?_
  dsimp only [psh]
  refine A.istore_k 2 rfl (Nat.le_of_ble_eq_true rfl) rfl d_af_findBuilder_5 ?_
  dsimp only [List.set]
  refine A.aload_k 1 rfl rfl rfl d_af_findBuilder_6 ?_
  apply A.getfield f_af_113 d_af_findBuilder_7
  · repeat first | assumption | exact up_s | refine up_e (by first | decide | omega) ?_
  · rfl
  apply A.getfield f_af_262 d_af_findBuilder_10
  · repeat first | assumption | exact up_s | refine up_e (by first | decide | omega) ?_
  · rfl
  refine A.iconst (v := 1) rfl d_af_findBuilder_13 ?_
  refine A.isub d_af_findBuilder_14 ?_
  refine A.istore_k 3 rfl (Nat.le_of_ble_eq_true rfl) rfl d_af_findBuilder_15 ?_
  dsimp only [List.set]
  exact loop (l + 1) (Nat.le_refl _) rfl
/-- the sum of the first interests -/
def smK (I : Nat → Int32) : Nat → Int64
  | 0 => 0
  | n + 1 => smK I n + (I n).toInt64
def vlK (I : Nat → Int32) (c : Int32) (k : Nat) : Int64 := c.toInt64 * (I k).toInt64
def pK0 (I : Nat → Int32) (c : Int32) (s : Int64) (k : Nat) : Int32 := (vlK I c k / s).toInt32
def cK0 (I : Nat → Int32) (c : Int32) (s : Int64) (k : Nat) : Int64 := vlK I c k - vlK I c k / s * s
def flP (g : Nat → Int32) (P : Nat → Int32) : Nat → Nat → Int32
  | 0 => P
  | k + 1 => upd (flP g P k) k (g k)
def flC (g : Nat → Int64) (C : Nat → Int64) : Nat → Nat → Int64
  | 0 => C
  | k + 1 => vp_updL (flC g C k) k (g k)
theorem c_sh_most {C : Nat → Int64} (h24 : G 24 = some (oB 6 [.ref 28, .ref 29])) (h29 : G 29 = some (aL 4 C)) (h : Q (some (.int (nI (bst C 3)))) G) : A 0 M_sh_placeOfMostCutOff 0 [some (.ref 24), none, none] [] G kc ks Q := by
  have loop : ∀ (k i : Nat), i ≤ 3 → 3 < i + k → A 0 M_sh_placeOfMostCutOff 4 [some (.ref 24), some (.int (nI (bst C i))), some (.int (nI (i + 1)))] [] G kc ks Q := by
    intro k
    induction k with
    | zero => intro i h1 h2; omega
    | succ k ih =>
      intro i h1 h2
      have hb := bst_le C i
      refine A.iload_k 2 rfl rfl d_sh_placeOfMostCutOff_4 ?_
      refine A.iconst (v := 4) rfl d_sh_placeOfMostCutOff_5 ?_
      refine A.icmp_ge 33 (by decide) d_sh_placeOfMostCutOff_6 (fun c6 => ?_) (fun c6 => ?_)
      · refine A.iload_k 1 rfl rfl d_sh_placeOfMostCutOff_33 ?_
        refine A.iret d_sh_placeOfMostCutOff_34 rfl ?_
        have e : i = 3 := by
          have := (nI_leI (a := 4) (by omega) (by omega)).mp c6
          omega
        subst e
        exact h
      · have hlt : i < 3 := Nat.lt_of_not_le (fun z => c6 (nI_le (a := 4) (by omega) (by omega)))
        refine A.aload_k 0 rfl rfl rfl d_sh_placeOfMostCutOff_9 ?_
        apply A.getfield f_sh_15 d_sh_placeOfMostCutOff_10
        · repeat first | assumption | exact up_s | refine up_e (by first | decide | omega) ?_
        · rfl
        refine A.iload_k 2 rfl rfl d_sh_placeOfMostCutOff_13 ?_
        apply A.laload (j := i + 1) d_sh_placeOfMostCutOff_14
        · repeat first | assumption | exact up_s | refine up_e (by first | decide | omega) ?_
        · exact ixn (by omega)
        · omega
        refine A.aload_k 0 rfl rfl rfl d_sh_placeOfMostCutOff_15 ?_
        apply A.getfield f_sh_15 d_sh_placeOfMostCutOff_16
        · repeat first | assumption | exact up_s | refine up_e (by first | decide | omega) ?_
        · rfl
        refine A.iload_k 1 rfl rfl d_sh_placeOfMostCutOff_19 ?_
        apply A.laload (j := bst C i) d_sh_placeOfMostCutOff_20
        · repeat first | assumption | exact up_s | refine up_e (by first | decide | omega) ?_
        · exact ixn (by omega)
        · omega
        refine A.lcmp d_sh_placeOfMostCutOff_21 ?_
        refine A.if_le 27 (by decide) d_sh_placeOfMostCutOff_22 (fun c22 => ?_) (fun c22 => ?_)
        · refine A.iincp (n := 2) rfl (Nat.le_of_ble_eq_true rfl) d_sh_placeOfMostCutOff_27 ?_
          dsimp only [List.set]
          refine A.goto 4 (by decide) d_sh_placeOfMostCutOff_30 ?_
          rw [nI_1]
          have ih := ih (i + 1) (by omega) (by omega)
          unfold bst at ih
          first | (rw [if_neg (lgcle.mp c22)] at ih; exact ih) | (rw [if_pos (Decidable.not_not.mp (fun z => c22 (lgcle.mpr z)))] at ih; exact ih)
        · refine A.iload_k 2 rfl rfl d_sh_placeOfMostCutOff_25 ?_
          refine A.istore_k 1 rfl (Nat.le_of_ble_eq_true rfl) rfl d_sh_placeOfMostCutOff_26 ?_
          dsimp only [List.set]
          refine A.iincp (n := 2) rfl (Nat.le_of_ble_eq_true rfl) d_sh_placeOfMostCutOff_27 ?_
          dsimp only [List.set]
          refine A.goto 4 (by decide) d_sh_placeOfMostCutOff_30 ?_
          rw [nI_1]
          have ih := ih (i + 1) (by omega) (by omega)
          unfold bst at ih
          first | (rw [if_neg (lgcle.mp c22)] at ih; exact ih) | (rw [if_pos (Decidable.not_not.mp (fun z => c22 (lgcle.mpr z)))] at ih; exact ih)
  refine A.iconst (v := 0) rfl d_sh_placeOfMostCutOff_0 ?_
  refine A.istore_k 1 rfl (Nat.le_of_ble_eq_true rfl) rfl d_sh_placeOfMostCutOff_1 ?_
  dsimp only [List.set]
  refine A.iconst (v := 1) rfl d_sh_placeOfMostCutOff_2 ?_
  refine A.istore_k 2 rfl (Nat.le_of_ble_eq_true rfl) rfl d_sh_placeOfMostCutOff_3 ?_
  dsimp only [List.set]
  exact loop 4 0 (by omega) (by omega)
theorem c_sh_partOf {j : Nat} {P : Nat → Int32} {v : Value} (h24 : G 24 = some (oB 6 [.ref 28, v])) (h28 : G 28 = some (aI 4 P)) (hj : j ≤ 3) (h : Q (some (.int (P j))) G) : A 1 M_sh_partOf 0 [some (.ref 24), some (.int (nI j))] [] G kc ks Q := by
  refine A.iload_k 1 rfl rfl d_sh_partOf_0 ?_
  refine A.iconst (v := 0) rfl d_sh_partOf_1 ?_
  refine A.iconst (v := 3) rfl d_sh_partOf_2 ?_
  refine A.callS3 s_sh_19 (Nat.le_of_ble_eq_true rfl) (Nat.le_of_ble_eq_true rfl) (Nat.le_of_ble_eq_true rfl) d_sh_partOf_3 rfl (c_af_within (fun i1 i2 => ?_) (fun i3 => absurd (nI_bt (n := 3) (by decide) hj (by omega)) i3))
  dsimp only [psh]
  refine A.if_eq1 d_sh_partOf_6 (tgt := 18) (by decide) ?_
  refine A.aload_k 0 rfl rfl rfl d_sh_partOf_9 ?_
  apply A.getfield f_sh_9 d_sh_partOf_10
  · repeat first | assumption | exact up_s | refine up_e (by first | decide | omega) ?_
  · rfl
  refine A.iload_k 1 rfl rfl d_sh_partOf_13 ?_
  apply A.iaload (j := j) d_sh_partOf_14
  · repeat first | assumption | exact up_s | refine up_e (by first | decide | omega) ?_
  · exact ixn (by omega)
  · omega
  refine A.goto 19 (by decide) d_sh_partOf_15 ?_
  refine A.iret d_sh_partOf_19 rfl ?_
  exact h
theorem c_sh_byInt {p1 ch ya ra z r : Nat} {x y c : Int32} {s : Int64} {P : Nat → Int32} {C : Nat → Int64} {u2 v : Value} {fs : List Value} {Y R : Nat → Int32} (h24 : G 24 = some (oB 6 [.ref 28, .ref 29])) (h28 : G 28 = some (aI 4 P)) (h29 : G 29 = some (aL 4 C)) (hpl : G p1 = some (oB 5 (.int x :: .int y :: u2 :: .ref ch :: fs))) (a1 : G ch = some (oB 3 [v, .ref ya, .ref ra, .int (nI z)])) (a3 : G ya = some (aI 4 Y)) (a4 : G ra = some (aI 4 R)) (hz : z ≤ 4) (hp1 : 1000 ≤ p1 ∧ 1000 ≤ ch ∧ 1000 ≤ ya ∧ 1000 ≤ ra) (hs : 0 < s)
    (hr : rsF c (pK0 (fun k => intK z Y R k (x * y / 20)) c s) 4 = nI r) (hr4 : r ≤ 4) (h : ∀ C', Q none (up (up G 28 (aI 4 (giv 3 r (flP (pK0 (fun k => intK z Y R k (x * y / 20)) c s) P 4) (flC (cK0 (fun k => intK z Y R k (x * y / 20)) c s) C 4)))) 29 (aL 4 C'))) : A 3 M_sh_divideByInterest 0 [some (.ref 24), some (.ref p1), some (.int c), some (.long s), none, none, none, none, none] [] G kc ks Q := by
  have hs0 : ¬ s = 0 := fun e => by subst e; exact absurd hs (by decide)
  have loop2 : ∀ (n i : Nat) (P' : Nat → Int32) (C' : Nat → Int64) (v7 : Option Value), r = i + n → giv 3 n P' C' = giv 3 r (flP (pK0 (fun k => intK z Y R k (x * y / 20)) c s) P 4) (flC (cK0 (fun k => intK z Y R k (x * y / 20)) c s) C 4) → A 3 M_sh_divideByInterest 82 [some (.ref 24), some (.ref p1), some (.int c), some (.long s), none, some (.int (nI r)), some (.int (nI i)), v7, none] [] (up (up G 28 (aI 4 P')) 29 (aL 4 C')) kc ks Q := by
    intro n
    induction n with
    | zero =>
      intro i P' C' v7 e1 e2
      refine A.iload rfl d_sh_divideByInterest_82 ?_
      refine A.iload rfl d_sh_divideByInterest_84 ?_
      refine A.icmp_ge 128 (by decide) d_sh_divideByInterest_86 (fun c86 => ?_) (fun c86 => ?_)
      · refine A.vret d_sh_divideByInterest_128 rfl ?_
        rw [← e2] at h; exact h _
      · exact absurd (nI_le (by omega) (by omega)) c86
    | succ n ih =>
      intro i P' C' v7 e1 e2
      have hb := bst_le C' 3
      refine A.iload rfl d_sh_divideByInterest_82 ?_
      refine A.iload rfl d_sh_divideByInterest_84 ?_
      refine A.icmp_ge 128 (by decide) d_sh_divideByInterest_86 (fun c86 => ?_) (fun c86 => ?_)
      · exact absurd ((nI_leI (by omega) (by omega)).mp c86) (by omega)
      refine A.iload rfl d_sh_divideByInterest_89 ?_
      refine A.iconst (v := 4) rfl d_sh_divideByInterest_91 ?_
      refine A.icmp_ge 128 (by decide) d_sh_divideByInterest_92 (fun c92 => ?_) (fun c92 => ?_)
      · exact absurd ((nI_leI (a := 4) (by omega) (by omega)).mp c92) (by omega)
      refine A.aload_k 0 rfl rfl rfl d_sh_divideByInterest_95 ?_
      refine A.callV0 s_sh_47 ?_ (Nat.le_of_ble_eq_true rfl) (Nat.le_of_ble_eq_true rfl) (Nat.le_of_ble_eq_true rfl) d_sh_divideByInterest_96 rfl (c_sh_most (up_e (by decide) (up_e (by decide) h24)) up_s ?_)
      · apply Exists.intro
        repeat first | assumption | exact up_s | refine up_e (by first | decide | omega) ?_
      dsimp only [psh]
      refine A.istore (Nat.le_of_ble_eq_true rfl) rfl d_sh_divideByInterest_99 ?_
      dsimp only [List.set]
      refine A.aload_k 0 rfl rfl rfl d_sh_divideByInterest_101 ?_
      apply A.getfield f_sh_9 d_sh_divideByInterest_102
      · repeat first | assumption | exact up_s | refine up_e (by first | decide | omega) ?_
      · rfl
      refine A.iload rfl d_sh_divideByInterest_105 ?_
      refine A.dup2 rfl rfl d_sh_divideByInterest_107 ?_
      apply A.iaload (j := bst C' 3) d_sh_divideByInterest_108
      · repeat first | assumption | exact up_s | refine up_e (by first | decide | omega) ?_
      · exact ixn (by omega)
      · omega
      refine A.iconst (v := 1) rfl d_sh_divideByInterest_109 ?_
      refine A.iadd d_sh_divideByInterest_110 ?_
      apply A.iastore (j := bst C' 3) d_sh_divideByInterest_111
      · repeat first | assumption | exact up_s | refine up_e (by first | decide | omega) ?_
      · first | decide | omega
      · exact ixn (by omega)
      · omega
      refine A.aload_k 0 rfl rfl rfl d_sh_divideByInterest_112 ?_
      apply A.getfield f_sh_15 d_sh_divideByInterest_113
      · repeat first | assumption | exact up_s | refine up_e (by first | decide | omega) ?_
      · rfl
      refine A.iload rfl d_sh_divideByInterest_116 ?_
      refine A.ldc2 d_sh_divideByInterest_118 k_sh_50 ?_
      apply A.lastore (j := bst C' 3) d_sh_divideByInterest_121
      · repeat first | assumption | exact up_s | refine up_e (by first | decide | omega) ?_
      · exact ixn (by omega)
      · omega
      refine A.iincp (n := 6) rfl (Nat.le_of_ble_eq_true rfl) d_sh_divideByInterest_122 ?_
      dsimp only [List.set]
      refine A.goto 82 (by decide) d_sh_divideByInterest_125 ?_
      rw [nI_1, up_swap (a := 29) (b := 28) (by decide), up_up, up_up]
      exact ih (i + 1) _ _ _ (by omega) e2
  have loop1 : ∀ (n i : Nat) (v7 : Option Value), i ≤ 4 → 4 < i + n → A 3 M_sh_divideByInterest 13 [some (.ref 24), some (.ref p1), some (.int c), some (.long s), none, some (.int (rsF c (pK0 (fun k => intK z Y R k (x * y / 20)) c s) i)), some (.int (nI i)), v7, none] [] (up (up G 28 (aI 4 (flP (pK0 (fun k => intK z Y R k (x * y / 20)) c s) P i))) 29 (aL 4 (flC (cK0 (fun k => intK z Y R k (x * y / 20)) c s) C i))) kc ks Q := by
    intro n
    induction n with
    | zero => intro i v7 h1 h2; omega
    | succ n ih =>
      intro i v7 h1 h2
      refine A.iload rfl d_sh_divideByInterest_13 ?_
      refine A.iconst (v := 4) rfl d_sh_divideByInterest_15 ?_
      refine A.icmp_ge 79 (by decide) d_sh_divideByInterest_16 (fun c16 => ?_) (fun c16 => ?_)
      · refine A.iconst (v := 0) rfl d_sh_divideByInterest_79 ?_
        refine A.istore (Nat.le_of_ble_eq_true rfl) rfl d_sh_divideByInterest_80 ?_
        dsimp only [List.set]
        have e : i = 4 := by
          have := (nI_leI (a := 4) (by omega) (by omega)).mp c16
          omega
        subst e
        rw [hr]
        exact loop2 r 0 _ _ _ (by omega) rfl
      · have hlt : i < 4 := Nat.lt_of_not_le (fun z => c16 (nI_le (a := 4) (by omega) (by omega)))
        refine A.iload_k 2 rfl rfl d_sh_divideByInterest_19 ?_
        refine A.i2l d_sh_divideByInterest_20 ?_
        refine A.aload_k 1 rfl rfl rfl d_sh_divideByInterest_21 ?_
        apply A.getfield f_sh_23 d_sh_divideByInterest_22
        · repeat first | assumption | exact up_s | refine up_e (by first | decide | omega) ?_
        · rfl
        refine A.iload rfl d_sh_divideByInterest_25 ?_
        refine A.aload_k 1 rfl rfl rfl d_sh_divideByInterest_27 ?_
        refine A.callV0 s_sh_35 ?_ (Nat.le_of_ble_eq_true rfl) (Nat.le_of_ble_eq_true rfl) (Nat.le_of_ble_eq_true rfl) d_sh_divideByInterest_28 rfl (c_pl_yearlyWorth (by repeat first | assumption | exact up_s | refine up_e (by first | decide | omega) ?_) ?_)
        · apply Exists.intro
          repeat first | assumption | exact up_s | refine up_e (by first | decide | omega) ?_
        dsimp only [psh]
        refine A.callV2 s_sh_39 ?_ (Nat.le_of_ble_eq_true rfl) (Nat.le_of_ble_eq_true rfl) (Nat.le_of_ble_eq_true rfl) d_sh_divideByInterest_31 rfl (c_ch_interestOf (by repeat first | assumption | exact up_s | refine up_e (by first | decide | omega) ?_) (by repeat first | assumption | exact up_s | refine up_e (by first | decide | omega) ?_) (by repeat first | assumption | exact up_s | refine up_e (by first | decide | omega) ?_) hz (by omega) ?_)
        · apply Exists.intro
          repeat first | assumption | exact up_s | refine up_e (by first | decide | omega) ?_
        dsimp only [psh]
        refine A.i2l d_sh_divideByInterest_34 ?_
        refine A.lmul d_sh_divideByInterest_35 ?_
        refine A.lstore (Nat.le_of_ble_eq_true rfl) rfl d_sh_divideByInterest_36 ?_
        dsimp only [List.set]
        refine A.aload_k 0 rfl rfl rfl d_sh_divideByInterest_38 ?_
        apply A.getfield f_sh_9 d_sh_divideByInterest_39
        · repeat first | assumption | exact up_s | refine up_e (by first | decide | omega) ?_
        · rfl
        refine A.iload rfl d_sh_divideByInterest_42 ?_
        refine A.lload rfl d_sh_divideByInterest_44 ?_
        refine A.lload_k 3 rfl rfl d_sh_divideByInterest_46 ?_
        refine A.ldiv (hs0) d_sh_divideByInterest_47 ?_
        refine A.l2i d_sh_divideByInterest_48 ?_
        apply A.iastore (j := i) d_sh_divideByInterest_49
        · repeat first | assumption | exact up_s | refine up_e (by first | decide | omega) ?_
        · first | decide | omega
        · exact ixn (by omega)
        · omega
        refine A.aload_k 0 rfl rfl rfl d_sh_divideByInterest_50 ?_
        apply A.getfield f_sh_15 d_sh_divideByInterest_51
        · repeat first | assumption | exact up_s | refine up_e (by first | decide | omega) ?_
        · rfl
        refine A.iload rfl d_sh_divideByInterest_54 ?_
        refine A.lload rfl d_sh_divideByInterest_56 ?_
        refine A.lload_k 3 rfl rfl d_sh_divideByInterest_58 ?_
        refine A.lrem (hs0) d_sh_divideByInterest_59 ?_
        apply A.lastore (j := i) d_sh_divideByInterest_60
        · repeat first | assumption | exact up_s | refine up_e (by first | decide | omega) ?_
        · exact ixn (by omega)
        · omega
        refine A.iload rfl d_sh_divideByInterest_61 ?_
        refine A.aload_k 0 rfl rfl rfl d_sh_divideByInterest_63 ?_
        apply A.getfield f_sh_9 d_sh_divideByInterest_64
        · repeat first | assumption | exact up_s | refine up_e (by first | decide | omega) ?_
        · rfl
        refine A.iload rfl d_sh_divideByInterest_67 ?_
        apply A.iaload (j := i) d_sh_divideByInterest_69
        · repeat first | assumption | exact up_s | refine up_e (by first | decide | omega) ?_
        · exact ixn (by omega)
        · omega
        rw [pk_us]
        refine A.isub d_sh_divideByInterest_70 ?_
        refine A.istore (Nat.le_of_ble_eq_true rfl) rfl d_sh_divideByInterest_71 ?_
        dsimp only [List.set]
        refine A.iincp (n := 6) rfl (Nat.le_of_ble_eq_true rfl) d_sh_divideByInterest_73 ?_
        dsimp only [List.set]
        refine A.goto 13 (by decide) d_sh_divideByInterest_76 ?_
        rw [nI_1, up_swap (a := 29) (b := 28) (by decide), up_up, up_up]
        exact ih (i + 1) _ (by omega) (by omega)
  have e0 : G = up (up G 28 (aI 4 P)) 29 (aL 4 C) := by rw [up_id h28, up_id h29]
  refine A.lload_k 3 rfl rfl d_sh_divideByInterest_0 ?_
  refine A.lconst (v := 0) rfl d_sh_divideByInterest_1 ?_
  refine A.lcmp d_sh_divideByInterest_2 ?_
  refine A.if_gt 7 (by decide) d_sh_divideByInterest_3 (fun c3 => ?_) (fun c3 => ?_)
  · refine A.iload_k 2 rfl rfl d_sh_divideByInterest_7 ?_
    refine A.istore (Nat.le_of_ble_eq_true rfl) rfl d_sh_divideByInterest_8 ?_
    dsimp only [List.set]
    refine A.iconst (v := 0) rfl d_sh_divideByInterest_10 ?_
    refine A.istore (Nat.le_of_ble_eq_true rfl) rfl d_sh_divideByInterest_11 ?_
    dsimp only [List.set]
    have e := loop1 5 0 none (by omega) (by omega)
    have e2 : up (up G 28 (aI 4 (flP (pK0 (fun k => intK z Y R k (x * y / 20)) c s) P 0))) 29 (aL 4 (flC (cK0 (fun k => intK z Y R k (x * y / 20)) c s) C 0)) = G := e0.symm
    rw [e2] at e
    exact e
  · exact absurd (lgcgt.mpr hs) c3
theorem c_sh_divide {p1 ch ya ra z r b : Nat} {x y c : Int32} {P : Nat → Int32} {C : Nat → Int64} {u2 v : Value} {fs : List Value} {Y R : Nat → Int32} (h24 : G 24 = some (oB 6 [.ref 28, .ref 29])) (h28 : G 28 = some (aI 4 P)) (h29 : G 29 = some (aL 4 C)) (hpl : G p1 = some (oB 5 (.int x :: .int y :: u2 :: .ref ch :: fs))) (a1 : G ch = some (oB 3 [v, .ref ya, .ref ra, .int (nI z)])) (a3 : G ya = some (aI 4 Y)) (a4 : G ra = some (aI 4 R)) (hz : z ≤ 4) (hp1 : 1000 ≤ p1 ∧ 1000 ≤ ch ∧ 1000 ≤ ya ∧ 1000 ≤ ra) (hb : b < 4)
    (hr : 0 < smK (fun k => intK z Y R k (x * y / 20)) z → rsF c (pK0 (fun k => intK z Y R k (x * y / 20)) c (smK (fun k => intK z Y R k (x * y / 20)) z)) 4 = nI r ∧ r ≤ 4)
    (h1 : 0 < smK (fun k => intK z Y R k (x * y / 20)) z → ∀ C', Q none (up (up G 28 (aI 4 (giv 3 r (flP (pK0 (fun k => intK z Y R k (x * y / 20)) c (smK (fun k => intK z Y R k (x * y / 20)) z)) P 4) (flC (cK0 (fun k => intK z Y R k (x * y / 20)) c (smK (fun k => intK z Y R k (x * y / 20)) z)) C 4)))) 29 (aL 4 C')))
    (h0 : ¬ 0 < smK (fun k => intK z Y R k (x * y / 20)) z → Q none (up G 28 (aI 4 (flP (fun k => if k = b then c else 0) P 4)))) : A 4 M_sh_divide 0 [some (.ref 24), some (.ref p1), some (.int c), some (.int (nI b)), none, none, none] [] G kc ks Q := by
  have loop2 : ∀ (n i : Nat), ¬ 0 < smK (fun k => intK z Y R k (x * y / 20)) z → i ≤ 4 → 4 < i + n → A 4 M_sh_divide 62 [some (.ref 24), some (.ref p1), some (.int c), some (.int (nI b)), none, none, some (.int (nI i))] [] (up G 28 (aI 4 (flP (fun k => if k = b then c else 0) P i))) kc ks Q := by
    intro n
    induction n with
    | zero => intro i _ h1 h2; omega
    | succ n ih =>
      intro i hs h1 h2
      refine A.iload rfl d_sh_divide_62 ?_
      refine A.iconst (v := 4) rfl d_sh_divide_64 ?_
      refine A.icmp_ge 92 (by decide) d_sh_divide_65 (fun c65 => ?_) (fun c65 => ?_)
      · refine A.vret d_sh_divide_92 rfl ?_
        have e : i = 4 := by
          have := (nI_leI (a := 4) (by omega) (by omega)).mp c65
          omega
        subst e
        exact h0 hs
      · have hlt : i < 4 := Nat.lt_of_not_le (fun z => c65 (nI_le (a := 4) (by omega) (by omega)))
        refine A.aload_k 0 rfl rfl rfl d_sh_divide_68 ?_
        apply A.getfield f_sh_9 d_sh_divide_69
        · repeat first | assumption | exact up_s | refine up_e (by first | decide | omega) ?_
        · rfl
        refine A.iload rfl d_sh_divide_72 ?_
        refine A.iload rfl d_sh_divide_74 ?_
        refine A.iload_k 3 rfl rfl d_sh_divide_76 ?_
        refine A.icmp_ne 84 (by decide) d_sh_divide_77 (fun c77 => ?_) (fun c77 => ?_)
        · refine A.iconst (v := 0) rfl d_sh_divide_84 ?_
          apply A.iastore (j := i) d_sh_divide_85
          · repeat first | assumption | exact up_s | refine up_e (by first | decide | omega) ?_
          · first | decide | omega
          · exact ixn (by omega)
          · exact hlt
          refine A.iincp (n := 6) rfl (Nat.le_of_ble_eq_true rfl) d_sh_divide_86 ?_
          dsimp only [List.set]
          refine A.goto 62 (by decide) d_sh_divide_89 ?_
          rw [nI_1, up_up]
          have ih := ih (i + 1) hs (by omega) (by omega)
          unfold flP at ih
          first | (rw [if_pos (nI_inj (by omega) (by omega) c77)] at ih; exact ih) | (rw [if_neg (fun e => c77 (by rw [e]))] at ih; exact ih)
        · refine A.iload_k 2 rfl rfl d_sh_divide_80 ?_
          refine A.goto 85 (by decide) d_sh_divide_81 ?_
          apply A.iastore (j := i) d_sh_divide_85
          · repeat first | assumption | exact up_s | refine up_e (by first | decide | omega) ?_
          · first | decide | omega
          · exact ixn (by omega)
          · exact hlt
          refine A.iincp (n := 6) rfl (Nat.le_of_ble_eq_true rfl) d_sh_divide_86 ?_
          dsimp only [List.set]
          refine A.goto 62 (by decide) d_sh_divide_89 ?_
          rw [nI_1, up_up]
          have ih := ih (i + 1) hs (by omega) (by omega)
          unfold flP at ih
          first | (rw [if_pos (nI_inj (by omega) (by omega) c77)] at ih; exact ih) | (rw [if_neg (fun e => c77 (by rw [e]))] at ih; exact ih)
  have loop1 : ∀ (n i : Nat), i ≤ z → z < i + n → A 4 M_sh_divide 6 [some (.ref 24), some (.ref p1), some (.int c), some (.int (nI b)), some (.long (smK (fun k => intK z Y R k (x * y / 20)) i)), none, some (.int (nI i))] [] G kc ks Q := by
    intro n
    induction n with
    | zero => intro i y1 y2; omega
    | succ n ih =>
      intro i y1 y2
      refine A.iload rfl d_sh_divide_6 ?_
      refine A.aload_k 1 rfl rfl rfl d_sh_divide_8 ?_
      apply A.getfield f_sh_23 d_sh_divide_9
      · repeat first | assumption | exact up_s | refine up_e (by first | decide | omega) ?_
      · rfl
      apply A.getfield f_sh_29 d_sh_divide_12
      · repeat first | assumption | exact up_s | refine up_e (by first | decide | omega) ?_
      · rfl
      refine A.icmp_ge 43 (by decide) d_sh_divide_15 (fun c15 => ?_) (fun c15 => ?_)
      · obtain rfl : i = z := by
          have := (nI_leI (by omega) (by omega)).mp c15
          omega
        refine A.lload rfl d_sh_divide_43 ?_
        refine A.lconst (v := 0) rfl d_sh_divide_45 ?_
        refine A.lcmp d_sh_divide_46 ?_
        refine A.if_le 59 (by decide) d_sh_divide_47 (fun c47 => ?_) (fun c47 => ?_)
        · refine A.iconst (v := 0) rfl d_sh_divide_59 ?_
          refine A.istore (Nat.le_of_ble_eq_true rfl) rfl d_sh_divide_60 ?_
          dsimp only [List.set]
          refine A.dropat 4 ?_
          dsimp only [List.set]
          have e := loop2 5 0 (lgcle.mp c47) (by omega) (by omega)
          rw [show up G 28 (aI 4 (flP (fun k => if k = b then c else 0) P 0)) = G from up_id h28] at e
          exact e
        · refine A.aload_k 0 rfl rfl rfl d_sh_divide_50 ?_
          refine A.aload_k 1 rfl rfl rfl d_sh_divide_51 ?_
          refine A.iload_k 2 rfl rfl d_sh_divide_52 ?_
          refine A.lload rfl d_sh_divide_53 ?_
          refine A.callV3 s_sh_43 ?_ (Nat.le_of_ble_eq_true rfl) (Nat.le_of_ble_eq_true rfl) (Nat.le_of_ble_eq_true rfl) d_sh_divide_55 rfl (c_sh_byInt h24 h28 h29 hpl a1 a3 a4 hz hp1 (Decidable.not_not.mp (fun z => c47 (lgcle.mpr z))) (hr (Decidable.not_not.mp (fun z => c47 (lgcle.mpr z)))).1 (hr (Decidable.not_not.mp (fun z => c47 (lgcle.mpr z)))).2 (fun C' => ?_))
          · apply Exists.intro
            repeat first | assumption | exact up_s | refine up_e (by first | decide | omega) ?_
          dsimp only [psh]
          refine A.vret d_sh_divide_58 rfl ?_
          exact h1 (Decidable.not_not.mp (fun z => c47 (lgcle.mpr z))) C'
      · have hlt : i < z := Nat.lt_of_not_le (fun z => c15 (nI_le z (by omega)))
        refine A.lload rfl d_sh_divide_18 ?_
        refine A.aload_k 1 rfl rfl rfl d_sh_divide_20 ?_
        apply A.getfield f_sh_23 d_sh_divide_21
        · repeat first | assumption | exact up_s | refine up_e (by first | decide | omega) ?_
        · rfl
        refine A.iload rfl d_sh_divide_24 ?_
        refine A.aload_k 1 rfl rfl rfl d_sh_divide_26 ?_
        refine A.callV0 s_sh_35 ?_ (Nat.le_of_ble_eq_true rfl) (Nat.le_of_ble_eq_true rfl) (Nat.le_of_ble_eq_true rfl) d_sh_divide_27 rfl (c_pl_yearlyWorth (by repeat first | assumption | exact up_s | refine up_e (by first | decide | omega) ?_) ?_)
        · apply Exists.intro
          repeat first | assumption | exact up_s | refine up_e (by first | decide | omega) ?_
        dsimp only [psh]
        refine A.callV2 s_sh_39 ?_ (Nat.le_of_ble_eq_true rfl) (Nat.le_of_ble_eq_true rfl) (Nat.le_of_ble_eq_true rfl) d_sh_divide_30 rfl (c_ch_interestOf a1 a3 a4 hz (by omega) ?_)
        · apply Exists.intro
          repeat first | assumption | exact up_s | refine up_e (by first | decide | omega) ?_
        dsimp only [psh]
        refine A.i2l d_sh_divide_33 ?_
        refine A.ladd d_sh_divide_34 ?_
        refine A.lstore (Nat.le_of_ble_eq_true rfl) rfl d_sh_divide_35 ?_
        dsimp only [List.set]
        refine A.iincp (n := 6) rfl (Nat.le_of_ble_eq_true rfl) d_sh_divide_37 ?_
        dsimp only [List.set]
        refine A.goto 6 (by decide) d_sh_divide_40 ?_
        rw [nI_1]
        exact ih (i + 1) (by omega) (by omega)
  refine A.lconst (v := 0) rfl d_sh_divide_0 ?_
  refine A.lstore (Nat.le_of_ble_eq_true rfl) rfl d_sh_divide_1 ?_
  dsimp only [List.set]
  refine A.iconst (v := 0) rfl d_sh_divide_3 ?_
  refine A.istore (Nat.le_of_ble_eq_true rfl) rfl d_sh_divide_4 ?_
  dsimp only [List.set]
  exact loop1 (z + 1) 0 (by omega) (by omega)
end SHARE
