/-! the component: taxes, works, stakes, counts, leases -/
section AF4
variable {M S : MS} {G : AHp} {kc ks np : Nat} {Q : Option Value → AHp → Prop}
/-- the chest has changed -/
theorem CH.chest {M' : MS} {G' : AHp} (h : CH G M np) (hw : WF M np) (hG : ∀ a, a ≠ 26 → a ≠ 35 → G' a = G a) (hM : ∀ k, (k < 19 ∨ 22 < k) → M' k = M k) (hct : CtC G' M') : CH G' M' np := by
  refine ⟨⟨?_, ?_⟩, h.list.fr (fun a x => hG a (by omega) (by omega)), h.str.fr (fun a x => hG a (by omega) (by omega)) (hM 3 (by omega)) (hM 24 (by omega)), h.sh.fr (fun a x => hG a (by omega) (by omega)), h.br.fr (fun a x => hG a (by omega) (by omega)), hct, h.sv.fr (fun a x => hG a (by omega) (by omega)), fun p hp => (h.pl hp).fr (hw.zle p) (fun a x y => hG a (by omega) (by omega)) (fun k hk => by rw [hM k (by omega)]) (fun k j x y z => by rw [hM k (by omega)]) (hM 3 (by omega)), h.fre.fr (fun a x => hG a (by omega) (by omega)) hw.2.1⟩
  · rw [hG _ (by omega) (by omega), h.root.1]
    unfold rtO
    rw [hM 0 (by omega), hM 16 (by omega), hM 17 (by omega), hM 18 (by omega), hM 23 (by omega)]
  · rw [hG _ (by omega) (by omega), hM 1 (by omega)]; exact h.root.2
theorem c_af_tax {v : Int32} (hC : CH G M np) (hw : WF M np) (h0 : ¬ (0 ≤ v ∧ v ≤ 5000) → Q (some (.int 0)) G) (h1 : 0 ≤ v → v ≤ 5000 → ∀ G', CH G' (va_up M 21 (fun _ => v)) np → FrC G G' → Q (some (.int 1)) G') : A 1 M_af_tax 0 [some (.ref 20), some (.int v)] [] G kc ks Q := by
  have hr := hC.root.1
  obtain ⟨c, nw, b1, ⟨u, b2, b3⟩, b4⟩ := hC.ct
  refine A.iload_k 1 rfl rfl d_af_tax_0 ?_
  refine A.iconst (v := 0) rfl d_af_tax_1 ?_
  refine A.sipush (v := 5000) rfl d_af_tax_2 ?_
  refine A.callS3 s_af_76 (Nat.le_of_ble_eq_true rfl) (Nat.le_of_ble_eq_true rfl) (Nat.le_of_ble_eq_true rfl) d_af_tax_5 rfl (c_af_within (fun i1 i2 => ?_) (fun i3 => ?_))
  · dsimp only [psh]
    refine A.if_ne1 13 (by decide) d_af_tax_8 ?_
    refine A.aload_k 0 rfl rfl rfl d_af_tax_13 ?_
    apply A.getfield f_af_43 d_af_tax_14
    · repeat first | assumption | exact up_s | refine up_e (by first | decide | omega) ?_
    · rfl
    refine A.iload_k 1 rfl rfl d_af_tax_17 ?_
    apply A.putfield p_af_211 d_af_tax_18
    · repeat first | assumption | exact up_s | refine up_e (by first | decide | omega) ?_
    · exact (Nat.le_of_ble_eq_true rfl)
    · rfl
    dsimp only [List.set]
    refine A.iconst (v := 1) rfl d_af_tax_21 ?_
    refine A.zret d_af_tax_22 rfl (Or.inr rfl) ?_
    exact h1 i1 i2 _ (hC.chest hw (fun a x y => up_n x) (fun k hk => vn (by omega)) ⟨c, nw, up_s, ⟨u, up_e (by decide) b2, b3⟩, b4⟩) (FrC.rf.up (by decide) (by decide))
  · dsimp only [psh]
    refine A.if_ne0 d_af_tax_8 (tgt := 13) (by decide) ?_
    refine A.iconst (v := 0) rfl d_af_tax_11 ?_
    refine A.zret d_af_tax_12 rfl (Or.inl rfl) ?_
    exact h0 i3
theorem c_ct_addWork {x v u w : Value} {nw : Nat} {n : Int32} {f : Nat → Int32} (ha : G 26 = some (oB 4 [.ref 35, .int (nI nw), x, v, u])) (hb : G 35 = some (aI 20 f)) (hn : nw ≤ 20) (h0 : nw = 20 → Q (some (.int (-1))) G) (h1 : nw < 20 → Q (some (.int (nI nw))) (up (up G 35 (aI 20 (upd f nw n))) 26 (oB 4 [.ref 35, .int (nI (nw + 1)), x, v, u]))) : A 0 M_ct_addWork 0 [some (.ref 26), some (.int n)] [] G kc ks Q := by
  refine A.aload_k 0 rfl rfl rfl d_ct_addWork_0 ?_
  apply A.getfield f_ct_15 d_ct_addWork_1
  · repeat first | assumption | exact up_s | refine up_e (by first | decide | omega) ?_
  · rfl
  refine A.bipush (v := 20) rfl d_ct_addWork_4 ?_
  refine A.icmp_lt 11 (by decide) d_ct_addWork_6 (fun c6 => ?_) (fun c6 => ?_)
  · have hlt : nw < 20 := (nI_ltI (b := 20) (by omega) (by omega)).mp c6
    refine A.aload_k 0 rfl rfl rfl d_ct_addWork_11 ?_
    apply A.getfield f_ct_9 d_ct_addWork_12
    · repeat first | assumption | exact up_s | refine up_e (by first | decide | omega) ?_
    · rfl
    refine A.aload_k 0 rfl rfl rfl d_ct_addWork_15 ?_
    apply A.getfield f_ct_15 d_ct_addWork_16
    · repeat first | assumption | exact up_s | refine up_e (by first | decide | omega) ?_
    · rfl
    refine A.iload_k 1 rfl rfl d_ct_addWork_19 ?_
    apply A.iastore (j := nw) d_ct_addWork_20
    · repeat first | assumption | exact up_s | refine up_e (by first | decide | omega) ?_
    · first | decide | omega
    · exact ixn (by omega)
    · exact hlt
    refine A.aload_k 0 rfl rfl rfl d_ct_addWork_21 ?_
    refine A.dup rfl d_ct_addWork_22 ?_
    apply A.getfield f_ct_15 d_ct_addWork_23
    · repeat first | assumption | exact up_s | refine up_e (by first | decide | omega) ?_
    · rfl
    refine A.iconst (v := 1) rfl d_ct_addWork_26 ?_
    refine A.iadd d_ct_addWork_27 ?_
    apply A.putfield p_ct_15 d_ct_addWork_28
    · repeat first | assumption | exact up_s | refine up_e (by first | decide | omega) ?_
    · exact (Nat.le_of_ble_eq_true rfl)
    · rfl
    dsimp only [List.set]
    refine A.aload_k 0 rfl rfl rfl d_ct_addWork_31 ?_
    apply A.getfield f_ct_15 d_ct_addWork_32
    · repeat first | assumption | exact up_s | refine up_e (by first | decide | omega) ?_
    · rfl
    refine A.iconst (v := 1) rfl d_ct_addWork_35 ?_
    refine A.isub d_ct_addWork_36 ?_
    refine A.iret d_ct_addWork_37 rfl ?_
    rw [nI_1, nI_pred]
    exact h1 hlt
  · refine A.iconst (v := -1) rfl d_ct_addWork_9 ?_
    refine A.iret d_ct_addWork_10 rfl ?_
    have : ¬ nw < 20 := fun q => c6 ((nI_ltI (b := 20) (by omega) (by omega)).mpr q)
    exact h0 (by omega)
theorem c_af_works {v : Int32} {nw : Nat} (hC : CH G M np) (hW : WF M np) (hw : M 19 0 = nI nw) (hw2 : nw ≤ 20) (h0 : ¬ ((1 ≤ v ∧ v ≤ 10000) ∧ nw ≠ 20) → Q (some (.int (-1))) G) (h1 : 1 ≤ v → v ≤ 10000 → nw < 20 → ∀ G', CH G' (va_up (va_up M 20 (upd (M 20) nw v)) 19 (fun _ => nI (nw + 1))) np → FrC G G' → Q (some (.int (nI nw))) G') : A 1 M_af_works 0 [some (.ref 20), some (.int v)] [] G kc ks Q := by
  have hr := hC.root.1
  obtain ⟨c, nw', b1, ⟨u, b2, b3⟩, b40, b41, b42, b43, b44⟩ := hC.ct
  obtain rfl : nw' = nw := nI_inj (by omega) (by omega) (b40.symm.trans hw)
  rw [hw] at b1
  have fin : 1 ≤ v → v ≤ 10000 → nw' < 20 → CH (up (up G 35 (aI 20 (upd u nw' v))) 26 (oB 4 [.ref 35, .int (nI (nw' + 1)), .int (nI c), .int (M 22 0), .int (M 21 0)])) (va_up (va_up M 20 (upd (M 20) nw' v)) 19 (fun _ => nI (nw' + 1))) np := by
    intro i1 i2 k1
    refine (hC.chest hW (fun a x y => (up_n x).trans (up_n y)) (fun k hk => (vn (by omega)).trans (vn (by omega))) ⟨c, nw' + 1, up_s, ⟨_, up_e (by decide) up_s, fun w hc hw => ?_⟩, rfl, by omega, by omega, fun w hw => ?_, fun w x y => ?_⟩)
    · rw [vn (by decide), vs]
      by_cases e : w = nw'
      · subst e; rw [upd_eq, upd_eq]
      · rw [upd_ne e, upd_ne e]; exact b3 w hc (by omega)
    · rw [vn (by decide), vs, upd_ne (by omega)]; exact b43 w hw
    · rw [vn (by decide), vs]
      by_cases e : w = nw'
      · subst e
        rw [upd_eq]
        obtain ⟨q, q1, q2⟩ := in_lit (n := 10000) (by decide) (by omega) (Int32.le_trans (by decide) i1) i2
        refine ⟨q, ?_, q1, q2⟩
        have : q ≠ 0 := fun z => by
          subst z
          rw [q2] at i1
          exact absurd i1 (by decide)
        omega
      · rw [upd_ne e]; exact b44 w x (by omega)
  refine A.iload_k 1 rfl rfl d_af_works_0 ?_
  refine A.iconst (v := 1) rfl d_af_works_1 ?_
  refine A.sipush (v := 10000) rfl d_af_works_2 ?_
  refine A.callS3 s_af_76 (Nat.le_of_ble_eq_true rfl) (Nat.le_of_ble_eq_true rfl) (Nat.le_of_ble_eq_true rfl) d_af_works_5 rfl (c_af_within (fun i1 i2 => ?_) (fun i3 => ?_))
  · dsimp only [psh]
    refine A.if_eq1 d_af_works_8 (tgt := 22) (by decide) ?_
    refine A.aload_k 0 rfl rfl rfl d_af_works_11 ?_
    apply A.getfield f_af_43 d_af_works_12
    · repeat first | assumption | exact up_s | refine up_e (by first | decide | omega) ?_
    · rfl
    refine A.iload_k 1 rfl rfl d_af_works_15 ?_
    refine A.callV1 s_af_208 ?_ (Nat.le_of_ble_eq_true rfl) (Nat.le_of_ble_eq_true rfl) (Nat.le_of_ble_eq_true rfl) d_af_works_16 rfl (c_ct_addWork (w := .null) b1 b2 hw2 (fun k0 => ?_) (fun k1 => ?_))
    · apply Exists.intro
      repeat first | assumption | exact up_s | refine up_e (by first | decide | omega) ?_
    · dsimp only [psh]
      refine A.goto 23 (by decide) d_af_works_19 ?_
      refine A.iret d_af_works_23 rfl ?_
      first | exact h0 (fun z => i3 z.1) | exact h0 (fun z => z.2 k0) | exact h1 i1 i2 k1 _ (fin i1 i2 k1) ((FrC.rf.up (by decide) (by decide)).up (by decide) (by decide))
    · dsimp only [psh]
      refine A.goto 23 (by decide) d_af_works_19 ?_
      refine A.iret d_af_works_23 rfl ?_
      first | exact h0 (fun z => i3 z.1) | exact h0 (fun z => z.2 k0) | exact h1 i1 i2 k1 _ (fin i1 i2 k1) ((FrC.rf.up (by decide) (by decide)).up (by decide) (by decide))
  · dsimp only [psh]
    refine A.if_eq0 22 (by decide) d_af_works_8 ?_
    refine A.iconst (v := -1) rfl d_af_works_22 ?_
    refine A.iret d_af_works_23 rfl ?_
    first | exact h0 (fun z => i3 z.1) | exact h0 (fun z => z.2 k0) | exact h1 i1 i2 k1 _ (fin i1 i2 k1) ((FrC.rf.up (by decide) (by decide)).up (by decide) (by decide))
/-- a street has changed: its stakes -/
theorem CH.stk {q j : Nat} {v : Int32} {g : Nat → Int32} (h : CH G M np) (hw : WF M np) (hq : q < 6) (hj : j < 7) (hg : ∀ k, k < 7 → g k = M 24 (8 * q + k)) : CH (up G (52 + q) (aI 7 (upd g j v))) (va_up M 24 (upd (M 24) (8 * q + j) v)) np := by
  refine ⟨⟨up_e (by omega) h.root.1, up_e (by omega) h.root.2⟩, h.list.fr (fun a x => up_n (by omega)), ⟨?_, fun s hs => ⟨?_, ?_, ?_⟩⟩, h.sh.fr (fun a x => up_n (by omega)), h.br.fr (fun a x => up_n (by omega)), h.ct.fr (fun a x => up_n (by omega)) rfl rfl rfl rfl, h.sv.fr (fun a x => up_n (by omega)), fun p hp => (h.pl hp).fr (hw.zle p) (fun a x y => up_n (by omega)) (fun k hk => by rw [vn (by omega)]) (fun k j x y z => by rw [vn (by omega)]) rfl, h.fre.fr (fun a x => up_n (by omega)) hw.2.1⟩
  · rw [up_n (by omega)]; exact h.str.1
  · rw [up_n (by omega)]; exact (h.str.2 s hs).1
  · by_cases e : s = q
    · subst e
      refine ⟨_, up_s, fun k hk => ?_⟩
      rw [vs]
      by_cases c : k = j
      · subst c; rw [upd_eq, upd_eq]
      · rw [upd_ne c, upd_ne (by omega)]; exact hg k hk
    · obtain ⟨g', k1, k2⟩ := (h.str.2 s hs).2.1
      refine ⟨g', up_e (by omega) k1, fun k hk => ?_⟩
      rw [vs, upd_ne (by omega)]
      exact k2 k hk
  · rw [strL_congr (M := M) (M' := va_up M 24 _) rfl]
    exact (h.str.2 s hs).2.2.fr hs (fun a x => up_n (by omega))
theorem c_af_stake {x k v : Int32} (hC : CH G M np) (hw : WF M np) (h0 : ¬ ((∃ q, q < 6 ∧ x = nI q) ∧ (∃ j, j < 7 ∧ k = nI j) ∧ -1 ≤ v ∧ v ≤ 300) → Q (some (.int 0)) G) (h1 : ∀ q j, q < 6 → x = nI q → j < 7 → k = nI j → -1 ≤ v → v ≤ 300 → ∀ G', CH G' (va_up M 24 (upd (M 24) (8 * q + j) v)) np → FrC G G' → Q (some (.int 1)) G') : A 2 M_af_stake 0 [some (.ref 20), some (.int x), some (.int k), some (.int v), none] [] G kc ks Q := by
  have hr := hC.root.1
  have hv0 : ¬ v = -1 → ¬ (0 ≤ v ∧ v ≤ 300) → ¬ (-1 ≤ v ∧ v ≤ 300) := by
    intro a b c
    have hm : (-1 : Int32).toInt = -1 := by decide
    have h0 : (0 : Int32).toInt = 0 := by decide
    have c1 := Int32.le_iff_toInt_le.mp c.1
    apply b
    refine ⟨Int32.le_iff_toInt_le.mpr ?_, c.2⟩
    have : v.toInt ≠ -1 := fun e => a (Int32.toInt_inj.mp (e.trans hm.symm))
    omega
  refine A.aload_k 0 rfl rfl rfl d_af_stake_0 ?_
  refine A.iload_k 1 rfl rfl d_af_stake_1 ?_
  refine A.callV1 s_af_85 ?_ (Nat.le_of_ble_eq_true rfl) (Nat.le_of_ble_eq_true rfl) (Nat.le_of_ble_eq_true rfl) d_af_stake_2 rfl (c_af_streetAt hC (fun s hs hx => ?_) (fun q0 => ?_))
  · apply Exists.intro
    repeat first | assumption | exact up_s | refine up_e (by first | decide | omega) ?_
  · dsimp only [psh]
    refine A.astore (Nat.le_of_ble_eq_true rfl) rfl rfl d_af_stake_5 ?_
    dsimp only [List.set]
    refine A.aload rfl rfl d_af_stake_7 ?_
    refine A.ifnull_r d_af_stake_9 ?_
    refine A.iload_k 2 rfl rfl d_af_stake_12 ?_
    refine A.iconst (v := 0) rfl d_af_stake_13 ?_
    refine A.bipush (v := 6) rfl d_af_stake_14 ?_
    refine A.callS3 s_af_76 (Nat.le_of_ble_eq_true rfl) (Nat.le_of_ble_eq_true rfl) (Nat.le_of_ble_eq_true rfl) d_af_stake_16 rfl (c_af_within (fun a1 a2 => ?_) (fun a3 => ?_))
    · dsimp only [psh]
      refine A.if_ne1 24 (by decide) d_af_stake_19 ?_
      obtain ⟨j, hj, rfl⟩ := in_lit (n := 6) (by decide) (by omega) a1 a2
      have hj : j < 7 := by omega
      obtain ⟨s1, ⟨g, s2, s3⟩, s4⟩ := hC.str.2 s hs
      refine A.iload_k 3 rfl rfl d_af_stake_24 ?_
      refine A.iconst (v := -1) rfl d_af_stake_25 ?_
      refine A.icmp_eq 42 (by decide) d_af_stake_26 (fun c26 => ?_) (fun c26 => ?_)
      · refine A.aload rfl rfl d_af_stake_42 ?_
        apply A.getfield f_af_214 d_af_stake_44
        · repeat first | assumption | exact up_s | refine up_e (by first | decide | omega) ?_
        · rfl
        refine A.iload_k 2 rfl rfl d_af_stake_47 ?_
        refine A.iload_k 3 rfl rfl d_af_stake_48 ?_
        apply A.iastore (j := j) d_af_stake_49
        · repeat first | assumption | exact up_s | refine up_e (by first | decide | omega) ?_
        · first | decide | omega
        · exact ixn (by omega)
        · exact hj
        refine A.iconst (v := 1) rfl d_af_stake_50 ?_
        refine A.zret d_af_stake_51 rfl (Or.inr rfl) ?_
        first | exact h1 s j hs hx hj rfl (by rw [c26]; decide) (by rw [c26]; decide) _ (hC.stk hw hs hj s3) (FrC.rf.up (by omega) (by omega)) | exact h1 s j hs hx hj rfl (Int32.le_trans (by decide) i1) i2 _ (hC.stk hw hs hj s3) (FrC.rf.up (by omega) (by omega))
      · refine A.iload_k 3 rfl rfl d_af_stake_29 ?_
        refine A.iconst (v := 0) rfl d_af_stake_30 ?_
        refine A.sipush (v := 300) rfl d_af_stake_31 ?_
        refine A.callS3 s_af_76 (Nat.le_of_ble_eq_true rfl) (Nat.le_of_ble_eq_true rfl) (Nat.le_of_ble_eq_true rfl) d_af_stake_34 rfl (c_af_within (fun i1 i2 => ?_) (fun i3 => ?_))
        · dsimp only [psh]
          refine A.if_ne1 42 (by decide) d_af_stake_37 ?_
          refine A.aload rfl rfl d_af_stake_42 ?_
          apply A.getfield f_af_214 d_af_stake_44
          · repeat first | assumption | exact up_s | refine up_e (by first | decide | omega) ?_
          · rfl
          refine A.iload_k 2 rfl rfl d_af_stake_47 ?_
          refine A.iload_k 3 rfl rfl d_af_stake_48 ?_
          apply A.iastore (j := j) d_af_stake_49
          · repeat first | assumption | exact up_s | refine up_e (by first | decide | omega) ?_
          · first | decide | omega
          · exact ixn (by omega)
          · exact hj
          refine A.iconst (v := 1) rfl d_af_stake_50 ?_
          refine A.zret d_af_stake_51 rfl (Or.inr rfl) ?_
          first | exact h1 s j hs hx hj rfl (by rw [c26]; decide) (by rw [c26]; decide) _ (hC.stk hw hs hj s3) (FrC.rf.up (by omega) (by omega)) | exact h1 s j hs hx hj rfl (Int32.le_trans (by decide) i1) i2 _ (hC.stk hw hs hj s3) (FrC.rf.up (by omega) (by omega))
        · dsimp only [psh]
          refine A.if_ne0 d_af_stake_37 (tgt := 42) (by decide) ?_
          refine A.iconst (v := 0) rfl d_af_stake_40 ?_
          refine A.zret d_af_stake_41 rfl (Or.inl rfl) ?_
          exact h0 (fun z => hv0 c26 i3 z.2.2)
    · dsimp only [psh]
      refine A.if_ne0 d_af_stake_19 (tgt := 24) (by decide) ?_
      refine A.iconst (v := 0) rfl d_af_stake_22 ?_
      refine A.zret d_af_stake_23 rfl (Or.inl rfl) ?_
      first | exact h0 (fun z => z.1.elim (fun q hq => q0 q hq.1 hq.2)) | exact h0 (fun z => z.2.1.elim (fun q hq => a3 (by rw [hq.2]; exact nI_bt (n := 6) (by decide) (by omega) (by omega))))
  · dsimp only [psh]
    refine A.astore (Nat.le_of_ble_eq_true rfl) rfl rfl d_af_stake_5 ?_
    dsimp only [List.set]
    refine A.aload rfl rfl d_af_stake_7 ?_
    refine A.ifnull_0 22 (by decide) d_af_stake_9 ?_
    refine A.iconst (v := 0) rfl d_af_stake_22 ?_
    refine A.zret d_af_stake_23 rfl (Or.inl rfl) ?_
    first | exact h0 (fun z => z.1.elim (fun q hq => q0 q hq.1 hq.2)) | exact h0 (fun z => z.2.1.elim (fun q hq => a3 (by rw [hq.2]; exact nI_bt (n := 6) (by decide) (by omega) (by omega))))
theorem c_af_countIn {s : Int32} (hC : CH G M np) (hn2 : np ≤ 24) (h : Q (some (.int (cntS M s np))) G) : A 3 M_af_countIn 0 [some (.ref 20), some (.int s), none, none] [] G kc ks Q := by
  have hr := hC.root.1
  obtain ⟨m, hl⟩ := hC.list.1
  have hcp := cpN_le hn2
  have loop : ∀ (k i : Nat), i ≤ np → np < i + k → A 3 M_af_countIn 4 [some (.ref 20), some (.int s), some (.int (cntS M s i)), some (.int (nI i))] [] G kc ks Q := by
    intro k
    induction k with
    | zero => intro i h1 h2; omega
    | succ k ih =>
      intro i h1 h2
      refine A.iload_k 3 rfl rfl d_af_countIn_4 ?_
      refine A.aload_k 0 rfl rfl rfl d_af_countIn_5 ?_
      apply A.getfield f_af_16 d_af_countIn_6
      · repeat first | assumption | exact up_s | refine up_e (by first | decide | omega) ?_
      · rfl
      refine A.callV0 s_af_89 ?_ (Nat.le_of_ble_eq_true rfl) (Nat.le_of_ble_eq_true rfl) (Nat.le_of_ble_eq_true rfl) d_af_countIn_9 rfl (c_al_size (by repeat first | assumption | exact up_s | refine up_e (by first | decide | omega) ?_) ?_)
      · apply Exists.intro
        repeat first | assumption | exact up_s | refine up_e (by first | decide | omega) ?_
      dsimp only [psh]
      refine A.icmp_ge 42 (by decide) d_af_countIn_12 (fun c12 => ?_) (fun c12 => ?_)
      · refine A.iload_k 2 rfl rfl d_af_countIn_42 ?_
        refine A.iret d_af_countIn_43 rfl ?_
        have e : i = np := by
          have := (nI_leI (by omega) (by omega)).mp c12
          omega
        subst e
        exact h
      · have hlt : i < np := Nat.lt_of_not_le (fun z => c12 (nI_le z (by omega)))
        obtain ⟨f, hf1, hf2⟩ := hC.list.2.1 (by omega)
        have hpl := (hC.pl hlt).1
        refine A.aload_k 0 rfl rfl rfl d_af_countIn_15 ?_
        apply A.getfield f_af_16 d_af_countIn_16
        · repeat first | assumption | exact up_s | refine up_e (by first | decide | omega) ?_
        · rfl
        refine A.iload_k 3 rfl rfl d_af_countIn_19 ?_
        refine A.callV1 s_af_179 ?_ (Nat.le_of_ble_eq_true rfl) (Nat.le_of_ble_eq_true rfl) (Nat.le_of_ble_eq_true rfl) d_af_countIn_20 rfl (c_al_get hl hf1 hlt (by omega) (hf2 i hlt) ?_)
        · apply Exists.intro
          repeat first | assumption | exact up_s | refine up_e (by first | decide | omega) ?_
        dsimp only [psh]
        refine A.cast1 (ci := 5) d_af_countIn_23 cl_af_93 rfl ?_ ?_
        · apply Exists.intro
          repeat first | assumption | exact up_s | refine up_e (by first | decide | omega) ?_
        apply A.getfield f_af_110 d_af_countIn_26
        · repeat first | assumption | exact up_s | refine up_e (by first | decide | omega) ?_
        · rfl
        refine A.iload_k 1 rfl rfl d_af_countIn_29 ?_
        refine A.icmp_ne 36 (by decide) d_af_countIn_30 (fun c30 => ?_) (fun c30 => ?_)
        · refine A.iincp (n := 3) rfl (Nat.le_of_ble_eq_true rfl) d_af_countIn_36 ?_
          dsimp only [List.set]
          refine A.goto 4 (by decide) d_af_countIn_39 ?_
          rw [nI_1]
          have ih := ih (i + 1) (by omega) (by omega)
          unfold cntS at ih
          first | rw [if_pos c30] at ih | rw [if_neg c30, Int32.add_zero] at ih
          exact ih
        · refine A.iincp (n := 2) rfl (Nat.le_of_ble_eq_true rfl) d_af_countIn_33 ?_
          dsimp only [List.set]
          refine A.iincp (n := 3) rfl (Nat.le_of_ble_eq_true rfl) d_af_countIn_36 ?_
          dsimp only [List.set]
          refine A.goto 4 (by decide) d_af_countIn_39 ?_
          rw [nI_1]
          have ih := ih (i + 1) (by omega) (by omega)
          unfold cntS at ih
          first | rw [if_pos c30] at ih | rw [if_neg c30, Int32.add_zero] at ih
          exact ih
  refine A.iconst (v := 0) rfl d_af_countIn_0 ?_
  refine A.istore_k 2 rfl (Nat.le_of_ble_eq_true rfl) rfl d_af_countIn_1 ?_
  dsimp only [List.set]
  refine A.iconst (v := 0) rfl d_af_countIn_2 ?_
  refine A.istore_k 3 rfl (Nat.le_of_ble_eq_true rfl) rfl d_af_countIn_3 ?_
  dsimp only [List.set]
  exact loop (np + 1) 0 (by omega) (by omega)
theorem cnt0_c {c nw : Nat} (h : CtF M c nw) : ∀ n, n ≤ nw → cnt0 M n = nI (min n c)
  | 0, _ => by rw [Nat.zero_min]; rfl
  | n + 1, hn => by
    unfold cnt0
    rw [cnt0_c h n (by omega)]
    obtain ⟨h1, h2, h3, h4, h5⟩ := h
    by_cases e : n < c
    · rw [if_pos (h4 n e), nI_1, Nat.min_eq_left (by omega), Nat.min_eq_left (by omega)]
    · obtain ⟨u, u1, u2, u3⟩ := h5 n (by omega) (by omega)
      rw [if_neg (show ¬ M 20 n = 0 from fun z => by rw [u3] at z; have := nI_inj (b := 0) (by omega) (by omega) z; omega), Int32.add_zero, Nat.min_eq_right (by omega), Nat.min_eq_right (by omega)]
theorem c_af_count {w : Int32} {nw : Nat} (hC : CH G M np) (hn : M 2 0 = nI np) (hn2 : np ≤ 24) (hw1 : M 19 0 = nI nw) (hw2 : nw ≤ 20) (h : Q (some (.int (ctM M np nw w))) G) : A 4 M_af_count 0 [some (.ref 20), some (.int w)] [] G kc ks Q := by
  have hr := hC.root.1
  obtain ⟨m, hl⟩ := hC.list.1
  obtain ⟨c, nw', b1, b2, b4⟩ := hC.ct
  obtain rfl : nw' = nw := nI_inj (by have := b4.2.1; omega) (by omega) (b4.1.symm.trans hw1)
  refine A.iload_k 1 rfl rfl d_af_count_0 ?_
  refine A.tsw [48, 53, 61, 67, 73, 79, 87, 95] 100 d_af_count_1 (by decide) (by decide) (by decide) (fun i t hi hx => ?_) (fun hx => ?_) (by decide)
  · subst hx
    rcases i with _ | _ | _ | _ | _ | _ | _ | _ | i
    · cases hi
      refine A.aload_k 0 rfl rfl rfl d_af_count_48 ?_
      apply A.getfield f_af_54 d_af_count_49
      · repeat first | assumption | exact up_s | refine up_e (by first | decide | omega) ?_
      · rfl
      refine A.iret d_af_count_52 rfl ?_
      exact h
    · cases hi
      have h : Q (some (.int (M 2 0))) G := h
      rw [hn] at h
      refine A.aload_k 0 rfl rfl rfl d_af_count_53 ?_
      apply A.getfield f_af_16 d_af_count_54
      · repeat first | assumption | exact up_s | refine up_e (by first | decide | omega) ?_
      · rfl
      refine A.callV0 s_af_89 ?_ (Nat.le_of_ble_eq_true rfl) (Nat.le_of_ble_eq_true rfl) (Nat.le_of_ble_eq_true rfl) d_af_count_57 rfl (c_al_size (by repeat first | assumption | exact up_s | refine up_e (by first | decide | omega) ?_) ?_)
      · apply Exists.intro
        repeat first | assumption | exact up_s | refine up_e (by first | decide | omega) ?_
      dsimp only [psh]
      refine A.iret d_af_count_60 rfl ?_
      exact h
    · cases hi
      refine A.aload_k 0 rfl rfl rfl d_af_count_61 ?_
      refine A.iconst (v := 1) rfl d_af_count_62 ?_
      refine A.callV1 s_af_253 ?_ (Nat.le_of_ble_eq_true rfl) (Nat.le_of_ble_eq_true rfl) (Nat.le_of_ble_eq_true rfl) d_af_count_63 rfl (c_af_countIn hC hn2 ?_)
      · apply Exists.intro
        repeat first | assumption | exact up_s | refine up_e (by first | decide | omega) ?_
      dsimp only [psh]
      refine A.iret d_af_count_66 rfl ?_
      exact h
    · cases hi
      refine A.aload_k 0 rfl rfl rfl d_af_count_67 ?_
      refine A.iconst (v := 2) rfl d_af_count_68 ?_
      refine A.callV1 s_af_253 ?_ (Nat.le_of_ble_eq_true rfl) (Nat.le_of_ble_eq_true rfl) (Nat.le_of_ble_eq_true rfl) d_af_count_69 rfl (c_af_countIn hC hn2 ?_)
      · apply Exists.intro
        repeat first | assumption | exact up_s | refine up_e (by first | decide | omega) ?_
      dsimp only [psh]
      refine A.iret d_af_count_72 rfl ?_
      exact h
    · cases hi
      refine A.aload_k 0 rfl rfl rfl d_af_count_73 ?_
      refine A.iconst (v := 3) rfl d_af_count_74 ?_
      refine A.callV1 s_af_253 ?_ (Nat.le_of_ble_eq_true rfl) (Nat.le_of_ble_eq_true rfl) (Nat.le_of_ble_eq_true rfl) d_af_count_75 rfl (c_af_countIn hC hn2 ?_)
      · apply Exists.intro
        repeat first | assumption | exact up_s | refine up_e (by first | decide | omega) ?_
      dsimp only [psh]
      refine A.iret d_af_count_78 rfl ?_
      exact h
    · cases hi
      refine A.aload_k 0 rfl rfl rfl d_af_count_79 ?_
      apply A.getfield f_af_43 d_af_count_80
      · repeat first | assumption | exact up_s | refine up_e (by first | decide | omega) ?_
      · rfl
      apply A.getfield f_af_256 d_af_count_83
      · repeat first | assumption | exact up_s | refine up_e (by first | decide | omega) ?_
      · rfl
      refine A.iret d_af_count_86 rfl ?_
      exact h
    · cases hi
      have h : Q (some (.int (cnt0 M nw'))) G := h
      rw [cnt0_c b4 nw' (by omega), Nat.min_eq_right b4.2.2.1] at h
      refine A.aload_k 0 rfl rfl rfl d_af_count_87 ?_
      apply A.getfield f_af_43 d_af_count_88
      · repeat first | assumption | exact up_s | refine up_e (by first | decide | omega) ?_
      · rfl
      apply A.getfield f_af_259 d_af_count_91
      · repeat first | assumption | exact up_s | refine up_e (by first | decide | omega) ?_
      · rfl
      refine A.iret d_af_count_94 rfl ?_
      exact h
    · cases hi
      refine A.aload_k 0 rfl rfl rfl d_af_count_95 ?_
      apply A.getfield f_af_67 d_af_count_96
      · repeat first | assumption | exact up_s | refine up_e (by first | decide | omega) ?_
      · rfl
      refine A.iret d_af_count_99 rfl ?_
      exact h
    · simp at hi
  · unfold ctM at h
    rw [if_neg (sw_out hx (by decide) (by decide)), if_neg (sw_out hx (by decide) (by decide)), if_neg (sw_out hx (by decide) (by decide)), if_neg (sw_out hx (by decide) (by decide)), if_neg (sw_out hx (by decide) (by decide)), if_neg (sw_out hx (by decide) (by decide)), if_neg (sw_out hx (by decide) (by decide)), if_neg (sw_out hx (by decide) (by decide))] at h
    refine A.iconst (v := -1) rfl d_af_count_100 ?_
    refine A.iret d_af_count_101 rfl ?_
    exact h
theorem c_af_lease {x h y r : Int32} (hC : CH G M np) (hw : WF M np)
    (h0 : ¬ (∃ p l, p < np ∧ x = nI p ∧ M 7 p = nI l ∧ l < 3 ∧ M 6 p = 0 ∧ (∃ q, q < 20 ∧ h = nI q) ∧ (1 ≤ y ∧ y ≤ M 9 (4 * p + l)) ∧ (0 ≤ r ∧ r ≤ 999)) → Q (some (.int (-1))) G)
    (h1 : ∀ p l o, p < np → x = nI p → M 7 p = nI l → l < 3 → M 6 p = 0 → o < 20 → h = nI o → (1 ≤ y ∧ y ≤ M 9 (4 * p + l)) → (0 ≤ r ∧ r ≤ 999) → ∀ G', CH G' (mLease M p l h y r) np → FrC G G' → Q (some (.int (nI (l + 1)))) G') : A 4 M_af_lease 0 [some (.ref 20), some (.int x), some (.int h), some (.int y), some (.int r), none] [] G kc ks Q := by
  have hr := hC.root.1
  have h24 := hw.2.1
  have same : ∀ p p' l : Nat, p < np → p' < np → x = nI p → x = nI p' → p' = p := fun p p' l h1 h2 e1 e2 => nI_inj (by omega) (by omega) (e2.symm.trans e1)
  have main : ∀ p o, p < np → x = nI p → M 6 p = 0 → o < 20 → h = nI o → (0 ≤ r ∧ r ≤ 999) → A 4 M_af_lease 41 [some (.ref 20), some (.int x), some (.int h), some (.int y), some (.int r), some (.ref (1000 + 16 * p))] [] G kc ks Q := by
    intro p o hp hx h6 ho hho hrr
    obtain ⟨l, l1, l2⟩ := hw.2.2.1 p
    have g : ¬ (M 6 p = 2 ∨ M 6 p = 3) := by rw [h6]; decide
    have hz := zM_of g l2 l1
    have hpl := (hC.pl hp).1
    obtain ⟨P, Y, R, a1, a2, a3, a4, a5⟩ := (hC.pl hp).2.1
    rw [hz] at a1 a5
    have hY : Y (l + 1 - 1) = M 9 (4 * p + l) := (a5 l (by omega)).2.1
    have fin : l < 3 → CH (up (up (up (up G (1002 + 16 * p) (aI 4 (upd P (l + 1) h))) (1003 + 16 * p) (aI 4 (upd Y (l + 1) y))) (1004 + 16 * p) (aI 4 (upd R (l + 1) r))) (1001 + 16 * p) (oB 3 [.ref (1002 + 16 * p), .ref (1003 + 16 * p), .ref (1004 + 16 * p), .int (nI (l + 1 + 1))])) (mLease M p l h y r) np := by
      intro hl
      have e6 : mLease M p l h y r 6 = M 6 := rfl
      have e7 : mLease M p l h y r 7 = upd (M 7) p (nI (l + 1)) := rfl
      have e8 : mLease M p l h y r 8 = upd (M 8) (4 * p + l + 1) h := rfl
      have e9 : mLease M p l h y r 9 = upd (M 9) (4 * p + l + 1) y := rfl
      have e10 : mLease M p l h y r 10 = upd (M 10) (4 * p + l + 1) r := rfl
      have eo : ∀ k, k ≠ 7 → k ≠ 8 → k ≠ 9 → k ≠ 10 → mLease M p l h y r k = M k := fun k a b c d => by
        unfold mLease
        rw [vn d, vn c, vn b, vn a]
      have hz' : zM (mLease M p l h y r) p = l + 2 := zM_of (by rw [e6]; exact g) (by rw [e7, upd_eq]) (by omega)
      refine hC.one hw hp (fun a ha => ?_) (fun k hk => eo k (by omega) (by omega) (by omega) (by omega)) (fun q k hq => ?_) (fun q k j hq j4 k8 k10 => ?_) ⟨?_, ⟨upd P (l + 1) h, upd Y (l + 1) y, upd R (l + 1) r, ?_, ?_, ?_, ?_, fun j hj => ?_⟩, ?_⟩
      · rw [up_n (by omega), up_n (by omega), up_n (by omega), up_n (by omega)]
      · by_cases c7 : k = 7
        · subst c7; rw [e7, upd_ne hq]; exact Or.inl rfl
        · by_cases c8 : 8 ≤ k ∧ k ≤ 10
          · exact Or.inr c8
          · rw [eo k c7 (by omega) (by omega) (by omega)]; exact Or.inl rfl
      · rcases (show k = 8 ∨ k = 9 ∨ k = 10 by omega) with rfl | rfl | rfl
        · rw [e8, upd_ne (by omega)]
        · rw [e9, upd_ne (by omega)]
        · rw [e10, upd_ne (by omega)]
      · repeat refine up_e (by omega) ?_
        rw [hpl]
        unfold plO
        rw [wVA (M' := mLease M p l h y r) (M := M) rfl, wVB (M' := mLease M p l h y r) (M := M) rfl]
        rfl
      · rw [hz']; exact up_s
      · repeat first | exact up_s | refine up_e (by omega) ?_
      · repeat first | exact up_s | refine up_e (by omega) ?_
      · repeat first | exact up_s | refine up_e (by omega) ?_
      · rw [hz'] at hj
        rw [e8, e9, e10]
        by_cases c : j = l + 1
        · subst c
          rw [upd_eq, upd_eq, upd_eq, ← Nat.add_assoc, upd_eq, upd_eq, upd_eq, if_neg (by omega)]
          exact ⟨rfl, rfl, rfl⟩
        · rw [upd_ne c, upd_ne c, upd_ne c, upd_ne (by omega), upd_ne (by omega), upd_ne (by omega)]
          exact a5 j (by omega)
      · exact (hC.pl hp).2.2.fr (by repeat first | rfl | refine up_e (by omega) ?_) rfl rfl rfl
    refine A.aload rfl rfl d_af_lease_41 ?_
    apply A.getfield f_af_113 d_af_lease_43
    · exact hpl
    · rfl
    refine A.iload_k 2 rfl rfl d_af_lease_46 ?_
    refine A.iload_k 3 rfl rfl d_af_lease_47 ?_
    refine A.iload rfl d_af_lease_48 ?_
    refine A.callV3 s_af_117 ?_ (Nat.le_of_ble_eq_true rfl) (Nat.le_of_ble_eq_true rfl) (Nat.le_of_ble_eq_true rfl) d_af_lease_50 rfl (c_ch_append a1 a2 a3 a4 (by omega) (by omega) (by omega) (by omega) (fun k1 k2 k3 => ?_) (fun k4 => ?_))
    · apply Exists.intro
      repeat first | assumption | exact up_s | refine up_e (by first | decide | omega) ?_
    · dsimp only [psh]
      refine A.if_eq1 d_af_lease_53 (tgt := 67) (by decide) ?_
      refine A.aload rfl rfl d_af_lease_56 ?_
      apply A.getfield f_af_113 d_af_lease_58
      · repeat first | exact hpl | refine up_e (by omega) ?_
      · rfl
      refine A.callV0 s_af_121 ?_ (Nat.le_of_ble_eq_true rfl) (Nat.le_of_ble_eq_true rfl) (Nat.le_of_ble_eq_true rfl) d_af_lease_61 rfl (c_ch_leases up_s (by omega) ?_)
      · apply Exists.intro
        repeat first | assumption | exact up_s | refine up_e (by first | decide | omega) ?_
      dsimp only [psh]
      refine A.goto 68 (by decide) d_af_lease_64 ?_
      refine A.iret d_af_lease_68 rfl ?_
      first | exact h0 (fun z => by
          obtain ⟨p', l', z1, z2, z3, z4, z5, z6, z7, z8⟩ := z
          obtain rfl := same p p' 0 hp z1 hx z2
          obtain rfl : l' = l := nI_inj (by omega) (by omega) (z3.symm.trans l2)
          exact k4 ⟨by omega, z7.1, by rw [hY]; exact z7.2⟩) | exact h1 p l o hp hx l2 (by omega) h6 ho hho ⟨k2, by rw [← hY]; exact k3⟩ hrr _ (fin (by omega)) (((((FrC.rf.up (by omega) (by omega)).up (by omega) (by omega)).up (by omega) (by omega)).up (by omega) (by omega)))
    · dsimp only [psh]
      refine A.if_eq0 67 (by decide) d_af_lease_53 ?_
      refine A.iconst (v := -1) rfl d_af_lease_67 ?_
      refine A.iret d_af_lease_68 rfl ?_
      first | exact h0 (fun z => by
          obtain ⟨p', l', z1, z2, z3, z4, z5, z6, z7, z8⟩ := z
          obtain rfl := same p p' 0 hp z1 hx z2
          obtain rfl : l' = l := nI_inj (by omega) (by omega) (z3.symm.trans l2)
          exact k4 ⟨by omega, z7.1, by rw [hY]; exact z7.2⟩) | exact h1 p l o hp hx l2 (by omega) h6 ho hho ⟨k2, by rw [← hY]; exact k3⟩ hrr _ (fin (by omega)) (((((FrC.rf.up (by omega) (by omega)).up (by omega) (by omega)).up (by omega) (by omega)).up (by omega) (by omega)))
  refine A.aload_k 0 rfl rfl rfl d_af_lease_0 ?_
  refine A.iload_k 1 rfl rfl d_af_lease_1 ?_
  refine A.callV1 s_af_106 ?_ (Nat.le_of_ble_eq_true rfl) (Nat.le_of_ble_eq_true rfl) (Nat.le_of_ble_eq_true rfl) d_af_lease_2 rfl (c_af_plotAt hC hw.2.1 (fun p hp hx => ?_) (fun q0 => ?_))
  · apply Exists.intro
    repeat first | assumption | exact up_s | refine up_e (by first | decide | omega) ?_
  · dsimp only [psh]
    refine A.astore (Nat.le_of_ble_eq_true rfl) rfl rfl d_af_lease_5 ?_
    dsimp only [List.set]
    refine A.aload rfl rfl d_af_lease_7 ?_
    refine A.ifnull_r d_af_lease_9 ?_
    refine A.aload rfl rfl d_af_lease_12 ?_
    apply A.getfield f_af_110 d_af_lease_14
    · exact (hC.pl hp).1
    · rfl
    refine A.if_ne 39 (by decide) d_af_lease_17 (fun c17 => ?_) (fun c17 => ?_)
    · refine A.iconst (v := -1) rfl d_af_lease_39 ?_
      refine A.iret d_af_lease_40 rfl ?_
      refine h0 (fun z => ?_)
      obtain ⟨p', l', z1, z2, z3, z4, z5, ⟨o', z6, z62⟩, z7, z8⟩ := z
      first | exact q0 p' z1 z2 | (obtain rfl := same p p' 0 hp z1 hx z2; first | exact c17 z5 | exact j3 o' z6 z62 | exact i3 z8)
    · refine A.iload_k 2 rfl rfl d_af_lease_20 ?_
      refine A.callS1 s_af_71 (Nat.le_of_ble_eq_true rfl) (Nat.le_of_ble_eq_true rfl) (Nat.le_of_ble_eq_true rfl) d_af_lease_21 rfl (c_af_isPerson (fun o j1 j2 => ?_) (fun j3 => ?_))
      · dsimp only [psh]
        refine A.if_eq1 d_af_lease_24 (tgt := 39) (by decide) ?_
        refine A.iload rfl d_af_lease_27 ?_
        refine A.iconst (v := 0) rfl d_af_lease_29 ?_
        refine A.sipush (v := 999) rfl d_af_lease_30 ?_
        refine A.callS3 s_af_76 (Nat.le_of_ble_eq_true rfl) (Nat.le_of_ble_eq_true rfl) (Nat.le_of_ble_eq_true rfl) d_af_lease_33 rfl (c_af_within (fun i1 i2 => ?_) (fun i3 => ?_))
        · dsimp only [psh]
          refine A.if_ne1 41 (by decide) d_af_lease_36 ?_
          exact main p o hp hx c17 j1 j2 ⟨i1, i2⟩
        · dsimp only [psh]
          refine A.if_ne0 d_af_lease_36 (tgt := 41) (by decide) ?_
          refine A.iconst (v := -1) rfl d_af_lease_39 ?_
          refine A.iret d_af_lease_40 rfl ?_
          refine h0 (fun z => ?_)
          obtain ⟨p', l', z1, z2, z3, z4, z5, ⟨o', z6, z62⟩, z7, z8⟩ := z
          first | exact q0 p' z1 z2 | (obtain rfl := same p p' 0 hp z1 hx z2; first | exact c17 z5 | exact j3 o' z6 z62 | exact i3 z8)
      · dsimp only [psh]
        refine A.if_eq0 39 (by decide) d_af_lease_24 ?_
        refine A.iconst (v := -1) rfl d_af_lease_39 ?_
        refine A.iret d_af_lease_40 rfl ?_
        refine h0 (fun z => ?_)
        obtain ⟨p', l', z1, z2, z3, z4, z5, ⟨o', z6, z62⟩, z7, z8⟩ := z
        first | exact q0 p' z1 z2 | (obtain rfl := same p p' 0 hp z1 hx z2; first | exact c17 z5 | exact j3 o' z6 z62 | exact i3 z8)
  · dsimp only [psh]
    refine A.astore (Nat.le_of_ble_eq_true rfl) rfl rfl d_af_lease_5 ?_
    dsimp only [List.set]
    refine A.aload rfl rfl d_af_lease_7 ?_
    refine A.ifnull_0 39 (by decide) d_af_lease_9 ?_
    refine A.iconst (v := -1) rfl d_af_lease_39 ?_
    refine A.iret d_af_lease_40 rfl ?_
    refine h0 (fun z => ?_)
    obtain ⟨p', l', z1, z2, z3, z4, z5, ⟨o', z6, z62⟩, z7, z8⟩ := z
    first | exact q0 p' z1 z2 | (obtain rfl := same p p' 0 hp z1 hx z2; first | exact c17 z5 | exact j3 o' z6 z62 | exact i3 z8)
end AF4
