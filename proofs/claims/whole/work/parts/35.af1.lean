/-! the component's small methods -/
section AF1
variable {M S : MS} {G : AHp} {kc ks np : Nat} {Q : Option Value → AHp → Prop}
theorem c_af_plotAt {x : Int32} (hC : CH G M np) (h24 : np ≤ 24) (h1 : ∀ p, p < np → x = nI p → Q (some (.ref (1000 + 16 * p))) G) (h0 : (∀ q, q < np → x ≠ nI q) → Q (some .null) G) : A 3 M_af_plotAt 0 [some (.ref 20), some (.int x)] [] G kc ks Q := by
  have hr := hC.root.1
  obtain ⟨m, hl⟩ := hC.list.1
  refine A.iload_k 1 rfl rfl d_af_plotAt_0 ?_
  refine A.iconst (v := 0) rfl d_af_plotAt_1 ?_
  refine A.aload_k 0 rfl rfl rfl d_af_plotAt_2 ?_
  apply A.getfield f_af_16 d_af_plotAt_3
  · repeat first | assumption | exact up_s | refine up_e (by first | decide | omega) ?_
  · rfl
  refine A.callV0 s_af_89 ?_ (Nat.le_of_ble_eq_true rfl) (Nat.le_of_ble_eq_true rfl) (Nat.le_of_ble_eq_true rfl) d_af_plotAt_6 rfl (c_al_size (by repeat first | assumption | exact up_s | refine up_e (by first | decide | omega) ?_) ?_)
  · apply Exists.intro
    repeat first | assumption | exact up_s | refine up_e (by first | decide | omega) ?_
  dsimp only [psh]
  refine A.iconst (v := 1) rfl d_af_plotAt_9 ?_
  refine A.isub d_af_plotAt_10 ?_
  refine A.callS3 s_af_76 (Nat.le_of_ble_eq_true rfl) (Nat.le_of_ble_eq_true rfl) (Nat.le_of_ble_eq_true rfl) d_af_plotAt_11 rfl (c_af_within (fun i1 i2 => ?_) (fun i3 => ?_))
  · dsimp only [psh]
    refine A.if_eq1 d_af_plotAt_14 (tgt := 31) (by decide) ?_
    obtain ⟨p, hp, rfl⟩ := in_np (by omega) i1 i2
    obtain ⟨f, hf1, hf2⟩ := hC.list.2.1 (by omega)
    have hcp := cpN_le h24
    have hpl := (hC.pl hp).1
    refine A.aload_k 0 rfl rfl rfl d_af_plotAt_17 ?_
    apply A.getfield f_af_16 d_af_plotAt_18
    · repeat first | assumption | exact up_s | refine up_e (by first | decide | omega) ?_
    · rfl
    refine A.iload_k 1 rfl rfl d_af_plotAt_21 ?_
    refine A.callV1 s_af_179 ?_ (Nat.le_of_ble_eq_true rfl) (Nat.le_of_ble_eq_true rfl) (Nat.le_of_ble_eq_true rfl) d_af_plotAt_22 rfl (c_al_get hl hf1 hp (by omega) (hf2 p hp) ?_)
    · apply Exists.intro
      repeat first | assumption | exact up_s | refine up_e (by first | decide | omega) ?_
    dsimp only [psh]
    refine A.cast1 (ci := 5) d_af_plotAt_25 cl_af_93 rfl ?_ ?_
    · apply Exists.intro
      exact hpl
    refine A.goto 32 (by decide) d_af_plotAt_28 ?_
    refine A.aret d_af_plotAt_32 rfl (Or.inl ⟨_, rfl⟩) rfl ?_
    first | exact h1 p hp rfl | exact h0 (nin_np (by omega) i3)
  · dsimp only [psh]
    refine A.if_eq0 31 (by decide) d_af_plotAt_14 ?_
    refine A.null d_af_plotAt_31 ?_
    refine A.aret d_af_plotAt_32 rfl (Or.inl ⟨_, rfl⟩) rfl ?_
    first | exact h1 p hp rfl | exact h0 (nin_np (by omega) i3)
theorem c_af_streetAt {x : Int32} (hC : CH G M np) (h1 : ∀ q, q < 6 → x = nI q → Q (some (.ref (40 + q))) G) (h0 : (∀ q, q < 6 → x ≠ nI q) → Q (some .null) G) : A 1 M_af_streetAt 0 [some (.ref 20), some (.int x)] [] G kc ks Q := by
  have hr := hC.root.1
  obtain ⟨f, hf1, hf2⟩ := hC.str.1
  refine A.iload_k 1 rfl rfl d_af_streetAt_0 ?_
  refine A.iconst (v := 0) rfl d_af_streetAt_1 ?_
  refine A.iconst (v := 5) rfl d_af_streetAt_2 ?_
  refine A.callS3 s_af_76 (Nat.le_of_ble_eq_true rfl) (Nat.le_of_ble_eq_true rfl) (Nat.le_of_ble_eq_true rfl) d_af_streetAt_3 rfl (c_af_within (fun i1 i2 => ?_) (fun i3 => ?_))
  · dsimp only [psh]
    refine A.if_eq1 d_af_streetAt_6 (tgt := 18) (by decide) ?_
    obtain ⟨q, hq, rfl⟩ := in_lit (n := 5) (by decide) (by omega) i1 i2
    have hq : q < 6 := by omega
    refine A.aload_k 0 rfl rfl rfl d_af_streetAt_9 ?_
    apply A.getfield f_af_22 d_af_streetAt_10
    · repeat first | assumption | exact up_s | refine up_e (by first | decide | omega) ?_
    · rfl
    refine A.iload_k 1 rfl rfl d_af_streetAt_13 ?_
    apply A.aaload (j := q) d_af_streetAt_14
    · repeat first | assumption | exact up_s | refine up_e (by first | decide | omega) ?_
    · exact ixn (by omega)
    · exact hq
    rw [hf2 q hq]
    refine A.goto 19 (by decide) d_af_streetAt_15 ?_
    refine A.aret d_af_streetAt_19 rfl (Or.inl ⟨_, rfl⟩) rfl ?_
    first | exact h1 q hq rfl | exact h0 (fun q hq e => i3 (by rw [e]; exact nI_bt (n := 5) (by decide) (by omega) (by omega)))
  · dsimp only [psh]
    refine A.if_eq0 18 (by decide) d_af_streetAt_6 ?_
    refine A.null d_af_streetAt_18 ?_
    refine A.aret d_af_streetAt_19 rfl (Or.inl ⟨_, rfl⟩) rfl ?_
    first | exact h1 q hq rfl | exact h0 (fun q hq e => i3 (by rw [e]; exact nI_bt (n := 5) (by decide) (by omega) (by omega)))
theorem c_af_give {q : Nat} {n : Int32} {f : Nat → Int32} {fs : List Value} (hr : G 20 = some (oB 0 (.ref 21 :: fs))) (h21 : G 21 = some (aI 20 f)) (hq : q < 20) (h : Q none (up G 21 (aI 20 (upd f q (f q + n))))) : A 2 M_af_give 0 [some (.ref 20), some (.int (nI q)), some (.int n)] [] G kc ks Q := by
  refine A.iload_k 1 rfl rfl d_af_give_0 ?_
  refine A.callS1 s_af_71 (Nat.le_of_ble_eq_true rfl) (Nat.le_of_ble_eq_true rfl) (Nat.le_of_ble_eq_true rfl) d_af_give_1 rfl (c_af_isPerson (fun o j1 j2 => ?_) (fun j3 => absurd rfl (j3 q hq)))
  dsimp only [psh]
  refine A.if_eq1 d_af_give_4 (tgt := 17) (by decide) ?_
  refine A.aload_k 0 rfl rfl rfl d_af_give_7 ?_
  apply A.getfield f_af_9 d_af_give_8
  · repeat first | assumption | exact up_s | refine up_e (by first | decide | omega) ?_
  · rfl
  refine A.iload_k 1 rfl rfl d_af_give_11 ?_
  refine A.dup2 rfl rfl d_af_give_12 ?_
  apply A.iaload (j := q) d_af_give_13
  · repeat first | assumption | exact up_s | refine up_e (by first | decide | omega) ?_
  · exact ixn (by omega)
  · exact hq
  refine A.iload_k 2 rfl rfl d_af_give_14 ?_
  refine A.iadd d_af_give_15 ?_
  apply A.iastore (j := q) d_af_give_16
  · repeat first | assumption | exact up_s | refine up_e (by first | decide | omega) ?_
  · first | decide | omega
  · exact ixn (by omega)
  · exact hq
  refine A.vret d_af_give_17 rfl ?_
  exact h
def mvP (f : Nat → Int32) (q r : Nat) (n : Int32) : Nat → Int32 := upd (upd f q (f q - n)) r (upd f q (f q - n) r + n)
theorem c_af_move {q r : Nat} {n : Int32} {f : Nat → Int32} {fs : List Value} (hr : G 20 = some (oB 0 (.ref 21 :: fs))) (h21 : G 21 = some (aI 20 f)) (hq : q < 20) (hr2 : r < 20) (h : Q none (up G 21 (aI 20 (mvP f q r n)))) : A 3 M_af_move 0 [some (.ref 20), some (.int (nI q)), some (.int (nI r)), some (.int n)] [] G kc ks Q := by
  refine A.aload_k 0 rfl rfl rfl d_af_move_0 ?_
  refine A.iload_k 1 rfl rfl d_af_move_1 ?_
  refine A.iload_k 3 rfl rfl d_af_move_2 ?_
  refine A.ineg d_af_move_3 ?_
  refine A.callV2 s_af_81 ?_ (Nat.le_of_ble_eq_true rfl) (Nat.le_of_ble_eq_true rfl) (Nat.le_of_ble_eq_true rfl) d_af_move_4 rfl (c_af_give hr h21 hq ?_)
  · apply Exists.intro
    repeat first | assumption | exact up_s | refine up_e (by first | decide | omega) ?_
  dsimp only [psh]
  refine A.aload_k 0 rfl rfl rfl d_af_move_7 ?_
  refine A.iload_k 2 rfl rfl d_af_move_8 ?_
  refine A.iload_k 3 rfl rfl d_af_move_9 ?_
  refine A.callV2 s_af_81 ?_ (Nat.le_of_ble_eq_true rfl) (Nat.le_of_ble_eq_true rfl) (Nat.le_of_ble_eq_true rfl) d_af_move_10 rfl (c_af_give (up_e (by decide) hr) up_s hr2 ?_)
  · apply Exists.intro
    repeat first | assumption | exact up_s | refine up_e (by first | decide | omega) ?_
  dsimp only [psh]
  refine A.vret d_af_move_13 rfl ?_
  rw [up_up]
  unfold mvP at h
  rw [Int32.sub_eq_add_neg] at h
  exact h
theorem c_af_costOf {a : Nat} {x y r : Int32} {fs : List Value} {u0 u1 u2 u3 u4 u5 u6 u7 : Value} {gs : List Value} (hr : G 20 = some (oB 0 (u0 :: u1 :: u2 :: u3 :: u4 :: u5 :: u6 :: u7 :: .int r :: gs))) (ha : G a = some (oB 5 (.int x :: .int y :: fs))) (h : Q (some (.int (x * y * r))) G) : A 0 M_af_costOf 0 [some (.ref 20), some (.ref a)] [] G kc ks Q := by
  refine A.aload_k 1 rfl rfl rfl d_af_costOf_0 ?_
  apply A.getfield f_af_232 d_af_costOf_1
  · repeat first | assumption | exact up_s | refine up_e (by first | decide | omega) ?_
  · rfl
  refine A.aload_k 1 rfl rfl rfl d_af_costOf_4 ?_
  apply A.getfield f_af_235 d_af_costOf_5
  · repeat first | assumption | exact up_s | refine up_e (by first | decide | omega) ?_
  · rfl
  refine A.imul d_af_costOf_8 ?_
  refine A.aload_k 0 rfl rfl rfl d_af_costOf_9 ?_
  apply A.getfield f_af_58 d_af_costOf_10
  · repeat first | assumption | exact up_s | refine up_e (by first | decide | omega) ?_
  · rfl
  refine A.imul d_af_costOf_13 ?_
  refine A.iret d_af_costOf_14 rfl ?_
  exact h
end AF1
