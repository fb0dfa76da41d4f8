/-! the component: the search over the plan -/
section SEARCH
variable {M S : MS} {G : AHp} {kc ks np : Nat} {Q : Option Value → AHp → Prop}
def keepB (best : Nat × Nat) (w b : Nat) : Nat × Nat := if best.1 < w ∨ (w = best.1 ∧ b < best.2) then (w, b) else best
def wsum (wt : Nat → Nat) : List Nat → Nat
  | [] => 0
  | p :: R => wt p + wsum wt R
def src (nd wt : Nat → Nat) (r : Nat → Int) : List Nat → Nat → Nat → Nat → Nat × Nat → Nat × Nat
  | [], _, w, b, best => keepB best w b
  | p :: R, u, w, b, best => if w + wsum wt (p :: R) < best.1 then best else src nd wt r R u w b (if ((u + nd p : Nat) : Int) ≤ r p then src nd wt r R (u + nd p) (w + wt p) (b ||| 2 ^ p) best else best)
theorem or_lt24 {a p : Nat} (ha : a < 2 ^ 24) (hp : p < 24) : a ||| 2 ^ p < 2 ^ 24 := Nat.or_lt_two_pow ha (Nat.pow_lt_pow_right (by omega) hp)
theorem keepB_bd {best : Nat × Nat} {w b : Nat} (h : best.1 ≤ 10000 ∧ best.2 < 2 ^ 24) (hw : w ≤ 10000) (hb : b < 2 ^ 24) : (keepB best w b).1 ≤ 10000 ∧ (keepB best w b).2 < 2 ^ 24 := by
  unfold keepB
  split
  · exact ⟨hw, hb⟩
  · exact h
theorem src_bd {nd wt : Nat → Nat} {r : Nat → Int} : ∀ (R : List Nat) (u w b : Nat) (best : Nat × Nat), (∀ p, p ∈ R → p < 24) → w + wsum wt R ≤ 10000 → b < 2 ^ 24 → (best.1 ≤ 10000 ∧ best.2 < 2 ^ 24) → ((src nd wt r R u w b best).1 ≤ 10000 ∧ (src nd wt r R u w b best).2 < 2 ^ 24)
  | [], u, w, b, best, _, hw, hb, h => keepB_bd h (by unfold wsum at hw; omega) hb
  | p :: R, u, w, b, best, hp, hw, hb, h => by
    unfold src
    split
    · exact h
    · have hw' : w + (wt p + wsum wt R) ≤ 10000 := hw
      refine src_bd R u w b _ (fun q hq => hp q (List.mem_cons_of_mem _ hq)) (by omega) hb ?_
      split
      · exact src_bd R _ _ _ _ (fun q hq => hp q (List.mem_cons_of_mem _ hq)) (by omega) (or_lt24 hb (hp p (List.mem_cons_self ..))) h
      · exact h
def bpO (n : Nat) (best : Nat × Nat) : ACell := oB 2 [.ref 30, .ref 31, .ref 32, .ref 33, .ref 34, .int (nI n), .int (nI best.1), .int (nI best.2)]
theorem c_bp_keep {n w b : Nat} {best : Nat × Nat} (hw : w ≤ 10000) (hb : b < 2 ^ 24) (hbd : best.1 ≤ 10000 ∧ best.2 < 2 ^ 24) (h : Q none (up G 25 (bpO n (keepB best w b)))) : A 0 M_bp_keepIfBetter 0 [some (.ref 25), some (.int (nI w)), some (.int (nI b))] [] (up G 25 (bpO n best)) kc ks Q := by
  have h24 : (2 : Nat) ^ 24 = 16777216 := by decide
  unfold keepB at h
  refine A.iload_k 1 rfl rfl d_bp_keepIfBetter_0 ?_
  refine A.aload_k 0 rfl rfl rfl d_bp_keepIfBetter_1 ?_
  apply A.getfield f_bp_31 d_bp_keepIfBetter_2
  · exact up_s
  · rfl
  refine A.icmp_gt 24 (by decide) d_bp_keepIfBetter_5 (fun c5 => ?_) (fun c5 => ?_)
  · refine A.aload_k 0 rfl rfl rfl d_bp_keepIfBetter_24 ?_
    refine A.iload_k 1 rfl rfl d_bp_keepIfBetter_25 ?_
    apply A.putfield p_bp_31 d_bp_keepIfBetter_26
    · exact up_s
    · exact (Nat.le_of_ble_eq_true rfl)
    · rfl
    dsimp only [List.set]
    refine A.aload_k 0 rfl rfl rfl d_bp_keepIfBetter_29 ?_
    refine A.iload_k 2 rfl rfl d_bp_keepIfBetter_30 ?_
    apply A.putfield p_bp_34 d_bp_keepIfBetter_31
    · exact up_s
    · exact (Nat.le_of_ble_eq_true rfl)
    · rfl
    dsimp only [List.set]
    refine A.vret d_bp_keepIfBetter_34 rfl ?_
    first | (rw [if_pos (Or.inl ((nI_ltI (by omega) (by omega)).mp c5))] at h; rw [up_up, up_up]; exact h) | (rw [if_pos (Or.inr ⟨(nI_eq (by omega) (by omega)).mp c13, by have : ¬ best.2 ≤ b := fun z => c21 (nI_le z (by omega)); omega⟩)] at h; rw [up_up, up_up]; exact h) | (rw [if_neg (fun z => z.elim (fun z => c5 ((nI_ltI (by omega) (by omega)).mpr z)) (fun z => by have := (nI_leI (by omega) (by omega)).mp c21; omega))] at h; exact h) | (rw [if_neg (fun z => z.elim (fun z => c5 ((nI_ltI (by omega) (by omega)).mpr z)) (fun z => c13 (by rw [z.1])))] at h; exact h)
  · refine A.iload_k 1 rfl rfl d_bp_keepIfBetter_8 ?_
    refine A.aload_k 0 rfl rfl rfl d_bp_keepIfBetter_9 ?_
    apply A.getfield f_bp_31 d_bp_keepIfBetter_10
    · exact up_s
    · rfl
    refine A.icmp_ne 34 (by decide) d_bp_keepIfBetter_13 (fun c13 => ?_) (fun c13 => ?_)
    · refine A.vret d_bp_keepIfBetter_34 rfl ?_
      first | (rw [if_pos (Or.inl ((nI_ltI (by omega) (by omega)).mp c5))] at h; rw [up_up, up_up]; exact h) | (rw [if_pos (Or.inr ⟨(nI_eq (by omega) (by omega)).mp c13, by have : ¬ best.2 ≤ b := fun z => c21 (nI_le z (by omega)); omega⟩)] at h; rw [up_up, up_up]; exact h) | (rw [if_neg (fun z => z.elim (fun z => c5 ((nI_ltI (by omega) (by omega)).mpr z)) (fun z => by have := (nI_leI (by omega) (by omega)).mp c21; omega))] at h; exact h) | (rw [if_neg (fun z => z.elim (fun z => c5 ((nI_ltI (by omega) (by omega)).mpr z)) (fun z => c13 (by rw [z.1])))] at h; exact h)
    · refine A.iload_k 2 rfl rfl d_bp_keepIfBetter_16 ?_
      refine A.aload_k 0 rfl rfl rfl d_bp_keepIfBetter_17 ?_
      apply A.getfield f_bp_34 d_bp_keepIfBetter_18
      · exact up_s
      · rfl
      refine A.icmp_ge 34 (by decide) d_bp_keepIfBetter_21 (fun c21 => ?_) (fun c21 => ?_)
      · refine A.vret d_bp_keepIfBetter_34 rfl ?_
        first | (rw [if_pos (Or.inl ((nI_ltI (by omega) (by omega)).mp c5))] at h; rw [up_up, up_up]; exact h) | (rw [if_pos (Or.inr ⟨(nI_eq (by omega) (by omega)).mp c13, by have : ¬ best.2 ≤ b := fun z => c21 (nI_le z (by omega)); omega⟩)] at h; rw [up_up, up_up]; exact h) | (rw [if_neg (fun z => z.elim (fun z => c5 ((nI_ltI (by omega) (by omega)).mpr z)) (fun z => by have := (nI_leI (by omega) (by omega)).mp c21; omega))] at h; exact h) | (rw [if_neg (fun z => z.elim (fun z => c5 ((nI_ltI (by omega) (by omega)).mpr z)) (fun z => c13 (by rw [z.1])))] at h; exact h)
      · refine A.aload_k 0 rfl rfl rfl d_bp_keepIfBetter_24 ?_
        refine A.iload_k 1 rfl rfl d_bp_keepIfBetter_25 ?_
        apply A.putfield p_bp_31 d_bp_keepIfBetter_26
        · exact up_s
        · exact (Nat.le_of_ble_eq_true rfl)
        · rfl
        dsimp only [List.set]
        refine A.aload_k 0 rfl rfl rfl d_bp_keepIfBetter_29 ?_
        refine A.iload_k 2 rfl rfl d_bp_keepIfBetter_30 ?_
        apply A.putfield p_bp_34 d_bp_keepIfBetter_31
        · exact up_s
        · exact (Nat.le_of_ble_eq_true rfl)
        · rfl
        dsimp only [List.set]
        refine A.vret d_bp_keepIfBetter_34 rfl ?_
        first | (rw [if_pos (Or.inl ((nI_ltI (by omega) (by omega)).mp c5))] at h; rw [up_up, up_up]; exact h) | (rw [if_pos (Or.inr ⟨(nI_eq (by omega) (by omega)).mp c13, by have : ¬ best.2 ≤ b := fun z => c21 (nI_le z (by omega)); omega⟩)] at h; rw [up_up, up_up]; exact h) | (rw [if_neg (fun z => z.elim (fun z => c5 ((nI_ltI (by omega) (by omega)).mpr z)) (fun z => by have := (nI_leI (by omega) (by omega)).mp c21; omega))] at h; exact h) | (rw [if_neg (fun z => z.elim (fun z => c5 ((nI_ltI (by omega) (by omega)).mpr z)) (fun z => c13 (by rw [z.1])))] at h; exact h)
theorem or_nI {a c : Nat} (ha : a < 2 ^ 24) (hc : c < 2 ^ 24) : nI a ||| nI c = nI (a ||| c) := by
  have h := Nat.or_lt_two_pow ha hc
  apply Int32.toBitVec_inj.mp
  apply BitVec.eq_of_toNat_eq
  show (BitVec.ofNat 32 a ||| BitVec.ofNat 32 c).toNat = (BitVec.ofNat 32 (a ||| c)).toNat
  rw [BitVec.toNat_or, BitVec.toNat_ofNat, BitVec.toNat_ofNat, BitVec.toNat_ofNat, Nat.mod_eq_of_lt (by omega), Nat.mod_eq_of_lt (by omega), Nat.mod_eq_of_lt (by omega)]
theorem shl24 {p : Nat} (hp : p < 24) : (1 : Int32) <<< (nI p &&& 31) = nI (2 ^ p) := by
  have : ∀ m : Fin 24, (1 : Int32) <<< (nI m.val &&& 31) = nI (2 ^ m.val) := by decide
  exact this ⟨p, hp⟩
/-- the cells that the search reads -/
def BrR (G : AHp) (M : MS) (b : Int32) (Z : List Nat) (nd wt : Nat → Nat) : Prop := ∃ fn fd fw fr ft : Nat → Int32, G 30 = some (aI 12 fn) ∧ G 31 = some (aI 12 fd) ∧ G 32 = some (aI 12 fw) ∧ G 33 = some (aI 12 fr) ∧ G 34 = some (aI 13 ft) ∧ (∀ k, k < Z.length → fn k = nI (Z.getD k 0) ∧ fd k = nI (nd (Z.getD k 0)) ∧ fw k = nI (wt (Z.getD k 0)) ∧ fr k = rmI M b (Z.getD k 0)) ∧ ∀ k, k ≤ Z.length → ft k = nI (wsum wt (Z.drop k))
theorem c_bp_search {b : Int32} {Z : List Nat} {nd wt : Nat → Nat} (hZ : BrR G M b Z nd wt) (h12 : Z.length ≤ 12) (hv : ∀ p, p ∈ Z → p < 24 ∧ nd p ≤ 160 ∧ wt p ≤ 300) : ∀ (R : List Nat) (next u w bt : Nat) (best : Nat × Nat) (Q : Option Value → AHp → Prop), next ≤ Z.length → Z.drop next = R → u ≤ 160 * next → w + wsum wt R ≤ 10000 → bt < 2 ^ 24 → (best.1 ≤ 10000 ∧ best.2 < 2 ^ 24) → Q none (up G 25 (bpO Z.length (src nd wt (fun p => (rmI M b p).toInt) R u w bt best))) → A (R.length + 1) M_bp_search 0 [some (.ref 25), some (.int (nI next)), some (.int (nI u)), some (.int (nI w)), some (.int (nI bt)), none] [] (up G 25 (bpO Z.length best)) 0 0 Q
  | [], next, u, w, bt, best, Q, hn, hd, hu, hw, hb, hbd, h => by
    have : next = Z.length := by
      have := congrArg List.length hd
      rw [List.length_drop] at this
      have : Z.length - next = 0 := this
      omega
    subst this
    unfold wsum at hw
    refine A.iload_k 1 rfl rfl d_bp_search_0 ?_
    refine A.aload_k 0 rfl rfl rfl d_bp_search_1 ?_
    apply A.getfield f_bp_27 d_bp_search_2
    · exact up_s
    · rfl
    refine A.icmp_lt 16 (by decide) d_bp_search_5 (fun c5 => ?_) (fun c5 => ?_)
    · exact absurd ((nI_ltI (by omega) (by omega)).mp c5) (by omega)
    refine A.aload_k 0 rfl rfl rfl d_bp_search_8 ?_
    refine A.iload_k 3 rfl rfl d_bp_search_9 ?_
    refine A.iload rfl d_bp_search_10 ?_
    refine A.callV2 s_bp_53 ?_ (Nat.le_of_ble_eq_true rfl) (Nat.le_of_ble_eq_true rfl) (Nat.le_of_ble_eq_true rfl) d_bp_search_12 rfl (c_bp_keep (by omega) hb hbd ?_)
    · apply Exists.intro
      exact up_s
    dsimp only [psh]
    refine A.vret d_bp_search_15 rfl ?_
    exact h
  | p :: R, next, u, w, bt, best, Q, hn, hd, hu, hw, hb, hbd, h => by
    have h24 : (2 : Nat) ^ 24 = 16777216 := by decide
    have hlt : next < Z.length := by
      have := congrArg List.length hd
      rw [List.length_drop, List.length_cons] at this
      omega
    have hget : Z.getD next 0 = p := by
      have := congrArg (fun L => L[0]?) hd
      rw [List.getElem?_drop] at this
      rw [List.getD_eq_getElem?_getD, ← Nat.add_zero next, this]
      rfl
    have hd' : Z.drop (next + 1) = R := by
      have := congrArg List.tail hd
      rw [List.tail_drop] at this
      exact this
    have hmem : p ∈ Z := List.mem_of_mem_drop (by rw [hd]; exact List.mem_cons_self ..)
    obtain ⟨p24, hnd, hwt⟩ := hv p hmem
    have hZ' := hZ
    obtain ⟨fn, fd, fw, fr, ft, z30, z31, z32, z33, z34, zk, zt⟩ := hZ'
    obtain ⟨k1, k2, k3, k4⟩ := zk next hlt
    have kt := zt next hn
    rw [hget] at k1 k2 k3 k4
    rw [hd] at kt
    have hws : wsum wt (p :: R) = wt p + wsum wt R := rfl
    have hRm : ∀ q, q ∈ R → q < 24 := fun q hq => (hv q (List.mem_of_mem_drop (by rw [hd]; exact List.mem_cons_of_mem _ hq))).1
    have second : ∀ best' : Nat × Nat, (best'.1 ≤ 10000 ∧ best'.2 < 2 ^ 24) → Q none (up G 25 (bpO Z.length (src nd wt (fun p => (rmI M b p).toInt) R u w bt best'))) → ∀ v5, A (R.length + 2) M_bp_search 81 [some (.ref 25), some (.int (nI next)), some (.int (nI u)), some (.int (nI w)), some (.int (nI bt)), some v5] [] (up G 25 (bpO Z.length best')) 0 0 Q := by
      intro best' hb' h v5
      refine A.aload_k 0 rfl rfl rfl d_bp_search_81 ?_
      refine A.iload_k 1 rfl rfl d_bp_search_82 ?_
      refine A.iconst (v := 1) rfl d_bp_search_83 ?_
      refine A.iadd d_bp_search_84 ?_
      refine A.iload_k 2 rfl rfl d_bp_search_85 ?_
      refine A.iload_k 3 rfl rfl d_bp_search_86 ?_
      refine A.iload rfl d_bp_search_87 ?_
      rw [nI_1]
      refine A.callS5 s_bp_49 (Nat.le_of_ble_eq_true rfl) (Nat.le_of_ble_eq_true rfl) (Nat.le_refl _) d_bp_search_89 rfl (c_bp_search hZ h12 hv R (next + 1) u w bt best' _ (by omega) hd' (by omega) (by omega) hb hb' ?_)
      dsimp only [psh]
      refine A.vret d_bp_search_92 rfl ?_
      exact h
    have skip : Q none (up G 25 (bpO Z.length (src nd wt (fun p => (rmI M b p).toInt) R u w bt (if ((u + nd p : Nat) : Int) ≤ (rmI M b p).toInt then src nd wt (fun p => (rmI M b p).toInt) R (u + nd p) (w + wt p) (bt ||| 2 ^ p) best else best)))) → rmI M b p < nI (u + nd p) → ∀ v5, A (R.length + 2) M_bp_search 81 [some (.ref 25), some (.int (nI next)), some (.int (nI u)), some (.int (nI w)), some (.int (nI bt)), some v5] [] (up G 25 (bpO Z.length best)) 0 0 Q := by
      intro h c v5
      rw [Int32.lt_iff_toInt_lt, nI_toInt (by omega)] at c
      rw [if_neg (by omega)] at h
      exact second best hbd h v5
    unfold src at h
    refine A.iload_k 1 rfl rfl d_bp_search_0 ?_
    refine A.aload_k 0 rfl rfl rfl d_bp_search_1 ?_
    apply A.getfield f_bp_27 d_bp_search_2
    · repeat first | assumption | exact up_s | refine up_e (by decide) ?_
    · rfl
    refine A.icmp_lt 16 (by decide) d_bp_search_5 (fun c5 => ?_) (fun c5 => ?_)
    · refine A.iload_k 3 rfl rfl d_bp_search_16 ?_
      refine A.aload_k 0 rfl rfl rfl d_bp_search_17 ?_
      apply A.getfield f_bp_24 d_bp_search_18
      · repeat first | assumption | exact up_s | refine up_e (by decide) ?_
      · rfl
      refine A.iload_k 1 rfl rfl d_bp_search_21 ?_
      apply A.iaload (j := next) d_bp_search_22
      · repeat first | assumption | exact up_s | refine up_e (by decide) ?_
      · exact ixn (by omega)
      · omega
      rw [kt]
      refine A.iadd d_bp_search_23 ?_
      rw [nI_add]
      refine A.aload_k 0 rfl rfl rfl d_bp_search_24 ?_
      apply A.getfield f_bp_31 d_bp_search_25
      · repeat first | assumption | exact up_s | refine up_e (by decide) ?_
      · rfl
      refine A.icmp_ge 32 (by decide) d_bp_search_28 (fun c28 => ?_) (fun c28 => ?_)
      · rw [if_neg (by rw [hws] at c28 ⊢; have := (nI_leI (by omega) (by omega)).mp c28; omega)] at h
        refine A.iload_k 2 rfl rfl d_bp_search_32 ?_
        refine A.aload_k 0 rfl rfl rfl d_bp_search_33 ?_
        apply A.getfield f_bp_15 d_bp_search_34
        · repeat first | assumption | exact up_s | refine up_e (by decide) ?_
        · rfl
        refine A.iload_k 1 rfl rfl d_bp_search_37 ?_
        apply A.iaload (j := next) d_bp_search_38
        · repeat first | assumption | exact up_s | refine up_e (by decide) ?_
        · exact ixn (by omega)
        · omega
        rw [k2]
        refine A.iadd d_bp_search_39 ?_
        rw [nI_add]
        refine A.istore (Nat.le_of_ble_eq_true rfl) rfl d_bp_search_40 ?_
        dsimp only [List.set]
        refine A.iload rfl d_bp_search_42 ?_
        refine A.aload_k 0 rfl rfl rfl d_bp_search_44 ?_
        apply A.getfield f_bp_21 d_bp_search_45
        · repeat first | assumption | exact up_s | refine up_e (by decide) ?_
        · rfl
        refine A.iload_k 1 rfl rfl d_bp_search_48 ?_
        apply A.iaload (j := next) d_bp_search_49
        · repeat first | assumption | exact up_s | refine up_e (by decide) ?_
        · exact ixn (by omega)
        · omega
        rw [k4]
        refine A.icmp_gt 81 (by decide) d_bp_search_50 (fun c50 => ?_) (fun c50 => ?_)
        · first | (have hq := hle; exact second _ (src_bd R _ _ _ _ hRm (by omega) (or_lt24 hb p24) hbd) h _) | exact skip h c50 _
        · have hle : ((u + nd p : Nat) : Int) ≤ (rmI M b p).toInt := by
            have := Int32.le_iff_toInt_le.mp (Int32.not_lt.mp c50)
            rw [nI_toInt (by omega)] at this
            exact this
          rw [if_pos hle] at h
          refine A.aload_k 0 rfl rfl rfl d_bp_search_53 ?_
          refine A.iload_k 1 rfl rfl d_bp_search_54 ?_
          refine A.iconst (v := 1) rfl d_bp_search_55 ?_
          refine A.iadd d_bp_search_56 ?_
          refine A.iload rfl d_bp_search_57 ?_
          refine A.iload_k 3 rfl rfl d_bp_search_59 ?_
          refine A.aload_k 0 rfl rfl rfl d_bp_search_60 ?_
          apply A.getfield f_bp_18 d_bp_search_61
          · repeat first | assumption | exact up_s | refine up_e (by decide) ?_
          · rfl
          refine A.iload_k 1 rfl rfl d_bp_search_64 ?_
          apply A.iaload (j := next) d_bp_search_65
          · repeat first | assumption | exact up_s | refine up_e (by decide) ?_
          · exact ixn (by omega)
          · omega
          rw [k3]
          refine A.iadd d_bp_search_66 ?_
          refine A.iload rfl d_bp_search_67 ?_
          refine A.iconst (v := 1) rfl d_bp_search_69 ?_
          refine A.aload_k 0 rfl rfl rfl d_bp_search_70 ?_
          apply A.getfield f_bp_9 d_bp_search_71
          · repeat first | assumption | exact up_s | refine up_e (by decide) ?_
          · rfl
          refine A.iload_k 1 rfl rfl d_bp_search_74 ?_
          apply A.iaload (j := next) d_bp_search_75
          · repeat first | assumption | exact up_s | refine up_e (by decide) ?_
          · exact ixn (by omega)
          · omega
          rw [k1]
          refine A.ishl d_bp_search_76 ?_
          rw [shl24 p24]
          refine A.ior d_bp_search_77 ?_
          rw [nI_1, nI_add, or_nI hb (Nat.pow_lt_pow_right (by omega) p24)]
          refine A.callS5 s_bp_49 (Nat.le_of_ble_eq_true rfl) (Nat.le_of_ble_eq_true rfl) (Nat.le_refl _) d_bp_search_78 rfl (c_bp_search hZ h12 hv R (next + 1) (u + nd p) (w + wt p) (bt ||| 2 ^ p) best _ (by omega) hd' (by omega) (by omega) (or_lt24 hb p24) hbd ?_)
          dsimp only [psh]
          first | (have hq := hle; exact second _ (src_bd R _ _ _ _ hRm (by omega) (or_lt24 hb p24) hbd) h _) | exact skip h c50 _
      · refine A.vret d_bp_search_31 rfl ?_
        rw [if_pos (by rw [hws] at c28 ⊢; have : ¬ best.1 ≤ w + (wt p + wsum wt R) := fun z => c28 (nI_le z (by omega)); omega)] at h
        exact h
    · exact absurd ((nI_ltI (by omega) (by omega)).mpr hlt) c5
theorem c_bp_choose {b : Int32} {Z : List Nat} {nd wt : Nat → Nat} {fn fd fw fr ft : Nat → Int32} {x y : Int32} (z25 : G 25 = some (oB 2 [.ref 30, .ref 31, .ref 32, .ref 33, .ref 34, .int (nI Z.length), .int x, .int y])) (z30 : G 30 = some (aI 12 fn)) (z31 : G 31 = some (aI 12 fd)) (z32 : G 32 = some (aI 12 fw)) (z33 : G 33 = some (aI 12 fr)) (z34 : G 34 = some (aI 13 ft)) (zk : ∀ k, k < Z.length → fn k = nI (Z.getD k 0) ∧ fd k = nI (nd (Z.getD k 0)) ∧ fw k = nI (wt (Z.getD k 0)) ∧ fr k = rmI M b (Z.getD k 0)) (h12 : Z.length ≤ 12) (hv : ∀ p, p ∈ Z → p < 24 ∧ nd p ≤ 160 ∧ wt p ≤ 300) (hw : wsum wt Z ≤ 10000) (h : ∀ ft', Q none (up (up G 34 (aI 13 ft')) 25 (bpO Z.length (src nd wt (fun p => (rmI M b p).toInt) Z 0 0 0 (0, 0))))) : A 14 M_bp_choose 0 [some (.ref 25), none] [] G kc ks Q := by
  have loop : ∀ (k : Nat) (f' : Nat → Int32), k ≤ Z.length → (∀ j, k ≤ j → j ≤ Z.length → f' j = nI (wsum wt (Z.drop j))) → A 14 M_bp_choose 27 [some (.ref 25), some (.int (nI k - 1))] [] (up (up G 34 (aI 13 f')) 25 (bpO Z.length (0, 0))) kc ks Q := by
    intro k
    induction k with
    | zero =>
      intro f' _ hf
      have hZ : BrR (up G 34 (aI 13 f')) M b Z nd wt := ⟨fn, fd, fw, fr, f', up_e (by decide) z30, up_e (by decide) z31, up_e (by decide) z32, up_e (by decide) z33, up_s, zk, fun k hk => hf k (by omega) hk⟩
      have hs := c_bp_search hZ h12 hv Z 0 0 0 0 (0, 0)
      refine A.iload_k 1 rfl rfl d_bp_choose_27 ?_
      refine A.if_lt 58 (by decide) d_bp_choose_28 (fun c28 => ?_) (fun c28 => ?_)
      · refine A.aload_k 0 rfl rfl rfl d_bp_choose_58 ?_
        refine A.iconst (v := 0) rfl d_bp_choose_59 ?_
        refine A.iconst (v := 0) rfl d_bp_choose_60 ?_
        refine A.iconst (v := 0) rfl d_bp_choose_61 ?_
        refine A.iconst (v := 0) rfl d_bp_choose_62 ?_
        refine A.callS5 s_bp_49 (Nat.le_of_ble_eq_true rfl) (Nat.le_of_ble_eq_true rfl) (by omega) d_bp_choose_63 rfl (hs _ (by omega) List.drop_zero (by omega) (by omega) (by decide) (by decide) ?_)
        dsimp only [psh]
        refine A.vret d_bp_choose_66 rfl ?_
        exact h f'
      · exact absurd (by decide) c28
    | succ k ih =>
      intro f' hk hf
      rw [nI_pred]
      have hd : Z.drop k = Z.getD k 0 :: Z.drop (k + 1) := by
        rw [List.getD_eq_getElem?_getD, List.getElem?_eq_getElem (by omega)]
        exact List.drop_eq_getElem_cons (by omega)
      obtain ⟨k1, k2, k3, k4⟩ := zk k (by omega)
      refine A.iload_k 1 rfl rfl d_bp_choose_27 ?_
      refine A.if_lt 58 (by decide) d_bp_choose_28 (fun c28 => ?_) (fun c28 => ?_)
      · exact absurd c28 (Int32.not_lt.mpr (nI_pos' (by omega)))
      refine A.aload_k 0 rfl rfl rfl d_bp_choose_31 ?_
      apply A.getfield f_bp_24 d_bp_choose_32
      · repeat first | assumption | exact up_s | refine up_e (by decide) ?_
      · rfl
      refine A.iload_k 1 rfl rfl d_bp_choose_35 ?_
      refine A.aload_k 0 rfl rfl rfl d_bp_choose_36 ?_
      apply A.getfield f_bp_24 d_bp_choose_37
      · repeat first | assumption | exact up_s | refine up_e (by decide) ?_
      · rfl
      refine A.iload_k 1 rfl rfl d_bp_choose_40 ?_
      refine A.iconst (v := 1) rfl d_bp_choose_41 ?_
      refine A.iadd d_bp_choose_42 ?_
      rw [nI_1]
      apply A.iaload (j := k + 1) d_bp_choose_43
      · repeat first | assumption | exact up_s | refine up_e (by decide) ?_
      · exact ixn (by omega)
      · omega
      rw [hf (k + 1) (by omega) (by omega)]
      refine A.aload_k 0 rfl rfl rfl d_bp_choose_44 ?_
      apply A.getfield f_bp_18 d_bp_choose_45
      · repeat first | assumption | exact up_s | refine up_e (by decide) ?_
      · rfl
      refine A.iload_k 1 rfl rfl d_bp_choose_48 ?_
      apply A.iaload (j := k) d_bp_choose_49
      · repeat first | assumption | exact up_s | refine up_e (by decide) ?_
      · exact ixn (by omega)
      · omega
      rw [k3]
      refine A.iadd d_bp_choose_50 ?_
      rw [nI_add]
      apply A.iastore (j := k) d_bp_choose_51
      · repeat first | assumption | exact up_s | refine up_e (by decide) ?_
      · first | decide | omega
      · exact ixn (by omega)
      · omega
      refine A.iincm (n := 1) rfl (Nat.le_of_ble_eq_true rfl) d_bp_choose_52 ?_
      dsimp only [List.set]
      refine A.goto 27 (by decide) d_bp_choose_55 ?_
      rw [up_swap (a := 25) (b := 34) (by decide), up_up]
      refine ih _ (by omega) (fun j j1 j2 => ?_)
      by_cases e : j = k
      · subst e; rw [upd_eq, hd]; show nI _ = nI (wt _ + wsum wt (Z.drop (j + 1))); rw [Nat.add_comm]
      · rw [upd_ne e]; exact hf j (by omega) j2
  refine A.aload_k 0 rfl rfl rfl d_bp_choose_0 ?_
  refine A.iconst (v := 0) rfl d_bp_choose_1 ?_
  apply A.putfield p_bp_31 d_bp_choose_2
  · repeat first | assumption | exact up_s | refine up_e (by decide) ?_
  · exact (Nat.le_of_ble_eq_true rfl)
  · rfl
  dsimp only [List.set]
  refine A.aload_k 0 rfl rfl rfl d_bp_choose_5 ?_
  refine A.iconst (v := 0) rfl d_bp_choose_6 ?_
  apply A.putfield p_bp_34 d_bp_choose_7
  · repeat first | assumption | exact up_s | refine up_e (by decide) ?_
  · exact (Nat.le_of_ble_eq_true rfl)
  · rfl
  dsimp only [List.set]
  refine A.aload_k 0 rfl rfl rfl d_bp_choose_10 ?_
  apply A.getfield f_bp_24 d_bp_choose_11
  · repeat first | assumption | exact up_s | refine up_e (by decide) ?_
  · rfl
  refine A.aload_k 0 rfl rfl rfl d_bp_choose_14 ?_
  apply A.getfield f_bp_27 d_bp_choose_15
  · repeat first | assumption | exact up_s | refine up_e (by decide) ?_
  · rfl
  refine A.iconst (v := 0) rfl d_bp_choose_18 ?_
  apply A.iastore (j := Z.length) d_bp_choose_19
  · repeat first | assumption | exact up_s | refine up_e (by decide) ?_
  · first | decide | omega
  · exact ixn (by omega)
  · omega
  refine A.aload_k 0 rfl rfl rfl d_bp_choose_20 ?_
  apply A.getfield f_bp_27 d_bp_choose_21
  · repeat first | assumption | exact up_s | refine up_e (by decide) ?_
  · rfl
  refine A.iconst (v := 1) rfl d_bp_choose_24 ?_
  refine A.isub d_bp_choose_25 ?_
  refine A.istore_k 1 rfl (Nat.le_of_ble_eq_true rfl) rfl d_bp_choose_26 ?_
  dsimp only [List.set]
  rw [up_swap (a := 25) (b := 34) (by decide), up_swap (a := 25) (b := 34) (by decide), up_up]
  refine loop Z.length _ (Nat.le_refl _) (fun j j1 j2 => ?_)
  obtain rfl : j = Z.length := by omega
  rw [upd_eq, List.drop_length]
  rfl
end SEARCH
