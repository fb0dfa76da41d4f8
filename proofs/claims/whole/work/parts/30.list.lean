/-! the library's lists, and the small tests -/
section LIST
variable {G : AHp} {kc ks : Nat} {Q : Option Value → AHp → Prop}
abbrev aO (n : Nat) (f : Nat → Option Nat) : ACell := aR (.object "java/lang/Object") n f
theorem c_af_within {n lo hi : Int32} (h1 : lo ≤ n → n ≤ hi → Q (some (.int 1)) G) (h0 : ¬ (lo ≤ n ∧ n ≤ hi) → Q (some (.int 0)) G) : A 0 M_af_within 0 [some (.int n), some (.int lo), some (.int hi)] [] G kc ks Q := by
  refine A.iload_k 0 rfl rfl d_af_within_0 ?_
  refine A.iload_k 1 rfl rfl d_af_within_1 ?_
  refine A.icmp_lt 14 (by decide) d_af_within_2 (fun c2 => ?_) (fun c2 => ?_)
  · refine A.iconst (v := 0) rfl d_af_within_14 ?_
    refine A.zret d_af_within_15 rfl (Or.inl rfl) ?_
    first | exact h1 (Int32.not_lt.mp c2) (Int32.not_lt.mp c7) | exact h0 (fun z => absurd z.1 (Int32.not_le.mpr c2)) | exact h0 (fun z => absurd z.2 (Int32.not_le.mpr c7))
  · refine A.iload_k 0 rfl rfl d_af_within_5 ?_
    refine A.iload_k 2 rfl rfl d_af_within_6 ?_
    refine A.icmp_gt 14 (by decide) d_af_within_7 (fun c7 => ?_) (fun c7 => ?_)
    · refine A.iconst (v := 0) rfl d_af_within_14 ?_
      refine A.zret d_af_within_15 rfl (Or.inl rfl) ?_
      first | exact h1 (Int32.not_lt.mp c2) (Int32.not_lt.mp c7) | exact h0 (fun z => absurd z.1 (Int32.not_le.mpr c2)) | exact h0 (fun z => absurd z.2 (Int32.not_le.mpr c7))
    · refine A.iconst (v := 1) rfl d_af_within_10 ?_
      refine A.goto 15 (by decide) d_af_within_11 ?_
      refine A.zret d_af_within_15 rfl (Or.inr rfl) ?_
      first | exact h1 (Int32.not_lt.mp c2) (Int32.not_lt.mp c7) | exact h0 (fun z => absurd z.1 (Int32.not_le.mpr c2)) | exact h0 (fun z => absurd z.2 (Int32.not_le.mpr c7))
theorem c_af_isPerson {x : Int32} (h1 : ∀ q, q < 20 → x = nI q → Q (some (.int 1)) G) (h0 : (∀ q, q < 20 → x ≠ nI q) → Q (some (.int 0)) G) : A 1 M_af_isPerson 0 [some (.int x)] [] G kc ks Q := by
  refine A.iload_k 0 rfl rfl d_af_isPerson_0 ?_
  refine A.iconst (v := 0) rfl d_af_isPerson_1 ?_
  refine A.bipush (v := 19) rfl d_af_isPerson_2 ?_
  refine A.callS3 s_af_76 (Nat.le_of_ble_eq_true rfl) (Nat.le_of_ble_eq_true rfl) (Nat.le_of_ble_eq_true rfl) d_af_isPerson_4 rfl (c_af_within (fun i1 i2 => ?_) (fun i3 => ?_))
  · dsimp only [psh]
    refine A.zret d_af_isPerson_7 rfl (Or.inr rfl) ?_
    first | (obtain ⟨q, e1, e2⟩ := in_lit (n := 19) (by decide) (by omega) i1 i2; exact h1 q (by omega) e2) | exact h0 (fun q hq e => i3 (by rw [e]; exact nI_bt (n := 19) (by decide) (by omega) (by omega)))
  · dsimp only [psh]
    refine A.zret d_af_isPerson_7 rfl (Or.inl rfl) ?_
    first | (obtain ⟨q, e1, e2⟩ := in_lit (n := 19) (by decide) (by omega) i1 i2; exact h1 q (by omega) e2) | exact h0 (fun q hq e => i3 (by rw [e]; exact nI_bt (n := 19) (by decide) (by omega) (by omega)))
theorem c_af_isYear {x : Int32} (h1 : 0 ≤ x → x ≤ 60 → Q (some (.int 1)) G) (h0 : ¬ (0 ≤ x ∧ x ≤ 60) → Q (some (.int 0)) G) : A 1 M_af_isYear 0 [some (.int x)] [] G kc ks Q := by
  refine A.iload_k 0 rfl rfl d_af_isYear_0 ?_
  refine A.iconst (v := 0) rfl d_af_isYear_1 ?_
  refine A.bipush (v := 60) rfl d_af_isYear_2 ?_
  refine A.callS3 s_af_76 (Nat.le_of_ble_eq_true rfl) (Nat.le_of_ble_eq_true rfl) (Nat.le_of_ble_eq_true rfl) d_af_isYear_4 rfl (c_af_within (fun i1 i2 => ?_) (fun i3 => ?_))
  · dsimp only [psh]
    refine A.zret d_af_isYear_7 rfl (Or.inr rfl) ?_
    first | exact h1 i1 i2 | exact h0 i3
  · dsimp only [psh]
    refine A.zret d_af_isYear_7 rfl (Or.inl rfl) ?_
    first | exact h1 i1 i2 | exact h0 i3
theorem c_ac_init {a : Nat} (h : Q none G) : A 1 M_ac_init 0 [some (.ref a)] [] G kc ks Q := by
  refine A.aload_k 0 rfl rfl rfl d_ac_init_0 ?_
  refine A.objInit d_ac_init_1 o_ac_1 (Nat.le_of_ble_eq_true rfl) (Nat.le_of_ble_eq_true rfl) ?_
  refine A.vret d_ac_init_4 rfl ?_
  exact h
theorem c_ab_init {a : Nat} {v w z : Value} (ha : G a = some (oB 10 [v, w, z])) (h : Q none (up G a (oB 10 [.int 0, w, z]))) : A 2 M_ab_init 0 [some (.ref a)] [] G 0 0 Q := by
  refine A.aload_k 0 rfl rfl rfl d_ab_init_0 ?_
  refine A.callIa0 s_ab_1 (Nat.le_of_ble_eq_true rfl) (Nat.le_of_ble_eq_true rfl) (Nat.le_of_ble_eq_true rfl) d_ab_init_1 (kc1 := 0) (ks1 := 0) (kc2 := 0) (ks2 := 0) (Nat.le_of_ble_eq_true rfl) (Nat.le_of_ble_eq_true rfl) rfl (c_ac_init ?_)
  dsimp only [psh]
  refine A.aload_k 0 rfl rfl rfl d_ab_init_4 ?_
  refine A.iconst (v := 0) rfl d_ab_init_5 ?_
  apply A.putfield p_ab_7 d_ab_init_6
  · repeat first | assumption | exact up_s | refine up_e (by first | decide | omega) ?_
  · exact (Nat.le_of_ble_eq_true rfl)
  · rfl
  dsimp only [List.set]
  refine A.vret d_ab_init_9 rfl ?_
  exact h
theorem c_al_init {a : Nat} {v w z : Value} (ha : G a = some (oB 10 [v, w, z])) (h : Q none (up G a (oB 10 [.int 0, .ref 1, z]))) : A 3 M_al_init 0 [some (.ref a)] [] G 0 0 Q := by
  refine A.aload_k 0 rfl rfl rfl d_al_init_0 ?_
  refine A.callIa0 s_al_1 (Nat.le_of_ble_eq_true rfl) (Nat.le_of_ble_eq_true rfl) (Nat.le_of_ble_eq_true rfl) d_al_init_1 (kc1 := 0) (ks1 := 0) (kc2 := 0) (ks2 := 0) (Nat.le_of_ble_eq_true rfl) (Nat.le_of_ble_eq_true rfl) rfl (c_ab_init ha ?_)
  dsimp only [psh]
  refine A.aload_k 0 rfl rfl rfl d_al_init_4 ?_
  refine A.getstatic gs_al_39 d_al_init_5 ?_
  apply A.putfield p_al_9 d_al_init_8
  · repeat first | assumption | exact up_s | refine up_e (by first | decide | omega) ?_
  · exact (Nat.le_of_ble_eq_true rfl)
  · rfl
  dsimp only [List.set]
  refine A.vret d_al_init_11 rfl ?_
  rw [up_up]
  exact h
theorem c_al_size {a : Nat} {v w : Value} {x : Int32} (ha : G a = some (oB 10 [v, w, .int x])) (h : Q (some (.int x)) G) : A 0 M_al_size 0 [some (.ref a)] [] G kc ks Q := by
  refine A.aload_k 0 rfl rfl rfl d_al_size_0 ?_
  apply A.getfield f_al_48 d_al_size_1
  · repeat first | assumption | exact up_s | refine up_e (by first | decide | omega) ?_
  · rfl
  refine A.iret d_al_size_4 rfl ?_
  exact h
theorem c_al_isEmpty {a : Nat} {v w : Value} {x : Int32} (ha : G a = some (oB 10 [v, w, .int x])) (h1 : x = 0 → Q (some (.int 1)) G) (h0 : ¬ x = 0 → Q (some (.int 0)) G) : A 0 M_al_isEmpty 0 [some (.ref a)] [] G kc ks Q := by
  refine A.aload_k 0 rfl rfl rfl d_al_isEmpty_0 ?_
  apply A.getfield f_al_48 d_al_isEmpty_1
  · repeat first | assumption | exact up_s | refine up_e (by first | decide | omega) ?_
  · rfl
  refine A.if_ne 11 (by decide) d_al_isEmpty_4 (fun c4 => ?_) (fun c4 => ?_)
  · refine A.iconst (v := 0) rfl d_al_isEmpty_11 ?_
    refine A.zret d_al_isEmpty_12 rfl (Or.inl rfl) ?_
    first | exact h1 c4 | exact h0 c4
  · refine A.iconst (v := 1) rfl d_al_isEmpty_7 ?_
    refine A.goto 12 (by decide) d_al_isEmpty_8 ?_
    refine A.zret d_al_isEmpty_12 rfl (Or.inr rfl) ?_
    first | exact h1 c4 | exact h0 c4
theorem c_al_elementData {a e cap j b : Nat} {v w : Value} {f : Nat → Option Nat} (ha : G a = some (oB 10 [v, .ref e, w])) (he : G e = some (aO cap f)) (hj : j < cap ∧ cap < 1000) (hf : f j = some b) (h : Q (some (.ref b)) G) : A 0 M_al_elementData 0 [some (.ref a), some (.int (nI j))] [] G kc ks Q := by
  refine A.aload_k 0 rfl rfl rfl d_al_elementData_0 ?_
  apply A.getfield f_al_9 d_al_elementData_1
  · repeat first | assumption | exact up_s | refine up_e (by first | decide | omega) ?_
  · rfl
  refine A.iload_k 1 rfl rfl d_al_elementData_4 ?_
  apply A.aaload (j := j) d_al_elementData_5
  · repeat first | assumption | exact up_s | refine up_e (by first | decide | omega) ?_
  · exact ixn (by omega)
  · exact hj.1
  refine A.aret d_al_elementData_6 rfl (Or.inl ⟨_, rfl⟩) (isrf_rf _) ?_
  rw [hf]; exact h
theorem c_pr_checkIndex {n j : Nat} (hj : j < n ∧ n < 1000) (h : Q (some (.int (nI j))) G) : A 0 M_pr_checkIndex 0 [some (.int (nI j)), some (.int (nI n)), some .null] [] G kc ks Q := by
  refine A.iload_k 0 rfl rfl d_pr_checkIndex_0 ?_
  refine A.if_lt 9 (by decide) d_pr_checkIndex_1 (fun c1 => ?_) (fun c1 => ?_)
  · exact absurd c1 (Int32.not_lt.mpr (nI_pos' (by omega)))
  refine A.iload_k 0 rfl rfl d_pr_checkIndex_4 ?_
  refine A.iload_k 1 rfl rfl d_pr_checkIndex_5 ?_
  refine A.icmp_lt 16 (by decide) d_pr_checkIndex_6 (fun c6 => ?_) (fun c6 => ?_)
  · refine A.iload_k 0 rfl rfl d_pr_checkIndex_16 ?_
    refine A.iret d_pr_checkIndex_17 rfl ?_
    exact h
  · exact absurd ((nI_ltI (by omega) (by omega)).mpr hj.1) c6
theorem c_ob_checkIndex {n j : Nat} (hj : j < n ∧ n < 1000) (h : Q (some (.int (nI j))) G) : A 1 M_ob_checkIndex 0 [some (.int (nI j)), some (.int (nI n))] [] G kc ks Q := by
  refine A.iload_k 0 rfl rfl d_ob_checkIndex_0 ?_
  refine A.iload_k 1 rfl rfl d_ob_checkIndex_1 ?_
  refine A.null d_ob_checkIndex_2 ?_
  refine A.callS3 s_ob_105 (Nat.le_of_ble_eq_true rfl) (Nat.le_of_ble_eq_true rfl) (Nat.le_of_ble_eq_true rfl) d_ob_checkIndex_3 rfl (c_pr_checkIndex hj ?_)
  dsimp only [psh]
  refine A.iret d_ob_checkIndex_6 rfl ?_
  exact h
theorem c_al_get {a e cap n j b : Nat} {v : Value} {f : Nat → Option Nat} (ha : G a = some (oB 10 [v, .ref e, .int (nI n)])) (he : G e = some (aO cap f)) (hj0 : j < n) (hn : n ≤ cap ∧ cap < 1000) (hf : f j = some b) (h : Q (some (.ref b)) G) : A 2 M_al_get 0 [some (.ref a), some (.int (nI j))] [] G kc ks Q := by
  have hj : j < n ∧ n < 1000 := by omega
  refine A.iload_k 1 rfl rfl d_al_get_0 ?_
  refine A.aload_k 0 rfl rfl rfl d_al_get_1 ?_
  apply A.getfield f_al_48 d_al_get_2
  · repeat first | assumption | exact up_s | refine up_e (by first | decide | omega) ?_
  · rfl
  refine A.callS2 s_al_118 (Nat.le_of_ble_eq_true rfl) (Nat.le_of_ble_eq_true rfl) (Nat.le_of_ble_eq_true rfl) d_al_get_5 rfl (c_ob_checkIndex hj ?_)
  dsimp only [psh]
  refine A.pop rfl d_al_get_8 ?_
  refine A.aload_k 0 rfl rfl rfl d_al_get_9 ?_
  refine A.iload_k 1 rfl rfl d_al_get_10 ?_
  refine A.callV1 s_al_123 ?_ (Nat.le_of_ble_eq_true rfl) (Nat.le_of_ble_eq_true rfl) (Nat.le_of_ble_eq_true rfl) d_al_get_11 rfl (c_al_elementData (by repeat first | assumption | exact up_s | refine up_e (by first | decide | omega) ?_) (by repeat first | assumption | exact up_s | refine up_e (by first | decide | omega) ?_) (by omega) hf ?_)
  · apply Exists.intro
    repeat first | assumption | exact up_s | refine up_e (by first | decide | omega) ?_
  dsimp only [psh]
  refine A.aret d_al_get_14 rfl (Or.inl ⟨_, rfl⟩) rfl ?_
  exact h
end LIST
