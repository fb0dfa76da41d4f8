/-! THE REFERENCE: its state is M, a row of ints for each field (a plain field at place 0); its object has the name 100, the array of the field k the name k + 200 -/
def mArr (k : Nat) : Bool := match k with
  | 1 => true | 3 => true | 4 => true | 5 => true | 6 => true | 7 => true | 8 => true | 9 => true | 10 => true | 11 => true | 12 => true | 13 => true | 14 => true | 15 => true | 20 => true | 24 => true | 25 => true | 27 => true | 30 => true | 31 => true
  | _ => false
def mLen (k : Nat) : Nat := match k with
  | 1 => 20 | 8 => 96 | 9 => 96 | 10 => 96 | 20 => 20 | 24 => 48 | 25 => 4 | 27 => 12 | 30 => 8 | 31 => 2709
  | _ => 24
abbrev MS : Type := Nat → Nat → Int32
def mO (M : MS) : ACell := oB 1 [.int (M 0 0), .ref 201, .int (M 2 0), .ref 203, .ref 204, .ref 205, .ref 206, .ref 207, .ref 208, .ref 209, .ref 210, .ref 211, .ref 212, .ref 213, .ref 214, .ref 215, .int (M 16 0), .int (M 17 0), .int (M 18 0), .int (M 19 0), .ref 220, .int (M 21 0), .int (M 22 0), .int (M 23 0), .ref 224, .ref 225, .ref 226, .ref 227, .int (M 28 0), .int (M 29 0), .ref 230, .ref 231]
/-- the heap holds the reference in the state M -/
def MH (G : AHp) (M : MS) : Prop := G 100 = some (mO M) ∧ (∀ k, mArr k = true → G (k + 200) = some (aI (mLen k) (M k))) ∧ ∃ ct, G 226 = some (aL 4 ct)
def FrM (G G' : AHp) : Prop := ∀ a, (a < 100 ∨ 300 ≤ a) → G' a = G a
theorem FrM.rf {G : AHp} : FrM G G := fun _ _ => rfl
theorem FrM.up {G G' : AHp} {b : Nat} {c : ACell} (h : FrM G G') (h1 : 100 ≤ b) (h2 : b < 300) : FrM G (up G' b c) := fun a ha => (up_n (by omega)).trans (h a ha)
theorem FrM.tr {G G' G'' : AHp} (h : FrM G G') (k : FrM G' G'') : FrM G G'' := fun a ha => (k a ha).trans (h a ha)
theorem MH.arr {G : AHp} {M : MS} (h : MH G M) (k : Nat) (hk : mArr k = true) (f : Nat → Int32) : MH (up G (k + 200) (aI (mLen k) f)) (va_up M k f) := by
  have h26 : k ≠ 26 := fun e => by subst e; cases hk
  refine ⟨?_, fun j hj => ?_, ?_⟩
  · rw [up_n (by omega), h.1]
    have : mO (va_up M k f) = mO M := by
      have e : ∀ j, mArr j = false → va_up M k f j = M j := fun j hj => if_neg (fun z => by subst z; rw [hk] at hj; cases hj)
      unfold mO
      rw [e 0 rfl, e 2 rfl, e 16 rfl, e 17 rfl, e 18 rfl, e 19 rfl, e 21 rfl, e 22 rfl, e 23 rfl, e 28 rfl, e 29 rfl]
    rw [this]
  · by_cases e : j = k
    · subst e
      rw [up_s, show va_up M j f j = f from if_pos rfl]
    · rw [up_n (by omega), h.2.1 j hj, show va_up M k f j = M j from if_neg e]
  · obtain ⟨ct, hc⟩ := h.2.2
    exact ⟨ct, by rw [up_n (by omega)]; exact hc⟩
theorem MH.cut {G : AHp} {M : MS} (h : MH G M) (ct : Nat → Int64) : MH (up G 226 (aL 4 ct)) M := by
  refine ⟨by rw [up_n (by decide)]; exact h.1, fun j hj => ?_, ct, up_s⟩
  have : j ≠ 26 := fun e => by subst e; cases hj
  rw [up_n (by omega)]
  exact h.2.1 j hj
theorem MH.fld {G : AHp} {M : MS} (h : MH G M) (k : Nat) (hk : mArr k = false) (v : Int32) : MH (up G 100 (mO (va_up M k (fun _ => v)))) (va_up M k (fun _ => v)) := by
  refine ⟨up_s, fun j hj => ?_, ?_⟩
  · rw [up_n (by omega), h.2.1 j hj, show va_up M k (fun _ => v) j = M j from if_neg (fun z => by subst z; rw [hk] at hj; cases hj)]
  · obtain ⟨ct, hc⟩ := h.2.2
    exact ⟨ct, by rw [up_n (by decide)]; exact hc⟩
theorem c_md_in {n lo hi : Int32} {G : AHp} {kc ks : Nat} {Q : Option Value → AHp → Prop} (h1 : lo ≤ n → n ≤ hi → Q (some (.int 1)) G) (h0 : ¬ (lo ≤ n ∧ n ≤ hi) → Q (some (.int 0)) G) : A 0 M_md_in 0 [some (.int n), some (.int lo), some (.int hi)] [] G kc ks Q := by
  refine A.iload_k 0 rfl rfl d_md_in_0 ?_
  refine A.iload_k 1 rfl rfl d_md_in_1 ?_
  refine A.icmp_lt 14 (by decide) d_md_in_2 (fun c2 => ?_) (fun c2 => ?_)
  · refine A.iconst (v := 0) rfl d_md_in_14 ?_
    refine A.zret d_md_in_15 rfl (Or.inl rfl) ?_
    first | exact h1 (Int32.not_lt.mp c2) (Int32.not_lt.mp c7) | exact h0 (fun z => absurd z.1 (Int32.not_le.mpr c2)) | exact h0 (fun z => absurd z.2 (Int32.not_le.mpr c7))
  · refine A.iload_k 0 rfl rfl d_md_in_5 ?_
    refine A.iload_k 2 rfl rfl d_md_in_6 ?_
    refine A.icmp_gt 14 (by decide) d_md_in_7 (fun c7 => ?_) (fun c7 => ?_)
    · refine A.iconst (v := 0) rfl d_md_in_14 ?_
      refine A.zret d_md_in_15 rfl (Or.inl rfl) ?_
      first | exact h1 (Int32.not_lt.mp c2) (Int32.not_lt.mp c7) | exact h0 (fun z => absurd z.1 (Int32.not_le.mpr c2)) | exact h0 (fun z => absurd z.2 (Int32.not_le.mpr c7))
    · refine A.iconst (v := 1) rfl d_md_in_10 ?_
      refine A.goto 15 (by decide) d_md_in_11 ?_
      refine A.zret d_md_in_15 rfl (Or.inr rfl) ?_
      first | exact h1 (Int32.not_lt.mp c2) (Int32.not_lt.mp c7) | exact h0 (fun z => absurd z.1 (Int32.not_le.mpr c2)) | exact h0 (fun z => absurd z.2 (Int32.not_le.mpr c7))
def onS (M : MS) (s : Int32) : Nat → Int32
  | 0 => 0
  | n + 1 => onS M s n + (if M 3 n = s then 1 else 0)
theorem c_md_onStreet {M : MS} {s : Int32} {np : Nat} {G : AHp} {kc ks : Nat} {Q : Option Value → AHp → Prop} (hM : MH G M) (hn : M 2 0 = nI np) (hn2 : np ≤ 24) (h : Q (some (.int (onS M s np))) G) : A 0 M_md_onStreet 0 [some (.ref 100), some (.int s), none, none] [] G kc ks Q := by
  have loop : ∀ (k i : Nat), i ≤ np → np < i + k → A 0 M_md_onStreet 4 [some (.ref 100), some (.int s), some (.int (onS M s i)), some (.int (nI i))] [] G kc ks Q := by
    intro k
    induction k with
    | zero => intro i h1 h2; omega
    | succ k ih =>
      intro i h1 h2
      refine A.iload_k 3 rfl rfl d_md_onStreet_4 ?_
      refine A.aload_k 0 rfl rfl rfl d_md_onStreet_5 ?_
      apply A.getfield f_md_84 d_md_onStreet_6
      · first | exact hM.1 | exact hM.2.1 _ rfl
      · rfl
      refine A.icmp_ge 36 (by decide) d_md_onStreet_9 (fun c9 => ?_) (fun c9 => ?_)
      · refine A.iload_k 2 rfl rfl d_md_onStreet_36 ?_
        refine A.iret d_md_onStreet_37 rfl ?_
        rw [hn] at c9
        have e : i = np := by
          have := (nI_leI (by omega) (by omega)).mp c9
          omega
        subst e
        exact h
      · rw [hn] at c9
        have hlt : i < np := Nat.lt_of_not_le (fun z => c9 (nI_le z (by omega)))
        refine A.iload_k 2 rfl rfl d_md_onStreet_12 ?_
        refine A.aload_k 0 rfl rfl rfl d_md_onStreet_13 ?_
        apply A.getfield f_md_13 d_md_onStreet_14
        · first | exact hM.1 | exact hM.2.1 _ rfl
        · rfl
        refine A.iload_k 3 rfl rfl d_md_onStreet_17 ?_
        apply A.iaload (j := i) d_md_onStreet_18
        · first | exact hM.1 | exact hM.2.1 _ rfl
        · exact nI_toInt (by omega)
        · show i < 24; omega
        refine A.iload_k 1 rfl rfl d_md_onStreet_19 ?_
        refine A.icmp_ne 27 (by decide) d_md_onStreet_20 (fun c20 => ?_) (fun c20 => ?_)
        · refine A.iconst (v := 0) rfl d_md_onStreet_27 ?_
          refine A.iadd d_md_onStreet_28 ?_
          refine A.istore_k 2 rfl (Nat.le_of_ble_eq_true rfl) rfl d_md_onStreet_29 ?_
          dsimp only [List.set]
          refine A.iinc (v := _ + 1) rfl rfl (Nat.le_of_ble_eq_true rfl) d_md_onStreet_30 ?_
          dsimp only [List.set]
          refine A.goto 4 (by decide) d_md_onStreet_33 ?_
          rw [nI_1]
          have ih := ih (i + 1) (by omega) (by omega)
          unfold onS at ih
          first | rw [if_pos c20] at ih | rw [if_neg c20] at ih
          exact ih
        · refine A.iconst (v := 1) rfl d_md_onStreet_23 ?_
          refine A.goto 28 (by decide) d_md_onStreet_24 ?_
          refine A.iadd d_md_onStreet_28 ?_
          refine A.istore_k 2 rfl (Nat.le_of_ble_eq_true rfl) rfl d_md_onStreet_29 ?_
          dsimp only [List.set]
          refine A.iinc (v := _ + 1) rfl rfl (Nat.le_of_ble_eq_true rfl) d_md_onStreet_30 ?_
          dsimp only [List.set]
          refine A.goto 4 (by decide) d_md_onStreet_33 ?_
          rw [nI_1]
          have ih := ih (i + 1) (by omega) (by omega)
          unfold onS at ih
          first | rw [if_pos c20] at ih | rw [if_neg c20] at ih
          exact ih
  refine A.iconst (v := 0) rfl d_md_onStreet_0 ?_
  refine A.istore_k 2 rfl (Nat.le_of_ble_eq_true rfl) rfl d_md_onStreet_1 ?_
  dsimp only [List.set]
  refine A.iconst (v := 0) rfl d_md_onStreet_2 ?_
  refine A.istore_k 3 rfl (Nat.le_of_ble_eq_true rfl) rfl d_md_onStreet_3 ?_
  dsimp only [List.set]
  exact loop (np + 1) 0 (by omega) (by omega)
