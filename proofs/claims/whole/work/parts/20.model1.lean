/-! THE REFERENCE: its state is M, a row of ints for each field (a plain field at place 0); its object has the name 100, the array of the field k the name k + 200 -/
/-- the arrays of the lasting state -/
def mArr (k : Nat) : Bool := match k with
  | 1 => true | 3 => true | 4 => true | 5 => true | 6 => true | 7 => true | 8 => true | 9 => true | 10 => true | 11 => true | 12 => true | 13 => true | 14 => true | 15 => true | 20 => true | 24 => true
  | _ => false
/-- the arrays that a call uses for itself alone -/
def sArr (k : Nat) : Bool := match k with
  | 25 => true | 27 => true | 30 => true | 31 => true
  | _ => false
def mLen (k : Nat) : Nat := match k with
  | 1 => 20 | 8 => 96 | 9 => 96 | 10 => 96 | 20 => 20 | 24 => 48 | 25 => 4 | 27 => 12 | 30 => 8 | 31 => 2709
  | _ => 24
abbrev MS : Type := Nat → Nat → Int32
def mO (M S : MS) : ACell := oB 1 [.int (M 0 0), .ref 201, .int (M 2 0), .ref 203, .ref 204, .ref 205, .ref 206, .ref 207, .ref 208, .ref 209, .ref 210, .ref 211, .ref 212, .ref 213, .ref 214, .ref 215, .int (M 16 0), .int (M 17 0), .int (M 18 0), .int (M 19 0), .ref 220, .int (M 21 0), .int (M 22 0), .int (M 23 0), .ref 224, .ref 225, .ref 226, .ref 227, .int (S 28 0), .int (S 29 0), .ref 230, .ref 231]
/-- the heap holds the reference in the state M; S and C: what lies in its rows for use within a call -/
def MH (G : AHp) (M S : MS) (C : Nat → Int64) : Prop := G 100 = some (mO M S) ∧ (∀ k, mArr k = true → G (k + 200) = some (aI (mLen k) (M k))) ∧ (∀ k, sArr k = true → G (k + 200) = some (aI (mLen k) (S k))) ∧ G 226 = some (aL 4 C)
def FrM (G G' : AHp) : Prop := ∀ a, (a < 100 ∨ 300 ≤ a) → G' a = G a
theorem FrM.rf {G : AHp} : FrM G G := fun _ _ => rfl
theorem FrM.up {G G' : AHp} {b : Nat} {c : ACell} (h : FrM G G') (h1 : 100 ≤ b) (h2 : b < 300) : FrM G (up G' b c) := fun a ha => (up_n (by omega)).trans (h a ha)
theorem FrM.tr {G G' G'' : AHp} (h : FrM G G') (k : FrM G' G'') : FrM G G'' := fun a ha => (k a ha).trans (h a ha)
theorem m_disj {k : Nat} (h : mArr k = true) : sArr k = false := by
  unfold mArr at h
  split at h <;> first | rfl | cases h
theorem MH.arr {G : AHp} {M S : MS} {C : Nat → Int64} (h : MH G M S C) (k : Nat) (hk : mArr k = true) (f : Nat → Int32) : MH (up G (k + 200) (aI (mLen k) f)) (va_up M k f) S C := by
  have h26 : k ≠ 26 := fun e => by subst e; cases hk
  refine ⟨?_, fun j hj => ?_, fun j hj => ?_, ?_⟩
  · rw [up_n (by omega), h.1]
    have : mO (va_up M k f) S = mO M S := by
      have e : ∀ j, mArr j = false → va_up M k f j = M j := fun j hj => if_neg (fun z => by subst z; rw [hk] at hj; cases hj)
      unfold mO
      rw [e 0 rfl, e 2 rfl, e 16 rfl, e 17 rfl, e 18 rfl, e 19 rfl, e 21 rfl, e 22 rfl, e 23 rfl]
    rw [this]
  · by_cases e : j = k
    · subst e
      rw [up_s, show va_up M j f j = f from if_pos rfl]
    · rw [up_n (by omega), h.2.1 j hj, show va_up M k f j = M j from if_neg e]
  · rw [up_n (show j + 200 ≠ k + 200 from fun e => by
      have : j = k := by omega
      subst this
      rw [m_disj hk] at hj
      cases hj)]
    exact h.2.2.1 j hj
  · rw [up_n (by omega)]; exact h.2.2.2
theorem MH.arr2 {G : AHp} {M S : MS} {C : Nat → Int64} (h : MH G M S C) (k : Nat) (hk : mArr k = true) (c : ACell) (f : Nat → Int32) : MH (up (up G (k + 200) c) (k + 200) (aI (mLen k) f)) (va_up M k f) S C := by rw [up_up]; exact h.arr k hk f
theorem MH.scr {G : AHp} {M S : MS} {C : Nat → Int64} (h : MH G M S C) (k : Nat) (hk : sArr k = true) (f : Nat → Int32) : MH (up G (k + 200) (aI (mLen k) f)) M (va_up S k f) C := by
  have h26 : k ≠ 26 := fun e => by subst e; cases hk
  refine ⟨?_, fun j hj => ?_, fun j hj => ?_, ?_⟩
  · rw [up_n (by omega), h.1]
    have : mO M (va_up S k f) = mO M S := by
      have e : ∀ j, sArr j = false → va_up S k f j = S j := fun j hj => if_neg (fun z => by subst z; rw [hk] at hj; cases hj)
      unfold mO
      rw [e 28 rfl, e 29 rfl]
    rw [this]
  · rw [up_n (show j + 200 ≠ k + 200 from fun e => by
      have : j = k := by omega
      subst this
      rw [m_disj hj] at hk
      cases hk)]
    exact h.2.1 j hj
  · by_cases e : j = k
    · subst e
      rw [up_s, show va_up S j f j = f from if_pos rfl]
    · rw [up_n (by omega), h.2.2.1 j hj, show va_up S k f j = S j from if_neg e]
  · rw [up_n (by omega)]; exact h.2.2.2
theorem MH.cut {G : AHp} {M S : MS} {C : Nat → Int64} (h : MH G M S C) (ct : Nat → Int64) : MH (up G 226 (aL 4 ct)) M S ct := by
  refine ⟨by rw [up_n (by decide)]; exact h.1, fun j hj => ?_, fun j hj => ?_, up_s⟩
  · have : j ≠ 26 := fun e => by subst e; cases hj
    rw [up_n (by omega)]
    exact h.2.1 j hj
  · have : j ≠ 26 := fun e => by subst e; cases hj
    rw [up_n (by omega)]
    exact h.2.2.1 j hj
theorem MH.fld {G : AHp} {M S : MS} {C : Nat → Int64} (h : MH G M S C) (k : Nat) (hk : mArr k = false) (v : Int32) : MH (up G 100 (mO (va_up M k (fun _ => v)) S)) (va_up M k (fun _ => v)) S C := by
  refine ⟨up_s, fun j hj => ?_, fun j hj => ?_, ?_⟩
  · rw [up_n (by omega), h.2.1 j hj, show va_up M k (fun _ => v) j = M j from if_neg (fun z => by subst z; rw [hk] at hj; cases hj)]
  · rw [up_n (by omega)]; exact h.2.2.1 j hj
  · rw [up_n (by decide)]; exact h.2.2.2
theorem MH.sfl {G : AHp} {M S : MS} {C : Nat → Int64} (h : MH G M S C) (k : Nat) (hk : sArr k = false) (v : Int32) : MH (up G 100 (mO M (va_up S k (fun _ => v)))) M (va_up S k (fun _ => v)) C := by
  refine ⟨up_s, fun j hj => ?_, fun j hj => ?_, ?_⟩
  · rw [up_n (by omega)]; exact h.2.1 j hj
  · rw [up_n (by omega), h.2.2.1 j hj, show va_up S k (fun _ => v) j = S j from if_neg (fun z => by subst z; rw [hk] at hj; cases hj)]
  · rw [up_n (by decide)]; exact h.2.2.2
theorem c_md_in {n lo hi : Int32} {G : AHp} {kc ks : Nat} {Q : Option Value → AHp → Prop} (h1 : lo ≤ n → n ≤ hi → Q (some (.int 1)) G) (h0 : ¬ (lo ≤ n ∧ n ≤ hi) → Q (some (.int 0)) G) : A 0 M_md_in 0 [some (.int n), some (.int lo), some (.int hi)] [] G kc ks Q := by
  refine A.iload_k 0 rfl rfl d_md_in_0 ?_
  refine A.iload_k 1 rfl rfl d_md_in_1 ?_
  refine A.icmp_lt 14 (by decide) d_md_in_2 (fun c2 => ?_) (fun c2 => ?_)
  · refine A.iconst (v := 0) rfl d_md_in_14 ?_
    refine A.zret d_md_in_15 rfl (Or.inl rfl) ?_
    first | exact h1 (Int32.not_lt.mp c2) (Int32.not_lt.mp c7) | exact h0 (fun z => absurd z.1 (Int32.not_le.mpr c2)) | exact h0 (fun z => absurd z.2 (Int32.not_le.mpr c7))
  · refine A.iload_k 0 rfl rfl d_md_in_5 ?_
    refine A.iload_k 2 rfl rfl d_md_in_6 ?_
    refine A.icmp_gt 14 (by decide) d_md_in_7 (fun c7 => ?_) (fun c7 => ?_)
    · refine A.iconst (v := 0) rfl d_md_in_14 ?_
      refine A.zret d_md_in_15 rfl (Or.inl rfl) ?_
      first | exact h1 (Int32.not_lt.mp c2) (Int32.not_lt.mp c7) | exact h0 (fun z => absurd z.1 (Int32.not_le.mpr c2)) | exact h0 (fun z => absurd z.2 (Int32.not_le.mpr c7))
    · refine A.iconst (v := 1) rfl d_md_in_10 ?_
      refine A.goto 15 (by decide) d_md_in_11 ?_
      refine A.zret d_md_in_15 rfl (Or.inr rfl) ?_
      first | exact h1 (Int32.not_lt.mp c2) (Int32.not_lt.mp c7) | exact h0 (fun z => absurd z.1 (Int32.not_le.mpr c2)) | exact h0 (fun z => absurd z.2 (Int32.not_le.mpr c7))
def onS (M : MS) (s : Int32) : Nat → Int32
  | 0 => 0
  | n + 1 => onS M s n + (if M 3 n = s then 1 else 0)
theorem c_md_onStreet {M S : MS} {C : Nat → Int64} {s : Int32} {np : Nat} {G : AHp} {kc ks : Nat} {Q : Option Value → AHp → Prop} (hM : MH G M S C) (hn : M 2 0 = nI np) (hn2 : np ≤ 24) (h : Q (some (.int (onS M s np))) G) : A 0 M_md_onStreet 0 [some (.ref 100), some (.int s), none, none] [] G kc ks Q := by
  have loop : ∀ (k i : Nat), i ≤ np → np < i + k → A 0 M_md_onStreet 4 [some (.ref 100), some (.int s), some (.int (onS M s i)), some (.int (nI i))] [] G kc ks Q := by
    intro k
    induction k with
    | zero => intro i h1 h2; omega
    | succ k ih =>
      intro i h1 h2
      refine A.iload_k 3 rfl rfl d_md_onStreet_4 ?_
      refine A.aload_k 0 rfl rfl rfl d_md_onStreet_5 ?_
      apply A.getfield f_md_84 d_md_onStreet_6
      · first | exact hM.1 | exact hM.2.1 _ rfl
      · rfl
      refine A.icmp_ge 36 (by decide) d_md_onStreet_9 (fun c9 => ?_) (fun c9 => ?_)
      · refine A.iload_k 2 rfl rfl d_md_onStreet_36 ?_
        refine A.iret d_md_onStreet_37 rfl ?_
        rw [hn] at c9
        have e : i = np := by
          have := (nI_leI (by omega) (by omega)).mp c9
          omega
        subst e
        exact h
      · rw [hn] at c9
        have hlt : i < np := Nat.lt_of_not_le (fun z => c9 (nI_le z (by omega)))
        refine A.iload_k 2 rfl rfl d_md_onStreet_12 ?_
        refine A.aload_k 0 rfl rfl rfl d_md_onStreet_13 ?_
        apply A.getfield f_md_13 d_md_onStreet_14
        · first | exact hM.1 | exact hM.2.1 _ rfl
        · rfl
        refine A.iload_k 3 rfl rfl d_md_onStreet_17 ?_
        apply A.iaload (j := i) d_md_onStreet_18
        · first | exact hM.1 | exact hM.2.1 _ rfl
        · exact nI_toInt (by omega)
        · show i < 24; omega
        refine A.iload_k 1 rfl rfl d_md_onStreet_19 ?_
        refine A.icmp_ne 27 (by decide) d_md_onStreet_20 (fun c20 => ?_) (fun c20 => ?_)
        · refine A.iconst (v := 0) rfl d_md_onStreet_27 ?_
          refine A.iadd d_md_onStreet_28 ?_
          refine A.istore_k 2 rfl (Nat.le_of_ble_eq_true rfl) rfl d_md_onStreet_29 ?_
          dsimp only [List.set]
          refine A.iincp (n := 3) rfl (Nat.le_of_ble_eq_true rfl) d_md_onStreet_30 ?_
          dsimp only [List.set]
          refine A.goto 4 (by decide) d_md_onStreet_33 ?_
          rw [nI_1]
          have ih := ih (i + 1) (by omega) (by omega)
          unfold onS at ih
          first | rw [if_pos c20] at ih | rw [if_neg c20] at ih
          exact ih
        · refine A.iconst (v := 1) rfl d_md_onStreet_23 ?_
          refine A.goto 28 (by decide) d_md_onStreet_24 ?_
          refine A.iadd d_md_onStreet_28 ?_
          refine A.istore_k 2 rfl (Nat.le_of_ble_eq_true rfl) rfl d_md_onStreet_29 ?_
          dsimp only [List.set]
          refine A.iincp (n := 3) rfl (Nat.le_of_ble_eq_true rfl) d_md_onStreet_30 ?_
          dsimp only [List.set]
          refine A.goto 4 (by decide) d_md_onStreet_33 ?_
          rw [nI_1]
          have ih := ih (i + 1) (by omega) (by omega)
          unfold onS at ih
          first | rw [if_pos c20] at ih | rw [if_neg c20] at ih
          exact ih
  refine A.iconst (v := 0) rfl d_md_onStreet_0 ?_
  refine A.istore_k 2 rfl (Nat.le_of_ble_eq_true rfl) rfl d_md_onStreet_1 ?_
  dsimp only [List.set]
  refine A.iconst (v := 0) rfl d_md_onStreet_2 ?_
  refine A.istore_k 3 rfl (Nat.le_of_ble_eq_true rfl) rfl d_md_onStreet_3 ?_
  dsimp only [List.set]
  exact loop (np + 1) 0 (by omega) (by omega)

/-- what a state of the reference keeps -/
def WF (M : MS) (np : Nat) : Prop := M 2 0 = nI np ∧ np ≤ 24 ∧ (∀ p, ∃ l, l ≤ 3 ∧ M 7 p = nI l) ∧ (∀ q, ∃ h, h < 20 ∧ M 8 q = nI h) ∧ (∀ p, M 14 p = -1 ∨ ∃ h, h < 20 ∧ M 14 p = nI h) ∧ ∃ nw, nw ≤ 20 ∧ M 19 0 = nI nw
theorem c_md_isPlot {M S : MS} {C : Nat → Int64} {x : Int32} {np : Nat} {G : AHp} {kc ks : Nat} {Q : Option Value → AHp → Prop} (hM : MH G M S C) (hn : M 2 0 = nI np) (hn2 : np ≤ 24) (h1 : ∀ q, q < np → x = nI q → Q (some (.int 1)) G) (h0 : (∀ q, q < np → x ≠ nI q) → Q (some (.int 0)) G) : A 1 M_md_isPlot 0 [some (.ref 100), some (.int x)] [] G kc ks Q := by
  refine A.iload_k 1 rfl rfl d_md_isPlot_0 ?_
  refine A.iconst (v := 0) rfl d_md_isPlot_1 ?_
  refine A.aload_k 0 rfl rfl rfl d_md_isPlot_2 ?_
  apply A.getfield f_md_84 d_md_isPlot_3
  · exact hM.1
  · rfl
  rw [hn]
  refine A.iconst (v := 1) rfl d_md_isPlot_6 ?_
  refine A.isub d_md_isPlot_7 ?_
  refine A.callS3 s_md_87 (Nat.le_of_ble_eq_true rfl) (Nat.le_of_ble_eq_true rfl) (Nat.le_of_ble_eq_true rfl) d_md_isPlot_8 rfl (c_md_in (fun i1 i2 => ?_) (fun i3 => ?_))
  · dsimp only [psh]
    refine A.zret d_md_isPlot_11 rfl (Or.inr rfl) ?_
    first | (obtain ⟨q, e1, e2⟩ := in_np (by omega) i1 i2; exact h1 q e1 e2) | exact h0 (nin_np (by omega) i3)
  · dsimp only [psh]
    refine A.zret d_md_isPlot_11 rfl (Or.inl rfl) ?_
    first | (obtain ⟨q, e1, e2⟩ := in_np (by omega) i1 i2; exact h1 q e1 e2) | exact h0 (nin_np (by omega) i3)
theorem c_md_isStreet {x : Int32} {G : AHp} {kc ks : Nat} {Q : Option Value → AHp → Prop} (h1 : ∀ q, q < 6 → x = nI q → Q (some (.int 1)) G) (h0 : (∀ q, q < 6 → x ≠ nI q) → Q (some (.int 0)) G) : A 1 M_md_isStreet 0 [some (.int x)] [] G kc ks Q := by
  refine A.iload_k 0 rfl rfl d_md_isStreet_0 ?_
  refine A.iconst (v := 0) rfl d_md_isStreet_1 ?_
  refine A.iconst (v := 5) rfl d_md_isStreet_2 ?_
  refine A.callS3 s_md_87 (Nat.le_of_ble_eq_true rfl) (Nat.le_of_ble_eq_true rfl) (Nat.le_of_ble_eq_true rfl) d_md_isStreet_3 rfl (c_md_in (fun i1 i2 => ?_) (fun i3 => ?_))
  · dsimp only [psh]
    refine A.zret d_md_isStreet_6 rfl (Or.inr rfl) ?_
    first | (obtain ⟨q, e1, e2⟩ := in_lit (n := 5) (by decide) (by omega) i1 i2; exact h1 q (by omega) e2) | exact h0 (fun q hq e => i3 (by rw [e]; exact nI_bt (n := 5) (by decide) (by omega) (by omega)))
  · dsimp only [psh]
    refine A.zret d_md_isStreet_6 rfl (Or.inl rfl) ?_
    first | (obtain ⟨q, e1, e2⟩ := in_lit (n := 5) (by decide) (by omega) i1 i2; exact h1 q (by omega) e2) | exact h0 (fun q hq e => i3 (by rw [e]; exact nI_bt (n := 5) (by decide) (by omega) (by omega)))
theorem c_md_isGone {M S : MS} {C : Nat → Int64} {p : Nat} {G : AHp} {kc ks : Nat} {Q : Option Value → AHp → Prop} (hM : MH G M S C) (hp : p < 24) (h1 : (M 6 p = 2 ∨ M 6 p = 3) → Q (some (.int 1)) G) (h0 : ¬ (M 6 p = 2 ∨ M 6 p = 3) → Q (some (.int 0)) G) : A 0 M_md_isGone 0 [some (.ref 100), some (.int (nI p))] [] G kc ks Q := by
  refine A.aload_k 0 rfl rfl rfl d_md_isGone_0 ?_
  apply A.getfield f_md_22 d_md_isGone_1
  · first | exact hM.1 | exact hM.2.1 _ rfl
  · rfl
  refine A.iload_k 1 rfl rfl d_md_isGone_4 ?_
  apply A.iaload (j := p) d_md_isGone_5
  · first | exact hM.1 | exact hM.2.1 _ rfl
  · exact ixn (by omega)
  · exact hp
  refine A.iconst (v := 2) rfl d_md_isGone_6 ?_
  refine A.icmp_eq 20 (by decide) d_md_isGone_7 (fun c7 => ?_) (fun c7 => ?_)
  · refine A.iconst (v := 1) rfl d_md_isGone_20 ?_
    refine A.goto 25 (by decide) d_md_isGone_21 ?_
    refine A.zret d_md_isGone_25 rfl (Or.inr rfl) ?_
    first | exact h1 (Or.inl c7) | exact h1 (Or.inr c17) | exact h0 (fun z => z.elim c7 c17)
  · refine A.aload_k 0 rfl rfl rfl d_md_isGone_10 ?_
    apply A.getfield f_md_22 d_md_isGone_11
    · first | exact hM.1 | exact hM.2.1 _ rfl
    · rfl
    refine A.iload_k 1 rfl rfl d_md_isGone_14 ?_
    apply A.iaload (j := p) d_md_isGone_15
    · first | exact hM.1 | exact hM.2.1 _ rfl
    · exact ixn (by omega)
    · exact hp
    refine A.iconst (v := 3) rfl d_md_isGone_16 ?_
    refine A.icmp_ne 24 (by decide) d_md_isGone_17 (fun c17 => ?_) (fun c17 => ?_)
    · refine A.iconst (v := 0) rfl d_md_isGone_24 ?_
      refine A.zret d_md_isGone_25 rfl (Or.inl rfl) ?_
      first | exact h1 (Or.inl c7) | exact h1 (Or.inr c17) | exact h0 (fun z => z.elim c7 c17)
    · refine A.iconst (v := 1) rfl d_md_isGone_20 ?_
      refine A.goto 25 (by decide) d_md_isGone_21 ?_
      refine A.zret d_md_isGone_25 rfl (Or.inr rfl) ?_
      first | exact h1 (Or.inl c7) | exact h1 (Or.inr c17) | exact h0 (fun z => z.elim c7 c17)
theorem c_md_coins {M S : MS} {C : Nat → Int64} {x n : Int32} {G : AHp} {kc ks : Nat} {Q : Option Value → AHp → Prop} (hM : MH G M S C) (h0 : ¬ ((∃ q, q < 20 ∧ x = nI q) ∧ 1 ≤ n ∧ n ≤ 100000) → Q (some (.int (-2147483648))) G) (h1 : ∀ q, q < 20 → x = nI q → 1 ≤ n → n ≤ 100000 → ∀ G', MH G' (va_up M 1 (upd (M 1) q (M 1 q + n))) S C → FrM G G' → Q (some (.int (M 1 q + n))) G') : A 1 M_md_coins 0 [some (.ref 100), some (.int x), some (.int n)] [] G kc ks Q := by
  refine A.iload_k 1 rfl rfl d_md_coins_0 ?_
  refine A.iconst (v := 0) rfl d_md_coins_1 ?_
  refine A.bipush (v := 19) rfl d_md_coins_2 ?_
  refine A.callS3 s_md_87 (Nat.le_of_ble_eq_true rfl) (Nat.le_of_ble_eq_true rfl) (Nat.le_of_ble_eq_true rfl) d_md_coins_4 rfl (c_md_in (fun a1 a2 => ?_) (fun a3 => ?_))
  · dsimp only [psh]
    refine A.if_eq1 d_md_coins_7 (tgt := 20) (by decide) ?_
    refine A.iload_k 2 rfl rfl d_md_coins_10 ?_
    refine A.iconst (v := 1) rfl d_md_coins_11 ?_
    refine A.ldc d_md_coins_12 k_md_91 ?_
    refine A.callS3 s_md_87 (Nat.le_of_ble_eq_true rfl) (Nat.le_of_ble_eq_true rfl) (Nat.le_of_ble_eq_true rfl) d_md_coins_14 rfl (c_md_in (fun b1 b2 => ?_) (fun b3 => ?_))
    · dsimp only [psh]
      refine A.if_ne1 23 (by decide) d_md_coins_17 ?_
      obtain ⟨q, hq, rfl⟩ := in_lit (n := 19) (by decide) (by omega) a1 a2
      refine A.aload_k 0 rfl rfl rfl d_md_coins_23 ?_
      apply A.getfield f_md_9 d_md_coins_24
      · repeat first | exact up_s | refine up_e (by decide) ?_ | exact hM.1 | exact hM.2.1 _ rfl
      · rfl
      refine A.iload_k 1 rfl rfl d_md_coins_27 ?_
      refine A.dup2 rfl rfl d_md_coins_28 ?_
      apply A.iaload (j := q) d_md_coins_29
      · repeat first | exact up_s | refine up_e (by decide) ?_ | exact hM.1 | exact hM.2.1 _ rfl
      · exact ixn (by omega)
      · show q < 20; omega
      refine A.iload_k 2 rfl rfl d_md_coins_30 ?_
      refine A.iadd d_md_coins_31 ?_
      apply A.iastore (j := q) d_md_coins_32
      · repeat first | exact up_s | refine up_e (by decide) ?_ | exact hM.1 | exact hM.2.1 _ rfl
      · first | decide | omega
      · exact ixn (by omega)
      · show q < 20; omega
      refine A.aload_k 0 rfl rfl rfl d_md_coins_33 ?_
      apply A.getfield f_md_9 d_md_coins_34
      · repeat first | exact up_s | refine up_e (by decide) ?_ | exact hM.1 | exact hM.2.1 _ rfl
      · rfl
      refine A.iload_k 1 rfl rfl d_md_coins_37 ?_
      apply A.iaload (j := q) d_md_coins_38
      · repeat first | exact up_s | refine up_e (by decide) ?_ | exact hM.1 | exact hM.2.1 _ rfl
      · exact ixn (by omega)
      · show q < 20; omega
      refine A.iret d_md_coins_39 rfl ?_
      rw [pk_us]
      exact h1 q (by omega) rfl b1 b2 _ (hM.arr 1 rfl _) (FrM.rf.up (by decide) (by decide))
    · dsimp only [psh]
      refine A.if_ne0 d_md_coins_17 (tgt := 23) (by decide) ?_
      refine A.ldc d_md_coins_20 k_md_92 ?_
      refine A.iret d_md_coins_22 rfl ?_
      first | exact h0 (fun z => b3 z.2) | exact h0 (fun z => by obtain ⟨q, e1, e2⟩ := z.1; exact a3 (by rw [e2]; exact nI_bt (n := 19) (by decide) (by omega) (by omega)))
  · dsimp only [psh]
    refine A.if_eq0 20 (by decide) d_md_coins_7 ?_
    refine A.ldc d_md_coins_20 k_md_92 ?_
    refine A.iret d_md_coins_22 rfl ?_
    first | exact h0 (fun z => b3 z.2) | exact h0 (fun z => by obtain ⟨q, e1, e2⟩ := z.1; exact a3 (by rw [e2]; exact nI_bt (n := 19) (by decide) (by omega) (by omega)))
theorem c_md_has {M S : MS} {C : Nat → Int64} {x : Int32} {G : AHp} {kc ks : Nat} {Q : Option Value → AHp → Prop} (hM : MH G M S C) (h0 : (∀ q, q < 20 → x ≠ nI q) → Q (some (.int (-2147483648))) G) (h1 : ∀ q, q < 20 → x = nI q → Q (some (.int (M 1 q))) G) : A 1 M_md_has 0 [some (.ref 100), some (.int x)] [] G kc ks Q := by
  refine A.iload_k 1 rfl rfl d_md_has_0 ?_
  refine A.iconst (v := 0) rfl d_md_has_1 ?_
  refine A.bipush (v := 19) rfl d_md_has_2 ?_
  refine A.callS3 s_md_87 (Nat.le_of_ble_eq_true rfl) (Nat.le_of_ble_eq_true rfl) (Nat.le_of_ble_eq_true rfl) d_md_has_4 rfl (c_md_in (fun i1 i2 => ?_) (fun i3 => ?_))
  · dsimp only [psh]
    refine A.if_eq1 d_md_has_7 (tgt := 19) (by decide) ?_
    obtain ⟨q, hq, rfl⟩ := in_lit (n := 19) (by decide) (by omega) i1 i2
    refine A.aload_k 0 rfl rfl rfl d_md_has_10 ?_
    apply A.getfield f_md_9 d_md_has_11
    · first | exact hM.1 | exact hM.2.1 _ rfl
    · rfl
    refine A.iload_k 1 rfl rfl d_md_has_14 ?_
    apply A.iaload (j := q) d_md_has_15
    · first | exact hM.1 | exact hM.2.1 _ rfl
    · exact ixn (by omega)
    · show q < 20; omega
    refine A.goto 21 (by decide) d_md_has_16 ?_
    refine A.iret d_md_has_21 rfl ?_
    first | exact h1 q (by omega) rfl | exact h0 (fun q hq e => i3 (by rw [e]; exact nI_bt (n := 19) (by decide) (by omega) (by omega)))
  · dsimp only [psh]
    refine A.if_eq0 19 (by decide) d_md_has_7 ?_
    refine A.ldc d_md_has_19 k_md_92 ?_
    refine A.iret d_md_has_21 rfl ?_
    first | exact h1 q (by omega) rfl | exact h0 (fun q hq e => i3 (by rw [e]; exact nI_bt (n := 19) (by decide) (by omega) (by omega)))
def mPlot (M : MS) (np : Nat) (s fr de ow : Int32) : MS := va_up (va_up (va_up (va_up (va_up (va_up (va_up (va_up (va_up (va_up M 3 (upd (M 3) np s)) 4 (upd (M 4) np fr)) 5 (upd (M 5) np de)) 8 (upd (M 8) (4 * np) ow)) 9 (upd (M 9) (4 * np) 99)) 11 (upd (M 11) np (-1))) 12 (upd (M 12) np (-1))) 13 (upd (M 13) np (-1))) 14 (upd (M 14) np (-1))) 2 (fun _ => nI (np + 1))
theorem c_md_plot {M S : MS} {C : Nat → Int64} {s z w : Int32} {np : Nat} {G : AHp} {kc ks : Nat} {Q : Option Value → AHp → Prop} (hM : MH G M S C) (hn : M 2 0 = nI np) (hn2 : np ≤ 24)
    (h0 : ¬ ((∃ q, q < 6 ∧ s = nI q) ∧ (∃ q, q < 20 ∧ w = nI q) ∧ (10 ≤ z / 1000 ∧ z / 1000 ≤ 60) ∧ (20 ≤ z - z / 1000 * 1000 ∧ z - z / 1000 * 1000 ≤ 100) ∧ np ≠ 24 ∧ onS M s np ≠ 8) → Q (some (.int (-1))) G)
    (h1 : ∀ q o, q < 6 → s = nI q → o < 20 → w = nI o → (10 ≤ z / 1000 ∧ z / 1000 ≤ 60) → (20 ≤ z - z / 1000 * 1000 ∧ z - z / 1000 * 1000 ≤ 100) → np < 24 → onS M s np ≠ 8 → ∀ G', MH G' (mPlot M np s (z / 1000) (z - z / 1000 * 1000) w) S C → FrM G G' → Q (some (.int (nI np))) G') : A 2 M_md_plot 0 [some (.ref 100), some (.int s), some (.int z), some (.int w)] [] G kc ks Q := by
  refine A.iload_k 1 rfl rfl d_md_plot_0 ?_
  refine A.callS1 s_md_93 (Nat.le_of_ble_eq_true rfl) (Nat.le_of_ble_eq_true rfl) (Nat.le_of_ble_eq_true rfl) d_md_plot_1 rfl (c_md_isStreet (fun s j1 j2 => ?_) (fun j3 => ?_))
  · dsimp only [psh]
    refine A.if_eq1 d_md_plot_4 (tgt := 66) (by decide) ?_
    refine A.iload_k 3 rfl rfl d_md_plot_7 ?_
    refine A.iconst (v := 0) rfl d_md_plot_8 ?_
    refine A.bipush (v := 19) rfl d_md_plot_9 ?_
    refine A.callS3 s_md_87 (Nat.le_of_ble_eq_true rfl) (Nat.le_of_ble_eq_true rfl) (Nat.le_of_ble_eq_true rfl) d_md_plot_11 rfl (c_md_in (fun a1 a2 => ?_) (fun a3 => ?_))
    · dsimp only [psh]
      refine A.if_eq1 d_md_plot_14 (tgt := 66) (by decide) ?_
      refine A.iload_k 2 rfl rfl d_md_plot_17 ?_
      refine A.sipush (v := 1000) rfl d_md_plot_18 ?_
      refine A.idiv (by decide) d_md_plot_21 ?_
      refine A.bipush (v := 10) rfl d_md_plot_22 ?_
      refine A.bipush (v := 60) rfl d_md_plot_24 ?_
      refine A.callS3 s_md_87 (Nat.le_of_ble_eq_true rfl) (Nat.le_of_ble_eq_true rfl) (Nat.le_of_ble_eq_true rfl) d_md_plot_26 rfl (c_md_in (fun b1 b2 => ?_) (fun b3 => ?_))
      · dsimp only [psh]
        refine A.if_eq1 d_md_plot_29 (tgt := 66) (by decide) ?_
        refine A.iload_k 2 rfl rfl d_md_plot_32 ?_
        refine A.sipush (v := 1000) rfl d_md_plot_33 ?_
        refine A.irem (by decide) d_md_plot_36 ?_
        refine A.bipush (v := 20) rfl d_md_plot_37 ?_
        refine A.bipush (v := 100) rfl d_md_plot_39 ?_
        refine A.callS3 s_md_87 (Nat.le_of_ble_eq_true rfl) (Nat.le_of_ble_eq_true rfl) (Nat.le_of_ble_eq_true rfl) d_md_plot_41 rfl (c_md_in (fun e1 e2 => ?_) (fun e3 => ?_))
        · dsimp only [psh]
          refine A.if_eq1 d_md_plot_44 (tgt := 66) (by decide) ?_
          refine A.aload_k 0 rfl rfl rfl d_md_plot_47 ?_
          apply A.getfield f_md_84 d_md_plot_48
          · repeat first | exact up_s | refine up_e (by decide) ?_ | exact hM.1 | exact hM.2.1 _ rfl
          · rfl
          rw [hn]
          refine A.bipush (v := 24) rfl d_md_plot_51 ?_
          refine A.icmp_eq 66 (by decide) d_md_plot_53 (fun c53 => ?_) (fun c53 => ?_)
          · refine A.iconst (v := -1) rfl d_md_plot_66 ?_
            refine A.iret d_md_plot_67 rfl ?_
            first | exact h0 (fun z => by obtain ⟨q, y1, y2⟩ := z.1; exact j3 q y1 y2) | exact h0 (fun z => by obtain ⟨q, y1, y2⟩ := z.2.1; exact a3 (by rw [y2]; exact nI_bt (n := 19) (by decide) (by omega) (by omega))) | exact h0 (fun z => b3 z.2.2.1) | exact h0 (fun z => e3 z.2.2.2.1) | exact h0 (fun z => z.2.2.2.2.1 (nI_inj (by omega) (by omega) c53)) | exact h0 (fun z => z.2.2.2.2.2 c63)
          · refine A.aload_k 0 rfl rfl rfl d_md_plot_56 ?_
            refine A.iload_k 1 rfl rfl d_md_plot_57 ?_
            refine A.callV1 s_md_97 ?_ (Nat.le_of_ble_eq_true rfl) (Nat.le_of_ble_eq_true rfl) (Nat.le_of_ble_eq_true rfl) d_md_plot_58 rfl (c_md_onStreet hM hn hn2 ?_)
            · apply Exists.intro
              repeat first | exact up_s | refine up_e (by decide) ?_ | exact hM.1 | exact hM.2.1 _ rfl
            dsimp only [psh]
            refine A.bipush (v := 8) rfl d_md_plot_61 ?_
            refine A.icmp_ne 68 (by decide) d_md_plot_63 (fun c63 => ?_) (fun c63 => ?_)
            · have hlt : np < 24 := by
                rcases Nat.lt_or_ge np 24 with y | y
                · exact y
                · have : np = 24 := by omega
                  subst this
                  exact absurd rfl c53
              refine A.aload_k 0 rfl rfl rfl d_md_plot_68 ?_
              apply A.getfield f_md_13 d_md_plot_69
              · repeat first | exact up_s | refine up_e (by decide) ?_ | exact hM.1 | exact hM.2.1 _ rfl
              · rfl
              refine A.aload_k 0 rfl rfl rfl d_md_plot_72 ?_
              apply A.getfield f_md_84 d_md_plot_73
              · repeat first | exact up_s | refine up_e (by decide) ?_ | exact hM.1 | exact hM.2.1 _ rfl
              · rfl
              (try rw [hn])
              refine A.iload_k 1 rfl rfl d_md_plot_76 ?_
              apply A.iastore (j := np) d_md_plot_77
              · repeat first | exact up_s | refine up_e (by decide) ?_ | exact hM.1 | exact hM.2.1 _ rfl
              · first | decide | omega
              · exact ixn (by omega)
              · show np < 24; omega
              refine A.aload_k 0 rfl rfl rfl d_md_plot_78 ?_
              apply A.getfield f_md_16 d_md_plot_79
              · repeat first | exact up_s | refine up_e (by decide) ?_ | exact hM.1 | exact hM.2.1 _ rfl
              · rfl
              refine A.aload_k 0 rfl rfl rfl d_md_plot_82 ?_
              apply A.getfield f_md_84 d_md_plot_83
              · repeat first | exact up_s | refine up_e (by decide) ?_ | exact hM.1 | exact hM.2.1 _ rfl
              · rfl
              (try rw [hn])
              refine A.iload_k 2 rfl rfl d_md_plot_86 ?_
              refine A.sipush (v := 1000) rfl d_md_plot_87 ?_
              refine A.idiv (by decide) d_md_plot_90 ?_
              apply A.iastore (j := np) d_md_plot_91
              · repeat first | exact up_s | refine up_e (by decide) ?_ | exact hM.1 | exact hM.2.1 _ rfl
              · first | decide | omega
              · exact ixn (by omega)
              · show np < 24; omega
              refine A.aload_k 0 rfl rfl rfl d_md_plot_92 ?_
              apply A.getfield f_md_19 d_md_plot_93
              · repeat first | exact up_s | refine up_e (by decide) ?_ | exact hM.1 | exact hM.2.1 _ rfl
              · rfl
              refine A.aload_k 0 rfl rfl rfl d_md_plot_96 ?_
              apply A.getfield f_md_84 d_md_plot_97
              · repeat first | exact up_s | refine up_e (by decide) ?_ | exact hM.1 | exact hM.2.1 _ rfl
              · rfl
              (try rw [hn])
              refine A.iload_k 2 rfl rfl d_md_plot_100 ?_
              refine A.sipush (v := 1000) rfl d_md_plot_101 ?_
              refine A.irem (by decide) d_md_plot_104 ?_
              apply A.iastore (j := np) d_md_plot_105
              · repeat first | exact up_s | refine up_e (by decide) ?_ | exact hM.1 | exact hM.2.1 _ rfl
              · first | decide | omega
              · exact ixn (by omega)
              · show np < 24; omega
              refine A.aload_k 0 rfl rfl rfl d_md_plot_106 ?_
              apply A.getfield f_md_28 d_md_plot_107
              · repeat first | exact up_s | refine up_e (by decide) ?_ | exact hM.1 | exact hM.2.1 _ rfl
              · rfl
              refine A.iconst (v := 4) rfl d_md_plot_110 ?_
              refine A.aload_k 0 rfl rfl rfl d_md_plot_111 ?_
              apply A.getfield f_md_84 d_md_plot_112
              · repeat first | exact up_s | refine up_e (by decide) ?_ | exact hM.1 | exact hM.2.1 _ rfl
              · rfl
              (try rw [hn])
              refine A.imul d_md_plot_115 ?_
              refine A.iload_k 3 rfl rfl d_md_plot_116 ?_
              apply A.iastore (j := 4 * np) d_md_plot_117
              · repeat first | exact up_s | refine up_e (by decide) ?_ | exact hM.1 | exact hM.2.1 _ rfl
              · first | decide | omega
              · exact ix4z (by omega)
              · show 4 * np < 96; omega
              refine A.aload_k 0 rfl rfl rfl d_md_plot_118 ?_
              apply A.getfield f_md_31 d_md_plot_119
              · repeat first | exact up_s | refine up_e (by decide) ?_ | exact hM.1 | exact hM.2.1 _ rfl
              · rfl
              refine A.iconst (v := 4) rfl d_md_plot_122 ?_
              refine A.aload_k 0 rfl rfl rfl d_md_plot_123 ?_
              apply A.getfield f_md_84 d_md_plot_124
              · repeat first | exact up_s | refine up_e (by decide) ?_ | exact hM.1 | exact hM.2.1 _ rfl
              · rfl
              (try rw [hn])
              refine A.imul d_md_plot_127 ?_
              refine A.bipush (v := 99) rfl d_md_plot_128 ?_
              apply A.iastore (j := 4 * np) d_md_plot_130
              · repeat first | exact up_s | refine up_e (by decide) ?_ | exact hM.1 | exact hM.2.1 _ rfl
              · first | decide | omega
              · exact ix4z (by omega)
              · show 4 * np < 96; omega
              refine A.aload_k 0 rfl rfl rfl d_md_plot_131 ?_
              apply A.getfield f_md_37 d_md_plot_132
              · repeat first | exact up_s | refine up_e (by decide) ?_ | exact hM.1 | exact hM.2.1 _ rfl
              · rfl
              refine A.aload_k 0 rfl rfl rfl d_md_plot_135 ?_
              apply A.getfield f_md_84 d_md_plot_136
              · repeat first | exact up_s | refine up_e (by decide) ?_ | exact hM.1 | exact hM.2.1 _ rfl
              · rfl
              (try rw [hn])
              refine A.iconst (v := -1) rfl d_md_plot_139 ?_
              apply A.iastore (j := np) d_md_plot_140
              · repeat first | exact up_s | refine up_e (by decide) ?_ | exact hM.1 | exact hM.2.1 _ rfl
              · first | decide | omega
              · exact ixn (by omega)
              · show np < 24; omega
              refine A.aload_k 0 rfl rfl rfl d_md_plot_141 ?_
              apply A.getfield f_md_40 d_md_plot_142
              · repeat first | exact up_s | refine up_e (by decide) ?_ | exact hM.1 | exact hM.2.1 _ rfl
              · rfl
              refine A.aload_k 0 rfl rfl rfl d_md_plot_145 ?_
              apply A.getfield f_md_84 d_md_plot_146
              · repeat first | exact up_s | refine up_e (by decide) ?_ | exact hM.1 | exact hM.2.1 _ rfl
              · rfl
              (try rw [hn])
              refine A.iconst (v := -1) rfl d_md_plot_149 ?_
              apply A.iastore (j := np) d_md_plot_150
              · repeat first | exact up_s | refine up_e (by decide) ?_ | exact hM.1 | exact hM.2.1 _ rfl
              · first | decide | omega
              · exact ixn (by omega)
              · show np < 24; omega
              refine A.aload_k 0 rfl rfl rfl d_md_plot_151 ?_
              apply A.getfield f_md_43 d_md_plot_152
              · repeat first | exact up_s | refine up_e (by decide) ?_ | exact hM.1 | exact hM.2.1 _ rfl
              · rfl
              refine A.aload_k 0 rfl rfl rfl d_md_plot_155 ?_
              apply A.getfield f_md_84 d_md_plot_156
              · repeat first | exact up_s | refine up_e (by decide) ?_ | exact hM.1 | exact hM.2.1 _ rfl
              · rfl
              (try rw [hn])
              refine A.iconst (v := -1) rfl d_md_plot_159 ?_
              apply A.iastore (j := np) d_md_plot_160
              · repeat first | exact up_s | refine up_e (by decide) ?_ | exact hM.1 | exact hM.2.1 _ rfl
              · first | decide | omega
              · exact ixn (by omega)
              · show np < 24; omega
              refine A.aload_k 0 rfl rfl rfl d_md_plot_161 ?_
              apply A.getfield f_md_46 d_md_plot_162
              · repeat first | exact up_s | refine up_e (by decide) ?_ | exact hM.1 | exact hM.2.1 _ rfl
              · rfl
              refine A.aload_k 0 rfl rfl rfl d_md_plot_165 ?_
              apply A.getfield f_md_84 d_md_plot_166
              · repeat first | exact up_s | refine up_e (by decide) ?_ | exact hM.1 | exact hM.2.1 _ rfl
              · rfl
              (try rw [hn])
              refine A.iconst (v := -1) rfl d_md_plot_169 ?_
              apply A.iastore (j := np) d_md_plot_170
              · repeat first | exact up_s | refine up_e (by decide) ?_ | exact hM.1 | exact hM.2.1 _ rfl
              · first | decide | omega
              · exact ixn (by omega)
              · show np < 24; omega
              refine A.aload_k 0 rfl rfl rfl d_md_plot_171 ?_
              refine A.dup rfl d_md_plot_172 ?_
              apply A.getfield f_md_84 d_md_plot_173
              · repeat first | exact up_s | refine up_e (by decide) ?_ | exact hM.1 | exact hM.2.1 _ rfl
              · rfl
              (try rw [hn])
              refine A.iconst (v := 1) rfl d_md_plot_176 ?_
              refine A.iadd d_md_plot_177 ?_
              apply A.putfield p_md_84 d_md_plot_178
              · repeat first | exact up_s | refine up_e (by decide) ?_ | exact hM.1 | exact hM.2.1 _ rfl
              · exact (Nat.le_of_ble_eq_true rfl)
              · rfl
              dsimp only [List.set]
              refine A.aload_k 0 rfl rfl rfl d_md_plot_181 ?_
              apply A.getfield f_md_84 d_md_plot_182
              · repeat first | exact up_s | refine up_e (by decide) ?_ | exact hM.1 | exact hM.2.1 _ rfl
              · rfl
              (try rw [hn])
              refine A.iconst (v := 1) rfl d_md_plot_185 ?_
              refine A.isub d_md_plot_186 ?_
              refine A.iret d_md_plot_187 rfl ?_
              rw [nI_1, nI_pred]
              obtain ⟨o, y1, y2⟩ := in_lit (n := 19) (by decide) (by omega) a1 a2
              exact h1 _ o j1 j2 (by omega) y2 ⟨b1, b2⟩ ⟨e1, e2⟩ hlt c63 _ ((((((((((hM.arr 3 rfl _).arr 4 rfl _).arr 5 rfl _).arr 8 rfl _).arr 9 rfl _).arr 11 rfl _).arr 12 rfl _).arr 13 rfl _).arr 14 rfl _).fld 2 rfl _) (by repeat (first | exact FrM.rf | refine FrM.up ?_ (by decide) (by decide)))
            · refine A.iconst (v := -1) rfl d_md_plot_66 ?_
              refine A.iret d_md_plot_67 rfl ?_
              first | exact h0 (fun z => by obtain ⟨q, y1, y2⟩ := z.1; exact j3 q y1 y2) | exact h0 (fun z => by obtain ⟨q, y1, y2⟩ := z.2.1; exact a3 (by rw [y2]; exact nI_bt (n := 19) (by decide) (by omega) (by omega))) | exact h0 (fun z => b3 z.2.2.1) | exact h0 (fun z => e3 z.2.2.2.1) | exact h0 (fun z => z.2.2.2.2.1 (nI_inj (by omega) (by omega) c53)) | exact h0 (fun z => z.2.2.2.2.2 c63)
        · dsimp only [psh]
          refine A.if_eq0 66 (by decide) d_md_plot_44 ?_
          refine A.iconst (v := -1) rfl d_md_plot_66 ?_
          refine A.iret d_md_plot_67 rfl ?_
          first | exact h0 (fun z => by obtain ⟨q, y1, y2⟩ := z.1; exact j3 q y1 y2) | exact h0 (fun z => by obtain ⟨q, y1, y2⟩ := z.2.1; exact a3 (by rw [y2]; exact nI_bt (n := 19) (by decide) (by omega) (by omega))) | exact h0 (fun z => b3 z.2.2.1) | exact h0 (fun z => e3 z.2.2.2.1) | exact h0 (fun z => z.2.2.2.2.1 (nI_inj (by omega) (by omega) c53)) | exact h0 (fun z => z.2.2.2.2.2 c63)
      · dsimp only [psh]
        refine A.if_eq0 66 (by decide) d_md_plot_29 ?_
        refine A.iconst (v := -1) rfl d_md_plot_66 ?_
        refine A.iret d_md_plot_67 rfl ?_
        first | exact h0 (fun z => by obtain ⟨q, y1, y2⟩ := z.1; exact j3 q y1 y2) | exact h0 (fun z => by obtain ⟨q, y1, y2⟩ := z.2.1; exact a3 (by rw [y2]; exact nI_bt (n := 19) (by decide) (by omega) (by omega))) | exact h0 (fun z => b3 z.2.2.1) | exact h0 (fun z => e3 z.2.2.2.1) | exact h0 (fun z => z.2.2.2.2.1 (nI_inj (by omega) (by omega) c53)) | exact h0 (fun z => z.2.2.2.2.2 c63)
    · dsimp only [psh]
      refine A.if_eq0 66 (by decide) d_md_plot_14 ?_
      refine A.iconst (v := -1) rfl d_md_plot_66 ?_
      refine A.iret d_md_plot_67 rfl ?_
      first | exact h0 (fun z => by obtain ⟨q, y1, y2⟩ := z.1; exact j3 q y1 y2) | exact h0 (fun z => by obtain ⟨q, y1, y2⟩ := z.2.1; exact a3 (by rw [y2]; exact nI_bt (n := 19) (by decide) (by omega) (by omega))) | exact h0 (fun z => b3 z.2.2.1) | exact h0 (fun z => e3 z.2.2.2.1) | exact h0 (fun z => z.2.2.2.2.1 (nI_inj (by omega) (by omega) c53)) | exact h0 (fun z => z.2.2.2.2.2 c63)
  · dsimp only [psh]
    refine A.if_eq0 66 (by decide) d_md_plot_4 ?_
    refine A.iconst (v := -1) rfl d_md_plot_66 ?_
    refine A.iret d_md_plot_67 rfl ?_
    first | exact h0 (fun z => by obtain ⟨q, y1, y2⟩ := z.1; exact j3 q y1 y2) | exact h0 (fun z => by obtain ⟨q, y1, y2⟩ := z.2.1; exact a3 (by rw [y2]; exact nI_bt (n := 19) (by decide) (by omega) (by omega))) | exact h0 (fun z => b3 z.2.2.1) | exact h0 (fun z => e3 z.2.2.2.1) | exact h0 (fun z => z.2.2.2.2.1 (nI_inj (by omega) (by omega) c53)) | exact h0 (fun z => z.2.2.2.2.2 c63)
