/-! the reference, on: stakes and borders. The least quarrels as numbers (DN), the borders (bdN) -/
def apN (a b : Nat) : Nat := if a < b then b - a else a - b
def skN (sk : Option Nat) (y : Nat) : Nat := match sk with
  | none => 0
  | some z => apN y z
def csN (D : Nat → Nat) (d : Nat) (sk : Option Nat) (t x y : Nat) : Nat := if 1000000 ≤ D y then 1000000 else D y + apN (y - x) d + (if y < t then skN sk y else 0)
def mnN (f : Nat → Nat) (x : Nat) : Nat → Nat
  | 0 => 1000000
  | j + 1 => if f (x + 1 + j) < mnN f x j then f (x + 1 + j) else mnN f x j
theorem mnN_s (f : Nat → Nat) (x j : Nat) : mnN f x (j + 1) = if f (x + 1 + j) < mnN f x j then f (x + 1 + j) else mnN f x j := rfl
theorem mnN_le (f : Nat → Nat) (x : Nat) : ∀ j, mnN f x j ≤ 1000000
  | 0 => Nat.le_refl _
  | j + 1 => by
    rw [mnN_s]
    have := mnN_le f x j
    by_cases h : f (x + 1 + j) < mnN f x j
    · rw [if_pos h]; omega
    · rw [if_neg h]; exact this
/-- the least quarrel of the last j plots (of n), begun at the foot x -/
def DN (n t : Nat) (dd : Nat → Nat) (sk : Nat → Option Nat) : Nat → Nat → Nat
  | 0, x => if x = t then 0 else 1000000
  | j + 1, x => mnN (csN (DN n t dd sk j) (dd (n - (j + 1))) (sk (n - (j + 1))) t x) x (t - x)
theorem DN_s (n t : Nat) (dd : Nat → Nat) (sk : Nat → Option Nat) (j x : Nat) : DN n t dd sk (j + 1) x = mnN (csN (DN n t dd sk j) (dd (n - (j + 1))) (sk (n - (j + 1))) t x) x (t - x) := rfl
theorem DN_le (n t : Nat) (dd : Nat → Nat) (sk : Nat → Option Nat) (j x : Nat) : DN n t dd sk j x ≤ 1000000 := by
  cases j with
  | zero =>
    show (if x = t then 0 else 1000000) ≤ 1000000
    by_cases h : x = t
    · rw [if_pos h]; omega
    · rw [if_neg h]; omega
  | succ j => rw [DN_s]; exact mnN_le _ _ _
theorem apN_nI {a b : Nat} (ha : a < 1000000) (hb : b < 1000000) : (if nI b ≤ nI a then nI a - nI b else nI b - nI a) = nI (apN a b) := by
  unfold apN
  by_cases h : a < b
  · rw [if_pos h, if_neg (nI_ge h (by omega)), pk_sub (by omega)]
  · rw [if_neg h, if_pos (nI_le (by omega) (by omega)), pk_sub (by omega)]
theorem apN_le {a b c : Nat} (ha : a ≤ c) (hb : b ≤ c) : apN a b ≤ c := by
  unfold apN
  by_cases h : a < b
  · rw [if_pos h]; omega
  · rw [if_neg h]; omega
/-- the plots of a street below p, in their order -/
def strL (M : MS) (s : Int32) : Nat → List Nat
  | 0 => []
  | p + 1 => if M 3 p = s then strL M s p ++ [p] else strL M s p
theorem strL_s (M : MS) (s : Int32) (p : Nat) : strL M s (p + 1) = if M 3 p = s then strL M s p ++ [p] else strL M s p := rfl
theorem strL_lt (M : MS) (s : Int32) : ∀ p q, q ∈ strL M s p → q < p ∧ M 3 q = s
  | 0, q, h => by simp [strL] at h
  | p + 1, q, h => by
    rw [strL_s] at h
    by_cases c : M 3 p = s
    · rw [if_pos c, List.mem_append] at h
      rcases h with h | h
      · have := strL_lt M s p q h; exact ⟨by omega, this.2⟩
      · simp at h; subst h; exact ⟨by omega, c⟩
    · rw [if_neg c] at h
      have := strL_lt M s p q h; exact ⟨by omega, this.2⟩
theorem strL_mono (M : MS) (s : Int32) (p : Nat) : ∀ k, (strL M s p).length ≤ (strL M s (p + k)).length
  | 0 => Nat.le_refl _
  | k + 1 => by
    have := strL_mono M s p k
    rw [show p + (k + 1) = p + k + 1 by omega, strL_s]
    by_cases c : M 3 (p + k) = s
    · rw [if_pos c, List.length_append]; omega
    · rw [if_neg c]; exact this
theorem csN_le {D : Nat → Nat} {d : Nat} {sk : Option Nat} {t x y : Nat} (hy : y ≤ 300) (hd : d ≤ 60) (hs : ∀ z, sk = some z → z ≤ 300) : csN D d sk t x y ≤ 1000700 := by
  unfold csN
  by_cases c : 1000000 ≤ D y
  · rw [if_pos c]; omega
  · rw [if_neg c]
    have h1 : apN (y - x) d ≤ 300 := apN_le (by omega) (by omega)
    have h2 : (if y < t then skN sk y else 0) ≤ 300 := by
      by_cases c2 : y < t
      · rw [if_pos c2]
        cases sk with
        | none => exact Nat.zero_le _
        | some z => exact apN_le hy (hs z rfl)
      · rw [if_neg c2]; omega
    omega
section MODEL8
variable {M S : MS} {C : Nat → Int64} {G : AHp} {kc ks np : Nat} {Q : Option Value → AHp → Prop}
theorem c_md_apart {a b : Nat} (ha : a < 1000000) (hb : b < 1000000) (h : Q (some (.int (nI (apN a b)))) G) : A 0 M_md_apart 0 [some (.int (nI a)), some (.int (nI b))] [] G kc ks Q := by
  rw [← apN_nI ha hb] at h
  refine A.iload_k 0 rfl rfl d_md_apart_0 ?_
  refine A.iload_k 1 rfl rfl d_md_apart_1 ?_
  refine A.icmp_ge 11 (by decide) d_md_apart_2 (fun c2 => ?_) (fun c2 => ?_)
  · refine A.iload_k 0 rfl rfl d_md_apart_11 ?_
    refine A.iload_k 1 rfl rfl d_md_apart_12 ?_
    refine A.isub d_md_apart_13 ?_
    refine A.iret d_md_apart_14 rfl ?_
    first | (rw [if_pos c2] at h; exact h) | (rw [if_neg c2] at h; exact h)
  · refine A.iload_k 1 rfl rfl d_md_apart_5 ?_
    refine A.iload_k 0 rfl rfl d_md_apart_6 ?_
    refine A.isub d_md_apart_7 ?_
    refine A.goto 14 (by decide) d_md_apart_8 ?_
    refine A.iret d_md_apart_14 rfl ?_
    first | (rw [if_pos c2] at h; exact h) | (rw [if_neg c2] at h; exact h)
def skI (x : Int32) : Option Nat := if x = -1 then none else some (hN x)
/-- what the rows hold while the quarrels are reckoned: deeds, and the rows behind k -/
def QR (S : MS) (n t : Nat) (dd : Nat → Nat) (sk : Nat → Option Nat) (k : Nat) : Prop := (∀ j, j < n → S 30 j = nI (dd j)) ∧ ∀ k' x, k ≤ k' → k' ≤ n → x ≤ t → S 31 (301 * k' + x) = nI (DN n t dd sk (n - k') x)
theorem c_md_costs {s n t k x y : Nat} {dd : Nat → Nat} {sk : Nat → Option Nat} (hM : MH G M S C) (hs : s < 6) (hn : n ≤ 8) (ht : t ≤ 300) (hk : k < n) (hx : x < y) (hy : y ≤ t) (hdd : ∀ j, j < n → dd j ≤ 60) (hsk : ∀ j, j < n → M 24 (8 * s + j) = -1 ∧ sk j = none ∨ ∃ z, z ≤ 300 ∧ M 24 (8 * s + j) = nI z ∧ sk j = some z) (hq : QR S n t dd sk (k + 1)) (h : Q (some (.int (nI (csN (DN n t dd sk (n - (k + 1))) (dd k) (sk k) t x y)))) G) : A 1 M_md_costs 0 [some (.ref 100), some (.int (nI s)), some (.int (nI k)), some (.int (nI x)), some (.int (nI y)), some (.int (nI t)), none, none] [] G kc ks Q := by
  have e31 := hq.2 (k + 1) y (by omega) (by omega) (by omega)
  have e30 := hq.1 k hk
  have hd := hdd k hk
  have hle := DN_le n t dd sk (n - (k + 1)) y
  generalize DN n t dd sk (n - (k + 1)) = D at *
  have fin : ∀ (u : Nat) (v6 : Option Value), ¬ 1000000 ≤ D y → u = (if y < t then skN (sk k) y else 0) → u ≤ 300 → Q (some (.int (nI (D y) + nI (apN (y - x) (dd k)) + nI u))) G := by
    intro u v6 h1 h2 h3
    unfold csN at h
    rw [if_neg h1, ← h2, ← nI_add, ← nI_add] at h
    exact h
  have hna : apN (y - x) (dd k) ≤ 300 := apN_le (by omega) (by omega)
  have J : ∀ v : Int32, ¬ 1000000 ≤ D y → (v = -1 ∧ (if y < t then skN (sk k) y else 0) = 0 ∨ ∃ z, z ≤ 300 ∧ v = nI z ∧ (if y < t then skN (sk k) y else 0) = apN y z) → A 1 M_md_costs 49 [some (.ref 100), some (.int (nI s)), some (.int (nI k)), some (.int (nI x)), some (.int (nI y)), some (.int (nI t)), some (.int (nI (D y))), none] [.int v] G kc ks Q := by
    intro v hnf hv
    refine A.istore (Nat.le_of_ble_eq_true rfl) rfl d_md_costs_49 ?_
    dsimp only [List.set]
    refine A.iload rfl d_md_costs_51 ?_
    refine A.iload rfl d_md_costs_53 ?_
    refine A.iload_k 3 rfl rfl d_md_costs_55 ?_
    refine A.isub d_md_costs_56 ?_
    rw [pk_sub (Nat.le_of_lt hx)]
    refine A.aload_k 0 rfl rfl rfl d_md_costs_57 ?_
    apply A.getfield f_md_78 d_md_costs_58
    · first | exact hM.1 | exact hM.2.1 _ rfl | exact hM.2.2.1 _ rfl
    · rfl
    refine A.iload_k 2 rfl rfl d_md_costs_61 ?_
    apply A.iaload (j := k) d_md_costs_62
    · first | exact hM.1 | exact hM.2.1 _ rfl | exact hM.2.2.1 _ rfl
    · exact ixn (by omega)
    · show k < 8; omega
    rw [e30]
    refine A.callS2 s_md_186 (Nat.le_of_ble_eq_true rfl) (Nat.le_of_ble_eq_true rfl) (Nat.le_of_ble_eq_true rfl) d_md_costs_63 rfl (c_md_apart (by omega) (by omega) ?_)
    dsimp only [psh]
    refine A.iadd d_md_costs_66 ?_
    refine A.iload rfl d_md_costs_67 ?_
    refine A.iconst (v := -1) rfl d_md_costs_69 ?_
    refine A.icmp_ne 77 (by decide) d_md_costs_70 (fun c70 => ?_) (fun c70 => ?_)
    · rcases hv with ⟨e1, e2⟩ | ⟨z, hz, e1, e2⟩
      · exact absurd e1 c70
      rw [e1]
      refine A.iload rfl d_md_costs_77 ?_
      refine A.iload rfl d_md_costs_79 ?_
      refine A.callS2 s_md_186 (Nat.le_of_ble_eq_true rfl) (Nat.le_of_ble_eq_true rfl) (Nat.le_of_ble_eq_true rfl) d_md_costs_81 rfl (c_md_apart (by omega) (by omega) ?_)
      dsimp only [psh]
      refine A.iadd d_md_costs_84 ?_
      refine A.iret d_md_costs_85 rfl ?_
      first | exact fin 0 none hnf e2.symm (by omega) | exact fin _ none hnf e2.symm (apN_le (by omega) hz)
    · rcases hv with ⟨e1, e2⟩ | ⟨z, hz, e1, e2⟩
      rotate_left
      · exact absurd (e1.symm.trans c70) (nI_nm1 (by omega))
      refine A.iconst (v := 0) rfl d_md_costs_73 ?_
      refine A.goto 84 (by decide) d_md_costs_74 ?_
      refine A.iadd d_md_costs_84 ?_
      refine A.iret d_md_costs_85 rfl ?_
      first | exact fin 0 none hnf e2.symm (by omega) | exact fin _ none hnf e2.symm (apN_le (by omega) hz)
  refine A.aload_k 0 rfl rfl rfl d_md_costs_0 ?_
  apply A.getfield f_md_81 d_md_costs_1
  · first | exact hM.1 | exact hM.2.1 _ rfl | exact hM.2.2.1 _ rfl
  · rfl
  refine A.sipush (v := 301) rfl d_md_costs_4 ?_
  refine A.iload_k 2 rfl rfl d_md_costs_7 ?_
  refine A.iconst (v := 1) rfl d_md_costs_8 ?_
  refine A.iadd d_md_costs_9 ?_
  rw [nI_1]
  refine A.imul d_md_costs_10 ?_
  refine A.iload rfl d_md_costs_11 ?_
  refine A.iadd d_md_costs_13 ?_
  apply A.iaload (j := 301 * (k + 1) + y) d_md_costs_14
  · first | exact hM.1 | exact hM.2.1 _ rfl | exact hM.2.2.1 _ rfl
  · exact ix301 (by omega) (by omega)
  · show 301 * (k + 1) + y < 2709; omega
  rw [e31]
  refine A.istore (Nat.le_of_ble_eq_true rfl) rfl d_md_costs_15 ?_
  dsimp only [List.set]
  refine A.iload rfl d_md_costs_17 ?_
  refine A.ldc d_md_costs_19 k_md_177 ?_
  refine A.icmp_lt 27 (by decide) d_md_costs_21 (fun c21 => ?_) (fun c21 => ?_)
  · have hnf : ¬ 1000000 ≤ D y := Nat.not_le.mpr ((nI_ltI (b := 1000000) (by omega) (by omega)).mp c21)
    refine A.iload rfl d_md_costs_27 ?_
    refine A.iload rfl d_md_costs_29 ?_
    refine A.icmp_ge 48 (by decide) d_md_costs_31 (fun c31 => ?_) (fun c31 => ?_)
    · refine A.iconst (v := -1) rfl d_md_costs_48 ?_
      first | (refine J _ hnf (Or.inl ⟨rfl, ?_⟩); rw [if_neg (Nat.not_lt.mpr ((nI_leI (by omega) (by omega)).mp c31))]) | (refine J _ hnf ?_; rw [if_pos (Nat.lt_of_not_le (fun z => c31 (nI_le z (by omega))))]; rcases hsk k hk with ⟨e1, e2⟩ | ⟨z, hz, e1, e2⟩ <;> rw [e1, e2]; exact Or.inl ⟨rfl, rfl⟩; exact Or.inr ⟨z, hz, rfl, rfl⟩)
    · refine A.aload_k 0 rfl rfl rfl d_md_costs_34 ?_
      apply A.getfield f_md_65 d_md_costs_35
      · first | exact hM.1 | exact hM.2.1 _ rfl | exact hM.2.2.1 _ rfl
      · rfl
      refine A.bipush (v := 8) rfl d_md_costs_38 ?_
      refine A.iload_k 1 rfl rfl d_md_costs_40 ?_
      refine A.imul d_md_costs_41 ?_
      refine A.iload_k 2 rfl rfl d_md_costs_42 ?_
      refine A.iadd d_md_costs_43 ?_
      apply A.iaload (j := 8 * s + k) d_md_costs_44
      · first | exact hM.1 | exact hM.2.1 _ rfl | exact hM.2.2.1 _ rfl
      · exact ix8 (by omega) (by omega)
      · show 8 * s + k < 48; omega
      refine A.goto 49 (by decide) d_md_costs_45 ?_
      first | (refine J _ hnf (Or.inl ⟨rfl, ?_⟩); rw [if_neg (Nat.not_lt.mpr ((nI_leI (by omega) (by omega)).mp c31))]) | (refine J _ hnf ?_; rw [if_pos (Nat.lt_of_not_le (fun z => c31 (nI_le z (by omega))))]; rcases hsk k hk with ⟨e1, e2⟩ | ⟨z, hz, e1, e2⟩ <;> rw [e1, e2]; exact Or.inl ⟨rfl, rfl⟩; exact Or.inr ⟨z, hz, rfl, rfl⟩)
  · refine A.ldc d_md_costs_24 k_md_177 ?_
    refine A.iret d_md_costs_26 rfl ?_
    have hge : 1000000 ≤ D y := Nat.le_of_not_lt (fun z => c21 (nI_lt (b := 1000000) z (by decide)))
    unfold csN at h
    rw [if_pos hge] at h
    exact h
theorem c_md_from {s n t k x : Nat} {dd : Nat → Nat} {sk : Nat → Option Nat} (hM : MH G M S C) (hs : s < 6) (hn : n ≤ 8) (ht : t ≤ 300) (hk : k < n) (hx : x ≤ t) (hdd : ∀ j, j < n → dd j ≤ 60) (hsk : ∀ j, j < n → M 24 (8 * s + j) = -1 ∧ sk j = none ∨ ∃ z, z ≤ 300 ∧ M 24 (8 * s + j) = nI z ∧ sk j = some z) (hq : QR S n t dd sk (k + 1)) (h : Q (some (.int (nI (DN n t dd sk (n - k) x)))) G) : A 2 M_md_from 0 [some (.ref 100), some (.int (nI s)), some (.int (nI k)), some (.int (nI x)), some (.int (nI t)), none, none, none] [] G kc ks Q := by
  rw [show n - k = (n - (k + 1)) + 1 by omega, DN_s, show n - (n - (k + 1) + 1) = k by omega] at h
  have hb : ∀ y, y ≤ t → csN (DN n t dd sk (n - (k + 1))) (dd k) (sk k) t x y ≤ 1000700 := fun y hy => csN_le (by omega) (hdd k hk) (fun z hz => by
    rcases hsk k hk with ⟨e1, e2⟩ | ⟨z', hz', e1, e2⟩
    · rw [e2] at hz; cases hz
    · rw [e2] at hz; cases hz; exact hz')
  have loop : ∀ (j i : Nat) (v7 : Option Value), i + j = t - x → A 2 M_md_from 9 [some (.ref 100), some (.int (nI s)), some (.int (nI k)), some (.int (nI x)), some (.int (nI t)), some (.int (nI (mnN (csN (DN n t dd sk (n - (k + 1))) (dd k) (sk k) t x) x i))), some (.int (nI (x + 1 + i))), v7] [] G kc ks Q := by
    intro j
    induction j with
    | zero =>
      intro i v7 hi
      have e : i = t - x := by omega
      subst e
      refine A.iload rfl d_md_from_9 ?_
      refine A.iload rfl d_md_from_11 ?_
      refine A.icmp_gt 46 (by decide) d_md_from_13 (fun c13 => ?_) (fun c13 => ?_)
      · refine A.iload rfl d_md_from_46 ?_
        refine A.iret d_md_from_48 rfl ?_
        exact h
      · exact absurd (nI_lt (by omega) (by omega)) c13
    | succ j ih =>
      intro i v7 hi
      have ih := fun v7 => ih (i + 1) v7 (by omega)
      rw [mnN_s] at ih
      have hm := mnN_le (csN (DN n t dd sk (n - (k + 1))) (dd k) (sk k) t x) x i
      have hb := hb (x + 1 + i) (by omega)
      refine A.iload rfl d_md_from_9 ?_
      refine A.iload rfl d_md_from_11 ?_
      refine A.icmp_gt 46 (by decide) d_md_from_13 (fun c13 => ?_) (fun c13 => ?_)
      · exact absurd c13 (nI_nlt (by omega) (by omega))
      refine A.aload_k 0 rfl rfl rfl d_md_from_16 ?_
      refine A.iload_k 1 rfl rfl d_md_from_17 ?_
      refine A.iload_k 2 rfl rfl d_md_from_18 ?_
      refine A.iload_k 3 rfl rfl d_md_from_19 ?_
      refine A.iload rfl d_md_from_20 ?_
      refine A.iload rfl d_md_from_22 ?_
      refine A.callV5 s_md_182 ?_ (Nat.le_of_ble_eq_true rfl) (Nat.le_of_ble_eq_true rfl) (Nat.le_of_ble_eq_true rfl) d_md_from_24 rfl (c_md_costs hM hs hn ht hk (by omega) (by omega) hdd hsk hq ?_)
      · apply Exists.intro
        exact hM.1
      dsimp only [psh]
      refine A.istore (Nat.le_of_ble_eq_true rfl) rfl d_md_from_27 ?_
      dsimp only [List.set]
      refine A.iload rfl d_md_from_29 ?_
      refine A.iload rfl d_md_from_31 ?_
      refine A.icmp_ge 40 (by decide) d_md_from_33 (fun c33 => ?_) (fun c33 => ?_)
      · refine A.iincp (n := 6) rfl (Nat.le_of_ble_eq_true rfl) d_md_from_40 ?_
        dsimp only [List.set]
        refine A.goto 9 (by decide) d_md_from_43 ?_
        rw [nI_1]
        first | (rw [if_neg (Nat.not_lt.mpr ((nI_leI (by omega) (by omega)).mp c33))] at ih; exact ih _) | (rw [if_pos (Nat.lt_of_not_le (fun z => c33 (nI_le z (by omega))))] at ih; exact ih _)
      · refine A.iload rfl d_md_from_36 ?_
        refine A.istore (Nat.le_of_ble_eq_true rfl) rfl d_md_from_38 ?_
        dsimp only [List.set]
        refine A.iincp (n := 6) rfl (Nat.le_of_ble_eq_true rfl) d_md_from_40 ?_
        dsimp only [List.set]
        refine A.goto 9 (by decide) d_md_from_43 ?_
        rw [nI_1]
        first | (rw [if_neg (Nat.not_lt.mpr ((nI_leI (by omega) (by omega)).mp c33))] at ih; exact ih _) | (rw [if_pos (Nat.lt_of_not_le (fun z => c33 (nI_le z (by omega))))] at ih; exact ih _)
  refine A.ldc d_md_from_0 k_md_177 ?_
  refine A.istore (Nat.le_of_ble_eq_true rfl) rfl d_md_from_2 ?_
  dsimp only [List.set]
  refine A.iload_k 3 rfl rfl d_md_from_4 ?_
  refine A.iconst (v := 1) rfl d_md_from_5 ?_
  refine A.iadd d_md_from_6 ?_
  refine A.istore (Nat.le_of_ble_eq_true rfl) rfl d_md_from_7 ?_
  dsimp only [List.set]
  rw [nI_1]
  exact loop (t - x) 0 none (by omega)
/-- deeds and stakes of a street as they are read -/
def ddM (M : MS) (s : Int32) (np k : Nat) : Nat := hN (M 4 ((strL M s np).getD k 0))
def skM (M : MS) (q k : Nat) : Option Nat := skI (M 24 (8 * q + k))
/-- fronts, stakes and streets as they must be -/
def WS (M : MS) (np : Nat) : Prop := (∀ p, p < np → ∃ f, f ≤ 60 ∧ M 4 p = nI f) ∧ (∀ q, M 24 q = -1 ∨ ∃ z, z ≤ 300 ∧ M 24 q = nI z) ∧ ∀ q, q < 6 → (strL M (nI q) np).length ≤ 8
theorem skM_ok (hws : WS M np) (q j : Nat) : M 24 (8 * q + j) = -1 ∧ skM M q j = none ∨ ∃ z, z ≤ 300 ∧ M 24 (8 * q + j) = nI z ∧ skM M q j = some z := by
  unfold skM skI
  rcases hws.2.1 (8 * q + j) with e | ⟨z, hz, e⟩
  · left; rw [e]; exact ⟨rfl, if_pos rfl⟩
  · right; refine ⟨z, hz, e, ?_⟩
    rw [e, if_neg (nI_nm1 (by omega)), hN_nI (by omega)]
def okT (n : Nat) (t : Int32) : Prop := n ≠ 0 ∧ (if nI n ≤ 2 then 2 else nI n) ≤ t ∧ t ≤ 300
theorem getD_upd4 {L : List Nat} {f g : Nat → Int32} {i : Nat} (hf : ∀ j, j < L.length → f j = g (L.getD j 0)) {j : Nat} (hj : j < L.length + 1) : upd f L.length (g i) j = g ((L ++ [i]).getD j 0) := by
  by_cases e : j = L.length
  · subst e
    rw [pk_us, List.getD_eq_getElem?_getD, List.getElem?_append_right (Nat.le_refl _), Nat.sub_self]
    rfl
  · have hj' : j < L.length := by omega
    rw [pk_un e, hf j hj', List.getD_eq_getElem?_getD, List.getD_eq_getElem?_getD, List.getElem?_append_left hj']
theorem c_md_quarrels {x t : Int32} (hM : MH G M S C) (hw : WF M np) (hws : WS M np)
    (h0 : (∀ q, q < 6 → x ≠ nI q) → Q (some (.int (-1))) G)
    (h2 : ∀ q, q < 6 → x = nI q → ¬ okT (strL M (nI q) np).length t → ∀ G' S', MH G' M S' C → FrM G G' → Q (some (.int (-1))) G')
    (h1 : ∀ q τ, q < 6 → x = nI q → t = nI τ → okT (strL M (nI q) np).length t → 2 ≤ τ → (strL M (nI q) np).length ≤ τ → τ ≤ 300 → 1 ≤ (strL M (nI q) np).length → (strL M (nI q) np).length ≤ 8 → ∀ G' S', MH G' M S' C → FrM G G' → (∀ k, k < (strL M (nI q) np).length → ddM M (nI q) np k ≤ 60) → QR S' (strL M (nI q) np).length τ (ddM M (nI q) np) (skM M q) 0 → Q (some (.int (nI (strL M (nI q) np).length))) G') : A 3 M_md_quarrels 0 [some (.ref 100), some (.int x), some (.int t), none, none, none] [] G kc ks Q := by
  obtain ⟨hn, hn2, -⟩ := hw
  have main : ∀ (q n τ : Nat) (G' : AHp) (S' : MS) (v4 : Option Value), q < 6 → x = nI q → t = nI τ → n = (strL M (nI q) np).length → okT n t → 2 ≤ τ → n ≤ τ → τ ≤ 300 → 1 ≤ n → n ≤ 8 → (∀ k, k < n → S' 30 k = nI (ddM M (nI q) np k) ∧ ddM M (nI q) np k ≤ 60) → MH G' M S' C → FrM G G' → A 3 M_md_quarrels 85 [some (.ref 100), some (.int (nI q)), some (.int (nI τ)), some (.int (nI n)), v4, none] [] G' kc ks Q := by
    intro q n τ G1 S1 v4 hq ex et en hok t2 tn t3 n1 n8 hf hM1 hF1
    have h1 := h1 q τ hq ex et (by rw [← en]; exact hok) t2 (by omega) t3 (by omega) (by omega)
    have hsk := fun j (_ : j < n) => skM_ok hws q j
    rw [← en] at h1
    generalize skM M q = sk at *
    generalize ddM M (nI q) np = dd at *
    have hdd : ∀ j, j < n → dd j ≤ 60 := fun j hj => (hf j hj).2
    have loopK : ∀ (k : Nat) (G2 : AHp) (S2 : MS) (v5 : Option Value), k ≤ n + 1 → (k = 0 ∨ True) → MH G2 M S2 C → FrM G G2 → QR S2 n τ dd sk k → A 3 M_md_quarrels 88 [some (.ref 100), some (.int (nI q)), some (.int (nI τ)), some (.int (nI n)), some (.int (nI k - 1)), v5] [] G2 kc ks Q := by
      intro k
      induction k with
      | zero =>
        intro G2 S2 v5 _ _ hM2 hF2 hq2
        refine A.iload rfl d_md_quarrels_88 ?_
        refine A.if_lt 159 (by decide) d_md_quarrels_90 (fun c90 => ?_) (fun c90 => ?_)
        · refine A.iload_k 3 rfl rfl d_md_quarrels_159 ?_
          refine A.iret d_md_quarrels_160 rfl ?_
          exact h1 G2 S2 hM2 hF2 hdd hq2
        · exact absurd (by decide) c90
      | succ k ih =>
        intro G2 S2 v5 hk _ hM2 hF2 hq2
        rw [nI_pred]
        have loopX : ∀ (j i : Nat) (G3 : AHp) (S3 : MS), i + j = τ + 1 → MH G3 M S3 C → FrM G G3 → QR S3 n τ dd sk (k + 1) → (∀ y, y < i → S3 31 (301 * k + y) = nI (DN n τ dd sk (n - k) y)) → A 3 M_md_quarrels 96 [some (.ref 100), some (.int (nI q)), some (.int (nI τ)), some (.int (nI n)), some (.int (nI k)), some (.int (nI i))] [] G3 kc ks Q := by
          intro j
          induction j with
          | zero =>
            intro i G3 S3 hi hM3 hF3 hq3 hr
            have e : i = τ + 1 := by omega
            subst e
            refine A.iload rfl d_md_quarrels_96 ?_
            refine A.iload_k 2 rfl rfl d_md_quarrels_98 ?_
            refine A.icmp_gt 153 (by decide) d_md_quarrels_99 (fun c99 => ?_) (fun c99 => ?_)
            · refine A.iincm (n := 4) rfl (Nat.le_of_ble_eq_true rfl) d_md_quarrels_153 ?_
              dsimp only [List.set]
              refine A.goto 88 (by decide) d_md_quarrels_156 ?_
              refine ih G3 S3 _ (by omega) (Or.inr trivial) hM3 hF3 ⟨hq3.1, fun k' x hk1 hk2 hx => ?_⟩
              by_cases e : k' = k
              · subst e; exact hr x (by omega)
              · exact hq3.2 k' x (by omega) hk2 hx
            · exact absurd (nI_lt (by omega) (by omega)) c99
          | succ j ihj =>
            intro i G3 S3 hi hM3 hF3 hq3 hr
            have J : ∀ v : Int32, v = nI (DN n τ dd sk (n - k) i) → A 3 M_md_quarrels 146 [some (.ref 100), some (.int (nI q)), some (.int (nI τ)), some (.int (nI n)), some (.int (nI k)), some (.int (nI i))] [.int v, .int (301 * nI k + nI i), .ref 231] G3 kc ks Q := by
              intro v hv
              apply A.iastore (j := 301 * k + i) d_md_quarrels_146
              · first | exact hM3.1 | exact hM3.2.1 _ rfl | exact hM3.2.2.1 _ rfl
              · first | decide | omega
              · exact ix301 (by omega) (by omega)
              · show 301 * k + i < 2709; omega
              refine A.iincp (n := 5) rfl (Nat.le_of_ble_eq_true rfl) d_md_quarrels_147 ?_
              dsimp only [List.set]
              refine A.goto 96 (by decide) d_md_quarrels_150 ?_
              rw [nI_1]
              refine ihj (i + 1) _ (va_up S3 31 (upd (S3 31) (301 * k + i) v)) (by omega) (hM3.scr 31 rfl _) (hF3.up (by decide) (by decide)) ⟨hq3.1, fun k' x hk1 hk2 hx => ?_⟩ (fun y hy => ?_)
              · show upd (S3 31) (301 * k + i) v (301 * k' + x) = _
                rw [pk_un (by omega)]
                exact hq3.2 k' x hk1 hk2 hx
              · show upd (S3 31) (301 * k + i) v (301 * k + y) = _
                by_cases e : y = i
                · subst e; rw [pk_us]; exact hv
                · rw [pk_un (by omega)]; exact hr y (by omega)
            refine A.iload rfl d_md_quarrels_96 ?_
            refine A.iload_k 2 rfl rfl d_md_quarrels_98 ?_
            refine A.icmp_gt 153 (by decide) d_md_quarrels_99 (fun c99 => ?_) (fun c99 => ?_)
            · exact absurd c99 (nI_nlt (by omega) (by omega))
            refine A.aload_k 0 rfl rfl rfl d_md_quarrels_102 ?_
            apply A.getfield f_md_81 d_md_quarrels_103
            · first | exact hM3.1 | exact hM3.2.1 _ rfl | exact hM3.2.2.1 _ rfl
            · rfl
            refine A.sipush (v := 301) rfl d_md_quarrels_106 ?_
            refine A.iload rfl d_md_quarrels_109 ?_
            refine A.imul d_md_quarrels_111 ?_
            refine A.iload rfl d_md_quarrels_112 ?_
            refine A.iadd d_md_quarrels_114 ?_
            refine A.iload rfl d_md_quarrels_115 ?_
            refine A.iload_k 3 rfl rfl d_md_quarrels_117 ?_
            refine A.icmp_ne 136 (by decide) d_md_quarrels_118 (fun c118 => ?_) (fun c118 => ?_)
            · have hkn : k < n := by
                rcases Nat.lt_or_ge k n with y | y
                · exact y
                · exact absurd (by rw [show k = n by omega]) c118
              refine A.aload_k 0 rfl rfl rfl d_md_quarrels_136 ?_
              refine A.iload_k 1 rfl rfl d_md_quarrels_137 ?_
              refine A.iload rfl d_md_quarrels_138 ?_
              refine A.iload rfl d_md_quarrels_140 ?_
              refine A.iload_k 2 rfl rfl d_md_quarrels_142 ?_
              refine A.callV4 s_md_178 ?_ (Nat.le_of_ble_eq_true rfl) (Nat.le_of_ble_eq_true rfl) (Nat.le_of_ble_eq_true rfl) d_md_quarrels_143 rfl (c_md_from hM3 hq n8 t3 hkn (by omega) hdd hsk hq3 ?_)
              · apply Exists.intro
                first | exact hM3.1 | exact hM3.2.1 _ rfl | exact hM3.2.2.1 _ rfl
              dsimp only [psh]
              refine J _ ?_
              first | rfl | (rw [hkn, Nat.sub_self]; show _ = nI (if i = τ then 0 else 1000000); first | (rw [if_pos (nI_inj (by omega) (by omega) c124)]; rfl) | (rw [if_neg (fun z => c124 (by rw [z]))]; rfl))
            · have hkn : k = n := nI_inj (by omega) (by omega) c118
              refine A.iload rfl d_md_quarrels_121 ?_
              refine A.iload_k 2 rfl rfl d_md_quarrels_123 ?_
              refine A.icmp_ne 131 (by decide) d_md_quarrels_124 (fun c124 => ?_) (fun c124 => ?_)
              · refine A.ldc d_md_quarrels_131 k_md_177 ?_
                refine A.goto 146 (by decide) d_md_quarrels_133 ?_
                refine J _ ?_
                first | rfl | (rw [hkn, Nat.sub_self]; show _ = nI (if i = τ then 0 else 1000000); first | (rw [if_pos (nI_inj (by omega) (by omega) c124)]; rfl) | (rw [if_neg (fun z => c124 (by rw [z]))]; rfl))
              · refine A.iconst (v := 0) rfl d_md_quarrels_127 ?_
                refine A.goto 146 (by decide) d_md_quarrels_128 ?_
                refine J _ ?_
                first | rfl | (rw [hkn, Nat.sub_self]; show _ = nI (if i = τ then 0 else 1000000); first | (rw [if_pos (nI_inj (by omega) (by omega) c124)]; rfl) | (rw [if_neg (fun z => c124 (by rw [z]))]; rfl))
        refine A.iload rfl d_md_quarrels_88 ?_
        refine A.if_lt 159 (by decide) d_md_quarrels_90 (fun c90 => ?_) (fun c90 => ?_)
        · exact absurd c90 (nI_pos (by omega))
        refine A.iconst (v := 0) rfl d_md_quarrels_93 ?_
        refine A.istore (Nat.le_of_ble_eq_true rfl) rfl d_md_quarrels_94 ?_
        dsimp only [List.set]
        exact loopX (τ + 1) 0 G2 S2 (by omega) hM2 hF2 ⟨hq2.1, hq2.2⟩ (fun y hy => by omega)
    refine A.iload_k 3 rfl rfl d_md_quarrels_85 ?_
    refine A.istore (Nat.le_of_ble_eq_true rfl) rfl d_md_quarrels_86 ?_
    dsimp only [List.set]
    have z := loopK (n + 1) G1 S1 none (by omega) (Or.inr trivial) hM1 hF1 ⟨fun j hj => (hf j hj).1, fun k' x h1 h2 => by omega⟩
    rw [nI_pred] at z
    exact z
  have collect : ∀ (k i q : Nat) (G' : AHp) (S' : MS), q < 6 → x = nI q → i + k = np → (∀ j, j < (strL M (nI q) i).length → S' 30 j = M 4 ((strL M (nI q) i).getD j 0)) → MH G' M S' C → FrM G G' → A 3 M_md_quarrels 14 [some (.ref 100), some (.int (nI q)), some (.int t), some (.int (nI (strL M (nI q) i).length)), some (.int (nI i)), none] [] G' kc ks Q := by
    intro k
    induction k with
    | zero =>
      intro i q G' S' hq ex hk hf hM' hF
      have e : i = np := by omega
      subst e
      have h8 := hws.2.2 q hq
      have h2 := h2 q hq ex
      have main := fun τ v4 => main q (strL M (nI q) i).length τ G' S' v4 hq ex
      generalize hL : strL M (nI q) i = L at *
      have fin : okT L.length t → A 3 M_md_quarrels 85 [some (.ref 100), some (.int (nI q)), some (.int t), some (.int (nI L.length)), some (.int (nI i)), none] [] G' kc ks Q := by
        intro hok
        obtain ⟨o1, o2, o3⟩ := id hok
        have ht0 : (2 : Int32) ≤ t := by
          by_cases c : nI L.length ≤ 2
          · rw [if_pos c] at o2; exact o2
          · rw [if_neg c] at o2; exact Int32.le_trans (Int32.le_of_lt (Int32.not_le.mp c)) o2
        obtain ⟨τ, ht3, et⟩ := in_lit (n := 300) (by decide) (by omega) (Int32.le_trans (by decide) ht0) o3
        have hn1 : L.length ≤ τ := by
          by_cases c : nI L.length ≤ 2
          · have := (nI_leI (b := 2) (by omega) (by omega)).mp c
            have h2' : 2 ≤ τ := (nI_leI (a := 2) (by omega) (by omega)).mp (by rw [← et]; exact ht0)
            omega
          · rw [if_neg c, et] at o2
            exact (nI_leI (by omega) (by omega)).mp o2
        have h2' : 2 ≤ τ := (nI_leI (a := 2) (by omega) (by omega)).mp (by rw [← et]; exact ht0)
        rw [et]
        refine main τ _ et rfl hok h2' hn1 ht3 (by omega) h8 (fun k hk => ?_) hM' hF
        have hmem : L.getD k 0 ∈ L := by
          rw [List.getD_eq_getElem?_getD, List.getElem?_eq_getElem hk]
          exact List.getElem_mem _
        have hlt := (strL_lt M (nI q) i _ (by rw [hL]; exact hmem)).1
        obtain ⟨f, hf60, ef⟩ := hws.1 _ hlt
        have ed : ddM M (nI q) i k = f := by
          unfold ddM
          rw [hL, ef, hN_nI (by omega)]
        rw [ed, hf k hk, ef]
        exact ⟨rfl, hf60⟩
      refine A.iload rfl d_md_quarrels_14 ?_
      refine A.aload_k 0 rfl rfl rfl d_md_quarrels_16 ?_
      apply A.getfield f_md_84 d_md_quarrels_17
      · exact hM'.1
      · rfl
      rw [hn]
      refine A.icmp_ge 59 (by decide) d_md_quarrels_20 (fun c20 => ?_) (fun c20 => ?_)
      · refine A.iload_k 3 rfl rfl d_md_quarrels_59 ?_
        refine A.if_eq 83 (by decide) d_md_quarrels_60 (fun c60 => ?_) (fun c60 => ?_)
        · refine A.iconst (v := -1) rfl d_md_quarrels_83 ?_
          refine A.iret d_md_quarrels_84 rfl ?_
          refine h2 (fun z => ?_) G' S' hM' hF
          obtain ⟨o1, o2, o3⟩ := z
          first | exact o1 (nI_inj (b := 0) (by omega) (by omega) c60) | (rw [if_pos c66] at o2; exact i3 ⟨o2, o3⟩) | (rw [if_neg c66] at o2; exact i3 ⟨o2, o3⟩)
        · refine A.iload_k 2 rfl rfl d_md_quarrels_63 ?_
          refine A.iload_k 3 rfl rfl d_md_quarrels_64 ?_
          refine A.iconst (v := 2) rfl d_md_quarrels_65 ?_
          refine A.icmp_le 73 (by decide) d_md_quarrels_66 (fun c66 => ?_) (fun c66 => ?_)
          · refine A.iconst (v := 2) rfl d_md_quarrels_73 ?_
            refine A.sipush (v := 300) rfl d_md_quarrels_74 ?_
            refine A.callS3 s_md_87 (Nat.le_of_ble_eq_true rfl) (Nat.le_of_ble_eq_true rfl) (Nat.le_of_ble_eq_true rfl) d_md_quarrels_77 rfl (c_md_in (fun i1 i2 => ?_) (fun i3 => ?_))
            · dsimp only [psh]
              refine A.if_ne1 85 (by decide) d_md_quarrels_80 ?_
              refine fin ⟨fun z => c60 (by rw [z]; rfl), ?_, i2⟩
              first | (rw [if_pos c66]; exact i1) | (rw [if_neg c66]; exact i1)
            · dsimp only [psh]
              refine A.if_ne0 d_md_quarrels_80 (tgt := 85) (by decide) ?_
              refine A.iconst (v := -1) rfl d_md_quarrels_83 ?_
              refine A.iret d_md_quarrels_84 rfl ?_
              refine h2 (fun z => ?_) G' S' hM' hF
              obtain ⟨o1, o2, o3⟩ := z
              first | exact o1 (nI_inj (b := 0) (by omega) (by omega) c60) | (rw [if_pos c66] at o2; exact i3 ⟨o2, o3⟩) | (rw [if_neg c66] at o2; exact i3 ⟨o2, o3⟩)
          · refine A.iload_k 3 rfl rfl d_md_quarrels_69 ?_
            refine A.goto 74 (by decide) d_md_quarrels_70 ?_
            refine A.sipush (v := 300) rfl d_md_quarrels_74 ?_
            refine A.callS3 s_md_87 (Nat.le_of_ble_eq_true rfl) (Nat.le_of_ble_eq_true rfl) (Nat.le_of_ble_eq_true rfl) d_md_quarrels_77 rfl (c_md_in (fun i1 i2 => ?_) (fun i3 => ?_))
            · dsimp only [psh]
              refine A.if_ne1 85 (by decide) d_md_quarrels_80 ?_
              refine fin ⟨fun z => c60 (by rw [z]; rfl), ?_, i2⟩
              first | (rw [if_pos c66]; exact i1) | (rw [if_neg c66]; exact i1)
            · dsimp only [psh]
              refine A.if_ne0 d_md_quarrels_80 (tgt := 85) (by decide) ?_
              refine A.iconst (v := -1) rfl d_md_quarrels_83 ?_
              refine A.iret d_md_quarrels_84 rfl ?_
              refine h2 (fun z => ?_) G' S' hM' hF
              obtain ⟨o1, o2, o3⟩ := z
              first | exact o1 (nI_inj (b := 0) (by omega) (by omega) c60) | (rw [if_pos c66] at o2; exact i3 ⟨o2, o3⟩) | (rw [if_neg c66] at o2; exact i3 ⟨o2, o3⟩)
      · exact absurd (nI_le (Nat.le_refl _) (by omega)) c20
    | succ k ih =>
      intro i q G' S' hq ex hk hf hM' hF
      have hs := strL_s M (nI q) i
      have h8 := hws.2.2 q hq
      have hmon := strL_mono M (nI q) (i + 1) k
      rw [show i + 1 + k = np by omega] at hmon
      have ih := fun G' S' => ih (i + 1) q G' S' hq ex (by omega)
      refine A.iload rfl d_md_quarrels_14 ?_
      refine A.aload_k 0 rfl rfl rfl d_md_quarrels_16 ?_
      apply A.getfield f_md_84 d_md_quarrels_17
      · first | exact hM'.1 | exact hM'.2.1 _ rfl | exact hM'.2.2.1 _ rfl
      · rfl
      rw [hn]
      refine A.icmp_ge 59 (by decide) d_md_quarrels_20 (fun c20 => ?_) (fun c20 => ?_)
      · exact absurd c20 (nI_ge (by omega) (by omega))
      refine A.aload_k 0 rfl rfl rfl d_md_quarrels_23 ?_
      apply A.getfield f_md_13 d_md_quarrels_24
      · first | exact hM'.1 | exact hM'.2.1 _ rfl | exact hM'.2.2.1 _ rfl
      · rfl
      refine A.iload rfl d_md_quarrels_27 ?_
      apply A.iaload (j := i) d_md_quarrels_29
      · first | exact hM'.1 | exact hM'.2.1 _ rfl | exact hM'.2.2.1 _ rfl
      · exact ixn (by omega)
      · show i < 24; omega
      refine A.iload_k 1 rfl rfl d_md_quarrels_30 ?_
      refine A.icmp_eq 37 (by decide) d_md_quarrels_31 (fun c31 => ?_) (fun c31 => ?_)
      · have h7 : (strL M (nI q) i).length < 8 := by
          rw [hs, if_pos c31, List.length_append] at hmon
          simp at hmon
          omega
        refine A.aload_k 0 rfl rfl rfl d_md_quarrels_37 ?_
        apply A.getfield f_md_78 d_md_quarrels_38
        · first | exact hM'.1 | exact hM'.2.1 _ rfl | exact hM'.2.2.1 _ rfl
        · rfl
        refine A.iload_k 3 rfl rfl d_md_quarrels_41 ?_
        refine A.aload_k 0 rfl rfl rfl d_md_quarrels_42 ?_
        apply A.getfield f_md_16 d_md_quarrels_43
        · first | exact hM'.1 | exact hM'.2.1 _ rfl | exact hM'.2.2.1 _ rfl
        · rfl
        refine A.iload rfl d_md_quarrels_46 ?_
        apply A.iaload (j := i) d_md_quarrels_48
        · first | exact hM'.1 | exact hM'.2.1 _ rfl | exact hM'.2.2.1 _ rfl
        · exact ixn (by omega)
        · show i < 24; omega
        apply A.iastore (j := (strL M (nI q) i).length) d_md_quarrels_49
        · first | exact hM'.1 | exact hM'.2.1 _ rfl | exact hM'.2.2.1 _ rfl
        · first | decide | omega
        · exact ixn (by omega)
        · exact h7
        refine A.iincp (n := 3) rfl (Nat.le_of_ble_eq_true rfl) d_md_quarrels_50 ?_
        dsimp only [List.set]
        refine A.iincp (n := 4) rfl (Nat.le_of_ble_eq_true rfl) d_md_quarrels_53 ?_
        dsimp only [List.set]
        refine A.goto 14 (by decide) d_md_quarrels_56 ?_
        rw [nI_1]
        first | (rw [hs, if_neg c31] at ih; exact ih G' S' hf hM' hF) | (rw [hs, if_pos c31, List.length_append] at ih; rw [nI_1]; exact ih _ _ (fun j hj => getD_upd4 hf (by simpa using hj)) (hM'.scr 30 rfl _) (hF.up (by decide) (by decide)))
      · refine A.goto 53 (by decide) d_md_quarrels_34 ?_
        refine A.iincp (n := 4) rfl (Nat.le_of_ble_eq_true rfl) d_md_quarrels_53 ?_
        dsimp only [List.set]
        refine A.goto 14 (by decide) d_md_quarrels_56 ?_
        rw [nI_1]
        first | (rw [hs, if_neg c31] at ih; exact ih G' S' hf hM' hF) | (rw [hs, if_pos c31, List.length_append] at ih; rw [nI_1]; exact ih _ _ (fun j hj => getD_upd4 hf (by simpa using hj)) (hM'.scr 30 rfl _) (hF.up (by decide) (by decide)))
  refine A.iload_k 1 rfl rfl d_md_quarrels_0 ?_
  refine A.callS1 s_md_93 (Nat.le_of_ble_eq_true rfl) (Nat.le_of_ble_eq_true rfl) (Nat.le_of_ble_eq_true rfl) d_md_quarrels_1 rfl (c_md_isStreet (fun s j1 j2 => ?_) (fun j3 => ?_))
  · dsimp only [psh]
    refine A.if_ne1 9 (by decide) d_md_quarrels_4 ?_
    subst j2
    refine A.iconst (v := 0) rfl d_md_quarrels_9 ?_
    refine A.istore_k 3 rfl (Nat.le_of_ble_eq_true rfl) rfl d_md_quarrels_10 ?_
    dsimp only [List.set]
    refine A.iconst (v := 0) rfl d_md_quarrels_11 ?_
    refine A.istore (Nat.le_of_ble_eq_true rfl) rfl d_md_quarrels_12 ?_
    dsimp only [List.set]
    exact collect np 0 s G S j1 rfl (by omega) (fun j hj => by simp [strL] at hj) hM FrM.rf
  · dsimp only [psh]
    refine A.if_ne0 d_md_quarrels_4 (tgt := 9) (by decide) ?_
    refine A.iconst (v := -1) rfl d_md_quarrels_7 ?_
    refine A.iret d_md_quarrels_8 rfl ?_
    exact h0 j3
end MODEL8
