/-! numbers -/
theorem in_np {x : Int32} {n : Nat} (hn : n ≤ 1000000) (h1 : 0 ≤ x) (h2 : x ≤ nI n - 1) : ∃ q, q < n ∧ x = nI q := by
  have e : (nI n - 1).toInt = (n : Int) - 1 := by
    have := pk_sub_toInt (a := n) (b := 1) (by omega) (by omega)
    exact this
  rw [Int32.le_iff_toInt_le] at h1 h2
  rw [e] at h2
  have h1 : 0 ≤ x.toInt := h1
  refine ⟨x.toInt.toNat, by omega, ?_⟩
  apply Int32.toInt_inj.mp
  rw [nI_toInt (by omega)]
  omega
theorem nin_np {x : Int32} {n : Nat} (hn : n ≤ 1000000) (h : ¬ (0 ≤ x ∧ x ≤ nI n - 1)) : ∀ q, q < n → x ≠ nI q := by
  intro q hq e
  apply h
  subst e
  refine ⟨nI_pos' (by omega), ?_⟩
  have e : (nI n - 1).toInt = (n : Int) - 1 := by
    have := pk_sub_toInt (a := n) (b := 1) (by omega) (by omega)
    exact this
  rw [Int32.le_iff_toInt_le, e, nI_toInt (by omega)]
  omega
theorem in_lit {x hi : Int32} {n : Nat} (hh : hi.toInt = (n : Int)) (hn : n ≤ 1000000) (h1 : 0 ≤ x) (h2 : x ≤ hi) : ∃ q, q ≤ n ∧ x = nI q := by
  rw [Int32.le_iff_toInt_le] at h1 h2
  have h1 : 0 ≤ x.toInt := h1
  refine ⟨x.toInt.toNat, by omega, ?_⟩
  apply Int32.toInt_inj.mp
  rw [nI_toInt (by omega)]
  omega
theorem nI_bt {q n : Nat} {hi : Int32} (hh : hi.toInt = (n : Int)) (hq : q ≤ n) (hn : n ≤ 1000000) : 0 ≤ nI q ∧ nI q ≤ hi := by
  refine ⟨nI_pos' (by omega), ?_⟩
  rw [Int32.le_iff_toInt_le, nI_toInt (by omega)]
  omega
theorem ix4 {p l : Nat} (hp : p < 1000) (hl : l < 1000) : ((4 : Int32) * nI p + nI l).toInt = ((4 * p + l : Nat) : Int) := by
  rw [show (4 : Int32) = nI 4 from rfl, pk_mul, nI_add, nI_toInt (by omega)]
theorem ix4s {p l : Nat} (hp : p < 1000) (hl : l < 1000) : ((4 : Int32) * nI p + nI l + 1).toInt = ((4 * p + l + 1 : Nat) : Int) := by
  rw [show (4 : Int32) = nI 4 from rfl, pk_mul, nI_add, nI_1, nI_toInt (by omega)]
theorem ix4z {p : Nat} (hp : p < 1000) : ((4 : Int32) * nI p).toInt = ((4 * p : Nat) : Int) := by
  rw [show (4 : Int32) = nI 4 from rfl, pk_mul, nI_toInt (by omega)]
theorem ix8 {p l : Nat} (hp : p < 1000) (hl : l < 1000) : ((8 : Int32) * nI p + nI l).toInt = ((8 * p + l : Nat) : Int) := by
  rw [show (8 : Int32) = nI 8 from rfl, pk_mul, nI_add, nI_toInt (by omega)]
theorem ix301 {p l : Nat} (hp : p < 1000) (hl : l < 1000) : ((301 : Int32) * nI p + nI l).toInt = ((301 * p + l : Nat) : Int) := by
  rw [show (301 : Int32) = nI 301 from rfl, pk_mul, nI_add, nI_toInt (by omega)]
theorem ixn {p : Nat} (hp : p < 1000000) : (nI p).toInt = (p : Int) := nI_toInt (by omega)
theorem nI_inj {a b : Nat} (ha : a < 1000000) (hb : b < 1000000) (h : nI a = nI b) : a = b := (nI_eq (by omega) (by omega)).mp h
theorem A.iincp {d : Nat} {y : MI} {pc : Nat} {ls : List (Option Value)} {st : List Value} {G : AHp} {kc ks : Nat} {Q : Option Value → AHp → Prop} {n : Nat} {x : Int32} (hl : ls[n]? = some (some (.int x))) (hi : n < y.2.2.1) (hd : decode (mcode y) pc = .ok (.iinc n 1, 3)) (kk : A d y (pc + 3) (ls.set n (some (.int (x + 1)))) st G kc ks Q) : A d y pc ls st G kc ks Q := A.iinc hl (by rw [show Int32.ofInt 1 = 1 by decide]) hi hd kk
theorem A.iincm {d : Nat} {y : MI} {pc : Nat} {ls : List (Option Value)} {st : List Value} {G : AHp} {kc ks : Nat} {Q : Option Value → AHp → Prop} {n : Nat} {x : Int32} (hl : ls[n]? = some (some (.int x))) (hi : n < y.2.2.1) (hd : decode (mcode y) pc = .ok (.iinc n (-1), 3)) (kk : A d y (pc + 3) (ls.set n (some (.int (x - 1)))) st G kc ks Q) : A d y pc ls st G kc ks Q := A.iinc hl (by rw [show Int32.ofInt (-1) = -1 by decide, Int32.sub_eq_add_neg]) hi hd kk
theorem A.dropat {d : Nat} {y : MI} {pc : Nat} {ls : List (Option Value)} {st : List Value} {G : AHp} {kc ks : Nat} {Q : Option Value → AHp → Prop} (i : Nat) (k : A d y pc (ls.set i none) st G kc ks Q) : A d y pc ls st G kc ks Q := by
  refine A.drop (fun j v h => ?_) k
  by_cases e : i = j
  · subst e
    rw [List.getElem?_set] at h
    simp only [↓reduceIte] at h
    split at h <;> cases h
  · rw [List.getElem?_set_ne e] at h
    exact h
theorem nI_nm1 {n : Nat} (h : n < 1000000) : ¬ nI n = -1 := fun e => by
  have := congrArg Int32.toInt e
  rw [ixn h] at this
  have e2 : (-1 : Int32).toInt = -1 := by decide
  omega
