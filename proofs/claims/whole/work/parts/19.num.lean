/-! numbers -/
theorem in_np {x : Int32} {n : Nat} (hn : n ≤ 1000000) (h1 : 0 ≤ x) (h2 : x ≤ nI n - 1) : ∃ q, q < n ∧ x = nI q := by
  have e : (nI n - 1).toInt = (n : Int) - 1 := by
    have := pk_sub_toInt (a := n) (b := 1) (by omega) (by omega)
    exact this
  rw [Int32.le_iff_toInt_le] at h1 h2
  rw [e] at h2
  have h1 : 0 ≤ x.toInt := h1
  refine ⟨x.toInt.toNat, by omega, ?_⟩
  apply Int32.toInt_inj.mp
  rw [nI_toInt (by omega)]
  omega
theorem nin_np {x : Int32} {n : Nat} (hn : n ≤ 1000000) (h : ¬ (0 ≤ x ∧ x ≤ nI n - 1)) : ∀ q, q < n → x ≠ nI q := by
  intro q hq e
  apply h
  subst e
  refine ⟨nI_pos' (by omega), ?_⟩
  have e : (nI n - 1).toInt = (n : Int) - 1 := by
    have := pk_sub_toInt (a := n) (b := 1) (by omega) (by omega)
    exact this
  rw [Int32.le_iff_toInt_le, e, nI_toInt (by omega)]
  omega
theorem in_lit {x hi : Int32} {n : Nat} (hh : hi.toInt = (n : Int)) (hn : n ≤ 1000000) (h1 : 0 ≤ x) (h2 : x ≤ hi) : ∃ q, q ≤ n ∧ x = nI q := by
  rw [Int32.le_iff_toInt_le] at h1 h2
  have h1 : 0 ≤ x.toInt := h1
  refine ⟨x.toInt.toNat, by omega, ?_⟩
  apply Int32.toInt_inj.mp
  rw [nI_toInt (by omega)]
  omega
theorem nI_bt {q n : Nat} {hi : Int32} (hh : hi.toInt = (n : Int)) (hq : q ≤ n) (hn : n ≤ 1000000) : 0 ≤ nI q ∧ nI q ≤ hi := by
  refine ⟨nI_pos' (by omega), ?_⟩
  rw [Int32.le_iff_toInt_le, nI_toInt (by omega)]
  omega
theorem ix4 {p l : Nat} (hp : p < 1000) (hl : l < 1000) : ((4 : Int32) * nI p + nI l).toInt = ((4 * p + l : Nat) : Int) := by
  rw [show (4 : Int32) = nI 4 from rfl, pk_mul, nI_add, nI_toInt (by omega)]
theorem ix4s {p l : Nat} (hp : p < 1000) (hl : l < 1000) : ((4 : Int32) * nI p + nI l + 1).toInt = ((4 * p + l + 1 : Nat) : Int) := by
  rw [show (4 : Int32) = nI 4 from rfl, pk_mul, nI_add, nI_1, nI_toInt (by omega)]
theorem ix4z {p : Nat} (hp : p < 1000) : ((4 : Int32) * nI p).toInt = ((4 * p : Nat) : Int) := by
  rw [show (4 : Int32) = nI 4 from rfl, pk_mul, nI_toInt (by omega)]
theorem ix8 {p l : Nat} (hp : p < 1000) (hl : l < 1000) : ((8 : Int32) * nI p + nI l).toInt = ((8 * p + l : Nat) : Int) := by
  rw [show (8 : Int32) = nI 8 from rfl, pk_mul, nI_add, nI_toInt (by omega)]
theorem ix301 {p l : Nat} (hp : p < 1000) (hl : l < 1000) : ((301 : Int32) * nI p + nI l).toInt = ((301 * p + l : Nat) : Int) := by
  rw [show (301 : Int32) = nI 301 from rfl, pk_mul, nI_add, nI_toInt (by omega)]
theorem ixn {p : Nat} (hp : p < 1000000) : (nI p).toInt = (p : Int) := nI_toInt (by omega)
theorem nI_inj {a b : Nat} (ha : a < 1000000) (hb : b < 1000000) (h : nI a = nI b) : a = b := (nI_eq (by omega) (by omega)).mp h
