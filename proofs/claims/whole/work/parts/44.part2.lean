/-! the parts of a cost, on -/
section PART2
variable {M S : MS} {np : Nat}
theorem hN_n {n : Nat} (h : n < 1000000) : hN (nI n) = n := hN_nI (by omega)
theorem smK_sum {p l : Nat} {I : Nat → Int32} (hI : ∀ k, k ≤ l → I k = intM M p k) : ∀ n, n ≤ l + 1 → smK I n = sumI M p n
  | 0, _ => rfl
  | n + 1, h => by
    unfold smK sumI
    rw [smK_sum hI n (by omega), hI n (by omega)]
theorem sumI_nat {p l : Nat} {i : Nat → Nat} (hi : ∀ k, k ≤ l → i k ≤ 98901 ∧ intM M p k = nI (i k)) : ∀ n, n ≤ l + 1 → sumI M p n = lN (iS i n) ∧ iS i n ≤ 98901 * n
  | 0, _ => ⟨rfl, by unfold iS; omega⟩
  | n + 1, h => by
    obtain ⟨h1, h2⟩ := sumI_nat hi n (by omega)
    obtain ⟨h3, h4⟩ := hi n (by omega)
    unfold sumI iS
    rw [h1, h4, nI_l (by omega), lN_add]
    exact ⟨rfl, by omega⟩
/-- what is parted by interests -/
theorem parts_pos {p l b r : Nat} {I : Nat → Int32} {P P0 : Nat → Int32} {C C0 : Nat → Int64} (hB : BP M p) (hG : BG M) (h7 : M 7 p = nI l) (hl : l ≤ 3) (hI : ∀ k, k ≤ l → I k = intM M p k) (hI0 : ∀ k, l < k → I k = 0) (hs : 0 < smK I (l + 1)) (hr : r = hN (rsF (cstM M p) (pK0 I (cstM M p) (smK I (l + 1))) 4)) : (rsF (cstM M p) (pK0 I (cstM M p) (smK I (l + 1))) 4 = nI r ∧ r ≤ 4) ∧ ∀ k, k ≤ l → giv 3 r (flP (pK0 I (cstM M p) (smK I (l + 1))) P0 4) (flC (cK0 I (cstM M p) (smK I (l + 1))) C0 4) k = parP M p l (nI b) P C k := by
  obtain ⟨c, c1, c2⟩ := cstM_nat hB hG
  have hi : ∀ k, k ≤ l → hN (intM M p k) ≤ 98901 ∧ intM M p k = nI (hN (intM M p k)) := fun k hk => by
    obtain ⟨i, i1, i2⟩ := intM_nat hB h7 hl hk
    rw [i2, hN_n (by omega)]
    exact ⟨i1, rfl⟩
  have e1 := smK_sum hI (l + 1) (Nat.le_refl _)
  obtain ⟨e2, e3⟩ := sumI_nat hi (l + 1) (Nat.le_refl _)
  -- all four places, as numbers
  have hj : ∃ i : Nat → Nat, (∀ k, i k ≤ 98901 ∧ I k = nI (i k)) ∧ (∀ k, k ≤ l → i k = hN (intM M p k)) ∧ ∀ k, l < k → i k = 0 := by
    refine ⟨fun k => if k ≤ l then hN (intM M p k) else 0, fun k => ?_, fun k hk => if_pos hk, fun k hk => if_neg (by omega)⟩
    by_cases e : k ≤ l
    · simp only [if_pos e]
      exact ⟨(hi k e).1, (hI k e).trans (hi k e).2⟩
    · simp only [if_neg e]
      exact ⟨by omega, hI0 k (by omega)⟩
  obtain ⟨i, j1, j2, j3⟩ := hj
  have e4 : iS i (l + 1) = iS (fun k => hN (intM M p k)) (l + 1) := by
    have : ∀ n, n ≤ l + 1 → iS i n = iS (fun k => hN (intM M p k)) n := by
      intro n
      induction n with
      | zero => intro _; rfl
      | succ n ih =>
        intro h
        unfold iS
        rw [ih (by omega), j2 n (by omega)]
    exact this _ (Nat.le_refl _)
  rw [← e4] at e2 e3
  generalize hS : iS i (l + 1) = s at *
  rw [e1, e2] at hs hr ⊢
  have hs63 : s < 2 ^ 63 := by omega
  have hs0 : 0 < s := by
    rcases Nat.eq_zero_or_pos s with z | z
    · subst z; exact absurd hs (by decide)
    · exact z
  have vl : ∀ k, vlK I (cstM M p) k = lN (c * i k) ∧ c * i k < 2 ^ 63 := fun k => by
    unfold vlK
    have : c * i k ≤ 54000 * 98901 := Nat.mul_le_mul c1 (j1 k).1
    rw [c2, (j1 k).2, nI_l (by omega), nI_l (by have := (j1 k).1; omega), lN_mul]
    exact ⟨rfl, by omega⟩
  have pk : ∀ k, pK0 I (cstM M p) (lN s) k = nI (c * i k / s) := fun k => by
    unfold pK0
    rw [(vl k).1, pk_lDiv (vl k).2 hs0 hs63, lN_i]
  have ck : ∀ k, cK0 I (cstM M p) (lN s) k = lN (c * i k % s) := fun k => by
    unfold cK0
    rw [(vl k).1, pk_lRem (vl k).2 hs0 hs63]
  have vM : ∀ k, k ≤ l → vlM M p k = vlK I (cstM M p) k := fun k hk => by unfold vlM vlK; rw [hI k hk]
  have sne : ¬ sumI M p (l + 1) = 0 := by
    rw [e2]
    intro z
    have := (pk_lEQ (a := s) (b := 0) hs63 (by omega)).mp z
    omega
  have pM : ∀ k, k ≤ l → prt0 M p l (nI b) k = nI (c * i k / s) := fun k hk => by
    unfold prt0
    rw [if_neg sne, vM k hk, e2]
    exact pk k
  have cM : ∀ k, k ≤ l → cut0 M p l k = lN (c * i k % s) := fun k hk => by
    unfold cut0
    rw [if_neg sne, vM k hk, e2]
    exact ck k
  have q1 := qS_1 c s i (l + 1)
  have q2 := qS_2 c s i hs0 (l + 1)
  rw [hS] at q1 q2
  have q3 : qS c s i (l + 1) ≤ c := Nat.le_of_mul_le_mul_left (by rw [Nat.mul_comm s c]; exact q1) hs0
  have q4 : c ≤ qS c s i (l + 1) + (l + 1) := Nat.le_of_mul_le_mul_left (by rw [Nat.mul_add, Nat.mul_comm s c]; exact q2) hs0
  have q5 : qS c s i 4 = qS c s i (l + 1) := by
    have : ∀ d, qS c s i (l + 1 + d) = qS c s i (l + 1) := by
      intro d
      induction d with
      | zero => rfl
      | succ d ih =>
        show qS c s i (l + 1 + d) + c * i (l + 1 + d) / s = _
        rw [ih, j3 _ (by omega), Nat.mul_zero, Nat.zero_div]
        rfl
    have := this (3 - l)
    rw [show l + 1 + (3 - l) = 4 by omega] at this
    exact this
  have r1 : rsF (cstM M p) (pK0 I (cstM M p) (lN s)) 4 = nI (c - qS c s i (l + 1)) := by
    rw [c2]
    rw [c2] at pk
    rw [rsF_nat 4 (fun k _ => pk k) (by omega), q5]
  have r2 : r = c - qS c s i (l + 1) := by rw [hr, r1, hN_n (by omega)]
  refine ⟨⟨by rw [r1, r2], by omega⟩, fun k hk => ?_⟩
  unfold parP
  have r3 : rsF (cstM M p) (prF M p l (nI b) P (l + 1)) (l + 1) = nI r := by
    rw [r2, c2]
    exact rsF_nat (l + 1) (fun k hk => by rw [prF_at p l (nI b) P (l + 1) k hk]; exact pM k (by omega)) q3
  rw [r3, hN_n (by omega)]
  refine (giv_same hl r _ _ _ _ (fun k hk => ⟨?_, ?_⟩) (fun k k1 k2 => ?_) ?_ k hk).symm
  · rw [prF_at p l (nI b) P (l + 1) k (by omega), flP_at _ _ 4 k (by omega), pM k hk, pk k]
  · rw [ctF_at p l C (l + 1) k (by omega), flC_at _ _ 4 k (by omega), cM k hk, ck k]
  · rw [flC_at _ _ 4 k (by omega), ck k, j3 k k1, Nat.mul_zero, Nat.zero_mod]
    rfl
  · rw [nng_all _ (l + 1) (fun k hk => ?_)]
    · omega
    · rw [flC_at _ _ 4 k (by omega), ck k]
      exact (pk_lLE (a := 0) (by omega) (by have := Nat.mod_lt (c * i k) hs0; omega)).mpr (Nat.zero_le _)
/-- no interest at all: the builder bears it -/
theorem parts_zero {p l b : Nat} {I : Nat → Int32} {P P0 : Nat → Int32} {C : Nat → Int64} (hB : BP M p) (h7 : M 7 p = nI l) (hl : l ≤ 3) (hb : b ≤ l) (hI : ∀ k, k ≤ l → I k = intM M p k) (hs : ¬ 0 < smK I (l + 1)) : ∀ k, k ≤ l → flP (fun k => if k = b then cstM M p else 0) P0 4 k = parP M p l (nI b) P C k := by
  have hi : ∀ k, k ≤ l → hN (intM M p k) ≤ 98901 ∧ intM M p k = nI (hN (intM M p k)) := fun k hk => by
    obtain ⟨i, i1, i2⟩ := intM_nat hB h7 hl hk
    rw [i2, hN_n (by omega)]
    exact ⟨i1, rfl⟩
  have e1 := smK_sum hI (l + 1) (Nat.le_refl _)
  obtain ⟨e2, e3⟩ := sumI_nat (i := fun k => hN (intM M p k)) hi (l + 1) (Nat.le_refl _)
  rw [e1, e2] at hs
  have hz : iS (fun k => hN (intM M p k)) (l + 1) = 0 := by
    rcases Nat.eq_zero_or_pos (iS (fun k => hN (intM M p k)) (l + 1)) with z | z
    · exact z
    · exact absurd ((pk_lLT (a := 0) (by omega) (by omega)).mpr z) hs
  have sz : sumI M p (l + 1) = 0 := by rw [e2, hz]; rfl
  have pM : ∀ k, k ≤ l → prt0 M p l (nI b) k = if k = b then cstM M p else 0 := fun k hk => by
    unfold prt0
    rw [if_pos sz]
    by_cases e : k = b
    · rw [if_pos e, if_pos (by rw [e])]
    · rw [if_neg e, if_neg (fun z => e (nI_inj (by omega) (by omega) z))]
  intro k hk
  unfold parP
  rw [rsF_one (b := b) (l + 1) (fun k hk => by rw [prF_at p l (nI b) P (l + 1) k hk]; exact pM k (by omega)), if_pos (by omega)]
  show _ = prF M p l (nI b) P (l + 1) k
  rw [prF_at p l (nI b) P (l + 1) k (by omega), flP_at _ _ 4 k (by omega), pM k hk]
end PART2
