/-! bricks: both find the same -/
section SAME
variable {M : MS} {np : Nat}
theorem brn_inc (M : MS) : ∀ p, (brn M p).Pairwise (fun a b => a < b)
  | 0 => List.Pairwise.nil
  | p + 1 => by
    rw [brn_s]
    split
    · refine List.pairwise_append.mpr ⟨brn_inc M p, List.pairwise_singleton _ _, fun a ha b hb => ?_⟩
      rw [List.mem_singleton.mp hb]
      exact brn_lt M p a ha
    · exact brn_inc M p
def dN (M : MS) (p : Nat) : Nat := hN (dueM M p)
theorem dN_ok {p : Nat} (hB : BP M p) (hG : BG M) : dueM M p = nI (dN M p) ∧ dN M p ≤ 60 := by
  obtain ⟨l, l1, l2⟩ := hG.2.2.1
  unfold dN dueM
  rcases hB.2.2.2.2.2.1 with e | ⟨y, y1, y2⟩
  · rw [if_pos e, l2, hN_nI (by omega)]; exact ⟨rfl, l1⟩
  · rw [y2, if_neg (nI_nm1 (by omega)), hN_nI (by omega)]; exact ⟨rfl, y1⟩
theorem rm_int {p bb now : Nat} {b : Int32} (hb : b = nI bb) (hbb : bb ≤ 2000) (hn : M 0 0 = nI now) (hnow : now ≤ 60) (hd : dueM M p = nI (dN M p)) (hd2 : dN M p ≤ 60) : (rmI M b p).toInt = (bb : Int) * ((dN M p : Int) - now + 1) := by
  unfold rmI
  rw [hd, hn, hb]
  have e1 : (nI (dN M p) - nI now).toInt = (dN M p : Int) - now := pk_sub_toInt (by omega) (by omega)
  have e2 : (nI (dN M p) - nI now + 1).toInt = (dN M p : Int) - now + 1 := by
    rw [Int32.toInt_add, e1]
    have : (1 : Int32).toInt = 1 := by decide
    rw [this]
    exact Int.bmod_eq_of_le_mul_two (by omega) (by omega)
  rw [Int32.toInt_mul, e2, nI_toInt (by omega)]
  have k1 : (bb : Int) * ((dN M p : Int) - now + 1) ≤ 2000 * 61 := by
    have h1 : (bb : Int) * ((dN M p : Int) - now + 1) ≤ (bb : Int) * 61 := Int.mul_le_mul_of_nonneg_left (by omega) (by omega)
    omega
  have k2 : -(2000 * 60) ≤ (bb : Int) * ((dN M p : Int) - now + 1) := by
    have h1 : (bb : Int) * (-60) ≤ (bb : Int) * ((dN M p : Int) - now + 1) := Int.mul_le_mul_of_nonneg_left (by omega) (by omega)
    omega
  exact Int.bmod_eq_of_le_mul_two (by omega) (by omega)
theorem smH_iff {f : Nat → Nat} {h y : Nat} (hh : h < 4096) : ∀ n, n ≤ 12 → (smH M f h y n = 0 ↔ ∀ k, k < n → ¬ (h.testBit k = true ∧ dueM M (f k) ≤ nI y))
  | 0, _ => ⟨fun _ k hk => absurd hk (by omega), fun _ => rfl⟩
  | n + 1, hn => by
    have ih := smH_iff (f := f) (y := y) hh n (by omega)
    rw [smH_s, bitI_eq hh (by omega)]
    by_cases c : h.testBit n = true
    · rw [if_pos c, if_neg (by decide)]
      by_cases d : dueM M (f n) ≤ nI y
      · rw [if_pos d]
        exact ⟨fun z => absurd z (by decide), fun z => absurd ⟨c, d⟩ (z n (by omega))⟩
      · rw [if_neg d, ih]
        constructor
        · intro z k hk
          by_cases e : k = n
          · subst e; exact fun w => d w.2
          · exact z k (by omega)
        · exact fun z k hk => z k (by omega)
    · rw [if_neg c, if_pos rfl, ih]
      constructor
      · intro z k hk
        by_cases e : k = n
        · subst e; exact fun w => c w.1
        · exact z k (by omega)
      · exact fun z k hk => z k (by omega)
theorem ndH_nat {f : Nat → Nat} {h y : Nat} (hh : h < 4096) (hy : y ≤ 60) {nd d : Nat → Nat} : ∀ n, n ≤ 12 → (∀ k, k < n → M 4 (f k) + M 5 (f k) = nI (nd (f k)) ∧ dueM M (f k) = nI (d (f k)) ∧ d (f k) ≤ 60) → ndH M f h y n = nI (psum (fun k => if h.testBit k = true ∧ d (f k) ≤ y then nd (f k) else 0) n)
  | 0, _, _ => rfl
  | n + 1, hn, hv => by
    obtain ⟨v1, v2, v3⟩ := hv n (by omega)
    rw [ndH_s, ndH_nat hh hy n (by omega) (fun k hk => hv k (by omega)), bitI_eq hh (by omega), psum_s, v1, v2]
    by_cases c : h.testBit n = true
    · rw [if_pos c, if_neg (by decide)]
      by_cases e : d (f n) ≤ y
      · rw [if_pos (nI_le e (by omega)), if_pos ⟨c, e⟩, nI_add]
      · rw [if_neg (fun z => e ((nI_leI (by omega) (by omega)).mp z)), if_neg (fun z => e z.2), Nat.add_zero]
    · rw [if_neg c, if_pos rfl, if_neg (fun z => c z.1), Nat.add_zero]
theorem max_ex {P : Nat → Prop} [DecidablePred P] {d : Nat → Nat} : ∀ n, (∃ k, k < n ∧ P k) → ∃ k, k < n ∧ P k ∧ ∀ j, j < n → P j → d j ≤ d k
  | 0, ⟨k, hk, _⟩ => absurd hk (by omega)
  | n + 1, ⟨k, hk, hP⟩ => by
    by_cases c : ∃ k, k < n ∧ P k
    · obtain ⟨m, m1, m2, m3⟩ := max_ex (d := d) n c
      by_cases e : P n ∧ d m < d n
      · refine ⟨n, by omega, e.1, fun j hj hp => ?_⟩
        by_cases z : j = n
        · subst z; exact Nat.le_refl _
        · have := m3 j (by omega) hp; omega
      · refine ⟨m, by omega, m2, fun j hj hp => ?_⟩
        by_cases z : j = n
        · subst z
          rcases Nat.lt_or_ge (d m) (d j) with w | w
          · exact absurd ⟨hp, w⟩ e
          · exact w
        · exact m3 j (by omega) hp
    · have : k = n := by
        rcases Nat.lt_or_ge k n with w | w
        · exact absurd ⟨k, w, hP⟩ c
        · omega
      subst this
      refine ⟨k, by omega, hP, fun j hj hp => ?_⟩
      rcases Nat.lt_or_ge j k with w | w
      · exact absurd ⟨j, w, hp⟩ c
      · rw [show j = k by omega]; exact Nat.le_refl _
theorem psum_le {F : Nat → Nat} {m : Nat} : ∀ n, (∀ k, k < n → F k ≤ m) → psum F n ≤ m * n
  | 0, _ => Nat.zero_le _
  | n + 1, h => by
    have h1 := psum_le n (fun k hk => h k (by omega))
    have h2 := h n (by omega)
    rw [psum_s, Nat.mul_succ]
    omega
theorem psum_ge {F : Nat → Nat} : ∀ n k, k < n → F k ≤ psum F n
  | 0, k, h => absurd h (by omega)
  | n + 1, k, h => by
    rw [psum_s]
    by_cases e : k = n
    · subst e; omega
    · have := psum_ge (F := F) n k (by omega); omega
end SAME
