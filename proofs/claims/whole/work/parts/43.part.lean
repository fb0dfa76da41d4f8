/-! the parts of a cost: the component's four places tell the reference's -/
section PART
variable {M S : MS} {np : Nat}
theorem flP_at (g : Nat → Int32) (P : Nat → Int32) : ∀ n k, k < n → flP g P n k = g k
  | 0, k, h => absurd h (by omega)
  | n + 1, k, h => by
    unfold flP
    by_cases e : k = n
    · subst e; exact upd_eq
    · rw [upd_ne e]; exact flP_at g P n k (by omega)
theorem flC_at (g : Nat → Int64) (C : Nat → Int64) : ∀ n k, k < n → flC g C n k = g k
  | 0, k, h => absurd h (by omega)
  | n + 1, k, h => by
    unfold flC
    by_cases e : k = n
    · subst e; exact pk_uLs ..
    · rw [pk_uLn e]; exact flC_at g C n k (by omega)
theorem prF_at (p l : Nat) (b : Int32) (P : Nat → Int32) : ∀ n k, k < n → prF M p l b P n k = prt0 M p l b k
  | 0, k, h => absurd h (by omega)
  | n + 1, k, h => by
    unfold prF
    by_cases e : k = n
    · subst e; exact upd_eq
    · rw [upd_ne e]; exact prF_at p l b P n k (by omega)
theorem ctF_at (p l : Nat) (C : Nat → Int64) : ∀ n k, k < n → ctF M p l C n k = cut0 M p l k
  | 0, k, h => absurd h (by omega)
  | n + 1, k, h => by
    unfold ctF
    by_cases e : k = n
    · subst e; exact pk_uLs ..
    · rw [pk_uLn e]; exact ctF_at p l C n k (by omega)
theorem bst_max (C : Nat → Int64) : ∀ n k, k ≤ n → C k ≤ C (bst C n)
  | 0, k, h => by
    have : k = 0 := by omega
    subst this
    exact Int64.le_refl _
  | n + 1, k, h => by
    unfold bst
    by_cases c : C (bst C n) < C (n + 1)
    · rw [if_pos c]
      by_cases e : k = n + 1
      · subst e; exact Int64.le_refl _
      · exact Int64.le_trans (bst_max C n k (by omega)) (Int64.le_of_lt c)
    · rw [if_neg c]
      by_cases e : k = n + 1
      · subst e; exact Int64.not_lt.mp c
      · exact bst_max C n k (by omega)
theorem bst_congr {C C' : Nat → Int64} : ∀ n, (∀ k, k ≤ n → C k = C' k) → bst C n = bst C' n
  | 0, _ => rfl
  | n + 1, h => by
    unfold bst
    rw [bst_congr n (fun k hk => h k (by omega)), h (n + 1) (by omega), h (bst C' n) (by have := bst_le C' n; omega)]
theorem bst_s (C : Nat → Int64) (k : Nat) : bst C (k + 1) = if C (bst C k) < C (k + 1) then k + 1 else bst C k := rfl
/-- places beyond the chain never win -/
theorem bst_more {C : Nat → Int64} {l : Nat} (h0 : 0 ≤ C (bst C l)) : ∀ d, (∀ k, l < k → k ≤ l + d → C k = 0) → bst C (l + d) = bst C l
  | 0, _ => rfl
  | d + 1, h => by
    rw [← Nat.add_assoc, bst_s, bst_more h0 d (fun k h1 h2 => h k h1 (by omega)), h (l + d + 1) (by omega) (by omega), if_neg (Int64.not_lt.mpr h0)]
/-- how many of the first places have not been given one -/
def nng (C : Nat → Int64) : Nat → Nat
  | 0 => 0
  | n + 1 => nng C n + if 0 ≤ C n then 1 else 0
theorem nng_some (C : Nat → Int64) : ∀ n, 0 < nng C n → ∃ k, k < n ∧ 0 ≤ C k
  | 0, h => absurd h (by unfold nng; omega)
  | n + 1, h => by
    by_cases c : 0 ≤ C n
    · exact ⟨n, by omega, c⟩
    · unfold nng at h
      rw [if_neg c] at h
      obtain ⟨k, k1, k2⟩ := nng_some C n h
      exact ⟨k, by omega, k2⟩
theorem nng_upd (C : Nat → Int64) (i : Nat) (v : Int64) : ∀ n, nng C n ≤ nng (vp_updL C i v) n + 1 ∧ (n ≤ i → nng (vp_updL C i v) n = nng C n)
  | 0 => ⟨by unfold nng; omega, fun _ => rfl⟩
  | n + 1 => by
    obtain ⟨h1, h2⟩ := nng_upd C i v n
    unfold nng
    by_cases e : n = i
    · subst e
      rw [h2 (Nat.le_refl _)]
      refine ⟨?_, fun h => absurd h (by omega)⟩
      split <;> split <;> omega
    · rw [pk_uLn e]
      refine ⟨by omega, fun h => by rw [h2 (by omega)]⟩
theorem nng_all (C : Nat → Int64) : ∀ n, (∀ k, k < n → 0 ≤ C k) → nng C n = n
  | 0, _ => rfl
  | n + 1, h => by
    unfold nng
    rw [nng_all C n (fun k hk => h k (by omega)), if_pos (h n (by omega))]
theorem giv_same {l : Nat} (hl : l ≤ 3) : ∀ (r : Nat) (P P' : Nat → Int32) (C C' : Nat → Int64), (∀ k, k ≤ l → P k = P' k ∧ C k = C' k) → (∀ k, l < k → k ≤ 3 → C' k = 0) → r ≤ nng C' (l + 1) → ∀ k, k ≤ l → giv l r P C k = giv 3 r P' C' k
  | 0, P, P', C, C', h, _, _ => fun k hk => (h k hk).1
  | r + 1, P, P', C, C', h, h0, hr => by
    obtain ⟨m, m1, m2⟩ := nng_some C' (l + 1) (by omega)
    have hb : 0 ≤ C' (bst C' l) := Int64.le_trans m2 (bst_max C' l m (by omega))
    have e1 : bst C l = bst C' l := bst_congr l (fun k hk => (h k hk).2)
    have e2 : bst C' 3 = bst C' l := by
      have := bst_more hb (3 - l) (fun k h1 h2 => h0 k h1 (by omega))
      rw [show l + (3 - l) = 3 by omega] at this
      exact this
    have hle := bst_le C' l
    unfold giv
    rw [e1, e2]
    refine giv_same hl r _ _ _ _ (fun k hk => ?_) (fun k k1 k2 => ?_) ?_
    · by_cases e : k = bst C' l
      · subst e
        rw [upd_eq, upd_eq, pk_uLs, pk_uLs, (h _ hk).1]
        exact ⟨rfl, rfl⟩
      · rw [upd_ne e, upd_ne e, pk_uLn e, pk_uLn e]
        exact h k hk
    · rw [pk_uLn (by omega)]; exact h0 k k1 k2
    · have := (nng_upd C' (bst C' l) (-1) (l + 1)).1
      omega
def qS (c s : Nat) (i : Nat → Nat) : Nat → Nat
  | 0 => 0
  | n + 1 => qS c s i n + c * i n / s
def iS (i : Nat → Nat) : Nat → Nat
  | 0 => 0
  | n + 1 => iS i n + i n
theorem qS_1 (c s : Nat) (i : Nat → Nat) : ∀ n, s * qS c s i n ≤ c * iS i n
  | 0 => by unfold qS iS; omega
  | n + 1 => by
    unfold qS iS
    rw [Nat.mul_add, Nat.mul_add]
    exact Nat.add_le_add (qS_1 c s i n) (Nat.mul_div_le _ _)
theorem qS_2 (c s : Nat) (i : Nat → Nat) (hs : 0 < s) : ∀ n, c * iS i n ≤ s * qS c s i n + s * n
  | 0 => by unfold qS iS; omega
  | n + 1 => by
    unfold qS iS
    rw [Nat.mul_add, Nat.mul_add, Nat.mul_succ]
    have h1 := qS_2 c s i hs n
    have h2 := Nat.div_add_mod (c * i n) s
    have h3 := Nat.mod_lt (c * i n) hs
    omega
theorem qS_mono (c s : Nat) (i : Nat → Nat) (n : Nat) : ∀ d, qS c s i n ≤ qS c s i (n + d)
  | 0 => Nat.le_refl _
  | d + 1 => Nat.le_trans (qS_mono c s i n d) (Nat.le_add_right _ _)
theorem rsF_nat {c : Nat} {q : Nat → Int32} {s : Nat} {i : Nat → Nat} : ∀ n, (∀ k, k < n → q k = nI (c * i k / s)) → qS c s i n ≤ c → rsF (nI c) q n = nI (c - qS c s i n)
  | 0, _, _ => by unfold rsF qS; rfl
  | n + 1, h, hc => by
    have h1 := qS_mono c s i n 1
    have h2 : qS c s i (n + 1) = qS c s i n + c * i n / s := rfl
    unfold rsF
    rw [rsF_nat n (fun k hk => h k (by omega)) (by omega), h n (by omega), pk_sub (by omega)]
    congr 1
    omega
theorem rsF_congr {c : Int32} {q q' : Nat → Int32} : ∀ n, (∀ k, k < n → q k = q' k) → rsF c q n = rsF c q' n
  | 0, _ => rfl
  | n + 1, h => by
    unfold rsF
    rw [rsF_congr n (fun k hk => h k (by omega)), h n (by omega)]
theorem rsF_one {c : Int32} {b : Nat} {q : Nat → Int32} : ∀ n, (∀ k, k < n → q k = if k = b then c else 0) → rsF c q n = if b < n then 0 else c
  | 0, _ => rfl
  | n + 1, h => by
    unfold rsF
    rw [rsF_one n (fun k hk => h k (by omega)), h n (by omega)]
    by_cases e : n = b
    · subst e
      rw [if_pos rfl, if_neg (by omega), if_pos (by omega), Int32.sub_self]
    · rw [if_neg e, Int32.sub_zero]
      by_cases c : b < n
      · rw [if_pos c, if_pos (by omega)]
      · rw [if_neg c, if_neg (by omega)]
theorem wthM_nat {p : Nat} (hB : BP M p) : ∃ w, w ≤ 300 ∧ wthM M p = nI w := by
  obtain ⟨f, f1, f2, f3⟩ := hB.2.1
  obtain ⟨d, d1, d2, d3⟩ := hB.2.2.1
  have h : f * d ≤ 60 * 100 := Nat.mul_le_mul f2 d2
  refine ⟨f * d / 20, by omega, ?_⟩
  unfold wthM
  rw [f3, d3, pk_mul, show (20 : Int32) = nI 20 from rfl, pk_div (by omega) (by omega) (by omega)]
theorem cstM_nat {p : Nat} (hB : BP M p) (hG : BG M) : ∃ c, c ≤ 54000 ∧ cstM M p = nI c := by
  obtain ⟨f, f1, f2, f3⟩ := hB.2.1
  obtain ⟨d, d1, d2, d3⟩ := hB.2.2.1
  obtain ⟨r, r1, r2, r3⟩ := hG.2.1
  have h : f * d ≤ 60 * 100 := Nat.mul_le_mul f2 d2
  have h2 : f * d * r ≤ 6000 * 9 := Nat.mul_le_mul h r2
  refine ⟨f * d * r, by omega, ?_⟩
  unfold cstM
  rw [f3, d3, r3, pk_mul, pk_mul]
theorem intM_nat {p k l : Nat} (hB : BP M p) (h7 : M 7 p = nI l) (hl : l ≤ 3) (hk : k ≤ l) : ∃ i, i ≤ 98901 ∧ intM M p k = nI i := by
  have ha : ∃ a, a ≤ 999 ∧ (if M 7 p ≤ nI k then wthM M p else M 10 (4 * p + k + 1)) = nI a := by
    by_cases c : M 7 p ≤ nI k
    · rw [if_pos c]
      obtain ⟨w, w1, w2⟩ := wthM_nat hB
      exact ⟨w, by omega, w2⟩
    · rw [if_neg c]
      have : k + 1 ≤ l := by
        rw [h7] at c
        have : ¬ l ≤ k := fun z => c (nI_le z (by omega))
        omega
      exact ((hB.2.2.2.2.2.2 l (k + 1) h7 hl this).2 (by omega)).1
  have hb : ∃ b, b ≤ 999 ∧ (if nI k ≤ 0 then 0 else M 10 (4 * p + k)) = nI b := by
    by_cases c : nI k ≤ 0
    · rw [if_pos c]; exact ⟨0, by omega, rfl⟩
    · rw [if_neg c]
      have : 1 ≤ k := by
        rcases Nat.eq_zero_or_pos k with z | z
        · subst z; exact absurd (by decide) c
        · exact z
      exact ((hB.2.2.2.2.2.2 l k h7 hl hk).2 this).1
  have hy : ∃ y, y ≤ 99 ∧ (if nI k = 0 then 40 else M 9 (4 * p + k)) = nI y := by
    by_cases c : nI k = 0
    · rw [if_pos c]; exact ⟨40, by omega, rfl⟩
    · rw [if_neg c]
      obtain ⟨y, y1, y2, y3⟩ := (hB.2.2.2.2.2.2 l k h7 hl hk).1
      exact ⟨y, y2, y3⟩
  obtain ⟨a, a1, a2⟩ := ha
  obtain ⟨b, b1, b2⟩ := hb
  obtain ⟨y, y1, y2⟩ := hy
  unfold intM
  rw [a2, b2, y2]
  by_cases c : b ≤ a
  · rw [pk_sub c, pk_mul]
    have : (a - b) * y ≤ 999 * 99 := Nat.mul_le_mul (by omega) y1
    split
    · exact ⟨_, by omega, rfl⟩
    · exact ⟨0, by omega, rfl⟩
  · have e := pk_sub_toInt (a := a) (b := b) (by omega) (by omega)
    rw [if_neg (fun z => by
      rw [Int32.lt_iff_toInt_lt] at z
      have e2 : (nI a - nI b).toInt = (a : Int) - b := e
      have e0 : (0 : Int32).toInt = 0 := by decide
      omega)]
    exact ⟨0, by omega, rfl⟩
end PART
