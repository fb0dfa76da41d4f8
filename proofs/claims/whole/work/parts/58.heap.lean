/-! bricks: the reference's best heap as numbers -/
section HEAP
variable {M : MS}
theorem bitI_eq {h k : Nat} (hh : h < 4096) (hk : k < 12) : bitI h k = if h.testBit k = true then 1 else 0 := by
  unfold bitI
  have e : ∀ m : Fin 12, ((nI m.val &&& 31).toBitVec.smod 32).toNat = m.val := by decide
  rw [pk_shrN (by omega) _ k (e ⟨k, hk⟩), pk_andN (by have := Nat.div_le_self h (2 ^ k); omega) 1 (by decide), Nat.testBit_eq_decide_div_mod_eq]
  have h2 := Nat.mod_lt (h / 2 ^ k) (show 0 < 2 by omega)
  rcases (show h / 2 ^ k % 2 ^ 1 = 0 ∨ h / 2 ^ k % 2 ^ 1 = 1 by omega) with z | z
  · rw [z, if_neg (by have : h / 2 ^ k % 2 = 0 := z; simp [this])]; rfl
  · rw [z, if_pos (by have : h / 2 ^ k % 2 = 1 := z; simp [this])]; rfl
def psum (F : Nat → Nat) : Nat → Nat
  | 0 => 0
  | n + 1 => psum F n + F n
def por (F : Nat → Nat) : Nat → Nat
  | 0 => 0
  | n + 1 => por F n ||| F n
theorem psum_s (F : Nat → Nat) (n : Nat) : psum F (n + 1) = psum F n + F n := rfl
theorem por_s (F : Nat → Nat) (n : Nat) : por F (n + 1) = por F n ||| F n := rfl
theorem lsum_snoc (F : Nat → Nat) (x : Nat) : ∀ L : List Nat, lsum F (L ++ [x]) = lsum F L + F x
  | [] => by show F x + 0 = 0 + F x; omega
  | p :: R => by show F p + lsum F (R ++ [x]) = F p + lsum F R + F x; rw [lsum_snoc F x R, Nat.add_assoc]
theorem lor_snoc (F : Nat → Nat) (x : Nat) : ∀ L : List Nat, lor F (L ++ [x]) = lor F L ||| F x
  | [] => by show F x ||| 0 = 0 ||| F x; rw [Nat.or_zero, Nat.zero_or]
  | p :: R => by show F p ||| lor F (R ++ [x]) = (F p ||| lor F R) ||| F x; rw [lor_snoc F x R, Nat.or_assoc]
theorem take_snoc (B : List Nat) {n : Nat} (h : n < B.length) : B.take (n + 1) = B.take n ++ [B.getD n 0] := by
  rw [List.take_succ, List.getD_eq_getElem?_getD, List.getElem?_eq_getElem h]
  rfl
theorem psum_list (F : Nat → Nat) (B : List Nat) : ∀ n, n ≤ B.length → psum (fun k => F (B.getD k 0)) n = lsum F (B.take n)
  | 0, _ => by rw [List.take_zero]; rfl
  | n + 1, h => by rw [take_snoc B (by omega), lsum_snoc, ← psum_list F B n (by omega)]; rfl
theorem por_list (F : Nat → Nat) (B : List Nat) : ∀ n, n ≤ B.length → por (fun k => F (B.getD k 0)) n = lor F (B.take n)
  | 0, _ => by rw [List.take_zero]; rfl
  | n + 1, h => by rw [take_snoc B (by omega), lor_snoc, ← por_list F B n (by omega)]; rfl
theorem psum_congr {F F' : Nat → Nat} : ∀ n, (∀ k, k < n → F k = F' k) → psum F n = psum F' n
  | 0, _ => rfl
  | n + 1, h => by unfold psum; rw [psum_congr n (fun k hk => h k (by omega)), h n (by omega)]
theorem por_congr {F F' : Nat → Nat} : ∀ n, (∀ k, k < n → F k = F' k) → por F n = por F' n
  | 0, _ => rfl
  | n + 1, h => by unfold por; rw [por_congr n (fun k hk => h k (by omega)), h n (by omega)]
/-- the set of plots that a heap's number tells -/
def mt (f : Nat → Nat) (n h : Nat) (g : Nat → Bool) : Prop := ∀ k, k < n → g (f k) = h.testBit k
theorem mt_of {f : Nat → Nat} {n : Nat} (hf : ∀ i j, i < n → j < n → f i = f j → i = j) (h : Nat) : ∃ g, mt f n h g := by
  refine ⟨fun p => (List.range n).any (fun k => decide (f k = p) && h.testBit k), fun k hk => ?_⟩
  by_cases c : h.testBit k = true
  · rw [c]
    exact List.any_eq_true.mpr ⟨k, List.mem_range.mpr hk, by simp [c]⟩
  · rw [Bool.not_eq_true] at c
    rw [c]
    refine Bool.eq_false_iff.mpr (fun z => ?_)
    obtain ⟨j, j1, j2⟩ := List.any_eq_true.mp z
    simp only [Bool.and_eq_true, decide_eq_true_eq] at j2
    have := hf j k (List.mem_range.mp j1) hk j2.1
    subst this
    rw [c] at j2
    exact absurd j2.2 (by decide)
def enc (f : Nat → Nat) (g : Nat → Bool) : Nat → Nat
  | 0 => 0
  | n + 1 => (if g (f n) = true then 2 ^ n else 0) + enc f g n
theorem enc_lt (f : Nat → Nat) (g : Nat → Bool) : ∀ n, enc f g n < 2 ^ n
  | 0 => by show 0 < 1; omega
  | n + 1 => by
    have := enc_lt f g n
    unfold enc
    rw [Nat.pow_succ]
    split <;> omega
theorem enc_mt (f : Nat → Nat) (g : Nat → Bool) : ∀ n, mt f n (enc f g n) g
  | 0 => fun k hk => absurd hk (by omega)
  | n + 1 => fun k hk => by
    have ih := enc_mt f g n
    have hl := enc_lt f g n
    unfold enc
    by_cases e : k = n
    · subst e
      by_cases c : g (f k) = true
      · rw [if_pos c, Nat.testBit_two_pow_add_eq, Nat.testBit_lt_two_pow hl, c]; rfl
      · rw [if_neg c, Nat.zero_add, Nat.testBit_lt_two_pow hl]
        exact Bool.eq_false_iff.mpr c
    · by_cases c : g (f n) = true
      · rw [if_pos c, Nat.testBit_two_pow_add_gt (by omega)]; exact ih k (by omega)
      · rw [if_neg c, Nat.zero_add]; exact ih k (by omega)
theorem sumH_nat {f : Nat → Nat} {h : Nat} (hh : h < 4096) {wt : Nat → Nat} : ∀ n, n ≤ 12 → (∀ k, k < n → wthM M (f k) = nI (wt (f k))) → sumH M f h n = nI (psum (fun k => if h.testBit k = true then wt (f k) else 0) n)
  | 0, _, _ => rfl
  | n + 1, hn, hw => by
    rw [sumH_s, sumH_nat hh n (by omega) (fun k hk => hw k (by omega)), bitI_eq hh (by omega), psum_s, ← nI_add]
    congr 1
    by_cases c : h.testBit n = true
    · rw [if_pos c, if_pos rfl, if_pos c, hw n (by omega)]
    · rw [if_neg c, if_neg (by decide), if_neg c]; rfl
theorem por_lt {F : Nat → Nat} : ∀ n, (∀ k, k < n → F k < 2 ^ 24) → por F n < 2 ^ 24
  | 0, _ => by show 0 < 2 ^ 24; decide
  | n + 1, h => Nat.or_lt_two_pow (por_lt n (fun k hk => h k (by omega))) (h n (by omega))
theorem cvH_nat {f : Nat → Nat} {h : Nat} (hh : h < 4096) : ∀ n, n ≤ 12 → (∀ k, k < n → f k < 24) → cvH f h n = nI (por (fun k => if h.testBit k = true then 2 ^ f k else 0) n)
  | 0, _, _ => rfl
  | n + 1, hn, hf => by
    rw [cvH_s, cvH_nat hh n (by omega) (fun k hk => hf k (by omega)), bitI_eq hh (by omega)]
    have p24 : 2 ^ f n < 2 ^ 24 := Nat.pow_lt_pow_right (by omega) (hf n (by omega))
    have l1 : por (fun k => if h.testBit k = true then 2 ^ f k else 0) n < 2 ^ 24 := por_lt n (fun k hk => by
      show (if h.testBit k = true then 2 ^ f k else 0) < 2 ^ 24
      split
      · exact Nat.pow_lt_pow_right (by omega) (hf k (by omega))
      · decide)
    rw [por_s]
    by_cases c : h.testBit n = true
    · rw [if_pos c, shl24 (hf n (by omega)), or_nI l1 p24]
      simp only [if_pos c]
    · rw [if_neg c, show (0 : Int32) <<< (nI (f n) &&& 31) = nI 0 from by
        have : ∀ m : Fin 24, (0 : Int32) <<< (nI m.val &&& 31) = nI 0 := by decide
        exact this ⟨f n, hf n (by omega)⟩, or_nI l1 (by decide)]
      simp only [if_neg c]
/-- of two heaps the lesser number has the lesser bits -/
theorem por_mono {f : Nat → Nat} {n0 : Nat} (hf : ∀ i j, i < j → j < n0 → f i < f j) : ∀ n, n ≤ n0 → ∀ h h' : Nat, h % 2 ^ n ≤ h' % 2 ^ n → por (fun k => if h.testBit k = true then 2 ^ f k else 0) n ≤ por (fun k => if h'.testBit k = true then 2 ^ f k else 0) n := by
  have top : ∀ n, n < n0 → ∀ h : Nat, por (fun k => if h.testBit k = true then 2 ^ f k else 0) n < 2 ^ f n := by
    intro n
    induction n with
    | zero => intro _ h; exact Nat.two_pow_pos _
    | succ n ih =>
      intro hn h
      have h1 := ih (by omega) h
      have h2 : 2 ^ (f n + 1) ≤ 2 ^ f (n + 1) := Nat.pow_le_pow_right (by omega) (hf n (n + 1) (by omega) hn)
      have h3 : 2 ^ f n < 2 ^ (f n + 1) := Nat.pow_lt_pow_right (by omega) (by omega)
      refine Nat.lt_of_lt_of_le (Nat.or_lt_two_pow (Nat.lt_trans h1 h3) ?_) h2
      show (if h.testBit n = true then 2 ^ f n else 0) < 2 ^ (f n + 1)
      split
      · exact h3
      · exact Nat.two_pow_pos _
  intro n
  induction n with
  | zero => intro _ h h' _; exact Nat.le_refl _
  | succ n ih =>
    intro hn h h' hle
    have t1 := top n (by omega) h
    have t2 := top n (by omega) h'
    have sp : ∀ h : Nat, h % 2 ^ (n + 1) = (if h.testBit n = true then 2 ^ n else 0) + h % 2 ^ n := fun h => by
      rw [Nat.mod_pow_succ, Nat.testBit_eq_decide_div_mod_eq]
      have := Nat.mod_lt (h / 2 ^ n) (show 0 < 2 by omega)
      rcases (show h / 2 ^ n % 2 = 0 ∨ h / 2 ^ n % 2 = 1 by omega) with z | z
      · rw [z]; simp
      · rw [z]; simp; omega
    rw [sp h, sp h'] at hle
    have m1 := Nat.mod_lt h (Nat.two_pow_pos n)
    have m2 := Nat.mod_lt h' (Nat.two_pow_pos n)
    show por _ n ||| (if h.testBit n = true then 2 ^ f n else 0) ≤ por _ n ||| (if h'.testBit n = true then 2 ^ f n else 0)
    have ad : ∀ a, a < 2 ^ f n → a ||| 2 ^ f n = 2 ^ f n + a := fun a ha => by
      have := Nat.two_pow_add_eq_or_of_lt ha 1
      rw [Nat.mul_one] at this
      rw [this, Nat.or_comm]
    by_cases c : h.testBit n = true
    · rw [if_pos c] at hle ⊢
      by_cases d : h'.testBit n = true
      · rw [if_pos d] at hle ⊢
        rw [ad _ t1, ad _ t2]
        have := ih (by omega) h h' (by omega)
        omega
      · rw [if_neg d] at hle
        omega
    · rw [if_neg c] at hle ⊢
      rw [Nat.or_zero]
      by_cases d : h'.testBit n = true
      · rw [if_pos d, ad _ t2]
        omega
      · rw [if_neg d] at hle ⊢
        rw [Nat.or_zero]
        exact ih (by omega) h h' (by omega)
end HEAP
