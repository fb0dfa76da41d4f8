/-! what is kept, on -/
section KEPT2
variable {M M' : MS} {np : Nat}
/-- an owner's years stand -/
def own (M : MS) (np : Nat) : Prop := ∀ p, p < np → M 9 (4 * p) = 99
theorem INV.wall {x z : Int32} {o : Nat} (h : INV M np) (ho : o < 20) : INV (wallI M x z o) np := by
  have e : ∀ k, k ≠ 1 → k ≠ 14 → k ≠ 15 → wallI M x z o k = M k := fun k a b c => by
    unfold wallI
    split
    · rfl
    · unfold mWall
      split
      · rw [vn a, vn c, vn b]
      · rw [vn a]
  exact ⟨h.1.wall ho, h.2.1.cg (e 3 (by decide) (by decide) (by decide)) (e 4 (by decide) (by decide) (by decide)) (e 24 (by decide) (by decide) (by decide)), h.2.2.1.cg (by rw [e 0 (by decide) (by decide) (by decide)]) (by rw [e 16 (by decide) (by decide) (by decide)]) (by rw [e 18 (by decide) (by decide) (by decide)]) (by rw [e 21 (by decide) (by decide) (by decide)]) (by rw [e 22 (by decide) (by decide) (by decide)]), fun p hp => (h.2.2.2.1 p hp).cg (fun k hk => by rw [e k (by omega) (by omega) (by omega)]) (fun j hj => ⟨by rw [e 9 (by decide) (by decide) (by decide)], by rw [e 10 (by decide) (by decide) (by decide)]⟩), fun p hp => by rw [e 6 (by decide) (by decide) (by decide), e 7 (by decide) (by decide) (by decide)]; exact h.2.2.2.2 p hp⟩
theorem wallI_9 {x z : Int32} {o : Nat} : wallI M x z o 9 = M 9 := by
  unfold wallI
  split
  · rfl
  · unfold mWall
    split <;> rfl
theorem INV.ends {p : Nat} {how : Int32} (h : INV M np) (hp : p < np) (hh : how = 2 ∨ how = 3) : INV (mEnds M p how) np :=
  ⟨h.1.ends, h.2.1.cg rfl rfl rfl, h.2.2.1, fun q hq => (h.2.2.2.1 q hq).ends hh h.1, fun q hq => by
    obtain ⟨a, b⟩ := h.2.2.2.2 q hq
    show upd (M 6) p how q = 0 ∧ upd (M 7) p 0 q = 0
    rw [upd_ne (by omega), upd_ne (by omega)]
    exact ⟨a, b⟩⟩
theorem mx40 {y : Nat} (h : y ≤ 99) : (if nI y < 40 then (40 : Int32) else nI y) = nI (max y 40) := by
  by_cases c : y < 40
  · rw [if_pos (show nI y < 40 from (nI_ltI (b := 40) (by omega) (by omega)).mpr c), Nat.max_eq_right (by omega)]; rfl
  · rw [if_neg (show ¬ nI y < 40 from fun z => c ((nI_ltI (b := 40) (by omega) (by omega)).mp z)), Nat.max_eq_left (by omega)]
theorem INV.raise {p l b o : Nat} {co : Nat → Int32} (h : INV M np) (hown : own M np) (hp : p < np) (h7 : M 7 p = nI l) (hl : l ≤ 3) (hb : b ≤ l) : INV (va_up (va_up (va_up (va_up (va_up M 1 co) 9 (yrD (M 9) p b b)) 6 (upd (M 6) p 1)) 11 (upd (M 11) p (nI o))) 12 (upd (M 12) p (M 0 0))) np ∧ own (va_up (va_up (va_up (va_up (va_up M 1 co) 9 (yrD (M 9) p b b)) 6 (upd (M 6) p 1)) 11 (upd (M 11) p (nI o))) 12 (upd (M 12) p (M 0 0))) np := by
  have hB := h.2.2.2.1 p hp
  have ho := hown p hp
  obtain ⟨y1, y2⟩ := yrD_at (Y := M 9) (p := p) (b := b) (by omega) (fun k k1 k2 => ((hB.2.2.2.2.2.2 l k h7 hl (by omega)).2 k1).2) b (Nat.le_refl _)
  refine ⟨⟨((((h.1.up _ (by decide) (by decide) (by decide) (by decide) (by decide)).up _ (by decide) (by decide) (by decide) (by decide) (by decide)).up _ (by decide) (by decide) (by decide) (by decide) (by decide)).up _ (by decide) (by decide) (by decide) (by decide) (by decide)).up _ (by decide) (by decide) (by decide) (by decide) (by decide), h.2.1.cg rfl rfl rfl, h.2.2.1, fun q hq => ?_, fun q hq => ?_⟩, fun q hq => ?_⟩
  · by_cases e : q = p
    · subst e
      obtain ⟨a, b', c, d, e, f, g⟩ := hB
      refine ⟨a, b', c, ?_, ?_, f, fun l' j l1 l2 l3 => ?_⟩
      · show upd (M 6) q 1 q = 0 ∨ upd (M 6) q 1 q = 1 ∨ _
        rw [upd_eq]; exact Or.inr (Or.inl rfl)
      · show (upd (M 6) q 1 q = 2 ∨ upd (M 6) q 1 q = 3) → _
        rw [upd_eq]; exact fun z => absurd z (by decide)
      · have l1 : M 7 q = nI l' := l1
        obtain rfl : l' = l := nI_inj (by omega) (by omega) (l1.symm.trans h7)
        obtain ⟨⟨yy, a1, a2, a3⟩, g2⟩ := g l' j h7 hl l3
        show (∃ y, 1 ≤ y ∧ y ≤ 99 ∧ yrD (M 9) q b b (4 * q + j) = nI y) ∧ (1 ≤ j → (∃ r, r ≤ 999 ∧ M 10 (4 * q + j) = nI r) ∧ yrD (M 9) q b b (4 * q + j) ≤ yrD (M 9) q b b (4 * q + (j - 1)))
        have val : ∀ i yy, i ≤ l' → yy ≤ 99 → M 9 (4 * q + i) = nI yy → yrD (M 9) q b b (4 * q + i) = nI (if 1 ≤ i ∧ i ≤ b then max yy 40 else yy) := fun i yy hi hy he => by
          by_cases c : 1 ≤ i ∧ i ≤ b
          · rw [if_pos c, y2 i (by omega) c.2, he, mx40 hy]
          · rw [if_neg c, y1 _ (by omega), he]
        refine ⟨⟨_, ?_, ?_, val j yy l3 a2 a3⟩, fun hj => ⟨(g2 hj).1, ?_⟩⟩
        · split <;> omega
        · split <;> omega
        · obtain ⟨⟨zz, z1, z2, z3⟩, -⟩ := g l' (j - 1) h7 hl (by omega)
          have ord := (g2 hj).2
          rw [a3, z3] at ord
          have ord := (nI_leI (by omega) (by omega)).mp ord
          rw [val j yy l3 a2 a3, val (j - 1) zz (by omega) z2 z3]
          refine nI_le ?_ (by split <;> omega)
          have h99 : j = 1 → zz = 99 := fun e => by
            subst e
            have : M 9 (4 * q + 0) = nI zz := z3
            have ho : nI 99 = nI zz := ho.symm.trans this
            exact (nI_inj (by omega) (by omega) ho).symm
          split <;> split <;> omega
    · refine (h.2.2.2.1 q hq).cg (fun k hk => ?_) (fun j hj => ⟨?_, rfl⟩)
      · by_cases c : k = 6
        · subst c; show upd (M 6) p 1 q = M 6 q; exact upd_ne e
        · rw [vn (by omega), vn (by omega), vn c, vn (by omega), vn (by omega)]
      · show yrD (M 9) p b b (4 * q + j) = M 9 (4 * q + j)
        exact y1 _ (by omega)
  · obtain ⟨a, b'⟩ := h.2.2.2.2 q hq
    refine ⟨?_, b'⟩
    show upd (M 6) p 1 q = 0
    rw [upd_ne (by omega)]; exact a
  · show yrD (M 9) p b b (4 * q) = 99
    by_cases e : q = p
    · subst e; rw [y1 _ (by omega)]; exact ho
    · rw [y1 _ (by omega)]; exact hown q hq
theorem INV.dec {p l b o : Nat} {P : Nat → Int32} (h : INV M np) (hown : own M np) (hp : p < np) (h7 : M 7 p = nI l) (hl : l ≤ 3) (hb : b ≤ l) (ho : o < 20) : INV (mDec M np p l b o P) np ∧ own (mDec M np p l b o P) np := by
  obtain ⟨h1, h2⟩ := INV.raise (o := o) (co := payC M p b o P (upd (M 1) o (M 1 o - cstM M p)) (l + 1)) h hown hp h7 hl hb
  refine ⟨(h1.wall ho).wall ho, fun q hq => ?_⟩
  show wallI (wallI _ _ _ o) _ _ o 9 (4 * q) = 99
  rw [wallI_9, wallI_9]
  exact h2 q hq
theorem INV.act {s n : Int32} (h : INV M np) (hown : own M np) (hn : 1 ≤ n ∧ n ≤ 40) : ∀ k, k ≤ np → INV (actM M s n k) np ∧ own (actM M s n k) np
  | 0, _ => ⟨h, hown⟩
  | k + 1, hk => by
    obtain ⟨i1, i2⟩ := INV.act (s := s) h hown hn k (by omega)
    show INV (actS (actM M s n k) s n k) np ∧ own (actS (actM M s n k) s n k) np
    generalize actM M s n k = K at *
    unfold actS
    split
    · split
      · have j1 : INV (actP K n k) np := (i1.up (by decide)).up (by decide)
        split
        · rename_i c
          refine ⟨⟨j1.1.up _ (by decide) (by decide) (by decide) (by decide) (by decide), j1.2.1.cg rfl rfl rfl, j1.2.2.1, fun q hq => ?_, j1.2.2.2.2⟩, i2⟩
          by_cases e : q = k
          · subst e
            obtain ⟨a, b, ⟨d, d1, d2, d3⟩, r⟩ := j1.2.2.2.1 q hq
            refine ⟨a, b, ?_, r⟩
            have d3 : K 5 q = nI d := d3
            obtain ⟨m, m1, m2⟩ := in_lit (n := 40) (by decide) (by omega) (Int32.le_trans (by decide) hn.1) hn.2
            have hm1 : 1 ≤ m := by
              rcases Nat.eq_zero_or_pos m with z | z
              · subst z; rw [m2] at hn; exact absurd hn.1 (by decide)
              · exact z
            rw [d3, m2] at c
            have e := pk_sub_toInt (a := d) (b := m) (by omega) (by omega)
            have e : (nI d - nI m).toInt = (d : Int) - m := e
            have c' := Int32.le_iff_toInt_le.mp c
            have e20 : (20 : Int32).toInt = 20 := by decide
            refine ⟨d - m, by omega, by omega, ?_⟩
            rw [vs, upd_eq, d3, m2, pk_sub (by omega)]
          · refine (j1.2.2.2.1 q hq).cg (fun j hj => ?_) (fun j hj => ⟨rfl, rfl⟩)
            by_cases z : j = 5
            · subst z; rw [vs, upd_ne e]; rfl
            · rw [vn z]
        · exact ⟨j1.ends (by omega) (Or.inr rfl), i2⟩
      · exact ⟨i1, i2⟩
    · exact ⟨i1, i2⟩
end KEPT2
