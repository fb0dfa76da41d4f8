/-! what is kept: new plots, years, the start -/
section KEPT3
variable {M M' : MS} {np : Nat}
theorem INV.plot {q o : Nat} {x y : Int32} (h : INV M np) (hown : own M np) (hn : np < 24) (hq : q < 6) (ho : o < 20) (hx : 10 ≤ x ∧ x ≤ 60) (hy : 20 ≤ y ∧ y ≤ 100) (h8 : onS M (nI q) np ≠ 8) : INV (mPlot M np (nI q) x y (nI o)) (np + 1) ∧ own (mPlot M np (nI q) x y (nI o)) (np + 1) := by
  have e3 : mPlot M np (nI q) x y (nI o) 3 = upd (M 3) np (nI q) := rfl
  have e8 : mPlot M np (nI q) x y (nI o) 8 = upd (M 8) (4 * np) (nI o) := rfl
  have e14 : mPlot M np (nI q) x y (nI o) 14 = upd (M 14) np (-1) := rfl
  obtain ⟨w1, w2, w3, w4, w5, w6⟩ := h.1
  obtain ⟨z6, z7⟩ := h.2.2.2.2 np (Nat.le_refl _)
  obtain ⟨fr, f1, f2⟩ := in_lit (n := 60) (by decide) (by omega) (Int32.le_trans (by decide) hx.1) hx.2
  obtain ⟨de, d1, d2⟩ := in_lit (n := 100) (by decide) (by omega) (Int32.le_trans (by decide) hy.1) hy.2
  have f10 : 10 ≤ fr := by rw [f2] at hx; exact (nI_leI (a := 10) (by omega) (by omega)).mp hx.1
  have d20 : 20 ≤ de := by rw [d2] at hy; exact (nI_leI (a := 20) (by omega) (by omega)).mp hy.1
  have hf : ∀ p, p < np + 1 → ∃ f, 10 ≤ f ∧ f ≤ 60 ∧ mPlot M np (nI q) x y (nI o) 4 p = nI f := fun p hp => by
    show ∃ f, 10 ≤ f ∧ f ≤ 60 ∧ upd (M 4) np x p = nI f
    by_cases e : p = np
    · subst e; rw [upd_eq]; exact ⟨fr, f10, f1, f2⟩
    · rw [upd_ne e]; exact (h.2.2.2.1 p (by omega)).2.1
  refine ⟨⟨⟨rfl, by omega, w3, fun i => ?_, fun i => ?_, w6⟩, ⟨fun p hp => ?_, h.2.1.2.1, fun s hs => ?_⟩, h.2.2.1, fun p hp => ?_, fun p hp => h.2.2.2.2 p (by omega)⟩, fun p hp => ?_⟩
  · rw [e8]
    by_cases e : i = 4 * np
    · subst e; rw [upd_eq]; exact ⟨o, ho, rfl⟩
    · rw [upd_ne e]; exact w4 i
  · rw [e14]
    by_cases e : i = np
    · subst e; rw [upd_eq]; exact Or.inl rfl
    · rw [upd_ne e]; exact w5 i
  · obtain ⟨f, a, b, c⟩ := hf p hp
    exact ⟨f, b, c⟩
  · rw [strL_s, strL_below (M := M) (nI s) (fun i hi => by rw [e3, upd_ne (by omega)]), e3, upd_eq]
    have h8' := h.2.1.2.2 s hs
    split
    · rename_i c
      have : q = s := nI_inj (by omega) (by omega) c
      subst this
      rw [List.length_append]
      rw [onS_len] at h8
      have : (strL M (nI q) np).length ≠ 8 := fun z => h8 (by rw [z]; rfl)
      show _ + 1 ≤ 8
      omega
    · exact h8'
  · by_cases e : p = np
    · subst e
      refine ⟨⟨q, hq, by rw [e3, upd_eq]⟩, hf p hp, ?_, Or.inl z6, fun _ => z7, Or.inl ?_, fun l j l1 l2 l3 => ?_⟩
      · show ∃ d, 20 ≤ d ∧ d ≤ 100 ∧ upd (M 5) p y p = nI d
        rw [upd_eq]; exact ⟨de, d20, d1, d2⟩
      · show upd (M 13) p (-1) p = -1
        exact upd_eq
      · have l1 : M 7 p = nI l := l1
        rw [z7] at l1
        have : l = 0 := (nI_inj (a := 0) (by omega) (by omega) l1).symm
        subst this
        have : j = 0 := by omega
        subst this
        refine ⟨⟨99, by omega, by omega, ?_⟩, fun z => absurd z (by omega)⟩
        show upd (M 9) (4 * p) 99 (4 * p + 0) = nI 99
        exact upd_eq
    · exact (h.2.2.2.1 p (by omega)).cg (fun k hk => mPlot_1 (by omega) (by omega) e) (fun j hj => ⟨mPlot_2 (by omega) (by omega) (by omega), mPlot_2 (by omega) (by omega) (by omega)⟩)
  · show upd (M 9) (4 * np) 99 (4 * p) = 99
    by_cases e : p = np
    · subst e; exact upd_eq
    · rw [upd_ne (by omega)]; exact hown p (by omega)
theorem INV.frf (h : INV M np) (hown : own M np) : ∀ k, k ≤ np → INV (frfM M k) np ∧ own (frfM M k) np
  | 0, _ => ⟨h, hown⟩
  | k + 1, hk => by
    obtain ⟨i1, i2⟩ := INV.frf h hown k (by omega)
    rw [frfM_s]
    split
    · exact ⟨i1.ends (by omega) (Or.inl rfl), i2⟩
    · exact ⟨i1, i2⟩
theorem INV.old {p l : Nat} (h : INV M np) (hown : own M np) (hp : p < np) (h7 : M 7 p = nI l) (hl : l ≤ 3) : INV (mOld M p l) np ∧ own (mOld M p l) np := by
  have e7 : mOld M p l 7 = upd (M 7) p (oldT (M 9) p l l) := rfl
  have e9 : mOld M p l 9 = oldY (M 9) p l l := rfl
  have eo : ∀ k, k ≠ 7 → k ≠ 9 → mOld M p l k = M k := fun k a b => by unfold mOld; rw [vn a, vn b]
  have hy := oldY_at (M 9) p l l (Nat.le_refl _)
  obtain ⟨m, n1, n2, n3, n4, n5⟩ := oldT_spec (M 9) p l hl l (Nat.le_refl _)
  refine ⟨⟨h.1.old hl, h.2.1.cg rfl rfl rfl, h.2.2.1, fun q hq => ?_, fun q hq => ?_⟩, fun q hq => ?_⟩
  · by_cases e : q = p
    · subst e
      obtain ⟨a, b, c, d, e, f, g⟩ := h.2.2.2.1 q hq
      refine ⟨a, b, c, d, fun z => ?_, f, fun l' j l1 l2 l3 => ?_⟩
      · rw [e7, upd_eq, n3]
        have : nI l = nI 0 := h7.symm.trans (e z)
        have : l = 0 := nI_inj (by omega) (by omega) this
        subst this
        rw [show m - 1 = 0 by omega]
        rfl
      · rw [e7, upd_eq, n3] at l1
        have hl' : m - 1 = l' := nI_inj (by omega) (by omega) l1
        have val : ∀ i yy, i < m → 1 ≤ yy → yy ≤ 99 → M 9 (4 * q + i) = nI yy → mOld M q l 9 (4 * q + i) = nI (if 1 ≤ i then yy - 1 else yy) ∧ (1 ≤ i → 2 ≤ yy) := fun i yy hi a1 a2 a3 => by
          rw [e9, hy]
          by_cases c : 1 ≤ i
          · rw [if_pos (show 4 * q + (l - l) < 4 * q + i ∧ 4 * q + i ≤ 4 * q + l by omega), if_pos c, a3, nI_1s a1 (by omega)]
            refine ⟨rfl, fun _ => ?_⟩
            have := n4 i (by omega) hi
            rw [a3, nI_1s a1 (by omega)] at this
            have : yy - 1 ≠ 0 := fun z => this (by rw [z]; rfl)
            omega
          · rw [if_neg (show ¬ (4 * q + (l - l) < 4 * q + i ∧ 4 * q + i ≤ 4 * q + l) by omega), if_neg c]
            exact ⟨a3, fun z => absurd z c⟩
        obtain ⟨⟨yy, a1, a2, a3⟩, g2⟩ := g l j h7 hl (by omega)
        obtain ⟨v1, v2⟩ := val j yy (by omega) a1 a2 a3
        refine ⟨⟨_, ?_, ?_, v1⟩, fun hj => ⟨(g2 hj).1, ?_⟩⟩
        · split
          · have := v2 (by assumption); omega
          · exact a1
        · split <;> omega
        · obtain ⟨⟨zz, z1, z2, z3⟩, -⟩ := g l (j - 1) h7 hl (by omega)
          obtain ⟨u1, u2⟩ := val (j - 1) zz (by omega) z1 z2 z3
          have ord := (g2 hj).2
          rw [a3, z3] at ord
          have ord := (nI_leI (by omega) (by omega)).mp ord
          rw [v1, u1]
          refine nI_le ?_ (by split <;> omega)
          split <;> split <;> omega
    · refine (h.2.2.2.1 q hq).cg (fun k hk => ?_) (fun j hj => ⟨?_, rfl⟩)
      · by_cases c7 : k = 7
        · subst c7; rw [e7, upd_ne e]
        · rw [eo k c7 (by omega)]
      · rw [e9, hy, if_neg (by omega)]
  · rw [e7, upd_ne (by omega)]
    exact h.2.2.2.2 q hq
  · rw [e9, hy, if_neg (by omega)]
    exact hown q hq
theorem INV.olds (h : INV M np) (hown : own M np) : ∀ k, k ≤ np → INV (oldM M k) np ∧ own (oldM M k) np
  | 0, _ => ⟨h, hown⟩
  | k + 1, hk => by
    obtain ⟨i1, i2⟩ := INV.olds h hown k (by omega)
    obtain ⟨l, l1, l2⟩ := i1.1.2.2.1 k
    show INV (mOld (oldM M k) k (hN (oldM M k 7 k))) np ∧ own (mOld (oldM M k) k (hN (oldM M k 7 k))) np
    rw [l2, hN_nI (by omega)]
    exact i1.old i2 (by omega) l2 l1
theorem wkM_money {nw m : Nat} (hm : M 22 0 = nI m) (hm2 : m < 1000000) (hw : ∀ w, w < nw → ∃ x, x ≤ 10000 ∧ M 20 w = nI x) : ∀ w, w ≤ nw → (∃ m', m' ≤ m ∧ wkM M w 22 0 = nI m') ∧ ∀ v, w ≤ v → wkM M w 20 v = M 20 v
  | 0, _ => ⟨⟨m, Nat.le_refl _, hm⟩, fun v _ => rfl⟩
  | w + 1, h => by
    obtain ⟨⟨m', a1, a2⟩, b⟩ := wkM_money hm hm2 hw w (by omega)
    obtain ⟨x, x1, x2⟩ := hw w (by omega)
    have e : goW (wkM M w) w = nI (min m' x) := by
      unfold goW
      rw [a2, b w (Nat.le_refl _), x2]
      by_cases c : m' ≤ x
      · rw [if_pos (nI_le c (by omega)), Nat.min_eq_left c]
      · rw [if_neg (fun z => c ((nI_leI (by omega) (by omega)).mp z)), Nat.min_eq_right (by omega)]
    refine ⟨⟨m' - min m' x, by omega, ?_⟩, fun v hv => ?_⟩
    · rw [wkM_s22, e, a2, pk_sub (Nat.min_le_left _ _)]
    · rw [wkM_s20, upd_ne (by omega)]; exact b v (by omega)
theorem INV.year {nw c : Nat} (h : INV M np) (hown : own M np) (hct : CtF M c nw) (h60 : ¬ M 0 0 = 60) : INV (mYear M np nw) np ∧ own (mYear M np nw) np := by
  obtain ⟨⟨y, y1, y2, mo, m1, m2⟩, g2, g3, tx, t1, t2⟩ := h.2.2.1
  have hy : y < 60 := by
    rcases Nat.lt_or_ge y 60 with z | z
    · exact z
    · exact absurd (by rw [y2, show y = 60 by omega]; rfl) h60
  have hw : ∀ w, w < nw → ∃ x, x ≤ 10000 ∧ M 20 w = nI x := fun w hw => by
    obtain ⟨a1, a2, a3, a4, a5⟩ := hct
    rcases Nat.lt_or_ge w c with z | z
    · exact ⟨0, by omega, a4 w z⟩
    · obtain ⟨u, u1, u2, u3⟩ := a5 w z hw; exact ⟨u, u2, u3⟩
  unfold mYear
  have key : ∀ Ma : MS, INV Ma np → own Ma np → (∀ k, k ≠ 6 → k ≠ 7 → Ma k = M k) → INV (va_up (oldM (wkM (va_up Ma 22 (fun _ => M 22 0 + M 21 0)) nw) np) 0 (fun _ => M 0 0 + 1)) np ∧ own (va_up (oldM (wkM (va_up Ma 22 (fun _ => M 22 0 + M 21 0)) nw) np) 0 (fun _ => M 0 0 + 1)) np := by
    intro Ma ha hoa hMa
    have mon : va_up Ma 22 (fun _ => M 22 0 + M 21 0) 22 0 = nI (mo + tx) := by rw [vs, m2, t2, nI_add]
    obtain ⟨⟨m', q1, q2⟩, -⟩ := wkM_money (M := va_up Ma 22 (fun _ => M 22 0 + M 21 0)) mon (by omega) (fun w hw' => by rw [vn (by decide), hMa 20 (by decide) (by decide)]; exact hw w hw') nw (Nat.le_refl _)
    have ek : ∀ k, k ≠ 20 → k ≠ 22 → wkM (va_up Ma 22 (fun _ => M 22 0 + M 21 0)) nw k = Ma k := fun k a b => by rw [wkM_k a b, vn b]
    have hW : WF (wkM (va_up Ma 22 (fun _ => M 22 0 + M 21 0)) nw) np := (ha.1.up _ (by decide) (by decide) (by decide) (by decide) (by decide)).wk nw
    -- with the year told ahead, so that the chest's bound holds
    have hI : INV (va_up (wkM (va_up Ma 22 (fun _ => M 22 0 + M 21 0)) nw) 0 (fun _ => M 0 0 + 1)) np := by
      refine ⟨hW.up _ (by decide) (by decide) (by decide) (by decide) (by decide), ha.2.1.cg ((vn (by decide)).trans (ek 3 (by decide) (by decide))) ((vn (by decide)).trans (ek 4 (by decide) (by decide))) ((vn (by decide)).trans (ek 24 (by decide) (by decide))), ⟨⟨y + 1, by omega, by rw [vs, y2, nI_1], m', by omega, by rw [vn (by decide)]; exact q2⟩, ?_, ?_, ?_⟩, fun p hp => (ha.2.2.2.1 p hp).cg (fun k hk => by rw [vn (by omega), ek k (by omega) (by omega)]) (fun j hj => ⟨by rw [vn (by decide), ek 9 (by decide) (by decide)], by rw [vn (by decide), ek 10 (by decide) (by decide)]⟩), fun p hp => by rw [vn (by decide), vn (by decide), ek 6 (by decide) (by decide), ek 7 (by decide) (by decide)]; exact ha.2.2.2.2 p hp⟩
      · rw [vn (by decide), ek 16 (by decide) (by decide)]; exact ha.2.2.1.2.1
      · rw [vn (by decide), ek 18 (by decide) (by decide)]; exact ha.2.2.1.2.2.1
      · rw [vn (by decide), ek 21 (by decide) (by decide)]; exact ha.2.2.1.2.2.2
    have hO : own (va_up (wkM (va_up Ma 22 (fun _ => M 22 0 + M 21 0)) nw) 0 (fun _ => M 0 0 + 1)) np := fun p hp => by rw [vn (by decide), ek 9 (by decide) (by decide)]; exact hoa p hp
    have com : ∀ (K : MS) (v : Nat → Int32) n, oldM (va_up K 0 v) n = va_up (oldM K n) 0 v := by
      intro K v n
      have cg := oldM_congr (M := K) (M' := va_up K 0 v) (vn (by decide)) (vn (by decide)) n
      funext k
      by_cases c7 : k = 7
      · subst c7; rw [cg.1, vn (by decide)]
      · by_cases c9 : k = 9
        · subst c9; rw [cg.2, vn (by decide)]
        · rw [oldM_k c9 c7]
          by_cases c0 : k = 0
          · subst c0; rw [vs, vs]
          · rw [vn c0, vn c0, oldM_k c9 c7]
    rw [← com]
    exact hI.olds hO np (Nat.le_refl _)
  split
  · obtain ⟨a, b⟩ := INV.frf h hown np (Nat.le_refl _)
    exact key _ a b (fun k x y => frfM_k x y np)
  · exact key M h hown (fun k _ _ => rfl)
theorem INV.zero : INV M0 0 ∧ own M0 0 := by
  have s24 : ∀ m j, stkF m j = -1 ∨ stkF m j = 0 := by
    intro m
    induction m with
    | zero => intro j; exact Or.inr rfl
    | succ m ih =>
      intro j
      show upd (stkF m) m (-1) j = -1 ∨ upd (stkF m) m (-1) j = 0
      by_cases e : j = m
      · subst e; rw [upd_eq]; exact Or.inl rfl
      · rw [upd_ne e]; exact ih j
  refine ⟨⟨⟨rfl, by omega, fun p => ⟨0, by omega, rfl⟩, fun p => ⟨0, by omega, rfl⟩, fun p => Or.inr ⟨0, by omega, rfl⟩, ⟨0, by omega, rfl⟩⟩, ⟨fun p hp => absurd hp (by omega), fun q => ?_, fun q _ => by show 0 ≤ 8; omega⟩, ⟨⟨0, by omega, rfl, 0, by omega, rfl⟩, ⟨2, by omega, by omega, rfl⟩, ⟨10, by omega, rfl⟩, ⟨0, by omega, rfl⟩⟩, fun p hp => absurd hp (by omega), fun p _ => ⟨rfl, rfl⟩⟩, fun p hp => absurd hp (by omega)⟩
  rcases s24 48 q with e | e
  · exact Or.inl e
  · exact Or.inr ⟨0, by omega, e⟩
end KEPT3
