/-! the component: the chest at a year's end -/
section CHEST
variable {M S : MS} {G : AHp} {kc ks np : Nat} {Q : Option Value → AHp → Prop}
theorem upd_id {f : Nat → Int32} {i : Nat} {v : Int32} (h : v = f i) : upd f i v = f := by
  funext j
  by_cases e : j = i
  · subst e; rw [upd_eq, h]
  · exact upd_ne e
theorem wkM_s20 (M : MS) (w : Nat) : wkM M (w + 1) 20 = upd (wkM M w 20) w (wkM M w 20 w - goW (wkM M w) w) := rfl
theorem wkM_s22 (M : MS) (w : Nat) : wkM M (w + 1) 22 0 = wkM M w 22 0 - goW (wkM M w) w := rfl
/-- works that are paid whole change nothing -/
theorem wkM_paid {c m : Nat} (hm : M 22 0 = nI m) (hm2 : m < 1000000) : ∀ w, w ≤ c → (∀ v, v < c → M 20 v = 0) → wkM M w 20 = M 20 ∧ wkM M w 22 0 = nI m
  | 0, _, _ => ⟨rfl, hm⟩
  | w + 1, hw, hz => by
    obtain ⟨h1, h2⟩ := wkM_paid hm hm2 w (by omega) hz
    have e : goW (wkM M w) w = 0 := by
      unfold goW
      rw [h1, h2, hz w (by omega)]
      split
      · rename_i q
        have : m ≤ 0 := (nI_leI (b := 0) (by omega) (by omega)).mp q
        have : m = 0 := by omega
        subst this
        rfl
      · rfl
    rw [wkM_s20, wkM_s22, e, h1, h2, Int32.sub_zero, Int32.sub_zero]
    exact ⟨upd_id rfl, rfl⟩
/-- an empty chest pays nothing -/
theorem wkM_empty {a : Nat} {nw : Nat} (h22 : wkM M a 22 0 = 0) : ∀ d, a + d ≤ nw → (∀ v, a ≤ v → v < nw → ∃ x, x ≤ 10000 ∧ wkM M a 20 v = nI x) → wkM M (a + d) 20 = wkM M a 20 ∧ wkM M (a + d) 22 0 = 0
  | 0, _, _ => ⟨rfl, h22⟩
  | d + 1, hd, hz => by
    obtain ⟨h1, h2⟩ := wkM_empty h22 d (by omega) hz
    have e : goW (wkM M (a + d)) (a + d) = 0 := by
      unfold goW
      obtain ⟨x, x1, x2⟩ := hz (a + d) (by omega) (by omega)
      rw [h1, h2, x2, if_pos (nI_pos' (by omega))]
    rw [← Nat.add_assoc, wkM_s20, wkM_s22, e, h1, h2, Int32.sub_zero, Int32.sub_zero]
    exact ⟨upd_id rfl, rfl⟩
theorem c_ct_endYear {c nw m t : Nat} {u : Nat → Int32} (h26 : G 26 = some (oB 4 [.ref 35, .int (nI nw), .int (nI c), .int (nI m), .int (nI t)])) (h35 : G 35 = some (aI 20 u)) (hu : ∀ w, c ≤ w → w < nw → u w = M 20 w) (hm : M 22 0 = nI (m + t)) (hmt : m + t < 1000000) (hF : nw ≤ 20 ∧ c ≤ nw ∧ (∀ w, w < c → M 20 w = 0) ∧ (∀ w, c ≤ w → w < nw → ∃ u, 1 ≤ u ∧ u ≤ 10000 ∧ M 20 w = nI u))
    (h : ∀ c' u', (∀ w, c' ≤ w → w < nw → u' w = wkM M nw 20 w) → (nw ≤ 20 ∧ c' ≤ nw ∧ (∀ w, w < c' → wkM M nw 20 w = 0) ∧ (∀ w, c' ≤ w → w < nw → ∃ u, 1 ≤ u ∧ u ≤ 10000 ∧ wkM M nw 20 w = nI u)) → (∃ m', m' ≤ m + t ∧ wkM M nw 22 0 = nI m') → Q none (up (up G 35 (aI 20 u')) 26 (oB 4 [.ref 35, .int (nI nw), .int (nI c'), .int (wkM M nw 22 0), .int (nI t)]))) : A 0 M_ct_endYear 0 [some (.ref 26)] [] G kc ks Q := by
  obtain ⟨f1, f2, f3, f4⟩ := hF
  have loop : ∀ (n c m' : Nat) (u : Nat → Int32), nw = c + n → m' ≤ m + t → wkM M c 22 0 = nI m' → (∀ w, c ≤ w → w < nw → u w = wkM M c 20 w) → (∀ w, w < c → wkM M c 20 w = 0) → (∀ w, c ≤ w → w < nw → ∃ u, 1 ≤ u ∧ u ≤ 10000 ∧ wkM M c 20 w = nI u) → A 0 M_ct_endYear 13 [some (.ref 26)] [] (up (up G 35 (aI 20 u)) 26 (oB 4 [.ref 35, .int (nI nw), .int (nI c), .int (nI m'), .int (nI t)])) kc ks Q := by
    intro n
    induction n with
    | zero =>
      intro c m' u e1 hm' e2 e3 e4 e5
      obtain rfl : nw = c := by omega
      rw [← e2]
      refine A.aload_k 0 rfl rfl rfl d_ct_endYear_13 ?_
      apply A.getfield f_ct_19 d_ct_endYear_14
      · first | exact up_s | exact up_e (by decide) up_s
      · rfl
      refine A.aload_k 0 rfl rfl rfl d_ct_endYear_17 ?_
      apply A.getfield f_ct_15 d_ct_endYear_18
      · first | exact up_s | exact up_e (by decide) up_s
      · rfl
      refine A.icmp_ge 71 (by decide) d_ct_endYear_21 (fun c21 => ?_) (fun c21 => ?_)
      · refine A.aload_k 0 rfl rfl rfl d_ct_endYear_71 ?_
        apply A.getfield f_ct_19 d_ct_endYear_72
        · first | exact up_s | exact up_e (by decide) up_s
        · rfl
        refine A.aload_k 0 rfl rfl rfl d_ct_endYear_75 ?_
        apply A.getfield f_ct_15 d_ct_endYear_76
        · first | exact up_s | exact up_e (by decide) up_s
        · rfl
        refine A.icmp_ge 103 (by decide) d_ct_endYear_79 (fun c79 => ?_) (fun c79 => ?_)
        · refine A.vret d_ct_endYear_103 rfl ?_
          exact h nw u e3 ⟨f1, Nat.le_refl _, e4, e5⟩ ⟨m', hm', e2⟩
        · exact absurd (nI_le (Nat.le_refl _) (by omega)) c79
      · exact absurd (nI_le (Nat.le_refl _) (by omega)) c21
    | succ n ih =>
      intro c m' u e1 hm' e2 e3 e4 e5
      obtain ⟨x, x1, x2, x3⟩ := e5 c (Nat.le_refl _) (by omega)
      have e6 : u c = nI x := (e3 c (Nat.le_refl _) (by omega)).trans x3
      by_cases hx : x ≤ m'
      · have eg : goW (wkM M c) c = nI x := by
          unfold goW
          rw [e2, x3]
          by_cases y : m' ≤ x
          · rw [if_pos (nI_le y (by omega))]; congr 1; omega
          · rw [if_neg (fun z => y ((nI_leI (by omega) (by omega)).mp z))]
        have ih := ih (c + 1) (m' - x) u (by omega) (by omega) (by rw [wkM_s22, eg, e2, pk_sub hx]) (fun w hc hw => by
          rw [wkM_s20, eg, upd_ne (by omega)]
          exact e3 w (by omega) hw) (fun w hw => by
          rw [wkM_s20, eg]
          by_cases y : w = c
          · subst y; rw [upd_eq, x3, Int32.sub_self]
          · rw [upd_ne y]; exact e4 w (by omega)) (fun w w1 w2 => by
          rw [wkM_s20, upd_ne (by omega)]
          exact e5 w (by omega) w2)
        refine A.aload_k 0 rfl rfl rfl d_ct_endYear_13 ?_
        apply A.getfield f_ct_19 d_ct_endYear_14
        · repeat first | exact up_s | refine up_e (by decide) ?_
        · rfl
        refine A.aload_k 0 rfl rfl rfl d_ct_endYear_17 ?_
        apply A.getfield f_ct_15 d_ct_endYear_18
        · repeat first | exact up_s | refine up_e (by decide) ?_
        · rfl
        refine A.icmp_ge 71 (by decide) d_ct_endYear_21 (fun c21 => ?_) (fun c21 => ?_)
        · exact absurd ((nI_leI (by omega) (by omega)).mp c21) (by omega)
        refine A.aload_k 0 rfl rfl rfl d_ct_endYear_24 ?_
        apply A.getfield f_ct_22 d_ct_endYear_25
        · repeat first | exact up_s | refine up_e (by decide) ?_
        · rfl
        refine A.aload_k 0 rfl rfl rfl d_ct_endYear_28 ?_
        apply A.getfield f_ct_9 d_ct_endYear_29
        · repeat first | exact up_s | refine up_e (by decide) ?_
        · rfl
        refine A.aload_k 0 rfl rfl rfl d_ct_endYear_32 ?_
        apply A.getfield f_ct_19 d_ct_endYear_33
        · repeat first | exact up_s | refine up_e (by decide) ?_
        · rfl
        apply A.iaload (j := c) d_ct_endYear_36
        · repeat first | exact up_s | refine up_e (by decide) ?_
        · exact ixn (by omega)
        · omega
        refine A.icmp_lt 71 (by decide) d_ct_endYear_37 (fun c37 => ?_) (fun c37 => ?_)
        · rw [e6] at c37
          exact absurd ((nI_ltI (by omega) (by omega)).mp c37) (by omega)
        refine A.aload_k 0 rfl rfl rfl d_ct_endYear_40 ?_
        refine A.dup rfl d_ct_endYear_41 ?_
        apply A.getfield f_ct_22 d_ct_endYear_42
        · repeat first | exact up_s | refine up_e (by decide) ?_
        · rfl
        refine A.aload_k 0 rfl rfl rfl d_ct_endYear_45 ?_
        apply A.getfield f_ct_9 d_ct_endYear_46
        · repeat first | exact up_s | refine up_e (by decide) ?_
        · rfl
        refine A.aload_k 0 rfl rfl rfl d_ct_endYear_49 ?_
        apply A.getfield f_ct_19 d_ct_endYear_50
        · repeat first | exact up_s | refine up_e (by decide) ?_
        · rfl
        apply A.iaload (j := c) d_ct_endYear_53
        · repeat first | exact up_s | refine up_e (by decide) ?_
        · exact ixn (by omega)
        · omega
        rw [e6]
        refine A.isub d_ct_endYear_54 ?_
        rw [pk_sub hx]
        apply A.putfield p_ct_22 d_ct_endYear_55
        · repeat first | exact up_s | refine up_e (by decide) ?_
        · exact (Nat.le_of_ble_eq_true rfl)
        · rfl
        dsimp only [List.set]
        refine A.aload_k 0 rfl rfl rfl d_ct_endYear_58 ?_
        refine A.dup rfl d_ct_endYear_59 ?_
        apply A.getfield f_ct_19 d_ct_endYear_60
        · repeat first | exact up_s | refine up_e (by decide) ?_
        · rfl
        refine A.iconst (v := 1) rfl d_ct_endYear_63 ?_
        refine A.iadd d_ct_endYear_64 ?_
        apply A.putfield p_ct_19 d_ct_endYear_65
        · repeat first | exact up_s | refine up_e (by decide) ?_
        · exact (Nat.le_of_ble_eq_true rfl)
        · rfl
        dsimp only [List.set]
        refine A.goto 13 (by decide) d_ct_endYear_68 ?_
        rw [nI_1]
        rw [up_up, up_up]
        exact ih
      · have eg : goW (wkM M c) c = nI m' := by
          unfold goW
          rw [e2, x3, if_pos (nI_le (by omega) (by omega))]
        have w22 : wkM M (c + 1) 22 0 = 0 := by rw [wkM_s22, eg, e2, Int32.sub_self]
        have w20 : wkM M (c + 1) 20 = upd (wkM M c 20) c (nI (x - m')) := by rw [wkM_s20, eg, x3, pk_sub (by omega)]
        obtain ⟨v1, v2⟩ := wkM_empty (nw := nw) w22 (nw - (c + 1)) (by omega) (fun v a b => by
          rw [w20, upd_ne (by omega)]
          obtain ⟨y, y1, y2, y3⟩ := e5 v (by omega) b
          exact ⟨y, y2, y3⟩)
        rw [show c + 1 + (nw - (c + 1)) = nw by omega] at v1 v2
        have h := h c (upd u c (nI (x - m'))) (fun w hc hw => by
          rw [v1, w20]
          by_cases y : w = c
          · subst y; rw [upd_eq, upd_eq]
          · rw [upd_ne y, upd_ne y]; exact e3 w hc hw) ⟨f1, by omega, fun w hw => by rw [v1, w20, upd_ne (by omega)]; exact e4 w hw, fun w a b => by
          rw [v1, w20]
          by_cases y : w = c
          · subst y; rw [upd_eq]; exact ⟨x - m', by omega, by omega, rfl⟩
          · rw [upd_ne y]; exact e5 w a b⟩ ⟨0, by omega, v2⟩
        rw [v2] at h
        refine A.aload_k 0 rfl rfl rfl d_ct_endYear_13 ?_
        apply A.getfield f_ct_19 d_ct_endYear_14
        · repeat first | exact up_s | refine up_e (by decide) ?_
        · rfl
        refine A.aload_k 0 rfl rfl rfl d_ct_endYear_17 ?_
        apply A.getfield f_ct_15 d_ct_endYear_18
        · repeat first | exact up_s | refine up_e (by decide) ?_
        · rfl
        refine A.icmp_ge 71 (by decide) d_ct_endYear_21 (fun c21 => ?_) (fun c21 => ?_)
        · exact absurd ((nI_leI (by omega) (by omega)).mp c21) (by omega)
        refine A.aload_k 0 rfl rfl rfl d_ct_endYear_24 ?_
        apply A.getfield f_ct_22 d_ct_endYear_25
        · repeat first | exact up_s | refine up_e (by decide) ?_
        · rfl
        refine A.aload_k 0 rfl rfl rfl d_ct_endYear_28 ?_
        apply A.getfield f_ct_9 d_ct_endYear_29
        · repeat first | exact up_s | refine up_e (by decide) ?_
        · rfl
        refine A.aload_k 0 rfl rfl rfl d_ct_endYear_32 ?_
        apply A.getfield f_ct_19 d_ct_endYear_33
        · repeat first | exact up_s | refine up_e (by decide) ?_
        · rfl
        apply A.iaload (j := c) d_ct_endYear_36
        · repeat first | exact up_s | refine up_e (by decide) ?_
        · exact ixn (by omega)
        · omega
        refine A.icmp_lt 71 (by decide) d_ct_endYear_37 (fun c37 => ?_) (fun c37 => ?_)
        · refine A.aload_k 0 rfl rfl rfl d_ct_endYear_71 ?_
          apply A.getfield f_ct_19 d_ct_endYear_72
          · repeat first | exact up_s | refine up_e (by decide) ?_
          · rfl
          refine A.aload_k 0 rfl rfl rfl d_ct_endYear_75 ?_
          apply A.getfield f_ct_15 d_ct_endYear_76
          · repeat first | exact up_s | refine up_e (by decide) ?_
          · rfl
          refine A.icmp_ge 103 (by decide) d_ct_endYear_79 (fun c79 => ?_) (fun c79 => ?_)
          · exact absurd ((nI_leI (by omega) (by omega)).mp c79) (by omega)
          refine A.aload_k 0 rfl rfl rfl d_ct_endYear_82 ?_
          apply A.getfield f_ct_9 d_ct_endYear_83
          · repeat first | exact up_s | refine up_e (by decide) ?_
          · rfl
          refine A.aload_k 0 rfl rfl rfl d_ct_endYear_86 ?_
          apply A.getfield f_ct_19 d_ct_endYear_87
          · repeat first | exact up_s | refine up_e (by decide) ?_
          · rfl
          refine A.dup2 rfl rfl d_ct_endYear_90 ?_
          apply A.iaload (j := c) d_ct_endYear_91
          · repeat first | exact up_s | refine up_e (by decide) ?_
          · exact ixn (by omega)
          · omega
          rw [e6]
          refine A.aload_k 0 rfl rfl rfl d_ct_endYear_92 ?_
          apply A.getfield f_ct_22 d_ct_endYear_93
          · repeat first | exact up_s | refine up_e (by decide) ?_
          · rfl
          refine A.isub d_ct_endYear_96 ?_
          rw [pk_sub (by omega)]
          apply A.iastore (j := c) d_ct_endYear_97
          · repeat first | exact up_s | refine up_e (by decide) ?_
          · first | decide | omega
          · exact ixn (by omega)
          · omega
          refine A.aload_k 0 rfl rfl rfl d_ct_endYear_98 ?_
          refine A.iconst (v := 0) rfl d_ct_endYear_99 ?_
          apply A.putfield p_ct_22 d_ct_endYear_100
          · repeat first | exact up_s | refine up_e (by decide) ?_
          · exact (Nat.le_of_ble_eq_true rfl)
          · rfl
          dsimp only [List.set]
          refine A.vret d_ct_endYear_103 rfl ?_
          rw [up_swap (a := 26) (b := 35) (by decide), up_up, up_up]
          exact h
        · rw [e6] at c37
          exact absurd ((nI_ltI (by omega) (by omega)).mpr (by omega)) c37
  obtain ⟨p1, p2⟩ := wkM_paid hm hmt c (Nat.le_refl _) f3
  have e := loop (nw - c) c (m + t) u (by omega) (Nat.le_refl _) p2 (fun w hc hw => by rw [p1]; exact hu w hc hw) (fun w hw => by rw [p1]; exact f3 w hw) (fun w a b => by rw [p1]; exact f4 w a b)
  refine A.aload_k 0 rfl rfl rfl d_ct_endYear_0 ?_
  refine A.dup rfl d_ct_endYear_1 ?_
  apply A.getfield f_ct_22 d_ct_endYear_2
  · exact h26
  · rfl
  refine A.aload_k 0 rfl rfl rfl d_ct_endYear_5 ?_
  apply A.getfield f_ct_25 d_ct_endYear_6
  · exact h26
  · rfl
  refine A.iadd d_ct_endYear_9 ?_
  apply A.putfield p_ct_22 d_ct_endYear_10
  · exact h26
  · exact (Nat.le_of_ble_eq_true rfl)
  · rfl
  dsimp only [List.set]
  rw [nI_add]
  rw [up_id h35] at e
  exact e
end CHEST
